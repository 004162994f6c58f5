section
-- ===== PART A: goes FIRST, ahead of the names: the tables' words, and 'selects' of the private methods out of them =====
/-- a private method of a class that the tables say can be made, by its rows of tables_1 -/
def lw_okq (q : MethodName × Nat) : Prop := (q.1.cls ≠ "java/lang/invoke/MethodHandle" ∧ q.1.cls ≠ "java/lang/invoke/VarHandle") ∧ Cond.instantiable q.1.cls q.2 ∈ tables_1 ∧ Cond.privateMethod q.1 ∈ tables_1 ∧ Cond.instanceMethod q.1 ∈ tables_1
theorem lw_p0 : lw_okq (⟨"AlarmTables", "findCounter", "(I)LAlarmTables$Counter;"⟩, 8) := ⟨⟨by decide +kernel, by decide +kernel⟩, List.mem_of_getElem? (i := 16) (by decide +kernel), List.mem_of_getElem? (i := 78) (by decide +kernel), List.mem_of_getElem? (i := 79) (by decide +kernel)⟩
theorem lw_p1 : lw_okq (⟨"AlarmTables", "isUnknownFor", "(II)Z"⟩, 8) := ⟨⟨by decide +kernel, by decide +kernel⟩, List.mem_of_getElem? (i := 16) (by decide +kernel), List.mem_of_getElem? (i := 82) (by decide +kernel), List.mem_of_getElem? (i := 83) (by decide +kernel)⟩
theorem lw_p2 : lw_okq (⟨"AlarmTables", "findAlarm", "(I)LAlarmTables$Alarm;"⟩, 8) := ⟨⟨by decide +kernel, by decide +kernel⟩, List.mem_of_getElem? (i := 16) (by decide +kernel), List.mem_of_getElem? (i := 86) (by decide +kernel), List.mem_of_getElem? (i := 87) (by decide +kernel)⟩
theorem lw_p3 : lw_okq (⟨"AlarmTables", "link", "(LAlarmTables$Counter;LAlarmTables$Counter;)V"⟩, 8) := ⟨⟨by decide +kernel, by decide +kernel⟩, List.mem_of_getElem? (i := 16) (by decide +kernel), List.mem_of_getElem? (i := 144) (by decide +kernel), List.mem_of_getElem? (i := 145) (by decide +kernel)⟩
theorem lw_p4 : lw_okq (⟨"AlarmTables", "findTable", "(I)LAlarmTables$Table;"⟩, 8) := ⟨⟨by decide +kernel, by decide +kernel⟩, List.mem_of_getElem? (i := 16) (by decide +kernel), List.mem_of_getElem? (i := 238) (by decide +kernel), List.mem_of_getElem? (i := 239) (by decide +kernel)⟩
theorem lw_p5 : lw_okq (⟨"AlarmTables", "makeStep", "(LAlarmTables$Counter;I)V"⟩, 8) := ⟨⟨by decide +kernel, by decide +kernel⟩, List.mem_of_getElem? (i := 16) (by decide +kernel), List.mem_of_getElem? (i := 299) (by decide +kernel), List.mem_of_getElem? (i := 300) (by decide +kernel)⟩
theorem lw_p6 : lw_okq (⟨"AlarmTables", "takeAlarmTurn", "(LAlarmTables$Alarm;I)V"⟩, 8) := ⟨⟨by decide +kernel, by decide +kernel⟩, List.mem_of_getElem? (i := 16) (by decide +kernel), List.mem_of_getElem? (i := 308) (by decide +kernel), List.mem_of_getElem? (i := 309) (by decide +kernel)⟩
theorem lw_p7 : lw_okq (⟨"AlarmTables", "perform", "(LAlarmTables$Act;I)V"⟩, 8) := ⟨⟨by decide +kernel, by decide +kernel⟩, List.mem_of_getElem? (i := 16) (by decide +kernel), List.mem_of_getElem? (i := 331) (by decide +kernel), List.mem_of_getElem? (i := 332) (by decide +kernel)⟩
theorem lw_p8 : lw_okq (⟨"AlarmTables", "takeTableTurn", "(LAlarmTables$Table;I)V"⟩, 8) := ⟨⟨by decide +kernel, by decide +kernel⟩, List.mem_of_getElem? (i := 16) (by decide +kernel), List.mem_of_getElem? (i := 335) (by decide +kernel), List.mem_of_getElem? (i := 336) (by decide +kernel)⟩
theorem lw_p9 : lw_okq (⟨"AlarmTables", "goThrough", "(LAlarmTables$Table;I)LAlarmTables$Table;"⟩, 8) := ⟨⟨by decide +kernel, by decide +kernel⟩, List.mem_of_getElem? (i := 16) (by decide +kernel), List.mem_of_getElem? (i := 339) (by decide +kernel), List.mem_of_getElem? (i := 340) (by decide +kernel)⟩
theorem lw_p10 : lw_okq (⟨"AlarmTables", "giveOver", "(LAlarmTables$Table;)LAlarmTables$Table;"⟩, 8) := ⟨⟨by decide +kernel, by decide +kernel⟩, List.mem_of_getElem? (i := 16) (by decide +kernel), List.mem_of_getElem? (i := 354) (by decide +kernel), List.mem_of_getElem? (i := 355) (by decide +kernel)⟩
theorem lw_p11 : lw_okq (⟨"java/lang/Throwable", "fillInStackTrace", "(I)Ljava/lang/Throwable;"⟩, 6) := ⟨⟨by decide +kernel, by decide +kernel⟩, List.mem_of_getElem? (i := 419) (by decide +kernel), List.mem_of_getElem? (i := 417) (by decide +kernel), List.mem_of_getElem? (i := 418) (by decide +kernel)⟩
theorem lw_p12 : lw_okq (⟨"AlarmTablesModel", "no", "(I)Z"⟩, 35) := ⟨⟨by decide +kernel, by decide +kernel⟩, List.mem_of_getElem? (i := 502) (by decide +kernel), List.mem_of_getElem? (i := 630) (by decide +kernel), List.mem_of_getElem? (i := 631) (by decide +kernel)⟩
theorem lw_p13 : lw_okq (⟨"AlarmTablesModel", "noAlarm", "(I)Z"⟩, 35) := ⟨⟨by decide +kernel, by decide +kernel⟩, List.mem_of_getElem? (i := 502) (by decide +kernel), List.mem_of_getElem? (i := 634) (by decide +kernel), List.mem_of_getElem? (i := 635) (by decide +kernel)⟩
theorem lw_p14 : lw_okq (⟨"AlarmTablesModel", "leadsTo", "(II)Z"⟩, 35) := ⟨⟨by decide +kernel, by decide +kernel⟩, List.mem_of_getElem? (i := 502) (by decide +kernel), List.mem_of_getElem? (i := 638) (by decide +kernel), List.mem_of_getElem? (i := 639) (by decide +kernel)⟩
theorem lw_p15 : lw_okq (⟨"AlarmTablesModel", "noTable", "(I)Z"⟩, 35) := ⟨⟨by decide +kernel, by decide +kernel⟩, List.mem_of_getElem? (i := 502) (by decide +kernel), List.mem_of_getElem? (i := 660) (by decide +kernel), List.mem_of_getElem? (i := 661) (by decide +kernel)⟩
def lw_privs_1 : List (MethodName × Nat) := [(⟨"AlarmTables", "findCounter", "(I)LAlarmTables$Counter;"⟩, 8), (⟨"AlarmTables", "isUnknownFor", "(II)Z"⟩, 8), (⟨"AlarmTables", "findAlarm", "(I)LAlarmTables$Alarm;"⟩, 8), (⟨"AlarmTables", "link", "(LAlarmTables$Counter;LAlarmTables$Counter;)V"⟩, 8), (⟨"AlarmTables", "findTable", "(I)LAlarmTables$Table;"⟩, 8), (⟨"AlarmTables", "makeStep", "(LAlarmTables$Counter;I)V"⟩, 8), (⟨"AlarmTables", "takeAlarmTurn", "(LAlarmTables$Alarm;I)V"⟩, 8), (⟨"AlarmTables", "perform", "(LAlarmTables$Act;I)V"⟩, 8), (⟨"AlarmTables", "takeTableTurn", "(LAlarmTables$Table;I)V"⟩, 8), (⟨"AlarmTables", "goThrough", "(LAlarmTables$Table;I)LAlarmTables$Table;"⟩, 8), (⟨"AlarmTables", "giveOver", "(LAlarmTables$Table;)LAlarmTables$Table;"⟩, 8), (⟨"java/lang/Throwable", "fillInStackTrace", "(I)Ljava/lang/Throwable;"⟩, 6), (⟨"AlarmTablesModel", "no", "(I)Z"⟩, 35), (⟨"AlarmTablesModel", "noAlarm", "(I)Z"⟩, 35), (⟨"AlarmTablesModel", "leadsTo", "(II)Z"⟩, 35), (⟨"AlarmTablesModel", "noTable", "(I)Z"⟩, 35)]
theorem lw_r1 : ∀ q ∈ lw_privs_1, lw_okq q := List.forall_mem_cons.mpr ⟨lw_p0, List.forall_mem_cons.mpr ⟨lw_p1, List.forall_mem_cons.mpr ⟨lw_p2, List.forall_mem_cons.mpr ⟨lw_p3, List.forall_mem_cons.mpr ⟨lw_p4, List.forall_mem_cons.mpr ⟨lw_p5, List.forall_mem_cons.mpr ⟨lw_p6, List.forall_mem_cons.mpr ⟨lw_p7, List.forall_mem_cons.mpr ⟨lw_p8, List.forall_mem_cons.mpr ⟨lw_p9, List.forall_mem_cons.mpr ⟨lw_p10, List.forall_mem_cons.mpr ⟨lw_p11, List.forall_mem_cons.mpr ⟨lw_p12, List.forall_mem_cons.mpr ⟨lw_p13, List.forall_mem_cons.mpr ⟨lw_p14, List.forall_mem_cons.mpr ⟨lw_p15, fun _ h => absurd h List.not_mem_nil⟩⟩⟩⟩⟩⟩⟩⟩⟩⟩⟩⟩⟩⟩⟩⟩
theorem lw_p16 : lw_okq (⟨"AlarmTablesModel", "makeStep", "(I)V"⟩, 35) := ⟨⟨by decide +kernel, by decide +kernel⟩, List.mem_of_getElem? (i := 502) (by decide +kernel), List.mem_of_getElem? (i := 685) (by decide +kernel), List.mem_of_getElem? (i := 686) (by decide +kernel)⟩
theorem lw_p17 : lw_okq (⟨"AlarmTablesModel", "go", "()V"⟩, 35) := ⟨⟨by decide +kernel, by decide +kernel⟩, List.mem_of_getElem? (i := 502) (by decide +kernel), List.mem_of_getElem? (i := 689) (by decide +kernel), List.mem_of_getElem? (i := 690) (by decide +kernel)⟩
theorem lw_p18 : lw_okq (⟨"AlarmTablesModel", "goTable", "(II)V"⟩, 35) := ⟨⟨by decide +kernel, by decide +kernel⟩, List.mem_of_getElem? (i := 502) (by decide +kernel), List.mem_of_getElem? (i := 693) (by decide +kernel), List.mem_of_getElem? (i := 694) (by decide +kernel)⟩
theorem lw_p19 : lw_okq (⟨"AlarmTablesModel", "tableGoes", "(I)I"⟩, 35) := ⟨⟨by decide +kernel, by decide +kernel⟩, List.mem_of_getElem? (i := 502) (by decide +kernel), List.mem_of_getElem? (i := 697) (by decide +kernel), List.mem_of_getElem? (i := 698) (by decide +kernel)⟩
theorem lw_p20 : lw_okq (⟨"AlarmTablesModel", "goOn", "(IJ)Z"⟩, 35) := ⟨⟨by decide +kernel, by decide +kernel⟩, List.mem_of_getElem? (i := 502) (by decide +kernel), List.mem_of_getElem? (i := 701) (by decide +kernel), List.mem_of_getElem? (i := 702) (by decide +kernel)⟩
theorem lw_p21 : lw_okq (⟨"AlarmTablesModel", "note", "(IIJI)V"⟩, 35) := ⟨⟨by decide +kernel, by decide +kernel⟩, List.mem_of_getElem? (i := 502) (by decide +kernel), List.mem_of_getElem? (i := 706) (by decide +kernel), List.mem_of_getElem? (i := 707) (by decide +kernel)⟩
theorem lw_p22 : lw_okq (⟨"AlarmTablesModel", "byAct", "(I)V"⟩, 35) := ⟨⟨by decide +kernel, by decide +kernel⟩, List.mem_of_getElem? (i := 502) (by decide +kernel), List.mem_of_getElem? (i := 710) (by decide +kernel), List.mem_of_getElem? (i := 711) (by decide +kernel)⟩
theorem lw_p23 : lw_okq (⟨"AlarmTablesModel", "goAlarm", "(I)V"⟩, 35) := ⟨⟨by decide +kernel, by decide +kernel⟩, List.mem_of_getElem? (i := 502) (by decide +kernel), List.mem_of_getElem? (i := 714) (by decide +kernel), List.mem_of_getElem? (i := 715) (by decide +kernel)⟩
def lw_privs_2 : List (MethodName × Nat) := [(⟨"AlarmTablesModel", "makeStep", "(I)V"⟩, 35), (⟨"AlarmTablesModel", "go", "()V"⟩, 35), (⟨"AlarmTablesModel", "goTable", "(II)V"⟩, 35), (⟨"AlarmTablesModel", "tableGoes", "(I)I"⟩, 35), (⟨"AlarmTablesModel", "goOn", "(IJ)Z"⟩, 35), (⟨"AlarmTablesModel", "note", "(IIJI)V"⟩, 35), (⟨"AlarmTablesModel", "byAct", "(I)V"⟩, 35), (⟨"AlarmTablesModel", "goAlarm", "(I)V"⟩, 35)]
theorem lw_r2 : ∀ q ∈ lw_privs_2, lw_okq q := List.forall_mem_cons.mpr ⟨lw_p16, List.forall_mem_cons.mpr ⟨lw_p17, List.forall_mem_cons.mpr ⟨lw_p18, List.forall_mem_cons.mpr ⟨lw_p19, List.forall_mem_cons.mpr ⟨lw_p20, List.forall_mem_cons.mpr ⟨lw_p21, List.forall_mem_cons.mpr ⟨lw_p22, List.forall_mem_cons.mpr ⟨lw_p23, fun _ h => absurd h List.not_mem_nil⟩⟩⟩⟩⟩⟩⟩⟩
def lw_privs : List (MethodName × Nat) := lw_privs_1 ++ (lw_privs_2)
def lw_tbl : List Cond := k2_sels lw_privs ++ tables_1
theorem lw_privs_ok : ∀ q ∈ lw_privs, lw_okq q := by
  show ∀ q ∈ lw_privs_1 ++ (lw_privs_2), lw_okq q
  exact List.forall_mem_append.mpr ⟨lw_r1, lw_r2⟩
/-- the words that stay good along a run -/
def wT : List Cond := lw_tbl.filter goodWord
theorem wT_in {w : Cond} (i : Nat) (h : lw_tbl[i]? = some w) (g : goodWord w = true) : w ∈ wT := List.mem_filter.mpr ⟨List.mem_of_getElem? h, g⟩
def RAct : String := "AlarmTables$Act"
def TAct : u_T := fun k => match k with
  | 0 => ("AlarmTables$Act", "stepped", "LAlarmTables$Counter;", true)
  | _ => ("AlarmTables$Act", "cancelled", "LAlarmTables$Alarm;", true)
def tyAct : Nat → FieldType := fun k => match k with
  | 0 => .object "AlarmTables$Counter"
  | _ => .object "AlarmTables$Alarm"
theorem nmAct : ∀ a, a < 2 → ∀ b, b < 2 → a ≠ b → (TAct a).2.1 ≠ (TAct b).2.1 := by decide +kernel
theorem tyAct_ok : ∀ k, k < 2 → parseFieldDescriptor (TAct k).2.2.1 = some (tyAct k) := by decide +kernel
def RAlarm : String := "AlarmTables$Alarm"
def TAlarm : u_T := fun k => match k with
  | 0 => ("AlarmTables$Alarm", "number", "I", true)
  | 1 => ("AlarmTables$Alarm", "counter", "LAlarmTables$Counter;", true)
  | 2 => ("AlarmTables$Alarm", "act", "LAlarmTables$Act;", true)
  | 3 => ("AlarmTables$Alarm", "isSet", "Z", false)
  | 4 => ("AlarmTables$Alarm", "due", "J", false)
  | 5 => ("AlarmTables$Alarm", "cycle", "J", false)
  | _ => ("AlarmTables$Alarm", "behind", "LAlarmTables$Alarm;", false)
def tyAlarm : Nat → FieldType := fun k => match k with
  | 0 => .int
  | 1 => .object "AlarmTables$Counter"
  | 2 => .object "AlarmTables$Act"
  | 3 => .boolean
  | 4 => .long
  | 5 => .long
  | _ => .object "AlarmTables$Alarm"
theorem nmAlarm : ∀ a, a < 7 → ∀ b, b < 7 → a ≠ b → (TAlarm a).2.1 ≠ (TAlarm b).2.1 := by decide +kernel
theorem tyAlarm_ok : ∀ k, k < 7 → parseFieldDescriptor (TAlarm k).2.2.1 = some (tyAlarm k) := by decide +kernel
def RCounter : String := "AlarmTables$Counter"
def TCounter : u_T := fun k => match k with
  | 0 => ("AlarmTables$Counter", "bit", "I", true)
  | 1 => ("AlarmTables$Counter", "base", "J", true)
  | 2 => ("AlarmTables$Counter", "ticksAStep", "J", true)
  | 3 => ("AlarmTables$Counter", "ticksKept", "J", false)
  | 4 => ("AlarmTables$Counter", "value", "J", false)
  | 5 => ("AlarmTables$Counter", "steps", "J", false)
  | 6 => ("AlarmTables$Counter", "wake", "J", false)
  | 7 => ("AlarmTables$Counter", "leadsTo", "I", false)
  | 8 => ("AlarmTables$Counter", "firstAlarm", "LAlarmTables$Alarm;", false)
  | 9 => ("AlarmTables$Counter", "lastAlarm", "LAlarmTables$Alarm;", false)
  | 10 => ("AlarmTables$Counter", "firstTable", "LAlarmTables$Table;", false)
  | _ => ("AlarmTables$Counter", "lastTable", "LAlarmTables$Table;", false)
def tyCounter : Nat → FieldType := fun k => match k with
  | 0 => .int
  | 1 => .long
  | 2 => .long
  | 3 => .long
  | 4 => .long
  | 5 => .long
  | 6 => .long
  | 7 => .int
  | 8 => .object "AlarmTables$Alarm"
  | 9 => .object "AlarmTables$Alarm"
  | 10 => .object "AlarmTables$Table"
  | _ => .object "AlarmTables$Table"
theorem nmCounter : ∀ a, a < 12 → ∀ b, b < 12 → a ≠ b → (TCounter a).2.1 ≠ (TCounter b).2.1 := by decide +kernel
theorem tyCounter_ok : ∀ k, k < 12 → parseFieldDescriptor (TCounter k).2.2.1 = some (tyCounter k) := by decide +kernel
def RNotes : String := "AlarmTables$Notes"
def TNotes : u_T := fun k => match k with
  | 0 => ("AlarmTables$Notes", "pages", "[LAlarmTables$Page;", true)
  | 1 => ("AlarmTables$Notes", "kept", "I", false)
  | _ => ("AlarmTables$Notes", "total", "I", false)
def tyNotes : Nat → FieldType := fun k => match k with
  | 0 => .array (.object "AlarmTables$Page")
  | 1 => .int
  | _ => .int
theorem nmNotes : ∀ a, a < 3 → ∀ b, b < 3 → a ≠ b → (TNotes a).2.1 ≠ (TNotes b).2.1 := by decide +kernel
theorem tyNotes_ok : ∀ k, k < 3 → parseFieldDescriptor (TNotes k).2.2.1 = some (tyNotes k) := by decide +kernel
def RPage : String := "AlarmTables$Page"
def TPage : u_T := fun k => match k with
  | _ => ("AlarmTables$Page", "cells", "[I", true)
def tyPage : Nat → FieldType := fun k => match k with
  | _ => .array .int
theorem nmPage : ∀ a, a < 1 → ∀ b, b < 1 → a ≠ b → (TPage a).2.1 ≠ (TPage b).2.1 := by decide +kernel
theorem tyPage_ok : ∀ k, k < 1 → parseFieldDescriptor (TPage k).2.2.1 = some (tyPage k) := by decide +kernel
def RPoint : String := "AlarmTables$Point"
def TPoint : u_T := fun k => match k with
  | 0 => ("AlarmTables$Point", "offset", "J", true)
  | 1 => ("AlarmTables$Point", "act", "LAlarmTables$Act;", true)
  | _ => ("AlarmTables$Point", "behind", "LAlarmTables$Point;", false)
def tyPoint : Nat → FieldType := fun k => match k with
  | 0 => .long
  | 1 => .object "AlarmTables$Act"
  | _ => .object "AlarmTables$Point"
theorem nmPoint : ∀ a, a < 3 → ∀ b, b < 3 → a ≠ b → (TPoint a).2.1 ≠ (TPoint b).2.1 := by decide +kernel
theorem tyPoint_ok : ∀ k, k < 3 → parseFieldDescriptor (TPoint k).2.2.1 = some (tyPoint k) := by decide +kernel
def RTable : String := "AlarmTables$Table"
def TTable : u_T := fun k => match k with
  | 0 => ("AlarmTables$Table", "number", "I", true)
  | 1 => ("AlarmTables$Table", "counter", "LAlarmTables$Counter;", true)
  | 2 => ("AlarmTables$Table", "length", "J", true)
  | 3 => ("AlarmTables$Table", "firstPoint", "LAlarmTables$Point;", false)
  | 4 => ("AlarmTables$Table", "pointCount", "I", false)
  | 5 => ("AlarmTables$Table", "runs", "Z", false)
  | 6 => ("AlarmTables$Table", "begun", "Z", false)
  | 7 => ("AlarmTables$Table", "due", "J", false)
  | 8 => ("AlarmTables$Table", "coming", "LAlarmTables$Point;", false)
  | 9 => ("AlarmTables$Table", "drift", "J", false)
  | 10 => ("AlarmTables$Table", "told", "LAlarmTables$Table;", false)
  | _ => ("AlarmTables$Table", "behind", "LAlarmTables$Table;", false)
def tyTable : Nat → FieldType := fun k => match k with
  | 0 => .int
  | 1 => .object "AlarmTables$Counter"
  | 2 => .long
  | 3 => .object "AlarmTables$Point"
  | 4 => .int
  | 5 => .boolean
  | 6 => .boolean
  | 7 => .long
  | 8 => .object "AlarmTables$Point"
  | 9 => .long
  | 10 => .object "AlarmTables$Table"
  | _ => .object "AlarmTables$Table"
theorem nmTable : ∀ a, a < 12 → ∀ b, b < 12 → a ≠ b → (TTable a).2.1 ≠ (TTable b).2.1 := by decide +kernel
theorem tyTable_ok : ∀ k, k < 12 → parseFieldDescriptor (TTable k).2.2.1 = some (tyTable k) := by decide +kernel
def RAT : String := "AlarmTables"
def TAT : u_T := fun k => match k with
  | 0 => ("AlarmTables", "counters", "[LAlarmTables$Counter;", true)
  | 1 => ("AlarmTables", "alarms", "[LAlarmTables$Alarm;", true)
  | 2 => ("AlarmTables", "tables", "[LAlarmTables$Table;", true)
  | 3 => ("AlarmTables", "notes", "LAlarmTables$Notes;", true)
  | 4 => ("AlarmTables", "counterCount", "I", false)
  | 5 => ("AlarmTables", "alarmCount", "I", false)
  | 6 => ("AlarmTables", "tableCount", "I", false)
  | _ => ("AlarmTables", "actSteps", "I", false)
def tyAT : Nat → FieldType := fun k => match k with
  | 0 => .array (.object "AlarmTables$Counter")
  | 1 => .array (.object "AlarmTables$Alarm")
  | 2 => .array (.object "AlarmTables$Table")
  | 3 => .object "AlarmTables$Notes"
  | 4 => .int
  | 5 => .int
  | 6 => .int
  | _ => .int
theorem nmAT : ∀ a, a < 8 → ∀ b, b < 8 → a ≠ b → (TAT a).2.1 ≠ (TAT b).2.1 := by decide +kernel
theorem tyAT_ok : ∀ k, k < 8 → parseFieldDescriptor (TAT k).2.2.1 = some (tyAT k) := by decide +kernel
def RMod : String := "AlarmTablesModel"
def TMod : u_T := fun k => match k with
  | 0 => ("AlarmTablesModel", "code", "I", false)
  | 1 => ("AlarmTablesModel", "counters", "I", false)
  | 2 => ("AlarmTablesModel", "base", "[J", true)
  | 3 => ("AlarmTablesModel", "ticks", "[J", true)
  | 4 => ("AlarmTablesModel", "rest", "[J", true)
  | 5 => ("AlarmTablesModel", "steps", "[J", true)
  | 6 => ("AlarmTablesModel", "leads", "[Z", true)
  | 7 => ("AlarmTablesModel", "seen", "[Z", true)
  | 8 => ("AlarmTablesModel", "alarms", "I", false)
  | 9 => ("AlarmTablesModel", "alarmOn", "[I", true)
  | 10 => ("AlarmTablesModel", "alarmAct", "[I", true)
  | 11 => ("AlarmTablesModel", "alarmOf", "[I", true)
  | 12 => ("AlarmTablesModel", "isSet", "[Z", true)
  | 13 => ("AlarmTablesModel", "alarmDue", "[J", true)
  | 14 => ("AlarmTablesModel", "cycle", "[J", true)
  | 15 => ("AlarmTablesModel", "tables", "I", false)
  | 16 => ("AlarmTablesModel", "tableOn", "[I", true)
  | 17 => ("AlarmTablesModel", "length", "[J", true)
  | 18 => ("AlarmTablesModel", "points", "[I", true)
  | 19 => ("AlarmTablesModel", "offset", "[J", true)
  | 20 => ("AlarmTablesModel", "act", "[I", true)
  | 21 => ("AlarmTablesModel", "next", "[I", true)
  | 22 => ("AlarmTablesModel", "deviation", "[J", true)
  | 23 => ("AlarmTablesModel", "runs", "[Z", true)
  | 24 => ("AlarmTablesModel", "due", "[J", true)
  | 25 => ("AlarmTablesModel", "place", "[I", true)
  | 26 => ("AlarmTablesModel", "expired", "I", false)
  | 27 => ("AlarmTablesModel", "kind", "[I", true)
  | 28 => ("AlarmTablesModel", "number", "[I", true)
  | 29 => ("AlarmTablesModel", "where", "[I", true)
  | 30 => ("AlarmTablesModel", "value", "[I", true)
  | 31 => ("AlarmTablesModel", "acted", "I", false)
  | 32 => ("AlarmTablesModel", "deep", "I", false)
  | 33 => ("AlarmTablesModel", "stepped", "[I", true)
  | _ => ("AlarmTablesModel", "goesOn", "[I", true)
def tyMod : Nat → FieldType := fun k => match k with
  | 0 => .int
  | 1 => .int
  | 2 => .array .long
  | 3 => .array .long
  | 4 => .array .long
  | 5 => .array .long
  | 6 => .array .boolean
  | 7 => .array .boolean
  | 8 => .int
  | 9 => .array .int
  | 10 => .array .int
  | 11 => .array .int
  | 12 => .array .boolean
  | 13 => .array .long
  | 14 => .array .long
  | 15 => .int
  | 16 => .array .int
  | 17 => .array .long
  | 18 => .array .int
  | 19 => .array .long
  | 20 => .array .int
  | 21 => .array .int
  | 22 => .array .long
  | 23 => .array .boolean
  | 24 => .array .long
  | 25 => .array .int
  | 26 => .int
  | 27 => .array .int
  | 28 => .array .int
  | 29 => .array .int
  | 30 => .array .int
  | 31 => .int
  | 32 => .int
  | 33 => .array .int
  | _ => .array .int
theorem nmMod : ∀ a, a < 35 → ∀ b, b < 35 → a ≠ b → (TMod a).2.1 ≠ (TMod b).2.1 := by decide +kernel
theorem tyMod_ok : ∀ k, k < 35 → parseFieldDescriptor (TMod k).2.2.1 = some (tyMod k) := by decide +kernel
def RLaw : String := "AlarmTablesLaw"
abbrev vwCl : List vw_C := [(RAct, TAct, 2), (RAlarm, TAlarm, 7), (RCounter, TCounter, 12), (RNotes, TNotes, 3), (RPage, TPage, 1), (RPoint, TPoint, 3), (RTable, TTable, 12), (RAT, TAT, 8), (RMod, TMod, 35)]
abbrev cAct_init : ByteArray := prog_2_method_1_code
def yAct_init : MethodName := ⟨RAct, "<init>", "(LAlarmTables$Counter;LAlarmTables$Alarm;)V"⟩
abbrev cAlarm_init : ByteArray := prog_3_method_1_code
def yAlarm_init : MethodName := ⟨RAlarm, "<init>", "(ILAlarmTables$Counter;LAlarmTables$Act;)V"⟩
abbrev cAlarm_becomeDue : ByteArray := prog_3_method_2_code
def yAlarm_becomeDue : MethodName := ⟨RAlarm, "becomeDue", "(J)V"⟩
abbrev cCounter_init : ByteArray := prog_4_method_1_code
def yCounter_init : MethodName := ⟨RCounter, "<init>", "(IJJ)V"⟩
abbrev cCounter_wakeAt : ByteArray := prog_4_method_2_code
def yCounter_wakeAt : MethodName := ⟨RCounter, "wakeAt", "(J)V"⟩
abbrev cCounter_advance : ByteArray := prog_4_method_3_code
def yCounter_advance : MethodName := ⟨RCounter, "advance", "()V"⟩
abbrev cCounter_stepsUntil : ByteArray := prog_4_method_4_code
def yCounter_stepsUntil : MethodName := ⟨RCounter, "stepsUntil", "(J)J"⟩
abbrev cCounter_appendAlarm : ByteArray := prog_4_method_5_code
def yCounter_appendAlarm : MethodName := ⟨RCounter, "appendAlarm", "(LAlarmTables$Alarm;)V"⟩
abbrev cCounter_appendTable : ByteArray := prog_4_method_6_code
def yCounter_appendTable : MethodName := ⟨RCounter, "appendTable", "(LAlarmTables$Table;)V"⟩
abbrev cNotes_init : ByteArray := prog_5_method_1_code
def yNotes_init : MethodName := ⟨RNotes, "<init>", "()V"⟩
abbrev cNotes_add : ByteArray := prog_5_method_2_code
def yNotes_add : MethodName := ⟨RNotes, "add", "(IIJJ)V"⟩
abbrev cNotes_has : ByteArray := prog_5_method_3_code
def yNotes_has : MethodName := ⟨RNotes, "has", "(I)Z"⟩
abbrev cNotes_read : ByteArray := prog_5_method_4_code
def yNotes_read : MethodName := ⟨RNotes, "read", "(II)I"⟩
abbrev cPage_init : ByteArray := prog_6_method_1_code
def yPage_init : MethodName := ⟨RPage, "<init>", "()V"⟩
abbrev cPage_write : ByteArray := prog_6_method_2_code
def yPage_write : MethodName := ⟨RPage, "write", "(IIIJJ)V"⟩
abbrev cPoint_init : ByteArray := prog_7_method_1_code
def yPoint_init : MethodName := ⟨RPoint, "<init>", "(JLAlarmTables$Act;)V"⟩
abbrev cTable_init : ByteArray := prog_8_method_1_code
def yTable_init : MethodName := ⟨RTable, "<init>", "(ILAlarmTables$Counter;J)V"⟩
abbrev cTable_pointBefore : ByteArray := prog_8_method_2_code
def yTable_pointBefore : MethodName := ⟨RTable, "pointBefore", "(J)LAlarmTables$Point;"⟩
abbrev cTable_hasPointAt : ByteArray := prog_8_method_3_code
def yTable_hasPointAt : MethodName := ⟨RTable, "hasPointAt", "(J)Z"⟩
abbrev cTable_insert : ByteArray := prog_8_method_4_code
def yTable_insert : MethodName := ⟨RTable, "insert", "(LAlarmTables$Point;)V"⟩
abbrev cTable_runFrom : ByteArray := prog_8_method_5_code
def yTable_runFrom : MethodName := ⟨RTable, "runFrom", "(J)V"⟩
abbrev cTable_goOn : ByteArray := prog_8_method_6_code
def yTable_goOn : MethodName := ⟨RTable, "goOn", "(JLAlarmTables$Point;)V"⟩
abbrev cAT_init : ByteArray := prog_1_method_1_code
def yAT_init : MethodName := ⟨RAT, "<init>", "()V"⟩
abbrev cAT_counter : ByteArray := prog_1_method_2_code
def yAT_counter : MethodName := ⟨RAT, "counter", "(JJ)I"⟩
abbrev cAT_alarm : ByteArray := prog_1_method_3_code
def yAT_alarm : MethodName := ⟨RAT, "alarm", "(III)I"⟩
abbrev cAT_set : ByteArray := prog_1_method_4_code
def yAT_set : MethodName := ⟨RAT, "set", "(IJJZ)I"⟩
abbrev cAT_cancel : ByteArray := prog_1_method_5_code
def yAT_cancel : MethodName := ⟨RAT, "cancel", "(I)I"⟩
abbrev cAT_table : ByteArray := prog_1_method_6_code
def yAT_table : MethodName := ⟨RAT, "table", "(IJ)I"⟩
abbrev cAT_point : ByteArray := prog_1_method_7_code
def yAT_point : MethodName := ⟨RAT, "point", "(IJI)I"⟩
abbrev cAT_start : ByteArray := prog_1_method_8_code
def yAT_start : MethodName := ⟨RAT, "start", "(IJ)I"⟩
abbrev cAT_next : ByteArray := prog_1_method_9_code
def yAT_next : MethodName := ⟨RAT, "next", "(II)I"⟩
abbrev cAT_sync : ByteArray := prog_1_method_10_code
def yAT_sync : MethodName := ⟨RAT, "sync", "(IJ)I"⟩
abbrev cAT_tick : ByteArray := prog_1_method_11_code
def yAT_tick : MethodName := ⟨RAT, "tick", "(IJ)I"⟩
abbrev cAT_expired : ByteArray := prog_1_method_12_code
def yAT_expired : MethodName := ⟨RAT, "expired", "(II)I"⟩
abbrev cAT_deviation : ByteArray := prog_1_method_13_code
def yAT_deviation : MethodName := ⟨RAT, "deviation", "(I)J"⟩
abbrev cAT_findCounter : ByteArray := prog_1_method_14_code
def yAT_findCounter : MethodName := ⟨RAT, "findCounter", "(I)LAlarmTables$Counter;"⟩
abbrev cAT_findAlarm : ByteArray := prog_1_method_15_code
def yAT_findAlarm : MethodName := ⟨RAT, "findAlarm", "(I)LAlarmTables$Alarm;"⟩
abbrev cAT_findTable : ByteArray := prog_1_method_16_code
def yAT_findTable : MethodName := ⟨RAT, "findTable", "(I)LAlarmTables$Table;"⟩
abbrev cAT_isUnknownFor : ByteArray := prog_1_method_17_code
def yAT_isUnknownFor : MethodName := ⟨RAT, "isUnknownFor", "(II)Z"⟩
abbrev cAT_wouldCircle : ByteArray := prog_1_method_18_code
def yAT_wouldCircle : MethodName := ⟨RAT, "wouldCircle", "(LAlarmTables$Counter;LAlarmTables$Counter;)Z"⟩
abbrev cAT_link : ByteArray := prog_1_method_19_code
def yAT_link : MethodName := ⟨RAT, "link", "(LAlarmTables$Counter;LAlarmTables$Counter;)V"⟩
abbrev cAT_makeStep : ByteArray := prog_1_method_20_code
def yAT_makeStep : MethodName := ⟨RAT, "makeStep", "(LAlarmTables$Counter;I)V"⟩
abbrev cAT_takeAlarmTurn : ByteArray := prog_1_method_21_code
def yAT_takeAlarmTurn : MethodName := ⟨RAT, "takeAlarmTurn", "(LAlarmTables$Alarm;I)V"⟩
abbrev cAT_takeTableTurn : ByteArray := prog_1_method_22_code
def yAT_takeTableTurn : MethodName := ⟨RAT, "takeTableTurn", "(LAlarmTables$Table;I)V"⟩
abbrev cAT_goThrough : ByteArray := prog_1_method_23_code
def yAT_goThrough : MethodName := ⟨RAT, "goThrough", "(LAlarmTables$Table;I)LAlarmTables$Table;"⟩
abbrev cAT_giveOver : ByteArray := prog_1_method_24_code
def yAT_giveOver : MethodName := ⟨RAT, "giveOver", "(LAlarmTables$Table;)LAlarmTables$Table;"⟩
abbrev cAT_perform : ByteArray := prog_1_method_25_code
def yAT_perform : MethodName := ⟨RAT, "perform", "(LAlarmTables$Act;I)V"⟩
abbrev cMod_init : ByteArray := prog_10_method_1_code
def yMod_init : MethodName := ⟨RMod, "<init>", "()V"⟩
abbrev cMod_thrown : ByteArray := prog_10_method_2_code
def yMod_thrown : MethodName := ⟨RMod, "thrown", "()I"⟩
abbrev cMod_no : ByteArray := prog_10_method_3_code
def yMod_no : MethodName := ⟨RMod, "no", "(I)Z"⟩
abbrev cMod_noAlarm : ByteArray := prog_10_method_4_code
def yMod_noAlarm : MethodName := ⟨RMod, "noAlarm", "(I)Z"⟩
abbrev cMod_noTable : ByteArray := prog_10_method_5_code
def yMod_noTable : MethodName := ⟨RMod, "noTable", "(I)Z"⟩
abbrev cMod_counter : ByteArray := prog_10_method_6_code
def yMod_counter : MethodName := ⟨RMod, "counter", "(JJ)I"⟩
abbrev cMod_leadsTo : ByteArray := prog_10_method_7_code
def yMod_leadsTo : MethodName := ⟨RMod, "leadsTo", "(II)Z"⟩
abbrev cMod_alarm : ByteArray := prog_10_method_8_code
def yMod_alarm : MethodName := ⟨RMod, "alarm", "(III)I"⟩
abbrev cMod_set : ByteArray := prog_10_method_9_code
def yMod_set : MethodName := ⟨RMod, "set", "(IJJZ)I"⟩
abbrev cMod_cancel : ByteArray := prog_10_method_10_code
def yMod_cancel : MethodName := ⟨RMod, "cancel", "(I)I"⟩
abbrev cMod_table : ByteArray := prog_10_method_11_code
def yMod_table : MethodName := ⟨RMod, "table", "(IJ)I"⟩
abbrev cMod_point : ByteArray := prog_10_method_12_code
def yMod_point : MethodName := ⟨RMod, "point", "(IJI)I"⟩
abbrev cMod_start : ByteArray := prog_10_method_13_code
def yMod_start : MethodName := ⟨RMod, "start", "(IJ)I"⟩
abbrev cMod_next : ByteArray := prog_10_method_14_code
def yMod_next : MethodName := ⟨RMod, "next", "(II)I"⟩
abbrev cMod_sync : ByteArray := prog_10_method_15_code
def yMod_sync : MethodName := ⟨RMod, "sync", "(IJ)I"⟩
abbrev cMod_note : ByteArray := prog_10_method_16_code
def yMod_note : MethodName := ⟨RMod, "note", "(IIJI)V"⟩
abbrev cMod_makeStep : ByteArray := prog_10_method_17_code
def yMod_makeStep : MethodName := ⟨RMod, "makeStep", "(I)V"⟩
abbrev cMod_byAct : ByteArray := prog_10_method_18_code
def yMod_byAct : MethodName := ⟨RMod, "byAct", "(I)V"⟩
abbrev cMod_goOn : ByteArray := prog_10_method_19_code
def yMod_goOn : MethodName := ⟨RMod, "goOn", "(IJ)Z"⟩
abbrev cMod_tableGoes : ByteArray := prog_10_method_20_code
def yMod_tableGoes : MethodName := ⟨RMod, "tableGoes", "(I)I"⟩
abbrev cMod_goTable : ByteArray := prog_10_method_21_code
def yMod_goTable : MethodName := ⟨RMod, "goTable", "(II)V"⟩
abbrev cMod_goAlarm : ByteArray := prog_10_method_22_code
def yMod_goAlarm : MethodName := ⟨RMod, "goAlarm", "(I)V"⟩
abbrev cMod_go : ByteArray := prog_10_method_23_code
def yMod_go : MethodName := ⟨RMod, "go", "()V"⟩
abbrev cMod_tick : ByteArray := prog_10_method_24_code
def yMod_tick : MethodName := ⟨RMod, "tick", "(IJ)I"⟩
abbrev cMod_expired : ByteArray := prog_10_method_25_code
def yMod_expired : MethodName := ⟨RMod, "expired", "(II)I"⟩
abbrev cMod_deviation : ByteArray := prog_10_method_26_code
def yMod_deviation : MethodName := ⟨RMod, "deviation", "(I)J"⟩
/-- the links to private constructors of nest mates, the arrays of references that can be made -/
def NX (U : State) : Prop := va_Nw (.methodLinkNest RAT 29 yNotes_init "AlarmTables") U ∧ va_Nw (.methodLinkNest RNotes 24 yPage_init "AlarmTables") U ∧ va_AO RCounter U ∧ va_AO RAlarm U ∧ va_AO RTable U ∧ va_AO RPage U
theorem NX.warm {s U : State} (hW : s.WarmedH U.vm) (h : NX s) : NX U := ⟨va_Nw.warmM hW h.1, va_Nw.warmM hW h.2.1, va_AO.moved hW.alike h.2.2.1, va_AO.moved hW.alike h.2.2.2.1, va_AO.moved hW.alike h.2.2.2.2.1, va_AO.moved hW.alike h.2.2.2.2.2⟩
theorem NX.same {u U : State} (e : u.vm = U.vm) (h : NX u) : NX U := ⟨va_Nw.same rfl e h.1, va_Nw.same rfl e h.2.1, va_AO.moved (by rw [e]; exact Vm.Alike.refl _) h.2.2.1, va_AO.moved (by rw [e]; exact Vm.Alike.refl _) h.2.2.2.1, va_AO.moved (by rw [e]; exact Vm.Alike.refl _) h.2.2.2.2.1, va_AO.moved (by rw [e]; exact Vm.Alike.refl _) h.2.2.2.2.2⟩
def aK (K : Nat) : Nat := match K with
  | 11 => 1
  | 12 => 2
  | 13 => 1
  | 14 => 3
  | 15 => 3
  | 16 => 3
  | 17 => 3
  | _ => 0
def aE (K : Nat) : Nat := match K with
  | 14 => 3
  | 15 => 2
  | 16 => 7
  | 17 => 5
  | _ => 0
def lay (K : Nat) : List (Nat × Nat) := match K with
  | 1 => [(2, 0), (2, 1)]
  | 2 => [(0, 0), (2, 2), (2, 3), (0, 1), (1, 0), (1, 1), (2, 4)]
  | 3 => [(0, 2), (1, 2), (1, 3), (1, 4), (1, 5), (1, 6), (1, 7), (0, 3), (2, 5), (2, 6), (2, 7), (2, 8)]
  | 4 => [(2, 9), (0, 4), (0, 5)]
  | 5 => [(2, 10)]
  | 6 => [(1, 8), (2, 11), (2, 12)]
  | 7 => [(0, 6), (2, 13), (1, 9), (2, 14), (0, 7), (0, 8), (0, 9), (1, 10), (2, 15), (1, 11), (2, 16), (2, 17)]
  | 8 => [(2, 18), (2, 19), (2, 20), (2, 21), (0, 10), (0, 11), (0, 12), (0, 13)]
  | 9 => [(0, 14), (0, 15), (2, 22), (2, 23), (2, 24), (2, 25), (2, 26), (2, 27), (0, 16), (2, 28), (2, 29), (2, 30), (2, 31), (2, 32), (2, 33), (0, 17), (2, 34), (2, 35), (2, 36), (2, 37), (2, 38), (2, 39), (2, 40), (2, 41), (2, 42), (2, 43), (0, 18), (2, 44), (2, 45), (2, 46), (2, 47), (0, 19), (0, 20), (2, 48), (2, 49)]
  | _ => []
def rO (k : Nat) : Nat := match k with
  | 0 => 1
  | 1 => 1
  | 2 => 2
  | 3 => 2
  | 4 => 2
  | 5 => 3
  | 6 => 3
  | 7 => 3
  | 8 => 3
  | 9 => 4
  | 10 => 5
  | 11 => 6
  | 12 => 6
  | 13 => 7
  | 14 => 7
  | 15 => 7
  | 16 => 7
  | 17 => 7
  | 18 => 8
  | 19 => 8
  | 20 => 8
  | 21 => 8
  | 22 => 9
  | 23 => 9
  | 24 => 9
  | 25 => 9
  | 26 => 9
  | 27 => 9
  | 28 => 9
  | 29 => 9
  | 30 => 9
  | 31 => 9
  | 32 => 9
  | 33 => 9
  | 34 => 9
  | 35 => 9
  | 36 => 9
  | 37 => 9
  | 38 => 9
  | 39 => 9
  | 40 => 9
  | 41 => 9
  | 42 => 9
  | 43 => 9
  | 44 => 9
  | 45 => 9
  | 46 => 9
  | 47 => 9
  | 48 => 9
  | 49 => 9
  | _ => 99
def rT (k : Nat) : Nat := match k with
  | 0 => 3
  | 1 => 2
  | 2 => 3
  | 3 => 1
  | 4 => 2
  | 5 => 2
  | 6 => 2
  | 7 => 7
  | 8 => 7
  | 9 => 17
  | 10 => 11
  | 11 => 1
  | 12 => 6
  | 13 => 3
  | 14 => 6
  | 15 => 6
  | 16 => 7
  | 17 => 7
  | 18 => 14
  | 19 => 15
  | 20 => 16
  | 21 => 4
  | 22 => 12
  | 23 => 12
  | 24 => 12
  | 25 => 12
  | 26 => 13
  | 27 => 13
  | 28 => 11
  | 29 => 11
  | 30 => 11
  | 31 => 13
  | 32 => 12
  | 33 => 12
  | 34 => 11
  | 35 => 12
  | 36 => 11
  | 37 => 12
  | 38 => 11
  | 39 => 11
  | 40 => 12
  | 41 => 13
  | 42 => 12
  | 43 => 11
  | 44 => 11
  | 45 => 11
  | 46 => 11
  | 47 => 11
  | 48 => 11
  | 49 => 11
  | _ => 99
theorem rO_ne (k : Nat) : rO k ≠ 0 := by unfold rO; split <;> decide
theorem rT_ne (k : Nat) : rT k ≠ 0 := by unfold rT; split <;> decide
theorem rO_obj (k : Nat) (K : Nat) (h1 : 10 ≤ K) (h2 : K ≤ 20) : rO k ≠ K := by unfold rO; split <;> omega
def aTys (AC : Nat → ClassId) : List (ClassId × FieldType) := [(AC 11, .int), (AC 12, .long), (AC 13, .boolean), (AC 14, .object "AlarmTables$Counter"), (AC 15, .object "AlarmTables$Alarm"), (AC 16, .object "AlarmTables$Table"), (AC 17, .object "AlarmTables$Page")]
end
section
-- a compare of longs with the branch behind it
section LLC
variable {p : Program} {l : Launch} {e : Env} {R : Room} {s : State} {m : MethodId} {args : Array Value} {below : List Frame} {meth : Method} {c : Code} {H : Heap} {locs : List Loc} {cells slots : Nat} {Q : State → Prop}
variable {cc : ByteArray} {pc tgt : Nat} {ls : Array Slot} {rest : List Value} {x y : Int64} {off : Int}
theorem ll_lt (hexec : p.tables.exec = Jvm.exec) (hb : c.code = cc) (d1 : decode cc pc = .ok (.lcmp, 1)) (d2 : decode cc (pc + 1) = .ok (.ifCond .lt off, 3)) (ht : ((pc + 1 : Nat) : Int) + off = (tgt : Int)) (kt : x < y → W p l e R s m args below meth c H locs cells slots Q (F0 m tgt ls rest)) (kf : ¬ x < y → W p l e R s m args below meth c H locs cells slots Q (F0 m (pc + 4) ls rest)) : W p l e R s m args below meth c H locs cells slots Q (F0 m pc ls (.long y :: .long x :: rest)) :=
  W.lcmp hexec hb d1 (lv_if_lt hexec hb d2 ht (fun h => kt ((lg_cmp_lt x y).mp h)) (fun h => kf (fun q => h ((lg_cmp_lt x y).mpr q))))
theorem ll_ge (hexec : p.tables.exec = Jvm.exec) (hb : c.code = cc) (d1 : decode cc pc = .ok (.lcmp, 1)) (d2 : decode cc (pc + 1) = .ok (.ifCond .ge off, 3)) (ht : ((pc + 1 : Nat) : Int) + off = (tgt : Int)) (kt : ¬ x < y → W p l e R s m args below meth c H locs cells slots Q (F0 m tgt ls rest)) (kf : x < y → W p l e R s m args below meth c H locs cells slots Q (F0 m (pc + 4) ls rest)) : W p l e R s m args below meth c H locs cells slots Q (F0 m pc ls (.long y :: .long x :: rest)) :=
  W.lcmp hexec hb d1 (lv_if_ge hexec hb d2 ht (fun h => kt (fun q => by have h1 := (lg_cmp_ge x y).mp h; rw [Int64.le_iff_toInt_le] at h1; rw [Int64.lt_iff_toInt_lt] at q; omega)) (fun h => kf (by have h1 : ¬ y ≤ x := fun q => h ((lg_cmp_ge x y).mpr q); rw [Int64.le_iff_toInt_le] at h1; rw [Int64.lt_iff_toInt_lt]; omega)))
theorem ll_gt (hexec : p.tables.exec = Jvm.exec) (hb : c.code = cc) (d1 : decode cc pc = .ok (.lcmp, 1)) (d2 : decode cc (pc + 1) = .ok (.ifCond .gt off, 3)) (ht : ((pc + 1 : Nat) : Int) + off = (tgt : Int)) (kt : y < x → W p l e R s m args below meth c H locs cells slots Q (F0 m tgt ls rest)) (kf : ¬ y < x → W p l e R s m args below meth c H locs cells slots Q (F0 m (pc + 4) ls rest)) : W p l e R s m args below meth c H locs cells slots Q (F0 m pc ls (.long y :: .long x :: rest)) :=
  W.lcmp hexec hb d1 (lv_if_gt hexec hb d2 ht (fun h => kt ((lg_cmp_gt x y).mp h)) (fun h => kf (fun q => h ((lg_cmp_gt x y).mpr q))))
theorem ll_le (hexec : p.tables.exec = Jvm.exec) (hb : c.code = cc) (d1 : decode cc pc = .ok (.lcmp, 1)) (d2 : decode cc (pc + 1) = .ok (.ifCond .le off, 3)) (ht : ((pc + 1 : Nat) : Int) + off = (tgt : Int)) (kt : ¬ y < x → W p l e R s m args below meth c H locs cells slots Q (F0 m tgt ls rest)) (kf : y < x → W p l e R s m args below meth c H locs cells slots Q (F0 m (pc + 4) ls rest)) : W p l e R s m args below meth c H locs cells slots Q (F0 m pc ls (.long y :: .long x :: rest)) :=
  W.lcmp hexec hb d1 (lv_if_le hexec hb d2 ht (fun h => kt (fun q => by have h1 := (lg_cmp_le x y).mp h; rw [Int64.le_iff_toInt_le] at h1; rw [Int64.lt_iff_toInt_lt] at q; omega)) (fun h => kf (by have h1 : ¬ x ≤ y := fun q => h ((lg_cmp_le x y).mpr q); rw [Int64.le_iff_toInt_le] at h1; rw [Int64.lt_iff_toInt_lt]; omega)))
theorem lg_cmp_eq0 (x y : Int64) : lg_cmp x y = 0 ↔ x = y := by
  unfold lg_cmp
  by_cases h : x > y
  · have hne : ¬ x = y := fun q => by subst q; have h1 : x < x := h; rw [Int64.lt_iff_toInt_lt] at h1; omega
    simp [h, hne]
  · by_cases h2 : x = y
    · subst h2; simp [h]
    · simp [h, h2]
theorem ll_eq (hexec : p.tables.exec = Jvm.exec) (hb : c.code = cc) (d1 : decode cc pc = .ok (.lcmp, 1)) (d2 : decode cc (pc + 1) = .ok (.ifCond .eq off, 3)) (ht : ((pc + 1 : Nat) : Int) + off = (tgt : Int)) (kt : x = y → W p l e R s m args below meth c H locs cells slots Q (F0 m tgt ls rest)) (kf : ¬ x = y → W p l e R s m args below meth c H locs cells slots Q (F0 m (pc + 4) ls rest)) : W p l e R s m args below meth c H locs cells slots Q (F0 m pc ls (.long y :: .long x :: rest)) :=
  W.lcmp hexec hb d1 (lv_if_eq hexec hb d2 ht (fun h => kt ((lg_cmp_eq0 x y).mp h)) (fun h => kf (fun q => h ((lg_cmp_eq0 x y).mpr q))))
theorem ll_ne (hexec : p.tables.exec = Jvm.exec) (hb : c.code = cc) (d1 : decode cc pc = .ok (.lcmp, 1)) (d2 : decode cc (pc + 1) = .ok (.ifCond .ne off, 3)) (ht : ((pc + 1 : Nat) : Int) + off = (tgt : Int)) (kt : ¬ x = y → W p l e R s m args below meth c H locs cells slots Q (F0 m tgt ls rest)) (kf : x = y → W p l e R s m args below meth c H locs cells slots Q (F0 m (pc + 4) ls rest)) : W p l e R s m args below meth c H locs cells slots Q (F0 m pc ls (.long y :: .long x :: rest)) :=
  W.lcmp hexec hb d1 (lv_if_ne hexec hb d2 ht (fun h => kt (fun q => h ((lg_cmp_eq0 x y).mpr q))) (fun h => kf ((lg_cmp_eq0 x y).mp h)))
end LLC
-- references that may be null, as options
section QROWS
variable {p : Program} {l : Launch} {e : Env} {R : Room} {s : State} {m : MethodId} {args : Array Value} {below : List Frame} {meth : Method} {c : Code} {H : Heap} {locs : List Loc} {cells slots : Nat} {Q : State → Prop}
variable {cc : ByteArray} {pc tgt : Nat} {ls : Array Slot} {rest : List Value} {o : Option Nat} {b : Nat} {v1 v2 : Value}
theorem q_cat (o : Option Nat) : (va_rf o).category = 1 := by cases o <;> rfl
theorem q_some (h : o = some b) (k : W p l e R s m args below meth c H locs cells slots Q (F0 m pc ls (.ref b :: rest))) : W p l e R s m args below meth c H locs cells slots Q (F0 m pc ls (va_rf o :: rest)) := by subst h; exact k
theorem q_some1 (h : o = some b) (k : W p l e R s m args below meth c H locs cells slots Q (F0 m pc ls (v1 :: .ref b :: rest))) : W p l e R s m args below meth c H locs cells slots Q (F0 m pc ls (v1 :: va_rf o :: rest)) := by subst h; exact k
theorem q_some2 (h : o = some b) (k : W p l e R s m args below meth c H locs cells slots Q (F0 m pc ls (v1 :: v2 :: .ref b :: rest))) : W p l e R s m args below meth c H locs cells slots Q (F0 m pc ls (v1 :: v2 :: va_rf o :: rest)) := by subst h; exact k
theorem q_some3 {v3 : Value} (h : o = some b) (k : W p l e R s m args below meth c H locs cells slots Q (F0 m pc ls (v1 :: v2 :: v3 :: .ref b :: rest))) : W p l e R s m args below meth c H locs cells slots Q (F0 m pc ls (v1 :: v2 :: v3 :: va_rf o :: rest)) := by subst h; exact k
theorem q_some4 {v3 v4 : Value} (h : o = some b) (k : W p l e R s m args below meth c H locs cells slots Q (F0 m pc ls (v1 :: v2 :: v3 :: v4 :: .ref b :: rest))) : W p l e R s m args below meth c H locs cells slots Q (F0 m pc ls (v1 :: v2 :: v3 :: v4 :: va_rf o :: rest)) := by subst h; exact k
theorem q_some5 {v3 v4 v5 : Value} (h : o = some b) (k : W p l e R s m args below meth c H locs cells slots Q (F0 m pc ls (v1 :: v2 :: v3 :: v4 :: v5 :: .ref b :: rest))) : W p l e R s m args below meth c H locs cells slots Q (F0 m pc ls (v1 :: v2 :: v3 :: v4 :: v5 :: va_rf o :: rest)) := by subst h; exact k
theorem q_some6 {v3 v4 v5 v6 : Value} (h : o = some b) (k : W p l e R s m args below meth c H locs cells slots Q (F0 m pc ls (v1 :: v2 :: v3 :: v4 :: v5 :: v6 :: .ref b :: rest))) : W p l e R s m args below meth c H locs cells slots Q (F0 m pc ls (v1 :: v2 :: v3 :: v4 :: v5 :: v6 :: va_rf o :: rest)) := by subst h; exact k
theorem q_none (h : o = none) (k : W p l e R s m args below meth c H locs cells slots Q (F0 m pc ls (.null :: rest))) : W p l e R s m args below meth c H locs cells slots Q (F0 m pc ls (va_rf o :: rest)) := by subst h; exact k
theorem q_aload_n (hexec : p.tables.exec = Jvm.exec) (hb : c.code = cc) {k : Fin 4} {i : Nat} (hdg : decode cc pc = .ok (.aload_n k, 1)) (hi : (k : Nat) = i) (hl : ls[i]? = some (.val (va_rf o))) (kk : W p l e R s m args below meth c H locs cells slots Q (F0 m (pc + 1) ls (va_rf o :: rest))) : W p l e R s m args below meth c H locs cells slots Q (F0 m pc ls rest) := by
  cases o with
  | none => exact lv_aload_nN hexec hb hdg hi hl kk
  | some a => exact lv_aload_n hexec hb hdg hi hl kk
theorem q_aload (hexec : p.tables.exec = Jvm.exec) (hb : c.code = cc) {i : Nat} (hdg : decode cc pc = .ok (.aload i, 2)) (hl : ls[i]? = some (.val (va_rf o))) (kk : W p l e R s m args below meth c H locs cells slots Q (F0 m (pc + 2) ls (va_rf o :: rest))) : W p l e R s m args below meth c H locs cells slots Q (F0 m pc ls rest) := by
  cases o with
  | none => exact lv_aloadN hexec hb hdg hl kk
  | some a => exact lv_aload hexec hb hdg hl kk
theorem q_astore_n (hexec : p.tables.exec = Jvm.exec) (hb : c.code = cc) {k : Fin 4} {i nL : Nat} {lv lv' : List (Nat × Value)} (hdg : decode cc pc = .ok (.astore_n k, 1)) (hi : (k : Nat) = i) (h : lv_has ls nL lv) (hn : i < nL) (hl : (i, va_rf o) :: lv.filter (fun q => !(q.1 == i) && !(q.1 + 1 == i && q.2.category == 2)) = lv') (kk : ∀ ls' : Array Slot, lv_has ls' nL lv' → W p l e R s m args below meth c H locs cells slots Q (F0 m (pc + 1) ls' rest)) : W p l e R s m args below meth c H locs cells slots Q (F0 m pc ls (va_rf o :: rest)) := by
  cases o with
  | none => exact lv_astore_nN hexec hb hdg hi h hn hl kk
  | some a => exact lv_astore_n hexec hb hdg hi h hn hl kk
theorem q_astore (hexec : p.tables.exec = Jvm.exec) (hb : c.code = cc) {i nL : Nat} {lv lv' : List (Nat × Value)} (hdg : decode cc pc = .ok (.astore i, 2)) (h : lv_has ls nL lv) (hn : i < nL) (hl : (i, va_rf o) :: lv.filter (fun q => !(q.1 == i) && !(q.1 + 1 == i && q.2.category == 2)) = lv') (kk : ∀ ls' : Array Slot, lv_has ls' nL lv' → W p l e R s m args below meth c H locs cells slots Q (F0 m (pc + 2) ls' rest)) : W p l e R s m args below meth c H locs cells slots Q (F0 m pc ls (va_rf o :: rest)) := by
  cases o with
  | none => exact lv_astoreN hexec hb hdg h hn hl kk
  | some a => exact lv_astore hexec hb hdg h hn hl kk
theorem q_ifnull (hexec : p.tables.exec = Jvm.exec) (hb : c.code = cc) {off : Int} (hdg : decode cc pc = .ok (.ifnull off, 3)) (ht : (pc : Int) + off = (tgt : Int)) (kn : o = none → W p l e R s m args below meth c H locs cells slots Q (F0 m tgt ls rest)) (ks : ∀ b, o = some b → W p l e R s m args below meth c H locs cells slots Q (F0 m (pc + 3) ls rest)) : W p l e R s m args below meth c H locs cells slots Q (F0 m pc ls (va_rf o :: rest)) := by
  cases o with
  | none => exact lv_ifnullN hexec hb hdg ht (kn rfl)
  | some a => exact lv_ifnull hexec hb hdg (ks a rfl)
theorem q_ifnonnull (hexec : p.tables.exec = Jvm.exec) (hb : c.code = cc) {off : Int} (hdg : decode cc pc = .ok (.ifnonnull off, 3)) (ht : (pc : Int) + off = (tgt : Int)) (kn : o = none → W p l e R s m args below meth c H locs cells slots Q (F0 m (pc + 3) ls rest)) (ks : ∀ b, o = some b → W p l e R s m args below meth c H locs cells slots Q (F0 m tgt ls rest)) : W p l e R s m args below meth c H locs cells slots Q (F0 m pc ls (va_rf o :: rest)) := by
  cases o with
  | none => exact lv_ifnonnullN hexec hb hdg (kn rfl)
  | some a => exact lv_ifnonnull hexec hb hdg ht (ks a rfl)
end QROWS
theorem cat_r (a : Nat) : (Value.ref a).category = 1 := rfl
theorem cat_i (a : Int32) : (Value.int a).category = 1 := rfl
theorem cat_l (a : Int64) : (Value.long a).category = 2 := rfl
theorem cat_n : Value.null.category = 1 := rfl
end
section
-- THE STORE: the objects of a world by their fields (a function for each field, from addresses), arrays by their contents; what a method does to the machine's heap is said of the store alone
abbrev HS : Type := Nat × Nat × List Nat × (Nat → Nat) × (Nat → Nat → Int32) × (Nat → Nat → Int64) × (Nat → Nat → Option Nat) × (Nat → Nat) × (Nat → Nat → Int32) × (Nat → Nat → Int64) × (Nat → Nat → Option Nat)
def hz (S : HS) : Nat := S.1
def tz (S : HS) : Nat := S.2.1
def hL (S : HS) : List Nat := S.2.2.1
def kd (S : HS) : Nat → Nat := S.2.2.2.1
def fi (S : HS) : Nat → Nat → Int32 := S.2.2.2.2.1
def fl (S : HS) : Nat → Nat → Int64 := S.2.2.2.2.2.1
def fr (S : HS) : Nat → Nat → Option Nat := S.2.2.2.2.2.2.1
def an (S : HS) : Nat → Nat := S.2.2.2.2.2.2.2.1
def ai (S : HS) : Nat → Nat → Int32 := S.2.2.2.2.2.2.2.2.1
def al (S : HS) : Nat → Nat → Int64 := S.2.2.2.2.2.2.2.2.2.1
def ar (S : HS) : Nat → Nat → Option Nat := S.2.2.2.2.2.2.2.2.2.2
def shz (S : HS) (n m : Nat) : HS := (n, m, S.2.2)
def up2 {α : Type} (f : Nat → Nat → α) (k a : Nat) (v : α) : Nat → Nat → α := fun k' a' => if k' = k ∧ a' = a then v else f k' a'
theorem up2_self {α : Type} (f : Nat → Nat → α) (k a : Nat) (v : α) : up2 f k a v k a = v := by simp [up2]
theorem up2_k {α : Type} (f : Nat → Nat → α) {k k' : Nat} (a a' : Nat) (v : α) (h : k' ≠ k) : up2 f k a v k' a' = f k' a' := by simp [up2, h]
theorem up2_a {α : Type} (f : Nat → Nat → α) (k k' : Nat) {a a' : Nat} (v : α) (h : a' ≠ a) : up2 f k a v k' a' = f k' a' := by simp [up2, h]
def sfi (S : HS) (k a : Nat) (v : Int32) : HS := (hz S, tz S, hL S, kd S, up2 (fi S) k a v, fl S, fr S, an S, ai S, al S, ar S)
def sfl (S : HS) (k a : Nat) (v : Int64) : HS := (hz S, tz S, hL S, kd S, fi S, up2 (fl S) k a v, fr S, an S, ai S, al S, ar S)
def sfr (S : HS) (k a : Nat) (v : Option Nat) : HS := (hz S, tz S, hL S, kd S, fi S, fl S, up2 (fr S) k a v, an S, ai S, al S, ar S)
def sai (S : HS) (a i : Nat) (v : Int32) : HS := (hz S, tz S, hL S, kd S, fi S, fl S, fr S, an S, up2 (ai S) a i v, al S, ar S)
def sal (S : HS) (a i : Nat) (v : Int64) : HS := (hz S, tz S, hL S, kd S, fi S, fl S, fr S, an S, ai S, up2 (al S) a i v, ar S)
def sar (S : HS) (a i : Nat) (v : Option Nat) : HS := (hz S, tz S, hL S, kd S, fi S, fl S, fr S, an S, ai S, al S, up2 (ar S) a i v)
/-- a new object of kind K at q, all its fields 0 and null -/
def zr {α : Type} (f : Nat → Nat → α) (q : Nat) (z : α) : Nat → Nat → α := fun k a => if a = q then z else f k a
def newQ (S : HS) (q K : Nat) : HS := (hz S + 1, tz S + (lay K).length, hL S ++ [q], va_up (kd S) q K, zr (fi S) q 0, zr (fl S) q 0, zr (fr S) q none, an S, ai S, al S, ar S)
/-- a new array of kind K and length n at q -/
abbrev newO (S : HS) (K : Nat) : HS := newQ S (hz S) K
def newB (S : HS) (q K n : Nat) : HS := (hz S + 1, tz S + n, hL S ++ [q], va_up (kd S) q K, fi S, fl S, fr S, va_up (an S) q n, va_up (ai S) q (fun _ => 0), va_up (al S) q (fun _ => 0), va_up (ar S) q (fun _ => none))
abbrev newA (S : HS) (K n : Nat) : HS := newB S (hz S) K n
def fv (S : HS) (a : Nat) (t : Nat × Nat) : Value := match t.1 with
  | 0 => .int (fi S t.2 a)
  | 1 => .long (fl S t.2 a)
  | 2 => va_rf (fr S t.2 a)
  | _ => .null
def eC (AC : Nat → ClassId) (S : HS) (a : Nat) : va_E := match aK (kd S a) with
  | 0 => .inr (kd S a - 1, (lay (kd S a)).map (fv S a))
  | 1 => .inl (AC (kd S a), an S a, .inl (ai S a))
  | 2 => .inl (AC (kd S a), an S a, .inr (.inl (al S a)))
  | _ => .inl (AC (kd S a), an S a, .inr (.inr (.inr (.inr (ar S a)))))
abbrev pool (AC : Nat → ClassId) (S : HS) : va_W := va_pl (hL S) (eC AC S)
def hOk (S : HS) : Prop := (∀ a, kd S a ≠ 0 → a ∈ hL S) ∧ (∀ k a b, kd S a = rO k → fr S k a = some b → kd S b = rT k) ∧ (∀ a j b, aE (kd S a) ≠ 0 → ar S a j = some b → kd S b = aE (kd S a))
/-- the slots of a whole heap -/
def hts (H : Heap) : Nat := (H.toList.map (fun c => c.slots.size)).sum
theorem hts_same {H H1 : Heap} (h2 : H1.size = H.size) (h : ∀ (q : Nat) (c : Cell), H[q]? = some c → ∃ c1 : Cell, H1[q]? = some c1 ∧ c1.slots.size = c.slots.size) : hts H1 = hts H := by
  unfold hts
  congr 1
  apply List.ext_getElem?
  intro i
  rw [List.getElem?_map, List.getElem?_map, Array.getElem?_toList, Array.getElem?_toList]
  cases hc : H[i]? with
  | none =>
    have : H1[i]? = none := by
      rw [Array.getElem?_eq_none_iff] at hc ⊢
      omega
    rw [this]
  | some c =>
    obtain ⟨c1, e1, e2⟩ := h i c hc
    rw [e1]
    simp [e2]
theorem hts_grow {H H1 : Heap} {c : Cell} (z : H1.size = H.size + 1) (o : ∀ q, q < H.size → H1[q]? = H[q]?) (e : H1[H.size]? = some c) : hts H1 = hts H + c.slots.size := by
  have : H1 = H.push c := by
    apply Array.ext_getElem?
    intro i
    rw [Array.getElem?_push]
    by_cases h : i = H.size
    · subst h; rw [if_pos rfl, e]
    · rw [if_neg h]
      by_cases h2 : i < H.size
      · exact o i h2
      · rw [Array.getElem?_eq_none (by omega), Array.getElem?_eq_none (by omega)]
  rw [this]
  simp [hts]
def Wd (D : va_G) (AC : Nat → ClassId) (A : Nat → Prop) (s : State) (H0 H : Heap) (locs : List Loc) (S : HS) : Prop :=
  va_K D vwCl (aTys AC) s ∧ va_P D vwCl (pool AC S) H ∧ va_D A (pool AC S) ∧ va_S A H0 H locs ∧ (∀ q, H0.size ≤ q → A q) ∧ hOk S ∧ H.size = hz S ∧ NX s ∧ hts H = tz S
/-- kinds and lengths stay -/
def mono (S S' : HS) : Prop := ∀ a, kd S a ≠ 0 → kd S' a = kd S a ∧ an S' a = an S a
theorem mono.rf (S : HS) : mono S S := fun _ _ => ⟨rfl, rfl⟩
theorem mono.tr {S S' S'' : HS} (h : mono S S') (h' : mono S' S'') : mono S S'' := fun a ha => by
  obtain ⟨h1, h2⟩ := h a ha
  obtain ⟨h3, h4⟩ := h' a (by rw [h1]; exact ha)
  exact ⟨h3.trans h1, h4.trans h2⟩
theorem mono.k {S S' : HS} (h : mono S S') {a K : Nat} (hk : kd S a = K) (hK : K ≠ 0) : kd S' a = K := (h a (by rw [hk]; exact hK)).1.trans hk
theorem mono.n {S S' : HS} (h : mono S S') {a K n : Nat} (hk : kd S a = K) (hK : K ≠ 0) (hn : an S a = n) : an S' a = n := (h a (by rw [hk]; exact hK)).2.trans hn
def AS (L : List Nat) (sz : Nat) : Nat → Prop := fun q => q ∈ L ∨ sz ≤ q
theorem pl_mem {L : List Nat} {f : Nat → va_E} {k : Nat} {q : Nat × va_E} (h : (va_pl L f)[k]? = some q) : q.1 ∈ L ∧ q.2 = f q.1 := by
  simp only [va_pl, List.getElem?_map] at h
  cases hb : L[k]? with
  | none => rw [hb] at h; cases h
  | some b =>
    rw [hb] at h
    have h2 := Option.some.inj h
    subst h2
    exact ⟨List.mem_of_getElem? hb, rfl⟩
theorem eC_obj {AC : Nat → ClassId} {S : HS} {a K : Nat} (hk : kd S a = K) (hK : aK K = 0) : eC AC S a = .inr (K - 1, (lay K).map (fv S a)) := by simp only [eC, hk, hK]
theorem eC_ints {AC : Nat → ClassId} {S : HS} {a K : Nat} (hk : kd S a = K) (hK : aK K = 1) : eC AC S a = .inl (AC K, an S a, .inl (ai S a)) := by simp only [eC, hk, hK]
theorem eC_longs {AC : Nat → ClassId} {S : HS} {a K : Nat} (hk : kd S a = K) (hK : aK K = 2) : eC AC S a = .inl (AC K, an S a, .inr (.inl (al S a))) := by simp only [eC, hk, hK]
theorem eC_refs {AC : Nat → ClassId} {S : HS} {a K : Nat} (hk : kd S a = K) (hK : aK K = 3) : eC AC S a = .inl (AC K, an S a, .inr (.inr (.inr (.inr (ar S a))))) := by simp only [eC, hk, hK]
/-- a store behind a write: equal but at one address -/
theorem eC_up {AC : Nat → ClassId} {S S' : HS} {a : Nat} {x : va_E} (h : ∀ b, b ≠ a → eC AC S' b = eC AC S b) (ha : eC AC S' a = x) : va_up (eC AC S) a x = eC AC S' := by
  funext b
  by_cases hb : b = a
  · subst hb; rw [va_up_self, ha]
  · rw [va_up_ne _ _ hb, h b hb]
theorem lay_set {S S' : HS} {a j : Nat} {t : Nat × Nat} {v : Value} (l : List (Nat × Nat)) (hn : l.Nodup) (hj : l[j]? = some t) (hv : fv S' a t = v) (ho : ∀ u, u ≠ t → fv S' a u = fv S a u) : l.map (fv S' a) = (l.map (fv S a)).set j v := by
  have hl : j < l.length := (List.getElem?_eq_some_iff.mp hj).1
  apply List.ext_getElem?
  intro i
  by_cases hi : i = j
  · subst hi
    rw [List.getElem?_set_self (by rw [List.length_map]; exact hl), List.getElem?_map, hj]
    show some (fv S' a t) = some v
    rw [hv]
  · rw [List.getElem?_set_ne (Ne.symm hi), List.getElem?_map, List.getElem?_map]
    cases hb : l[i]? with
    | none => rfl
    | some u =>
      have hu : u ≠ t := by
        intro h
        subst h
        have hil : i < l.length := (List.getElem?_eq_some_iff.mp hb).1
        exact hi ((List.getElem?_inj hil hn).mp (hb.trans hj.symm))
      show some (fv S' a u) = some (fv S a u)
      rw [ho u hu]
theorem eC_same {AC : Nat → ClassId} {S S' : HS} {b : Nat} (h1 : kd S' b = kd S b) (h2 : an S' b = an S b) (h3 : ai S' b = ai S b) (h4 : al S' b = al S b) (h5 : ar S' b = ar S b) (h6 : fv S' b = fv S b) : eC AC S' b = eC AC S b := by
  unfold eC
  rw [h1, h2, h3, h4, h5, h6]
theorem fv_b_sfi (S : HS) (k a : Nat) (v : Int32) {b : Nat} (hb : b ≠ a) : fv (sfi S k a v) b = fv S b := by
  funext t
  obtain ⟨t1, t2⟩ := t
  match t1 with
  | 0 => show Value.int (up2 (fi S) k a v t2 b) = _; rw [up2_a _ _ _ _ hb]; rfl
  | 1 => rfl
  | 2 => rfl
  | n + 3 => rfl
theorem fv_b_sfl (S : HS) (k a : Nat) (v : Int64) {b : Nat} (hb : b ≠ a) : fv (sfl S k a v) b = fv S b := by
  funext t
  obtain ⟨t1, t2⟩ := t
  match t1 with
  | 0 => rfl
  | 1 => show Value.long (up2 (fl S) k a v t2 b) = _; rw [up2_a _ _ _ _ hb]; rfl
  | 2 => rfl
  | n + 3 => rfl
theorem fv_b_sfr (S : HS) (k a : Nat) (v : Option Nat) {b : Nat} (hb : b ≠ a) : fv (sfr S k a v) b = fv S b := by
  funext t
  obtain ⟨t1, t2⟩ := t
  match t1 with
  | 0 => rfl
  | 1 => rfl
  | 2 => show va_rf (up2 (fr S) k a v t2 b) = _; rw [up2_a _ _ _ _ hb]; rfl
  | n + 3 => rfl
theorem fv_o_sfi (S : HS) (k a : Nat) (v : Int32) (t : Nat × Nat) (h : t ≠ (0, k)) : fv (sfi S k a v) a t = fv S a t := by
  obtain ⟨t1, t2⟩ := t
  match t1, h with
  | 0, h => show Value.int (up2 (fi S) k a v t2 a) = _; rw [up2_k _ _ _ _ (fun q => h (by rw [q]))]; rfl
  | 1, _ => rfl
  | 2, _ => rfl
  | n + 3, _ => rfl
theorem fv_o_sfl (S : HS) (k a : Nat) (v : Int64) (t : Nat × Nat) (h : t ≠ (1, k)) : fv (sfl S k a v) a t = fv S a t := by
  obtain ⟨t1, t2⟩ := t
  match t1, h with
  | 0, _ => rfl
  | 1, h => show Value.long (up2 (fl S) k a v t2 a) = _; rw [up2_k _ _ _ _ (fun q => h (by rw [q]))]; rfl
  | 2, _ => rfl
  | n + 3, _ => rfl
theorem fv_o_sfr (S : HS) (k a : Nat) (v : Option Nat) (t : Nat × Nat) (h : t ≠ (2, k)) : fv (sfr S k a v) a t = fv S a t := by
  obtain ⟨t1, t2⟩ := t
  match t1, h with
  | 0, _ => rfl
  | 1, _ => rfl
  | 2, h => show va_rf (up2 (fr S) k a v t2 a) = _; rw [up2_k _ _ _ _ (fun q => h (by rw [q]))]; rfl
  | n + 3, _ => rfl
theorem eC_sfi {AC : Nat → ClassId} {S : HS} {k a K j : Nat} (v : Int32) (hk : kd S a = K) (hK : aK K = 0) (hn : (lay K).Nodup) (hj : (lay K)[j]? = some (0, k)) : va_up (eC AC S) a (.inr (K - 1, ((lay K).map (fv S a)).set j (.int v))) = eC AC (sfi S k a v) := by
  refine eC_up (fun b hb => eC_same rfl rfl rfl rfl rfl (fv_b_sfi S k a v hb)) ?_
  rw [eC_obj (S := sfi S k a v) (show kd (sfi S k a v) a = K from hk) hK]
  rw [lay_set (S := S) (S' := sfi S k a v) (lay K) hn hj (v := .int v) (show Value.int (up2 (fi S) k a v k a) = _ by rw [up2_self]) (fun u hu => fv_o_sfi S k a v u hu)]
theorem eC_sfl {AC : Nat → ClassId} {S : HS} {k a K j : Nat} (v : Int64) (hk : kd S a = K) (hK : aK K = 0) (hn : (lay K).Nodup) (hj : (lay K)[j]? = some (1, k)) : va_up (eC AC S) a (.inr (K - 1, ((lay K).map (fv S a)).set j (.long v))) = eC AC (sfl S k a v) := by
  refine eC_up (fun b hb => eC_same rfl rfl rfl rfl rfl (fv_b_sfl S k a v hb)) ?_
  rw [eC_obj (S := sfl S k a v) (show kd (sfl S k a v) a = K from hk) hK]
  rw [lay_set (S := S) (S' := sfl S k a v) (lay K) hn hj (v := .long v) (show Value.long (up2 (fl S) k a v k a) = _ by rw [up2_self]) (fun u hu => fv_o_sfl S k a v u hu)]
theorem eC_sfr {AC : Nat → ClassId} {S : HS} {k a K j : Nat} (v : Option Nat) (hk : kd S a = K) (hK : aK K = 0) (hn : (lay K).Nodup) (hj : (lay K)[j]? = some (2, k)) : va_up (eC AC S) a (.inr (K - 1, ((lay K).map (fv S a)).set j (va_rf v))) = eC AC (sfr S k a v) := by
  refine eC_up (fun b hb => eC_same rfl rfl rfl rfl rfl (fv_b_sfr S k a v hb)) ?_
  rw [eC_obj (S := sfr S k a v) (show kd (sfr S k a v) a = K from hk) hK]
  rw [lay_set (S := S) (S' := sfr S k a v) (lay K) hn hj (v := va_rf v) (show va_rf (up2 (fr S) k a v k a) = _ by rw [up2_self]) (fun u hu => fv_o_sfr S k a v u hu)]
theorem up2_row {α : Type} (f : Nat → Nat → α) (a i : Nat) (v : α) : up2 f a i v a = va_up (f a) i v := by
  funext j
  simp [up2, va_up]
theorem up2_row' {α : Type} (f : Nat → Nat → α) {a b : Nat} (i : Nat) (v : α) (h : b ≠ a) : up2 f a i v b = f b := by
  funext j
  simp [up2, h]
theorem eC_sai {AC : Nat → ClassId} {S : HS} {a i K : Nat} (v : Int32) (hk : kd S a = K) (hK : aK K = 1) : va_up (eC AC S) a (.inl (AC K, an S a, .inl (upd (ai S a) i v))) = eC AC (sai S a i v) := by
  refine eC_up (fun b hb => eC_same rfl rfl (up2_row' _ _ _ hb) rfl rfl rfl) ?_
  rw [eC_ints (S := sai S a i v) (show kd (sai S a i v) a = K from hk) hK]
  show Sum.inl (AC K, an S a, Sum.inl (up2 (ai S) a i v a)) = _
  rw [up2_row]
  rfl
theorem eC_sal {AC : Nat → ClassId} {S : HS} {a i K : Nat} (v : Int64) (hk : kd S a = K) (hK : aK K = 2) : va_up (eC AC S) a (.inl (AC K, an S a, .inr (.inl (vp_updL (al S a) i v)))) = eC AC (sal S a i v) := by
  refine eC_up (fun b hb => eC_same rfl rfl rfl (up2_row' _ _ _ hb) rfl rfl) ?_
  rw [eC_longs (S := sal S a i v) (show kd (sal S a i v) a = K from hk) hK]
  show Sum.inl (AC K, an S a, Sum.inr (Sum.inl (up2 (al S) a i v a))) = _
  rw [up2_row]
  rfl
theorem eC_sar {AC : Nat → ClassId} {S : HS} {a i K : Nat} (v : Option Nat) (hk : kd S a = K) (hK : aK K = 3) : va_up (eC AC S) a (.inl (AC K, an S a, .inr (.inr (.inr (.inr (va_up (ar S a) i v)))))) = eC AC (sar S a i v) := by
  refine eC_up (fun b hb => eC_same rfl rfl rfl rfl (up2_row' _ _ _ hb) rfl) ?_
  rw [eC_refs (S := sar S a i v) (show kd (sar S a i v) a = K from hk) hK]
  show Sum.inl (AC K, an S a, Sum.inr (Sum.inr (Sum.inr (Sum.inr (up2 (ar S) a i v a))))) = _
  rw [up2_row]
-- the store's own order through each write
theorem hOk.sfi {S : HS} (h : hOk S) (k a : Nat) (v : Int32) : hOk (sfi S k a v) := h
theorem hOk.sfl {S : HS} (h : hOk S) (k a : Nat) (v : Int64) : hOk (sfl S k a v) := h
theorem hOk.sai {S : HS} (h : hOk S) (a i : Nat) (v : Int32) : hOk (sai S a i v) := h
theorem hOk.sal {S : HS} (h : hOk S) (a i : Nat) (v : Int64) : hOk (sal S a i v) := h
theorem hOk.sfr {S : HS} (h : hOk S) (k a : Nat) (v : Option Nat) (hv : ∀ b, v = some b → kd S b = rT k) : hOk (sfr S k a v) := by
  refine ⟨h.1, fun k' a' b ha hb => ?_, h.2.2⟩
  have hb' : up2 (fr S) k a v k' a' = some b := hb
  show kd S b = rT k'
  by_cases hc : k' = k ∧ a' = a
  · obtain ⟨rfl, rfl⟩ := hc
    rw [up2_self] at hb'
    exact hv b hb'
  · simp only [up2, hc, if_false] at hb'
    exact h.2.1 k' a' b ha hb'
theorem hOk.sar {S : HS} (h : hOk S) (a i : Nat) (v : Option Nat) (hv : ∀ b, v = some b → kd S b = aE (kd S a)) : hOk (sar S a i v) := by
  refine ⟨h.1, h.2.1, fun a' j b ha hb => ?_⟩
  have hb' : up2 (ar S) a i v a' j = some b := hb
  show kd S b = aE (kd S a')
  by_cases hc : a' = a ∧ j = i
  · obtain ⟨rfl, rfl⟩ := hc
    rw [up2_self] at hb'
    exact hv b hb'
  · simp only [up2, hc, if_false] at hb'
    exact h.2.2 a' j b ha hb'
theorem hOk.newQ {S : HS} (h : hOk S) {q K : Nat} (hq : q ∉ hL S) (hK : aE K = 0) (hO : ∀ k, rO k ≠ 0) (hT : ∀ k, rT k ≠ 0) (hE0 : aE 0 = 0) : hOk (newQ S q K) := by
  have k0 : kd S q = 0 := Classical.byContradiction fun z => hq (h.1 q z)
  have old : ∀ b, kd S b ≠ 0 → va_up (kd S) q K b = kd S b := fun b hb => va_up_ne _ _ (fun z => hb (by rw [z]; exact k0))
  refine ⟨fun a ha => ?_, fun k a b ha hb => ?_, fun a j b ha hb => ?_⟩
  · have ha' : va_up (kd S) q K a ≠ 0 := ha
    show a ∈ hL S ++ [q]
    by_cases hc : a = q
    · subst hc; exact List.mem_append_right _ List.mem_cons_self
    · rw [va_up_ne _ _ hc] at ha'
      exact List.mem_append_left _ (h.1 a ha')
  · have ha' : va_up (kd S) q K a = rO k := ha
    have hb' : zr (fr S) q none k a = some b := hb
    show va_up (kd S) q K b = rT k
    by_cases hc : a = q
    · simp [zr, hc] at hb'
    · rw [va_up_ne _ _ hc] at ha'
      simp only [zr, hc, if_false] at hb'
      have := h.2.1 k a b ha' hb'
      rw [old b (by rw [this]; exact hT k)]
      exact this
  · have ha' : aE (va_up (kd S) q K a) ≠ 0 := ha
    have hb' : ar S a j = some b := hb
    show va_up (kd S) q K b = aE (va_up (kd S) q K a)
    by_cases hc : a = q
    · subst hc; rw [va_up_self] at ha'; exact absurd hK ha'
    · rw [va_up_ne _ _ hc] at ha' ⊢
      have := h.2.2 a j b ha' hb'
      rw [old b (by rw [this]; exact ha')]
      exact this
theorem hOk.newB {S : HS} (h : hOk S) {q K n : Nat} (hq : q ∉ hL S) (hK : ∀ k, rO k ≠ K) (hO : ∀ k, rO k ≠ 0) (hT : ∀ k, rT k ≠ 0) : hOk (newB S q K n) := by
  have k0 : kd S q = 0 := Classical.byContradiction fun z => hq (h.1 q z)
  have old : ∀ b, kd S b ≠ 0 → va_up (kd S) q K b = kd S b := fun b hb => va_up_ne _ _ (fun z => hb (by rw [z]; exact k0))
  refine ⟨fun a ha => ?_, fun k a b ha hb => ?_, fun a j b ha hb => ?_⟩
  · have ha' : va_up (kd S) q K a ≠ 0 := ha
    show a ∈ hL S ++ [q]
    by_cases hc : a = q
    · subst hc; exact List.mem_append_right _ List.mem_cons_self
    · rw [va_up_ne _ _ hc] at ha'
      exact List.mem_append_left _ (h.1 a ha')
  · have ha' : va_up (kd S) q K a = rO k := ha
    have hb' : fr S k a = some b := hb
    show va_up (kd S) q K b = rT k
    by_cases hc : a = q
    · subst hc; rw [va_up_self] at ha'; exact absurd ha'.symm (hK k)
    · rw [va_up_ne _ _ hc] at ha'
      have := h.2.1 k a b ha' hb'
      rw [old b (by rw [this]; exact hT k)]
      exact this
  · have ha' : aE (va_up (kd S) q K a) ≠ 0 := ha
    have hb' : va_up (ar S) q (fun _ => none) a j = some b := hb
    show va_up (kd S) q K b = aE (va_up (kd S) q K a)
    by_cases hc : a = q
    · subst hc; rw [va_up_self] at hb'; cases hb'
    · rw [va_up_ne _ _ hc] at ha' ⊢ hb'
      have := h.2.2 a j b ha' hb'
      rw [old b (by rw [this]; exact ha')]
      exact this
theorem eC_newQ {AC : Nat → ClassId} {S : HS} {q K : Nat} (hq : q ∉ hL S) (hK : aK K = 0) : va_pl (hL S) (eC AC S) ++ [(q, .inr (K - 1, (lay K).map (fv (newQ S q K) q)))] = pool AC (newQ S q K) := by
  rw [va_pl_push hq]
  show va_pl (hL S ++ [q]) _ = va_pl (hL S ++ [q]) _
  congr 1
  refine eC_up (fun b hb => eC_same (va_up_ne _ _ hb) rfl rfl rfl rfl ?_) ?_
  · funext t
    obtain ⟨t1, t2⟩ := t
    match t1 with
    | 0 => show Value.int (zr (fi S) q 0 t2 b) = _; simp only [zr, hb, if_false]; rfl
    | 1 => show Value.long (zr (fl S) q 0 t2 b) = _; simp only [zr, hb, if_false]; rfl
    | 2 => show va_rf (zr (fr S) q none t2 b) = _; simp only [zr, hb, if_false]; rfl
    | n + 3 => rfl
  · exact eC_obj (show va_up (kd S) q K q = K from va_up_self _ _ _) hK
theorem fv_b_newB (S : HS) (q K n b : Nat) : fv (newB S q K n) b = fv S b := rfl
end
section
-- ROWS OVER THE STORE
section ROWS
variable {p : Program} {l : Launch} {e : Env} {R : Room} {s : State} {m : MethodId} {args : Array Value} {below : List Frame} {meth : Method} {c : Code} {H : Heap} {locs : List Loc} {cells slots : Nat} {Q : State → Prop}
variable {cc : ByteArray} {pc : Nat} {ls : Array Slot} {rest : List Value} {D : va_G} {AC : Nat → ClassId} {A : Nat → Prop} {H0 : Heap} {S : HS} {a K j k : Nat}
theorem Wd.in (hW : Wd D AC A s H0 H locs S) (hk : kd S a = K) (h0 : K ≠ 0) : ∃ q0 : Nat, (pool AC S)[q0]? = some (a, eC AC S a) :=
  va_pl_get (X := []) (f := eC AC S) (hW.2.2.2.2.2.1.1 a (by rw [hk]; exact h0))
theorem Wd.ok (hW : Wd D AC A s H0 H locs S) : hOk S := hW.2.2.2.2.2.1
theorem Wd.z (hW : Wd D AC A s H0 H locs S) : H.size = hz S := hW.2.2.2.2.2.2.1
theorem Wd.nx (hW : Wd D AC A s H0 H locs S) : NX s := hW.2.2.2.2.2.2.2.1
theorem Wd.t (hW : Wd D AC A s H0 H locs S) : hts H = tz S := hW.2.2.2.2.2.2.2.2
theorem Wd.wK (hW : Wd D AC A s H0 H locs S) : va_K D vwCl (aTys AC) s := hW.1
theorem Wd.wP (hW : Wd D AC A s H0 H locs S) : va_P D vwCl (pool AC S) H := hW.2.1
theorem Wd.wD (hW : Wd D AC A s H0 H locs S) : va_D A (pool AC S) := hW.2.2.1
theorem Wd.wS (hW : Wd D AC A s H0 H locs S) : va_S A H0 H locs := hW.2.2.2.1
theorem Wd.wA (hW : Wd D AC A s H0 H locs S) : ∀ q, H0.size ≤ q → A q := hW.2.2.2.2.1
/-- what a field of a class is: its class, its place among the class's fields, its tag -/
def fdOk (own ref C : String) (T : u_T) (N index K j tag k : Nat) : Prop := (K ≠ 0 ∧ aK K = 0 ∧ vwCl[K - 1]? = some (C, T, N) ∧ j < N ∧ (lay K)[j]? = some (tag, k) ∧ (lay K).Nodup) ∧ (∀ w ∈ u_ws C T N, w ∈ wT) ∧ Cond.fieldLink own index ref (T j).2.1 (T j).2.2.1 ∈ wT ∧ ref = (T j).1
theorem g_i {own ref C : String} {T : u_T} {N index : Nat} (F : fdOk own ref C T N index K j 0 k) (hexec : p.tables.exec = Jvm.exec) (hb : c.code = cc) (hts : ∀ w ∈ wT, w.before args s = true) (hown : s.vm.findClass own = some m.cls) (hW : Wd D AC A s H0 H locs S) (hk : kd S a = K) (hdg : decode cc pc = .ok (.getfield index, 3))
    (kk : W p l e R s m args below meth c H locs cells slots Q (F0 m (pc + 3) ls (.int (fi S k a) :: rest))) : W p l e R s m args below meth c H locs cells slots Q (F0 m pc ls (.ref a :: rest)) := by
  obtain ⟨⟨h0, hK, hc, hj, hl, -⟩, hin, hlink, hrf⟩ := F
  obtain ⟨q0, hq⟩ := hW.in hk h0
  rw [eC_obj hk hK] at hq
  exact va_get hexec hb hts hin hown hW.wK hW.wP q0 hq hc j hj (hts _ hlink) (fun x h => by rw [hrf]; exact h) (v := .int (fi S k a)) (by rw [List.getElem?_map, hl]; rfl) hdg kk
theorem g_l {own ref C : String} {T : u_T} {N index : Nat} (F : fdOk own ref C T N index K j 1 k) (hexec : p.tables.exec = Jvm.exec) (hb : c.code = cc) (hts : ∀ w ∈ wT, w.before args s = true) (hown : s.vm.findClass own = some m.cls) (hW : Wd D AC A s H0 H locs S) (hk : kd S a = K) (hdg : decode cc pc = .ok (.getfield index, 3))
    (kk : W p l e R s m args below meth c H locs cells slots Q (F0 m (pc + 3) ls (.long (fl S k a) :: rest))) : W p l e R s m args below meth c H locs cells slots Q (F0 m pc ls (.ref a :: rest)) := by
  obtain ⟨⟨h0, hK, hc, hj, hl, -⟩, hin, hlink, hrf⟩ := F
  obtain ⟨q0, hq⟩ := hW.in hk h0
  rw [eC_obj hk hK] at hq
  exact va_get hexec hb hts hin hown hW.wK hW.wP q0 hq hc j hj (hts _ hlink) (fun x h => by rw [hrf]; exact h) (v := .long (fl S k a)) (by rw [List.getElem?_map, hl]; rfl) hdg kk
/-- a field of references: null, or an object of the field's own kind -/
theorem g_r {own ref C : String} {T : u_T} {N index : Nat} (F : fdOk own ref C T N index K j 2 k) (hO : rO k = K) (hexec : p.tables.exec = Jvm.exec) (hb : c.code = cc) (hts : ∀ w ∈ wT, w.before args s = true) (hown : s.vm.findClass own = some m.cls) (hW : Wd D AC A s H0 H locs S) (hk : kd S a = K) (hdg : decode cc pc = .ok (.getfield index, 3))
    (kn : fr S k a = none → W p l e R s m args below meth c H locs cells slots Q (F0 m (pc + 3) ls (.null :: rest))) (ks : ∀ b, fr S k a = some b → kd S b = rT k → W p l e R s m args below meth c H locs cells slots Q (F0 m (pc + 3) ls (.ref b :: rest))) : W p l e R s m args below meth c H locs cells slots Q (F0 m pc ls (.ref a :: rest)) := by
  obtain ⟨⟨h0, hK, hc, hj, hl, -⟩, hin, hlink, hrf⟩ := F
  obtain ⟨q0, hq⟩ := hW.in hk h0
  rw [eC_obj hk hK] at hq
  refine va_get hexec hb hts hin hown hW.wK hW.wP q0 hq hc j hj (hts _ hlink) (fun x h => by rw [hrf]; exact h) (v := va_rf (fr S k a)) (by rw [List.getElem?_map, hl]; rfl) hdg ?_
  cases hf : fr S k a with
  | none => exact kn hf
  | some b => exact ks b hf (hW.ok.2.1 k a b (by rw [hk, hO]) hf)
theorem g_q {own ref C : String} {T : u_T} {N index : Nat} (F : fdOk own ref C T N index K j 2 k) (hexec : p.tables.exec = Jvm.exec) (hb : c.code = cc) (hts : ∀ w ∈ wT, w.before args s = true) (hown : s.vm.findClass own = some m.cls) (hW : Wd D AC A s H0 H locs S) (hk : kd S a = K) (hdg : decode cc pc = .ok (.getfield index, 3))
    (kk : W p l e R s m args below meth c H locs cells slots Q (F0 m (pc + 3) ls (va_rf (fr S k a) :: rest))) : W p l e R s m args below meth c H locs cells slots Q (F0 m pc ls (.ref a :: rest)) := by
  obtain ⟨⟨h0, hK, hc, hj, hl, -⟩, hin, hlink, hrf⟩ := F
  obtain ⟨q0, hq⟩ := hW.in hk h0
  rw [eC_obj hk hK] at hq
  exact va_get hexec hb hts hin hown hW.wK hW.wP q0 hq hc j hj (hts _ hlink) (fun x h => by rw [hrf]; exact h) (v := va_rf (fr S k a)) (by rw [List.getElem?_map, hl]; rfl) hdg kk
/-- a write at one address: the store behind it -/
theorem Wd.put (hW : Wd D AC A s H0 H locs S) {q0 i0 : Nat} {x : va_E} {S' : HS} {H1 : Heap} (hq : (pool AC S)[q0]? = some (a, eC AC S a)) (ha : a ∈ hL S) (hL' : hL S' = hL S) (hz' : hz S' = hz S ∧ tz S' = tz S) (he : va_up (eC AC S) a x = eC AC S') (hk : hOk S') {c0 : Cell} {iw : Nat} {vw : Value} (hc0 : H[a]? = some c0) (hc1 : H1[a]? = some (c0.setSlot iw vw))
    (h1 : va_at D vwCl (a, x) H1) (h2 : H1.size = H.size) (h3 : ∀ q : Nat, q ≠ a → H1[q]? = H[q]?) : Wd D AC A s H0 H1 (locs ++ [⟨a, i0⟩]) S' := by
  have p1 := hW.wP.set hW.wD hq h1 h3
  have p2 := hW.wD.set (e := x) hq
  have e : (pool AC S).set q0 (a, x) = pool AC S' := by
    have := va_pl_set (X := []) (e := x) hW.wD ha hq
    rw [show (pool AC S).set q0 (a, x) = ([] ++ va_pl (hL S) (eC AC S)).set q0 (a, x) from rfl, this, he]
    show va_pl (hL S) (eC AC S') = va_pl (hL S') (eC AC S')
    rw [hL']
  rw [e] at p1 p2
  exact ⟨hW.wK, p1, p2, hW.wS.put h2 h3 (hW.wD.2 q0 _ hq), hW.wA, hk, by rw [h2, hz'.1]; exact hW.z, hW.nx, by
    rw [hz'.2, ← hW.t]
    refine hts_same h2 (fun q c hc => ?_)
    by_cases hqa : q = a
    · subst hqa
      rw [hc0] at hc
      cases hc
      exact ⟨_, hc1, by simp [Cell.setSlot]⟩
    · exact ⟨c, by rw [h3 q hqa]; exact hc, rfl⟩⟩
/-- what a field is that may be written -/
def fdPut (T : u_T) (N j : Nat) (ty : FieldType) (fin : Bool) : Prop := (T j).2.2.2 = fin ∧ parseFieldDescriptor (T j).2.2.1 = some ty ∧ (∃ ty0 : Nat → FieldType, ∀ k, k < N → parseFieldDescriptor (T k).2.2.1 = some (ty0 k)) ∧ (∀ a, a < N → ∀ b, b < N → a ≠ b → (T a).2.1 ≠ (T b).2.1)
/-- a field's own write: of a final one in its constructor -/
theorem p_v {own ref C : String} {T : u_T} {N index tag : Nat} {ty : FieldType} {fin : Bool} {v : Value} {S' : HS} (F : fdOk own ref C T N index K j tag k) (G : fdPut T N j ty fin) (hinit : fin = true → meth.name = "<init>" ∧ (T j).1 = own) (hexec : p.tables.exec = Jvm.exec) (hb : c.code = cc) (hts : ∀ w ∈ wT, w.before args s = true) (hown : s.vm.findClass own = some m.cls) (hW : Wd D AC A s H0 H locs S) (hk : kd S a = K) (hn : narrow ty v = v) (hfit : fits ty v = true)
    (hL' : hL S' = hL S) (hz' : hz S' = hz S ∧ tz S' = tz S) (he : va_up (eC AC S) a (.inr (K - 1, ((lay K).map (fv S a)).set j v)) = eC AC S') (hok : hOk S') (hdg : decode cc pc = .ok (.putfield index, 3))
    (kk : ∀ (H1 : Heap) (locs1 : List Loc), Wd D AC A s H0 H1 locs1 S' → W p l e R s m args below meth c H1 locs1 cells slots Q (F0 m (pc + 3) ls rest)) : W p l e R s m args below meth c H locs cells slots Q (F0 m pc ls (v :: .ref a :: rest)) := by
  obtain ⟨⟨h0, hK, hc, hj, hl, hnd⟩, hin, hlink, hrf⟩ := F
  obtain ⟨hfin, hd, ⟨ty0, hty⟩, hnm⟩ := G
  obtain ⟨q0, hq0⟩ := hW.in hk h0
  have ha := hW.ok.1 a (by rw [hk]; exact h0)
  have hq := hq0
  rw [eC_obj hk hK] at hq
  have hlen : j < ((lay K).map (fv S a)).length := by rw [List.length_map]; exact (List.getElem?_eq_some_iff.mp hl).1
  have hap := va_apart (own := own) hts hin ty0 hty hnm hW.wK hc
  obtain ⟨r, e1, cell, q1, q2, q3, q4⟩ := hW.wP q0 _ hq
  obtain rfl : r = (C, T, N) := Option.some.inj (e1.symm.trans hc)
  obtain ⟨hSl, hfc, kC, hkC, hkind⟩ := hW.wK.1 (K - 1) _ hc
  obtain ⟨cf, kf, fx, f, hi, hsl⟩ := hSl j hj
  have hst := (u_facts hfc hkC (u_lays hts hin hj) hi).1
  have hlay := hts _ (hin _ (u_in_lay hj))
  unfold u_lay at hlay
  subst hrf
  have hat : ∀ {H1 : Heap}, H1[a]? = some (cell.setSlot f.slot v) → va_at D vwCl (a, .inr (K - 1, ((lay K).map (fv S a)).set j v)) H1 := by
    intro H1 g1
    rw [hsl] at g1
    exact ⟨_, hc, t_OB.to (V := updV (vp_V ((lay K).map (fv S a))) j v) ⟨_, g1, q2, q3, t_set q4 hap hj v⟩ (fun i _ => vp_updV_set hlen v i)⟩
  cases hf : fin with
  | false =>
    rw [if_neg (by rw [hfin, hf]; decide)] at hlay
    have h6 := u_store hfc hkC hkind hlay hi hd hn hfit
    exact W.putK hexec hb (f := f) ⟨hown, hts _ hlink, ⟨_, _, _, hi⟩, hst⟩ (by rw [q2]; exact h6) q1 q3 (by rw [hsl]; exact k2_hasslot (q4 j hj)) rfl rfl hdg (fun H' g1 g2 g3 => kk H' _ (hW.put hq0 ha hL' hz' he hok q1 g1 (hat g1) g2 g3))
  | true =>
    rw [if_pos (by rw [hfin, hf])] at hlay
    obtain ⟨hi2, hdc⟩ := hinit hf
    have hcf : m.cls = cf := by
      obtain ⟨_, _, c', _, _, _, -, -, hf', -, -, -, hown2, -⟩ := Cond.laysFinal_spec hlay
      have e1 : c' = cf := by have := hi.symm.trans hf'; simp at this; exact this.1.symm
      rw [hdc] at hown2
      rw [← e1]; exact Option.some.inj (hown.symm.trans hown2)
    have h6 := u_fits hfc hkC hkind (Or.inr hlay) hi hd hn hfit
    exact W.putFinK hexec hb hown (hts _ hlink) hi hst hcf hi2 (by rw [q2]; exact h6) q1 q3 (by rw [hsl]; exact k2_hasslot (q4 j hj)) rfl rfl hdg (fun H' g1 g2 g3 => kk H' _ (hW.put hq0 ha hL' hz' he hok q1 g1 (hat g1) g2 g3))
theorem p_i {own ref C : String} {T : u_T} {N index : Nat} {ty : FieldType} {fin : Bool} {v : Int32} (F : fdOk own ref C T N index K j 0 k) (G : fdPut T N j ty fin) (hinit : fin = true → meth.name = "<init>" ∧ (T j).1 = own) (hexec : p.tables.exec = Jvm.exec) (hb : c.code = cc) (hts : ∀ w ∈ wT, w.before args s = true) (hown : s.vm.findClass own = some m.cls) (hW : Wd D AC A s H0 H locs S) (hk : kd S a = K) (hn : narrow ty (.int v) = .int v) (hfit : fits ty (.int v) = true) (hdg : decode cc pc = .ok (.putfield index, 3))
    (kk : ∀ (H1 : Heap) (locs1 : List Loc), Wd D AC A s H0 H1 locs1 (sfi S k a v) → W p l e R s m args below meth c H1 locs1 cells slots Q (F0 m (pc + 3) ls rest)) : W p l e R s m args below meth c H locs cells slots Q (F0 m pc ls (.int v :: .ref a :: rest)) :=
  p_v (S' := sfi S k a v) F G hinit hexec hb hts hown hW hk hn hfit rfl ⟨rfl, rfl⟩ (eC_sfi v hk F.1.2.1 F.1.2.2.2.2.2 F.1.2.2.2.2.1) (hW.ok.sfi k a v) hdg kk
theorem p_l {own ref C : String} {T : u_T} {N index : Nat} {fin : Bool} {v : Int64} (F : fdOk own ref C T N index K j 1 k) (G : fdPut T N j .long fin) (hinit : fin = true → meth.name = "<init>" ∧ (T j).1 = own) (hexec : p.tables.exec = Jvm.exec) (hb : c.code = cc) (hts : ∀ w ∈ wT, w.before args s = true) (hown : s.vm.findClass own = some m.cls) (hW : Wd D AC A s H0 H locs S) (hk : kd S a = K) (hdg : decode cc pc = .ok (.putfield index, 3))
    (kk : ∀ (H1 : Heap) (locs1 : List Loc), Wd D AC A s H0 H1 locs1 (sfl S k a v) → W p l e R s m args below meth c H1 locs1 cells slots Q (F0 m (pc + 3) ls rest)) : W p l e R s m args below meth c H locs cells slots Q (F0 m pc ls (.long v :: .ref a :: rest)) :=
  p_v (S' := sfl S k a v) F G hinit hexec hb hts hown hW hk rfl rfl rfl ⟨rfl, rfl⟩ (eC_sfl v hk F.1.2.1 F.1.2.2.2.2.2 F.1.2.2.2.2.1) (hW.ok.sfl k a v) hdg kk
theorem p_r {own ref C : String} {T : u_T} {N index : Nat} {ty : FieldType} {fin : Bool} {b : Nat} (F : fdOk own ref C T N index K j 2 k) (G : fdPut T N j ty fin) (hty : narrow ty (.ref b) = .ref b ∧ fits ty (.ref b) = true) (hinit : fin = true → meth.name = "<init>" ∧ (T j).1 = own) (hexec : p.tables.exec = Jvm.exec) (hb : c.code = cc) (hts : ∀ w ∈ wT, w.before args s = true) (hown : s.vm.findClass own = some m.cls) (hW : Wd D AC A s H0 H locs S) (hk : kd S a = K) (hkb : kd S b = rT k) (hdg : decode cc pc = .ok (.putfield index, 3))
    (kk : ∀ (H1 : Heap) (locs1 : List Loc), Wd D AC A s H0 H1 locs1 (sfr S k a (some b)) → W p l e R s m args below meth c H1 locs1 cells slots Q (F0 m (pc + 3) ls rest)) : W p l e R s m args below meth c H locs cells slots Q (F0 m pc ls (.ref b :: .ref a :: rest)) :=
  p_v (S' := sfr S k a (some b)) F G hinit hexec hb hts hown hW hk hty.1 hty.2 rfl ⟨rfl, rfl⟩ (eC_sfr (some b) hk F.1.2.1 F.1.2.2.2.2.2 F.1.2.2.2.2.1) (hW.ok.sfr k a (some b) (fun x h => by cases h; exact hkb)) hdg kk
theorem p_n {own ref C : String} {T : u_T} {N index : Nat} {ty : FieldType} {fin : Bool} (F : fdOk own ref C T N index K j 2 k) (G : fdPut T N j ty fin) (hty : narrow ty .null = .null ∧ fits ty .null = true) (hinit : fin = true → meth.name = "<init>" ∧ (T j).1 = own) (hexec : p.tables.exec = Jvm.exec) (hb : c.code = cc) (hts : ∀ w ∈ wT, w.before args s = true) (hown : s.vm.findClass own = some m.cls) (hW : Wd D AC A s H0 H locs S) (hk : kd S a = K) (hdg : decode cc pc = .ok (.putfield index, 3))
    (kk : ∀ (H1 : Heap) (locs1 : List Loc), Wd D AC A s H0 H1 locs1 (sfr S k a none) → W p l e R s m args below meth c H1 locs1 cells slots Q (F0 m (pc + 3) ls rest)) : W p l e R s m args below meth c H locs cells slots Q (F0 m pc ls (.null :: .ref a :: rest)) :=
  p_v (S' := sfr S k a none) F G hinit hexec hb hts hown hW hk hty.1 hty.2 rfl ⟨rfl, rfl⟩ (eC_sfr none hk F.1.2.1 F.1.2.2.2.2.2 F.1.2.2.2.2.1) (hW.ok.sfr k a none (fun x h => by cases h)) hdg kk
theorem p_q {own ref C : String} {T : u_T} {N index : Nat} {ty : FieldType} {fin : Bool} {o : Option Nat} (F : fdOk own ref C T N index K j 2 k) (G : fdPut T N j ty fin) (hty : (∀ b, narrow ty (.ref b) = .ref b) ∧ (∀ b, fits ty (.ref b) = true) ∧ narrow ty .null = .null ∧ fits ty .null = true) (hinit : fin = true → meth.name = "<init>" ∧ (T j).1 = own) (hexec : p.tables.exec = Jvm.exec) (hb : c.code = cc) (hts : ∀ w ∈ wT, w.before args s = true) (hown : s.vm.findClass own = some m.cls) (hW : Wd D AC A s H0 H locs S) (hk : kd S a = K) (hkb : ∀ b, o = some b → kd S b = rT k) (hdg : decode cc pc = .ok (.putfield index, 3))
    (kk : ∀ (H1 : Heap) (locs1 : List Loc), Wd D AC A s H0 H1 locs1 (sfr S k a o) → W p l e R s m args below meth c H1 locs1 cells slots Q (F0 m (pc + 3) ls rest)) : W p l e R s m args below meth c H locs cells slots Q (F0 m pc ls (va_rf o :: .ref a :: rest)) := by
  cases o with
  | none => exact p_n F G hty.2.2 hinit hexec hb hts hown hW hk hdg kk
  | some b => exact p_r F G ⟨hty.1 b, hty.2.1 b⟩ hinit hexec hb hts hown hW hk (hkb b rfl) hdg kk
-- arrays: t0 the place of the kind in aTys
theorem a_il {t0 : Nat} {i : Int32} (hK : K ≠ 0 ∧ aK K = 1) (ht : (aTys AC)[t0]? = some (AC K, .int)) (hexec : p.tables.exec = Jvm.exec) (hb : c.code = cc) (hW : Wd D AC A s H0 H locs S) (hk : kd S a = K) (hin : vp_in i (an S a)) (hdg : decode cc pc = .ok (.iaload, 1))
    (kk : W p l e R s m args below meth c H locs cells slots Q (F0 m (pc + 1) ls (.int (ai S a i.toNatClampNeg) :: rest))) : W p l e R s m args below meth c H locs cells slots Q (F0 m pc ls (.int i :: .ref a :: rest)) := by
  obtain ⟨q0, hq⟩ := hW.in hk hK.1
  rw [eC_ints hk hK.2] at hq
  exact va_iald hexec hb hW.wK hW.wP q0 t0 hq ht hin hdg kk
theorem a_zl {t0 : Nat} {i : Int32} (hK : K ≠ 0 ∧ aK K = 1) (ht : (aTys AC)[t0]? = some (AC K, .boolean)) (hexec : p.tables.exec = Jvm.exec) (hb : c.code = cc) (hW : Wd D AC A s H0 H locs S) (hk : kd S a = K) (hin : vp_in i (an S a)) (hdg : decode cc pc = .ok (.baload, 1))
    (kk : W p l e R s m args below meth c H locs cells slots Q (F0 m (pc + 1) ls (.int (ai S a i.toNatClampNeg) :: rest))) : W p l e R s m args below meth c H locs cells slots Q (F0 m pc ls (.int i :: .ref a :: rest)) := by
  obtain ⟨q0, hq⟩ := hW.in hk hK.1
  rw [eC_ints hk hK.2] at hq
  exact va_zald hexec hb hW.wK hW.wP q0 t0 hq ht hin hdg kk
theorem a_ll {t0 : Nat} {i : Int32} (hK : K ≠ 0 ∧ aK K = 2) (ht : (aTys AC)[t0]? = some (AC K, .long)) (hexec : p.tables.exec = Jvm.exec) (hb : c.code = cc) (hW : Wd D AC A s H0 H locs S) (hk : kd S a = K) (hin : vp_in i (an S a)) (hdg : decode cc pc = .ok (.laload, 1))
    (kk : W p l e R s m args below meth c H locs cells slots Q (F0 m (pc + 1) ls (.long (al S a i.toNatClampNeg) :: rest))) : W p l e R s m args below meth c H locs cells slots Q (F0 m pc ls (.int i :: .ref a :: rest)) := by
  obtain ⟨q0, hq⟩ := hW.in hk hK.1
  rw [eC_longs hk hK.2] at hq
  exact va_lald hexec hb hW.wK hW.wP q0 t0 hq ht hin hdg kk
theorem a_rl {t0 : Nat} {C : String} {i : Int32} (hK : K ≠ 0 ∧ aK K = 3 ∧ aE K ≠ 0) (ht : (aTys AC)[t0]? = some (AC K, .object C)) (hexec : p.tables.exec = Jvm.exec) (hb : c.code = cc) (hW : Wd D AC A s H0 H locs S) (hk : kd S a = K) (hin : vp_in i (an S a)) (hdg : decode cc pc = .ok (.aaload, 1))
    (kn : ar S a i.toNatClampNeg = none → W p l e R s m args below meth c H locs cells slots Q (F0 m (pc + 1) ls (.null :: rest))) (ks : ∀ b, ar S a i.toNatClampNeg = some b → kd S b = aE K → W p l e R s m args below meth c H locs cells slots Q (F0 m (pc + 1) ls (.ref b :: rest))) : W p l e R s m args below meth c H locs cells slots Q (F0 m pc ls (.int i :: .ref a :: rest)) := by
  obtain ⟨q0, hq⟩ := hW.in hk hK.1
  rw [eC_refs hk hK.2.1] at hq
  refine va_aldq hexec hb hW.wK hW.wP q0 t0 hq ht hin hdg ?_
  cases hf : ar S a i.toNatClampNeg with
  | none => exact kn hf
  | some b => exact ks b hf (by have := hW.ok.2.2 a _ b (by rw [hk]; exact hK.2.2) hf; rw [hk] at this; exact this)
theorem a_q {t0 : Nat} {C : String} {i : Int32} (hK : K ≠ 0 ∧ aK K = 3 ∧ aE K ≠ 0) (ht : (aTys AC)[t0]? = some (AC K, .object C)) (hexec : p.tables.exec = Jvm.exec) (hb : c.code = cc) (hW : Wd D AC A s H0 H locs S) (hk : kd S a = K) (hin : vp_in i (an S a)) (hdg : decode cc pc = .ok (.aaload, 1))
    (kk : W p l e R s m args below meth c H locs cells slots Q (F0 m (pc + 1) ls (va_rf (ar S a i.toNatClampNeg) :: rest))) : W p l e R s m args below meth c H locs cells slots Q (F0 m pc ls (.int i :: .ref a :: rest)) := by
  obtain ⟨q0, hq⟩ := hW.in hk hK.1
  rw [eC_refs hk hK.2.1] at hq
  exact va_aldq hexec hb hW.wK hW.wP q0 t0 hq ht hin hdg kk
theorem a_len {t0 : Nat} {ty : FieldType} (hK : K ≠ 0 ∧ aK K ≠ 0) (ht : (aTys AC)[t0]? = some (AC K, ty)) (hexec : p.tables.exec = Jvm.exec) (hb : c.code = cc) (hW : Wd D AC A s H0 H locs S) (hk : kd S a = K) (hdg : decode cc pc = .ok (.arraylength, 1))
    (kk : W p l e R s m args below meth c H locs cells slots Q (F0 m (pc + 1) ls (.int (nI (an S a)) :: rest))) : W p l e R s m args below meth c H locs cells slots Q (F0 m pc ls (.ref a :: rest)) := by
  obtain ⟨q0, hq⟩ := hW.in hk hK.1
  have : ∃ x : vp_A, eC AC S a = .inl (AC K, x) ∧ x.1 = an S a := by
    match hc : aK K with
    | 0 => exact absurd hc hK.2
    | 1 => exact ⟨_, eC_ints hk hc, rfl⟩
    | 2 => exact ⟨_, eC_longs hk hc, rfl⟩
    | n + 3 => exact ⟨(an S a, .inr (.inr (.inr (.inr (ar S a))))), by simp only [eC, hk, hc], rfl⟩
  obtain ⟨x, hx, hn⟩ := this
  rw [hx] at hq
  exact va_alen hexec hb hW.wK hW.wP q0 t0 hq ht (by rw [hn]; rfl) hdg kk
theorem Wd.arr (hW : Wd D AC A s H0 H locs S) (hk : kd S a = K) (h0 : K ≠ 0) {x : ClassId × vp_A} (hx : eC AC S a = .inl x) : H[a]? = some (vp_cell x.1 x.2) := by
  obtain ⟨q0, hq⟩ := hW.in hk h0
  rw [hx] at hq
  exact hW.wP q0 _ hq
theorem Wd.in_arr (hW : Wd D AC A s H0 H locs S) (hk : kd S a = K) (h0 : K ≠ 0) {x : va_E} {i0 : Nat} {S' : HS} {H1 : Heap} (hL' : hL S' = hL S) (hz' : hz S' = hz S ∧ tz S' = tz S) (he : va_up (eC AC S) a x = eC AC S') (hok : hOk S') {c0 : Cell} {iw : Nat} {vw : Value} (hc0 : H[a]? = some c0) (hc1 : H1[a]? = some (c0.setSlot iw vw)) (h1 : va_at D vwCl (a, x) H1) (h2 : H1.size = H.size) (h3 : ∀ q : Nat, q ≠ a → H1[q]? = H[q]?) : Wd D AC A s H0 H1 (locs ++ [⟨a, i0⟩]) S' := by
  obtain ⟨q0, hq⟩ := hW.in hk h0
  exact hW.put hq (hW.ok.1 a (by rw [hk]; exact h0)) hL' hz' he hok hc0 hc1 h1 h2 h3
theorem a_is {t0 : Nat} {i v : Int32} (hK : K ≠ 0 ∧ aK K = 1) (ht : (aTys AC)[t0]? = some (AC K, .int)) (hexec : p.tables.exec = Jvm.exec) (hb : c.code = cc) (hW : Wd D AC A s H0 H locs S) (hk : kd S a = K) (hin : vp_in i (an S a)) (hdg : decode cc pc = .ok (.iastore, 1))
    (kk : ∀ (H1 : Heap) (locs1 : List Loc), Wd D AC A s H0 H1 locs1 (sai S a i.toNatClampNeg v) → W p l e R s m args below meth c H1 locs1 cells slots Q (F0 m (pc + 1) ls rest)) : W p l e R s m args below meth c H locs cells slots Q (F0 m pc ls (.int v :: .int i :: .ref a :: rest)) := by
  refine W.iast hexec hb (hW.arr hk hK.1 (eC_ints hk hK.2)) ((hW.wK.2 t0 _ ht).1 (an S a) (fun j => .int (ai S a j))) (fun q => by cases q) (by show ¬ (i < 0 ∨ (arrV _ _ _).slots.size ≤ _); rw [arrV_size]; exact hin) rfl rfl hdg (fun H1 g1 g2 g3 => kk H1 _ (hW.in_arr hk hK.1 rfl ⟨rfl, rfl⟩ (eC_sai v hk hK.2) (hW.ok.sai _ _ _) (hW.arr hk hK.1 (eC_ints hk hK.2)) g1 ?_ g2 g3))
  show H1[a]? = some (vp_cell _ _)
  rw [g1, vp_cell_i, vp_cell_i, arrV_store]
  congr 2
  funext q
  by_cases hq : q = i.toNatClampNeg
  · subst hq; simp [updV, upd]
  · simp [updV, upd, hq]
theorem a_zs {t0 : Nat} {i v : Int32} (hK : K ≠ 0 ∧ aK K = 1) (ht : (aTys AC)[t0]? = some (AC K, .boolean)) (hexec : p.tables.exec = Jvm.exec) (hb : c.code = cc) (hW : Wd D AC A s H0 H locs S) (hk : kd S a = K) (hin : vp_in i (an S a)) (hv : v = 0 ∨ v = 1) (hdg : decode cc pc = .ok (.bastore, 1))
    (kk : ∀ (H1 : Heap) (locs1 : List Loc), Wd D AC A s H0 H1 locs1 (sai S a i.toNatClampNeg v) → W p l e R s m args below meth c H1 locs1 cells slots Q (F0 m (pc + 1) ls rest)) : W p l e R s m args below meth c H locs cells slots Q (F0 m pc ls (.int v :: .int i :: .ref a :: rest)) := by
  refine W.zast hexec hb (hW.arr hk hK.1 (eC_ints hk hK.2)) ((hW.wK.2 t0 _ ht).1 (an S a) (fun j => .int (ai S a j))) (fun q => by cases q) (by show ¬ (i < 0 ∨ (arrV _ _ _).slots.size ≤ _); rw [arrV_size]; exact hin) rfl rfl hdg (fun H1 g1 g2 g3 => kk H1 _ (hW.in_arr hk hK.1 rfl ⟨rfl, rfl⟩ (eC_sai v hk hK.2) (hW.ok.sai _ _ _) (hW.arr hk hK.1 (eC_ints hk hK.2)) g1 ?_ g2 g3))
  show H1[a]? = some (vp_cell _ _)
  have hv1 : narrow .boolean (.int v) = .int v := by rcases hv with rfl | rfl <;> rfl
  rw [g1, vp_cell_i, vp_cell_i, arrV_store]
  congr 2
  funext q
  by_cases hq : q = i.toNatClampNeg
  · subst hq; simp [updV, upd, hv1]
  · simp [updV, upd, hq]
theorem a_ls {t0 : Nat} {i : Int32} {v : Int64} (hK : K ≠ 0 ∧ aK K = 2) (ht : (aTys AC)[t0]? = some (AC K, .long)) (hexec : p.tables.exec = Jvm.exec) (hb : c.code = cc) (hW : Wd D AC A s H0 H locs S) (hk : kd S a = K) (hin : vp_in i (an S a)) (hdg : decode cc pc = .ok (.lastore, 1))
    (kk : ∀ (H1 : Heap) (locs1 : List Loc), Wd D AC A s H0 H1 locs1 (sal S a i.toNatClampNeg v) → W p l e R s m args below meth c H1 locs1 cells slots Q (F0 m (pc + 1) ls rest)) : W p l e R s m args below meth c H locs cells slots Q (F0 m pc ls (.long v :: .int i :: .ref a :: rest)) := by
  refine W.last hexec hb (hW.arr hk hK.1 (eC_longs hk hK.2)) ((hW.wK.2 t0 _ ht).1 (an S a) (fun j => .long (al S a j))) (fun q => by cases q) (by show ¬ (i < 0 ∨ (arrV _ _ _).slots.size ≤ _); rw [arrV_size]; exact hin) rfl rfl hdg (fun H1 g1 g2 g3 => kk H1 _ (hW.in_arr hk hK.1 rfl ⟨rfl, rfl⟩ (eC_sal v hk hK.2) (hW.ok.sal _ _ _) (hW.arr hk hK.1 (eC_longs hk hK.2)) g1 ?_ g2 g3))
  show H1[a]? = some (vp_cell _ _)
  rw [g1, vp_cell_l, vp_cell_l, arrV_store]
  congr 2
  funext q
  by_cases hq : q = i.toNatClampNeg
  · subst hq; simp [updV, vp_updL]
  · simp [updV, vp_updL, hq]
theorem a_rs {t0 b : Nat} {r : vw_C} {i : Int32} (hK : K ≠ 0 ∧ aK K = 3 ∧ aE K ≠ 0) (ht : (aTys AC)[t0]? = some (AC K, .object r.1)) (hE : aK (aE K) = 0 ∧ vwCl[aE K - 1]? = some r) (hexec : p.tables.exec = Jvm.exec) (hb : c.code = cc) (hW : Wd D AC A s H0 H locs S) (hk : kd S a = K) (hkb : kd S b = aE K) (hin : vp_in i (an S a)) (hdg : decode cc pc = .ok (.aastore, 1))
    (kk : ∀ (H1 : Heap) (locs1 : List Loc), Wd D AC A s H0 H1 locs1 (sar S a i.toNatClampNeg (some b)) → W p l e R s m args below meth c H1 locs1 cells slots Q (F0 m (pc + 1) ls rest)) : W p l e R s m args below meth c H locs cells slots Q (F0 m pc ls (.ref b :: .int i :: .ref a :: rest)) := by
  have hlt : i.toNatClampNeg < an S a := Nat.not_le.mp fun q => hin (Or.inr q)
  have h0 : ¬ i < 0 := fun q => hin (Or.inl q)
  obtain ⟨qb, hqb⟩ := hW.in hkb hK.2.2
  rw [eC_obj hkb hE.1] at hqb
  obtain ⟨r', hr', cellV, g1, g2, g3, -⟩ := hW.wP qb _ hqb
  have hcls := (hW.wK.1 (aE K - 1) r hE.2).2
  obtain ⟨kA, comp, k1, k2, k3, -⟩ := (hW.wK.2 t0 _ ht).2
  obtain rfl : comp = D.1 (aE K - 1) := Option.some.inj (k3.symm.trans hcls.1)
  obtain ⟨kC, hkC, -⟩ := hcls.2
  refine W.aast hexec hb (hW.arr hk hK.1 (eC_refs hk hK.2.1)) (fun q h => by cases h) (fun h => by cases h) k1 k2 rfl hkC ⟨h0, by show _ < (arrV _ _ _).slots.size; rw [arrV_size]; exact hlt⟩ g1 (fun q h => by rw [g3] at h; cases h) (by rw [g2]; exact hkC) (by rw [g2]; exact va_assign hcls) rfl rfl hdg (fun H1 e1 e2 e3 => kk H1 _ (hW.in_arr hk hK.1 rfl ⟨rfl, rfl⟩ (eC_sar (some b) hk hK.2.1) (hW.ok.sar _ _ _ (fun x h => by cases h; rw [hk]; exact hkb)) (hW.arr hk hK.1 (eC_refs hk hK.2.1)) e1 ?_ e2 e3))
  show H1[a]? = some (vp_cell _ _)
  rw [e1, vp_cell_q, vp_cell_q, arrV_store]
  congr 2
  funext q
  by_cases hq : q = i.toNatClampNeg
  · subst hq; simp [updV, va_up, va_rf]
  · simp [updV, va_up, hq]
theorem Wd.lt (hW : Wd D AC A s H0 H locs S) (ha : a ∈ hL S) : a < hz S := by
  have := va_pl_lt (X := []) hW.wP ha
  rw [hW.z] at this
  exact this
theorem Wd.fresh (hW : Wd D AC A s H0 H locs S) : hz S ∉ hL S := fun h => Nat.lt_irrefl _ (hW.lt h)
theorem Wd.grow (hW : Wd D AC A s H0 H locs S) {x : va_E} {S' : HS} {H1 : Heap} (e1 : va_at D vwCl (hz S, x) H1) (z1 : H1.size = hz S + 1) (o1 : ∀ q, q < hz S → H1[q]? = H[q]?) (he : pool AC S ++ [(hz S, x)] = pool AC S') (hok : hOk S') {c0 : Cell} (hc0 : H1[hz S]? = some c0) (hz' : hz S' = hz S + 1 ∧ tz S' = tz S + c0.slots.size) : Wd D AC A s H0 H1 locs S' := by
  have hk : ∀ (k : Nat) (y : Nat × va_E), (pool AC S)[k]? = some y → H1[y.1]? = H[y.1]? := fun k y hy => o1 y.1 (by rw [← hW.z]; exact (hW.wP k y hy).lt)
  have h0 : H0.size ≤ hz S := by rw [← hW.z]; exact hW.wS.1
  have p1 : va_P D vwCl (pool AC S ++ [(hz S, x)]) H1 := (hW.wP.kept hk).app (fun k y hy => by
    have hz1 : k < 1 := (List.getElem?_eq_some_iff.mp hy).1
    rw [show k = 0 by omega] at hy
    cases hy
    exact e1)
  have p2 : va_D A (pool AC S ++ [(hz S, x)]) := hW.wD.push hW.wP hW.z.symm (hW.wA _ h0)
  rw [he] at p1 p2
  exact ⟨hW.wK, p1, p2, ⟨by omega, fun y h1 h2 => (o1 y (by omega)).trans (hW.wS.2.1 y h1 h2), hW.wS.2.2⟩, hW.wA, hok, by rw [z1, hz'.1], hW.nx, by
    rw [hz'.2, ← hW.t]
    exact hts_grow (by rw [z1, hW.z]) (by rw [hW.z]; exact o1) (by rw [hW.z]; exact hc0)⟩
theorem mono_newQ (hW : Wd D AC A s H0 H locs S) (K : Nat) : mono S (newO S K) := fun a ha => by
  have hne : a ≠ hz S := fun z => hW.fresh (z ▸ hW.ok.1 a ha)
  exact ⟨va_up_ne _ _ hne, rfl⟩
theorem mono_newB (hW : Wd D AC A s H0 H locs S) (K n : Nat) : mono S (newA S K n) := fun a ha => by
  have hne : a ≠ hz S := fun z => hW.fresh (z ▸ hW.ok.1 a ha)
  exact ⟨va_up_ne _ _ hne, va_up_ne _ _ hne⟩
theorem n_o {own C : String} {T : u_T} {N index : Nat} (hK : K ≠ 0 ∧ aK K = 0 ∧ aE K = 0 ∧ vwCl[K - 1]? = some (C, T, N)) (hln : (lay K).length = N) (hT : ∃ ty : Nat → FieldType, (∀ k, k < N → parseFieldDescriptor (T k).2.2.1 = some (ty k)) ∧ ∀ S q, ∀ j, j < N → defaultValue (ty j) = vp_V ((lay K).map (fv (newQ S q K) q)) j) (hin : ∀ w ∈ u_ws C T N, w ∈ wT) (hl : Cond.classLink own index C ∈ wT ∧ Cond.instantiable C N ∈ wT ∧ Cond.initialized C ∈ wT)
    (hexec : p.tables.exec = Jvm.exec) (hb : c.code = cc) (hts : ∀ w ∈ wT, w.before args s = true) (hown : s.vm.findClass own = some m.cls) (hW : Wd D AC A s H0 H locs S) (hrm : cells + 1 ≤ R.cells ∧ slots + N ≤ R.slots) (q : Nat) (hq : hz S = q) (hdg : decode cc pc = .ok (.new index, 3))
    (kk : ∀ (H1 : Heap), Wd D AC A s H0 H1 locs (newQ S q K) → mono S (newQ S q K) → kd (newQ S q K) q = K → W p l e R s m args below meth c H1 locs (cells + 1) (slots + N) Q (F0 m (pc + 3) ls (.ref q :: rest))) : W p l e R s m args below meth c H locs cells slots Q (F0 m pc ls rest) := by
  subst hq
  obtain ⟨ty, hty, hfs⟩ := hT
  have hKn := hW.wK.1 (K - 1) _ hK.2.2.2
  refine W.newcK hexec hb hown (hts _ hl.1) (hts _ hl.2.1) (hts _ hl.2.2) rfl hdg hrm.1 hrm.2 hKn.2.1 hW.z (fun H1 kC hkC e1 z1 o1 => ?_)
  refine kk H1 (hW.grow (x := .inr (K - 1, (lay K).map (fv (newQ S (hz S) K) (hz S)))) ⟨_, hK.2.2.2, (u_born ty hts hin hKn hkC e1 hty).to (hfs S (hz S))⟩ z1 o1 (eC_newQ hW.fresh hK.2.1) (hW.ok.newQ hW.fresh hK.2.2.1 rO_ne rT_ne rfl) e1 ⟨rfl, ?_⟩) (mono_newQ hW K) (va_up_self _ _ _)
  show tz S + (lay K).length = tz S + _
  obtain ⟨c9, k9, f1, f2, -, -, -, f6⟩ := Cond.instantiable_spec (hts _ hl.2.1)
  obtain rfl : c9 = D.1 (K - 1) := Option.some.inj (f1.symm.trans hKn.2.1)
  obtain rfl : k9 = kC := Option.some.inj (f2.symm.trans hkC)
  rw [show (blank (D.1 (K - 1)) k9).slots.size = k9.instanceTypes.size by simp [blank], f6, hln]
theorem eC_newA {q n : Nat} {x : va_E} (hq : q ∉ hL S) (hx : eC AC (newB S q K n) q = x) : va_pl (hL S) (eC AC S) ++ [(q, x)] = pool AC (newB S q K n) := by
  rw [va_pl_push hq]
  show va_pl (hL S ++ [q]) _ = va_pl (hL S ++ [q]) _
  congr 1
  exact eC_up (fun b hb => eC_same (va_up_ne _ _ hb) (va_up_ne _ _ hb) (va_up_ne _ _ hb) (va_up_ne _ _ hb) (va_up_ne _ _ hb) rfl) hx
theorem n_i {t0 n : Nat} {x : Int32} {atype : ArrayType} {ty : FieldType} (hK : K ≠ 0 ∧ aK K = 1 ∧ ∀ k, rO k ≠ K) (ht : (aTys AC)[t0]? = some (AC K, ty)) (hty : newarray.typeOf atype = ty) (hpr : (∀ C, ty ≠ .object C) ∧ defaultValue ty = .int 0) (hin : Cond.arrayClass (newarray.typeOf atype) ∈ wT) (hexec : p.tables.exec = Jvm.exec) (hb : c.code = cc) (hts : ∀ w ∈ wT, w.before args s = true) (hW : Wd D AC A s H0 H locs S) (hx : x = nI n) (hn : n < 2 ^ 20 ∧ n * componentBytes ty ≤ 536870912) (hrm : cells + 1 ≤ R.cells ∧ slots + n ≤ R.slots) (q : Nat) (hq : hz S = q) (hdg : decode cc pc = .ok (.newarray atype, 2))
    (kk : ∀ (H1 : Heap), Wd D AC A s H0 H1 locs (newB S q K n) → mono S (newB S q K n) → kd (newB S q K n) q = K → W p l e R s m args below meth c H1 locs (cells + 1) (slots + n) Q (F0 m (pc + 2) ls (.ref q :: rest))) : W p l e R s m args below meth c H locs cells slots Q (F0 m pc ls (.int x :: rest)) := by
  subst hx
  subst hq
  subst hty
  refine va_newaK hexec hb (hts _ hin) rfl hdg rfl (nI_pos (by omega)) (nI_clamp (by omega)) hn.2 hrm.1 hrm.2 hW.z (fun H1 cA e1 z1 o1 hAr hNm => ?_)
  have e : cA = AC K := by
    have a1 := (hW.wK.2 t0 _ ht).2
    generalize newarray.typeOf atype = ty at a1 hNm hpr
    cases ty with
    | object C => exact absurd rfl (hpr.1 C)
    | _ => exact Option.some.inj (hNm.symm.trans a1)
  subst e
  refine kk H1 (hW.grow (x := .inl (AC K, n, .inl (fun _ => 0))) ?_ z1 o1 (eC_newA hW.fresh ?_) (hW.ok.newB hW.fresh hK.2.2 rO_ne rT_ne) e1 ⟨rfl, by show tz S + n = tz S + (arrV _ _ _).slots.size; rw [arrV_size]⟩) (mono_newB hW K n) (va_up_self _ _ _)
  · show H1[hz S]? = some (vp_cell _ _)
    rw [e1, vp_cell_i, hpr.2]
  · rw [eC_ints (S := newB S (hz S) K n) (va_up_self _ _ _) hK.2.1]
    show Sum.inl (AC K, va_up (an S) (hz S) n (hz S), Sum.inl (va_up (ai S) (hz S) (fun _ => 0) (hz S))) = _
    rw [va_up_self, va_up_self]
theorem n_l {t0 n : Nat} {x : Int32} (hK : K ≠ 0 ∧ aK K = 2 ∧ ∀ k, rO k ≠ K) (ht : (aTys AC)[t0]? = some (AC K, .long)) (hin : Cond.arrayClass (newarray.typeOf .long) ∈ wT) (hexec : p.tables.exec = Jvm.exec) (hb : c.code = cc) (hts : ∀ w ∈ wT, w.before args s = true) (hW : Wd D AC A s H0 H locs S) (hx : x = nI n) (hn : n < 2 ^ 20) (hrm : cells + 1 ≤ R.cells ∧ slots + n ≤ R.slots) (q : Nat) (hq : hz S = q) (hdg : decode cc pc = .ok (.newarray .long, 2))
    (kk : ∀ (H1 : Heap), Wd D AC A s H0 H1 locs (newB S q K n) → mono S (newB S q K n) → kd (newB S q K n) q = K → W p l e R s m args below meth c H1 locs (cells + 1) (slots + n) Q (F0 m (pc + 2) ls (.ref q :: rest))) : W p l e R s m args below meth c H locs cells slots Q (F0 m pc ls (.int x :: rest)) := by
  subst hx
  subst hq
  refine va_newaK hexec hb (hts _ hin) rfl hdg rfl (nI_pos (by omega)) (nI_clamp (by omega)) (by show n * 8 ≤ _; omega) hrm.1 hrm.2 hW.z (fun H1 cA e1 z1 o1 hAr hNm => ?_)
  have e : cA = AC K := by
    have a1 := (hW.wK.2 t0 _ ht).2
    exact Option.some.inj (hNm.symm.trans a1)
  subst e
  refine kk H1 (hW.grow (x := .inl (AC K, n, .inr (.inl (fun _ => 0)))) ?_ z1 o1 (eC_newA hW.fresh ?_) (hW.ok.newB hW.fresh hK.2.2 rO_ne rT_ne) e1 ⟨rfl, by show tz S + n = tz S + (arrV _ _ _).slots.size; rw [arrV_size]⟩) (mono_newB hW K n) (va_up_self _ _ _)
  · show H1[hz S]? = some (vp_cell _ _)
    rw [e1, vp_cell_l]
    rfl
  · rw [eC_longs (S := newB S (hz S) K n) (va_up_self _ _ _) hK.2.1]
    show Sum.inl (AC K, va_up (an S) (hz S) n (hz S), Sum.inr (Sum.inl (va_up (al S) (hz S) (fun _ => 0) (hz S)))) = _
    rw [va_up_self, va_up_self]
theorem n_r {t0 n index : Nat} {own C : String} {x : Int32} (hK : K ≠ 0 ∧ aK K = 3 ∧ ∀ k, rO k ≠ K) (ht : (aTys AC)[t0]? = some (AC K, .object C)) (hin : Cond.classLink own index C ∈ wT ∧ ∀ s, NX s → va_AO C s) (hexec : p.tables.exec = Jvm.exec) (hb : c.code = cc) (hts : ∀ w ∈ wT, w.before args s = true) (hown : s.vm.findClass own = some m.cls) (hW : Wd D AC A s H0 H locs S) (hx : x = nI n) (hn : n < 2 ^ 20) (hrm : cells + 1 ≤ R.cells ∧ slots + n ≤ R.slots) (q : Nat) (hq : hz S = q) (hdg : decode cc pc = .ok (.anewarray index, 3))
    (kk : ∀ (H1 : Heap), Wd D AC A s H0 H1 locs (newB S q K n) → mono S (newB S q K n) → kd (newB S q K n) q = K → W p l e R s m args below meth c H1 locs (cells + 1) (slots + n) Q (F0 m (pc + 3) ls (.ref q :: rest))) : W p l e R s m args below meth c H locs cells slots Q (F0 m pc ls (.int x :: rest)) := by
  subst hx
  subst hq
  have hc : (nI n).toNatClampNeg = n := nI_clamp (by omega)
  refine W.anew hexec hb hown (hts _ hin.1) (va_AO.use (hin.2 s hW.nx)) rfl hdg rfl (nI_pos (by omega)) (by rw [hc]; omega) hrm.1 (by rw [hc]; exact hrm.2) (fun cA kA comp f1 f2 f3 f4 => ?_)
  rw [hc, hW.z]
  generalize hH1 : H.push ({ cls := cA, slots := Array.replicate n .null, vm := .none } : Cell) = H1
  have z1 : H1.size = hz S + 1 := by rw [← hH1, Array.size_push, hW.z]
  have e1 : H1[hz S]? = some (arrV cA n (fun _ => .null)) := by rw [← hH1, ← hW.z, Array.getElem?_push_size, ← arrV_new]
  have o1 : ∀ q : Nat, q < hz S → H1[q]? = H[q]? := fun q hq => by rw [← hH1, Array.getElem?_push, if_neg (by rw [hW.z]; exact Nat.ne_of_lt hq)]
  have e : cA = AC K := by
    obtain ⟨-, -, -, -, -, a1⟩ := (hW.wK.2 t0 _ ht).2
    exact Option.some.inj (f1.symm.trans a1)
  subst e
  refine kk H1 (hW.grow (x := .inl (AC K, n, .inr (.inr (.inr (.inr (fun _ => none)))))) ?_ z1 o1 (eC_newA hW.fresh ?_) (hW.ok.newB hW.fresh hK.2.2 rO_ne rT_ne) e1 ⟨rfl, by show tz S + n = tz S + (arrV _ _ _).slots.size; rw [arrV_size]⟩) (mono_newB hW K n) (va_up_self _ _ _)
  · show H1[hz S]? = some (vp_cell _ _)
    rw [e1, vp_cell_q]
    rfl
  · rw [eC_refs (S := newB S (hz S) K n) (va_up_self _ _ _) hK.2.1]
    show Sum.inl (AC K, va_up (an S) (hz S) n (hz S), Sum.inr (Sum.inr (Sum.inr (Sum.inr (va_up (ar S) (hz S) (fun _ => none) (hz S)))))) = _
    rw [va_up_self, va_up_self]
/-- a walk's count of new cells and slots, by what the heap holds -/
theorem W.tight {g : JFrame} {k n : Nat} (h1 : H.size ≤ s.heap.size + k) (h2 : hts H ≤ hts s.heap + n) (kk : W p l e R s m args below meth c H locs k n Q g) : W p l e R s m args below meth c H locs cells slots Q g := by
  intro T hT X
  refine kk T hT { X with same := ?_ }
  obtain ⟨a1, a2, a3, a4, a5, a6⟩ := X.same
  refine ⟨a1, a2, ?_, a4, ?_, a6⟩
  · show T.heap.size ≤ _
    rw [hT]; exact h1
  · show ((T.heap.toList.drop s.heap.size).map (fun c => c.slots.size)).sum ≤ n
    rw [hT]
    have a2 : s.heap.size ≤ H.size := by rw [← hT]; exact a2
    have e1 : hts H = ((H.toList.take s.heap.size).map (fun c => c.slots.size)).sum + ((H.toList.drop s.heap.size).map (fun c => c.slots.size)).sum := by
      unfold hts
      rw [← List.sum_append, ← List.map_append, List.take_append_drop]
    have e2 : (H.toList.take s.heap.size).map (fun c => c.slots.size) = s.heap.toList.map (fun c => c.slots.size) := by
      apply List.ext_getElem?
      intro i
      rw [List.getElem?_map, List.getElem?_map, List.getElem?_take]
      by_cases hi : i < s.heap.size
      · rw [if_pos hi, Array.getElem?_toList, Array.getElem?_toList]
        obtain ⟨c0, hc0⟩ : ∃ c0, s.heap[i]? = some c0 := ⟨_, Array.getElem?_eq_getElem hi⟩
        obtain ⟨c1, hc1, -, hs1, -⟩ := a6 i c0 hc0
        have hc1 : T.heap[i]? = some c1 := hc1
        rw [hT] at hc1
        rw [hc0, hc1]
        simp [hs1]
      · rw [if_neg hi, Array.getElem?_toList, Array.getElem?_eq_none (by omega)]
    have e3 : hts s.heap = (s.heap.toList.map (fun c => c.slots.size)).sum := rfl
    rw [e2, ← e3] at e1
    omega
end ROWS
end
section
-- CONTRACTS OVER THE STORE, ENDS, CALLS
def CPre (D : va_G) (AC : Nat → ClassId) (S : HS) (av : List Value) : Array Value → State → Prop := va_Pc av (fun U => U.heap.size = hz S ∧ va_K D vwCl (aTys AC) U ∧ va_P D vwCl (pool AC S) U.heap ∧ va_D (fun _ => True) (pool AC S) ∧ hOk S ∧ NX U ∧ hts U.heap = tz S)
def CB (D : va_G) (AC : Nat → ClassId) (S : HS) (S' : HS) (t : State) : Prop := va_K D vwCl (aTys AC) t ∧ va_P D vwCl (pool AC S') t.heap ∧ va_D (AS (hL S) (hz S)) (pool AC S') ∧ hOk S' ∧ mono S S' ∧ t.heap.size = hz S' ∧ hts t.heap = tz S'
abbrev rmOf (fr mc ms lo : Nat) : Room := { frames := fr, cells := mc, slots := ms, locals := lo }
def CtI (l : Launch) (y : MethodName) (ws : List Cond) (fr lo : Nat) (D : va_G) (AC : Nat → ClassId) (S : HS) (av : List Value) (mc ms : Nat) (post : Int32 → HS → Prop) : Prop := Met l y ws (rmOf fr mc ms lo) (CPre D AC S av) (va_Qi post (CB D AC S) (AS (hL S) (hz S))) mc ms (AS (hL S) (hz S))
def CtL (l : Launch) (y : MethodName) (ws : List Cond) (fr lo : Nat) (D : va_G) (AC : Nat → ClassId) (S : HS) (av : List Value) (mc ms : Nat) (post : Int64 → HS → Prop) : Prop := Met l y ws (rmOf fr mc ms lo) (CPre D AC S av) (va_Ql post (CB D AC S) (AS (hL S) (hz S))) mc ms (AS (hL S) (hz S))
def CtV (l : Launch) (y : MethodName) (ws : List Cond) (fr lo : Nat) (D : va_G) (AC : Nat → ClassId) (S : HS) (av : List Value) (mc ms : Nat) (post : HS → Prop) : Prop := Met l y ws (rmOf fr mc ms lo) (CPre D AC S av) (va_Qv post (CB D AC S) (AS (hL S) (hz S))) mc ms (AS (hL S) (hz S))
def CtQ (l : Launch) (y : MethodName) (ws : List Cond) (fr lo : Nat) (D : va_G) (AC : Nat → ClassId) (S : HS) (av : List Value) (mc ms : Nat) (post : Option Nat → HS → Prop) : Prop := Met l y ws (rmOf fr mc ms lo) (CPre D AC S av) (va_Qq post (CB D AC S) (AS (hL S) (hz S))) mc ms (AS (hL S) (hz S))
/-- where a body stands -/
def Cx (p : Program) (s : State) (m : MethodId) (args : Array Value) (meth : Method) (c : Code) (y : MethodName) (cc : ByteArray) (maxL : Nat) (ret : Option FieldType) : Prop := p.tables.exec = Jvm.exec ∧ c.code = cc ∧ c.maxLocals = maxL ∧ meth.sig.returnType = ret ∧ meth.locks = false ∧ s.vm.findClass y.cls = some m.cls ∧ meth.name = y.name ∧ ∀ w ∈ wT, w.before args s = true
theorem met_of {l : Launch} {y : MethodName} {cc : ByteArray} {maxL : Nat} {ret : Option FieldType} {fr lo mc ms : Nat} {D : va_G} {AC : Nat → ClassId} {S : HS} {av : List Value} {Qc : Array Value → State → Outcome → State → Prop} (hy : plainName y.cls = true) (hlen : (lg_sl av).length ≤ maxL)
    (body : ∀ (p : Program) (e : Env) (s : State) (m : MethodId) (below : List Frame) (meth : Method) (c : Code) (ls : Array Slot), s.heap.size = hz S → Cx p s m av.toArray meth c y cc maxL ret → Wd D AC (AS (hL S) s.heap.size) s s.heap s.heap [] S → lv_has ls maxL (lv_args 0 av) →
      W p l e (rmOf fr mc ms lo) s m av.toArray below meth c s.heap [] 0 0 (MQ below Qc av.toArray s mc ms (AS (hL S) (hz S))) (F0 m 0 ls [])) : Met l y (Cond.code y cc maxL ret :: wT) (rmOf fr mc ms lo) (CPre D AC S av) Qc mc ms (AS (hL S) (hz S)) := by
  refine Met.ofW (cc := cc) (maxL := maxL) (ret := ret) hy rfl ?_
  intro p e s m args below meth c s₁ B hml hv
  obtain ⟨rfl, hsz, hK, hP, hD, hok, hnx, hht⟩ := hv
  have hts := atoms_spec (ws := Cond.code y cc maxL ret :: wT) B.pre
  have hl := lv_entry av (n := maxL) hlen
  rw [lg_entry_eq]
  exact body p e s m below meth c _ hsz ⟨B.exec, B.bytes, hml, B.returns, B.notSynchronized, findClass_of_methodNamed B.named, (name_of_methodNamed B.named B.method).1, fun w hw => hts w (List.mem_cons_of_mem _ hw)⟩
    ⟨hK, hP, ⟨hD.1, fun k q hk => Or.inl (pl_mem hk).1⟩, va_S.rf, fun q h => Or.inr h, hok, hsz, hnx, hht⟩ hl
section ENDS
variable {p : Program} {l : Launch} {e : Env} {R : Room} {s : State} {m : MethodId} {args : Array Value} {below : List Frame} {meth : Method} {c : Code} {H : Heap} {locs : List Loc} {cells slots : Nat}
variable {cc : ByteArray} {pc mc ms : Nat} {ls : Array Slot} {D : va_G} {AC : Nat → ClassId} {S0 S : HS}
theorem e_i {post : Int32 → HS → Prop} {r : Int32} (hsz : s.heap.size = hz S0) (hexec : p.tables.exec = Jvm.exec) (hb : c.code = cc) (hr : meth.sig.returnType = some .int) (hlk : meth.locks = false) (hW : Wd D AC (AS (hL S0) s.heap.size) s s.heap H locs S) (hm : mono S0 S) (hc : cells ≤ mc) (hs : slots ≤ ms) (hdg : decode cc pc = .ok (.ireturn, 1)) (hp : post r S) : W p l e R s m args below meth c H locs cells slots (MQ below (va_Qi post (CB D AC S0) (AS (hL S0) (hz S0))) args s mc ms (AS (hL S0) (hz S0))) (F0 m pc ls [.int r]) := by
  rw [hsz] at hW
  refine W.widen hc hs ?_
  exact W.iret (v := r) hexec hb hr (fun t ht hWm => ⟨⟨r, S, rfl, hp, va_K.moved hWm.alike hW.wK, by rw [ht]; exact hW.wP, hW.wD, hW.ok, hm, by rw [ht]; exact hW.z, by rw [ht]; exact hW.t⟩, hW.wS.F ht⟩) hW.wS.2.2 hdg hlk
theorem e_z {post : Int32 → HS → Prop} {r : Int32} (hsz : s.heap.size = hz S0) (hexec : p.tables.exec = Jvm.exec) (hb : c.code = cc) (hr : meth.sig.returnType = some .boolean) (hlk : meth.locks = false) (hW : Wd D AC (AS (hL S0) s.heap.size) s s.heap H locs S) (hm : mono S0 S) (hc : cells ≤ mc) (hs : slots ≤ ms) (hdg : decode cc pc = .ok (.ireturn, 1)) (hn : narrow .boolean (.int r) = .int r) (hp : post r S) : W p l e R s m args below meth c H locs cells slots (MQ below (va_Qi post (CB D AC S0) (AS (hL S0) (hz S0))) args s mc ms (AS (hL S0) (hz S0))) (F0 m pc ls [.int r]) := by
  rw [hsz] at hW
  refine W.widen hc hs ?_
  exact W.zret (v := r) hexec hb hr hn (fun t ht hWm => ⟨⟨r, S, rfl, hp, va_K.moved hWm.alike hW.wK, by rw [ht]; exact hW.wP, hW.wD, hW.ok, hm, by rw [ht]; exact hW.z, by rw [ht]; exact hW.t⟩, hW.wS.F ht⟩) hW.wS.2.2 hdg hlk
theorem e_l {post : Int64 → HS → Prop} {r : Int64} (hsz : s.heap.size = hz S0) (hexec : p.tables.exec = Jvm.exec) (hb : c.code = cc) (hr : meth.sig.returnType = some .long) (hlk : meth.locks = false) (hW : Wd D AC (AS (hL S0) s.heap.size) s s.heap H locs S) (hm : mono S0 S) (hc : cells ≤ mc) (hs : slots ≤ ms) (hdg : decode cc pc = .ok (.lreturn, 1)) (hp : post r S) : W p l e R s m args below meth c H locs cells slots (MQ below (va_Ql post (CB D AC S0) (AS (hL S0) (hz S0))) args s mc ms (AS (hL S0) (hz S0))) (F0 m pc ls [.long r]) := by
  rw [hsz] at hW
  refine W.widen hc hs ?_
  exact W.lret (v := r) hexec hb hr (fun t ht hWm => ⟨⟨r, S, rfl, hp, va_K.moved hWm.alike hW.wK, by rw [ht]; exact hW.wP, hW.wD, hW.ok, hm, by rw [ht]; exact hW.z, by rw [ht]; exact hW.t⟩, hW.wS.F ht⟩) hW.wS.2.2 hdg hlk
theorem e_v {post : HS → Prop} (hsz : s.heap.size = hz S0) (hexec : p.tables.exec = Jvm.exec) (hb : c.code = cc) (hr : meth.sig.returnType = none) (hlk : meth.locks = false) (hW : Wd D AC (AS (hL S0) s.heap.size) s s.heap H locs S) (hm : mono S0 S) (hc : cells ≤ mc) (hs : slots ≤ ms) (hdg : decode cc pc = .ok (.return_, 1)) (hp : post S) : W p l e R s m args below meth c H locs cells slots (MQ below (va_Qv post (CB D AC S0) (AS (hL S0) (hz S0))) args s mc ms (AS (hL S0) (hz S0))) (F0 m pc ls []) := by
  rw [hsz] at hW
  refine W.widen hc hs ?_
  exact W.vret hexec hb hr (fun t ht hWm => ⟨⟨S, rfl, hp, va_K.moved hWm.alike hW.wK, by rw [ht]; exact hW.wP, hW.wD, hW.ok, hm, by rw [ht]; exact hW.z, by rw [ht]; exact hW.t⟩, hW.wS.F ht⟩) hW.wS.2.2 hdg hlk
theorem e_q {post : Option Nat → HS → Prop} {r : Option Nat} {C : String} (hsz : s.heap.size = hz S0) (hexec : p.tables.exec = Jvm.exec) (hb : c.code = cc) (hr : meth.sig.returnType = some (.object C)) (hlk : meth.locks = false) (hW : Wd D AC (AS (hL S0) s.heap.size) s s.heap H locs S) (hm : mono S0 S) (hc : cells ≤ mc) (hs : slots ≤ ms) (hdg : decode cc pc = .ok (.areturn, 1)) (hp : post r S) : W p l e R s m args below meth c H locs cells slots (MQ below (va_Qq post (CB D AC S0) (AS (hL S0) (hz S0))) args s mc ms (AS (hL S0) (hz S0))) (F0 m pc ls [va_rf r]) := by
  rw [hsz] at hW
  refine W.widen hc hs ?_
  exact W.aret (v := va_rf r) hexec hb hr (Or.inl ⟨_, rfl⟩) (va_rf_or r) (fun t ht hWm => ⟨⟨r, S, rfl, hp, va_K.moved hWm.alike hW.wK, by rw [ht]; exact hW.wP, hW.wD, hW.ok, hm, by rw [ht]; exact hW.z, by rw [ht]; exact hW.t⟩, hW.wS.F ht⟩) hW.wS.2.2 hdg hlk
end ENDS
/-- the words of a call of an instance method, of a static one, of a constructor -/
def cV (own : String) (index : Nat) (C : String) (y : MethodName) (bytes : ByteArray) (maxL : Nat) (ret : Option FieldType) (n : Nat) : Prop := (Cond.methodLink own index y ∈ wT ∧ Cond.instanceMethod y ∈ wT ∧ Cond.selects C y y ∈ wT ∧ Cond.initialized C ∈ wT) ∧ Cond.code y bytes maxL ret ∈ wT ∧ (y.cls = C ∧ y.cls ≠ "java/lang/invoke/MethodHandle" ∧ y.cls ≠ "java/lang/invoke/VarHandle" ∧ (parseMethodDescriptor y.desc).map (fun d => d.parameters.length) = some n)
def cS (own : String) (index : Nat) (y : MethodName) (bytes : ByteArray) (maxL : Nat) (ret : Option FieldType) (n : Nat) : Prop := (Cond.methodLink own index y ∈ wT ∧ Cond.static y ∈ wT ∧ Cond.initialized own ∈ wT) ∧ Cond.code y bytes maxL ret ∈ wT ∧ (y.cls = own ∧ y.cls ≠ "java/lang/invoke/MethodHandle" ∧ y.cls ≠ "java/lang/invoke/VarHandle" ∧ (parseMethodDescriptor y.desc).map (fun d => d.parameters.length) = some n)
def cI (own : String) (index : Nat) (y : MethodName) (bytes : ByteArray) (maxL : Nat) (n : Nat) : Prop := (Cond.methodLink own index y ∈ wT ∧ Cond.instanceMethod y ∈ wT ∧ Cond.initialized y.cls ∈ wT ∧ y.name = "<init>") ∧ Cond.code y bytes maxL none ∈ wT ∧ (y.cls ≠ "java/lang/invoke/MethodHandle" ∧ y.cls ≠ "java/lang/invoke/VarHandle" ∧ (parseMethodDescriptor y.desc).map (fun d => d.parameters.length) = some n)
theorem wT_good : GoodIn wT wT := fun w hw => ⟨hw, good_of_word (List.mem_filter.mp hw).2⟩
theorem good_code {y : MethodName} {bytes : ByteArray} {maxL : Nat} {ret : Option FieldType} (h : Cond.code y bytes maxL ret ∈ wT) : GoodIn wT (Cond.code y bytes maxL ret :: wT) := fun w hw => by
  rcases List.mem_cons.mp hw with rfl | hw
  · exact wT_good _ h
  · exact wT_good w hw
theorem good_V {own C : String} {index n maxL : Nat} {y : MethodName} {bytes : ByteArray} {ret : Option FieldType} (h : cV own index C y bytes maxL ret n) : GoodIn wT (wsV own index C y (Cond.code y bytes maxL ret :: wT)) := fun w hw => by
  rcases List.mem_append.mp hw with hw | hw
  · simp only [List.mem_cons, List.not_mem_nil, or_false] at hw
    rcases hw with rfl | rfl | rfl | rfl
    · exact wT_good _ h.1.1
    · exact wT_good _ h.1.2.1
    · exact wT_good _ h.1.2.2.1
    · exact wT_good _ h.1.2.2.2
  · exact good_code h.2.1 w hw
theorem good_S {own : String} {index n maxL : Nat} {y : MethodName} {bytes : ByteArray} {ret : Option FieldType} (h : cS own index y bytes maxL ret n) : GoodIn wT (wsS own index y (Cond.code y bytes maxL ret :: wT)) := fun w hw => by
  rcases List.mem_append.mp hw with hw | hw
  · simp only [List.mem_cons, List.not_mem_nil, or_false] at hw
    rcases hw with rfl | rfl | rfl
    · exact wT_good _ h.1.1
    · exact wT_good _ h.1.2.1
    · exact wT_good _ h.1.2.2
  · exact good_code h.2.1 w hw
/-- what a call leaves of the heap beside the store: all else stays; the store's cells are its own or new -/
def Fr (S : HS) (H : Heap) (S' : HS) (H1 : Heap) : Prop := H.size ≤ H1.size ∧ (∀ q : Nat, q < H.size → ¬ AS (hL S) (hz S) q → H1[q]? = H[q]?) ∧ ∀ q ∈ hL S', AS (hL S) (hz S) q
section CALLS
variable {p : Program} {l : Launch} {e : Env} {R : Room} {s : State} {m : MethodId} {args : Array Value} {below : List Frame} {meth : Method} {c : Code} {H : Heap} {locs : List Loc} {cells slots : Nat} {Q : State → Prop}
variable {cc bytes : ByteArray} {pc maxL nL index n fr lo mc ms : Nat} {ls : Array Slot} {st rest As : List Value} {D : va_G} {AC : Nat → ClassId} {A : Nat → Prop} {H0 : Heap} {S : HS} {b K : Nat} {own C : String} {y : MethodName} {ret : Option FieldType}
theorem Wd.blind (av : List Value) : FrameBlind (CPre D AC S av) := fun a U g mk q => by
  obtain ⟨q0, q1, qK, qP, qD, qO, qX, qT⟩ := q
  exact ⟨q0, q1, va_K.moved (u := U) (U := U.calling g mk a) (Vm.Alike.refl U.vm) qK, qP, qD, qO, NX.same (u := U) (U := U.calling g mk a) rfl qX, qT⟩
theorem Wd.pre (hW : Wd D AC A s H0 H locs S) (av : List Value) : ∀ U : State, U.heap = H → s.WarmedH U.vm → CPre D AC S av av.toArray U := fun U hU hw =>
  ⟨rfl, by rw [hU]; exact hW.z, va_K.moved hw.alike hW.wK, by rw [hU]; exact hW.wP, hW.wD.weaken (fun _ _ _ _ => trivial), hW.ok, hW.nx.warm hw, by rw [hU]; exact hW.t⟩
theorem Wd.recv (hW : Wd D AC A s H0 H locs S) (hk : kd S b = K) (hK : K ≠ 0 ∧ aK K = 0 ∧ ∃ r : vw_C, vwCl[K - 1]? = some r ∧ r.1 = C) : ∃ cellB : Cell, H[b]? = some cellB ∧ cellB.vm.isStatics = false ∧ s.vm.findClass C = some cellB.cls := by
  obtain ⟨h0, h1, r, h2, h3⟩ := hK
  obtain ⟨q0, hq⟩ := hW.in hk h0
  rw [eC_obj hk h1] at hq
  subst h3
  exact va_recv hW.wK hW.wP h2 hq
theorem Wd.free (hW : Wd D AC A s H0 H locs S) : ∀ q, AS (hL S) (hz S) q → A q := fun q h => by
  rcases h with h | h
  · obtain ⟨k, hk⟩ := va_pl_get (X := []) (f := eC AC S) h
    exact hW.wD.2 k _ hk
  · exact hW.wA q (Nat.le_trans hW.wS.1 (by rw [hW.z]; exact h))
theorem Wd.back {S' : HS} {t : State} {H1 : Heap} {locs1 : List Loc} (hW : Wd D AC A s H0 H locs S) (ht : t.heap = H1) (hvm : s.vm.Alike t.vm) (hB : CB D AC S S' t) (hzz : H.size ≤ H1.size) (hk : ∀ q : Nat, q < H.size → ¬ AS (hL S) (hz S) q → H1[q]? = H[q]?) (hS : va_S A H0 H1 locs1) : Wd D AC A s H0 H1 locs1 S' ∧ mono S S' ∧ Fr S H S' H1 := by
  obtain ⟨h1, h2, h3, h4, h5, h6, h7⟩ := hB
  refine ⟨⟨va_K.moved hvm.symm h1, by rw [← ht]; exact h2, ⟨h3.1, fun k q hq => hW.free _ (h3.2 k q hq)⟩, hS, hW.wA, h4, by rw [← ht]; exact h6, hW.nx, by rw [← ht]; exact h7⟩, h5, hzz, hk, fun q hq => ?_⟩
  obtain ⟨k, hk2⟩ := va_pl_get (X := []) (f := eC AC S') hq
  exact h3.2 k _ hk2
abbrev RmOk (R : Room) (cells slots fr lo maxL mc ms : Nat) : Prop := (fr + 1 ≤ R.frames ∧ 8 + (maxL + 11) + lo ≤ R.locals) ∧ (cells + mc ≤ R.cells ∧ slots + ms ≤ R.slots)
theorem k_Vi {post : Int32 → HS → Prop} (hC : CtI l y (Cond.code y bytes maxL ret :: wT) fr lo D AC S (.ref b :: As) mc ms post) (CV : cV own index C y bytes maxL ret n) (hK : K ≠ 0 ∧ aK K = 0 ∧ ∃ r : vw_C, vwCl[K - 1]? = some r ∧ r.1 = C) (hexec : p.tables.exec = Jvm.exec) (hb : c.code = cc) (hml : c.maxLocals = nL) (hown : s.vm.findClass own = some m.cls) (hts : ∀ w ∈ wT, w.before args s = true) (hW : Wd D AC A s H0 H locs S) (hk : kd S b = K) (hls : ls.size = nL) (hn : As.length = n) (hst : st = As.reverse ++ .ref b :: rest) (hw : (rest.map fun v => v.category).sum ≤ 8) (hrm : RmOk R cells slots fr lo maxL mc ms) (hdg : decode cc pc = .ok (.invokevirtual index, 3))
    (kk : ∀ (r : Int32) (S' : HS) (H1 : Heap) (locs1 : List Loc), post r S' → Wd D AC A s H0 H1 locs1 S' → mono S S' → Fr S H S' H1 → W p l e R s m args below meth c H1 locs1 (cells + mc) (slots + ms) Q (F0 m (pc + 3) ls (.int r :: rest))) : W p l e R s m args below meth c H locs cells slots Q (F0 m pc ls st) := by
  subst hst
  exact va_calli (va_runV (As := As) (rest := rest) ⟨hexec, hb, hml, hown, hts⟩ hC (cwV n hts (good_V CV) rfl rfl rfl CV.2.2 hrm.1) ⟨Wd.blind _, hW.recv hk hK, hW.pre _⟩ rfl hn hls rfl (lv_room hw) hdg hrm.2) hW.wS (fun q _ h => hW.free q h) hW.free (fun r S' t H1 locs1 ht hvm hp hB hz hk1 hS => by
    obtain ⟨z1, z2, z3⟩ := hW.back ht hvm hB hz hk1 hS
    exact kk r S' H1 locs1 hp z1 z2 z3)
theorem k_Vl {post : Int64 → HS → Prop} (hC : CtL l y (Cond.code y bytes maxL ret :: wT) fr lo D AC S (.ref b :: As) mc ms post) (CV : cV own index C y bytes maxL ret n) (hK : K ≠ 0 ∧ aK K = 0 ∧ ∃ r : vw_C, vwCl[K - 1]? = some r ∧ r.1 = C) (hexec : p.tables.exec = Jvm.exec) (hb : c.code = cc) (hml : c.maxLocals = nL) (hown : s.vm.findClass own = some m.cls) (hts : ∀ w ∈ wT, w.before args s = true) (hW : Wd D AC A s H0 H locs S) (hk : kd S b = K) (hls : ls.size = nL) (hn : As.length = n) (hst : st = As.reverse ++ .ref b :: rest) (hw : (rest.map fun v => v.category).sum ≤ 8) (hrm : RmOk R cells slots fr lo maxL mc ms) (hdg : decode cc pc = .ok (.invokevirtual index, 3))
    (kk : ∀ (r : Int64) (S' : HS) (H1 : Heap) (locs1 : List Loc), post r S' → Wd D AC A s H0 H1 locs1 S' → mono S S' → Fr S H S' H1 → W p l e R s m args below meth c H1 locs1 (cells + mc) (slots + ms) Q (F0 m (pc + 3) ls (.long r :: rest))) : W p l e R s m args below meth c H locs cells slots Q (F0 m pc ls st) := by
  subst hst
  exact va_calll (va_runV (As := As) (rest := rest) ⟨hexec, hb, hml, hown, hts⟩ hC (cwV n hts (good_V CV) rfl rfl rfl CV.2.2 hrm.1) ⟨Wd.blind _, hW.recv hk hK, hW.pre _⟩ rfl hn hls rfl (lv_room hw) hdg hrm.2) hW.wS (fun q _ h => hW.free q h) hW.free (fun r S' t H1 locs1 ht hvm hp hB hz hk1 hS => by
    obtain ⟨z1, z2, z3⟩ := hW.back ht hvm hB hz hk1 hS
    exact kk r S' H1 locs1 hp z1 z2 z3)
theorem k_Vv {post : HS → Prop} (hC : CtV l y (Cond.code y bytes maxL ret :: wT) fr lo D AC S (.ref b :: As) mc ms post) (CV : cV own index C y bytes maxL ret n) (hK : K ≠ 0 ∧ aK K = 0 ∧ ∃ r : vw_C, vwCl[K - 1]? = some r ∧ r.1 = C) (hexec : p.tables.exec = Jvm.exec) (hb : c.code = cc) (hml : c.maxLocals = nL) (hown : s.vm.findClass own = some m.cls) (hts : ∀ w ∈ wT, w.before args s = true) (hW : Wd D AC A s H0 H locs S) (hk : kd S b = K) (hls : ls.size = nL) (hn : As.length = n) (hst : st = As.reverse ++ .ref b :: rest) (hw : (rest.map fun v => v.category).sum ≤ 8) (hrm : RmOk R cells slots fr lo maxL mc ms) (hdg : decode cc pc = .ok (.invokevirtual index, 3))
    (kk : ∀ (S' : HS) (H1 : Heap) (locs1 : List Loc), post S' → Wd D AC A s H0 H1 locs1 S' → mono S S' → Fr S H S' H1 → W p l e R s m args below meth c H1 locs1 (cells + mc) (slots + ms) Q (F0 m (pc + 3) ls rest)) : W p l e R s m args below meth c H locs cells slots Q (F0 m pc ls st) := by
  subst hst
  exact va_callv (va_runV (As := As) (rest := rest) ⟨hexec, hb, hml, hown, hts⟩ hC (cwV n hts (good_V CV) rfl rfl rfl CV.2.2 hrm.1) ⟨Wd.blind _, hW.recv hk hK, hW.pre _⟩ rfl hn hls rfl (lv_room hw) hdg hrm.2) hW.wS (fun q _ h => hW.free q h) hW.free (fun S' t H1 locs1 ht hvm hp hB hz hk1 hS => by
    obtain ⟨z1, z2, z3⟩ := hW.back ht hvm hB hz hk1 hS
    exact kk S' H1 locs1 hp z1 z2 z3)
theorem k_Vq {post : Option Nat → HS → Prop} (hC : CtQ l y (Cond.code y bytes maxL ret :: wT) fr lo D AC S (.ref b :: As) mc ms post) (CV : cV own index C y bytes maxL ret n) (hK : K ≠ 0 ∧ aK K = 0 ∧ ∃ r : vw_C, vwCl[K - 1]? = some r ∧ r.1 = C) (hexec : p.tables.exec = Jvm.exec) (hb : c.code = cc) (hml : c.maxLocals = nL) (hown : s.vm.findClass own = some m.cls) (hts : ∀ w ∈ wT, w.before args s = true) (hW : Wd D AC A s H0 H locs S) (hk : kd S b = K) (hls : ls.size = nL) (hn : As.length = n) (hst : st = As.reverse ++ .ref b :: rest) (hw : (rest.map fun v => v.category).sum ≤ 8) (hrm : RmOk R cells slots fr lo maxL mc ms) (hdg : decode cc pc = .ok (.invokevirtual index, 3))
    (kk : ∀ (r : Option Nat) (S' : HS) (H1 : Heap) (locs1 : List Loc), post r S' → Wd D AC A s H0 H1 locs1 S' → mono S S' → Fr S H S' H1 → W p l e R s m args below meth c H1 locs1 (cells + mc) (slots + ms) Q (F0 m (pc + 3) ls (va_rf r :: rest))) : W p l e R s m args below meth c H locs cells slots Q (F0 m pc ls st) := by
  subst hst
  exact va_callq (va_runV (As := As) (rest := rest) ⟨hexec, hb, hml, hown, hts⟩ hC (cwV n hts (good_V CV) rfl rfl rfl CV.2.2 hrm.1) ⟨Wd.blind _, hW.recv hk hK, hW.pre _⟩ rfl hn hls rfl (lv_room hw) hdg hrm.2) hW.wS (fun q _ h => hW.free q h) hW.free (fun r S' t H1 locs1 ht hvm hp hB hz hk1 hS => by
    obtain ⟨z1, z2, z3⟩ := hW.back ht hvm hB hz hk1 hS
    exact kk r S' H1 locs1 hp z1 z2 z3)
theorem k_Si {post : Int32 → HS → Prop} (hC : CtI l y (Cond.code y bytes maxL ret :: wT) fr lo D AC S As mc ms post) (CV : cS own index y bytes maxL ret n) (hexec : p.tables.exec = Jvm.exec) (hb : c.code = cc) (hml : c.maxLocals = nL) (hown : s.vm.findClass own = some m.cls) (hts : ∀ w ∈ wT, w.before args s = true) (hW : Wd D AC A s H0 H locs S) (hls : ls.size = nL) (hn : As.length = n) (hst : st = As.reverse ++ rest) (hw : (rest.map fun v => v.category).sum ≤ 8) (hrm : RmOk R cells slots fr lo maxL mc ms) (hdg : decode cc pc = .ok (.invokestatic index, 3))
    (kk : ∀ (r : Int32) (S' : HS) (H1 : Heap) (locs1 : List Loc), post r S' → Wd D AC A s H0 H1 locs1 S' → mono S S' → Fr S H S' H1 → W p l e R s m args below meth c H1 locs1 (cells + mc) (slots + ms) Q (F0 m (pc + 3) ls (.int r :: rest))) : W p l e R s m args below meth c H locs cells slots Q (F0 m pc ls st) := by
  subst hst
  exact va_calli (va_runS (As := As) (rest := rest) ⟨hexec, hb, hml, hown, hts⟩ hC (cwS n hts (good_S CV) rfl rfl rfl CV.2.2 hrm.1) ⟨Wd.blind _, hW.pre _⟩ rfl hn hls rfl (lv_room hw) hdg hrm.2) hW.wS (fun q _ h => hW.free q h) hW.free (fun r S' t H1 locs1 ht hvm hp hB hz hk1 hS => by
    obtain ⟨z1, z2, z3⟩ := hW.back ht hvm hB hz hk1 hS
    exact kk r S' H1 locs1 hp z1 z2 z3)
theorem k_Iv {post : HS → Prop} (hC : CtV l y (Cond.code y bytes maxL none :: wT) fr lo D AC S (.ref b :: As) mc ms post) (CV : cI own index y bytes maxL n) (hexec : p.tables.exec = Jvm.exec) (hb : c.code = cc) (hml : c.maxLocals = nL) (hown : s.vm.findClass own = some m.cls) (hts : ∀ w ∈ wT, w.before args s = true) (hW : Wd D AC A s H0 H locs S) (hls : ls.size = nL) (hn : As.length = n) (hst : st = As.reverse ++ .ref b :: rest) (hw : (rest.map fun v => v.category).sum ≤ 8) (hrm : RmOk R cells slots fr lo maxL mc ms) (hdg : decode cc pc = .ok (.invokespecial index, 3))
    (kk : ∀ (S' : HS) (H1 : Heap) (locs1 : List Loc), post S' → Wd D AC A s H0 H1 locs1 S' → mono S S' → Fr S H S' H1 → W p l e R s m args below meth c H1 locs1 (cells + mc) (slots + ms) Q (F0 m (pc + 3) ls rest)) : W p l e R s m args below meth c H locs cells slots Q (F0 m pc ls st) := by
  subst hst
  exact va_callv (va_runI (As := As) (rest := rest) ⟨hexec, hb, hml, hown, hts⟩ hC (cwI n hts (good_code CV.2.1) rfl rfl rfl (hts _ CV.1.2.2.1) (hts _ CV.1.1) (hts _ CV.1.2.1) CV.1.2.2.2 CV.2.2 hrm.1) ⟨Wd.blind _, hW.pre _⟩ rfl hn hls rfl (lv_room hw) hdg hrm.2) hW.wS (fun q _ h => hW.free q h) hW.free (fun S' t H1 locs1 ht hvm hp hB hz hk1 hS => by
    obtain ⟨z1, z2, z3⟩ := hW.back ht hvm hB hz hk1 hS
    exact kk S' H1 locs1 hp z1 z2 z3)
def cN (own : String) (index : Nat) (y : MethodName) (host : String) (bytes : ByteArray) (maxL : Nat) (n : Nat) : Prop := (∀ s, NX s → va_Nw (.methodLinkNest own index y host) s) ∧ (Cond.instanceMethod y ∈ wT ∧ Cond.initialized y.cls ∈ wT ∧ y.name = "<init>") ∧ Cond.code y bytes maxL none ∈ wT ∧ (y.cls ≠ "java/lang/invoke/MethodHandle" ∧ y.cls ≠ "java/lang/invoke/VarHandle" ∧ (parseMethodDescriptor y.desc).map (fun d => d.parameters.length) = some n)
theorem k_Nv {host : String} {post : HS → Prop} (hC : CtV l y (Cond.code y bytes maxL none :: wT) fr lo D AC S (.ref b :: As) mc ms post) (CV : cN own index y host bytes maxL n) (hexec : p.tables.exec = Jvm.exec) (hb : c.code = cc) (hml : c.maxLocals = nL) (hown : s.vm.findClass own = some m.cls) (hts : ∀ w ∈ wT, w.before args s = true) (hW : Wd D AC A s H0 H locs S) (hls : ls.size = nL) (hn : As.length = n) (hst : st = As.reverse ++ .ref b :: rest) (hw : (rest.map fun v => v.category).sum ≤ 8) (hrm : RmOk R cells slots fr lo maxL mc ms) (hdg : decode cc pc = .ok (.invokespecial index, 3))
    (kk : ∀ (S' : HS) (H1 : Heap) (locs1 : List Loc), post S' → Wd D AC A s H0 H1 locs1 S' → mono S S' → Fr S H S' H1 → W p l e R s m args below meth c H1 locs1 (cells + mc) (slots + ms) Q (F0 m (pc + 3) ls rest)) : W p l e R s m args below meth c H locs cells slots Q (F0 m pc ls st) := by
  subst hst
  exact va_callv (va_runIN (As := As) (rest := rest) ⟨hexec, hb, hml, hown, hts⟩ hC ⟨va_cnB n hts (good_code CV.2.2.1) rfl rfl rfl (CV.1 s hW.nx) (hts _ CV.2.1.2.1) CV.2.2.2 hrm.1, CV.2.1.2.2, hts _ CV.2.1.1⟩ ⟨Wd.blind _, hW.pre _⟩ rfl hn hls rfl (lv_room hw) hdg hrm.2) hW.wS (fun q _ h => hW.free q h) hW.free (fun S' t H1 locs1 ht hvm hp hB hz hk1 hS => by
    obtain ⟨z1, z2, z3⟩ := hW.back ht hvm hB hz hk1 hS
    exact kk S' H1 locs1 hp z1 z2 z3)
end CALLS
section OINIT
variable {p : Program} {l : Launch} {e : Env} {R : Room} {s : State} {m : MethodId} {args : Array Value} {below : List Frame} {meth : Method} {c : Code} {H : Heap} {locs : List Loc} {cells slots : Nat} {Q : State → Prop}
variable {cc : ByteArray} {pc nL idx a : Nat} {ls : Array Slot} {rest : List Value} {own : String}
theorem o_init (O : Cond.methodLink own idx objectInit ∈ wT ∧ Cond.instanceMethod objectInit ∈ wT ∧ Cond.code objectInit ⟨#[0xb1]⟩ 1 none ∈ wT) (hexec : p.tables.exec = Jvm.exec) (hb : c.code = cc) (hown : s.vm.findClass own = some m.cls) (hts : ∀ w ∈ wT, w.before args s = true) (hml : c.maxLocals = nL) (hls : ls.size = nL) (hdg : decode cc pc = .ok (.invokespecial idx, 3)) (hfr : 1 ≤ R.frames) (hlo : (rest.map fun v => v.category).sum + 12 ≤ R.locals)
    (kk : W p l e R s m args below meth c H locs cells slots Q (F0 m (pc + 3) ls rest)) : W p l e R s m args below meth c H locs cells slots Q (F0 m pc ls (.ref a :: rest)) :=
  W.objInit hexec hb hown (hts _ O.1) (hts _ O.2.1) (hts _ O.2.2) rfl (hls.trans hml.symm) rfl hdg hfr (by show 2 * 0 + _ + 12 ≤ _; omega) kk
end OINIT
end
section
def gd (o : Option Nat) : Nat := o.getD 0
theorem gd_some {o : Option Nat} (h : ∃ b, o = some b) : o = some (gd o) := by
  obtain ⟨b, rfl⟩ := h
  rfl
theorem fr_sfr {S : HS} {k k' a a' : Nat} {v : Option Nat} (h : a' ≠ a) : fr (sfr S k a v) k' a' = fr S k' a' := up2_a _ _ _ _ h
theorem fr_sfi {S : HS} {k a k' a' : Nat} {v : Int32} : fr (sfi S k a v) k' a' = fr S k' a' := rfl
theorem fr_sfl {S : HS} {k a k' a' : Nat} {v : Int64} : fr (sfl S k a v) k' a' = fr S k' a' := rfl
theorem fr_sar {S : HS} {k a k' a' : Nat} {v : Option Nat} : fr (sar S k a v) k' a' = fr S k' a' := rfl
theorem fr_sai {S : HS} {k a k' a' : Nat} {v : Int32} : fr (sai S k a v) k' a' = fr S k' a' := rfl
theorem fr_sal {S : HS} {k a k' a' : Nat} {v : Int64} : fr (sal S k a v) k' a' = fr S k' a' := rfl
theorem fr_newQ {S : HS} {q K k a : Nat} (h : a ≠ q) : fr (newQ S q K) k a = fr S k a := if_neg h
theorem fr_newB {S : HS} {q K n k a : Nat} : fr (newB S q K n) k a = fr S k a := rfl
theorem fi_sfr {S : HS} {k a k' a' : Nat} {v : Option Nat} : fi (sfr S k a v) k' a' = fi S k' a' := rfl
theorem fi_sfi {S : HS} {k k' a a' : Nat} {v : Int32} (h : a' ≠ a) : fi (sfi S k a v) k' a' = fi S k' a' := up2_a _ _ _ _ h
theorem fi_sfl {S : HS} {k a k' a' : Nat} {v : Int64} : fi (sfl S k a v) k' a' = fi S k' a' := rfl
theorem fi_sar {S : HS} {k a k' a' : Nat} {v : Option Nat} : fi (sar S k a v) k' a' = fi S k' a' := rfl
theorem fi_sai {S : HS} {k a k' a' : Nat} {v : Int32} : fi (sai S k a v) k' a' = fi S k' a' := rfl
theorem fi_sal {S : HS} {k a k' a' : Nat} {v : Int64} : fi (sal S k a v) k' a' = fi S k' a' := rfl
theorem fi_newQ {S : HS} {q K k a : Nat} (h : a ≠ q) : fi (newQ S q K) k a = fi S k a := if_neg h
theorem fi_newB {S : HS} {q K n k a : Nat} : fi (newB S q K n) k a = fi S k a := rfl
theorem fl_sfr {S : HS} {k a k' a' : Nat} {v : Option Nat} : fl (sfr S k a v) k' a' = fl S k' a' := rfl
theorem fl_sfi {S : HS} {k a k' a' : Nat} {v : Int32} : fl (sfi S k a v) k' a' = fl S k' a' := rfl
theorem fl_sfl {S : HS} {k k' a a' : Nat} {v : Int64} (h : a' ≠ a) : fl (sfl S k a v) k' a' = fl S k' a' := up2_a _ _ _ _ h
theorem fl_sar {S : HS} {k a k' a' : Nat} {v : Option Nat} : fl (sar S k a v) k' a' = fl S k' a' := rfl
theorem fl_sai {S : HS} {k a k' a' : Nat} {v : Int32} : fl (sai S k a v) k' a' = fl S k' a' := rfl
theorem fl_sal {S : HS} {k a k' a' : Nat} {v : Int64} : fl (sal S k a v) k' a' = fl S k' a' := rfl
theorem fl_newQ {S : HS} {q K k a : Nat} (h : a ≠ q) : fl (newQ S q K) k a = fl S k a := if_neg h
theorem fl_newB {S : HS} {q K n k a : Nat} : fl (newB S q K n) k a = fl S k a := rfl
theorem mono_sfi {S : HS} {k a : Nat} {v : Int32} : mono S (sfi S k a v) := fun _ _ => ⟨rfl, rfl⟩
theorem mono_sfl {S : HS} {k a : Nat} {v : Int64} : mono S (sfl S k a v) := fun _ _ => ⟨rfl, rfl⟩
theorem mono_sfr {S : HS} {k a : Nat} {v : Option Nat} : mono S (sfr S k a v) := fun _ _ => ⟨rfl, rfl⟩
theorem mono_sai {S : HS} {a i : Nat} {v : Int32} : mono S (sai S a i v) := fun _ _ => ⟨rfl, rfl⟩
theorem mono_sal {S : HS} {a i : Nat} {v : Int64} : mono S (sal S a i v) := fun _ _ => ⟨rfl, rfl⟩
theorem mono_sar {S : HS} {a i : Nat} {v : Option Nat} : mono S (sar S a i v) := fun _ _ => ⟨rfl, rfl⟩
/-- a case of an option -/
def opc {α : Type} (o : Option Nat) (x : α) (f : Nat → α) : α := match o with
  | none => x
  | some b => f b
theorem op_none {α : Type} {o : Option Nat} {x : α} {f : Nat → α} (h : o = none) : opc o x f = x := by subst h; rfl
theorem op_some {α : Type} {o : Option Nat} {x : α} {f : Nat → α} {b : Nat} (h : o = some b) : opc o x f = f b := by subst h; rfl
theorem ite_P {α : Type} {c : Prop} [Decidable c] {P : α → Prop} {a b : α} (h1 : P a) (h2 : P b) : P (if c then a else b) := by
  split
  · exact h1
  · exact h2
theorem opc_P {α : Type} {o : Option Nat} {P : α → Prop} {a : α} {f : Nat → α} (h1 : o = none → P a) (h2 : ∀ b, o = some b → P (f b)) : P (opc o a f) := by
  cases o with
  | none => exact h1 rfl
  | some b => exact h2 b rfl
/-- the fields that are never null behind their constructors -/
def nnk (k : Nat) : Bool := match k with
  | 2 => true
  | 3 => true
  | 9 => true
  | 10 => true
  | 11 => true
  | 13 => true
  | 18 => true
  | 19 => true
  | 20 => true
  | 21 => true
  | _ => false
theorem Wd.ne {D : va_G} {AC : Nat → ClassId} {A : Nat → Prop} {s : State} {H0 H : Heap} {locs : List Loc} {S : HS} {a K : Nat} (hW : Wd D AC A s H0 H locs S) (hk : kd S a = K) (h0 : K ≠ 0) : a ≠ hz S := fun z => hW.fresh (z ▸ hW.ok.1 a (by rw [hk]; exact h0))
def nn (S : HS) : Prop := ∀ k a, nnk k = true → kd S a = rO k → ∃ b, fr S k a = some b
theorem nn_sfr {S : HS} {k a : Nat} {v : Option Nat} (h : nn S) (hv : nnk k = false ∨ ∃ b, v = some b) : nn (sfr S k a v) := by
  intro k' a' hk ha
  show ∃ b, up2 (fr S) k a v k' a' = some b
  by_cases hc : k' = k ∧ a' = a
  · obtain ⟨rfl, rfl⟩ := hc
    rw [up2_self]
    rcases hv with h1 | h1
    · rw [h1] at hk; cases hk
    · exact h1
  · simp only [up2, hc, if_false]
    exact h k' a' hk ha
theorem nn_sfi {S : HS} {k a : Nat} {v : Int32} (h : nn S) : nn (sfi S k a v) := h
theorem nn_sfl {S : HS} {k a : Nat} {v : Int64} (h : nn S) : nn (sfl S k a v) := h
theorem nn_sai {S : HS} {a i : Nat} {v : Int32} (h : nn S) : nn (sai S a i v) := h
theorem nn_sal {S : HS} {a i : Nat} {v : Int64} (h : nn S) : nn (sal S a i v) := h
theorem nn_sar {S : HS} {a i : Nat} {v : Option Nat} (h : nn S) : nn (sar S a i v) := h
/-- a chain of objects by one field, from an option on -/
def chn (f : Nat → Option Nat) : Option Nat → List Nat → Prop
  | o, [] => o = none
  | o, x :: xs => o = some x ∧ chn f (f x) xs
end
section
theorem dAct_init_0 : decode cAct_init 0 = .ok (.aload_n 0, 1) := by decide +kernel
theorem dAct_init_1 : decode cAct_init 1 = .ok (.invokespecial 1, 3) := by decide +kernel
theorem dAct_init_4 : decode cAct_init 4 = .ok (.aload_n 0, 1) := by decide +kernel
theorem dAct_init_5 : decode cAct_init 5 = .ok (.aload_n 1, 1) := by decide +kernel
theorem dAct_init_6 : decode cAct_init 6 = .ok (.putfield 7, 3) := by decide +kernel
theorem dAct_init_9 : decode cAct_init 9 = .ok (.aload_n 0, 1) := by decide +kernel
theorem dAct_init_10 : decode cAct_init 10 = .ok (.aload_n 2, 1) := by decide +kernel
theorem dAct_init_11 : decode cAct_init 11 = .ok (.putfield 13, 3) := by decide +kernel
theorem dAct_init_14 : decode cAct_init 14 = .ok (.return_, 1) := by decide +kernel
theorem dAlarm_init_0 : decode cAlarm_init 0 = .ok (.aload_n 0, 1) := by decide +kernel
theorem dAlarm_init_1 : decode cAlarm_init 1 = .ok (.invokespecial 1, 3) := by decide +kernel
theorem dAlarm_init_4 : decode cAlarm_init 4 = .ok (.aload_n 0, 1) := by decide +kernel
theorem dAlarm_init_5 : decode cAlarm_init 5 = .ok (.iload_n 1, 1) := by decide +kernel
theorem dAlarm_init_6 : decode cAlarm_init 6 = .ok (.putfield 7, 3) := by decide +kernel
theorem dAlarm_init_9 : decode cAlarm_init 9 = .ok (.aload_n 0, 1) := by decide +kernel
theorem dAlarm_init_10 : decode cAlarm_init 10 = .ok (.aload_n 2, 1) := by decide +kernel
theorem dAlarm_init_11 : decode cAlarm_init 11 = .ok (.putfield 13, 3) := by decide +kernel
theorem dAlarm_init_14 : decode cAlarm_init 14 = .ok (.aload_n 0, 1) := by decide +kernel
theorem dAlarm_init_15 : decode cAlarm_init 15 = .ok (.aload_n 3, 1) := by decide +kernel
theorem dAlarm_init_16 : decode cAlarm_init 16 = .ok (.putfield 17, 3) := by decide +kernel
theorem dAlarm_init_19 : decode cAlarm_init 19 = .ok (.return_, 1) := by decide +kernel
theorem dAlarm_becomeDue_0 : decode cAlarm_becomeDue 0 = .ok (.aload_n 0, 1) := by decide +kernel
theorem dAlarm_becomeDue_1 : decode cAlarm_becomeDue 1 = .ok (.aload_n 0, 1) := by decide +kernel
theorem dAlarm_becomeDue_2 : decode cAlarm_becomeDue 2 = .ok (.getfield 13, 3) := by decide +kernel
theorem dAlarm_becomeDue_5 : decode cAlarm_becomeDue 5 = .ok (.getfield 21, 3) := by decide +kernel
theorem dAlarm_becomeDue_8 : decode cAlarm_becomeDue 8 = .ok (.lload_n 1, 1) := by decide +kernel
theorem dAlarm_becomeDue_9 : decode cAlarm_becomeDue 9 = .ok (.ladd, 1) := by decide +kernel
theorem dAlarm_becomeDue_10 : decode cAlarm_becomeDue 10 = .ok (.putfield 27, 3) := by decide +kernel
theorem dAlarm_becomeDue_13 : decode cAlarm_becomeDue 13 = .ok (.aload_n 0, 1) := by decide +kernel
theorem dAlarm_becomeDue_14 : decode cAlarm_becomeDue 14 = .ok (.getfield 13, 3) := by decide +kernel
theorem dAlarm_becomeDue_17 : decode cAlarm_becomeDue 17 = .ok (.aload_n 0, 1) := by decide +kernel
theorem dAlarm_becomeDue_18 : decode cAlarm_becomeDue 18 = .ok (.getfield 27, 3) := by decide +kernel
theorem dAlarm_becomeDue_21 : decode cAlarm_becomeDue 21 = .ok (.invokevirtual 30, 3) := by decide +kernel
theorem dAlarm_becomeDue_24 : decode cAlarm_becomeDue 24 = .ok (.return_, 1) := by decide +kernel
theorem dCounter_init_0 : decode cCounter_init 0 = .ok (.aload_n 0, 1) := by decide +kernel
theorem dCounter_init_1 : decode cCounter_init 1 = .ok (.invokespecial 3, 3) := by decide +kernel
theorem dCounter_init_4 : decode cCounter_init 4 = .ok (.aload_n 0, 1) := by decide +kernel
theorem dCounter_init_5 : decode cCounter_init 5 = .ok (.ldc2_w 9, 3) := by decide +kernel
theorem dCounter_init_8 : decode cCounter_init 8 = .ok (.putfield 11, 3) := by decide +kernel
theorem dCounter_init_11 : decode cCounter_init 11 = .ok (.aload_n 0, 1) := by decide +kernel
theorem dCounter_init_12 : decode cCounter_init 12 = .ok (.iconst 1, 1) := by decide +kernel
theorem dCounter_init_13 : decode cCounter_init 13 = .ok (.iload_n 1, 1) := by decide +kernel
theorem dCounter_init_14 : decode cCounter_init 14 = .ok (.iconst 1, 1) := by decide +kernel
theorem dCounter_init_15 : decode cCounter_init 15 = .ok (.isub, 1) := by decide +kernel
theorem dCounter_init_16 : decode cCounter_init 16 = .ok (.ishl, 1) := by decide +kernel
theorem dCounter_init_17 : decode cCounter_init 17 = .ok (.putfield 17, 3) := by decide +kernel
theorem dCounter_init_20 : decode cCounter_init 20 = .ok (.aload_n 0, 1) := by decide +kernel
theorem dCounter_init_21 : decode cCounter_init 21 = .ok (.lload_n 2, 1) := by decide +kernel
theorem dCounter_init_22 : decode cCounter_init 22 = .ok (.putfield 21, 3) := by decide +kernel
theorem dCounter_init_25 : decode cCounter_init 25 = .ok (.aload_n 0, 1) := by decide +kernel
theorem dCounter_init_26 : decode cCounter_init 26 = .ok (.lload 4, 2) := by decide +kernel
theorem dCounter_init_28 : decode cCounter_init 28 = .ok (.putfield 24, 3) := by decide +kernel
theorem dCounter_init_31 : decode cCounter_init 31 = .ok (.return_, 1) := by decide +kernel
theorem dCounter_wakeAt_0 : decode cCounter_wakeAt 0 = .ok (.aload_n 0, 1) := by decide +kernel
theorem dCounter_wakeAt_1 : decode cCounter_wakeAt 1 = .ok (.aload_n 0, 1) := by decide +kernel
theorem dCounter_wakeAt_2 : decode cCounter_wakeAt 2 = .ok (.getfield 11, 3) := by decide +kernel
theorem dCounter_wakeAt_5 : decode cCounter_wakeAt 5 = .ok (.lload_n 1, 1) := by decide +kernel
theorem dCounter_wakeAt_6 : decode cCounter_wakeAt 6 = .ok (.invokestatic 27, 3) := by decide +kernel
theorem dCounter_wakeAt_9 : decode cCounter_wakeAt 9 = .ok (.putfield 11, 3) := by decide +kernel
theorem dCounter_wakeAt_12 : decode cCounter_wakeAt 12 = .ok (.return_, 1) := by decide +kernel
theorem dCounter_advance_0 : decode cCounter_advance 0 = .ok (.aload_n 0, 1) := by decide +kernel
theorem dCounter_advance_1 : decode cCounter_advance 1 = .ok (.dup, 1) := by decide +kernel
theorem dCounter_advance_2 : decode cCounter_advance 2 = .ok (.getfield 33, 3) := by decide +kernel
theorem dCounter_advance_5 : decode cCounter_advance 5 = .ok (.lconst 1, 1) := by decide +kernel
theorem dCounter_advance_6 : decode cCounter_advance 6 = .ok (.ladd, 1) := by decide +kernel
theorem dCounter_advance_7 : decode cCounter_advance 7 = .ok (.putfield 33, 3) := by decide +kernel
theorem dCounter_advance_10 : decode cCounter_advance 10 = .ok (.aload_n 0, 1) := by decide +kernel
theorem dCounter_advance_11 : decode cCounter_advance 11 = .ok (.dup, 1) := by decide +kernel
theorem dCounter_advance_12 : decode cCounter_advance 12 = .ok (.getfield 36, 3) := by decide +kernel
theorem dCounter_advance_15 : decode cCounter_advance 15 = .ok (.lconst 1, 1) := by decide +kernel
theorem dCounter_advance_16 : decode cCounter_advance 16 = .ok (.ladd, 1) := by decide +kernel
theorem dCounter_advance_17 : decode cCounter_advance 17 = .ok (.putfield 36, 3) := by decide +kernel
theorem dCounter_advance_20 : decode cCounter_advance 20 = .ok (.aload_n 0, 1) := by decide +kernel
theorem dCounter_advance_21 : decode cCounter_advance 21 = .ok (.getfield 36, 3) := by decide +kernel
theorem dCounter_advance_24 : decode cCounter_advance 24 = .ok (.aload_n 0, 1) := by decide +kernel
theorem dCounter_advance_25 : decode cCounter_advance 25 = .ok (.getfield 21, 3) := by decide +kernel
theorem dCounter_advance_28 : decode cCounter_advance 28 = .ok (.lcmp, 1) := by decide +kernel
theorem dCounter_advance_29 : decode cCounter_advance 29 = .ok (.ifCond .lt 8, 3) := by decide +kernel
theorem dCounter_advance_32 : decode cCounter_advance 32 = .ok (.aload_n 0, 1) := by decide +kernel
theorem dCounter_advance_33 : decode cCounter_advance 33 = .ok (.lconst 0, 1) := by decide +kernel
theorem dCounter_advance_34 : decode cCounter_advance 34 = .ok (.putfield 36, 3) := by decide +kernel
theorem dCounter_advance_37 : decode cCounter_advance 37 = .ok (.return_, 1) := by decide +kernel
theorem dCounter_stepsUntil_0 : decode cCounter_stepsUntil 0 = .ok (.lload_n 1, 1) := by decide +kernel
theorem dCounter_stepsUntil_1 : decode cCounter_stepsUntil 1 = .ok (.aload_n 0, 1) := by decide +kernel
theorem dCounter_stepsUntil_2 : decode cCounter_stepsUntil 2 = .ok (.getfield 36, 3) := by decide +kernel
theorem dCounter_stepsUntil_5 : decode cCounter_stepsUntil 5 = .ok (.lsub, 1) := by decide +kernel
theorem dCounter_stepsUntil_6 : decode cCounter_stepsUntil 6 = .ok (.lstore_n 3, 1) := by decide +kernel
theorem dCounter_stepsUntil_7 : decode cCounter_stepsUntil 7 = .ok (.lload_n 3, 1) := by decide +kernel
theorem dCounter_stepsUntil_8 : decode cCounter_stepsUntil 8 = .ok (.lconst 0, 1) := by decide +kernel
theorem dCounter_stepsUntil_9 : decode cCounter_stepsUntil 9 = .ok (.lcmp, 1) := by decide +kernel
theorem dCounter_stepsUntil_10 : decode cCounter_stepsUntil 10 = .ok (.ifCond .le 7, 3) := by decide +kernel
theorem dCounter_stepsUntil_13 : decode cCounter_stepsUntil 13 = .ok (.lload_n 3, 1) := by decide +kernel
theorem dCounter_stepsUntil_14 : decode cCounter_stepsUntil 14 = .ok (.goto 9, 3) := by decide +kernel
theorem dCounter_stepsUntil_17 : decode cCounter_stepsUntil 17 = .ok (.lload_n 3, 1) := by decide +kernel
theorem dCounter_stepsUntil_18 : decode cCounter_stepsUntil 18 = .ok (.aload_n 0, 1) := by decide +kernel
theorem dCounter_stepsUntil_19 : decode cCounter_stepsUntil 19 = .ok (.getfield 21, 3) := by decide +kernel
theorem dCounter_stepsUntil_22 : decode cCounter_stepsUntil 22 = .ok (.ladd, 1) := by decide +kernel
theorem dCounter_stepsUntil_23 : decode cCounter_stepsUntil 23 = .ok (.lreturn, 1) := by decide +kernel
theorem dCounter_appendAlarm_0 : decode cCounter_appendAlarm 0 = .ok (.aload_n 0, 1) := by decide +kernel
theorem dCounter_appendAlarm_1 : decode cCounter_appendAlarm 1 = .ok (.getfield 39, 3) := by decide +kernel
theorem dCounter_appendAlarm_4 : decode cCounter_appendAlarm 4 = .ok (.ifnonnull 11, 3) := by decide +kernel
theorem dCounter_appendAlarm_7 : decode cCounter_appendAlarm 7 = .ok (.aload_n 0, 1) := by decide +kernel
theorem dCounter_appendAlarm_8 : decode cCounter_appendAlarm 8 = .ok (.aload_n 1, 1) := by decide +kernel
theorem dCounter_appendAlarm_9 : decode cCounter_appendAlarm 9 = .ok (.putfield 43, 3) := by decide +kernel
theorem dCounter_appendAlarm_12 : decode cCounter_appendAlarm 12 = .ok (.goto 11, 3) := by decide +kernel
theorem dCounter_appendAlarm_15 : decode cCounter_appendAlarm 15 = .ok (.aload_n 0, 1) := by decide +kernel
theorem dCounter_appendAlarm_16 : decode cCounter_appendAlarm 16 = .ok (.getfield 39, 3) := by decide +kernel
theorem dCounter_appendAlarm_19 : decode cCounter_appendAlarm 19 = .ok (.aload_n 1, 1) := by decide +kernel
theorem dCounter_appendAlarm_20 : decode cCounter_appendAlarm 20 = .ok (.putfield 46, 3) := by decide +kernel
theorem dCounter_appendAlarm_23 : decode cCounter_appendAlarm 23 = .ok (.aload_n 0, 1) := by decide +kernel
theorem dCounter_appendAlarm_24 : decode cCounter_appendAlarm 24 = .ok (.aload_n 1, 1) := by decide +kernel
theorem dCounter_appendAlarm_25 : decode cCounter_appendAlarm 25 = .ok (.putfield 39, 3) := by decide +kernel
theorem dCounter_appendAlarm_28 : decode cCounter_appendAlarm 28 = .ok (.return_, 1) := by decide +kernel
theorem dCounter_appendTable_0 : decode cCounter_appendTable 0 = .ok (.aload_n 0, 1) := by decide +kernel
theorem dCounter_appendTable_1 : decode cCounter_appendTable 1 = .ok (.getfield 51, 3) := by decide +kernel
theorem dCounter_appendTable_4 : decode cCounter_appendTable 4 = .ok (.ifnonnull 11, 3) := by decide +kernel
theorem dCounter_appendTable_7 : decode cCounter_appendTable 7 = .ok (.aload_n 0, 1) := by decide +kernel
theorem dCounter_appendTable_8 : decode cCounter_appendTable 8 = .ok (.aload_n 1, 1) := by decide +kernel
theorem dCounter_appendTable_9 : decode cCounter_appendTable 9 = .ok (.putfield 55, 3) := by decide +kernel
theorem dCounter_appendTable_12 : decode cCounter_appendTable 12 = .ok (.goto 11, 3) := by decide +kernel
theorem dCounter_appendTable_15 : decode cCounter_appendTable 15 = .ok (.aload_n 0, 1) := by decide +kernel
theorem dCounter_appendTable_16 : decode cCounter_appendTable 16 = .ok (.getfield 51, 3) := by decide +kernel
theorem dCounter_appendTable_19 : decode cCounter_appendTable 19 = .ok (.aload_n 1, 1) := by decide +kernel
theorem dCounter_appendTable_20 : decode cCounter_appendTable 20 = .ok (.putfield 58, 3) := by decide +kernel
theorem dCounter_appendTable_23 : decode cCounter_appendTable 23 = .ok (.aload_n 0, 1) := by decide +kernel
theorem dCounter_appendTable_24 : decode cCounter_appendTable 24 = .ok (.aload_n 1, 1) := by decide +kernel
theorem dCounter_appendTable_25 : decode cCounter_appendTable 25 = .ok (.putfield 51, 3) := by decide +kernel
theorem dCounter_appendTable_28 : decode cCounter_appendTable 28 = .ok (.return_, 1) := by decide +kernel
theorem dNotes_init_0 : decode cNotes_init 0 = .ok (.aload_n 0, 1) := by decide +kernel
theorem dNotes_init_1 : decode cNotes_init 1 = .ok (.invokespecial 3, 3) := by decide +kernel
theorem dNotes_init_4 : decode cNotes_init 4 = .ok (.aload_n 0, 1) := by decide +kernel
theorem dNotes_init_5 : decode cNotes_init 5 = .ok (.bipush 12, 2) := by decide +kernel
theorem dNotes_init_7 : decode cNotes_init 7 = .ok (.anewarray 9, 3) := by decide +kernel
theorem dNotes_init_10 : decode cNotes_init 10 = .ok (.putfield 11, 3) := by decide +kernel
theorem dNotes_init_13 : decode cNotes_init 13 = .ok (.return_, 1) := by decide +kernel
theorem dNotes_add_0 : decode cNotes_add 0 = .ok (.aload_n 0, 1) := by decide +kernel
theorem dNotes_add_1 : decode cNotes_add 1 = .ok (.dup, 1) := by decide +kernel
theorem dNotes_add_2 : decode cNotes_add 2 = .ok (.getfield 17, 3) := by decide +kernel
theorem dNotes_add_5 : decode cNotes_add 5 = .ok (.iconst 1, 1) := by decide +kernel
theorem dNotes_add_6 : decode cNotes_add 6 = .ok (.iadd, 1) := by decide +kernel
theorem dNotes_add_7 : decode cNotes_add 7 = .ok (.putfield 17, 3) := by decide +kernel
theorem dNotes_add_10 : decode cNotes_add 10 = .ok (.aload_n 0, 1) := by decide +kernel
theorem dNotes_add_11 : decode cNotes_add 11 = .ok (.getfield 21, 3) := by decide +kernel
theorem dNotes_add_14 : decode cNotes_add 14 = .ok (.sipush 3000, 3) := by decide +kernel
theorem dNotes_add_17 : decode cNotes_add 17 = .ok (.if_icmp .lt 4, 3) := by decide +kernel
theorem dNotes_add_20 : decode cNotes_add 20 = .ok (.return_, 1) := by decide +kernel
theorem dNotes_add_21 : decode cNotes_add 21 = .ok (.aload_n 0, 1) := by decide +kernel
theorem dNotes_add_22 : decode cNotes_add 22 = .ok (.getfield 21, 3) := by decide +kernel
theorem dNotes_add_25 : decode cNotes_add 25 = .ok (.sipush 250, 3) := by decide +kernel
theorem dNotes_add_28 : decode cNotes_add 28 = .ok (.idiv, 1) := by decide +kernel
theorem dNotes_add_29 : decode cNotes_add 29 = .ok (.istore 7, 2) := by decide +kernel
theorem dNotes_add_31 : decode cNotes_add 31 = .ok (.aload_n 0, 1) := by decide +kernel
theorem dNotes_add_32 : decode cNotes_add 32 = .ok (.getfield 11, 3) := by decide +kernel
theorem dNotes_add_35 : decode cNotes_add 35 = .ok (.iload 7, 2) := by decide +kernel
theorem dNotes_add_37 : decode cNotes_add 37 = .ok (.aaload, 1) := by decide +kernel
theorem dNotes_add_38 : decode cNotes_add 38 = .ok (.ifnonnull 17, 3) := by decide +kernel
theorem dNotes_add_41 : decode cNotes_add 41 = .ok (.aload_n 0, 1) := by decide +kernel
theorem dNotes_add_42 : decode cNotes_add 42 = .ok (.getfield 11, 3) := by decide +kernel
theorem dNotes_add_45 : decode cNotes_add 45 = .ok (.iload 7, 2) := by decide +kernel
theorem dNotes_add_47 : decode cNotes_add 47 = .ok (.new 9, 3) := by decide +kernel
theorem dNotes_add_50 : decode cNotes_add 50 = .ok (.dup, 1) := by decide +kernel
theorem dNotes_add_51 : decode cNotes_add 51 = .ok (.invokespecial 24, 3) := by decide +kernel
theorem dNotes_add_54 : decode cNotes_add 54 = .ok (.aastore, 1) := by decide +kernel
theorem dNotes_add_55 : decode cNotes_add 55 = .ok (.aload_n 0, 1) := by decide +kernel
theorem dNotes_add_56 : decode cNotes_add 56 = .ok (.getfield 11, 3) := by decide +kernel
theorem dNotes_add_59 : decode cNotes_add 59 = .ok (.iload 7, 2) := by decide +kernel
theorem dNotes_add_61 : decode cNotes_add 61 = .ok (.aaload, 1) := by decide +kernel
theorem dNotes_add_62 : decode cNotes_add 62 = .ok (.aload_n 0, 1) := by decide +kernel
theorem dNotes_add_63 : decode cNotes_add 63 = .ok (.getfield 21, 3) := by decide +kernel
theorem dNotes_add_66 : decode cNotes_add 66 = .ok (.sipush 250, 3) := by decide +kernel
theorem dNotes_add_69 : decode cNotes_add 69 = .ok (.irem, 1) := by decide +kernel
theorem dNotes_add_70 : decode cNotes_add 70 = .ok (.iconst 4, 1) := by decide +kernel
theorem dNotes_add_71 : decode cNotes_add 71 = .ok (.imul, 1) := by decide +kernel
theorem dNotes_add_72 : decode cNotes_add 72 = .ok (.iload_n 1, 1) := by decide +kernel
theorem dNotes_add_73 : decode cNotes_add 73 = .ok (.iload_n 2, 1) := by decide +kernel
theorem dNotes_add_74 : decode cNotes_add 74 = .ok (.lload_n 3, 1) := by decide +kernel
theorem dNotes_add_75 : decode cNotes_add 75 = .ok (.lload 5, 2) := by decide +kernel
theorem dNotes_add_77 : decode cNotes_add 77 = .ok (.invokevirtual 25, 3) := by decide +kernel
theorem dNotes_add_80 : decode cNotes_add 80 = .ok (.aload_n 0, 1) := by decide +kernel
theorem dNotes_add_81 : decode cNotes_add 81 = .ok (.dup, 1) := by decide +kernel
theorem dNotes_add_82 : decode cNotes_add 82 = .ok (.getfield 21, 3) := by decide +kernel
theorem dNotes_add_85 : decode cNotes_add 85 = .ok (.iconst 1, 1) := by decide +kernel
theorem dNotes_add_86 : decode cNotes_add 86 = .ok (.iadd, 1) := by decide +kernel
theorem dNotes_add_87 : decode cNotes_add 87 = .ok (.putfield 21, 3) := by decide +kernel
theorem dNotes_add_90 : decode cNotes_add 90 = .ok (.return_, 1) := by decide +kernel
theorem dNotes_has_0 : decode cNotes_has 0 = .ok (.iload_n 1, 1) := by decide +kernel
theorem dNotes_has_1 : decode cNotes_has 1 = .ok (.ifCond .lt 15, 3) := by decide +kernel
theorem dNotes_has_4 : decode cNotes_has 4 = .ok (.iload_n 1, 1) := by decide +kernel
theorem dNotes_has_5 : decode cNotes_has 5 = .ok (.aload_n 0, 1) := by decide +kernel
theorem dNotes_has_6 : decode cNotes_has 6 = .ok (.getfield 21, 3) := by decide +kernel
theorem dNotes_has_9 : decode cNotes_has 9 = .ok (.if_icmp .ge 7, 3) := by decide +kernel
theorem dNotes_has_12 : decode cNotes_has 12 = .ok (.iconst 1, 1) := by decide +kernel
theorem dNotes_has_13 : decode cNotes_has 13 = .ok (.goto 4, 3) := by decide +kernel
theorem dNotes_has_16 : decode cNotes_has 16 = .ok (.iconst 0, 1) := by decide +kernel
theorem dNotes_has_17 : decode cNotes_has 17 = .ok (.ireturn, 1) := by decide +kernel
theorem dNotes_read_0 : decode cNotes_read 0 = .ok (.aload_n 0, 1) := by decide +kernel
theorem dNotes_read_1 : decode cNotes_read 1 = .ok (.getfield 11, 3) := by decide +kernel
theorem dNotes_read_4 : decode cNotes_read 4 = .ok (.iload_n 1, 1) := by decide +kernel
theorem dNotes_read_5 : decode cNotes_read 5 = .ok (.sipush 250, 3) := by decide +kernel
theorem dNotes_read_8 : decode cNotes_read 8 = .ok (.idiv, 1) := by decide +kernel
theorem dNotes_read_9 : decode cNotes_read 9 = .ok (.aaload, 1) := by decide +kernel
theorem dNotes_read_10 : decode cNotes_read 10 = .ok (.astore_n 3, 1) := by decide +kernel
theorem dNotes_read_11 : decode cNotes_read 11 = .ok (.aload_n 3, 1) := by decide +kernel
theorem dNotes_read_12 : decode cNotes_read 12 = .ok (.ifnonnull 7, 3) := by decide +kernel
theorem dNotes_read_15 : decode cNotes_read 15 = .ok (.iconst (-1), 1) := by decide +kernel
theorem dNotes_read_16 : decode cNotes_read 16 = .ok (.goto 17, 3) := by decide +kernel
theorem dNotes_read_19 : decode cNotes_read 19 = .ok (.aload_n 3, 1) := by decide +kernel
theorem dNotes_read_20 : decode cNotes_read 20 = .ok (.getfield 29, 3) := by decide +kernel
theorem dNotes_read_23 : decode cNotes_read 23 = .ok (.iload_n 1, 1) := by decide +kernel
theorem dNotes_read_24 : decode cNotes_read 24 = .ok (.sipush 250, 3) := by decide +kernel
theorem dNotes_read_27 : decode cNotes_read 27 = .ok (.irem, 1) := by decide +kernel
theorem dNotes_read_28 : decode cNotes_read 28 = .ok (.iconst 4, 1) := by decide +kernel
theorem dNotes_read_29 : decode cNotes_read 29 = .ok (.imul, 1) := by decide +kernel
theorem dNotes_read_30 : decode cNotes_read 30 = .ok (.iload_n 2, 1) := by decide +kernel
theorem dNotes_read_31 : decode cNotes_read 31 = .ok (.iadd, 1) := by decide +kernel
theorem dNotes_read_32 : decode cNotes_read 32 = .ok (.iaload, 1) := by decide +kernel
theorem dNotes_read_33 : decode cNotes_read 33 = .ok (.ireturn, 1) := by decide +kernel
theorem dPage_init_0 : decode cPage_init 0 = .ok (.aload_n 0, 1) := by decide +kernel
theorem dPage_init_1 : decode cPage_init 1 = .ok (.invokespecial 3, 3) := by decide +kernel
theorem dPage_init_4 : decode cPage_init 4 = .ok (.aload_n 0, 1) := by decide +kernel
theorem dPage_init_5 : decode cPage_init 5 = .ok (.sipush 1000, 3) := by decide +kernel
theorem dPage_init_8 : decode cPage_init 8 = .ok (.newarray .int, 2) := by decide +kernel
theorem dPage_init_10 : decode cPage_init 10 = .ok (.putfield 9, 3) := by decide +kernel
theorem dPage_init_13 : decode cPage_init 13 = .ok (.return_, 1) := by decide +kernel
theorem dPage_write_0 : decode cPage_write 0 = .ok (.iload_n 1, 1) := by decide +kernel
theorem dPage_write_1 : decode cPage_write 1 = .ok (.ifCond .lt 52, 3) := by decide +kernel
theorem dPage_write_4 : decode cPage_write 4 = .ok (.iload_n 1, 1) := by decide +kernel
theorem dPage_write_5 : decode cPage_write 5 = .ok (.iconst 4, 1) := by decide +kernel
theorem dPage_write_6 : decode cPage_write 6 = .ok (.iadd, 1) := by decide +kernel
theorem dPage_write_7 : decode cPage_write 7 = .ok (.aload_n 0, 1) := by decide +kernel
theorem dPage_write_8 : decode cPage_write 8 = .ok (.getfield 9, 3) := by decide +kernel
theorem dPage_write_11 : decode cPage_write 11 = .ok (.arraylength, 1) := by decide +kernel
theorem dPage_write_12 : decode cPage_write 12 = .ok (.if_icmp .gt 41, 3) := by decide +kernel
theorem dPage_write_15 : decode cPage_write 15 = .ok (.aload_n 0, 1) := by decide +kernel
theorem dPage_write_16 : decode cPage_write 16 = .ok (.getfield 9, 3) := by decide +kernel
theorem dPage_write_19 : decode cPage_write 19 = .ok (.iload_n 1, 1) := by decide +kernel
theorem dPage_write_20 : decode cPage_write 20 = .ok (.iload_n 2, 1) := by decide +kernel
theorem dPage_write_21 : decode cPage_write 21 = .ok (.iastore, 1) := by decide +kernel
theorem dPage_write_22 : decode cPage_write 22 = .ok (.aload_n 0, 1) := by decide +kernel
theorem dPage_write_23 : decode cPage_write 23 = .ok (.getfield 9, 3) := by decide +kernel
theorem dPage_write_26 : decode cPage_write 26 = .ok (.iload_n 1, 1) := by decide +kernel
theorem dPage_write_27 : decode cPage_write 27 = .ok (.iconst 1, 1) := by decide +kernel
theorem dPage_write_28 : decode cPage_write 28 = .ok (.iadd, 1) := by decide +kernel
theorem dPage_write_29 : decode cPage_write 29 = .ok (.iload_n 3, 1) := by decide +kernel
theorem dPage_write_30 : decode cPage_write 30 = .ok (.iastore, 1) := by decide +kernel
theorem dPage_write_31 : decode cPage_write 31 = .ok (.aload_n 0, 1) := by decide +kernel
theorem dPage_write_32 : decode cPage_write 32 = .ok (.getfield 9, 3) := by decide +kernel
theorem dPage_write_35 : decode cPage_write 35 = .ok (.iload_n 1, 1) := by decide +kernel
theorem dPage_write_36 : decode cPage_write 36 = .ok (.iconst 2, 1) := by decide +kernel
theorem dPage_write_37 : decode cPage_write 37 = .ok (.iadd, 1) := by decide +kernel
theorem dPage_write_38 : decode cPage_write 38 = .ok (.lload 4, 2) := by decide +kernel
theorem dPage_write_40 : decode cPage_write 40 = .ok (.l2i, 1) := by decide +kernel
theorem dPage_write_41 : decode cPage_write 41 = .ok (.iastore, 1) := by decide +kernel
theorem dPage_write_42 : decode cPage_write 42 = .ok (.aload_n 0, 1) := by decide +kernel
theorem dPage_write_43 : decode cPage_write 43 = .ok (.getfield 9, 3) := by decide +kernel
theorem dPage_write_46 : decode cPage_write 46 = .ok (.iload_n 1, 1) := by decide +kernel
theorem dPage_write_47 : decode cPage_write 47 = .ok (.iconst 3, 1) := by decide +kernel
theorem dPage_write_48 : decode cPage_write 48 = .ok (.iadd, 1) := by decide +kernel
theorem dPage_write_49 : decode cPage_write 49 = .ok (.lload 6, 2) := by decide +kernel
theorem dPage_write_51 : decode cPage_write 51 = .ok (.l2i, 1) := by decide +kernel
theorem dPage_write_52 : decode cPage_write 52 = .ok (.iastore, 1) := by decide +kernel
theorem dPage_write_53 : decode cPage_write 53 = .ok (.return_, 1) := by decide +kernel
theorem dPoint_init_0 : decode cPoint_init 0 = .ok (.aload_n 0, 1) := by decide +kernel
theorem dPoint_init_1 : decode cPoint_init 1 = .ok (.invokespecial 1, 3) := by decide +kernel
theorem dPoint_init_4 : decode cPoint_init 4 = .ok (.aload_n 0, 1) := by decide +kernel
theorem dPoint_init_5 : decode cPoint_init 5 = .ok (.lload_n 1, 1) := by decide +kernel
theorem dPoint_init_6 : decode cPoint_init 6 = .ok (.putfield 7, 3) := by decide +kernel
theorem dPoint_init_9 : decode cPoint_init 9 = .ok (.aload_n 0, 1) := by decide +kernel
theorem dPoint_init_10 : decode cPoint_init 10 = .ok (.aload_n 3, 1) := by decide +kernel
theorem dPoint_init_11 : decode cPoint_init 11 = .ok (.putfield 13, 3) := by decide +kernel
theorem dPoint_init_14 : decode cPoint_init 14 = .ok (.return_, 1) := by decide +kernel
theorem dTable_init_0 : decode cTable_init 0 = .ok (.aload_n 0, 1) := by decide +kernel
theorem dTable_init_1 : decode cTable_init 1 = .ok (.invokespecial 3, 3) := by decide +kernel
theorem dTable_init_4 : decode cTable_init 4 = .ok (.aload_n 0, 1) := by decide +kernel
theorem dTable_init_5 : decode cTable_init 5 = .ok (.iload_n 1, 1) := by decide +kernel
theorem dTable_init_6 : decode cTable_init 6 = .ok (.putfield 9, 3) := by decide +kernel
theorem dTable_init_9 : decode cTable_init 9 = .ok (.aload_n 0, 1) := by decide +kernel
theorem dTable_init_10 : decode cTable_init 10 = .ok (.aload_n 2, 1) := by decide +kernel
theorem dTable_init_11 : decode cTable_init 11 = .ok (.putfield 15, 3) := by decide +kernel
theorem dTable_init_14 : decode cTable_init 14 = .ok (.aload_n 0, 1) := by decide +kernel
theorem dTable_init_15 : decode cTable_init 15 = .ok (.lload_n 3, 1) := by decide +kernel
theorem dTable_init_16 : decode cTable_init 16 = .ok (.putfield 19, 3) := by decide +kernel
theorem dTable_init_19 : decode cTable_init 19 = .ok (.return_, 1) := by decide +kernel
theorem dTable_pointBefore_0 : decode cTable_pointBefore 0 = .ok (.aconst_null, 1) := by decide +kernel
theorem dTable_pointBefore_1 : decode cTable_pointBefore 1 = .ok (.astore_n 3, 1) := by decide +kernel
theorem dTable_pointBefore_2 : decode cTable_pointBefore 2 = .ok (.aload_n 0, 1) := by decide +kernel
theorem dTable_pointBefore_3 : decode cTable_pointBefore 3 = .ok (.getfield 23, 3) := by decide +kernel
theorem dTable_pointBefore_6 : decode cTable_pointBefore 6 = .ok (.astore 4, 2) := by decide +kernel
theorem dTable_pointBefore_8 : decode cTable_pointBefore 8 = .ok (.aload 4, 2) := by decide +kernel
theorem dTable_pointBefore_10 : decode cTable_pointBefore 10 = .ok (.ifnull 26, 3) := by decide +kernel
theorem dTable_pointBefore_13 : decode cTable_pointBefore 13 = .ok (.aload 4, 2) := by decide +kernel
theorem dTable_pointBefore_15 : decode cTable_pointBefore 15 = .ok (.getfield 27, 3) := by decide +kernel
theorem dTable_pointBefore_18 : decode cTable_pointBefore 18 = .ok (.lload_n 1, 1) := by decide +kernel
theorem dTable_pointBefore_19 : decode cTable_pointBefore 19 = .ok (.lcmp, 1) := by decide +kernel
theorem dTable_pointBefore_20 : decode cTable_pointBefore 20 = .ok (.ifCond .ge 16, 3) := by decide +kernel
theorem dTable_pointBefore_23 : decode cTable_pointBefore 23 = .ok (.aload 4, 2) := by decide +kernel
theorem dTable_pointBefore_25 : decode cTable_pointBefore 25 = .ok (.astore_n 3, 1) := by decide +kernel
theorem dTable_pointBefore_26 : decode cTable_pointBefore 26 = .ok (.aload 4, 2) := by decide +kernel
theorem dTable_pointBefore_28 : decode cTable_pointBefore 28 = .ok (.getfield 32, 3) := by decide +kernel
theorem dTable_pointBefore_31 : decode cTable_pointBefore 31 = .ok (.astore 4, 2) := by decide +kernel
theorem dTable_pointBefore_33 : decode cTable_pointBefore 33 = .ok (.goto (-25), 3) := by decide +kernel
theorem dTable_pointBefore_36 : decode cTable_pointBefore 36 = .ok (.aload_n 3, 1) := by decide +kernel
theorem dTable_pointBefore_37 : decode cTable_pointBefore 37 = .ok (.areturn, 1) := by decide +kernel
theorem dTable_hasPointAt_0 : decode cTable_hasPointAt 0 = .ok (.aload_n 0, 1) := by decide +kernel
theorem dTable_hasPointAt_1 : decode cTable_hasPointAt 1 = .ok (.lload_n 1, 1) := by decide +kernel
theorem dTable_hasPointAt_2 : decode cTable_hasPointAt 2 = .ok (.invokevirtual 35, 3) := by decide +kernel
theorem dTable_hasPointAt_5 : decode cTable_hasPointAt 5 = .ok (.astore_n 3, 1) := by decide +kernel
theorem dTable_hasPointAt_6 : decode cTable_hasPointAt 6 = .ok (.aload_n 3, 1) := by decide +kernel
theorem dTable_hasPointAt_7 : decode cTable_hasPointAt 7 = .ok (.ifnonnull 10, 3) := by decide +kernel
theorem dTable_hasPointAt_10 : decode cTable_hasPointAt 10 = .ok (.aload_n 0, 1) := by decide +kernel
theorem dTable_hasPointAt_11 : decode cTable_hasPointAt 11 = .ok (.getfield 23, 3) := by decide +kernel
theorem dTable_hasPointAt_14 : decode cTable_hasPointAt 14 = .ok (.goto 7, 3) := by decide +kernel
theorem dTable_hasPointAt_17 : decode cTable_hasPointAt 17 = .ok (.aload_n 3, 1) := by decide +kernel
theorem dTable_hasPointAt_18 : decode cTable_hasPointAt 18 = .ok (.getfield 32, 3) := by decide +kernel
theorem dTable_hasPointAt_21 : decode cTable_hasPointAt 21 = .ok (.astore 4, 2) := by decide +kernel
theorem dTable_hasPointAt_23 : decode cTable_hasPointAt 23 = .ok (.aload 4, 2) := by decide +kernel
theorem dTable_hasPointAt_25 : decode cTable_hasPointAt 25 = .ok (.ifnull 17, 3) := by decide +kernel
theorem dTable_hasPointAt_28 : decode cTable_hasPointAt 28 = .ok (.aload 4, 2) := by decide +kernel
theorem dTable_hasPointAt_30 : decode cTable_hasPointAt 30 = .ok (.getfield 27, 3) := by decide +kernel
theorem dTable_hasPointAt_33 : decode cTable_hasPointAt 33 = .ok (.lload_n 1, 1) := by decide +kernel
theorem dTable_hasPointAt_34 : decode cTable_hasPointAt 34 = .ok (.lcmp, 1) := by decide +kernel
theorem dTable_hasPointAt_35 : decode cTable_hasPointAt 35 = .ok (.ifCond .ne 7, 3) := by decide +kernel
theorem dTable_hasPointAt_38 : decode cTable_hasPointAt 38 = .ok (.iconst 1, 1) := by decide +kernel
theorem dTable_hasPointAt_39 : decode cTable_hasPointAt 39 = .ok (.goto 4, 3) := by decide +kernel
theorem dTable_hasPointAt_42 : decode cTable_hasPointAt 42 = .ok (.iconst 0, 1) := by decide +kernel
theorem dTable_hasPointAt_43 : decode cTable_hasPointAt 43 = .ok (.ireturn, 1) := by decide +kernel
theorem dTable_insert_0 : decode cTable_insert 0 = .ok (.aload_n 0, 1) := by decide +kernel
theorem dTable_insert_1 : decode cTable_insert 1 = .ok (.aload_n 1, 1) := by decide +kernel
theorem dTable_insert_2 : decode cTable_insert 2 = .ok (.getfield 27, 3) := by decide +kernel
theorem dTable_insert_5 : decode cTable_insert 5 = .ok (.invokevirtual 35, 3) := by decide +kernel
theorem dTable_insert_8 : decode cTable_insert 8 = .ok (.astore_n 2, 1) := by decide +kernel
theorem dTable_insert_9 : decode cTable_insert 9 = .ok (.aload_n 2, 1) := by decide +kernel
theorem dTable_insert_10 : decode cTable_insert 10 = .ok (.ifnonnull 19, 3) := by decide +kernel
theorem dTable_insert_13 : decode cTable_insert 13 = .ok (.aload_n 1, 1) := by decide +kernel
theorem dTable_insert_14 : decode cTable_insert 14 = .ok (.aload_n 0, 1) := by decide +kernel
theorem dTable_insert_15 : decode cTable_insert 15 = .ok (.getfield 23, 3) := by decide +kernel
theorem dTable_insert_18 : decode cTable_insert 18 = .ok (.putfield 32, 3) := by decide +kernel
theorem dTable_insert_21 : decode cTable_insert 21 = .ok (.aload_n 0, 1) := by decide +kernel
theorem dTable_insert_22 : decode cTable_insert 22 = .ok (.aload_n 1, 1) := by decide +kernel
theorem dTable_insert_23 : decode cTable_insert 23 = .ok (.putfield 23, 3) := by decide +kernel
theorem dTable_insert_26 : decode cTable_insert 26 = .ok (.goto 16, 3) := by decide +kernel
theorem dTable_insert_29 : decode cTable_insert 29 = .ok (.aload_n 1, 1) := by decide +kernel
theorem dTable_insert_30 : decode cTable_insert 30 = .ok (.aload_n 2, 1) := by decide +kernel
theorem dTable_insert_31 : decode cTable_insert 31 = .ok (.getfield 32, 3) := by decide +kernel
theorem dTable_insert_34 : decode cTable_insert 34 = .ok (.putfield 32, 3) := by decide +kernel
theorem dTable_insert_37 : decode cTable_insert 37 = .ok (.aload_n 2, 1) := by decide +kernel
theorem dTable_insert_38 : decode cTable_insert 38 = .ok (.aload_n 1, 1) := by decide +kernel
theorem dTable_insert_39 : decode cTable_insert 39 = .ok (.putfield 32, 3) := by decide +kernel
theorem dTable_insert_42 : decode cTable_insert 42 = .ok (.aload_n 0, 1) := by decide +kernel
theorem dTable_insert_43 : decode cTable_insert 43 = .ok (.dup, 1) := by decide +kernel
theorem dTable_insert_44 : decode cTable_insert 44 = .ok (.getfield 39, 3) := by decide +kernel
theorem dTable_insert_47 : decode cTable_insert 47 = .ok (.iconst 1, 1) := by decide +kernel
theorem dTable_insert_48 : decode cTable_insert 48 = .ok (.iadd, 1) := by decide +kernel
theorem dTable_insert_49 : decode cTable_insert 49 = .ok (.putfield 39, 3) := by decide +kernel
theorem dTable_insert_52 : decode cTable_insert 52 = .ok (.return_, 1) := by decide +kernel
theorem dTable_runFrom_0 : decode cTable_runFrom 0 = .ok (.aload_n 0, 1) := by decide +kernel
theorem dTable_runFrom_1 : decode cTable_runFrom 1 = .ok (.iconst 1, 1) := by decide +kernel
theorem dTable_runFrom_2 : decode cTable_runFrom 2 = .ok (.putfield 42, 3) := by decide +kernel
theorem dTable_runFrom_5 : decode cTable_runFrom 5 = .ok (.aload_n 0, 1) := by decide +kernel
theorem dTable_runFrom_6 : decode cTable_runFrom 6 = .ok (.iconst 0, 1) := by decide +kernel
theorem dTable_runFrom_7 : decode cTable_runFrom 7 = .ok (.putfield 46, 3) := by decide +kernel
theorem dTable_runFrom_10 : decode cTable_runFrom 10 = .ok (.aload_n 0, 1) := by decide +kernel
theorem dTable_runFrom_11 : decode cTable_runFrom 11 = .ok (.lload_n 1, 1) := by decide +kernel
theorem dTable_runFrom_12 : decode cTable_runFrom 12 = .ok (.putfield 49, 3) := by decide +kernel
theorem dTable_runFrom_15 : decode cTable_runFrom 15 = .ok (.return_, 1) := by decide +kernel
theorem dTable_goOn_0 : decode cTable_goOn 0 = .ok (.aload_n 0, 1) := by decide +kernel
theorem dTable_goOn_1 : decode cTable_goOn 1 = .ok (.aload_n 3, 1) := by decide +kernel
theorem dTable_goOn_2 : decode cTable_goOn 2 = .ok (.putfield 52, 3) := by decide +kernel
theorem dTable_goOn_5 : decode cTable_goOn 5 = .ok (.aload_n 3, 1) := by decide +kernel
theorem dTable_goOn_6 : decode cTable_goOn 6 = .ok (.ifnonnull 10, 3) := by decide +kernel
theorem dTable_goOn_9 : decode cTable_goOn 9 = .ok (.aload_n 0, 1) := by decide +kernel
theorem dTable_goOn_10 : decode cTable_goOn 10 = .ok (.getfield 19, 3) := by decide +kernel
theorem dTable_goOn_13 : decode cTable_goOn 13 = .ok (.goto 7, 3) := by decide +kernel
theorem dTable_goOn_16 : decode cTable_goOn 16 = .ok (.aload_n 3, 1) := by decide +kernel
theorem dTable_goOn_17 : decode cTable_goOn 17 = .ok (.getfield 27, 3) := by decide +kernel
theorem dTable_goOn_20 : decode cTable_goOn 20 = .ok (.lload_n 1, 1) := by decide +kernel
theorem dTable_goOn_21 : decode cTable_goOn 21 = .ok (.lsub, 1) := by decide +kernel
theorem dTable_goOn_22 : decode cTable_goOn 22 = .ok (.lstore 4, 2) := by decide +kernel
theorem dTable_goOn_24 : decode cTable_goOn 24 = .ok (.aload_n 0, 1) := by decide +kernel
theorem dTable_goOn_25 : decode cTable_goOn 25 = .ok (.aload_n 0, 1) := by decide +kernel
theorem dTable_goOn_26 : decode cTable_goOn 26 = .ok (.getfield 15, 3) := by decide +kernel
theorem dTable_goOn_29 : decode cTable_goOn 29 = .ok (.getfield 55, 3) := by decide +kernel
theorem dTable_goOn_32 : decode cTable_goOn 32 = .ok (.putfield 49, 3) := by decide +kernel
theorem dTable_goOn_35 : decode cTable_goOn 35 = .ok (.lload 4, 2) := by decide +kernel
theorem dTable_goOn_37 : decode cTable_goOn 37 = .ok (.lconst 0, 1) := by decide +kernel
theorem dTable_goOn_38 : decode cTable_goOn 38 = .ok (.lcmp, 1) := by decide +kernel
theorem dTable_goOn_39 : decode cTable_goOn 39 = .ok (.ifCond .le 68, 3) := by decide +kernel
theorem dTable_goOn_42 : decode cTable_goOn 42 = .ok (.aload_n 0, 1) := by decide +kernel
theorem dTable_goOn_43 : decode cTable_goOn 43 = .ok (.getfield 60, 3) := by decide +kernel
theorem dTable_goOn_46 : decode cTable_goOn 46 = .ok (.ldc2_w 63, 3) := by decide +kernel
theorem dTable_goOn_49 : decode cTable_goOn 49 = .ok (.invokestatic 65, 3) := by decide +kernel
theorem dTable_goOn_52 : decode cTable_goOn 52 = .ok (.ldc2_w 71, 3) := by decide +kernel
theorem dTable_goOn_55 : decode cTable_goOn 55 = .ok (.invokestatic 73, 3) := by decide +kernel
theorem dTable_goOn_58 : decode cTable_goOn 58 = .ok (.lstore 6, 2) := by decide +kernel
theorem dTable_goOn_60 : decode cTable_goOn 60 = .ok (.lload 6, 2) := by decide +kernel
theorem dTable_goOn_62 : decode cTable_goOn 62 = .ok (.lconst 1, 1) := by decide +kernel
theorem dTable_goOn_63 : decode cTable_goOn 63 = .ok (.lload 4, 2) := by decide +kernel
theorem dTable_goOn_65 : decode cTable_goOn 65 = .ok (.lsub, 1) := by decide +kernel
theorem dTable_goOn_66 : decode cTable_goOn 66 = .ok (.invokestatic 73, 3) := by decide +kernel
theorem dTable_goOn_69 : decode cTable_goOn 69 = .ok (.lstore 6, 2) := by decide +kernel
theorem dTable_goOn_71 : decode cTable_goOn 71 = .ok (.aload_n 0, 1) := by decide +kernel
theorem dTable_goOn_72 : decode cTable_goOn 72 = .ok (.dup, 1) := by decide +kernel
theorem dTable_goOn_73 : decode cTable_goOn 73 = .ok (.getfield 60, 3) := by decide +kernel
theorem dTable_goOn_76 : decode cTable_goOn 76 = .ok (.lload 6, 2) := by decide +kernel
theorem dTable_goOn_78 : decode cTable_goOn 78 = .ok (.lsub, 1) := by decide +kernel
theorem dTable_goOn_79 : decode cTable_goOn 79 = .ok (.putfield 60, 3) := by decide +kernel
theorem dTable_goOn_82 : decode cTable_goOn 82 = .ok (.aload_n 0, 1) := by decide +kernel
theorem dTable_goOn_83 : decode cTable_goOn 83 = .ok (.dup, 1) := by decide +kernel
theorem dTable_goOn_84 : decode cTable_goOn 84 = .ok (.getfield 49, 3) := by decide +kernel
theorem dTable_goOn_87 : decode cTable_goOn 87 = .ok (.lload 4, 2) := by decide +kernel
theorem dTable_goOn_89 : decode cTable_goOn 89 = .ok (.lload 6, 2) := by decide +kernel
theorem dTable_goOn_91 : decode cTable_goOn 91 = .ok (.ladd, 1) := by decide +kernel
theorem dTable_goOn_92 : decode cTable_goOn 92 = .ok (.ladd, 1) := by decide +kernel
theorem dTable_goOn_93 : decode cTable_goOn 93 = .ok (.putfield 49, 3) := by decide +kernel
theorem dTable_goOn_96 : decode cTable_goOn 96 = .ok (.aload_n 0, 1) := by decide +kernel
theorem dTable_goOn_97 : decode cTable_goOn 97 = .ok (.getfield 15, 3) := by decide +kernel
theorem dTable_goOn_100 : decode cTable_goOn 100 = .ok (.aload_n 0, 1) := by decide +kernel
theorem dTable_goOn_101 : decode cTable_goOn 101 = .ok (.getfield 49, 3) := by decide +kernel
theorem dTable_goOn_104 : decode cTable_goOn 104 = .ok (.invokevirtual 76, 3) := by decide +kernel
theorem dTable_goOn_107 : decode cTable_goOn 107 = .ok (.return_, 1) := by decide +kernel
theorem dAT_init_0 : decode cAT_init 0 = .ok (.aload_n 0, 1) := by decide +kernel
theorem dAT_init_1 : decode cAT_init 1 = .ok (.invokespecial 3, 3) := by decide +kernel
theorem dAT_init_4 : decode cAT_init 4 = .ok (.aload_n 0, 1) := by decide +kernel
theorem dAT_init_5 : decode cAT_init 5 = .ok (.bipush 20, 2) := by decide +kernel
theorem dAT_init_7 : decode cAT_init 7 = .ok (.anewarray 9, 3) := by decide +kernel
theorem dAT_init_10 : decode cAT_init 10 = .ok (.putfield 11, 3) := by decide +kernel
theorem dAT_init_13 : decode cAT_init 13 = .ok (.aload_n 0, 1) := by decide +kernel
theorem dAT_init_14 : decode cAT_init 14 = .ok (.bipush 100, 2) := by decide +kernel
theorem dAT_init_16 : decode cAT_init 16 = .ok (.anewarray 15, 3) := by decide +kernel
theorem dAT_init_19 : decode cAT_init 19 = .ok (.putfield 17, 3) := by decide +kernel
theorem dAT_init_22 : decode cAT_init 22 = .ok (.aload_n 0, 1) := by decide +kernel
theorem dAT_init_23 : decode cAT_init 23 = .ok (.bipush 20, 2) := by decide +kernel
theorem dAT_init_25 : decode cAT_init 25 = .ok (.anewarray 21, 3) := by decide +kernel
theorem dAT_init_28 : decode cAT_init 28 = .ok (.putfield 23, 3) := by decide +kernel
theorem dAT_init_31 : decode cAT_init 31 = .ok (.aload_n 0, 1) := by decide +kernel
theorem dAT_init_32 : decode cAT_init 32 = .ok (.new 27, 3) := by decide +kernel
theorem dAT_init_35 : decode cAT_init 35 = .ok (.dup, 1) := by decide +kernel
theorem dAT_init_36 : decode cAT_init 36 = .ok (.invokespecial 29, 3) := by decide +kernel
theorem dAT_init_39 : decode cAT_init 39 = .ok (.putfield 30, 3) := by decide +kernel
theorem dAT_init_42 : decode cAT_init 42 = .ok (.return_, 1) := by decide +kernel
theorem dAT_counter_0 : decode cAT_counter 0 = .ok (.lload_n 1, 1) := by decide +kernel
theorem dAT_counter_1 : decode cAT_counter 1 = .ok (.lconst 0, 1) := by decide +kernel
theorem dAT_counter_2 : decode cAT_counter 2 = .ok (.lcmp, 1) := by decide +kernel
theorem dAT_counter_3 : decode cAT_counter 3 = .ok (.ifCond .lt 25, 3) := by decide +kernel
theorem dAT_counter_6 : decode cAT_counter 6 = .ok (.lload_n 1, 1) := by decide +kernel
theorem dAT_counter_7 : decode cAT_counter 7 = .ok (.ldc2_w 34, 3) := by decide +kernel
theorem dAT_counter_10 : decode cAT_counter 10 = .ok (.lcmp, 1) := by decide +kernel
theorem dAT_counter_11 : decode cAT_counter 11 = .ok (.ifCond .gt 17, 3) := by decide +kernel
theorem dAT_counter_14 : decode cAT_counter 14 = .ok (.lload_n 3, 1) := by decide +kernel
theorem dAT_counter_15 : decode cAT_counter 15 = .ok (.lconst 1, 1) := by decide +kernel
theorem dAT_counter_16 : decode cAT_counter 16 = .ok (.lcmp, 1) := by decide +kernel
theorem dAT_counter_17 : decode cAT_counter 17 = .ok (.ifCond .lt 11, 3) := by decide +kernel
theorem dAT_counter_20 : decode cAT_counter 20 = .ok (.lload_n 3, 1) := by decide +kernel
theorem dAT_counter_21 : decode cAT_counter 21 = .ok (.ldc2_w 36, 3) := by decide +kernel
theorem dAT_counter_24 : decode cAT_counter 24 = .ok (.lcmp, 1) := by decide +kernel
theorem dAT_counter_25 : decode cAT_counter 25 = .ok (.ifCond .le 6, 3) := by decide +kernel
theorem dAT_counter_28 : decode cAT_counter 28 = .ok (.bipush (-2), 2) := by decide +kernel
theorem dAT_counter_30 : decode cAT_counter 30 = .ok (.ireturn, 1) := by decide +kernel
theorem dAT_counter_31 : decode cAT_counter 31 = .ok (.aload_n 0, 1) := by decide +kernel
theorem dAT_counter_32 : decode cAT_counter 32 = .ok (.getfield 38, 3) := by decide +kernel
theorem dAT_counter_35 : decode cAT_counter 35 = .ok (.bipush 20, 2) := by decide +kernel
theorem dAT_counter_37 : decode cAT_counter 37 = .ok (.if_icmp .lt 6, 3) := by decide +kernel
theorem dAT_counter_40 : decode cAT_counter 40 = .ok (.bipush (-4), 2) := by decide +kernel
theorem dAT_counter_42 : decode cAT_counter 42 = .ok (.ireturn, 1) := by decide +kernel
theorem dAT_counter_43 : decode cAT_counter 43 = .ok (.lload_n 1, 1) := by decide +kernel
theorem dAT_counter_44 : decode cAT_counter 44 = .ok (.lconst 0, 1) := by decide +kernel
theorem dAT_counter_45 : decode cAT_counter 45 = .ok (.lcmp, 1) := by decide +kernel
theorem dAT_counter_46 : decode cAT_counter 46 = .ok (.ifCond .ne 13, 3) := by decide +kernel
theorem dAT_counter_49 : decode cAT_counter 49 = .ok (.new 42, 3) := by decide +kernel
theorem dAT_counter_52 : decode cAT_counter 52 = .ok (.dup, 1) := by decide +kernel
theorem dAT_counter_53 : decode cAT_counter 53 = .ok (.ldc 44, 2) := by decide +kernel
theorem dAT_counter_55 : decode cAT_counter 55 = .ok (.invokespecial 46, 3) := by decide +kernel
theorem dAT_counter_58 : decode cAT_counter 58 = .ok (.athrow, 1) := by decide +kernel
theorem dAT_counter_59 : decode cAT_counter 59 = .ok (.aload_n 0, 1) := by decide +kernel
theorem dAT_counter_60 : decode cAT_counter 60 = .ok (.getfield 11, 3) := by decide +kernel
theorem dAT_counter_63 : decode cAT_counter 63 = .ok (.aload_n 0, 1) := by decide +kernel
theorem dAT_counter_64 : decode cAT_counter 64 = .ok (.getfield 38, 3) := by decide +kernel
theorem dAT_counter_67 : decode cAT_counter 67 = .ok (.new 9, 3) := by decide +kernel
theorem dAT_counter_70 : decode cAT_counter 70 = .ok (.dup, 1) := by decide +kernel
theorem dAT_counter_71 : decode cAT_counter 71 = .ok (.aload_n 0, 1) := by decide +kernel
theorem dAT_counter_72 : decode cAT_counter 72 = .ok (.getfield 38, 3) := by decide +kernel
theorem dAT_counter_75 : decode cAT_counter 75 = .ok (.iconst 1, 1) := by decide +kernel
theorem dAT_counter_76 : decode cAT_counter 76 = .ok (.iadd, 1) := by decide +kernel
theorem dAT_counter_77 : decode cAT_counter 77 = .ok (.lload_n 1, 1) := by decide +kernel
theorem dAT_counter_78 : decode cAT_counter 78 = .ok (.lload_n 3, 1) := by decide +kernel
theorem dAT_counter_79 : decode cAT_counter 79 = .ok (.invokespecial 49, 3) := by decide +kernel
theorem dAT_counter_82 : decode cAT_counter 82 = .ok (.aastore, 1) := by decide +kernel
theorem dAT_counter_83 : decode cAT_counter 83 = .ok (.aload_n 0, 1) := by decide +kernel
theorem dAT_counter_84 : decode cAT_counter 84 = .ok (.dup, 1) := by decide +kernel
theorem dAT_counter_85 : decode cAT_counter 85 = .ok (.getfield 38, 3) := by decide +kernel
theorem dAT_counter_88 : decode cAT_counter 88 = .ok (.iconst 1, 1) := by decide +kernel
theorem dAT_counter_89 : decode cAT_counter 89 = .ok (.iadd, 1) := by decide +kernel
theorem dAT_counter_90 : decode cAT_counter 90 = .ok (.putfield 38, 3) := by decide +kernel
theorem dAT_counter_93 : decode cAT_counter 93 = .ok (.aload_n 0, 1) := by decide +kernel
theorem dAT_counter_94 : decode cAT_counter 94 = .ok (.getfield 38, 3) := by decide +kernel
theorem dAT_counter_97 : decode cAT_counter 97 = .ok (.ireturn, 1) := by decide +kernel
theorem dAT_alarm_0 : decode cAT_alarm 0 = .ok (.aload_n 0, 1) := by decide +kernel
theorem dAT_alarm_1 : decode cAT_alarm 1 = .ok (.iload_n 1, 1) := by decide +kernel
theorem dAT_alarm_2 : decode cAT_alarm 2 = .ok (.invokevirtual 52, 3) := by decide +kernel
theorem dAT_alarm_5 : decode cAT_alarm 5 = .ok (.astore 4, 2) := by decide +kernel
theorem dAT_alarm_7 : decode cAT_alarm 7 = .ok (.aload 4, 2) := by decide +kernel
theorem dAT_alarm_9 : decode cAT_alarm 9 = .ok (.ifnull 12, 3) := by decide +kernel
theorem dAT_alarm_12 : decode cAT_alarm 12 = .ok (.aload_n 0, 1) := by decide +kernel
theorem dAT_alarm_13 : decode cAT_alarm 13 = .ok (.iload_n 2, 1) := by decide +kernel
theorem dAT_alarm_14 : decode cAT_alarm 14 = .ok (.iload_n 3, 1) := by decide +kernel
theorem dAT_alarm_15 : decode cAT_alarm 15 = .ok (.invokevirtual 56, 3) := by decide +kernel
theorem dAT_alarm_18 : decode cAT_alarm 18 = .ok (.ifCond .eq 5, 3) := by decide +kernel
theorem dAT_alarm_21 : decode cAT_alarm 21 = .ok (.iconst (-1), 1) := by decide +kernel
theorem dAT_alarm_22 : decode cAT_alarm 22 = .ok (.ireturn, 1) := by decide +kernel
theorem dAT_alarm_23 : decode cAT_alarm 23 = .ok (.iload_n 2, 1) := by decide +kernel
theorem dAT_alarm_24 : decode cAT_alarm 24 = .ok (.ifCond .lt 8, 3) := by decide +kernel
theorem dAT_alarm_27 : decode cAT_alarm 27 = .ok (.iload_n 2, 1) := by decide +kernel
theorem dAT_alarm_28 : decode cAT_alarm 28 = .ok (.iconst 2, 1) := by decide +kernel
theorem dAT_alarm_29 : decode cAT_alarm 29 = .ok (.if_icmp .le 6, 3) := by decide +kernel
theorem dAT_alarm_32 : decode cAT_alarm 32 = .ok (.bipush (-2), 2) := by decide +kernel
theorem dAT_alarm_34 : decode cAT_alarm 34 = .ok (.ireturn, 1) := by decide +kernel
theorem dAT_alarm_35 : decode cAT_alarm 35 = .ok (.iload_n 2, 1) := by decide +kernel
theorem dAT_alarm_36 : decode cAT_alarm 36 = .ok (.iconst 1, 1) := by decide +kernel
theorem dAT_alarm_37 : decode cAT_alarm 37 = .ok (.if_icmp .ne 11, 3) := by decide +kernel
theorem dAT_alarm_40 : decode cAT_alarm 40 = .ok (.aload_n 0, 1) := by decide +kernel
theorem dAT_alarm_41 : decode cAT_alarm 41 = .ok (.iload_n 3, 1) := by decide +kernel
theorem dAT_alarm_42 : decode cAT_alarm 42 = .ok (.invokevirtual 52, 3) := by decide +kernel
theorem dAT_alarm_45 : decode cAT_alarm 45 = .ok (.goto 4, 3) := by decide +kernel
theorem dAT_alarm_48 : decode cAT_alarm 48 = .ok (.aconst_null, 1) := by decide +kernel
theorem dAT_alarm_49 : decode cAT_alarm 49 = .ok (.astore 5, 2) := by decide +kernel
theorem dAT_alarm_51 : decode cAT_alarm 51 = .ok (.aload 4, 2) := by decide +kernel
theorem dAT_alarm_53 : decode cAT_alarm 53 = .ok (.aload 5, 2) := by decide +kernel
theorem dAT_alarm_55 : decode cAT_alarm 55 = .ok (.invokestatic 60, 3) := by decide +kernel
theorem dAT_alarm_58 : decode cAT_alarm 58 = .ok (.ifCond .eq 6, 3) := by decide +kernel
theorem dAT_alarm_61 : decode cAT_alarm 61 = .ok (.bipush (-3), 2) := by decide +kernel
theorem dAT_alarm_63 : decode cAT_alarm 63 = .ok (.ireturn, 1) := by decide +kernel
theorem dAT_alarm_64 : decode cAT_alarm 64 = .ok (.aload_n 0, 1) := by decide +kernel
theorem dAT_alarm_65 : decode cAT_alarm 65 = .ok (.getfield 64, 3) := by decide +kernel
theorem dAT_alarm_68 : decode cAT_alarm 68 = .ok (.bipush 100, 2) := by decide +kernel
theorem dAT_alarm_70 : decode cAT_alarm 70 = .ok (.if_icmp .lt 6, 3) := by decide +kernel
theorem dAT_alarm_73 : decode cAT_alarm 73 = .ok (.bipush (-4), 2) := by decide +kernel
theorem dAT_alarm_75 : decode cAT_alarm 75 = .ok (.ireturn, 1) := by decide +kernel
theorem dAT_alarm_76 : decode cAT_alarm 76 = .ok (.iload_n 2, 1) := by decide +kernel
theorem dAT_alarm_77 : decode cAT_alarm 77 = .ok (.iconst 2, 1) := by decide +kernel
theorem dAT_alarm_78 : decode cAT_alarm 78 = .ok (.if_icmp .ne 11, 3) := by decide +kernel
theorem dAT_alarm_81 : decode cAT_alarm 81 = .ok (.aload_n 0, 1) := by decide +kernel
theorem dAT_alarm_82 : decode cAT_alarm 82 = .ok (.iload_n 3, 1) := by decide +kernel
theorem dAT_alarm_83 : decode cAT_alarm 83 = .ok (.invokevirtual 67, 3) := by decide +kernel
theorem dAT_alarm_86 : decode cAT_alarm 86 = .ok (.goto 4, 3) := by decide +kernel
theorem dAT_alarm_89 : decode cAT_alarm 89 = .ok (.aconst_null, 1) := by decide +kernel
theorem dAT_alarm_90 : decode cAT_alarm 90 = .ok (.astore 6, 2) := by decide +kernel
theorem dAT_alarm_92 : decode cAT_alarm 92 = .ok (.new 15, 3) := by decide +kernel
theorem dAT_alarm_95 : decode cAT_alarm 95 = .ok (.dup, 1) := by decide +kernel
theorem dAT_alarm_96 : decode cAT_alarm 96 = .ok (.aload_n 0, 1) := by decide +kernel
theorem dAT_alarm_97 : decode cAT_alarm 97 = .ok (.getfield 64, 3) := by decide +kernel
theorem dAT_alarm_100 : decode cAT_alarm 100 = .ok (.iconst 1, 1) := by decide +kernel
theorem dAT_alarm_101 : decode cAT_alarm 101 = .ok (.iadd, 1) := by decide +kernel
theorem dAT_alarm_102 : decode cAT_alarm 102 = .ok (.aload 4, 2) := by decide +kernel
theorem dAT_alarm_104 : decode cAT_alarm 104 = .ok (.new 71, 3) := by decide +kernel
theorem dAT_alarm_107 : decode cAT_alarm 107 = .ok (.dup, 1) := by decide +kernel
theorem dAT_alarm_108 : decode cAT_alarm 108 = .ok (.aload 5, 2) := by decide +kernel
theorem dAT_alarm_110 : decode cAT_alarm 110 = .ok (.aload 6, 2) := by decide +kernel
theorem dAT_alarm_112 : decode cAT_alarm 112 = .ok (.invokespecial 73, 3) := by decide +kernel
theorem dAT_alarm_115 : decode cAT_alarm 115 = .ok (.invokespecial 76, 3) := by decide +kernel
theorem dAT_alarm_118 : decode cAT_alarm 118 = .ok (.astore 7, 2) := by decide +kernel
theorem dAT_alarm_120 : decode cAT_alarm 120 = .ok (.aload_n 0, 1) := by decide +kernel
theorem dAT_alarm_121 : decode cAT_alarm 121 = .ok (.getfield 17, 3) := by decide +kernel
theorem dAT_alarm_124 : decode cAT_alarm 124 = .ok (.aload_n 0, 1) := by decide +kernel
theorem dAT_alarm_125 : decode cAT_alarm 125 = .ok (.getfield 64, 3) := by decide +kernel
theorem dAT_alarm_128 : decode cAT_alarm 128 = .ok (.aload 7, 2) := by decide +kernel
theorem dAT_alarm_130 : decode cAT_alarm 130 = .ok (.aastore, 1) := by decide +kernel
theorem dAT_alarm_131 : decode cAT_alarm 131 = .ok (.aload_n 0, 1) := by decide +kernel
theorem dAT_alarm_132 : decode cAT_alarm 132 = .ok (.dup, 1) := by decide +kernel
theorem dAT_alarm_133 : decode cAT_alarm 133 = .ok (.getfield 64, 3) := by decide +kernel
theorem dAT_alarm_136 : decode cAT_alarm 136 = .ok (.iconst 1, 1) := by decide +kernel
theorem dAT_alarm_137 : decode cAT_alarm 137 = .ok (.iadd, 1) := by decide +kernel
theorem dAT_alarm_138 : decode cAT_alarm 138 = .ok (.putfield 64, 3) := by decide +kernel
theorem dAT_alarm_141 : decode cAT_alarm 141 = .ok (.aload 4, 2) := by decide +kernel
theorem dAT_alarm_143 : decode cAT_alarm 143 = .ok (.aload 7, 2) := by decide +kernel
theorem dAT_alarm_145 : decode cAT_alarm 145 = .ok (.invokevirtual 79, 3) := by decide +kernel
theorem dAT_alarm_148 : decode cAT_alarm 148 = .ok (.aload_n 0, 1) := by decide +kernel
theorem dAT_alarm_149 : decode cAT_alarm 149 = .ok (.aload 4, 2) := by decide +kernel
theorem dAT_alarm_151 : decode cAT_alarm 151 = .ok (.aload 5, 2) := by decide +kernel
theorem dAT_alarm_153 : decode cAT_alarm 153 = .ok (.invokevirtual 83, 3) := by decide +kernel
theorem dAT_alarm_156 : decode cAT_alarm 156 = .ok (.aload_n 0, 1) := by decide +kernel
theorem dAT_alarm_157 : decode cAT_alarm 157 = .ok (.getfield 64, 3) := by decide +kernel
theorem dAT_alarm_160 : decode cAT_alarm 160 = .ok (.ireturn, 1) := by decide +kernel
theorem dAT_set_0 : decode cAT_set 0 = .ok (.aload_n 0, 1) := by decide +kernel
theorem dAT_set_1 : decode cAT_set 1 = .ok (.iload_n 1, 1) := by decide +kernel
theorem dAT_set_2 : decode cAT_set 2 = .ok (.invokevirtual 67, 3) := by decide +kernel
theorem dAT_set_5 : decode cAT_set 5 = .ok (.astore 7, 2) := by decide +kernel
theorem dAT_set_7 : decode cAT_set 7 = .ok (.aload 7, 2) := by decide +kernel
theorem dAT_set_9 : decode cAT_set 9 = .ok (.ifnonnull 5, 3) := by decide +kernel
theorem dAT_set_12 : decode cAT_set 12 = .ok (.iconst (-1), 1) := by decide +kernel
theorem dAT_set_13 : decode cAT_set 13 = .ok (.ireturn, 1) := by decide +kernel
theorem dAT_set_14 : decode cAT_set 14 = .ok (.aload 7, 2) := by decide +kernel
theorem dAT_set_16 : decode cAT_set 16 = .ok (.getfield 87, 3) := by decide +kernel
theorem dAT_set_19 : decode cAT_set 19 = .ok (.ifCond .eq 5, 3) := by decide +kernel
theorem dAT_set_22 : decode cAT_set 22 = .ok (.iconst 2, 1) := by decide +kernel
theorem dAT_set_23 : decode cAT_set 23 = .ok (.ireturn, 1) := by decide +kernel
theorem dAT_set_24 : decode cAT_set 24 = .ok (.aload 7, 2) := by decide +kernel
theorem dAT_set_26 : decode cAT_set 26 = .ok (.getfield 91, 3) := by decide +kernel
theorem dAT_set_29 : decode cAT_set 29 = .ok (.getfield 95, 3) := by decide +kernel
theorem dAT_set_32 : decode cAT_set 32 = .ok (.lstore 8, 2) := by decide +kernel
theorem dAT_set_34 : decode cAT_set 34 = .ok (.lload_n 2, 1) := by decide +kernel
theorem dAT_set_35 : decode cAT_set 35 = .ok (.iload 6, 2) := by decide +kernel
theorem dAT_set_37 : decode cAT_set 37 = .ok (.ifCond .eq 7, 3) := by decide +kernel
theorem dAT_set_40 : decode cAT_set 40 = .ok (.iconst 0, 1) := by decide +kernel
theorem dAT_set_41 : decode cAT_set 41 = .ok (.goto 4, 3) := by decide +kernel
theorem dAT_set_44 : decode cAT_set 44 = .ok (.iconst 1, 1) := by decide +kernel
theorem dAT_set_45 : decode cAT_set 45 = .ok (.i2l, 1) := by decide +kernel
theorem dAT_set_46 : decode cAT_set 46 = .ok (.lcmp, 1) := by decide +kernel
theorem dAT_set_47 : decode cAT_set 47 = .ok (.ifCond .lt 10, 3) := by decide +kernel
theorem dAT_set_50 : decode cAT_set 50 = .ok (.lload_n 2, 1) := by decide +kernel
theorem dAT_set_51 : decode cAT_set 51 = .ok (.lload 8, 2) := by decide +kernel
theorem dAT_set_53 : decode cAT_set 53 = .ok (.lcmp, 1) := by decide +kernel
theorem dAT_set_54 : decode cAT_set 54 = .ok (.ifCond .lt 5, 3) := by decide +kernel
theorem dAT_set_57 : decode cAT_set 57 = .ok (.iconst 3, 1) := by decide +kernel
theorem dAT_set_58 : decode cAT_set 58 = .ok (.ireturn, 1) := by decide +kernel
theorem dAT_set_59 : decode cAT_set 59 = .ok (.lload 4, 2) := by decide +kernel
theorem dAT_set_61 : decode cAT_set 61 = .ok (.lconst 0, 1) := by decide +kernel
theorem dAT_set_62 : decode cAT_set 62 = .ok (.lcmp, 1) := by decide +kernel
theorem dAT_set_63 : decode cAT_set 63 = .ok (.ifCond .eq 22, 3) := by decide +kernel
theorem dAT_set_66 : decode cAT_set 66 = .ok (.lload 4, 2) := by decide +kernel
theorem dAT_set_68 : decode cAT_set 68 = .ok (.ldc2_w 99, 3) := by decide +kernel
theorem dAT_set_71 : decode cAT_set 71 = .ok (.lcmp, 1) := by decide +kernel
theorem dAT_set_72 : decode cAT_set 72 = .ok (.ifCond .lt 11, 3) := by decide +kernel
theorem dAT_set_75 : decode cAT_set 75 = .ok (.lload 4, 2) := by decide +kernel
theorem dAT_set_77 : decode cAT_set 77 = .ok (.lload 8, 2) := by decide +kernel
theorem dAT_set_79 : decode cAT_set 79 = .ok (.lcmp, 1) := by decide +kernel
theorem dAT_set_80 : decode cAT_set 80 = .ok (.ifCond .le 5, 3) := by decide +kernel
theorem dAT_set_83 : decode cAT_set 83 = .ok (.iconst 4, 1) := by decide +kernel
theorem dAT_set_84 : decode cAT_set 84 = .ok (.ireturn, 1) := by decide +kernel
theorem dAT_set_85 : decode cAT_set 85 = .ok (.aload 7, 2) := by decide +kernel
theorem dAT_set_87 : decode cAT_set 87 = .ok (.iconst 1, 1) := by decide +kernel
theorem dAT_set_88 : decode cAT_set 88 = .ok (.putfield 87, 3) := by decide +kernel
theorem dAT_set_91 : decode cAT_set 91 = .ok (.aload 7, 2) := by decide +kernel
theorem dAT_set_93 : decode cAT_set 93 = .ok (.lload 4, 2) := by decide +kernel
theorem dAT_set_95 : decode cAT_set 95 = .ok (.putfield 101, 3) := by decide +kernel
theorem dAT_set_98 : decode cAT_set 98 = .ok (.aload 7, 2) := by decide +kernel
theorem dAT_set_100 : decode cAT_set 100 = .ok (.iload 6, 2) := by decide +kernel
theorem dAT_set_102 : decode cAT_set 102 = .ok (.ifCond .eq 15, 3) := by decide +kernel
theorem dAT_set_105 : decode cAT_set 105 = .ok (.aload 7, 2) := by decide +kernel
theorem dAT_set_107 : decode cAT_set 107 = .ok (.getfield 91, 3) := by decide +kernel
theorem dAT_set_110 : decode cAT_set 110 = .ok (.lload_n 2, 1) := by decide +kernel
theorem dAT_set_111 : decode cAT_set 111 = .ok (.invokevirtual 104, 3) := by decide +kernel
theorem dAT_set_114 : decode cAT_set 114 = .ok (.goto 4, 3) := by decide +kernel
theorem dAT_set_117 : decode cAT_set 117 = .ok (.lload_n 2, 1) := by decide +kernel
theorem dAT_set_118 : decode cAT_set 118 = .ok (.invokevirtual 108, 3) := by decide +kernel
theorem dAT_set_121 : decode cAT_set 121 = .ok (.iconst 1, 1) := by decide +kernel
theorem dAT_set_122 : decode cAT_set 122 = .ok (.ireturn, 1) := by decide +kernel
theorem dAT_cancel_0 : decode cAT_cancel 0 = .ok (.aload_n 0, 1) := by decide +kernel
theorem dAT_cancel_1 : decode cAT_cancel 1 = .ok (.iload_n 1, 1) := by decide +kernel
theorem dAT_cancel_2 : decode cAT_cancel 2 = .ok (.invokevirtual 67, 3) := by decide +kernel
theorem dAT_cancel_5 : decode cAT_cancel 5 = .ok (.astore_n 2, 1) := by decide +kernel
theorem dAT_cancel_6 : decode cAT_cancel 6 = .ok (.aload_n 2, 1) := by decide +kernel
theorem dAT_cancel_7 : decode cAT_cancel 7 = .ok (.ifnonnull 5, 3) := by decide +kernel
theorem dAT_cancel_10 : decode cAT_cancel 10 = .ok (.iconst (-1), 1) := by decide +kernel
theorem dAT_cancel_11 : decode cAT_cancel 11 = .ok (.ireturn, 1) := by decide +kernel
theorem dAT_cancel_12 : decode cAT_cancel 12 = .ok (.aload_n 2, 1) := by decide +kernel
theorem dAT_cancel_13 : decode cAT_cancel 13 = .ok (.getfield 87, 3) := by decide +kernel
theorem dAT_cancel_16 : decode cAT_cancel 16 = .ok (.ifCond .ne 5, 3) := by decide +kernel
theorem dAT_cancel_19 : decode cAT_cancel 19 = .ok (.iconst 5, 1) := by decide +kernel
theorem dAT_cancel_20 : decode cAT_cancel 20 = .ok (.ireturn, 1) := by decide +kernel
theorem dAT_cancel_21 : decode cAT_cancel 21 = .ok (.aload_n 2, 1) := by decide +kernel
theorem dAT_cancel_22 : decode cAT_cancel 22 = .ok (.iconst 0, 1) := by decide +kernel
theorem dAT_cancel_23 : decode cAT_cancel 23 = .ok (.putfield 87, 3) := by decide +kernel
theorem dAT_cancel_26 : decode cAT_cancel 26 = .ok (.iconst 1, 1) := by decide +kernel
theorem dAT_cancel_27 : decode cAT_cancel 27 = .ok (.ireturn, 1) := by decide +kernel
theorem dAT_table_0 : decode cAT_table 0 = .ok (.aload_n 0, 1) := by decide +kernel
theorem dAT_table_1 : decode cAT_table 1 = .ok (.iload_n 1, 1) := by decide +kernel
theorem dAT_table_2 : decode cAT_table 2 = .ok (.invokevirtual 52, 3) := by decide +kernel
theorem dAT_table_5 : decode cAT_table 5 = .ok (.astore 4, 2) := by decide +kernel
theorem dAT_table_7 : decode cAT_table 7 = .ok (.aload 4, 2) := by decide +kernel
theorem dAT_table_9 : decode cAT_table 9 = .ok (.ifnonnull 5, 3) := by decide +kernel
theorem dAT_table_12 : decode cAT_table 12 = .ok (.iconst (-1), 1) := by decide +kernel
theorem dAT_table_13 : decode cAT_table 13 = .ok (.ireturn, 1) := by decide +kernel
theorem dAT_table_14 : decode cAT_table 14 = .ok (.lload_n 2, 1) := by decide +kernel
theorem dAT_table_15 : decode cAT_table 15 = .ok (.lconst 1, 1) := by decide +kernel
theorem dAT_table_16 : decode cAT_table 16 = .ok (.lcmp, 1) := by decide +kernel
theorem dAT_table_17 : decode cAT_table 17 = .ok (.ifCond .lt 11, 3) := by decide +kernel
theorem dAT_table_20 : decode cAT_table 20 = .ok (.lload_n 2, 1) := by decide +kernel
theorem dAT_table_21 : decode cAT_table 21 = .ok (.ldc2_w 112, 3) := by decide +kernel
theorem dAT_table_24 : decode cAT_table 24 = .ok (.lcmp, 1) := by decide +kernel
theorem dAT_table_25 : decode cAT_table 25 = .ok (.ifCond .le 6, 3) := by decide +kernel
theorem dAT_table_28 : decode cAT_table 28 = .ok (.bipush (-2), 2) := by decide +kernel
theorem dAT_table_30 : decode cAT_table 30 = .ok (.ireturn, 1) := by decide +kernel
theorem dAT_table_31 : decode cAT_table 31 = .ok (.aload_n 0, 1) := by decide +kernel
theorem dAT_table_32 : decode cAT_table 32 = .ok (.getfield 114, 3) := by decide +kernel
theorem dAT_table_35 : decode cAT_table 35 = .ok (.bipush 20, 2) := by decide +kernel
theorem dAT_table_37 : decode cAT_table 37 = .ok (.if_icmp .lt 6, 3) := by decide +kernel
theorem dAT_table_40 : decode cAT_table 40 = .ok (.bipush (-4), 2) := by decide +kernel
theorem dAT_table_42 : decode cAT_table 42 = .ok (.ireturn, 1) := by decide +kernel
theorem dAT_table_43 : decode cAT_table 43 = .ok (.new 21, 3) := by decide +kernel
theorem dAT_table_46 : decode cAT_table 46 = .ok (.dup, 1) := by decide +kernel
theorem dAT_table_47 : decode cAT_table 47 = .ok (.aload_n 0, 1) := by decide +kernel
theorem dAT_table_48 : decode cAT_table 48 = .ok (.getfield 114, 3) := by decide +kernel
theorem dAT_table_51 : decode cAT_table 51 = .ok (.iconst 1, 1) := by decide +kernel
theorem dAT_table_52 : decode cAT_table 52 = .ok (.iadd, 1) := by decide +kernel
theorem dAT_table_53 : decode cAT_table 53 = .ok (.aload 4, 2) := by decide +kernel
theorem dAT_table_55 : decode cAT_table 55 = .ok (.lload_n 2, 1) := by decide +kernel
theorem dAT_table_56 : decode cAT_table 56 = .ok (.invokespecial 117, 3) := by decide +kernel
theorem dAT_table_59 : decode cAT_table 59 = .ok (.astore 5, 2) := by decide +kernel
theorem dAT_table_61 : decode cAT_table 61 = .ok (.aload_n 0, 1) := by decide +kernel
theorem dAT_table_62 : decode cAT_table 62 = .ok (.getfield 23, 3) := by decide +kernel
theorem dAT_table_65 : decode cAT_table 65 = .ok (.aload_n 0, 1) := by decide +kernel
theorem dAT_table_66 : decode cAT_table 66 = .ok (.getfield 114, 3) := by decide +kernel
theorem dAT_table_69 : decode cAT_table 69 = .ok (.aload 5, 2) := by decide +kernel
theorem dAT_table_71 : decode cAT_table 71 = .ok (.aastore, 1) := by decide +kernel
theorem dAT_table_72 : decode cAT_table 72 = .ok (.aload_n 0, 1) := by decide +kernel
theorem dAT_table_73 : decode cAT_table 73 = .ok (.dup, 1) := by decide +kernel
theorem dAT_table_74 : decode cAT_table 74 = .ok (.getfield 114, 3) := by decide +kernel
theorem dAT_table_77 : decode cAT_table 77 = .ok (.iconst 1, 1) := by decide +kernel
theorem dAT_table_78 : decode cAT_table 78 = .ok (.iadd, 1) := by decide +kernel
theorem dAT_table_79 : decode cAT_table 79 = .ok (.putfield 114, 3) := by decide +kernel
theorem dAT_table_82 : decode cAT_table 82 = .ok (.aload 4, 2) := by decide +kernel
theorem dAT_table_84 : decode cAT_table 84 = .ok (.aload 5, 2) := by decide +kernel
theorem dAT_table_86 : decode cAT_table 86 = .ok (.invokevirtual 120, 3) := by decide +kernel
theorem dAT_table_89 : decode cAT_table 89 = .ok (.aload_n 0, 1) := by decide +kernel
theorem dAT_table_90 : decode cAT_table 90 = .ok (.getfield 114, 3) := by decide +kernel
theorem dAT_table_93 : decode cAT_table 93 = .ok (.ireturn, 1) := by decide +kernel
theorem dAT_point_0 : decode cAT_point 0 = .ok (.aload_n 0, 1) := by decide +kernel
theorem dAT_point_1 : decode cAT_point 1 = .ok (.iload_n 1, 1) := by decide +kernel
theorem dAT_point_2 : decode cAT_point 2 = .ok (.invokevirtual 124, 3) := by decide +kernel
theorem dAT_point_5 : decode cAT_point 5 = .ok (.astore 5, 2) := by decide +kernel
theorem dAT_point_7 : decode cAT_point 7 = .ok (.iload 4, 2) := by decide +kernel
theorem dAT_point_9 : decode cAT_point 9 = .ok (.ifCond .le 12, 3) := by decide +kernel
theorem dAT_point_12 : decode cAT_point 12 = .ok (.aload_n 0, 1) := by decide +kernel
theorem dAT_point_13 : decode cAT_point 13 = .ok (.iload 4, 2) := by decide +kernel
theorem dAT_point_15 : decode cAT_point 15 = .ok (.invokevirtual 52, 3) := by decide +kernel
theorem dAT_point_18 : decode cAT_point 18 = .ok (.goto 4, 3) := by decide +kernel
theorem dAT_point_21 : decode cAT_point 21 = .ok (.aconst_null, 1) := by decide +kernel
theorem dAT_point_22 : decode cAT_point 22 = .ok (.astore 6, 2) := by decide +kernel
theorem dAT_point_24 : decode cAT_point 24 = .ok (.iload 4, 2) := by decide +kernel
theorem dAT_point_26 : decode cAT_point 26 = .ok (.ifCond .ge 13, 3) := by decide +kernel
theorem dAT_point_29 : decode cAT_point 29 = .ok (.aload_n 0, 1) := by decide +kernel
theorem dAT_point_30 : decode cAT_point 30 = .ok (.iload 4, 2) := by decide +kernel
theorem dAT_point_32 : decode cAT_point 32 = .ok (.ineg, 1) := by decide +kernel
theorem dAT_point_33 : decode cAT_point 33 = .ok (.invokevirtual 67, 3) := by decide +kernel
theorem dAT_point_36 : decode cAT_point 36 = .ok (.goto 4, 3) := by decide +kernel
theorem dAT_point_39 : decode cAT_point 39 = .ok (.aconst_null, 1) := by decide +kernel
theorem dAT_point_40 : decode cAT_point 40 = .ok (.astore 7, 2) := by decide +kernel
theorem dAT_point_42 : decode cAT_point 42 = .ok (.aload 5, 2) := by decide +kernel
theorem dAT_point_44 : decode cAT_point 44 = .ok (.ifnull 18, 3) := by decide +kernel
theorem dAT_point_47 : decode cAT_point 47 = .ok (.iload 4, 2) := by decide +kernel
theorem dAT_point_49 : decode cAT_point 49 = .ok (.ifCond .eq 15, 3) := by decide +kernel
theorem dAT_point_52 : decode cAT_point 52 = .ok (.aload 6, 2) := by decide +kernel
theorem dAT_point_54 : decode cAT_point 54 = .ok (.ifnonnull 10, 3) := by decide +kernel
theorem dAT_point_57 : decode cAT_point 57 = .ok (.aload 7, 2) := by decide +kernel
theorem dAT_point_59 : decode cAT_point 59 = .ok (.ifnonnull 5, 3) := by decide +kernel
theorem dAT_point_62 : decode cAT_point 62 = .ok (.iconst (-1), 1) := by decide +kernel
theorem dAT_point_63 : decode cAT_point 63 = .ok (.ireturn, 1) := by decide +kernel
theorem dAT_point_64 : decode cAT_point 64 = .ok (.lload_n 2, 1) := by decide +kernel
theorem dAT_point_65 : decode cAT_point 65 = .ok (.lconst 0, 1) := by decide +kernel
theorem dAT_point_66 : decode cAT_point 66 = .ok (.lcmp, 1) := by decide +kernel
theorem dAT_point_67 : decode cAT_point 67 = .ok (.ifCond .lt 13, 3) := by decide +kernel
theorem dAT_point_70 : decode cAT_point 70 = .ok (.lload_n 2, 1) := by decide +kernel
theorem dAT_point_71 : decode cAT_point 71 = .ok (.aload 5, 2) := by decide +kernel
theorem dAT_point_73 : decode cAT_point 73 = .ok (.getfield 128, 3) := by decide +kernel
theorem dAT_point_76 : decode cAT_point 76 = .ok (.lcmp, 1) := by decide +kernel
theorem dAT_point_77 : decode cAT_point 77 = .ok (.ifCond .le 6, 3) := by decide +kernel
theorem dAT_point_80 : decode cAT_point 80 = .ok (.bipush (-2), 2) := by decide +kernel
theorem dAT_point_82 : decode cAT_point 82 = .ok (.ireturn, 1) := by decide +kernel
theorem dAT_point_83 : decode cAT_point 83 = .ok (.aload 5, 2) := by decide +kernel
theorem dAT_point_85 : decode cAT_point 85 = .ok (.getfield 131, 3) := by decide +kernel
theorem dAT_point_88 : decode cAT_point 88 = .ok (.ifCond .ne 25, 3) := by decide +kernel
theorem dAT_point_91 : decode cAT_point 91 = .ok (.aload 5, 2) := by decide +kernel
theorem dAT_point_93 : decode cAT_point 93 = .ok (.lload_n 2, 1) := by decide +kernel
theorem dAT_point_94 : decode cAT_point 94 = .ok (.invokevirtual 134, 3) := by decide +kernel
theorem dAT_point_97 : decode cAT_point 97 = .ok (.ifCond .ne 16, 3) := by decide +kernel
theorem dAT_point_100 : decode cAT_point 100 = .ok (.aload 5, 2) := by decide +kernel
theorem dAT_point_102 : decode cAT_point 102 = .ok (.getfield 138, 3) := by decide +kernel
theorem dAT_point_105 : decode cAT_point 105 = .ok (.aload 6, 2) := by decide +kernel
theorem dAT_point_107 : decode cAT_point 107 = .ok (.invokestatic 60, 3) := by decide +kernel
theorem dAT_point_110 : decode cAT_point 110 = .ok (.ifCond .eq 6, 3) := by decide +kernel
theorem dAT_point_113 : decode cAT_point 113 = .ok (.bipush (-3), 2) := by decide +kernel
theorem dAT_point_115 : decode cAT_point 115 = .ok (.ireturn, 1) := by decide +kernel
theorem dAT_point_116 : decode cAT_point 116 = .ok (.aload 5, 2) := by decide +kernel
theorem dAT_point_118 : decode cAT_point 118 = .ok (.getfield 139, 3) := by decide +kernel
theorem dAT_point_121 : decode cAT_point 121 = .ok (.bipush 20, 2) := by decide +kernel
theorem dAT_point_123 : decode cAT_point 123 = .ok (.if_icmp .lt 6, 3) := by decide +kernel
theorem dAT_point_126 : decode cAT_point 126 = .ok (.bipush (-4), 2) := by decide +kernel
theorem dAT_point_128 : decode cAT_point 128 = .ok (.ireturn, 1) := by decide +kernel
theorem dAT_point_129 : decode cAT_point 129 = .ok (.aload 5, 2) := by decide +kernel
theorem dAT_point_131 : decode cAT_point 131 = .ok (.new 142, 3) := by decide +kernel
theorem dAT_point_134 : decode cAT_point 134 = .ok (.dup, 1) := by decide +kernel
theorem dAT_point_135 : decode cAT_point 135 = .ok (.lload_n 2, 1) := by decide +kernel
theorem dAT_point_136 : decode cAT_point 136 = .ok (.new 71, 3) := by decide +kernel
theorem dAT_point_139 : decode cAT_point 139 = .ok (.dup, 1) := by decide +kernel
theorem dAT_point_140 : decode cAT_point 140 = .ok (.aload 6, 2) := by decide +kernel
theorem dAT_point_142 : decode cAT_point 142 = .ok (.aload 7, 2) := by decide +kernel
theorem dAT_point_144 : decode cAT_point 144 = .ok (.invokespecial 73, 3) := by decide +kernel
theorem dAT_point_147 : decode cAT_point 147 = .ok (.invokespecial 144, 3) := by decide +kernel
theorem dAT_point_150 : decode cAT_point 150 = .ok (.invokevirtual 147, 3) := by decide +kernel
theorem dAT_point_153 : decode cAT_point 153 = .ok (.aload_n 0, 1) := by decide +kernel
theorem dAT_point_154 : decode cAT_point 154 = .ok (.aload 5, 2) := by decide +kernel
theorem dAT_point_156 : decode cAT_point 156 = .ok (.getfield 138, 3) := by decide +kernel
theorem dAT_point_159 : decode cAT_point 159 = .ok (.aload 6, 2) := by decide +kernel
theorem dAT_point_161 : decode cAT_point 161 = .ok (.invokevirtual 83, 3) := by decide +kernel
theorem dAT_point_164 : decode cAT_point 164 = .ok (.aload 5, 2) := by decide +kernel
theorem dAT_point_166 : decode cAT_point 166 = .ok (.getfield 139, 3) := by decide +kernel
theorem dAT_point_169 : decode cAT_point 169 = .ok (.ireturn, 1) := by decide +kernel
theorem dAT_start_0 : decode cAT_start 0 = .ok (.aload_n 0, 1) := by decide +kernel
theorem dAT_start_1 : decode cAT_start 1 = .ok (.iload_n 1, 1) := by decide +kernel
theorem dAT_start_2 : decode cAT_start 2 = .ok (.invokevirtual 124, 3) := by decide +kernel
theorem dAT_start_5 : decode cAT_start 5 = .ok (.astore 4, 2) := by decide +kernel
theorem dAT_start_7 : decode cAT_start 7 = .ok (.aload 4, 2) := by decide +kernel
theorem dAT_start_9 : decode cAT_start 9 = .ok (.ifnonnull 5, 3) := by decide +kernel
theorem dAT_start_12 : decode cAT_start 12 = .ok (.iconst (-1), 1) := by decide +kernel
theorem dAT_start_13 : decode cAT_start 13 = .ok (.ireturn, 1) := by decide +kernel
theorem dAT_start_14 : decode cAT_start 14 = .ok (.aload 4, 2) := by decide +kernel
theorem dAT_start_16 : decode cAT_start 16 = .ok (.getfield 131, 3) := by decide +kernel
theorem dAT_start_19 : decode cAT_start 19 = .ok (.ifCond .eq 5, 3) := by decide +kernel
theorem dAT_start_22 : decode cAT_start 22 = .ok (.iconst 2, 1) := by decide +kernel
theorem dAT_start_23 : decode cAT_start 23 = .ok (.ireturn, 1) := by decide +kernel
theorem dAT_start_24 : decode cAT_start 24 = .ok (.lload_n 2, 1) := by decide +kernel
theorem dAT_start_25 : decode cAT_start 25 = .ok (.lconst 1, 1) := by decide +kernel
theorem dAT_start_26 : decode cAT_start 26 = .ok (.lcmp, 1) := by decide +kernel
theorem dAT_start_27 : decode cAT_start 27 = .ok (.ifCond .lt 11, 3) := by decide +kernel
theorem dAT_start_30 : decode cAT_start 30 = .ok (.lload_n 2, 1) := by decide +kernel
theorem dAT_start_31 : decode cAT_start 31 = .ok (.ldc2_w 112, 3) := by decide +kernel
theorem dAT_start_34 : decode cAT_start 34 = .ok (.lcmp, 1) := by decide +kernel
theorem dAT_start_35 : decode cAT_start 35 = .ok (.ifCond .le 5, 3) := by decide +kernel
theorem dAT_start_38 : decode cAT_start 38 = .ok (.iconst 3, 1) := by decide +kernel
theorem dAT_start_39 : decode cAT_start 39 = .ok (.ireturn, 1) := by decide +kernel
theorem dAT_start_40 : decode cAT_start 40 = .ok (.aload 4, 2) := by decide +kernel
theorem dAT_start_42 : decode cAT_start 42 = .ok (.lconst 0, 1) := by decide +kernel
theorem dAT_start_43 : decode cAT_start 43 = .ok (.putfield 151, 3) := by decide +kernel
theorem dAT_start_46 : decode cAT_start 46 = .ok (.aload 4, 2) := by decide +kernel
theorem dAT_start_48 : decode cAT_start 48 = .ok (.aload 4, 2) := by decide +kernel
theorem dAT_start_50 : decode cAT_start 50 = .ok (.getfield 138, 3) := by decide +kernel
theorem dAT_start_53 : decode cAT_start 53 = .ok (.getfield 154, 3) := by decide +kernel
theorem dAT_start_56 : decode cAT_start 56 = .ok (.lload_n 2, 1) := by decide +kernel
theorem dAT_start_57 : decode cAT_start 57 = .ok (.ladd, 1) := by decide +kernel
theorem dAT_start_58 : decode cAT_start 58 = .ok (.invokevirtual 157, 3) := by decide +kernel
theorem dAT_start_61 : decode cAT_start 61 = .ok (.aload 4, 2) := by decide +kernel
theorem dAT_start_63 : decode cAT_start 63 = .ok (.getfield 138, 3) := by decide +kernel
theorem dAT_start_66 : decode cAT_start 66 = .ok (.aload 4, 2) := by decide +kernel
theorem dAT_start_68 : decode cAT_start 68 = .ok (.getfield 160, 3) := by decide +kernel
theorem dAT_start_71 : decode cAT_start 71 = .ok (.invokevirtual 163, 3) := by decide +kernel
theorem dAT_start_74 : decode cAT_start 74 = .ok (.iconst 1, 1) := by decide +kernel
theorem dAT_start_75 : decode cAT_start 75 = .ok (.ireturn, 1) := by decide +kernel
theorem dAT_next_0 : decode cAT_next 0 = .ok (.aload_n 0, 1) := by decide +kernel
theorem dAT_next_1 : decode cAT_next 1 = .ok (.iload_n 1, 1) := by decide +kernel
theorem dAT_next_2 : decode cAT_next 2 = .ok (.invokevirtual 124, 3) := by decide +kernel
theorem dAT_next_5 : decode cAT_next 5 = .ok (.astore_n 3, 1) := by decide +kernel
theorem dAT_next_6 : decode cAT_next 6 = .ok (.aload_n 0, 1) := by decide +kernel
theorem dAT_next_7 : decode cAT_next 7 = .ok (.iload_n 2, 1) := by decide +kernel
theorem dAT_next_8 : decode cAT_next 8 = .ok (.invokevirtual 124, 3) := by decide +kernel
theorem dAT_next_11 : decode cAT_next 11 = .ok (.astore 4, 2) := by decide +kernel
theorem dAT_next_13 : decode cAT_next 13 = .ok (.aload_n 3, 1) := by decide +kernel
theorem dAT_next_14 : decode cAT_next 14 = .ok (.ifnull 12, 3) := by decide +kernel
theorem dAT_next_17 : decode cAT_next 17 = .ok (.iload_n 2, 1) := by decide +kernel
theorem dAT_next_18 : decode cAT_next 18 = .ok (.ifCond .eq 10, 3) := by decide +kernel
theorem dAT_next_21 : decode cAT_next 21 = .ok (.aload 4, 2) := by decide +kernel
theorem dAT_next_23 : decode cAT_next 23 = .ok (.ifnonnull 5, 3) := by decide +kernel
theorem dAT_next_26 : decode cAT_next 26 = .ok (.iconst (-1), 1) := by decide +kernel
theorem dAT_next_27 : decode cAT_next 27 = .ok (.ireturn, 1) := by decide +kernel
theorem dAT_next_28 : decode cAT_next 28 = .ok (.aload 4, 2) := by decide +kernel
theorem dAT_next_30 : decode cAT_next 30 = .ok (.ifnull 18, 3) := by decide +kernel
theorem dAT_next_33 : decode cAT_next 33 = .ok (.aload 4, 2) := by decide +kernel
theorem dAT_next_35 : decode cAT_next 35 = .ok (.getfield 138, 3) := by decide +kernel
theorem dAT_next_38 : decode cAT_next 38 = .ok (.aload_n 3, 1) := by decide +kernel
theorem dAT_next_39 : decode cAT_next 39 = .ok (.getfield 138, 3) := by decide +kernel
theorem dAT_next_42 : decode cAT_next 42 = .ok (.if_acmp .eq 6, 3) := by decide +kernel
theorem dAT_next_45 : decode cAT_next 45 = .ok (.bipush (-3), 2) := by decide +kernel
theorem dAT_next_47 : decode cAT_next 47 = .ok (.ireturn, 1) := by decide +kernel
theorem dAT_next_48 : decode cAT_next 48 = .ok (.aload_n 3, 1) := by decide +kernel
theorem dAT_next_49 : decode cAT_next 49 = .ok (.aload 4, 2) := by decide +kernel
theorem dAT_next_51 : decode cAT_next 51 = .ok (.putfield 166, 3) := by decide +kernel
theorem dAT_next_54 : decode cAT_next 54 = .ok (.iconst 1, 1) := by decide +kernel
theorem dAT_next_55 : decode cAT_next 55 = .ok (.ireturn, 1) := by decide +kernel
theorem dAT_sync_0 : decode cAT_sync 0 = .ok (.aload_n 0, 1) := by decide +kernel
theorem dAT_sync_1 : decode cAT_sync 1 = .ok (.iload_n 1, 1) := by decide +kernel
theorem dAT_sync_2 : decode cAT_sync 2 = .ok (.invokevirtual 124, 3) := by decide +kernel
theorem dAT_sync_5 : decode cAT_sync 5 = .ok (.astore 4, 2) := by decide +kernel
theorem dAT_sync_7 : decode cAT_sync 7 = .ok (.aload 4, 2) := by decide +kernel
theorem dAT_sync_9 : decode cAT_sync 9 = .ok (.ifnonnull 5, 3) := by decide +kernel
theorem dAT_sync_12 : decode cAT_sync 12 = .ok (.iconst (-1), 1) := by decide +kernel
theorem dAT_sync_13 : decode cAT_sync 13 = .ok (.ireturn, 1) := by decide +kernel
theorem dAT_sync_14 : decode cAT_sync 14 = .ok (.lload_n 2, 1) := by decide +kernel
theorem dAT_sync_15 : decode cAT_sync 15 = .ok (.ldc2_w 170, 3) := by decide +kernel
theorem dAT_sync_18 : decode cAT_sync 18 = .ok (.aload 4, 2) := by decide +kernel
theorem dAT_sync_20 : decode cAT_sync 20 = .ok (.getfield 151, 3) := by decide +kernel
theorem dAT_sync_23 : decode cAT_sync 23 = .ok (.lsub, 1) := by decide +kernel
theorem dAT_sync_24 : decode cAT_sync 24 = .ok (.lcmp, 1) := by decide +kernel
theorem dAT_sync_25 : decode cAT_sync 25 = .ok (.ifCond .lt 17, 3) := by decide +kernel
theorem dAT_sync_28 : decode cAT_sync 28 = .ok (.lload_n 2, 1) := by decide +kernel
theorem dAT_sync_29 : decode cAT_sync 29 = .ok (.ldc2_w 36, 3) := by decide +kernel
theorem dAT_sync_32 : decode cAT_sync 32 = .ok (.aload 4, 2) := by decide +kernel
theorem dAT_sync_34 : decode cAT_sync 34 = .ok (.getfield 151, 3) := by decide +kernel
theorem dAT_sync_37 : decode cAT_sync 37 = .ok (.lsub, 1) := by decide +kernel
theorem dAT_sync_38 : decode cAT_sync 38 = .ok (.lcmp, 1) := by decide +kernel
theorem dAT_sync_39 : decode cAT_sync 39 = .ok (.ifCond .le 6, 3) := by decide +kernel
theorem dAT_sync_42 : decode cAT_sync 42 = .ok (.bipush (-2), 2) := by decide +kernel
theorem dAT_sync_44 : decode cAT_sync 44 = .ok (.ireturn, 1) := by decide +kernel
theorem dAT_sync_45 : decode cAT_sync 45 = .ok (.aload 4, 2) := by decide +kernel
theorem dAT_sync_47 : decode cAT_sync 47 = .ok (.getfield 131, 3) := by decide +kernel
theorem dAT_sync_50 : decode cAT_sync 50 = .ok (.ifCond .ne 6, 3) := by decide +kernel
theorem dAT_sync_53 : decode cAT_sync 53 = .ok (.bipush (-3), 2) := by decide +kernel
theorem dAT_sync_55 : decode cAT_sync 55 = .ok (.ireturn, 1) := by decide +kernel
theorem dAT_sync_56 : decode cAT_sync 56 = .ok (.aload 4, 2) := by decide +kernel
theorem dAT_sync_58 : decode cAT_sync 58 = .ok (.dup, 1) := by decide +kernel
theorem dAT_sync_59 : decode cAT_sync 59 = .ok (.getfield 151, 3) := by decide +kernel
theorem dAT_sync_62 : decode cAT_sync 62 = .ok (.lload_n 2, 1) := by decide +kernel
theorem dAT_sync_63 : decode cAT_sync 63 = .ok (.ladd, 1) := by decide +kernel
theorem dAT_sync_64 : decode cAT_sync 64 = .ok (.putfield 151, 3) := by decide +kernel
theorem dAT_sync_67 : decode cAT_sync 67 = .ok (.aload 4, 2) := by decide +kernel
theorem dAT_sync_69 : decode cAT_sync 69 = .ok (.getfield 151, 3) := by decide +kernel
theorem dAT_sync_72 : decode cAT_sync 72 = .ok (.l2i, 1) := by decide +kernel
theorem dAT_sync_73 : decode cAT_sync 73 = .ok (.ireturn, 1) := by decide +kernel
theorem dAT_tick_0 : decode cAT_tick 0 = .ok (.aload_n 0, 1) := by decide +kernel
theorem dAT_tick_1 : decode cAT_tick 1 = .ok (.iload_n 1, 1) := by decide +kernel
theorem dAT_tick_2 : decode cAT_tick 2 = .ok (.invokevirtual 52, 3) := by decide +kernel
theorem dAT_tick_5 : decode cAT_tick 5 = .ok (.astore 4, 2) := by decide +kernel
theorem dAT_tick_7 : decode cAT_tick 7 = .ok (.aload 4, 2) := by decide +kernel
theorem dAT_tick_9 : decode cAT_tick 9 = .ok (.ifnonnull 5, 3) := by decide +kernel
theorem dAT_tick_12 : decode cAT_tick 12 = .ok (.iconst (-1), 1) := by decide +kernel
theorem dAT_tick_13 : decode cAT_tick 13 = .ok (.ireturn, 1) := by decide +kernel
theorem dAT_tick_14 : decode cAT_tick 14 = .ok (.lload_n 2, 1) := by decide +kernel
theorem dAT_tick_15 : decode cAT_tick 15 = .ok (.lconst 0, 1) := by decide +kernel
theorem dAT_tick_16 : decode cAT_tick 16 = .ok (.lcmp, 1) := by decide +kernel
theorem dAT_tick_17 : decode cAT_tick 17 = .ok (.ifCond .lt 21, 3) := by decide +kernel
theorem dAT_tick_20 : decode cAT_tick 20 = .ok (.lload_n 2, 1) := by decide +kernel
theorem dAT_tick_21 : decode cAT_tick 21 = .ok (.ldc2_w 172, 3) := by decide +kernel
theorem dAT_tick_24 : decode cAT_tick 24 = .ok (.lcmp, 1) := by decide +kernel
theorem dAT_tick_25 : decode cAT_tick 25 = .ok (.ifCond .gt 13, 3) := by decide +kernel
theorem dAT_tick_28 : decode cAT_tick 28 = .ok (.aload 4, 2) := by decide +kernel
theorem dAT_tick_30 : decode cAT_tick 30 = .ok (.getfield 174, 3) := by decide +kernel
theorem dAT_tick_33 : decode cAT_tick 33 = .ok (.lconst 1, 1) := by decide +kernel
theorem dAT_tick_34 : decode cAT_tick 34 = .ok (.lcmp, 1) := by decide +kernel
theorem dAT_tick_35 : decode cAT_tick 35 = .ok (.ifCond .ge 6, 3) := by decide +kernel
theorem dAT_tick_38 : decode cAT_tick 38 = .ok (.bipush (-2), 2) := by decide +kernel
theorem dAT_tick_40 : decode cAT_tick 40 = .ok (.ireturn, 1) := by decide +kernel
theorem dAT_tick_41 : decode cAT_tick 41 = .ok (.aload 4, 2) := by decide +kernel
theorem dAT_tick_43 : decode cAT_tick 43 = .ok (.getfield 177, 3) := by decide +kernel
theorem dAT_tick_46 : decode cAT_tick 46 = .ok (.lload_n 2, 1) := by decide +kernel
theorem dAT_tick_47 : decode cAT_tick 47 = .ok (.ladd, 1) := by decide +kernel
theorem dAT_tick_48 : decode cAT_tick 48 = .ok (.lstore 5, 2) := by decide +kernel
theorem dAT_tick_50 : decode cAT_tick 50 = .ok (.lload 5, 2) := by decide +kernel
theorem dAT_tick_52 : decode cAT_tick 52 = .ok (.aload 4, 2) := by decide +kernel
theorem dAT_tick_54 : decode cAT_tick 54 = .ok (.getfield 174, 3) := by decide +kernel
theorem dAT_tick_57 : decode cAT_tick 57 = .ok (.ldiv, 1) := by decide +kernel
theorem dAT_tick_58 : decode cAT_tick 58 = .ok (.lstore 7, 2) := by decide +kernel
theorem dAT_tick_60 : decode cAT_tick 60 = .ok (.lload 7, 2) := by decide +kernel
theorem dAT_tick_62 : decode cAT_tick 62 = .ok (.ldc2_w 180, 3) := by decide +kernel
theorem dAT_tick_65 : decode cAT_tick 65 = .ok (.lcmp, 1) := by decide +kernel
theorem dAT_tick_66 : decode cAT_tick 66 = .ok (.ifCond .le 6, 3) := by decide +kernel
theorem dAT_tick_69 : decode cAT_tick 69 = .ok (.bipush (-2), 2) := by decide +kernel
theorem dAT_tick_71 : decode cAT_tick 71 = .ok (.ireturn, 1) := by decide +kernel
theorem dAT_tick_72 : decode cAT_tick 72 = .ok (.aload 4, 2) := by decide +kernel
theorem dAT_tick_74 : decode cAT_tick 74 = .ok (.lload 5, 2) := by decide +kernel
theorem dAT_tick_76 : decode cAT_tick 76 = .ok (.aload 4, 2) := by decide +kernel
theorem dAT_tick_78 : decode cAT_tick 78 = .ok (.getfield 174, 3) := by decide +kernel
theorem dAT_tick_81 : decode cAT_tick 81 = .ok (.lrem, 1) := by decide +kernel
theorem dAT_tick_82 : decode cAT_tick 82 = .ok (.putfield 177, 3) := by decide +kernel
theorem dAT_tick_85 : decode cAT_tick 85 = .ok (.aload_n 0, 1) := by decide +kernel
theorem dAT_tick_86 : decode cAT_tick 86 = .ok (.getfield 30, 3) := by decide +kernel
theorem dAT_tick_89 : decode cAT_tick 89 = .ok (.getfield 182, 3) := by decide +kernel
theorem dAT_tick_92 : decode cAT_tick 92 = .ok (.istore 9, 2) := by decide +kernel
theorem dAT_tick_94 : decode cAT_tick 94 = .ok (.aload_n 0, 1) := by decide +kernel
theorem dAT_tick_95 : decode cAT_tick 95 = .ok (.iconst 0, 1) := by decide +kernel
theorem dAT_tick_96 : decode cAT_tick 96 = .ok (.putfield 185, 3) := by decide +kernel
theorem dAT_tick_99 : decode cAT_tick 99 = .ok (.lconst 0, 1) := by decide +kernel
theorem dAT_tick_100 : decode cAT_tick 100 = .ok (.lstore 10, 2) := by decide +kernel
theorem dAT_tick_102 : decode cAT_tick 102 = .ok (.lload 10, 2) := by decide +kernel
theorem dAT_tick_104 : decode cAT_tick 104 = .ok (.lload 7, 2) := by decide +kernel
theorem dAT_tick_106 : decode cAT_tick 106 = .ok (.lcmp, 1) := by decide +kernel
theorem dAT_tick_107 : decode cAT_tick 107 = .ok (.ifCond .ge 19, 3) := by decide +kernel
theorem dAT_tick_110 : decode cAT_tick 110 = .ok (.aload_n 0, 1) := by decide +kernel
theorem dAT_tick_111 : decode cAT_tick 111 = .ok (.aload 4, 2) := by decide +kernel
theorem dAT_tick_113 : decode cAT_tick 113 = .ok (.iconst 1, 1) := by decide +kernel
theorem dAT_tick_114 : decode cAT_tick 114 = .ok (.invokevirtual 188, 3) := by decide +kernel
theorem dAT_tick_117 : decode cAT_tick 117 = .ok (.lload 10, 2) := by decide +kernel
theorem dAT_tick_119 : decode cAT_tick 119 = .ok (.lconst 1, 1) := by decide +kernel
theorem dAT_tick_120 : decode cAT_tick 120 = .ok (.ladd, 1) := by decide +kernel
theorem dAT_tick_121 : decode cAT_tick 121 = .ok (.lstore 10, 2) := by decide +kernel
theorem dAT_tick_123 : decode cAT_tick 123 = .ok (.goto (-21), 3) := by decide +kernel
theorem dAT_tick_126 : decode cAT_tick 126 = .ok (.aload_n 0, 1) := by decide +kernel
theorem dAT_tick_127 : decode cAT_tick 127 = .ok (.getfield 30, 3) := by decide +kernel
theorem dAT_tick_130 : decode cAT_tick 130 = .ok (.getfield 182, 3) := by decide +kernel
theorem dAT_tick_133 : decode cAT_tick 133 = .ok (.iload 9, 2) := by decide +kernel
theorem dAT_tick_135 : decode cAT_tick 135 = .ok (.isub, 1) := by decide +kernel
theorem dAT_tick_136 : decode cAT_tick 136 = .ok (.ireturn, 1) := by decide +kernel
theorem dAT_expired_0 : decode cAT_expired 0 = .ok (.iload_n 1, 1) := by decide +kernel
theorem dAT_expired_1 : decode cAT_expired 1 = .ok (.iconst (-1), 1) := by decide +kernel
theorem dAT_expired_2 : decode cAT_expired 2 = .ok (.if_icmp .ne 15, 3) := by decide +kernel
theorem dAT_expired_5 : decode cAT_expired 5 = .ok (.iload_n 2, 1) := by decide +kernel
theorem dAT_expired_6 : decode cAT_expired 6 = .ok (.ifCond .ne 11, 3) := by decide +kernel
theorem dAT_expired_9 : decode cAT_expired 9 = .ok (.aload_n 0, 1) := by decide +kernel
theorem dAT_expired_10 : decode cAT_expired 10 = .ok (.getfield 30, 3) := by decide +kernel
theorem dAT_expired_13 : decode cAT_expired 13 = .ok (.getfield 182, 3) := by decide +kernel
theorem dAT_expired_16 : decode cAT_expired 16 = .ok (.ireturn, 1) := by decide +kernel
theorem dAT_expired_17 : decode cAT_expired 17 = .ok (.aload_n 0, 1) := by decide +kernel
theorem dAT_expired_18 : decode cAT_expired 18 = .ok (.getfield 30, 3) := by decide +kernel
theorem dAT_expired_21 : decode cAT_expired 21 = .ok (.iload_n 1, 1) := by decide +kernel
theorem dAT_expired_22 : decode cAT_expired 22 = .ok (.invokevirtual 192, 3) := by decide +kernel
theorem dAT_expired_25 : decode cAT_expired 25 = .ok (.ifCond .ne 5, 3) := by decide +kernel
theorem dAT_expired_28 : decode cAT_expired 28 = .ok (.iconst (-1), 1) := by decide +kernel
theorem dAT_expired_29 : decode cAT_expired 29 = .ok (.ireturn, 1) := by decide +kernel
theorem dAT_expired_30 : decode cAT_expired 30 = .ok (.iload_n 2, 1) := by decide +kernel
theorem dAT_expired_31 : decode cAT_expired 31 = .ok (.ifCond .lt 8, 3) := by decide +kernel
theorem dAT_expired_34 : decode cAT_expired 34 = .ok (.iload_n 2, 1) := by decide +kernel
theorem dAT_expired_35 : decode cAT_expired 35 = .ok (.iconst 4, 1) := by decide +kernel
theorem dAT_expired_36 : decode cAT_expired 36 = .ok (.if_icmp .lt 6, 3) := by decide +kernel
theorem dAT_expired_39 : decode cAT_expired 39 = .ok (.bipush (-2), 2) := by decide +kernel
theorem dAT_expired_41 : decode cAT_expired 41 = .ok (.ireturn, 1) := by decide +kernel
theorem dAT_expired_42 : decode cAT_expired 42 = .ok (.aload_n 0, 1) := by decide +kernel
theorem dAT_expired_43 : decode cAT_expired 43 = .ok (.getfield 30, 3) := by decide +kernel
theorem dAT_expired_46 : decode cAT_expired 46 = .ok (.iload_n 1, 1) := by decide +kernel
theorem dAT_expired_47 : decode cAT_expired 47 = .ok (.iload_n 2, 1) := by decide +kernel
theorem dAT_expired_48 : decode cAT_expired 48 = .ok (.invokevirtual 196, 3) := by decide +kernel
theorem dAT_expired_51 : decode cAT_expired 51 = .ok (.ireturn, 1) := by decide +kernel
theorem dAT_deviation_0 : decode cAT_deviation 0 = .ok (.aload_n 0, 1) := by decide +kernel
theorem dAT_deviation_1 : decode cAT_deviation 1 = .ok (.iload_n 1, 1) := by decide +kernel
theorem dAT_deviation_2 : decode cAT_deviation 2 = .ok (.invokevirtual 124, 3) := by decide +kernel
theorem dAT_deviation_5 : decode cAT_deviation 5 = .ok (.astore_n 2, 1) := by decide +kernel
theorem dAT_deviation_6 : decode cAT_deviation 6 = .ok (.aload_n 2, 1) := by decide +kernel
theorem dAT_deviation_7 : decode cAT_deviation 7 = .ok (.ifnonnull 7, 3) := by decide +kernel
theorem dAT_deviation_10 : decode cAT_deviation 10 = .ok (.lconst 0, 1) := by decide +kernel
theorem dAT_deviation_11 : decode cAT_deviation 11 = .ok (.goto 7, 3) := by decide +kernel
theorem dAT_deviation_14 : decode cAT_deviation 14 = .ok (.aload_n 2, 1) := by decide +kernel
theorem dAT_deviation_15 : decode cAT_deviation 15 = .ok (.getfield 151, 3) := by decide +kernel
theorem dAT_deviation_18 : decode cAT_deviation 18 = .ok (.lreturn, 1) := by decide +kernel
theorem dAT_findCounter_0 : decode cAT_findCounter 0 = .ok (.iload_n 1, 1) := by decide +kernel
theorem dAT_findCounter_1 : decode cAT_findCounter 1 = .ok (.iconst 1, 1) := by decide +kernel
theorem dAT_findCounter_2 : decode cAT_findCounter 2 = .ok (.if_icmp .lt 22, 3) := by decide +kernel
theorem dAT_findCounter_5 : decode cAT_findCounter 5 = .ok (.iload_n 1, 1) := by decide +kernel
theorem dAT_findCounter_6 : decode cAT_findCounter 6 = .ok (.aload_n 0, 1) := by decide +kernel
theorem dAT_findCounter_7 : decode cAT_findCounter 7 = .ok (.getfield 38, 3) := by decide +kernel
theorem dAT_findCounter_10 : decode cAT_findCounter 10 = .ok (.if_icmp .gt 14, 3) := by decide +kernel
theorem dAT_findCounter_13 : decode cAT_findCounter 13 = .ok (.aload_n 0, 1) := by decide +kernel
theorem dAT_findCounter_14 : decode cAT_findCounter 14 = .ok (.getfield 11, 3) := by decide +kernel
theorem dAT_findCounter_17 : decode cAT_findCounter 17 = .ok (.iload_n 1, 1) := by decide +kernel
theorem dAT_findCounter_18 : decode cAT_findCounter 18 = .ok (.iconst 1, 1) := by decide +kernel
theorem dAT_findCounter_19 : decode cAT_findCounter 19 = .ok (.isub, 1) := by decide +kernel
theorem dAT_findCounter_20 : decode cAT_findCounter 20 = .ok (.aaload, 1) := by decide +kernel
theorem dAT_findCounter_21 : decode cAT_findCounter 21 = .ok (.goto 4, 3) := by decide +kernel
theorem dAT_findCounter_24 : decode cAT_findCounter 24 = .ok (.aconst_null, 1) := by decide +kernel
theorem dAT_findCounter_25 : decode cAT_findCounter 25 = .ok (.areturn, 1) := by decide +kernel
theorem dAT_findAlarm_0 : decode cAT_findAlarm 0 = .ok (.iload_n 1, 1) := by decide +kernel
theorem dAT_findAlarm_1 : decode cAT_findAlarm 1 = .ok (.iconst 1, 1) := by decide +kernel
theorem dAT_findAlarm_2 : decode cAT_findAlarm 2 = .ok (.if_icmp .lt 22, 3) := by decide +kernel
theorem dAT_findAlarm_5 : decode cAT_findAlarm 5 = .ok (.iload_n 1, 1) := by decide +kernel
theorem dAT_findAlarm_6 : decode cAT_findAlarm 6 = .ok (.aload_n 0, 1) := by decide +kernel
theorem dAT_findAlarm_7 : decode cAT_findAlarm 7 = .ok (.getfield 64, 3) := by decide +kernel
theorem dAT_findAlarm_10 : decode cAT_findAlarm 10 = .ok (.if_icmp .gt 14, 3) := by decide +kernel
theorem dAT_findAlarm_13 : decode cAT_findAlarm 13 = .ok (.aload_n 0, 1) := by decide +kernel
theorem dAT_findAlarm_14 : decode cAT_findAlarm 14 = .ok (.getfield 17, 3) := by decide +kernel
theorem dAT_findAlarm_17 : decode cAT_findAlarm 17 = .ok (.iload_n 1, 1) := by decide +kernel
theorem dAT_findAlarm_18 : decode cAT_findAlarm 18 = .ok (.iconst 1, 1) := by decide +kernel
theorem dAT_findAlarm_19 : decode cAT_findAlarm 19 = .ok (.isub, 1) := by decide +kernel
theorem dAT_findAlarm_20 : decode cAT_findAlarm 20 = .ok (.aaload, 1) := by decide +kernel
theorem dAT_findAlarm_21 : decode cAT_findAlarm 21 = .ok (.goto 4, 3) := by decide +kernel
theorem dAT_findAlarm_24 : decode cAT_findAlarm 24 = .ok (.aconst_null, 1) := by decide +kernel
theorem dAT_findAlarm_25 : decode cAT_findAlarm 25 = .ok (.areturn, 1) := by decide +kernel
theorem dAT_findTable_0 : decode cAT_findTable 0 = .ok (.iload_n 1, 1) := by decide +kernel
theorem dAT_findTable_1 : decode cAT_findTable 1 = .ok (.iconst 1, 1) := by decide +kernel
theorem dAT_findTable_2 : decode cAT_findTable 2 = .ok (.if_icmp .lt 22, 3) := by decide +kernel
theorem dAT_findTable_5 : decode cAT_findTable 5 = .ok (.iload_n 1, 1) := by decide +kernel
theorem dAT_findTable_6 : decode cAT_findTable 6 = .ok (.aload_n 0, 1) := by decide +kernel
theorem dAT_findTable_7 : decode cAT_findTable 7 = .ok (.getfield 114, 3) := by decide +kernel
theorem dAT_findTable_10 : decode cAT_findTable 10 = .ok (.if_icmp .gt 14, 3) := by decide +kernel
theorem dAT_findTable_13 : decode cAT_findTable 13 = .ok (.aload_n 0, 1) := by decide +kernel
theorem dAT_findTable_14 : decode cAT_findTable 14 = .ok (.getfield 23, 3) := by decide +kernel
theorem dAT_findTable_17 : decode cAT_findTable 17 = .ok (.iload_n 1, 1) := by decide +kernel
theorem dAT_findTable_18 : decode cAT_findTable 18 = .ok (.iconst 1, 1) := by decide +kernel
theorem dAT_findTable_19 : decode cAT_findTable 19 = .ok (.isub, 1) := by decide +kernel
theorem dAT_findTable_20 : decode cAT_findTable 20 = .ok (.aaload, 1) := by decide +kernel
theorem dAT_findTable_21 : decode cAT_findTable 21 = .ok (.goto 4, 3) := by decide +kernel
theorem dAT_findTable_24 : decode cAT_findTable 24 = .ok (.aconst_null, 1) := by decide +kernel
theorem dAT_findTable_25 : decode cAT_findTable 25 = .ok (.areturn, 1) := by decide +kernel
theorem dAT_isUnknownFor_0 : decode cAT_isUnknownFor 0 = .ok (.iload_n 1, 1) := by decide +kernel
theorem dAT_isUnknownFor_1 : decode cAT_isUnknownFor 1 = .ok (.tableswitch 65 0 2 #[27, 37, 51], 27) := by decide +kernel
theorem dAT_isUnknownFor_28 : decode cAT_isUnknownFor 28 = .ok (.iload_n 2, 1) := by decide +kernel
theorem dAT_isUnknownFor_29 : decode cAT_isUnknownFor 29 = .ok (.ifCond .eq 7, 3) := by decide +kernel
theorem dAT_isUnknownFor_32 : decode cAT_isUnknownFor 32 = .ok (.iconst 1, 1) := by decide +kernel
theorem dAT_isUnknownFor_33 : decode cAT_isUnknownFor 33 = .ok (.goto 4, 3) := by decide +kernel
theorem dAT_isUnknownFor_36 : decode cAT_isUnknownFor 36 = .ok (.iconst 0, 1) := by decide +kernel
theorem dAT_isUnknownFor_37 : decode cAT_isUnknownFor 37 = .ok (.ireturn, 1) := by decide +kernel
theorem dAT_isUnknownFor_38 : decode cAT_isUnknownFor 38 = .ok (.aload_n 0, 1) := by decide +kernel
theorem dAT_isUnknownFor_39 : decode cAT_isUnknownFor 39 = .ok (.iload_n 2, 1) := by decide +kernel
theorem dAT_isUnknownFor_40 : decode cAT_isUnknownFor 40 = .ok (.invokevirtual 52, 3) := by decide +kernel
theorem dAT_isUnknownFor_43 : decode cAT_isUnknownFor 43 = .ok (.ifnonnull 7, 3) := by decide +kernel
theorem dAT_isUnknownFor_46 : decode cAT_isUnknownFor 46 = .ok (.iconst 1, 1) := by decide +kernel
theorem dAT_isUnknownFor_47 : decode cAT_isUnknownFor 47 = .ok (.goto 4, 3) := by decide +kernel
theorem dAT_isUnknownFor_50 : decode cAT_isUnknownFor 50 = .ok (.iconst 0, 1) := by decide +kernel
theorem dAT_isUnknownFor_51 : decode cAT_isUnknownFor 51 = .ok (.ireturn, 1) := by decide +kernel
theorem dAT_isUnknownFor_52 : decode cAT_isUnknownFor 52 = .ok (.aload_n 0, 1) := by decide +kernel
theorem dAT_isUnknownFor_53 : decode cAT_isUnknownFor 53 = .ok (.iload_n 2, 1) := by decide +kernel
theorem dAT_isUnknownFor_54 : decode cAT_isUnknownFor 54 = .ok (.invokevirtual 67, 3) := by decide +kernel
theorem dAT_isUnknownFor_57 : decode cAT_isUnknownFor 57 = .ok (.ifnonnull 7, 3) := by decide +kernel
theorem dAT_isUnknownFor_60 : decode cAT_isUnknownFor 60 = .ok (.iconst 1, 1) := by decide +kernel
theorem dAT_isUnknownFor_61 : decode cAT_isUnknownFor 61 = .ok (.goto 4, 3) := by decide +kernel
theorem dAT_isUnknownFor_64 : decode cAT_isUnknownFor 64 = .ok (.iconst 0, 1) := by decide +kernel
theorem dAT_isUnknownFor_65 : decode cAT_isUnknownFor 65 = .ok (.ireturn, 1) := by decide +kernel
theorem dAT_isUnknownFor_66 : decode cAT_isUnknownFor 66 = .ok (.iconst 0, 1) := by decide +kernel
theorem dAT_isUnknownFor_67 : decode cAT_isUnknownFor 67 = .ok (.ireturn, 1) := by decide +kernel
theorem dAT_wouldCircle_0 : decode cAT_wouldCircle 0 = .ok (.aload_n 1, 1) := by decide +kernel
theorem dAT_wouldCircle_1 : decode cAT_wouldCircle 1 = .ok (.ifnull 24, 3) := by decide +kernel
theorem dAT_wouldCircle_4 : decode cAT_wouldCircle 4 = .ok (.aload_n 1, 1) := by decide +kernel
theorem dAT_wouldCircle_5 : decode cAT_wouldCircle 5 = .ok (.aload_n 0, 1) := by decide +kernel
theorem dAT_wouldCircle_6 : decode cAT_wouldCircle 6 = .ok (.if_acmp .eq 15, 3) := by decide +kernel
theorem dAT_wouldCircle_9 : decode cAT_wouldCircle 9 = .ok (.aload_n 1, 1) := by decide +kernel
theorem dAT_wouldCircle_10 : decode cAT_wouldCircle 10 = .ok (.getfield 200, 3) := by decide +kernel
theorem dAT_wouldCircle_13 : decode cAT_wouldCircle 13 = .ok (.aload_n 0, 1) := by decide +kernel
theorem dAT_wouldCircle_14 : decode cAT_wouldCircle 14 = .ok (.getfield 203, 3) := by decide +kernel
theorem dAT_wouldCircle_17 : decode cAT_wouldCircle 17 = .ok (.iand, 1) := by decide +kernel
theorem dAT_wouldCircle_18 : decode cAT_wouldCircle 18 = .ok (.ifCond .eq 7, 3) := by decide +kernel
theorem dAT_wouldCircle_21 : decode cAT_wouldCircle 21 = .ok (.iconst 1, 1) := by decide +kernel
theorem dAT_wouldCircle_22 : decode cAT_wouldCircle 22 = .ok (.goto 4, 3) := by decide +kernel
theorem dAT_wouldCircle_25 : decode cAT_wouldCircle 25 = .ok (.iconst 0, 1) := by decide +kernel
theorem dAT_wouldCircle_26 : decode cAT_wouldCircle 26 = .ok (.ireturn, 1) := by decide +kernel
theorem dAT_link_0 : decode cAT_link 0 = .ok (.aload_n 2, 1) := by decide +kernel
theorem dAT_link_1 : decode cAT_link 1 = .ok (.ifnonnull 4, 3) := by decide +kernel
theorem dAT_link_4 : decode cAT_link 4 = .ok (.return_, 1) := by decide +kernel
theorem dAT_link_5 : decode cAT_link 5 = .ok (.aload_n 2, 1) := by decide +kernel
theorem dAT_link_6 : decode cAT_link 6 = .ok (.getfield 200, 3) := by decide +kernel
theorem dAT_link_9 : decode cAT_link 9 = .ok (.aload_n 2, 1) := by decide +kernel
theorem dAT_link_10 : decode cAT_link 10 = .ok (.getfield 203, 3) := by decide +kernel
theorem dAT_link_13 : decode cAT_link 13 = .ok (.ior, 1) := by decide +kernel
theorem dAT_link_14 : decode cAT_link 14 = .ok (.istore_n 3, 1) := by decide +kernel
theorem dAT_link_15 : decode cAT_link 15 = .ok (.iconst 0, 1) := by decide +kernel
theorem dAT_link_16 : decode cAT_link 16 = .ok (.istore 4, 2) := by decide +kernel
theorem dAT_link_18 : decode cAT_link 18 = .ok (.iload 4, 2) := by decide +kernel
theorem dAT_link_20 : decode cAT_link 20 = .ok (.aload_n 0, 1) := by decide +kernel
theorem dAT_link_21 : decode cAT_link 21 = .ok (.getfield 38, 3) := by decide +kernel
theorem dAT_link_24 : decode cAT_link 24 = .ok (.if_icmp .ge 53, 3) := by decide +kernel
theorem dAT_link_27 : decode cAT_link 27 = .ok (.aload_n 0, 1) := by decide +kernel
theorem dAT_link_28 : decode cAT_link 28 = .ok (.getfield 11, 3) := by decide +kernel
theorem dAT_link_31 : decode cAT_link 31 = .ok (.iload 4, 2) := by decide +kernel
theorem dAT_link_33 : decode cAT_link 33 = .ok (.aaload, 1) := by decide +kernel
theorem dAT_link_34 : decode cAT_link 34 = .ok (.astore 5, 2) := by decide +kernel
theorem dAT_link_36 : decode cAT_link 36 = .ok (.aload 5, 2) := by decide +kernel
theorem dAT_link_38 : decode cAT_link 38 = .ok (.ifnull 33, 3) := by decide +kernel
theorem dAT_link_41 : decode cAT_link 41 = .ok (.aload 5, 2) := by decide +kernel
theorem dAT_link_43 : decode cAT_link 43 = .ok (.aload_n 1, 1) := by decide +kernel
theorem dAT_link_44 : decode cAT_link 44 = .ok (.if_acmp .eq 16, 3) := by decide +kernel
theorem dAT_link_47 : decode cAT_link 47 = .ok (.aload 5, 2) := by decide +kernel
theorem dAT_link_49 : decode cAT_link 49 = .ok (.getfield 200, 3) := by decide +kernel
theorem dAT_link_52 : decode cAT_link 52 = .ok (.aload_n 1, 1) := by decide +kernel
theorem dAT_link_53 : decode cAT_link 53 = .ok (.getfield 203, 3) := by decide +kernel
theorem dAT_link_56 : decode cAT_link 56 = .ok (.iand, 1) := by decide +kernel
theorem dAT_link_57 : decode cAT_link 57 = .ok (.ifCond .eq 14, 3) := by decide +kernel
theorem dAT_link_60 : decode cAT_link 60 = .ok (.aload 5, 2) := by decide +kernel
theorem dAT_link_62 : decode cAT_link 62 = .ok (.dup, 1) := by decide +kernel
theorem dAT_link_63 : decode cAT_link 63 = .ok (.getfield 200, 3) := by decide +kernel
theorem dAT_link_66 : decode cAT_link 66 = .ok (.iload_n 3, 1) := by decide +kernel
theorem dAT_link_67 : decode cAT_link 67 = .ok (.ior, 1) := by decide +kernel
theorem dAT_link_68 : decode cAT_link 68 = .ok (.putfield 200, 3) := by decide +kernel
theorem dAT_link_71 : decode cAT_link 71 = .ok (.iinc 4 1, 3) := by decide +kernel
theorem dAT_link_74 : decode cAT_link 74 = .ok (.goto (-56), 3) := by decide +kernel
theorem dAT_link_77 : decode cAT_link 77 = .ok (.return_, 1) := by decide +kernel
theorem dAT_makeStep_0 : decode cAT_makeStep 0 = .ok (.aload_n 1, 1) := by decide +kernel
theorem dAT_makeStep_1 : decode cAT_makeStep 1 = .ok (.invokevirtual 206, 3) := by decide +kernel
theorem dAT_makeStep_4 : decode cAT_makeStep 4 = .ok (.aload_n 1, 1) := by decide +kernel
theorem dAT_makeStep_5 : decode cAT_makeStep 5 = .ok (.getfield 154, 3) := by decide +kernel
theorem dAT_makeStep_8 : decode cAT_makeStep 8 = .ok (.aload_n 1, 1) := by decide +kernel
theorem dAT_makeStep_9 : decode cAT_makeStep 9 = .ok (.getfield 209, 3) := by decide +kernel
theorem dAT_makeStep_12 : decode cAT_makeStep 12 = .ok (.lcmp, 1) := by decide +kernel
theorem dAT_makeStep_13 : decode cAT_makeStep 13 = .ok (.ifCond .ge 4, 3) := by decide +kernel
theorem dAT_makeStep_16 : decode cAT_makeStep 16 = .ok (.return_, 1) := by decide +kernel
theorem dAT_makeStep_17 : decode cAT_makeStep 17 = .ok (.aload_n 1, 1) := by decide +kernel
theorem dAT_makeStep_18 : decode cAT_makeStep 18 = .ok (.ldc2_w 212, 3) := by decide +kernel
theorem dAT_makeStep_21 : decode cAT_makeStep 21 = .ok (.putfield 209, 3) := by decide +kernel
theorem dAT_makeStep_24 : decode cAT_makeStep 24 = .ok (.aload_n 1, 1) := by decide +kernel
theorem dAT_makeStep_25 : decode cAT_makeStep 25 = .ok (.getfield 214, 3) := by decide +kernel
theorem dAT_makeStep_28 : decode cAT_makeStep 28 = .ok (.astore_n 3, 1) := by decide +kernel
theorem dAT_makeStep_29 : decode cAT_makeStep 29 = .ok (.aload_n 3, 1) := by decide +kernel
theorem dAT_makeStep_30 : decode cAT_makeStep 30 = .ok (.ifnull 17, 3) := by decide +kernel
theorem dAT_makeStep_33 : decode cAT_makeStep 33 = .ok (.aload_n 0, 1) := by decide +kernel
theorem dAT_makeStep_34 : decode cAT_makeStep 34 = .ok (.aload_n 3, 1) := by decide +kernel
theorem dAT_makeStep_35 : decode cAT_makeStep 35 = .ok (.iload_n 2, 1) := by decide +kernel
theorem dAT_makeStep_36 : decode cAT_makeStep 36 = .ok (.invokevirtual 218, 3) := by decide +kernel
theorem dAT_makeStep_39 : decode cAT_makeStep 39 = .ok (.aload_n 3, 1) := by decide +kernel
theorem dAT_makeStep_40 : decode cAT_makeStep 40 = .ok (.getfield 222, 3) := by decide +kernel
theorem dAT_makeStep_43 : decode cAT_makeStep 43 = .ok (.astore_n 3, 1) := by decide +kernel
theorem dAT_makeStep_44 : decode cAT_makeStep 44 = .ok (.goto (-15), 3) := by decide +kernel
theorem dAT_makeStep_47 : decode cAT_makeStep 47 = .ok (.aload_n 1, 1) := by decide +kernel
theorem dAT_makeStep_48 : decode cAT_makeStep 48 = .ok (.getfield 225, 3) := by decide +kernel
theorem dAT_makeStep_51 : decode cAT_makeStep 51 = .ok (.astore_n 3, 1) := by decide +kernel
theorem dAT_makeStep_52 : decode cAT_makeStep 52 = .ok (.aload_n 3, 1) := by decide +kernel
theorem dAT_makeStep_53 : decode cAT_makeStep 53 = .ok (.ifnull 17, 3) := by decide +kernel
theorem dAT_makeStep_56 : decode cAT_makeStep 56 = .ok (.aload_n 0, 1) := by decide +kernel
theorem dAT_makeStep_57 : decode cAT_makeStep 57 = .ok (.aload_n 3, 1) := by decide +kernel
theorem dAT_makeStep_58 : decode cAT_makeStep 58 = .ok (.iload_n 2, 1) := by decide +kernel
theorem dAT_makeStep_59 : decode cAT_makeStep 59 = .ok (.invokevirtual 228, 3) := by decide +kernel
theorem dAT_makeStep_62 : decode cAT_makeStep 62 = .ok (.aload_n 3, 1) := by decide +kernel
theorem dAT_makeStep_63 : decode cAT_makeStep 63 = .ok (.getfield 232, 3) := by decide +kernel
theorem dAT_makeStep_66 : decode cAT_makeStep 66 = .ok (.astore_n 3, 1) := by decide +kernel
theorem dAT_makeStep_67 : decode cAT_makeStep 67 = .ok (.goto (-15), 3) := by decide +kernel
theorem dAT_makeStep_70 : decode cAT_makeStep 70 = .ok (.return_, 1) := by decide +kernel
theorem dAT_takeAlarmTurn_0 : decode cAT_takeAlarmTurn 0 = .ok (.aload_n 1, 1) := by decide +kernel
theorem dAT_takeAlarmTurn_1 : decode cAT_takeAlarmTurn 1 = .ok (.getfield 87, 3) := by decide +kernel
theorem dAT_takeAlarmTurn_4 : decode cAT_takeAlarmTurn 4 = .ok (.ifCond .ne 4, 3) := by decide +kernel
theorem dAT_takeAlarmTurn_7 : decode cAT_takeAlarmTurn 7 = .ok (.return_, 1) := by decide +kernel
theorem dAT_takeAlarmTurn_8 : decode cAT_takeAlarmTurn 8 = .ok (.aload_n 1, 1) := by decide +kernel
theorem dAT_takeAlarmTurn_9 : decode cAT_takeAlarmTurn 9 = .ok (.getfield 234, 3) := by decide +kernel
theorem dAT_takeAlarmTurn_12 : decode cAT_takeAlarmTurn 12 = .ok (.aload_n 1, 1) := by decide +kernel
theorem dAT_takeAlarmTurn_13 : decode cAT_takeAlarmTurn 13 = .ok (.getfield 91, 3) := by decide +kernel
theorem dAT_takeAlarmTurn_16 : decode cAT_takeAlarmTurn 16 = .ok (.getfield 154, 3) := by decide +kernel
theorem dAT_takeAlarmTurn_19 : decode cAT_takeAlarmTurn 19 = .ok (.lcmp, 1) := by decide +kernel
theorem dAT_takeAlarmTurn_20 : decode cAT_takeAlarmTurn 20 = .ok (.ifCond .eq 15, 3) := by decide +kernel
theorem dAT_takeAlarmTurn_23 : decode cAT_takeAlarmTurn 23 = .ok (.aload_n 1, 1) := by decide +kernel
theorem dAT_takeAlarmTurn_24 : decode cAT_takeAlarmTurn 24 = .ok (.getfield 91, 3) := by decide +kernel
theorem dAT_takeAlarmTurn_27 : decode cAT_takeAlarmTurn 27 = .ok (.aload_n 1, 1) := by decide +kernel
theorem dAT_takeAlarmTurn_28 : decode cAT_takeAlarmTurn 28 = .ok (.getfield 234, 3) := by decide +kernel
theorem dAT_takeAlarmTurn_31 : decode cAT_takeAlarmTurn 31 = .ok (.invokevirtual 163, 3) := by decide +kernel
theorem dAT_takeAlarmTurn_34 : decode cAT_takeAlarmTurn 34 = .ok (.return_, 1) := by decide +kernel
theorem dAT_takeAlarmTurn_35 : decode cAT_takeAlarmTurn 35 = .ok (.aload_n 0, 1) := by decide +kernel
theorem dAT_takeAlarmTurn_36 : decode cAT_takeAlarmTurn 36 = .ok (.getfield 30, 3) := by decide +kernel
theorem dAT_takeAlarmTurn_39 : decode cAT_takeAlarmTurn 39 = .ok (.iconst 0, 1) := by decide +kernel
theorem dAT_takeAlarmTurn_40 : decode cAT_takeAlarmTurn 40 = .ok (.aload_n 1, 1) := by decide +kernel
theorem dAT_takeAlarmTurn_41 : decode cAT_takeAlarmTurn 41 = .ok (.getfield 235, 3) := by decide +kernel
theorem dAT_takeAlarmTurn_44 : decode cAT_takeAlarmTurn 44 = .ok (.lconst 0, 1) := by decide +kernel
theorem dAT_takeAlarmTurn_45 : decode cAT_takeAlarmTurn 45 = .ok (.aload_n 1, 1) := by decide +kernel
theorem dAT_takeAlarmTurn_46 : decode cAT_takeAlarmTurn 46 = .ok (.getfield 91, 3) := by decide +kernel
theorem dAT_takeAlarmTurn_49 : decode cAT_takeAlarmTurn 49 = .ok (.getfield 238, 3) := by decide +kernel
theorem dAT_takeAlarmTurn_52 : decode cAT_takeAlarmTurn 52 = .ok (.invokevirtual 241, 3) := by decide +kernel
theorem dAT_takeAlarmTurn_55 : decode cAT_takeAlarmTurn 55 = .ok (.aload_n 1, 1) := by decide +kernel
theorem dAT_takeAlarmTurn_56 : decode cAT_takeAlarmTurn 56 = .ok (.getfield 101, 3) := by decide +kernel
theorem dAT_takeAlarmTurn_59 : decode cAT_takeAlarmTurn 59 = .ok (.lconst 0, 1) := by decide +kernel
theorem dAT_takeAlarmTurn_60 : decode cAT_takeAlarmTurn 60 = .ok (.lcmp, 1) := by decide +kernel
theorem dAT_takeAlarmTurn_61 : decode cAT_takeAlarmTurn 61 = .ok (.ifCond .ne 11, 3) := by decide +kernel
theorem dAT_takeAlarmTurn_64 : decode cAT_takeAlarmTurn 64 = .ok (.aload_n 1, 1) := by decide +kernel
theorem dAT_takeAlarmTurn_65 : decode cAT_takeAlarmTurn 65 = .ok (.iconst 0, 1) := by decide +kernel
theorem dAT_takeAlarmTurn_66 : decode cAT_takeAlarmTurn 66 = .ok (.putfield 87, 3) := by decide +kernel
theorem dAT_takeAlarmTurn_69 : decode cAT_takeAlarmTurn 69 = .ok (.goto 11, 3) := by decide +kernel
theorem dAT_takeAlarmTurn_72 : decode cAT_takeAlarmTurn 72 = .ok (.aload_n 1, 1) := by decide +kernel
theorem dAT_takeAlarmTurn_73 : decode cAT_takeAlarmTurn 73 = .ok (.aload_n 1, 1) := by decide +kernel
theorem dAT_takeAlarmTurn_74 : decode cAT_takeAlarmTurn 74 = .ok (.getfield 101, 3) := by decide +kernel
theorem dAT_takeAlarmTurn_77 : decode cAT_takeAlarmTurn 77 = .ok (.invokevirtual 108, 3) := by decide +kernel
theorem dAT_takeAlarmTurn_80 : decode cAT_takeAlarmTurn 80 = .ok (.aload_n 0, 1) := by decide +kernel
theorem dAT_takeAlarmTurn_81 : decode cAT_takeAlarmTurn 81 = .ok (.aload_n 1, 1) := by decide +kernel
theorem dAT_takeAlarmTurn_82 : decode cAT_takeAlarmTurn 82 = .ok (.getfield 245, 3) := by decide +kernel
theorem dAT_takeAlarmTurn_85 : decode cAT_takeAlarmTurn 85 = .ok (.iload_n 2, 1) := by decide +kernel
theorem dAT_takeAlarmTurn_86 : decode cAT_takeAlarmTurn 86 = .ok (.invokevirtual 249, 3) := by decide +kernel
theorem dAT_takeAlarmTurn_89 : decode cAT_takeAlarmTurn 89 = .ok (.return_, 1) := by decide +kernel
theorem dAT_takeTableTurn_0 : decode cAT_takeTableTurn 0 = .ok (.aload_n 1, 1) := by decide +kernel
theorem dAT_takeTableTurn_1 : decode cAT_takeTableTurn 1 = .ok (.getfield 131, 3) := by decide +kernel
theorem dAT_takeTableTurn_4 : decode cAT_takeTableTurn 4 = .ok (.ifCond .ne 4, 3) := by decide +kernel
theorem dAT_takeTableTurn_7 : decode cAT_takeTableTurn 7 = .ok (.return_, 1) := by decide +kernel
theorem dAT_takeTableTurn_8 : decode cAT_takeTableTurn 8 = .ok (.aload_n 1, 1) := by decide +kernel
theorem dAT_takeTableTurn_9 : decode cAT_takeTableTurn 9 = .ok (.getfield 160, 3) := by decide +kernel
theorem dAT_takeTableTurn_12 : decode cAT_takeTableTurn 12 = .ok (.aload_n 1, 1) := by decide +kernel
theorem dAT_takeTableTurn_13 : decode cAT_takeTableTurn 13 = .ok (.getfield 138, 3) := by decide +kernel
theorem dAT_takeTableTurn_16 : decode cAT_takeTableTurn 16 = .ok (.getfield 154, 3) := by decide +kernel
theorem dAT_takeTableTurn_19 : decode cAT_takeTableTurn 19 = .ok (.lcmp, 1) := by decide +kernel
theorem dAT_takeTableTurn_20 : decode cAT_takeTableTurn 20 = .ok (.ifCond .eq 15, 3) := by decide +kernel
theorem dAT_takeTableTurn_23 : decode cAT_takeTableTurn 23 = .ok (.aload_n 1, 1) := by decide +kernel
theorem dAT_takeTableTurn_24 : decode cAT_takeTableTurn 24 = .ok (.getfield 138, 3) := by decide +kernel
theorem dAT_takeTableTurn_27 : decode cAT_takeTableTurn 27 = .ok (.aload_n 1, 1) := by decide +kernel
theorem dAT_takeTableTurn_28 : decode cAT_takeTableTurn 28 = .ok (.getfield 160, 3) := by decide +kernel
theorem dAT_takeTableTurn_31 : decode cAT_takeTableTurn 31 = .ok (.invokevirtual 163, 3) := by decide +kernel
theorem dAT_takeTableTurn_34 : decode cAT_takeTableTurn 34 = .ok (.return_, 1) := by decide +kernel
theorem dAT_takeTableTurn_35 : decode cAT_takeTableTurn 35 = .ok (.aload_n 1, 1) := by decide +kernel
theorem dAT_takeTableTurn_36 : decode cAT_takeTableTurn 36 = .ok (.astore_n 3, 1) := by decide +kernel
theorem dAT_takeTableTurn_37 : decode cAT_takeTableTurn 37 = .ok (.iconst 0, 1) := by decide +kernel
theorem dAT_takeTableTurn_38 : decode cAT_takeTableTurn 38 = .ok (.istore 4, 2) := by decide +kernel
theorem dAT_takeTableTurn_40 : decode cAT_takeTableTurn 40 = .ok (.iload 4, 2) := by decide +kernel
theorem dAT_takeTableTurn_42 : decode cAT_takeTableTurn 42 = .ok (.bipush 8, 2) := by decide +kernel
theorem dAT_takeTableTurn_44 : decode cAT_takeTableTurn 44 = .ok (.if_icmp .ge 35, 3) := by decide +kernel
theorem dAT_takeTableTurn_47 : decode cAT_takeTableTurn 47 = .ok (.aload_n 3, 1) := by decide +kernel
theorem dAT_takeTableTurn_48 : decode cAT_takeTableTurn 48 = .ok (.ifnull 31, 3) := by decide +kernel
theorem dAT_takeTableTurn_51 : decode cAT_takeTableTurn 51 = .ok (.aload_n 3, 1) := by decide +kernel
theorem dAT_takeTableTurn_52 : decode cAT_takeTableTurn 52 = .ok (.getfield 160, 3) := by decide +kernel
theorem dAT_takeTableTurn_55 : decode cAT_takeTableTurn 55 = .ok (.aload_n 3, 1) := by decide +kernel
theorem dAT_takeTableTurn_56 : decode cAT_takeTableTurn 56 = .ok (.getfield 138, 3) := by decide +kernel
theorem dAT_takeTableTurn_59 : decode cAT_takeTableTurn 59 = .ok (.getfield 154, 3) := by decide +kernel
theorem dAT_takeTableTurn_62 : decode cAT_takeTableTurn 62 = .ok (.lcmp, 1) := by decide +kernel
theorem dAT_takeTableTurn_63 : decode cAT_takeTableTurn 63 = .ok (.ifCond .ne 16, 3) := by decide +kernel
theorem dAT_takeTableTurn_66 : decode cAT_takeTableTurn 66 = .ok (.aload_n 0, 1) := by decide +kernel
theorem dAT_takeTableTurn_67 : decode cAT_takeTableTurn 67 = .ok (.aload_n 3, 1) := by decide +kernel
theorem dAT_takeTableTurn_68 : decode cAT_takeTableTurn 68 = .ok (.iload_n 2, 1) := by decide +kernel
theorem dAT_takeTableTurn_69 : decode cAT_takeTableTurn 69 = .ok (.invokevirtual 253, 3) := by decide +kernel
theorem dAT_takeTableTurn_72 : decode cAT_takeTableTurn 72 = .ok (.astore_n 3, 1) := by decide +kernel
theorem dAT_takeTableTurn_73 : decode cAT_takeTableTurn 73 = .ok (.iinc 4 1, 3) := by decide +kernel
theorem dAT_takeTableTurn_76 : decode cAT_takeTableTurn 76 = .ok (.goto (-36), 3) := by decide +kernel
theorem dAT_takeTableTurn_79 : decode cAT_takeTableTurn 79 = .ok (.return_, 1) := by decide +kernel
theorem dAT_goThrough_0 : decode cAT_goThrough 0 = .ok (.aload_n 1, 1) := by decide +kernel
theorem dAT_goThrough_1 : decode cAT_goThrough 1 = .ok (.getfield 257, 3) := by decide +kernel
theorem dAT_goThrough_4 : decode cAT_goThrough 4 = .ok (.ifCond .ne 19, 3) := by decide +kernel
theorem dAT_goThrough_7 : decode cAT_goThrough 7 = .ok (.aload_n 1, 1) := by decide +kernel
theorem dAT_goThrough_8 : decode cAT_goThrough 8 = .ok (.iconst 1, 1) := by decide +kernel
theorem dAT_goThrough_9 : decode cAT_goThrough 9 = .ok (.putfield 257, 3) := by decide +kernel
theorem dAT_goThrough_12 : decode cAT_goThrough 12 = .ok (.aload_n 1, 1) := by decide +kernel
theorem dAT_goThrough_13 : decode cAT_goThrough 13 = .ok (.lconst 0, 1) := by decide +kernel
theorem dAT_goThrough_14 : decode cAT_goThrough 14 = .ok (.aload_n 1, 1) := by decide +kernel
theorem dAT_goThrough_15 : decode cAT_goThrough 15 = .ok (.getfield 260, 3) := by decide +kernel
theorem dAT_goThrough_18 : decode cAT_goThrough 18 = .ok (.invokevirtual 264, 3) := by decide +kernel
theorem dAT_goThrough_21 : decode cAT_goThrough 21 = .ok (.aload_n 1, 1) := by decide +kernel
theorem dAT_goThrough_22 : decode cAT_goThrough 22 = .ok (.areturn, 1) := by decide +kernel
theorem dAT_goThrough_23 : decode cAT_goThrough 23 = .ok (.aload_n 1, 1) := by decide +kernel
theorem dAT_goThrough_24 : decode cAT_goThrough 24 = .ok (.getfield 268, 3) := by decide +kernel
theorem dAT_goThrough_27 : decode cAT_goThrough 27 = .ok (.astore_n 3, 1) := by decide +kernel
theorem dAT_goThrough_28 : decode cAT_goThrough 28 = .ok (.aload_n 3, 1) := by decide +kernel
theorem dAT_goThrough_29 : decode cAT_goThrough 29 = .ok (.ifnonnull 9, 3) := by decide +kernel
theorem dAT_goThrough_32 : decode cAT_goThrough 32 = .ok (.aload_n 0, 1) := by decide +kernel
theorem dAT_goThrough_33 : decode cAT_goThrough 33 = .ok (.aload_n 1, 1) := by decide +kernel
theorem dAT_goThrough_34 : decode cAT_goThrough 34 = .ok (.invokevirtual 271, 3) := by decide +kernel
theorem dAT_goThrough_37 : decode cAT_goThrough 37 = .ok (.areturn, 1) := by decide +kernel
theorem dAT_goThrough_38 : decode cAT_goThrough 38 = .ok (.aload_n 0, 1) := by decide +kernel
theorem dAT_goThrough_39 : decode cAT_goThrough 39 = .ok (.getfield 30, 3) := by decide +kernel
theorem dAT_goThrough_42 : decode cAT_goThrough 42 = .ok (.iconst 1, 1) := by decide +kernel
theorem dAT_goThrough_43 : decode cAT_goThrough 43 = .ok (.aload_n 1, 1) := by decide +kernel
theorem dAT_goThrough_44 : decode cAT_goThrough 44 = .ok (.getfield 275, 3) := by decide +kernel
theorem dAT_goThrough_47 : decode cAT_goThrough 47 = .ok (.aload_n 3, 1) := by decide +kernel
theorem dAT_goThrough_48 : decode cAT_goThrough 48 = .ok (.getfield 276, 3) := by decide +kernel
theorem dAT_goThrough_51 : decode cAT_goThrough 51 = .ok (.aload_n 1, 1) := by decide +kernel
theorem dAT_goThrough_52 : decode cAT_goThrough 52 = .ok (.getfield 138, 3) := by decide +kernel
theorem dAT_goThrough_55 : decode cAT_goThrough 55 = .ok (.getfield 238, 3) := by decide +kernel
theorem dAT_goThrough_58 : decode cAT_goThrough 58 = .ok (.invokevirtual 241, 3) := by decide +kernel
theorem dAT_goThrough_61 : decode cAT_goThrough 61 = .ok (.aload_n 1, 1) := by decide +kernel
theorem dAT_goThrough_62 : decode cAT_goThrough 62 = .ok (.aload_n 3, 1) := by decide +kernel
theorem dAT_goThrough_63 : decode cAT_goThrough 63 = .ok (.getfield 276, 3) := by decide +kernel
theorem dAT_goThrough_66 : decode cAT_goThrough 66 = .ok (.aload_n 3, 1) := by decide +kernel
theorem dAT_goThrough_67 : decode cAT_goThrough 67 = .ok (.getfield 279, 3) := by decide +kernel
theorem dAT_goThrough_70 : decode cAT_goThrough 70 = .ok (.invokevirtual 264, 3) := by decide +kernel
theorem dAT_goThrough_73 : decode cAT_goThrough 73 = .ok (.aload_n 0, 1) := by decide +kernel
theorem dAT_goThrough_74 : decode cAT_goThrough 74 = .ok (.aload_n 3, 1) := by decide +kernel
theorem dAT_goThrough_75 : decode cAT_goThrough 75 = .ok (.getfield 281, 3) := by decide +kernel
theorem dAT_goThrough_78 : decode cAT_goThrough 78 = .ok (.iload_n 2, 1) := by decide +kernel
theorem dAT_goThrough_79 : decode cAT_goThrough 79 = .ok (.invokevirtual 249, 3) := by decide +kernel
theorem dAT_goThrough_82 : decode cAT_goThrough 82 = .ok (.aload_n 1, 1) := by decide +kernel
theorem dAT_goThrough_83 : decode cAT_goThrough 83 = .ok (.areturn, 1) := by decide +kernel
theorem dAT_giveOver_0 : decode cAT_giveOver 0 = .ok (.aload_n 0, 1) := by decide +kernel
theorem dAT_giveOver_1 : decode cAT_giveOver 1 = .ok (.getfield 30, 3) := by decide +kernel
theorem dAT_giveOver_4 : decode cAT_giveOver 4 = .ok (.iconst 2, 1) := by decide +kernel
theorem dAT_giveOver_5 : decode cAT_giveOver 5 = .ok (.aload_n 1, 1) := by decide +kernel
theorem dAT_giveOver_6 : decode cAT_giveOver 6 = .ok (.getfield 275, 3) := by decide +kernel
theorem dAT_giveOver_9 : decode cAT_giveOver 9 = .ok (.lconst 0, 1) := by decide +kernel
theorem dAT_giveOver_10 : decode cAT_giveOver 10 = .ok (.aload_n 1, 1) := by decide +kernel
theorem dAT_giveOver_11 : decode cAT_giveOver 11 = .ok (.getfield 138, 3) := by decide +kernel
theorem dAT_giveOver_14 : decode cAT_giveOver 14 = .ok (.getfield 238, 3) := by decide +kernel
theorem dAT_giveOver_17 : decode cAT_giveOver 17 = .ok (.invokevirtual 241, 3) := by decide +kernel
theorem dAT_giveOver_20 : decode cAT_giveOver 20 = .ok (.aload_n 1, 1) := by decide +kernel
theorem dAT_giveOver_21 : decode cAT_giveOver 21 = .ok (.iconst 0, 1) := by decide +kernel
theorem dAT_giveOver_22 : decode cAT_giveOver 22 = .ok (.putfield 131, 3) := by decide +kernel
theorem dAT_giveOver_25 : decode cAT_giveOver 25 = .ok (.aload_n 1, 1) := by decide +kernel
theorem dAT_giveOver_26 : decode cAT_giveOver 26 = .ok (.getfield 166, 3) := by decide +kernel
theorem dAT_giveOver_29 : decode cAT_giveOver 29 = .ok (.astore_n 2, 1) := by decide +kernel
theorem dAT_giveOver_30 : decode cAT_giveOver 30 = .ok (.aload_n 2, 1) := by decide +kernel
theorem dAT_giveOver_31 : decode cAT_giveOver 31 = .ok (.ifnull 10, 3) := by decide +kernel
theorem dAT_giveOver_34 : decode cAT_giveOver 34 = .ok (.aload_n 2, 1) := by decide +kernel
theorem dAT_giveOver_35 : decode cAT_giveOver 35 = .ok (.getfield 131, 3) := by decide +kernel
theorem dAT_giveOver_38 : decode cAT_giveOver 38 = .ok (.ifCond .eq 5, 3) := by decide +kernel
theorem dAT_giveOver_41 : decode cAT_giveOver 41 = .ok (.aconst_null, 1) := by decide +kernel
theorem dAT_giveOver_42 : decode cAT_giveOver 42 = .ok (.areturn, 1) := by decide +kernel
theorem dAT_giveOver_43 : decode cAT_giveOver 43 = .ok (.aload_n 2, 1) := by decide +kernel
theorem dAT_giveOver_44 : decode cAT_giveOver 44 = .ok (.aload_n 1, 1) := by decide +kernel
theorem dAT_giveOver_45 : decode cAT_giveOver 45 = .ok (.if_acmp .eq 8, 3) := by decide +kernel
theorem dAT_giveOver_48 : decode cAT_giveOver 48 = .ok (.aload_n 2, 1) := by decide +kernel
theorem dAT_giveOver_49 : decode cAT_giveOver 49 = .ok (.lconst 0, 1) := by decide +kernel
theorem dAT_giveOver_50 : decode cAT_giveOver 50 = .ok (.putfield 151, 3) := by decide +kernel
theorem dAT_giveOver_53 : decode cAT_giveOver 53 = .ok (.aload_n 2, 1) := by decide +kernel
theorem dAT_giveOver_54 : decode cAT_giveOver 54 = .ok (.aload_n 1, 1) := by decide +kernel
theorem dAT_giveOver_55 : decode cAT_giveOver 55 = .ok (.getfield 138, 3) := by decide +kernel
theorem dAT_giveOver_58 : decode cAT_giveOver 58 = .ok (.getfield 154, 3) := by decide +kernel
theorem dAT_giveOver_61 : decode cAT_giveOver 61 = .ok (.invokevirtual 157, 3) := by decide +kernel
theorem dAT_giveOver_64 : decode cAT_giveOver 64 = .ok (.aload_n 2, 1) := by decide +kernel
theorem dAT_giveOver_65 : decode cAT_giveOver 65 = .ok (.areturn, 1) := by decide +kernel
theorem dAT_perform_0 : decode cAT_perform 0 = .ok (.aload_n 1, 1) := by decide +kernel
theorem dAT_perform_1 : decode cAT_perform 1 = .ok (.getfield 282, 3) := by decide +kernel
theorem dAT_perform_4 : decode cAT_perform 4 = .ok (.ifnull 11, 3) := by decide +kernel
theorem dAT_perform_7 : decode cAT_perform 7 = .ok (.aload_n 1, 1) := by decide +kernel
theorem dAT_perform_8 : decode cAT_perform 8 = .ok (.getfield 282, 3) := by decide +kernel
theorem dAT_perform_11 : decode cAT_perform 11 = .ok (.iconst 0, 1) := by decide +kernel
theorem dAT_perform_12 : decode cAT_perform 12 = .ok (.putfield 87, 3) := by decide +kernel
theorem dAT_perform_15 : decode cAT_perform 15 = .ok (.aload_n 1, 1) := by decide +kernel
theorem dAT_perform_16 : decode cAT_perform 16 = .ok (.getfield 285, 3) := by decide +kernel
theorem dAT_perform_19 : decode cAT_perform 19 = .ok (.ifnull 40, 3) := by decide +kernel
theorem dAT_perform_22 : decode cAT_perform 22 = .ok (.aload_n 0, 1) := by decide +kernel
theorem dAT_perform_23 : decode cAT_perform 23 = .ok (.getfield 185, 3) := by decide +kernel
theorem dAT_perform_26 : decode cAT_perform 26 = .ok (.sipush 20000, 3) := by decide +kernel
theorem dAT_perform_29 : decode cAT_perform 29 = .ok (.if_icmp .ge 30, 3) := by decide +kernel
theorem dAT_perform_32 : decode cAT_perform 32 = .ok (.iload_n 2, 1) := by decide +kernel
theorem dAT_perform_33 : decode cAT_perform 33 = .ok (.bipush 20, 2) := by decide +kernel
theorem dAT_perform_35 : decode cAT_perform 35 = .ok (.if_icmp .ge 24, 3) := by decide +kernel
theorem dAT_perform_38 : decode cAT_perform 38 = .ok (.aload_n 0, 1) := by decide +kernel
theorem dAT_perform_39 : decode cAT_perform 39 = .ok (.dup, 1) := by decide +kernel
theorem dAT_perform_40 : decode cAT_perform 40 = .ok (.getfield 185, 3) := by decide +kernel
theorem dAT_perform_43 : decode cAT_perform 43 = .ok (.iconst 1, 1) := by decide +kernel
theorem dAT_perform_44 : decode cAT_perform 44 = .ok (.iadd, 1) := by decide +kernel
theorem dAT_perform_45 : decode cAT_perform 45 = .ok (.putfield 185, 3) := by decide +kernel
theorem dAT_perform_48 : decode cAT_perform 48 = .ok (.aload_n 0, 1) := by decide +kernel
theorem dAT_perform_49 : decode cAT_perform 49 = .ok (.aload_n 1, 1) := by decide +kernel
theorem dAT_perform_50 : decode cAT_perform 50 = .ok (.getfield 285, 3) := by decide +kernel
theorem dAT_perform_53 : decode cAT_perform 53 = .ok (.iload_n 2, 1) := by decide +kernel
theorem dAT_perform_54 : decode cAT_perform 54 = .ok (.iconst 1, 1) := by decide +kernel
theorem dAT_perform_55 : decode cAT_perform 55 = .ok (.iadd, 1) := by decide +kernel
theorem dAT_perform_56 : decode cAT_perform 56 = .ok (.invokevirtual 188, 3) := by decide +kernel
theorem dAT_perform_59 : decode cAT_perform 59 = .ok (.return_, 1) := by decide +kernel
end
section
set_option maxRecDepth 100000 in
theorem OCounter_3 : Cond.methodLink RCounter 3 objectInit ∈ wT ∧ Cond.instanceMethod objectInit ∈ wT ∧ Cond.code objectInit ⟨#[0xb1]⟩ 1 none ∈ wT := ⟨wT_in 476 (by decide +kernel) rfl, wT_in 45 (by decide +kernel) rfl, wT_in 46 rfl rfl⟩
set_option maxRecDepth 100000 in
theorem QCounter_9 : Cond.constantLong RCounter 9 9223372036854775807 ∈ wT := wT_in 477 (by decide +kernel) rfl
set_option maxRecDepth 100000 in
theorem iwCounter : ∀ w ∈ u_ws RCounter TCounter 12, w ∈ wT := by decide +kernel
set_option maxRecDepth 100000 in
theorem FCounter_11 : fdOk RCounter RCounter RCounter TCounter 12 11 3 6 1 7 := ⟨⟨by decide, by decide, rfl, by decide, rfl, by decide⟩, iwCounter, wT_in 491 (by decide +kernel) rfl, rfl⟩
set_option maxRecDepth 100000 in
theorem GCounter_wake : fdPut TCounter 12 6 (.long) false := ⟨rfl, tyCounter_ok 6 (by decide), ⟨tyCounter, tyCounter_ok⟩, nmCounter⟩
set_option maxRecDepth 100000 in
theorem FCounter_17 : fdOk RCounter RCounter RCounter TCounter 12 17 3 0 0 2 := ⟨⟨by decide, by decide, rfl, by decide, rfl, by decide⟩, iwCounter, wT_in 478 (by decide +kernel) rfl, rfl⟩
set_option maxRecDepth 100000 in
theorem GCounter_bit : fdPut TCounter 12 0 (.int) true := ⟨rfl, tyCounter_ok 0 (by decide), ⟨tyCounter, tyCounter_ok⟩, nmCounter⟩
set_option maxRecDepth 100000 in
theorem FCounter_21 : fdOk RCounter RCounter RCounter TCounter 12 21 3 1 1 2 := ⟨⟨by decide, by decide, rfl, by decide, rfl, by decide⟩, iwCounter, wT_in 480 (by decide +kernel) rfl, rfl⟩
set_option maxRecDepth 100000 in
theorem GCounter_base : fdPut TCounter 12 1 (.long) true := ⟨rfl, tyCounter_ok 1 (by decide), ⟨tyCounter, tyCounter_ok⟩, nmCounter⟩
set_option maxRecDepth 100000 in
theorem FCounter_24 : fdOk RCounter RCounter RCounter TCounter 12 24 3 2 1 3 := ⟨⟨by decide, by decide, rfl, by decide, rfl, by decide⟩, iwCounter, wT_in 482 (by decide +kernel) rfl, rfl⟩
set_option maxRecDepth 100000 in
theorem GCounter_ticksAStep : fdPut TCounter 12 2 (.long) true := ⟨rfl, tyCounter_ok 2 (by decide), ⟨tyCounter, tyCounter_ok⟩, nmCounter⟩
set_option maxRecDepth 100000 in
theorem MCounter_27 : Cond.methodLink RCounter 27 Lib.MathLoose.min_long.x ∈ wT ∧ Cond.static Lib.MathLoose.min_long.x ∈ wT ∧ Cond.initialized "java/lang/Math" ∈ wT ∧ Cond.code Lib.MathLoose.min_long.x Lib.MathLoose.min_long.code 4 (some .long) ∈ wT := ⟨wT_in 188 (by decide +kernel) rfl, wT_in 189 (by decide +kernel) rfl, wT_in 35 (by decide +kernel) rfl, wT_in 190 rfl rfl⟩
set_option maxRecDepth 100000 in
theorem FCounter_33 : fdOk RCounter RCounter RCounter TCounter 12 33 3 5 1 6 := ⟨⟨by decide, by decide, rfl, by decide, rfl, by decide⟩, iwCounter, wT_in 488 (by decide +kernel) rfl, rfl⟩
set_option maxRecDepth 100000 in
theorem GCounter_steps : fdPut TCounter 12 5 (.long) false := ⟨rfl, tyCounter_ok 5 (by decide), ⟨tyCounter, tyCounter_ok⟩, nmCounter⟩
set_option maxRecDepth 100000 in
theorem FCounter_36 : fdOk RCounter RCounter RCounter TCounter 12 36 3 4 1 5 := ⟨⟨by decide, by decide, rfl, by decide, rfl, by decide⟩, iwCounter, wT_in 485 (by decide +kernel) rfl, rfl⟩
set_option maxRecDepth 100000 in
theorem GCounter_value : fdPut TCounter 12 4 (.long) false := ⟨rfl, tyCounter_ok 4 (by decide), ⟨tyCounter, tyCounter_ok⟩, nmCounter⟩
set_option maxRecDepth 100000 in
theorem OAct_1 : Cond.methodLink RAct 1 objectInit ∈ wT ∧ Cond.instanceMethod objectInit ∈ wT ∧ Cond.code objectInit ⟨#[0xb1]⟩ 1 none ∈ wT := ⟨wT_in 122 (by decide +kernel) rfl, wT_in 45 (by decide +kernel) rfl, wT_in 46 rfl rfl⟩
set_option maxRecDepth 100000 in
theorem iwAct : ∀ w ∈ u_ws RAct TAct 2, w ∈ wT := by decide +kernel
set_option maxRecDepth 100000 in
theorem FAct_7 : fdOk RAct RAct RAct TAct 2 7 1 0 2 0 := ⟨⟨by decide, by decide, rfl, by decide, rfl, by decide⟩, iwAct, wT_in 123 (by decide +kernel) rfl, rfl⟩
set_option maxRecDepth 100000 in
theorem GAct_stepped : fdPut TAct 2 0 (.object "AlarmTables$Counter") true := ⟨rfl, tyAct_ok 0 (by decide), ⟨tyAct, tyAct_ok⟩, nmAct⟩
set_option maxRecDepth 100000 in
theorem FAct_13 : fdOk RAct RAct RAct TAct 2 13 1 1 2 1 := ⟨⟨by decide, by decide, rfl, by decide, rfl, by decide⟩, iwAct, wT_in 125 (by decide +kernel) rfl, rfl⟩
set_option maxRecDepth 100000 in
theorem GAct_cancelled : fdPut TAct 2 1 (.object "AlarmTables$Alarm") true := ⟨rfl, tyAct_ok 1 (by decide), ⟨tyAct, tyAct_ok⟩, nmAct⟩
set_option maxRecDepth 100000 in
theorem FCounter_39 : fdOk RCounter RCounter RCounter TCounter 12 39 3 9 2 6 := ⟨⟨by decide, by decide, rfl, by decide, rfl, by decide⟩, iwCounter, wT_in 496 (by decide +kernel) rfl, rfl⟩
set_option maxRecDepth 100000 in
theorem GCounter_lastAlarm : fdPut TCounter 12 9 (.object "AlarmTables$Alarm") false := ⟨rfl, tyCounter_ok 9 (by decide), ⟨tyCounter, tyCounter_ok⟩, nmCounter⟩
set_option maxRecDepth 100000 in
theorem FCounter_43 : fdOk RCounter RCounter RCounter TCounter 12 43 3 8 2 5 := ⟨⟨by decide, by decide, rfl, by decide, rfl, by decide⟩, iwCounter, wT_in 494 (by decide +kernel) rfl, rfl⟩
set_option maxRecDepth 100000 in
theorem GCounter_firstAlarm : fdPut TCounter 12 8 (.object "AlarmTables$Alarm") false := ⟨rfl, tyCounter_ok 8 (by decide), ⟨tyCounter, tyCounter_ok⟩, nmCounter⟩
set_option maxRecDepth 100000 in
theorem iwAlarm : ∀ w ∈ u_ws RAlarm TAlarm 7, w ∈ wT := by decide +kernel
set_option maxRecDepth 100000 in
theorem FCounter_46 : fdOk RCounter RAlarm RAlarm TAlarm 7 46 2 6 2 4 := ⟨⟨by decide, by decide, rfl, by decide, rfl, by decide⟩, iwAlarm, wT_in 146 (by decide +kernel) rfl, rfl⟩
set_option maxRecDepth 100000 in
theorem GAlarm_behind : fdPut TAlarm 7 6 (.object "AlarmTables$Alarm") false := ⟨rfl, tyAlarm_ok 6 (by decide), ⟨tyAlarm, tyAlarm_ok⟩, nmAlarm⟩
set_option maxRecDepth 100000 in
theorem FCounter_51 : fdOk RCounter RCounter RCounter TCounter 12 51 3 11 2 8 := ⟨⟨by decide, by decide, rfl, by decide, rfl, by decide⟩, iwCounter, wT_in 499 (by decide +kernel) rfl, rfl⟩
set_option maxRecDepth 100000 in
theorem GCounter_lastTable : fdPut TCounter 12 11 (.object "AlarmTables$Table") false := ⟨rfl, tyCounter_ok 11 (by decide), ⟨tyCounter, tyCounter_ok⟩, nmCounter⟩
set_option maxRecDepth 100000 in
theorem FCounter_55 : fdOk RCounter RCounter RCounter TCounter 12 55 3 10 2 7 := ⟨⟨by decide, by decide, rfl, by decide, rfl, by decide⟩, iwCounter, wT_in 497 (by decide +kernel) rfl, rfl⟩
set_option maxRecDepth 100000 in
theorem GCounter_firstTable : fdPut TCounter 12 10 (.object "AlarmTables$Table") false := ⟨rfl, tyCounter_ok 10 (by decide), ⟨tyCounter, tyCounter_ok⟩, nmCounter⟩
set_option maxRecDepth 100000 in
theorem iwTable : ∀ w ∈ u_ws RTable TTable 12, w ∈ wT := by decide +kernel
set_option maxRecDepth 100000 in
theorem FCounter_58 : fdOk RCounter RTable RTable TTable 12 58 7 11 2 17 := ⟨⟨by decide, by decide, rfl, by decide, rfl, by decide⟩, iwTable, wT_in 226 (by decide +kernel) rfl, rfl⟩
set_option maxRecDepth 100000 in
theorem GTable_behind : fdPut TTable 12 11 (.object "AlarmTables$Table") false := ⟨rfl, tyTable_ok 11 (by decide), ⟨tyTable, tyTable_ok⟩, nmTable⟩
set_option maxRecDepth 100000 in
theorem OAlarm_1 : Cond.methodLink RAlarm 1 objectInit ∈ wT ∧ Cond.instanceMethod objectInit ∈ wT ∧ Cond.code objectInit ⟨#[0xb1]⟩ 1 none ∈ wT := ⟨wT_in 135 (by decide +kernel) rfl, wT_in 45 (by decide +kernel) rfl, wT_in 46 rfl rfl⟩
set_option maxRecDepth 100000 in
theorem FAlarm_7 : fdOk RAlarm RAlarm RAlarm TAlarm 7 7 2 0 0 0 := ⟨⟨by decide, by decide, rfl, by decide, rfl, by decide⟩, iwAlarm, wT_in 136 (by decide +kernel) rfl, rfl⟩
set_option maxRecDepth 100000 in
theorem GAlarm_number : fdPut TAlarm 7 0 (.int) true := ⟨rfl, tyAlarm_ok 0 (by decide), ⟨tyAlarm, tyAlarm_ok⟩, nmAlarm⟩
set_option maxRecDepth 100000 in
theorem FAlarm_13 : fdOk RAlarm RAlarm RAlarm TAlarm 7 13 2 1 2 2 := ⟨⟨by decide, by decide, rfl, by decide, rfl, by decide⟩, iwAlarm, wT_in 138 (by decide +kernel) rfl, rfl⟩
set_option maxRecDepth 100000 in
theorem GAlarm_counter : fdPut TAlarm 7 1 (.object "AlarmTables$Counter") true := ⟨rfl, tyAlarm_ok 1 (by decide), ⟨tyAlarm, tyAlarm_ok⟩, nmAlarm⟩
set_option maxRecDepth 100000 in
theorem FAlarm_17 : fdOk RAlarm RAlarm RAlarm TAlarm 7 17 2 2 2 3 := ⟨⟨by decide, by decide, rfl, by decide, rfl, by decide⟩, iwAlarm, wT_in 140 (by decide +kernel) rfl, rfl⟩
set_option maxRecDepth 100000 in
theorem GAlarm_act : fdPut TAlarm 7 2 (.object "AlarmTables$Act") true := ⟨rfl, tyAlarm_ok 2 (by decide), ⟨tyAlarm, tyAlarm_ok⟩, nmAlarm⟩
set_option maxRecDepth 100000 in
theorem FAlarm_21 : fdOk RAlarm RCounter RCounter TCounter 12 21 3 5 1 6 := ⟨⟨by decide, by decide, rfl, by decide, rfl, by decide⟩, iwCounter, wT_in 487 (by decide +kernel) rfl, rfl⟩
set_option maxRecDepth 100000 in
theorem FAlarm_27 : fdOk RAlarm RAlarm RAlarm TAlarm 7 27 2 4 1 0 := ⟨⟨by decide, by decide, rfl, by decide, rfl, by decide⟩, iwAlarm, wT_in 143 (by decide +kernel) rfl, rfl⟩
set_option maxRecDepth 100000 in
theorem GAlarm_due : fdPut TAlarm 7 4 (.long) false := ⟨rfl, tyAlarm_ok 4 (by decide), ⟨tyAlarm, tyAlarm_ok⟩, nmAlarm⟩
set_option maxRecDepth 100000 in
theorem CAlarm_30 : cV RAlarm 30 RCounter yCounter_wakeAt cCounter_wakeAt 3 none 1 := ⟨⟨wT_in 184 (by decide +kernel) rfl, wT_in 185 (by decide +kernel) rfl, wT_in 186 (by decide +kernel) rfl, wT_in 32 (by decide +kernel) rfl⟩, wT_in 187 rfl rfl, by decide +kernel⟩
set_option maxRecDepth 100000 in
theorem OPoint_1 : Cond.methodLink RPoint 1 objectInit ∈ wT ∧ Cond.instanceMethod objectInit ∈ wT ∧ Cond.code objectInit ⟨#[0xb1]⟩ 1 none ∈ wT := ⟨wT_in 278 (by decide +kernel) rfl, wT_in 45 (by decide +kernel) rfl, wT_in 46 rfl rfl⟩
set_option maxRecDepth 100000 in
theorem iwPoint : ∀ w ∈ u_ws RPoint TPoint 3, w ∈ wT := by decide +kernel
set_option maxRecDepth 100000 in
theorem FPoint_7 : fdOk RPoint RPoint RPoint TPoint 3 7 6 0 1 8 := ⟨⟨by decide, by decide, rfl, by decide, rfl, by decide⟩, iwPoint, wT_in 279 (by decide +kernel) rfl, rfl⟩
set_option maxRecDepth 100000 in
theorem GPoint_offset : fdPut TPoint 3 0 (.long) true := ⟨rfl, tyPoint_ok 0 (by decide), ⟨tyPoint, tyPoint_ok⟩, nmPoint⟩
set_option maxRecDepth 100000 in
theorem FPoint_13 : fdOk RPoint RPoint RPoint TPoint 3 13 6 1 2 11 := ⟨⟨by decide, by decide, rfl, by decide, rfl, by decide⟩, iwPoint, wT_in 282 (by decide +kernel) rfl, rfl⟩
set_option maxRecDepth 100000 in
theorem GPoint_act : fdPut TPoint 3 1 (.object "AlarmTables$Act") true := ⟨rfl, tyPoint_ok 1 (by decide), ⟨tyPoint, tyPoint_ok⟩, nmPoint⟩
set_option maxRecDepth 100000 in
theorem OTable_3 : Cond.methodLink RTable 3 objectInit ∈ wT ∧ Cond.instanceMethod objectInit ∈ wT ∧ Cond.code objectInit ⟨#[0xb1]⟩ 1 none ∈ wT := ⟨wT_in 204 (by decide +kernel) rfl, wT_in 45 (by decide +kernel) rfl, wT_in 46 rfl rfl⟩
set_option maxRecDepth 100000 in
theorem FTable_9 : fdOk RTable RTable RTable TTable 12 9 7 0 0 6 := ⟨⟨by decide, by decide, rfl, by decide, rfl, by decide⟩, iwTable, wT_in 205 (by decide +kernel) rfl, rfl⟩
set_option maxRecDepth 100000 in
theorem GTable_number : fdPut TTable 12 0 (.int) true := ⟨rfl, tyTable_ok 0 (by decide), ⟨tyTable, tyTable_ok⟩, nmTable⟩
set_option maxRecDepth 100000 in
theorem FTable_15 : fdOk RTable RTable RTable TTable 12 15 7 1 2 13 := ⟨⟨by decide, by decide, rfl, by decide, rfl, by decide⟩, iwTable, wT_in 207 (by decide +kernel) rfl, rfl⟩
set_option maxRecDepth 100000 in
theorem GTable_counter : fdPut TTable 12 1 (.object "AlarmTables$Counter") true := ⟨rfl, tyTable_ok 1 (by decide), ⟨tyTable, tyTable_ok⟩, nmTable⟩
set_option maxRecDepth 100000 in
theorem FTable_19 : fdOk RTable RTable RTable TTable 12 19 7 2 1 9 := ⟨⟨by decide, by decide, rfl, by decide, rfl, by decide⟩, iwTable, wT_in 209 (by decide +kernel) rfl, rfl⟩
set_option maxRecDepth 100000 in
theorem GTable_length : fdPut TTable 12 2 (.long) true := ⟨rfl, tyTable_ok 2 (by decide), ⟨tyTable, tyTable_ok⟩, nmTable⟩
set_option maxRecDepth 100000 in
theorem FTable_42 : fdOk RTable RTable RTable TTable 12 42 7 5 0 8 := ⟨⟨by decide, by decide, rfl, by decide, rfl, by decide⟩, iwTable, wT_in 215 (by decide +kernel) rfl, rfl⟩
set_option maxRecDepth 100000 in
theorem GTable_runs : fdPut TTable 12 5 (.boolean) false := ⟨rfl, tyTable_ok 5 (by decide), ⟨tyTable, tyTable_ok⟩, nmTable⟩
set_option maxRecDepth 100000 in
theorem FTable_46 : fdOk RTable RTable RTable TTable 12 46 7 6 0 9 := ⟨⟨by decide, by decide, rfl, by decide, rfl, by decide⟩, iwTable, wT_in 217 (by decide +kernel) rfl, rfl⟩
set_option maxRecDepth 100000 in
theorem GTable_begun : fdPut TTable 12 6 (.boolean) false := ⟨rfl, tyTable_ok 6 (by decide), ⟨tyTable, tyTable_ok⟩, nmTable⟩
set_option maxRecDepth 100000 in
theorem FTable_49 : fdOk RTable RTable RTable TTable 12 49 7 7 1 10 := ⟨⟨by decide, by decide, rfl, by decide, rfl, by decide⟩, iwTable, wT_in 219 (by decide +kernel) rfl, rfl⟩
set_option maxRecDepth 100000 in
theorem GTable_due : fdPut TTable 12 7 (.long) false := ⟨rfl, tyTable_ok 7 (by decide), ⟨tyTable, tyTable_ok⟩, nmTable⟩
set_option maxRecDepth 100000 in
theorem FTable_52 : fdOk RTable RTable RTable TTable 12 52 7 8 2 15 := ⟨⟨by decide, by decide, rfl, by decide, rfl, by decide⟩, iwTable, wT_in 221 (by decide +kernel) rfl, rfl⟩
set_option maxRecDepth 100000 in
theorem GTable_coming : fdPut TTable 12 8 (.object "AlarmTables$Point") false := ⟨rfl, tyTable_ok 8 (by decide), ⟨tyTable, tyTable_ok⟩, nmTable⟩
set_option maxRecDepth 100000 in
theorem FTable_55 : fdOk RTable RCounter RCounter TCounter 12 55 3 5 1 6 := ⟨⟨by decide, by decide, rfl, by decide, rfl, by decide⟩, iwCounter, wT_in 489 (by decide +kernel) rfl, rfl⟩
set_option maxRecDepth 100000 in
theorem FTable_60 : fdOk RTable RTable RTable TTable 12 60 7 9 1 11 := ⟨⟨by decide, by decide, rfl, by decide, rfl, by decide⟩, iwTable, wT_in 223 (by decide +kernel) rfl, rfl⟩
set_option maxRecDepth 100000 in
theorem GTable_drift : fdPut TTable 12 9 (.long) false := ⟨rfl, tyTable_ok 9 (by decide), ⟨tyTable, tyTable_ok⟩, nmTable⟩
set_option maxRecDepth 100000 in
theorem QTable_63 : Cond.constantLong RTable 63 2 ∈ wT := wT_in 370 (by decide +kernel) rfl
set_option maxRecDepth 100000 in
theorem MTable_65 : Cond.methodLink RTable 65 Lib.MathLoose.min_long.x ∈ wT ∧ Cond.static Lib.MathLoose.min_long.x ∈ wT ∧ Cond.initialized "java/lang/Math" ∈ wT ∧ Cond.code Lib.MathLoose.min_long.x Lib.MathLoose.min_long.code 4 (some .long) ∈ wT := ⟨wT_in 371 (by decide +kernel) rfl, wT_in 189 (by decide +kernel) rfl, wT_in 35 (by decide +kernel) rfl, wT_in 190 rfl rfl⟩
set_option maxRecDepth 100000 in
theorem QTable_71 : Cond.constantLong RTable 71 (-2) ∈ wT := wT_in 372 (by decide +kernel) rfl
set_option maxRecDepth 100000 in
theorem MTable_73 : Cond.methodLink RTable 73 Lib.MathLoose.max_long.x ∈ wT ∧ Cond.static Lib.MathLoose.max_long.x ∈ wT ∧ Cond.initialized "java/lang/Math" ∈ wT ∧ Cond.code Lib.MathLoose.max_long.x Lib.MathLoose.max_long.code 4 (some .long) ∈ wT := ⟨wT_in 373 (by decide +kernel) rfl, wT_in 374 (by decide +kernel) rfl, wT_in 35 (by decide +kernel) rfl, wT_in 375 rfl rfl⟩
set_option maxRecDepth 100000 in
theorem CTable_76 : cV RTable 76 RCounter yCounter_wakeAt cCounter_wakeAt 3 none 1 := ⟨⟨wT_in 376 (by decide +kernel) rfl, wT_in 185 (by decide +kernel) rfl, wT_in 186 (by decide +kernel) rfl, wT_in 32 (by decide +kernel) rfl⟩, wT_in 187 rfl rfl, by decide +kernel⟩
set_option maxRecDepth 100000 in
theorem FTable_27 : fdOk RTable RPoint RPoint TPoint 3 27 6 0 1 8 := ⟨⟨by decide, by decide, rfl, by decide, rfl, by decide⟩, iwPoint, wT_in 280 (by decide +kernel) rfl, rfl⟩
set_option maxRecDepth 100000 in
theorem FTable_32 : fdOk RTable RPoint RPoint TPoint 3 32 6 2 2 12 := ⟨⟨by decide, by decide, rfl, by decide, rfl, by decide⟩, iwPoint, wT_in 284 (by decide +kernel) rfl, rfl⟩
set_option maxRecDepth 100000 in
theorem GPoint_behind : fdPut TPoint 3 2 (.object "AlarmTables$Point") false := ⟨rfl, tyPoint_ok 2 (by decide), ⟨tyPoint, tyPoint_ok⟩, nmPoint⟩
set_option maxRecDepth 100000 in
theorem FTable_23 : fdOk RTable RTable RTable TTable 12 23 7 3 2 14 := ⟨⟨by decide, by decide, rfl, by decide, rfl, by decide⟩, iwTable, wT_in 211 (by decide +kernel) rfl, rfl⟩
set_option maxRecDepth 100000 in
theorem GTable_firstPoint : fdPut TTable 12 3 (.object "AlarmTables$Point") false := ⟨rfl, tyTable_ok 3 (by decide), ⟨tyTable, tyTable_ok⟩, nmTable⟩
end
section
def Counter_init_S (S : HS) (t : Nat) (n : Int32) (b : Int64) (k : Int64) : HS :=
  (sfl (sfl (sfi (sfl S 7 t (9223372036854775807 : Int64)) 2 t ((1 : Int32) <<< ((n - (1 : Int32)) &&& 31))) 2 t b) 3 t k)
set_option maxRecDepth 20000 in
set_option maxHeartbeats 2000000 in
theorem c_Counter_init (l : Launch) (D : va_G) (AC : Nat → ClassId) (S : HS) (t : Nat) (n : Int32) (b : Int64) (k : Int64)  (k_t : kd S t = 3) : CtV l yCounter_init (Cond.code yCounter_init cCounter_init 6 none :: wT) 1 12 D AC S [.ref t, .int n, .long b, .long k] 0 0 (fun S' => S' = Counter_init_S S t n b k) := by
  refine met_of (by decide) (Nat.le_of_ble_eq_true rfl) ?_
  intro p e s m below meth c ls hsz X hW hl
  obtain ⟨hx, hb, hml, hr, hlk, hown, hnm, hts⟩ := X
  have hl : lv_has ls 6 [(0, .ref t), (1, .int n), (2, .long b), (4, .long k)] := hl
  have mo : mono S S := mono.rf S
  refine lv_aload_n hx hb dCounter_init_0 rfl (lv_at hl 0 rfl) ?_
  refine o_init OCounter_3 hx hb hown hts hml hl.1 dCounter_init_1 (Nat.le_of_ble_eq_true rfl) (Nat.le_of_ble_eq_true rfl) ?_
  refine lv_aload_n hx hb dCounter_init_4 rfl (lv_at hl 0 rfl) ?_
  refine lv_ldc2 (v := (9223372036854775807 : Int64)) hx hb hown (hts _ QCounter_9) dCounter_init_5 ?_
  refine p_l FCounter_11 GCounter_wake (fun h => by cases h) hx hb hts hown hW k_t dCounter_init_8 (fun H locs hW => ?_)
  have mo := mo.tr (mono_sfl (k := 7) (a := t) (v := (9223372036854775807 : Int64)))
  refine lv_aload_n hx hb dCounter_init_11 rfl (lv_at hl 0 rfl) ?_
  refine lv_iconst (v := (1 : Int32)) hx hb dCounter_init_12 (by decide) ?_
  refine lv_iload_n hx hb dCounter_init_13 rfl (lv_at hl 1 rfl) ?_
  refine lv_iconst (v := (1 : Int32)) hx hb dCounter_init_14 (by decide) ?_
  refine lv_isub hx hb dCounter_init_15 ?_
  refine lv_ishl hx hb dCounter_init_16 ?_
  refine p_i FCounter_17 GCounter_bit (fun _ => ⟨hnm, rfl⟩) hx hb hts hown hW k_t rfl rfl dCounter_init_17 (fun H locs hW => ?_)
  have mo := mo.tr (mono_sfi (k := 2) (a := t) (v := ((1 : Int32) <<< ((n - (1 : Int32)) &&& 31))))
  refine lv_aload_n hx hb dCounter_init_20 rfl (lv_at hl 0 rfl) ?_
  refine lv_lload_n hx hb dCounter_init_21 rfl (lv_at hl 2 rfl) ?_
  refine p_l FCounter_21 GCounter_base (fun _ => ⟨hnm, rfl⟩) hx hb hts hown hW k_t dCounter_init_22 (fun H locs hW => ?_)
  have mo := mo.tr (mono_sfl (k := 2) (a := t) (v := b))
  refine lv_aload_n hx hb dCounter_init_25 rfl (lv_at hl 0 rfl) ?_
  refine lv_lload hx hb dCounter_init_26 (lv_at hl 3 rfl) ?_
  refine p_l FCounter_24 GCounter_ticksAStep (fun _ => ⟨hnm, rfl⟩) hx hb hts hown hW k_t dCounter_init_28 (fun H locs hW => ?_)
  have mo := mo.tr (mono_sfl (k := 3) (a := t) (v := k))
  exact e_v hsz hx hb hr hlk hW (mo) (Nat.le_of_ble_eq_true rfl) (Nat.le_of_ble_eq_true rfl) dCounter_init_31 (rfl)

def wakeAt_S (S : HS) (t : Nat) (d : Int64) : HS :=
  (sfl S 7 t (if d < (fl S 7 t) then d else (fl S 7 t)))
set_option maxRecDepth 20000 in
set_option maxHeartbeats 2000000 in
theorem c_wakeAt (l : Launch) (D : va_G) (AC : Nat → ClassId) (S : HS) (t : Nat) (d : Int64)  (k_t : kd S t = 3) : CtV l yCounter_wakeAt (Cond.code yCounter_wakeAt cCounter_wakeAt 3 none :: wT) 1 24 D AC S [.ref t, .long d] 0 0 (fun S' => S' = wakeAt_S S t d) := by
  refine met_of (by decide) (Nat.le_of_ble_eq_true rfl) ?_
  intro p e s m below meth c ls hsz X hW hl
  obtain ⟨hx, hb, hml, hr, hlk, hown, hnm, hts⟩ := X
  have hl : lv_has ls 3 [(0, .ref t), (1, .long d)] := hl
  have mo : mono S S := mono.rf S
  refine lv_aload_n hx hb dCounter_wakeAt_0 rfl (lv_at hl 0 rfl) ?_
  refine lv_aload_n hx hb dCounter_wakeAt_1 rfl (lv_at hl 0 rfl) ?_
  refine g_l FCounter_11 hx hb hts hown hW k_t dCounter_wakeAt_2 ?_
  refine lv_lload_n hx hb dCounter_wakeAt_5 rfl (lv_at hl 1 rfl) ?_
  refine va_mmin_long hx hb (by rw [hml]; exact hl.1.symm) hown (hts _ MCounter_27.1) (hts _ MCounter_27.2.1) (hts _ MCounter_27.2.2.1) (hts _ MCounter_27.2.2.2) (Nat.le_of_ble_eq_true rfl) (Nat.le_of_ble_eq_true rfl) (Nat.le_of_ble_eq_true rfl) (Nat.le_of_ble_eq_true rfl) dCounter_wakeAt_6 ?_
  refine p_l FCounter_11 GCounter_wake (fun h => by cases h) hx hb hts hown hW k_t dCounter_wakeAt_9 (fun H locs hW => ?_)
  have mo := mo.tr (mono_sfl (k := 7) (a := t) (v := (if d < (fl S 7 t) then d else (fl S 7 t))))
  exact e_v hsz hx hb hr hlk hW (mo) (Nat.le_of_ble_eq_true rfl) (Nat.le_of_ble_eq_true rfl) dCounter_wakeAt_12 (rfl)

theorem nn_wakeAt {S : HS} {t : Nat} {d : Int64} (h : nn S) : nn (wakeAt_S S t d) := h

def advance_S (S : HS) (t : Nat) : HS :=
  if ((fl S 5 t) + (1 : Int64)) < (fl S 2 t) then
    (sfl (sfl S 6 t ((fl S 6 t) + (1 : Int64))) 5 t ((fl S 5 t) + (1 : Int64)))
  else
    (sfl (sfl (sfl S 6 t ((fl S 6 t) + (1 : Int64))) 5 t ((fl S 5 t) + (1 : Int64))) 5 t (0 : Int64))
set_option maxRecDepth 20000 in
set_option maxHeartbeats 2000000 in
theorem c_advance (l : Launch) (D : va_G) (AC : Nat → ClassId) (S : HS) (t : Nat)  (k_t : kd S t = 3) : CtV l yCounter_advance (Cond.code yCounter_advance cCounter_advance 1 none :: wT) 0 0 D AC S [.ref t] 0 0 (fun S' => S' = advance_S S t) := by
  refine met_of (by decide) (Nat.le_of_ble_eq_true rfl) ?_
  intro p e s m below meth c ls hsz X hW hl
  obtain ⟨hx, hb, hml, hr, hlk, hown, hnm, hts⟩ := X
  have hl : lv_has ls 1 [(0, .ref t)] := hl
  have mo : mono S S := mono.rf S
  refine lv_aload_n hx hb dCounter_advance_0 rfl (lv_at hl 0 rfl) ?_
  refine lv_dup hx hb dCounter_advance_1 rfl ?_
  refine g_l FCounter_33 hx hb hts hown hW k_t dCounter_advance_2 ?_
  refine lv_lconst (v := (1 : Int64)) hx hb dCounter_advance_5 (by decide) ?_
  refine lv_ladd hx hb dCounter_advance_6 ?_
  refine p_l FCounter_33 GCounter_steps (fun h => by cases h) hx hb hts hown hW k_t dCounter_advance_7 (fun H locs hW => ?_)
  have mo := mo.tr (mono_sfl (k := 6) (a := t) (v := ((fl S 6 t) + (1 : Int64))))
  refine lv_aload_n hx hb dCounter_advance_10 rfl (lv_at hl 0 rfl) ?_
  refine lv_dup hx hb dCounter_advance_11 rfl ?_
  refine g_l FCounter_36 hx hb hts hown hW k_t dCounter_advance_12 ?_
  rw [show fl (sfl S 6 t ((fl S 6 t) + (1 : Int64))) 5 t = fl S 5 t from rfl]
  refine lv_lconst (v := (1 : Int64)) hx hb dCounter_advance_15 (by decide) ?_
  refine lv_ladd hx hb dCounter_advance_16 ?_
  refine p_l FCounter_36 GCounter_value (fun h => by cases h) hx hb hts hown hW k_t dCounter_advance_17 (fun H locs hW => ?_)
  have mo := mo.tr (mono_sfl (k := 5) (a := t) (v := ((fl S 5 t) + (1 : Int64))))
  refine lv_aload_n hx hb dCounter_advance_20 rfl (lv_at hl 0 rfl) ?_
  refine g_l FCounter_36 hx hb hts hown hW k_t dCounter_advance_21 ?_
  rw [show fl (sfl (sfl S 6 t ((fl S 6 t) + (1 : Int64))) 5 t ((fl S 5 t) + (1 : Int64))) 5 t = ((fl S 5 t) + (1 : Int64)) from up2_self _ _ _ _]
  refine lv_aload_n hx hb dCounter_advance_24 rfl (lv_at hl 0 rfl) ?_
  refine g_l FCounter_21 hx hb hts hown hW k_t dCounter_advance_25 ?_
  rw [show fl (sfl (sfl S 6 t ((fl S 6 t) + (1 : Int64))) 5 t ((fl S 5 t) + (1 : Int64))) 2 t = fl S 2 t from rfl]
  refine ll_lt (tgt := 37) hx hb dCounter_advance_28 dCounter_advance_29 (by decide) (fun c_1 => ?_) (fun c_1 => ?_)
  · exact e_v hsz hx hb hr hlk hW (mo) (Nat.le_of_ble_eq_true rfl) (Nat.le_of_ble_eq_true rfl) dCounter_advance_37 ((by refine Eq.symm ?_; refine (if_pos c_1).trans ?_; rfl))
  · refine lv_aload_n hx hb dCounter_advance_32 rfl (lv_at hl 0 rfl) ?_
    refine lv_lconst (v := (0 : Int64)) hx hb dCounter_advance_33 (by decide) ?_
    refine p_l FCounter_36 GCounter_value (fun h => by cases h) hx hb hts hown hW k_t dCounter_advance_34 (fun H locs hW => ?_)
    have mo := mo.tr (mono_sfl (k := 5) (a := t) (v := (0 : Int64)))
    exact e_v hsz hx hb hr hlk hW (mo) (Nat.le_of_ble_eq_true rfl) (Nat.le_of_ble_eq_true rfl) dCounter_advance_37 ((by refine Eq.symm ?_; refine (if_neg c_1).trans ?_; rfl))

theorem nn_advance {S : HS} {t : Nat} (h : nn S) : nn (advance_S S t) := by
  unfold advance_S
  split <;> exact h

def stepsUntil_R (S : HS) (t : Nat) (at_ : Int64) : Int64 :=
  if (0 : Int64) < (at_ - (fl S 5 t)) then
    (at_ - (fl S 5 t))
  else
    ((at_ - (fl S 5 t)) + (fl S 2 t))
set_option maxRecDepth 20000 in
set_option maxHeartbeats 2000000 in
theorem c_stepsUntil (l : Launch) (D : va_G) (AC : Nat → ClassId) (S : HS) (t : Nat) (at_ : Int64)  (k_t : kd S t = 3) : CtL l yCounter_stepsUntil (Cond.code yCounter_stepsUntil cCounter_stepsUntil 5 (some .long) :: wT) 0 0 D AC S [.ref t, .long at_] 0 0 (fun r S' => r = stepsUntil_R S t at_ ∧ S' = S) := by
  refine met_of (by decide) (Nat.le_of_ble_eq_true rfl) ?_
  intro p e s m below meth c ls hsz X hW hl
  obtain ⟨hx, hb, hml, hr, hlk, hown, hnm, hts⟩ := X
  have hl : lv_has ls 5 [(0, .ref t), (1, .long at_)] := hl
  have mo : mono S S := mono.rf S
  refine lv_lload_n hx hb dCounter_stepsUntil_0 rfl (lv_at hl 1 rfl) ?_
  refine lv_aload_n hx hb dCounter_stepsUntil_1 rfl (lv_at hl 0 rfl) ?_
  refine g_l FCounter_36 hx hb hts hown hW k_t dCounter_stepsUntil_2 ?_
  refine lv_lsub hx hb dCounter_stepsUntil_5 ?_
  refine lv_lstore_n (i := 3) (lv' := [(3, .long (at_ - (fl S 5 t))), (0, .ref t), (1, .long at_)]) hx hb dCounter_stepsUntil_6 rfl hl (by decide) rfl (fun ls hl => ?_)
  refine lv_lload_n hx hb dCounter_stepsUntil_7 rfl (lv_at hl 0 rfl) ?_
  refine lv_lconst (v := (0 : Int64)) hx hb dCounter_stepsUntil_8 (by decide) ?_
  refine ll_le (tgt := 17) hx hb dCounter_stepsUntil_9 dCounter_stepsUntil_10 (by decide) (fun c_1 => ?_) (fun c_1 => ?_)
  · refine lv_lload_n hx hb dCounter_stepsUntil_17 rfl (lv_at hl 0 rfl) ?_
    refine lv_aload_n hx hb dCounter_stepsUntil_18 rfl (lv_at hl 1 rfl) ?_
    refine g_l FCounter_21 hx hb hts hown hW k_t dCounter_stepsUntil_19 ?_
    refine lv_ladd hx hb dCounter_stepsUntil_22 ?_
    exact e_l hsz hx hb hr hlk hW (mono.rf S) (Nat.le_of_ble_eq_true rfl) (Nat.le_of_ble_eq_true rfl) dCounter_stepsUntil_23 ⟨(by refine Eq.symm ?_; refine (if_neg c_1).trans ?_; rfl), rfl⟩
  · refine lv_lload_n hx hb dCounter_stepsUntil_13 rfl (lv_at hl 0 rfl) ?_
    refine lv_goto (tgt := 23) hx hb dCounter_stepsUntil_14 (by decide) ?_
    exact e_l hsz hx hb hr hlk hW (mono.rf S) (Nat.le_of_ble_eq_true rfl) (Nat.le_of_ble_eq_true rfl) dCounter_stepsUntil_23 ⟨(by refine Eq.symm ?_; refine (if_pos c_1).trans ?_; rfl), rfl⟩

def Act_init_S (S : HS) (t : Nat) (c0 : Option Nat) (a0 : Option Nat) : HS :=
  (sfr (sfr S 0 t c0) 1 t a0)
set_option maxRecDepth 20000 in
set_option maxHeartbeats 2000000 in
theorem c_Act_init (l : Launch) (D : va_G) (AC : Nat → ClassId) (S : HS) (t : Nat) (c0 : Option Nat) (a0 : Option Nat)  (k_t : kd S t = 1) (kq_c0 : ∀ b, c0 = some b → kd S b = 3) (kq_a0 : ∀ b, a0 = some b → kd S b = 2) : CtV l yAct_init (Cond.code yAct_init cAct_init 3 none :: wT) 1 12 D AC S [.ref t, va_rf c0, va_rf a0] 0 0 (fun S' => S' = Act_init_S S t c0 a0) := by
  refine met_of (by decide) (by simp [lg_sl, q_cat, cat_r, cat_i, cat_l]) ?_
  intro p e s m below meth c ls hsz X hW hl
  obtain ⟨hx, hb, hml, hr, hlk, hown, hnm, hts⟩ := X
  have hl : lv_has ls 3 [(0, .ref t), (1, va_rf c0), (2, va_rf a0)] := by simpa [lv_args, q_cat, cat_r, cat_i, cat_l] using hl
  have mo : mono S S := mono.rf S
  refine lv_aload_n hx hb dAct_init_0 rfl (lv_at hl 0 rfl) ?_
  refine o_init OAct_1 hx hb hown hts hml hl.1 dAct_init_1 (Nat.le_of_ble_eq_true rfl) (Nat.le_of_ble_eq_true rfl) ?_
  refine lv_aload_n hx hb dAct_init_4 rfl (lv_at hl 0 rfl) ?_
  refine q_aload_n hx hb dAct_init_5 rfl (lv_at hl 1 rfl) ?_
  refine p_q FAct_7 GAct_stepped ⟨fun _ => rfl, fun _ => rfl, rfl, rfl⟩ (fun _ => ⟨hnm, rfl⟩) hx hb hts hown hW k_t kq_c0 dAct_init_6 (fun H locs hW => ?_)
  have mo := mo.tr (mono_sfr (k := 0) (a := t) (v := c0))
  refine lv_aload_n hx hb dAct_init_9 rfl (lv_at hl 0 rfl) ?_
  refine q_aload_n hx hb dAct_init_10 rfl (lv_at hl 2 rfl) ?_
  refine p_q FAct_13 GAct_cancelled ⟨fun _ => rfl, fun _ => rfl, rfl, rfl⟩ (fun _ => ⟨hnm, rfl⟩) hx hb hts hown hW k_t kq_a0 dAct_init_11 (fun H locs hW => ?_)
  have mo := mo.tr (mono_sfr (k := 1) (a := t) (v := a0))
  exact e_v hsz hx hb hr hlk hW (mo) (Nat.le_of_ble_eq_true rfl) (Nat.le_of_ble_eq_true rfl) dAct_init_14 (rfl)

def appendAlarm_S (S : HS) (t : Nat) (a : Nat) : HS :=
  opc (fr S 6 t) ((sfr (sfr S 5 t (some a)) 6 t (some a)))
  (fun b_2 => (sfr (sfr S 4 b_2 (some a)) 6 t (some a)))
set_option maxRecDepth 20000 in
set_option maxHeartbeats 2000000 in
theorem c_appendAlarm (l : Launch) (D : va_G) (AC : Nat → ClassId) (S : HS) (t : Nat) (a : Nat)  (k_t : kd S t = 3) (k_a : kd S a = 2) : CtV l yCounter_appendAlarm (Cond.code yCounter_appendAlarm cCounter_appendAlarm 2 none :: wT) 0 0 D AC S [.ref t, .ref a] 0 0 (fun S' => S' = appendAlarm_S S t a) := by
  refine met_of (by decide) (Nat.le_of_ble_eq_true rfl) ?_
  intro p e s m below meth c ls hsz X hW hl
  obtain ⟨hx, hb, hml, hr, hlk, hown, hnm, hts⟩ := X
  have hl : lv_has ls 2 [(0, .ref t), (1, .ref a)] := hl
  have mo : mono S S := mono.rf S
  refine lv_aload_n hx hb dCounter_appendAlarm_0 rfl (lv_at hl 0 rfl) ?_
  have kq_1 : ∀ b, fr S 6 t = some b → kd S b = 2 := fun b h => hW.ok.2.1 6 t b k_t h
  refine g_q FCounter_39 hx hb hts hown hW k_t dCounter_appendAlarm_1 ?_
  refine q_ifnonnull (tgt := 15) hx hb dCounter_appendAlarm_4 (by decide) (fun n_2 => ?_) (fun b_2 n_2 => ?_)
  · refine lv_aload_n hx hb dCounter_appendAlarm_7 rfl (lv_at hl 0 rfl) ?_
    refine lv_aload_n hx hb dCounter_appendAlarm_8 rfl (lv_at hl 1 rfl) ?_
    refine p_r FCounter_43 GCounter_firstAlarm ⟨rfl, rfl⟩ (fun h => by cases h) hx hb hts hown hW k_t k_a dCounter_appendAlarm_9 (fun H locs hW => ?_)
    have mo := mo.tr (mono_sfr (k := 5) (a := t) (v := (some a)))
    refine lv_goto (tgt := 23) hx hb dCounter_appendAlarm_12 (by decide) ?_
    refine lv_aload_n hx hb dCounter_appendAlarm_23 rfl (lv_at hl 0 rfl) ?_
    refine lv_aload_n hx hb dCounter_appendAlarm_24 rfl (lv_at hl 1 rfl) ?_
    refine p_r FCounter_39 GCounter_lastAlarm ⟨rfl, rfl⟩ (fun h => by cases h) hx hb hts hown hW k_t k_a dCounter_appendAlarm_25 (fun H locs hW => ?_)
    have mo := mo.tr (mono_sfr (k := 6) (a := t) (v := (some a)))
    exact e_v hsz hx hb hr hlk hW (mo) (Nat.le_of_ble_eq_true rfl) (Nat.le_of_ble_eq_true rfl) dCounter_appendAlarm_28 ((by refine Eq.symm ?_; refine (op_none n_2).trans ?_; rfl))
  · have k_b_2 : kd S b_2 = 2 := kq_1 b_2 n_2
    refine lv_aload_n hx hb dCounter_appendAlarm_15 rfl (lv_at hl 0 rfl) ?_
    refine g_q FCounter_39 hx hb hts hown hW k_t dCounter_appendAlarm_16 ?_
    refine lv_aload_n hx hb dCounter_appendAlarm_19 rfl (lv_at hl 1 rfl) ?_
    refine q_some1 n_2 ?_
    refine p_r FCounter_46 GAlarm_behind ⟨rfl, rfl⟩ (fun h => by cases h) hx hb hts hown hW k_b_2 k_a dCounter_appendAlarm_20 (fun H locs hW => ?_)
    have mo := mo.tr (mono_sfr (k := 4) (a := b_2) (v := (some a)))
    refine lv_aload_n hx hb dCounter_appendAlarm_23 rfl (lv_at hl 0 rfl) ?_
    refine lv_aload_n hx hb dCounter_appendAlarm_24 rfl (lv_at hl 1 rfl) ?_
    refine p_r FCounter_39 GCounter_lastAlarm ⟨rfl, rfl⟩ (fun h => by cases h) hx hb hts hown hW k_t k_a dCounter_appendAlarm_25 (fun H locs hW => ?_)
    have mo := mo.tr (mono_sfr (k := 6) (a := t) (v := (some a)))
    exact e_v hsz hx hb hr hlk hW (mo) (Nat.le_of_ble_eq_true rfl) (Nat.le_of_ble_eq_true rfl) dCounter_appendAlarm_28 ((by refine Eq.symm ?_; refine (op_some n_2).trans ?_; rfl))

def appendTable_S (S : HS) (t : Nat) (a : Nat) : HS :=
  opc (fr S 8 t) ((sfr (sfr S 7 t (some a)) 8 t (some a)))
  (fun b_2 => (sfr (sfr S 17 b_2 (some a)) 8 t (some a)))
set_option maxRecDepth 20000 in
set_option maxHeartbeats 2000000 in
theorem c_appendTable (l : Launch) (D : va_G) (AC : Nat → ClassId) (S : HS) (t : Nat) (a : Nat)  (k_t : kd S t = 3) (k_a : kd S a = 7) : CtV l yCounter_appendTable (Cond.code yCounter_appendTable cCounter_appendTable 2 none :: wT) 0 0 D AC S [.ref t, .ref a] 0 0 (fun S' => S' = appendTable_S S t a) := by
  refine met_of (by decide) (Nat.le_of_ble_eq_true rfl) ?_
  intro p e s m below meth c ls hsz X hW hl
  obtain ⟨hx, hb, hml, hr, hlk, hown, hnm, hts⟩ := X
  have hl : lv_has ls 2 [(0, .ref t), (1, .ref a)] := hl
  have mo : mono S S := mono.rf S
  refine lv_aload_n hx hb dCounter_appendTable_0 rfl (lv_at hl 0 rfl) ?_
  have kq_1 : ∀ b, fr S 8 t = some b → kd S b = 7 := fun b h => hW.ok.2.1 8 t b k_t h
  refine g_q FCounter_51 hx hb hts hown hW k_t dCounter_appendTable_1 ?_
  refine q_ifnonnull (tgt := 15) hx hb dCounter_appendTable_4 (by decide) (fun n_2 => ?_) (fun b_2 n_2 => ?_)
  · refine lv_aload_n hx hb dCounter_appendTable_7 rfl (lv_at hl 0 rfl) ?_
    refine lv_aload_n hx hb dCounter_appendTable_8 rfl (lv_at hl 1 rfl) ?_
    refine p_r FCounter_55 GCounter_firstTable ⟨rfl, rfl⟩ (fun h => by cases h) hx hb hts hown hW k_t k_a dCounter_appendTable_9 (fun H locs hW => ?_)
    have mo := mo.tr (mono_sfr (k := 7) (a := t) (v := (some a)))
    refine lv_goto (tgt := 23) hx hb dCounter_appendTable_12 (by decide) ?_
    refine lv_aload_n hx hb dCounter_appendTable_23 rfl (lv_at hl 0 rfl) ?_
    refine lv_aload_n hx hb dCounter_appendTable_24 rfl (lv_at hl 1 rfl) ?_
    refine p_r FCounter_51 GCounter_lastTable ⟨rfl, rfl⟩ (fun h => by cases h) hx hb hts hown hW k_t k_a dCounter_appendTable_25 (fun H locs hW => ?_)
    have mo := mo.tr (mono_sfr (k := 8) (a := t) (v := (some a)))
    exact e_v hsz hx hb hr hlk hW (mo) (Nat.le_of_ble_eq_true rfl) (Nat.le_of_ble_eq_true rfl) dCounter_appendTable_28 ((by refine Eq.symm ?_; refine (op_none n_2).trans ?_; rfl))
  · have k_b_2 : kd S b_2 = 7 := kq_1 b_2 n_2
    refine lv_aload_n hx hb dCounter_appendTable_15 rfl (lv_at hl 0 rfl) ?_
    refine g_q FCounter_51 hx hb hts hown hW k_t dCounter_appendTable_16 ?_
    refine lv_aload_n hx hb dCounter_appendTable_19 rfl (lv_at hl 1 rfl) ?_
    refine q_some1 n_2 ?_
    refine p_r FCounter_58 GTable_behind ⟨rfl, rfl⟩ (fun h => by cases h) hx hb hts hown hW k_b_2 k_a dCounter_appendTable_20 (fun H locs hW => ?_)
    have mo := mo.tr (mono_sfr (k := 17) (a := b_2) (v := (some a)))
    refine lv_aload_n hx hb dCounter_appendTable_23 rfl (lv_at hl 0 rfl) ?_
    refine lv_aload_n hx hb dCounter_appendTable_24 rfl (lv_at hl 1 rfl) ?_
    refine p_r FCounter_51 GCounter_lastTable ⟨rfl, rfl⟩ (fun h => by cases h) hx hb hts hown hW k_t k_a dCounter_appendTable_25 (fun H locs hW => ?_)
    have mo := mo.tr (mono_sfr (k := 8) (a := t) (v := (some a)))
    exact e_v hsz hx hb hr hlk hW (mo) (Nat.le_of_ble_eq_true rfl) (Nat.le_of_ble_eq_true rfl) dCounter_appendTable_28 ((by refine Eq.symm ?_; refine (op_some n_2).trans ?_; rfl))

def Alarm_init_S (S : HS) (t : Nat) (n : Int32) (c0 : Nat) (x : Nat) : HS :=
  (sfr (sfr (sfi S 0 t n) 2 t (some c0)) 3 t (some x))
set_option maxRecDepth 20000 in
set_option maxHeartbeats 2000000 in
theorem c_Alarm_init (l : Launch) (D : va_G) (AC : Nat → ClassId) (S : HS) (t : Nat) (n : Int32) (c0 : Nat) (x : Nat)  (k_t : kd S t = 2) (k_c0 : kd S c0 = 3) (k_x : kd S x = 1) : CtV l yAlarm_init (Cond.code yAlarm_init cAlarm_init 4 none :: wT) 1 12 D AC S [.ref t, .int n, .ref c0, .ref x] 0 0 (fun S' => S' = Alarm_init_S S t n c0 x) := by
  refine met_of (by decide) (Nat.le_of_ble_eq_true rfl) ?_
  intro p e s m below meth c ls hsz X hW hl
  obtain ⟨hx, hb, hml, hr, hlk, hown, hnm, hts⟩ := X
  have hl : lv_has ls 4 [(0, .ref t), (1, .int n), (2, .ref c0), (3, .ref x)] := hl
  have mo : mono S S := mono.rf S
  refine lv_aload_n hx hb dAlarm_init_0 rfl (lv_at hl 0 rfl) ?_
  refine o_init OAlarm_1 hx hb hown hts hml hl.1 dAlarm_init_1 (Nat.le_of_ble_eq_true rfl) (Nat.le_of_ble_eq_true rfl) ?_
  refine lv_aload_n hx hb dAlarm_init_4 rfl (lv_at hl 0 rfl) ?_
  refine lv_iload_n hx hb dAlarm_init_5 rfl (lv_at hl 1 rfl) ?_
  refine p_i FAlarm_7 GAlarm_number (fun _ => ⟨hnm, rfl⟩) hx hb hts hown hW k_t rfl rfl dAlarm_init_6 (fun H locs hW => ?_)
  have mo := mo.tr (mono_sfi (k := 0) (a := t) (v := n))
  refine lv_aload_n hx hb dAlarm_init_9 rfl (lv_at hl 0 rfl) ?_
  refine lv_aload_n hx hb dAlarm_init_10 rfl (lv_at hl 2 rfl) ?_
  refine p_r FAlarm_13 GAlarm_counter ⟨rfl, rfl⟩ (fun _ => ⟨hnm, rfl⟩) hx hb hts hown hW k_t k_c0 dAlarm_init_11 (fun H locs hW => ?_)
  have mo := mo.tr (mono_sfr (k := 2) (a := t) (v := (some c0)))
  refine lv_aload_n hx hb dAlarm_init_14 rfl (lv_at hl 0 rfl) ?_
  refine lv_aload_n hx hb dAlarm_init_15 rfl (lv_at hl 3 rfl) ?_
  refine p_r FAlarm_17 GAlarm_act ⟨rfl, rfl⟩ (fun _ => ⟨hnm, rfl⟩) hx hb hts hown hW k_t k_x dAlarm_init_16 (fun H locs hW => ?_)
  have mo := mo.tr (mono_sfr (k := 3) (a := t) (v := (some x)))
  exact e_v hsz hx hb hr hlk hW (mo) (Nat.le_of_ble_eq_true rfl) (Nat.le_of_ble_eq_true rfl) dAlarm_init_19 (rfl)

def becomeDue_S (S : HS) (t : Nat) (d : Int64) : HS :=
  (wakeAt_S (sfl S 0 t ((fl S 6 (gd (fr S 2 t))) + d)) (gd (fr S 2 t)) ((fl S 6 (gd (fr S 2 t))) + d))
set_option maxRecDepth 20000 in
set_option maxHeartbeats 2000000 in
theorem c_becomeDue (l : Launch) (D : va_G) (AC : Nat → ClassId) (S : HS) (t : Nat) (d : Int64)  (k_t : kd S t = 2) (hn : nn S) : CtV l yAlarm_becomeDue (Cond.code yAlarm_becomeDue cAlarm_becomeDue 3 none :: wT) 2 50 D AC S [.ref t, .long d] 0 0 (fun S' => S' = becomeDue_S S t d) := by
  refine met_of (by decide) (Nat.le_of_ble_eq_true rfl) ?_
  intro p e s m below meth c ls hsz X hW hl
  obtain ⟨hx, hb, hml, hr, hlk, hown, hnm, hts⟩ := X
  have hl : lv_has ls 3 [(0, .ref t), (1, .long d)] := hl
  have mo : mono S S := mono.rf S
  refine lv_aload_n hx hb dAlarm_becomeDue_0 rfl (lv_at hl 0 rfl) ?_
  refine lv_aload_n hx hb dAlarm_becomeDue_1 rfl (lv_at hl 0 rfl) ?_
  have kq_1 : ∀ b, fr S 2 t = some b → kd S b = 3 := fun b h => hW.ok.2.1 2 t b k_t h
  refine g_q FAlarm_13 hx hb hts hown hW k_t dAlarm_becomeDue_2 ?_
  have n_2 : fr S 2 t = some (gd (fr S 2 t)) := gd_some (hn 2 t rfl k_t)
  have kb_3 : kd S (gd (fr S 2 t)) = 3 := kq_1 (gd (fr S 2 t)) n_2
  refine q_some n_2 ?_
  refine g_l FAlarm_21 hx hb hts hown hW kb_3 dAlarm_becomeDue_5 ?_
  refine lv_lload_n hx hb dAlarm_becomeDue_8 rfl (lv_at hl 1 rfl) ?_
  refine lv_ladd hx hb dAlarm_becomeDue_9 ?_
  refine p_l FAlarm_27 GAlarm_due (fun h => by cases h) hx hb hts hown hW k_t dAlarm_becomeDue_10 (fun H locs hW => ?_)
  have mo := mo.tr (mono_sfl (k := 0) (a := t) (v := ((fl S 6 (gd (fr S 2 t))) + d)))
  have nnp_4 : nn (sfl S 0 t ((fl S 6 (gd (fr S 2 t))) + d)) := nn_sfl hn
  refine lv_aload_n hx hb dAlarm_becomeDue_13 rfl (lv_at hl 0 rfl) ?_
  refine g_q FAlarm_13 hx hb hts hown hW k_t dAlarm_becomeDue_14 ?_
  rw [show fr (sfl S 0 t ((fl S 6 (gd (fr S 2 t))) + d)) 2 t = fr S 2 t from rfl]
  refine lv_aload_n hx hb dAlarm_becomeDue_17 rfl (lv_at hl 0 rfl) ?_
  refine g_l FAlarm_27 hx hb hts hown hW k_t dAlarm_becomeDue_18 ?_
  rw [show fl (sfl S 0 t ((fl S 6 (gd (fr S 2 t))) + d)) 0 t = ((fl S 6 (gd (fr S 2 t))) + d) from up2_self _ _ _ _]
  refine q_some1 n_2 ?_
  refine k_Vv (As := [.long ((fl S 6 (gd (fr S 2 t))) + d)]) (rest := []) (c_wakeAt l D AC (sfl S 0 t ((fl S 6 (gd (fr S 2 t))) + d)) (gd (fr S 2 t)) ((fl S 6 (gd (fr S 2 t))) + d) kb_3) CAlarm_30 ⟨by decide, by decide, _, rfl, rfl⟩ hx hb hml hown hts hW kb_3 hl.1 rfl rfl (Nat.le_of_ble_eq_true rfl) ⟨⟨Nat.le_of_ble_eq_true rfl, Nat.le_of_ble_eq_true rfl⟩, ⟨Nat.le_of_ble_eq_true rfl, Nat.le_of_ble_eq_true rfl⟩⟩ dAlarm_becomeDue_21 (fun S_5 H locs e_5 hW m_5 _ => ?_)
  rw [e_5] at hW m_5
  have k_t := m_5.k k_t (by decide)
  have kb_3 := m_5.k kb_3 (by decide)
  have kq_1 := fun b h => m_5.k (kq_1 b h) (by decide)
  have mo := mo.tr m_5
  have nnp_6 : nn (wakeAt_S (sfl S 0 t ((fl S 6 (gd (fr S 2 t))) + d)) (gd (fr S 2 t)) ((fl S 6 (gd (fr S 2 t))) + d)) := nn_wakeAt nnp_4
  exact e_v hsz hx hb hr hlk hW (mo) (Nat.le_of_ble_eq_true rfl) (Nat.le_of_ble_eq_true rfl) dAlarm_becomeDue_24 (rfl)

theorem nn_becomeDue {S : HS} {t : Nat} {d : Int64} (h : nn S) : nn (becomeDue_S S t d) := h

def Point_init_S (S : HS) (t : Nat) (o : Int64) (x : Nat) : HS :=
  (sfr (sfl S 8 t o) 11 t (some x))
set_option maxRecDepth 20000 in
set_option maxHeartbeats 2000000 in
theorem c_Point_init (l : Launch) (D : va_G) (AC : Nat → ClassId) (S : HS) (t : Nat) (o : Int64) (x : Nat)  (k_t : kd S t = 6) (k_x : kd S x = 1) : CtV l yPoint_init (Cond.code yPoint_init cPoint_init 4 none :: wT) 1 12 D AC S [.ref t, .long o, .ref x] 0 0 (fun S' => S' = Point_init_S S t o x) := by
  refine met_of (by decide) (Nat.le_of_ble_eq_true rfl) ?_
  intro p e s m below meth c ls hsz X hW hl
  obtain ⟨hx, hb, hml, hr, hlk, hown, hnm, hts⟩ := X
  have hl : lv_has ls 4 [(0, .ref t), (1, .long o), (3, .ref x)] := hl
  have mo : mono S S := mono.rf S
  refine lv_aload_n hx hb dPoint_init_0 rfl (lv_at hl 0 rfl) ?_
  refine o_init OPoint_1 hx hb hown hts hml hl.1 dPoint_init_1 (Nat.le_of_ble_eq_true rfl) (Nat.le_of_ble_eq_true rfl) ?_
  refine lv_aload_n hx hb dPoint_init_4 rfl (lv_at hl 0 rfl) ?_
  refine lv_lload_n hx hb dPoint_init_5 rfl (lv_at hl 1 rfl) ?_
  refine p_l FPoint_7 GPoint_offset (fun _ => ⟨hnm, rfl⟩) hx hb hts hown hW k_t dPoint_init_6 (fun H locs hW => ?_)
  have mo := mo.tr (mono_sfl (k := 8) (a := t) (v := o))
  refine lv_aload_n hx hb dPoint_init_9 rfl (lv_at hl 0 rfl) ?_
  refine lv_aload_n hx hb dPoint_init_10 rfl (lv_at hl 2 rfl) ?_
  refine p_r FPoint_13 GPoint_act ⟨rfl, rfl⟩ (fun _ => ⟨hnm, rfl⟩) hx hb hts hown hW k_t k_x dPoint_init_11 (fun H locs hW => ?_)
  have mo := mo.tr (mono_sfr (k := 11) (a := t) (v := (some x)))
  exact e_v hsz hx hb hr hlk hW (mo) (Nat.le_of_ble_eq_true rfl) (Nat.le_of_ble_eq_true rfl) dPoint_init_14 (rfl)

def Table_init_S (S : HS) (t : Nat) (n : Int32) (c0 : Nat) (k : Int64) : HS :=
  (sfl (sfr (sfi S 6 t n) 13 t (some c0)) 9 t k)
set_option maxRecDepth 20000 in
set_option maxHeartbeats 2000000 in
theorem c_Table_init (l : Launch) (D : va_G) (AC : Nat → ClassId) (S : HS) (t : Nat) (n : Int32) (c0 : Nat) (k : Int64)  (k_t : kd S t = 7) (k_c0 : kd S c0 = 3) : CtV l yTable_init (Cond.code yTable_init cTable_init 5 none :: wT) 1 12 D AC S [.ref t, .int n, .ref c0, .long k] 0 0 (fun S' => S' = Table_init_S S t n c0 k) := by
  refine met_of (by decide) (Nat.le_of_ble_eq_true rfl) ?_
  intro p e s m below meth c ls hsz X hW hl
  obtain ⟨hx, hb, hml, hr, hlk, hown, hnm, hts⟩ := X
  have hl : lv_has ls 5 [(0, .ref t), (1, .int n), (2, .ref c0), (3, .long k)] := hl
  have mo : mono S S := mono.rf S
  refine lv_aload_n hx hb dTable_init_0 rfl (lv_at hl 0 rfl) ?_
  refine o_init OTable_3 hx hb hown hts hml hl.1 dTable_init_1 (Nat.le_of_ble_eq_true rfl) (Nat.le_of_ble_eq_true rfl) ?_
  refine lv_aload_n hx hb dTable_init_4 rfl (lv_at hl 0 rfl) ?_
  refine lv_iload_n hx hb dTable_init_5 rfl (lv_at hl 1 rfl) ?_
  refine p_i FTable_9 GTable_number (fun _ => ⟨hnm, rfl⟩) hx hb hts hown hW k_t rfl rfl dTable_init_6 (fun H locs hW => ?_)
  have mo := mo.tr (mono_sfi (k := 6) (a := t) (v := n))
  refine lv_aload_n hx hb dTable_init_9 rfl (lv_at hl 0 rfl) ?_
  refine lv_aload_n hx hb dTable_init_10 rfl (lv_at hl 2 rfl) ?_
  refine p_r FTable_15 GTable_counter ⟨rfl, rfl⟩ (fun _ => ⟨hnm, rfl⟩) hx hb hts hown hW k_t k_c0 dTable_init_11 (fun H locs hW => ?_)
  have mo := mo.tr (mono_sfr (k := 13) (a := t) (v := (some c0)))
  refine lv_aload_n hx hb dTable_init_14 rfl (lv_at hl 0 rfl) ?_
  refine lv_lload_n hx hb dTable_init_15 rfl (lv_at hl 3 rfl) ?_
  refine p_l FTable_19 GTable_length (fun _ => ⟨hnm, rfl⟩) hx hb hts hown hW k_t dTable_init_16 (fun H locs hW => ?_)
  have mo := mo.tr (mono_sfl (k := 9) (a := t) (v := k))
  exact e_v hsz hx hb hr hlk hW (mo) (Nat.le_of_ble_eq_true rfl) (Nat.le_of_ble_eq_true rfl) dTable_init_19 (rfl)

def runFrom_S (S : HS) (t : Nat) (d : Int64) : HS :=
  (sfl (sfi (sfi S 8 t (1 : Int32)) 9 t (0 : Int32)) 10 t d)
set_option maxRecDepth 20000 in
set_option maxHeartbeats 2000000 in
theorem c_runFrom (l : Launch) (D : va_G) (AC : Nat → ClassId) (S : HS) (t : Nat) (d : Int64)  (k_t : kd S t = 7) : CtV l yTable_runFrom (Cond.code yTable_runFrom cTable_runFrom 3 none :: wT) 0 0 D AC S [.ref t, .long d] 0 0 (fun S' => S' = runFrom_S S t d) := by
  refine met_of (by decide) (Nat.le_of_ble_eq_true rfl) ?_
  intro p e s m below meth c ls hsz X hW hl
  obtain ⟨hx, hb, hml, hr, hlk, hown, hnm, hts⟩ := X
  have hl : lv_has ls 3 [(0, .ref t), (1, .long d)] := hl
  have mo : mono S S := mono.rf S
  refine lv_aload_n hx hb dTable_runFrom_0 rfl (lv_at hl 0 rfl) ?_
  refine lv_iconst (v := (1 : Int32)) hx hb dTable_runFrom_1 (by decide) ?_
  refine p_i FTable_42 GTable_runs (fun h => by cases h) hx hb hts hown hW k_t rfl rfl dTable_runFrom_2 (fun H locs hW => ?_)
  have mo := mo.tr (mono_sfi (k := 8) (a := t) (v := (1 : Int32)))
  refine lv_aload_n hx hb dTable_runFrom_5 rfl (lv_at hl 0 rfl) ?_
  refine lv_iconst (v := (0 : Int32)) hx hb dTable_runFrom_6 (by decide) ?_
  refine p_i FTable_46 GTable_begun (fun h => by cases h) hx hb hts hown hW k_t rfl rfl dTable_runFrom_7 (fun H locs hW => ?_)
  have mo := mo.tr (mono_sfi (k := 9) (a := t) (v := (0 : Int32)))
  refine lv_aload_n hx hb dTable_runFrom_10 rfl (lv_at hl 0 rfl) ?_
  refine lv_lload_n hx hb dTable_runFrom_11 rfl (lv_at hl 1 rfl) ?_
  refine p_l FTable_49 GTable_due (fun h => by cases h) hx hb hts hown hW k_t dTable_runFrom_12 (fun H locs hW => ?_)
  have mo := mo.tr (mono_sfl (k := 10) (a := t) (v := d))
  exact e_v hsz hx hb hr hlk hW (mo) (Nat.le_of_ble_eq_true rfl) (Nat.le_of_ble_eq_true rfl) dTable_runFrom_15 (rfl)

theorem nn_runFrom {S : HS} {t : Nat} {d : Int64} (h : nn S) : nn (runFrom_S S t d) := h

def goOn_S (S : HS) (t : Nat) (fm : Int64) (to_ : Option Nat) : HS :=
  opc to_ (if (0 : Int64) < ((fl S 9 t) - fm) then
      (wakeAt_S (sfl (sfl (sfl (sfr S 15 t to_) 10 t (fl S 6 (gd (fr S 13 t)))) 11 t ((fl S 11 t) - (if ((1 : Int64) - ((fl S 9 t) - fm)) < (if (-2 : Int64) < (if (2 : Int64) < (fl S 11 t) then (2 : Int64) else (fl S 11 t)) then (if (2 : Int64) < (fl S 11 t) then (2 : Int64) else (fl S 11 t)) else (-2 : Int64)) then (if (-2 : Int64) < (if (2 : Int64) < (fl S 11 t) then (2 : Int64) else (fl S 11 t)) then (if (2 : Int64) < (fl S 11 t) then (2 : Int64) else (fl S 11 t)) else (-2 : Int64)) else ((1 : Int64) - ((fl S 9 t) - fm))))) 10 t ((fl S 6 (gd (fr S 13 t))) + (((fl S 9 t) - fm) + (if ((1 : Int64) - ((fl S 9 t) - fm)) < (if (-2 : Int64) < (if (2 : Int64) < (fl S 11 t) then (2 : Int64) else (fl S 11 t)) then (if (2 : Int64) < (fl S 11 t) then (2 : Int64) else (fl S 11 t)) else (-2 : Int64)) then (if (-2 : Int64) < (if (2 : Int64) < (fl S 11 t) then (2 : Int64) else (fl S 11 t)) then (if (2 : Int64) < (fl S 11 t) then (2 : Int64) else (fl S 11 t)) else (-2 : Int64)) else ((1 : Int64) - ((fl S 9 t) - fm)))))) (gd (fr S 13 t)) ((fl S 6 (gd (fr S 13 t))) + (((fl S 9 t) - fm) + (if ((1 : Int64) - ((fl S 9 t) - fm)) < (if (-2 : Int64) < (if (2 : Int64) < (fl S 11 t) then (2 : Int64) else (fl S 11 t)) then (if (2 : Int64) < (fl S 11 t) then (2 : Int64) else (fl S 11 t)) else (-2 : Int64)) then (if (-2 : Int64) < (if (2 : Int64) < (fl S 11 t) then (2 : Int64) else (fl S 11 t)) then (if (2 : Int64) < (fl S 11 t) then (2 : Int64) else (fl S 11 t)) else (-2 : Int64)) else ((1 : Int64) - ((fl S 9 t) - fm))))))
    else
      (sfl (sfr S 15 t to_) 10 t (fl S 6 (gd (fr S 13 t)))))
  (fun b_2 => if (0 : Int64) < ((fl S 8 b_2) - fm) then
      (wakeAt_S (sfl (sfl (sfl (sfr S 15 t to_) 10 t (fl S 6 (gd (fr S 13 t)))) 11 t ((fl S 11 t) - (if ((1 : Int64) - ((fl S 8 b_2) - fm)) < (if (-2 : Int64) < (if (2 : Int64) < (fl S 11 t) then (2 : Int64) else (fl S 11 t)) then (if (2 : Int64) < (fl S 11 t) then (2 : Int64) else (fl S 11 t)) else (-2 : Int64)) then (if (-2 : Int64) < (if (2 : Int64) < (fl S 11 t) then (2 : Int64) else (fl S 11 t)) then (if (2 : Int64) < (fl S 11 t) then (2 : Int64) else (fl S 11 t)) else (-2 : Int64)) else ((1 : Int64) - ((fl S 8 b_2) - fm))))) 10 t ((fl S 6 (gd (fr S 13 t))) + (((fl S 8 b_2) - fm) + (if ((1 : Int64) - ((fl S 8 b_2) - fm)) < (if (-2 : Int64) < (if (2 : Int64) < (fl S 11 t) then (2 : Int64) else (fl S 11 t)) then (if (2 : Int64) < (fl S 11 t) then (2 : Int64) else (fl S 11 t)) else (-2 : Int64)) then (if (-2 : Int64) < (if (2 : Int64) < (fl S 11 t) then (2 : Int64) else (fl S 11 t)) then (if (2 : Int64) < (fl S 11 t) then (2 : Int64) else (fl S 11 t)) else (-2 : Int64)) else ((1 : Int64) - ((fl S 8 b_2) - fm)))))) (gd (fr S 13 t)) ((fl S 6 (gd (fr S 13 t))) + (((fl S 8 b_2) - fm) + (if ((1 : Int64) - ((fl S 8 b_2) - fm)) < (if (-2 : Int64) < (if (2 : Int64) < (fl S 11 t) then (2 : Int64) else (fl S 11 t)) then (if (2 : Int64) < (fl S 11 t) then (2 : Int64) else (fl S 11 t)) else (-2 : Int64)) then (if (-2 : Int64) < (if (2 : Int64) < (fl S 11 t) then (2 : Int64) else (fl S 11 t)) then (if (2 : Int64) < (fl S 11 t) then (2 : Int64) else (fl S 11 t)) else (-2 : Int64)) else ((1 : Int64) - ((fl S 8 b_2) - fm))))))
    else
      (sfl (sfr S 15 t to_) 10 t (fl S 6 (gd (fr S 13 t)))))
set_option maxRecDepth 20000 in
set_option maxHeartbeats 2000000 in
theorem c_goOn (l : Launch) (D : va_G) (AC : Nat → ClassId) (S : HS) (t : Nat) (fm : Int64) (to_ : Option Nat)  (k_t : kd S t = 7) (kq_to_ : ∀ b, to_ = some b → kd S b = 6) (hn : nn S) : CtV l yTable_goOn (Cond.code yTable_goOn cTable_goOn 8 none :: wT) 2 60 D AC S [.ref t, .long fm, va_rf to_] 0 0 (fun S' => S' = goOn_S S t fm to_) := by
  refine met_of (by decide) (by simp [lg_sl, q_cat, cat_r, cat_i, cat_l]) ?_
  intro p e s m below meth c ls hsz X hW hl
  obtain ⟨hx, hb, hml, hr, hlk, hown, hnm, hts⟩ := X
  have hl : lv_has ls 8 [(0, .ref t), (1, .long fm), (3, va_rf to_)] := by simpa [lv_args, q_cat, cat_r, cat_i, cat_l] using hl
  have mo : mono S S := mono.rf S
  refine lv_aload_n hx hb dTable_goOn_0 rfl (lv_at hl 0 rfl) ?_
  refine q_aload_n hx hb dTable_goOn_1 rfl (lv_at hl 2 rfl) ?_
  refine p_q FTable_52 GTable_coming ⟨fun _ => rfl, fun _ => rfl, rfl, rfl⟩ (fun h => by cases h) hx hb hts hown hW k_t kq_to_ dTable_goOn_2 (fun H locs hW => ?_)
  have mo := mo.tr (mono_sfr (k := 15) (a := t) (v := to_))
  have nnp_1 : nn (sfr S 15 t to_) := nn_sfr hn (Or.inl rfl)
  refine q_aload_n hx hb dTable_goOn_5 rfl (lv_at hl 2 rfl) ?_
  refine q_ifnonnull (tgt := 16) hx hb dTable_goOn_6 (by decide) (fun n_2 => ?_) (fun b_2 n_2 => ?_)
  · refine lv_aload_n hx hb dTable_goOn_9 rfl (lv_at hl 0 rfl) ?_
    refine g_l FTable_19 hx hb hts hown hW k_t dTable_goOn_10 ?_
    rw [show fl (sfr S 15 t to_) 9 t = fl S 9 t from rfl]
    refine lv_goto (tgt := 20) hx hb dTable_goOn_13 (by decide) ?_
    refine lv_lload_n hx hb dTable_goOn_20 rfl (lv_at hl 1 rfl) ?_
    refine lv_lsub hx hb dTable_goOn_21 ?_
    refine lv_lstore (lv' := [(4, .long ((fl S 9 t) - fm)), (0, .ref t), (1, .long fm), (3, va_rf to_)]) hx hb dTable_goOn_22 hl (by decide) (by simp [q_cat, cat_r, cat_i, cat_l, cat_n]) (fun ls hl => ?_)
    refine lv_aload_n hx hb dTable_goOn_24 rfl (lv_at hl 1 rfl) ?_
    refine lv_aload_n hx hb dTable_goOn_25 rfl (lv_at hl 1 rfl) ?_
    have kq_3 : ∀ b, fr S 13 t = some b → kd (sfr S 15 t to_) b = 3 := fun b h => hW.ok.2.1 13 t b k_t h
    refine g_q FTable_15 hx hb hts hown hW k_t dTable_goOn_26 ?_
    rw [show fr (sfr S 15 t to_) 13 t = fr S 13 t from rfl]
    have n_4 : fr S 13 t = some (gd (fr S 13 t)) := gd_some (hn 13 t rfl k_t)
    have kb_5 : kd (sfr S 15 t to_) (gd (fr S 13 t)) = 3 := kq_3 (gd (fr S 13 t)) n_4
    refine q_some n_4 ?_
    refine g_l FTable_55 hx hb hts hown hW kb_5 dTable_goOn_29 ?_
    rw [show fl (sfr S 15 t to_) 6 (gd (fr S 13 t)) = fl S 6 (gd (fr S 13 t)) from rfl]
    refine p_l FTable_49 GTable_due (fun h => by cases h) hx hb hts hown hW k_t dTable_goOn_32 (fun H locs hW => ?_)
    have mo := mo.tr (mono_sfl (k := 10) (a := t) (v := (fl S 6 (gd (fr S 13 t)))))
    have nnp_6 : nn (sfl (sfr S 15 t to_) 10 t (fl S 6 (gd (fr S 13 t)))) := nn_sfl nnp_1
    refine lv_lload hx hb dTable_goOn_35 (lv_at hl 0 rfl) ?_
    refine lv_lconst (v := (0 : Int64)) hx hb dTable_goOn_37 (by decide) ?_
    refine ll_le (tgt := 107) hx hb dTable_goOn_38 dTable_goOn_39 (by decide) (fun c_7 => ?_) (fun c_7 => ?_)
    · exact e_v hsz hx hb hr hlk hW (mo) (Nat.le_of_ble_eq_true rfl) (Nat.le_of_ble_eq_true rfl) dTable_goOn_107 ((by refine Eq.symm ?_; refine (op_none n_2).trans ?_; refine (if_neg c_7).trans ?_; rfl))
    · refine lv_aload_n hx hb dTable_goOn_42 rfl (lv_at hl 1 rfl) ?_
      refine g_l FTable_60 hx hb hts hown hW k_t dTable_goOn_43 ?_
      rw [show fl (sfl (sfr S 15 t to_) 10 t (fl S 6 (gd (fr S 13 t)))) 11 t = fl S 11 t from rfl]
      refine lv_ldc2 (v := (2 : Int64)) hx hb hown (hts _ QTable_63) dTable_goOn_46 ?_
      refine va_mmin_long hx hb (by rw [hml]; exact hl.1.symm) hown (hts _ MTable_65.1) (hts _ MTable_65.2.1) (hts _ MTable_65.2.2.1) (hts _ MTable_65.2.2.2) (Nat.le_of_ble_eq_true rfl) (Nat.le_of_ble_eq_true rfl) (Nat.le_of_ble_eq_true rfl) (Nat.le_of_ble_eq_true rfl) dTable_goOn_49 ?_
      refine lv_ldc2 (v := (-2 : Int64)) hx hb hown (hts _ QTable_71) dTable_goOn_52 ?_
      refine va_mmax_long hx hb (by rw [hml]; exact hl.1.symm) hown (hts _ MTable_73.1) (hts _ MTable_73.2.1) (hts _ MTable_73.2.2.1) (hts _ MTable_73.2.2.2) (Nat.le_of_ble_eq_true rfl) (Nat.le_of_ble_eq_true rfl) (Nat.le_of_ble_eq_true rfl) (Nat.le_of_ble_eq_true rfl) dTable_goOn_55 ?_
      refine lv_lstore (lv' := [(6, .long (if (-2 : Int64) < (if (2 : Int64) < (fl S 11 t) then (2 : Int64) else (fl S 11 t)) then (if (2 : Int64) < (fl S 11 t) then (2 : Int64) else (fl S 11 t)) else (-2 : Int64))), (4, .long ((fl S 9 t) - fm)), (0, .ref t), (1, .long fm), (3, va_rf to_)]) hx hb dTable_goOn_58 hl (by decide) rfl (fun ls hl => ?_)
      refine lv_lload hx hb dTable_goOn_60 (lv_at hl 0 rfl) ?_
      refine lv_lconst (v := (1 : Int64)) hx hb dTable_goOn_62 (by decide) ?_
      refine lv_lload hx hb dTable_goOn_63 (lv_at hl 1 rfl) ?_
      refine lv_lsub hx hb dTable_goOn_65 ?_
      refine va_mmax_long hx hb (by rw [hml]; exact hl.1.symm) hown (hts _ MTable_73.1) (hts _ MTable_73.2.1) (hts _ MTable_73.2.2.1) (hts _ MTable_73.2.2.2) (Nat.le_of_ble_eq_true rfl) (Nat.le_of_ble_eq_true rfl) (Nat.le_of_ble_eq_true rfl) (Nat.le_of_ble_eq_true rfl) dTable_goOn_66 ?_
      refine lv_lstore (lv' := [(6, .long (if ((1 : Int64) - ((fl S 9 t) - fm)) < (if (-2 : Int64) < (if (2 : Int64) < (fl S 11 t) then (2 : Int64) else (fl S 11 t)) then (if (2 : Int64) < (fl S 11 t) then (2 : Int64) else (fl S 11 t)) else (-2 : Int64)) then (if (-2 : Int64) < (if (2 : Int64) < (fl S 11 t) then (2 : Int64) else (fl S 11 t)) then (if (2 : Int64) < (fl S 11 t) then (2 : Int64) else (fl S 11 t)) else (-2 : Int64)) else ((1 : Int64) - ((fl S 9 t) - fm)))), (4, .long ((fl S 9 t) - fm)), (0, .ref t), (1, .long fm), (3, va_rf to_)]) hx hb dTable_goOn_69 hl (by decide) rfl (fun ls hl => ?_)
      refine lv_aload_n hx hb dTable_goOn_71 rfl (lv_at hl 2 rfl) ?_
      refine lv_dup hx hb dTable_goOn_72 rfl ?_
      refine g_l FTable_60 hx hb hts hown hW k_t dTable_goOn_73 ?_
      rw [show fl (sfl (sfr S 15 t to_) 10 t (fl S 6 (gd (fr S 13 t)))) 11 t = fl S 11 t from rfl]
      refine lv_lload hx hb dTable_goOn_76 (lv_at hl 0 rfl) ?_
      refine lv_lsub hx hb dTable_goOn_78 ?_
      refine p_l FTable_60 GTable_drift (fun h => by cases h) hx hb hts hown hW k_t dTable_goOn_79 (fun H locs hW => ?_)
      have mo := mo.tr (mono_sfl (k := 11) (a := t) (v := ((fl S 11 t) - (if ((1 : Int64) - ((fl S 9 t) - fm)) < (if (-2 : Int64) < (if (2 : Int64) < (fl S 11 t) then (2 : Int64) else (fl S 11 t)) then (if (2 : Int64) < (fl S 11 t) then (2 : Int64) else (fl S 11 t)) else (-2 : Int64)) then (if (-2 : Int64) < (if (2 : Int64) < (fl S 11 t) then (2 : Int64) else (fl S 11 t)) then (if (2 : Int64) < (fl S 11 t) then (2 : Int64) else (fl S 11 t)) else (-2 : Int64)) else ((1 : Int64) - ((fl S 9 t) - fm))))))
      have nnp_8 : nn (sfl (sfl (sfr S 15 t to_) 10 t (fl S 6 (gd (fr S 13 t)))) 11 t ((fl S 11 t) - (if ((1 : Int64) - ((fl S 9 t) - fm)) < (if (-2 : Int64) < (if (2 : Int64) < (fl S 11 t) then (2 : Int64) else (fl S 11 t)) then (if (2 : Int64) < (fl S 11 t) then (2 : Int64) else (fl S 11 t)) else (-2 : Int64)) then (if (-2 : Int64) < (if (2 : Int64) < (fl S 11 t) then (2 : Int64) else (fl S 11 t)) then (if (2 : Int64) < (fl S 11 t) then (2 : Int64) else (fl S 11 t)) else (-2 : Int64)) else ((1 : Int64) - ((fl S 9 t) - fm))))) := nn_sfl nnp_6
      refine lv_aload_n hx hb dTable_goOn_82 rfl (lv_at hl 2 rfl) ?_
      refine lv_dup hx hb dTable_goOn_83 rfl ?_
      refine g_l FTable_49 hx hb hts hown hW k_t dTable_goOn_84 ?_
      rw [show fl (sfl (sfl (sfr S 15 t to_) 10 t (fl S 6 (gd (fr S 13 t)))) 11 t ((fl S 11 t) - (if ((1 : Int64) - ((fl S 9 t) - fm)) < (if (-2 : Int64) < (if (2 : Int64) < (fl S 11 t) then (2 : Int64) else (fl S 11 t)) then (if (2 : Int64) < (fl S 11 t) then (2 : Int64) else (fl S 11 t)) else (-2 : Int64)) then (if (-2 : Int64) < (if (2 : Int64) < (fl S 11 t) then (2 : Int64) else (fl S 11 t)) then (if (2 : Int64) < (fl S 11 t) then (2 : Int64) else (fl S 11 t)) else (-2 : Int64)) else ((1 : Int64) - ((fl S 9 t) - fm))))) 10 t = fl S 6 (gd (fr S 13 t)) from up2_self _ _ _ _]
      refine lv_lload hx hb dTable_goOn_87 (lv_at hl 1 rfl) ?_
      refine lv_lload hx hb dTable_goOn_89 (lv_at hl 0 rfl) ?_
      refine lv_ladd hx hb dTable_goOn_91 ?_
      refine lv_ladd hx hb dTable_goOn_92 ?_
      refine p_l FTable_49 GTable_due (fun h => by cases h) hx hb hts hown hW k_t dTable_goOn_93 (fun H locs hW => ?_)
      have mo := mo.tr (mono_sfl (k := 10) (a := t) (v := ((fl S 6 (gd (fr S 13 t))) + (((fl S 9 t) - fm) + (if ((1 : Int64) - ((fl S 9 t) - fm)) < (if (-2 : Int64) < (if (2 : Int64) < (fl S 11 t) then (2 : Int64) else (fl S 11 t)) then (if (2 : Int64) < (fl S 11 t) then (2 : Int64) else (fl S 11 t)) else (-2 : Int64)) then (if (-2 : Int64) < (if (2 : Int64) < (fl S 11 t) then (2 : Int64) else (fl S 11 t)) then (if (2 : Int64) < (fl S 11 t) then (2 : Int64) else (fl S 11 t)) else (-2 : Int64)) else ((1 : Int64) - ((fl S 9 t) - fm)))))))
      have nnp_9 : nn (sfl (sfl (sfl (sfr S 15 t to_) 10 t (fl S 6 (gd (fr S 13 t)))) 11 t ((fl S 11 t) - (if ((1 : Int64) - ((fl S 9 t) - fm)) < (if (-2 : Int64) < (if (2 : Int64) < (fl S 11 t) then (2 : Int64) else (fl S 11 t)) then (if (2 : Int64) < (fl S 11 t) then (2 : Int64) else (fl S 11 t)) else (-2 : Int64)) then (if (-2 : Int64) < (if (2 : Int64) < (fl S 11 t) then (2 : Int64) else (fl S 11 t)) then (if (2 : Int64) < (fl S 11 t) then (2 : Int64) else (fl S 11 t)) else (-2 : Int64)) else ((1 : Int64) - ((fl S 9 t) - fm))))) 10 t ((fl S 6 (gd (fr S 13 t))) + (((fl S 9 t) - fm) + (if ((1 : Int64) - ((fl S 9 t) - fm)) < (if (-2 : Int64) < (if (2 : Int64) < (fl S 11 t) then (2 : Int64) else (fl S 11 t)) then (if (2 : Int64) < (fl S 11 t) then (2 : Int64) else (fl S 11 t)) else (-2 : Int64)) then (if (-2 : Int64) < (if (2 : Int64) < (fl S 11 t) then (2 : Int64) else (fl S 11 t)) then (if (2 : Int64) < (fl S 11 t) then (2 : Int64) else (fl S 11 t)) else (-2 : Int64)) else ((1 : Int64) - ((fl S 9 t) - fm)))))) := nn_sfl nnp_8
      refine lv_aload_n hx hb dTable_goOn_96 rfl (lv_at hl 2 rfl) ?_
      refine g_q FTable_15 hx hb hts hown hW k_t dTable_goOn_97 ?_
      rw [show fr (sfl (sfl (sfl (sfr S 15 t to_) 10 t (fl S 6 (gd (fr S 13 t)))) 11 t ((fl S 11 t) - (if ((1 : Int64) - ((fl S 9 t) - fm)) < (if (-2 : Int64) < (if (2 : Int64) < (fl S 11 t) then (2 : Int64) else (fl S 11 t)) then (if (2 : Int64) < (fl S 11 t) then (2 : Int64) else (fl S 11 t)) else (-2 : Int64)) then (if (-2 : Int64) < (if (2 : Int64) < (fl S 11 t) then (2 : Int64) else (fl S 11 t)) then (if (2 : Int64) < (fl S 11 t) then (2 : Int64) else (fl S 11 t)) else (-2 : Int64)) else ((1 : Int64) - ((fl S 9 t) - fm))))) 10 t ((fl S 6 (gd (fr S 13 t))) + (((fl S 9 t) - fm) + (if ((1 : Int64) - ((fl S 9 t) - fm)) < (if (-2 : Int64) < (if (2 : Int64) < (fl S 11 t) then (2 : Int64) else (fl S 11 t)) then (if (2 : Int64) < (fl S 11 t) then (2 : Int64) else (fl S 11 t)) else (-2 : Int64)) then (if (-2 : Int64) < (if (2 : Int64) < (fl S 11 t) then (2 : Int64) else (fl S 11 t)) then (if (2 : Int64) < (fl S 11 t) then (2 : Int64) else (fl S 11 t)) else (-2 : Int64)) else ((1 : Int64) - ((fl S 9 t) - fm)))))) 13 t = fr S 13 t from rfl]
      refine lv_aload_n hx hb dTable_goOn_100 rfl (lv_at hl 2 rfl) ?_
      refine g_l FTable_49 hx hb hts hown hW k_t dTable_goOn_101 ?_
      rw [show fl (sfl (sfl (sfl (sfr S 15 t to_) 10 t (fl S 6 (gd (fr S 13 t)))) 11 t ((fl S 11 t) - (if ((1 : Int64) - ((fl S 9 t) - fm)) < (if (-2 : Int64) < (if (2 : Int64) < (fl S 11 t) then (2 : Int64) else (fl S 11 t)) then (if (2 : Int64) < (fl S 11 t) then (2 : Int64) else (fl S 11 t)) else (-2 : Int64)) then (if (-2 : Int64) < (if (2 : Int64) < (fl S 11 t) then (2 : Int64) else (fl S 11 t)) then (if (2 : Int64) < (fl S 11 t) then (2 : Int64) else (fl S 11 t)) else (-2 : Int64)) else ((1 : Int64) - ((fl S 9 t) - fm))))) 10 t ((fl S 6 (gd (fr S 13 t))) + (((fl S 9 t) - fm) + (if ((1 : Int64) - ((fl S 9 t) - fm)) < (if (-2 : Int64) < (if (2 : Int64) < (fl S 11 t) then (2 : Int64) else (fl S 11 t)) then (if (2 : Int64) < (fl S 11 t) then (2 : Int64) else (fl S 11 t)) else (-2 : Int64)) then (if (-2 : Int64) < (if (2 : Int64) < (fl S 11 t) then (2 : Int64) else (fl S 11 t)) then (if (2 : Int64) < (fl S 11 t) then (2 : Int64) else (fl S 11 t)) else (-2 : Int64)) else ((1 : Int64) - ((fl S 9 t) - fm)))))) 10 t = ((fl S 6 (gd (fr S 13 t))) + (((fl S 9 t) - fm) + (if ((1 : Int64) - ((fl S 9 t) - fm)) < (if (-2 : Int64) < (if (2 : Int64) < (fl S 11 t) then (2 : Int64) else (fl S 11 t)) then (if (2 : Int64) < (fl S 11 t) then (2 : Int64) else (fl S 11 t)) else (-2 : Int64)) then (if (-2 : Int64) < (if (2 : Int64) < (fl S 11 t) then (2 : Int64) else (fl S 11 t)) then (if (2 : Int64) < (fl S 11 t) then (2 : Int64) else (fl S 11 t)) else (-2 : Int64)) else ((1 : Int64) - ((fl S 9 t) - fm))))) from up2_self _ _ _ _]
      refine q_some1 n_4 ?_
      refine k_Vv (As := [.long ((fl S 6 (gd (fr S 13 t))) + (((fl S 9 t) - fm) + (if ((1 : Int64) - ((fl S 9 t) - fm)) < (if (-2 : Int64) < (if (2 : Int64) < (fl S 11 t) then (2 : Int64) else (fl S 11 t)) then (if (2 : Int64) < (fl S 11 t) then (2 : Int64) else (fl S 11 t)) else (-2 : Int64)) then (if (-2 : Int64) < (if (2 : Int64) < (fl S 11 t) then (2 : Int64) else (fl S 11 t)) then (if (2 : Int64) < (fl S 11 t) then (2 : Int64) else (fl S 11 t)) else (-2 : Int64)) else ((1 : Int64) - ((fl S 9 t) - fm)))))]) (rest := []) (c_wakeAt l D AC (sfl (sfl (sfl (sfr S 15 t to_) 10 t (fl S 6 (gd (fr S 13 t)))) 11 t ((fl S 11 t) - (if ((1 : Int64) - ((fl S 9 t) - fm)) < (if (-2 : Int64) < (if (2 : Int64) < (fl S 11 t) then (2 : Int64) else (fl S 11 t)) then (if (2 : Int64) < (fl S 11 t) then (2 : Int64) else (fl S 11 t)) else (-2 : Int64)) then (if (-2 : Int64) < (if (2 : Int64) < (fl S 11 t) then (2 : Int64) else (fl S 11 t)) then (if (2 : Int64) < (fl S 11 t) then (2 : Int64) else (fl S 11 t)) else (-2 : Int64)) else ((1 : Int64) - ((fl S 9 t) - fm))))) 10 t ((fl S 6 (gd (fr S 13 t))) + (((fl S 9 t) - fm) + (if ((1 : Int64) - ((fl S 9 t) - fm)) < (if (-2 : Int64) < (if (2 : Int64) < (fl S 11 t) then (2 : Int64) else (fl S 11 t)) then (if (2 : Int64) < (fl S 11 t) then (2 : Int64) else (fl S 11 t)) else (-2 : Int64)) then (if (-2 : Int64) < (if (2 : Int64) < (fl S 11 t) then (2 : Int64) else (fl S 11 t)) then (if (2 : Int64) < (fl S 11 t) then (2 : Int64) else (fl S 11 t)) else (-2 : Int64)) else ((1 : Int64) - ((fl S 9 t) - fm)))))) (gd (fr S 13 t)) ((fl S 6 (gd (fr S 13 t))) + (((fl S 9 t) - fm) + (if ((1 : Int64) - ((fl S 9 t) - fm)) < (if (-2 : Int64) < (if (2 : Int64) < (fl S 11 t) then (2 : Int64) else (fl S 11 t)) then (if (2 : Int64) < (fl S 11 t) then (2 : Int64) else (fl S 11 t)) else (-2 : Int64)) then (if (-2 : Int64) < (if (2 : Int64) < (fl S 11 t) then (2 : Int64) else (fl S 11 t)) then (if (2 : Int64) < (fl S 11 t) then (2 : Int64) else (fl S 11 t)) else (-2 : Int64)) else ((1 : Int64) - ((fl S 9 t) - fm))))) kb_5) CTable_76 ⟨by decide, by decide, _, rfl, rfl⟩ hx hb hml hown hts hW kb_5 hl.1 rfl rfl (Nat.le_of_ble_eq_true rfl) ⟨⟨Nat.le_of_ble_eq_true rfl, Nat.le_of_ble_eq_true rfl⟩, ⟨Nat.le_of_ble_eq_true rfl, Nat.le_of_ble_eq_true rfl⟩⟩ dTable_goOn_104 (fun S_10 H locs e_10 hW m_10 _ => ?_)
      rw [e_10] at hW m_10
      have k_t := m_10.k k_t (by decide)
      have kb_5 := m_10.k kb_5 (by decide)
      have kq_to_ := fun b h => m_10.k (kq_to_ b h) (by decide)
      have kq_3 := fun b h => m_10.k (kq_3 b h) (by decide)
      have mo := mo.tr m_10
      have nnp_11 : nn (wakeAt_S (sfl (sfl (sfl (sfr S 15 t to_) 10 t (fl S 6 (gd (fr S 13 t)))) 11 t ((fl S 11 t) - (if ((1 : Int64) - ((fl S 9 t) - fm)) < (if (-2 : Int64) < (if (2 : Int64) < (fl S 11 t) then (2 : Int64) else (fl S 11 t)) then (if (2 : Int64) < (fl S 11 t) then (2 : Int64) else (fl S 11 t)) else (-2 : Int64)) then (if (-2 : Int64) < (if (2 : Int64) < (fl S 11 t) then (2 : Int64) else (fl S 11 t)) then (if (2 : Int64) < (fl S 11 t) then (2 : Int64) else (fl S 11 t)) else (-2 : Int64)) else ((1 : Int64) - ((fl S 9 t) - fm))))) 10 t ((fl S 6 (gd (fr S 13 t))) + (((fl S 9 t) - fm) + (if ((1 : Int64) - ((fl S 9 t) - fm)) < (if (-2 : Int64) < (if (2 : Int64) < (fl S 11 t) then (2 : Int64) else (fl S 11 t)) then (if (2 : Int64) < (fl S 11 t) then (2 : Int64) else (fl S 11 t)) else (-2 : Int64)) then (if (-2 : Int64) < (if (2 : Int64) < (fl S 11 t) then (2 : Int64) else (fl S 11 t)) then (if (2 : Int64) < (fl S 11 t) then (2 : Int64) else (fl S 11 t)) else (-2 : Int64)) else ((1 : Int64) - ((fl S 9 t) - fm)))))) (gd (fr S 13 t)) ((fl S 6 (gd (fr S 13 t))) + (((fl S 9 t) - fm) + (if ((1 : Int64) - ((fl S 9 t) - fm)) < (if (-2 : Int64) < (if (2 : Int64) < (fl S 11 t) then (2 : Int64) else (fl S 11 t)) then (if (2 : Int64) < (fl S 11 t) then (2 : Int64) else (fl S 11 t)) else (-2 : Int64)) then (if (-2 : Int64) < (if (2 : Int64) < (fl S 11 t) then (2 : Int64) else (fl S 11 t)) then (if (2 : Int64) < (fl S 11 t) then (2 : Int64) else (fl S 11 t)) else (-2 : Int64)) else ((1 : Int64) - ((fl S 9 t) - fm)))))) := nn_wakeAt nnp_9
      exact e_v hsz hx hb hr hlk hW (mo) (Nat.le_of_ble_eq_true rfl) (Nat.le_of_ble_eq_true rfl) dTable_goOn_107 ((by refine Eq.symm ?_; refine (op_none n_2).trans ?_; refine (if_pos c_7).trans ?_; rfl))
  · have k_b_2 : kd (sfr S 15 t to_) b_2 = 6 := kq_to_ b_2 n_2
    refine q_aload_n hx hb dTable_goOn_16 rfl (lv_at hl 2 rfl) ?_
    refine q_some n_2 ?_
    refine g_l FTable_27 hx hb hts hown hW k_b_2 dTable_goOn_17 ?_
    rw [show fl (sfr S 15 t to_) 8 b_2 = fl S 8 b_2 from rfl]
    refine lv_lload_n hx hb dTable_goOn_20 rfl (lv_at hl 1 rfl) ?_
    refine lv_lsub hx hb dTable_goOn_21 ?_
    refine lv_lstore (lv' := [(4, .long ((fl S 8 b_2) - fm)), (0, .ref t), (1, .long fm), (3, va_rf to_)]) hx hb dTable_goOn_22 hl (by decide) (by simp [q_cat, cat_r, cat_i, cat_l, cat_n]) (fun ls hl => ?_)
    refine lv_aload_n hx hb dTable_goOn_24 rfl (lv_at hl 1 rfl) ?_
    refine lv_aload_n hx hb dTable_goOn_25 rfl (lv_at hl 1 rfl) ?_
    have kq_12 : ∀ b, fr S 13 t = some b → kd (sfr S 15 t to_) b = 3 := fun b h => hW.ok.2.1 13 t b k_t h
    refine g_q FTable_15 hx hb hts hown hW k_t dTable_goOn_26 ?_
    rw [show fr (sfr S 15 t to_) 13 t = fr S 13 t from rfl]
    have n_13 : fr S 13 t = some (gd (fr S 13 t)) := gd_some (hn 13 t rfl k_t)
    have kb_14 : kd (sfr S 15 t to_) (gd (fr S 13 t)) = 3 := kq_12 (gd (fr S 13 t)) n_13
    refine q_some n_13 ?_
    refine g_l FTable_55 hx hb hts hown hW kb_14 dTable_goOn_29 ?_
    rw [show fl (sfr S 15 t to_) 6 (gd (fr S 13 t)) = fl S 6 (gd (fr S 13 t)) from rfl]
    refine p_l FTable_49 GTable_due (fun h => by cases h) hx hb hts hown hW k_t dTable_goOn_32 (fun H locs hW => ?_)
    have mo := mo.tr (mono_sfl (k := 10) (a := t) (v := (fl S 6 (gd (fr S 13 t)))))
    have nnp_15 : nn (sfl (sfr S 15 t to_) 10 t (fl S 6 (gd (fr S 13 t)))) := nn_sfl nnp_1
    refine lv_lload hx hb dTable_goOn_35 (lv_at hl 0 rfl) ?_
    refine lv_lconst (v := (0 : Int64)) hx hb dTable_goOn_37 (by decide) ?_
    refine ll_le (tgt := 107) hx hb dTable_goOn_38 dTable_goOn_39 (by decide) (fun c_16 => ?_) (fun c_16 => ?_)
    · exact e_v hsz hx hb hr hlk hW (mo) (Nat.le_of_ble_eq_true rfl) (Nat.le_of_ble_eq_true rfl) dTable_goOn_107 ((by refine Eq.symm ?_; refine (op_some n_2).trans ?_; refine (if_neg c_16).trans ?_; rfl))
    · refine lv_aload_n hx hb dTable_goOn_42 rfl (lv_at hl 1 rfl) ?_
      refine g_l FTable_60 hx hb hts hown hW k_t dTable_goOn_43 ?_
      rw [show fl (sfl (sfr S 15 t to_) 10 t (fl S 6 (gd (fr S 13 t)))) 11 t = fl S 11 t from rfl]
      refine lv_ldc2 (v := (2 : Int64)) hx hb hown (hts _ QTable_63) dTable_goOn_46 ?_
      refine va_mmin_long hx hb (by rw [hml]; exact hl.1.symm) hown (hts _ MTable_65.1) (hts _ MTable_65.2.1) (hts _ MTable_65.2.2.1) (hts _ MTable_65.2.2.2) (Nat.le_of_ble_eq_true rfl) (Nat.le_of_ble_eq_true rfl) (Nat.le_of_ble_eq_true rfl) (Nat.le_of_ble_eq_true rfl) dTable_goOn_49 ?_
      refine lv_ldc2 (v := (-2 : Int64)) hx hb hown (hts _ QTable_71) dTable_goOn_52 ?_
      refine va_mmax_long hx hb (by rw [hml]; exact hl.1.symm) hown (hts _ MTable_73.1) (hts _ MTable_73.2.1) (hts _ MTable_73.2.2.1) (hts _ MTable_73.2.2.2) (Nat.le_of_ble_eq_true rfl) (Nat.le_of_ble_eq_true rfl) (Nat.le_of_ble_eq_true rfl) (Nat.le_of_ble_eq_true rfl) dTable_goOn_55 ?_
      refine lv_lstore (lv' := [(6, .long (if (-2 : Int64) < (if (2 : Int64) < (fl S 11 t) then (2 : Int64) else (fl S 11 t)) then (if (2 : Int64) < (fl S 11 t) then (2 : Int64) else (fl S 11 t)) else (-2 : Int64))), (4, .long ((fl S 8 b_2) - fm)), (0, .ref t), (1, .long fm), (3, va_rf to_)]) hx hb dTable_goOn_58 hl (by decide) rfl (fun ls hl => ?_)
      refine lv_lload hx hb dTable_goOn_60 (lv_at hl 0 rfl) ?_
      refine lv_lconst (v := (1 : Int64)) hx hb dTable_goOn_62 (by decide) ?_
      refine lv_lload hx hb dTable_goOn_63 (lv_at hl 1 rfl) ?_
      refine lv_lsub hx hb dTable_goOn_65 ?_
      refine va_mmax_long hx hb (by rw [hml]; exact hl.1.symm) hown (hts _ MTable_73.1) (hts _ MTable_73.2.1) (hts _ MTable_73.2.2.1) (hts _ MTable_73.2.2.2) (Nat.le_of_ble_eq_true rfl) (Nat.le_of_ble_eq_true rfl) (Nat.le_of_ble_eq_true rfl) (Nat.le_of_ble_eq_true rfl) dTable_goOn_66 ?_
      refine lv_lstore (lv' := [(6, .long (if ((1 : Int64) - ((fl S 8 b_2) - fm)) < (if (-2 : Int64) < (if (2 : Int64) < (fl S 11 t) then (2 : Int64) else (fl S 11 t)) then (if (2 : Int64) < (fl S 11 t) then (2 : Int64) else (fl S 11 t)) else (-2 : Int64)) then (if (-2 : Int64) < (if (2 : Int64) < (fl S 11 t) then (2 : Int64) else (fl S 11 t)) then (if (2 : Int64) < (fl S 11 t) then (2 : Int64) else (fl S 11 t)) else (-2 : Int64)) else ((1 : Int64) - ((fl S 8 b_2) - fm)))), (4, .long ((fl S 8 b_2) - fm)), (0, .ref t), (1, .long fm), (3, va_rf to_)]) hx hb dTable_goOn_69 hl (by decide) rfl (fun ls hl => ?_)
      refine lv_aload_n hx hb dTable_goOn_71 rfl (lv_at hl 2 rfl) ?_
      refine lv_dup hx hb dTable_goOn_72 rfl ?_
      refine g_l FTable_60 hx hb hts hown hW k_t dTable_goOn_73 ?_
      rw [show fl (sfl (sfr S 15 t to_) 10 t (fl S 6 (gd (fr S 13 t)))) 11 t = fl S 11 t from rfl]
      refine lv_lload hx hb dTable_goOn_76 (lv_at hl 0 rfl) ?_
      refine lv_lsub hx hb dTable_goOn_78 ?_
      refine p_l FTable_60 GTable_drift (fun h => by cases h) hx hb hts hown hW k_t dTable_goOn_79 (fun H locs hW => ?_)
      have mo := mo.tr (mono_sfl (k := 11) (a := t) (v := ((fl S 11 t) - (if ((1 : Int64) - ((fl S 8 b_2) - fm)) < (if (-2 : Int64) < (if (2 : Int64) < (fl S 11 t) then (2 : Int64) else (fl S 11 t)) then (if (2 : Int64) < (fl S 11 t) then (2 : Int64) else (fl S 11 t)) else (-2 : Int64)) then (if (-2 : Int64) < (if (2 : Int64) < (fl S 11 t) then (2 : Int64) else (fl S 11 t)) then (if (2 : Int64) < (fl S 11 t) then (2 : Int64) else (fl S 11 t)) else (-2 : Int64)) else ((1 : Int64) - ((fl S 8 b_2) - fm))))))
      have nnp_17 : nn (sfl (sfl (sfr S 15 t to_) 10 t (fl S 6 (gd (fr S 13 t)))) 11 t ((fl S 11 t) - (if ((1 : Int64) - ((fl S 8 b_2) - fm)) < (if (-2 : Int64) < (if (2 : Int64) < (fl S 11 t) then (2 : Int64) else (fl S 11 t)) then (if (2 : Int64) < (fl S 11 t) then (2 : Int64) else (fl S 11 t)) else (-2 : Int64)) then (if (-2 : Int64) < (if (2 : Int64) < (fl S 11 t) then (2 : Int64) else (fl S 11 t)) then (if (2 : Int64) < (fl S 11 t) then (2 : Int64) else (fl S 11 t)) else (-2 : Int64)) else ((1 : Int64) - ((fl S 8 b_2) - fm))))) := nn_sfl nnp_15
      refine lv_aload_n hx hb dTable_goOn_82 rfl (lv_at hl 2 rfl) ?_
      refine lv_dup hx hb dTable_goOn_83 rfl ?_
      refine g_l FTable_49 hx hb hts hown hW k_t dTable_goOn_84 ?_
      rw [show fl (sfl (sfl (sfr S 15 t to_) 10 t (fl S 6 (gd (fr S 13 t)))) 11 t ((fl S 11 t) - (if ((1 : Int64) - ((fl S 8 b_2) - fm)) < (if (-2 : Int64) < (if (2 : Int64) < (fl S 11 t) then (2 : Int64) else (fl S 11 t)) then (if (2 : Int64) < (fl S 11 t) then (2 : Int64) else (fl S 11 t)) else (-2 : Int64)) then (if (-2 : Int64) < (if (2 : Int64) < (fl S 11 t) then (2 : Int64) else (fl S 11 t)) then (if (2 : Int64) < (fl S 11 t) then (2 : Int64) else (fl S 11 t)) else (-2 : Int64)) else ((1 : Int64) - ((fl S 8 b_2) - fm))))) 10 t = fl S 6 (gd (fr S 13 t)) from up2_self _ _ _ _]
      refine lv_lload hx hb dTable_goOn_87 (lv_at hl 1 rfl) ?_
      refine lv_lload hx hb dTable_goOn_89 (lv_at hl 0 rfl) ?_
      refine lv_ladd hx hb dTable_goOn_91 ?_
      refine lv_ladd hx hb dTable_goOn_92 ?_
      refine p_l FTable_49 GTable_due (fun h => by cases h) hx hb hts hown hW k_t dTable_goOn_93 (fun H locs hW => ?_)
      have mo := mo.tr (mono_sfl (k := 10) (a := t) (v := ((fl S 6 (gd (fr S 13 t))) + (((fl S 8 b_2) - fm) + (if ((1 : Int64) - ((fl S 8 b_2) - fm)) < (if (-2 : Int64) < (if (2 : Int64) < (fl S 11 t) then (2 : Int64) else (fl S 11 t)) then (if (2 : Int64) < (fl S 11 t) then (2 : Int64) else (fl S 11 t)) else (-2 : Int64)) then (if (-2 : Int64) < (if (2 : Int64) < (fl S 11 t) then (2 : Int64) else (fl S 11 t)) then (if (2 : Int64) < (fl S 11 t) then (2 : Int64) else (fl S 11 t)) else (-2 : Int64)) else ((1 : Int64) - ((fl S 8 b_2) - fm)))))))
      have nnp_18 : nn (sfl (sfl (sfl (sfr S 15 t to_) 10 t (fl S 6 (gd (fr S 13 t)))) 11 t ((fl S 11 t) - (if ((1 : Int64) - ((fl S 8 b_2) - fm)) < (if (-2 : Int64) < (if (2 : Int64) < (fl S 11 t) then (2 : Int64) else (fl S 11 t)) then (if (2 : Int64) < (fl S 11 t) then (2 : Int64) else (fl S 11 t)) else (-2 : Int64)) then (if (-2 : Int64) < (if (2 : Int64) < (fl S 11 t) then (2 : Int64) else (fl S 11 t)) then (if (2 : Int64) < (fl S 11 t) then (2 : Int64) else (fl S 11 t)) else (-2 : Int64)) else ((1 : Int64) - ((fl S 8 b_2) - fm))))) 10 t ((fl S 6 (gd (fr S 13 t))) + (((fl S 8 b_2) - fm) + (if ((1 : Int64) - ((fl S 8 b_2) - fm)) < (if (-2 : Int64) < (if (2 : Int64) < (fl S 11 t) then (2 : Int64) else (fl S 11 t)) then (if (2 : Int64) < (fl S 11 t) then (2 : Int64) else (fl S 11 t)) else (-2 : Int64)) then (if (-2 : Int64) < (if (2 : Int64) < (fl S 11 t) then (2 : Int64) else (fl S 11 t)) then (if (2 : Int64) < (fl S 11 t) then (2 : Int64) else (fl S 11 t)) else (-2 : Int64)) else ((1 : Int64) - ((fl S 8 b_2) - fm)))))) := nn_sfl nnp_17
      refine lv_aload_n hx hb dTable_goOn_96 rfl (lv_at hl 2 rfl) ?_
      refine g_q FTable_15 hx hb hts hown hW k_t dTable_goOn_97 ?_
      rw [show fr (sfl (sfl (sfl (sfr S 15 t to_) 10 t (fl S 6 (gd (fr S 13 t)))) 11 t ((fl S 11 t) - (if ((1 : Int64) - ((fl S 8 b_2) - fm)) < (if (-2 : Int64) < (if (2 : Int64) < (fl S 11 t) then (2 : Int64) else (fl S 11 t)) then (if (2 : Int64) < (fl S 11 t) then (2 : Int64) else (fl S 11 t)) else (-2 : Int64)) then (if (-2 : Int64) < (if (2 : Int64) < (fl S 11 t) then (2 : Int64) else (fl S 11 t)) then (if (2 : Int64) < (fl S 11 t) then (2 : Int64) else (fl S 11 t)) else (-2 : Int64)) else ((1 : Int64) - ((fl S 8 b_2) - fm))))) 10 t ((fl S 6 (gd (fr S 13 t))) + (((fl S 8 b_2) - fm) + (if ((1 : Int64) - ((fl S 8 b_2) - fm)) < (if (-2 : Int64) < (if (2 : Int64) < (fl S 11 t) then (2 : Int64) else (fl S 11 t)) then (if (2 : Int64) < (fl S 11 t) then (2 : Int64) else (fl S 11 t)) else (-2 : Int64)) then (if (-2 : Int64) < (if (2 : Int64) < (fl S 11 t) then (2 : Int64) else (fl S 11 t)) then (if (2 : Int64) < (fl S 11 t) then (2 : Int64) else (fl S 11 t)) else (-2 : Int64)) else ((1 : Int64) - ((fl S 8 b_2) - fm)))))) 13 t = fr S 13 t from rfl]
      refine lv_aload_n hx hb dTable_goOn_100 rfl (lv_at hl 2 rfl) ?_
      refine g_l FTable_49 hx hb hts hown hW k_t dTable_goOn_101 ?_
      rw [show fl (sfl (sfl (sfl (sfr S 15 t to_) 10 t (fl S 6 (gd (fr S 13 t)))) 11 t ((fl S 11 t) - (if ((1 : Int64) - ((fl S 8 b_2) - fm)) < (if (-2 : Int64) < (if (2 : Int64) < (fl S 11 t) then (2 : Int64) else (fl S 11 t)) then (if (2 : Int64) < (fl S 11 t) then (2 : Int64) else (fl S 11 t)) else (-2 : Int64)) then (if (-2 : Int64) < (if (2 : Int64) < (fl S 11 t) then (2 : Int64) else (fl S 11 t)) then (if (2 : Int64) < (fl S 11 t) then (2 : Int64) else (fl S 11 t)) else (-2 : Int64)) else ((1 : Int64) - ((fl S 8 b_2) - fm))))) 10 t ((fl S 6 (gd (fr S 13 t))) + (((fl S 8 b_2) - fm) + (if ((1 : Int64) - ((fl S 8 b_2) - fm)) < (if (-2 : Int64) < (if (2 : Int64) < (fl S 11 t) then (2 : Int64) else (fl S 11 t)) then (if (2 : Int64) < (fl S 11 t) then (2 : Int64) else (fl S 11 t)) else (-2 : Int64)) then (if (-2 : Int64) < (if (2 : Int64) < (fl S 11 t) then (2 : Int64) else (fl S 11 t)) then (if (2 : Int64) < (fl S 11 t) then (2 : Int64) else (fl S 11 t)) else (-2 : Int64)) else ((1 : Int64) - ((fl S 8 b_2) - fm)))))) 10 t = ((fl S 6 (gd (fr S 13 t))) + (((fl S 8 b_2) - fm) + (if ((1 : Int64) - ((fl S 8 b_2) - fm)) < (if (-2 : Int64) < (if (2 : Int64) < (fl S 11 t) then (2 : Int64) else (fl S 11 t)) then (if (2 : Int64) < (fl S 11 t) then (2 : Int64) else (fl S 11 t)) else (-2 : Int64)) then (if (-2 : Int64) < (if (2 : Int64) < (fl S 11 t) then (2 : Int64) else (fl S 11 t)) then (if (2 : Int64) < (fl S 11 t) then (2 : Int64) else (fl S 11 t)) else (-2 : Int64)) else ((1 : Int64) - ((fl S 8 b_2) - fm))))) from up2_self _ _ _ _]
      refine q_some1 n_13 ?_
      refine k_Vv (As := [.long ((fl S 6 (gd (fr S 13 t))) + (((fl S 8 b_2) - fm) + (if ((1 : Int64) - ((fl S 8 b_2) - fm)) < (if (-2 : Int64) < (if (2 : Int64) < (fl S 11 t) then (2 : Int64) else (fl S 11 t)) then (if (2 : Int64) < (fl S 11 t) then (2 : Int64) else (fl S 11 t)) else (-2 : Int64)) then (if (-2 : Int64) < (if (2 : Int64) < (fl S 11 t) then (2 : Int64) else (fl S 11 t)) then (if (2 : Int64) < (fl S 11 t) then (2 : Int64) else (fl S 11 t)) else (-2 : Int64)) else ((1 : Int64) - ((fl S 8 b_2) - fm)))))]) (rest := []) (c_wakeAt l D AC (sfl (sfl (sfl (sfr S 15 t to_) 10 t (fl S 6 (gd (fr S 13 t)))) 11 t ((fl S 11 t) - (if ((1 : Int64) - ((fl S 8 b_2) - fm)) < (if (-2 : Int64) < (if (2 : Int64) < (fl S 11 t) then (2 : Int64) else (fl S 11 t)) then (if (2 : Int64) < (fl S 11 t) then (2 : Int64) else (fl S 11 t)) else (-2 : Int64)) then (if (-2 : Int64) < (if (2 : Int64) < (fl S 11 t) then (2 : Int64) else (fl S 11 t)) then (if (2 : Int64) < (fl S 11 t) then (2 : Int64) else (fl S 11 t)) else (-2 : Int64)) else ((1 : Int64) - ((fl S 8 b_2) - fm))))) 10 t ((fl S 6 (gd (fr S 13 t))) + (((fl S 8 b_2) - fm) + (if ((1 : Int64) - ((fl S 8 b_2) - fm)) < (if (-2 : Int64) < (if (2 : Int64) < (fl S 11 t) then (2 : Int64) else (fl S 11 t)) then (if (2 : Int64) < (fl S 11 t) then (2 : Int64) else (fl S 11 t)) else (-2 : Int64)) then (if (-2 : Int64) < (if (2 : Int64) < (fl S 11 t) then (2 : Int64) else (fl S 11 t)) then (if (2 : Int64) < (fl S 11 t) then (2 : Int64) else (fl S 11 t)) else (-2 : Int64)) else ((1 : Int64) - ((fl S 8 b_2) - fm)))))) (gd (fr S 13 t)) ((fl S 6 (gd (fr S 13 t))) + (((fl S 8 b_2) - fm) + (if ((1 : Int64) - ((fl S 8 b_2) - fm)) < (if (-2 : Int64) < (if (2 : Int64) < (fl S 11 t) then (2 : Int64) else (fl S 11 t)) then (if (2 : Int64) < (fl S 11 t) then (2 : Int64) else (fl S 11 t)) else (-2 : Int64)) then (if (-2 : Int64) < (if (2 : Int64) < (fl S 11 t) then (2 : Int64) else (fl S 11 t)) then (if (2 : Int64) < (fl S 11 t) then (2 : Int64) else (fl S 11 t)) else (-2 : Int64)) else ((1 : Int64) - ((fl S 8 b_2) - fm))))) kb_14) CTable_76 ⟨by decide, by decide, _, rfl, rfl⟩ hx hb hml hown hts hW kb_14 hl.1 rfl rfl (Nat.le_of_ble_eq_true rfl) ⟨⟨Nat.le_of_ble_eq_true rfl, Nat.le_of_ble_eq_true rfl⟩, ⟨Nat.le_of_ble_eq_true rfl, Nat.le_of_ble_eq_true rfl⟩⟩ dTable_goOn_104 (fun S_19 H locs e_19 hW m_19 _ => ?_)
      rw [e_19] at hW m_19
      have k_t := m_19.k k_t (by decide)
      have k_b_2 := m_19.k k_b_2 (by decide)
      have kb_14 := m_19.k kb_14 (by decide)
      have kq_to_ := fun b h => m_19.k (kq_to_ b h) (by decide)
      have kq_12 := fun b h => m_19.k (kq_12 b h) (by decide)
      have mo := mo.tr m_19
      have nnp_20 : nn (wakeAt_S (sfl (sfl (sfl (sfr S 15 t to_) 10 t (fl S 6 (gd (fr S 13 t)))) 11 t ((fl S 11 t) - (if ((1 : Int64) - ((fl S 8 b_2) - fm)) < (if (-2 : Int64) < (if (2 : Int64) < (fl S 11 t) then (2 : Int64) else (fl S 11 t)) then (if (2 : Int64) < (fl S 11 t) then (2 : Int64) else (fl S 11 t)) else (-2 : Int64)) then (if (-2 : Int64) < (if (2 : Int64) < (fl S 11 t) then (2 : Int64) else (fl S 11 t)) then (if (2 : Int64) < (fl S 11 t) then (2 : Int64) else (fl S 11 t)) else (-2 : Int64)) else ((1 : Int64) - ((fl S 8 b_2) - fm))))) 10 t ((fl S 6 (gd (fr S 13 t))) + (((fl S 8 b_2) - fm) + (if ((1 : Int64) - ((fl S 8 b_2) - fm)) < (if (-2 : Int64) < (if (2 : Int64) < (fl S 11 t) then (2 : Int64) else (fl S 11 t)) then (if (2 : Int64) < (fl S 11 t) then (2 : Int64) else (fl S 11 t)) else (-2 : Int64)) then (if (-2 : Int64) < (if (2 : Int64) < (fl S 11 t) then (2 : Int64) else (fl S 11 t)) then (if (2 : Int64) < (fl S 11 t) then (2 : Int64) else (fl S 11 t)) else (-2 : Int64)) else ((1 : Int64) - ((fl S 8 b_2) - fm)))))) (gd (fr S 13 t)) ((fl S 6 (gd (fr S 13 t))) + (((fl S 8 b_2) - fm) + (if ((1 : Int64) - ((fl S 8 b_2) - fm)) < (if (-2 : Int64) < (if (2 : Int64) < (fl S 11 t) then (2 : Int64) else (fl S 11 t)) then (if (2 : Int64) < (fl S 11 t) then (2 : Int64) else (fl S 11 t)) else (-2 : Int64)) then (if (-2 : Int64) < (if (2 : Int64) < (fl S 11 t) then (2 : Int64) else (fl S 11 t)) then (if (2 : Int64) < (fl S 11 t) then (2 : Int64) else (fl S 11 t)) else (-2 : Int64)) else ((1 : Int64) - ((fl S 8 b_2) - fm)))))) := nn_wakeAt nnp_18
      exact e_v hsz hx hb hr hlk hW (mo) (Nat.le_of_ble_eq_true rfl) (Nat.le_of_ble_eq_true rfl) dTable_goOn_107 ((by refine Eq.symm ?_; refine (op_some n_2).trans ?_; refine (if_pos c_16).trans ?_; rfl))

theorem nn_goOn {S : HS} {t : Nat} {fm : Int64} {o : Option Nat} (h : nn S) : nn (goOn_S S t fm o) := by
  have h2 : nn (sfr S 15 t o) := nn_sfr h (Or.inl rfl)
  unfold goOn_S
  exact opc_P (P := nn) (fun _ => ite_P (P := nn) h2 h2) (fun _ _ => ite_P (P := nn) h2 h2)

/-- the last point before an offset, along a chain -/
def pbL (S : HS) (off : Int64) : Option Nat → List Nat → Option Nat
  | b, [] => b
  | b, x :: xs => if fl S 8 x < off then pbL S off (some x) xs else b

set_option maxRecDepth 20000 in
set_option maxHeartbeats 2000000 in
theorem c_pointBefore (l : Launch) (D : va_G) (AC : Nat → ClassId) (S : HS) (t : Nat) (off : Int64) (zs : List Nat) (k_t : kd S t = 7) (hc : chn (fr S 12) (fr S 14 t) zs) : CtQ l yTable_pointBefore (Cond.code yTable_pointBefore cTable_pointBefore 5 (some (.object "AlarmTables$Point")) :: wT) 0 0 D AC S [.ref t, .long off] 0 0 (fun r S' => r = pbL S off none zs ∧ S' = S) := by
  refine met_of (by decide) (Nat.le_of_ble_eq_true rfl) ?_
  intro p e s m below meth c ls hsz X hW hl
  obtain ⟨hx, hb, hml, hr, hlk, hown, hnm, hts⟩ := X
  have mo : mono S S := mono.rf S
  have hl : lv_has ls 5 [(0, .ref t), (1, .long off)] := hl
  have loop : ∀ (xs : List Nat) (o bf : Option Nat), chn (fr S 12) o xs → (∀ b, bf = some b → kd S b = 6) → (∀ b, o = some b → kd S b = 6) → pbL S off bf xs = pbL S off none zs → ∀ ls, lv_has ls 5 [(0, .ref t), (1, .long off), (3, va_rf bf), (4, va_rf o)] → W p l e (rmOf 0 0 0 0) s m ([.ref t, .long off] : List Value).toArray below meth c s.heap [] 0 0 (MQ below (va_Qq (fun r S' => r = pbL S off none zs ∧ S' = S) (CB D AC S) (AS (hL S) (hz S))) ([.ref t, .long off] : List Value).toArray s 0 0 (AS (hL S) (hz S))) (F0 m 8 ls []) := by
    intro xs
    induction xs with
    | nil =>
      intro o bf hc kq_bf kq_o hv ls hl
      have hc : o = none := hc
      refine q_aload hx hb dTable_pointBefore_8 (lv_at hl 3 rfl) ?_
      refine q_none hc ?_
      refine lv_ifnullN (tgt := 36) hx hb dTable_pointBefore_10 (by decide) ?_
      refine q_aload_n hx hb dTable_pointBefore_36 rfl (lv_at hl 2 rfl) ?_
      exact e_q (r := bf) hsz hx hb hr hlk hW (mono.rf S) (Nat.le_refl _) (Nat.le_refl _) dTable_pointBefore_37 ⟨by rw [← hv]; rfl, rfl⟩
    | cons x xs ih =>
      intro o bf hc kq_bf kq_o hv ls hl
      obtain ⟨hc1, hc2⟩ := hc
      have k_x : kd S x = 6 := kq_o x hc1
      refine q_aload hx hb dTable_pointBefore_8 (lv_at hl 3 rfl) ?_
      refine q_some hc1 ?_
      refine lv_ifnull hx hb dTable_pointBefore_10 ?_
      refine q_aload hx hb dTable_pointBefore_13 (lv_at hl 3 rfl) ?_
      refine q_some hc1 ?_
      refine g_l FTable_27 hx hb hts hown hW k_x dTable_pointBefore_15 ?_
      refine lv_lload_n hx hb dTable_pointBefore_18 rfl (lv_at hl 1 rfl) ?_
      refine ll_ge (tgt := 36) hx hb dTable_pointBefore_19 dTable_pointBefore_20 (by decide) (fun c_101 => ?_) (fun c_101 => ?_)
      · refine q_aload_n hx hb dTable_pointBefore_36 rfl (lv_at hl 2 rfl) ?_
        exact e_q (r := bf) hsz hx hb hr hlk hW (mono.rf S) (Nat.le_refl _) (Nat.le_refl _) dTable_pointBefore_37 ⟨by rw [← hv]; simp only [pbL, if_neg c_101], rfl⟩
      · refine q_aload hx hb dTable_pointBefore_23 (lv_at hl 3 rfl) ?_
        refine q_astore_n (i := 3) (lv' := [(3, va_rf o), (0, .ref t), (1, .long off), (4, va_rf o)]) hx hb dTable_pointBefore_25 rfl hl (by decide) rfl (fun ls hl => ?_)
        refine q_aload hx hb dTable_pointBefore_26 (lv_at hl 3 rfl) ?_
        refine q_some hc1 ?_
        have kq_102 : ∀ b, fr S 12 x = some b → kd S b = 6 := fun b h => hW.ok.2.1 12 x b k_x h
        refine g_q FTable_32 hx hb hts hown hW k_x dTable_pointBefore_28 ?_
        refine q_astore (lv' := [(4, va_rf (fr S 12 x)), (3, va_rf o), (0, .ref t), (1, .long off)]) hx hb dTable_pointBefore_31 hl (by decide) (by simp [q_cat, cat_r, cat_i, cat_l, cat_n]) (fun ls hl => ?_)
        refine lv_goto (tgt := 8) hx hb dTable_pointBefore_33 (by decide) ?_
        exact ih (fr S 12 x) o hc2 kq_o kq_102 (by rw [← hv, hc1]; simp only [pbL, if_pos c_101]) ls (lv_sub hl [2, 3, 1, 0] rfl)
  refine lv_null hx hb dTable_pointBefore_0 ?_
  refine lv_astore_nN (i := 3) (lv' := [(3, .null), (0, .ref t), (1, .long off)]) hx hb dTable_pointBefore_1 rfl hl (by decide) rfl (fun ls hl => ?_)
  refine lv_aload_n hx hb dTable_pointBefore_2 rfl (lv_at hl 1 rfl) ?_
  have kq_101 : ∀ b, fr S 14 t = some b → kd S b = 6 := fun b h => hW.ok.2.1 14 t b k_t h
  refine g_q FTable_23 hx hb hts hown hW k_t dTable_pointBefore_3 ?_
  refine q_astore (lv' := [(4, va_rf (fr S 14 t)), (3, .null), (0, .ref t), (1, .long off)]) hx hb dTable_pointBefore_6 hl (by decide) rfl (fun ls hl => ?_)
  exact loop zs _ none hc (fun b h => by cases h) kq_101 rfl ls (lv_sub hl [2, 3, 1, 0] rfl)

theorem pbL_kd {S : HS} (h : hOk S) (off : Int64) : ∀ (xs : List Nat) (o bf : Option Nat), chn (fr S 12) o xs → (∀ b, o = some b → kd S b = 6) → (∀ b, bf = some b → kd S b = 6) → ∀ b, pbL S off bf xs = some b → kd S b = 6
  | [], _, _, _, _, hb, b, e => hb b e
  | x :: xs, o, bf, hc, ho, hb, b, e => by
    unfold pbL at e
    split at e
    · exact pbL_kd h off xs _ (some x) hc.2 (fun b hb => h.2.1 12 x b (ho x hc.1) hb) (fun b hb => by cases hb; exact ho x hc.1) b e
    · exact hb b e
theorem pointBefore_kd {S : HS} {t : Nat} {zs : List Nat} (h : hOk S) (k_t : kd S t = 7) (hc : chn (fr S 12) (fr S 14 t) zs) (off : Int64) : ∀ b, pbL S off none zs = some b → kd S b = 6 :=
  pbL_kd h off zs _ none hc (fun b hb => h.2.1 14 t b k_t hb) (fun b hb => by cases hb)
end
section
set_option maxRecDepth 100000 in
theorem OPage_3 : Cond.methodLink RPage 3 objectInit ∈ wT ∧ Cond.instanceMethod objectInit ∈ wT ∧ Cond.code objectInit ⟨#[0xb1]⟩ 1 none ∈ wT := ⟨wT_in 343 (by decide +kernel) rfl, wT_in 45 (by decide +kernel) rfl, wT_in 46 rfl rfl⟩
set_option maxRecDepth 100000 in
theorem NI_int : Cond.arrayClass (newarray.typeOf .int) ∈ wT := wT_in 349 (by decide +kernel) rfl
set_option maxRecDepth 100000 in
theorem iwPage : ∀ w ∈ u_ws RPage TPage 1, w ∈ wT := by decide +kernel
set_option maxRecDepth 100000 in
theorem FPage_9 : fdOk RPage RPage RPage TPage 1 9 5 0 2 10 := ⟨⟨by decide, by decide, rfl, by decide, rfl, by decide⟩, iwPage, wT_in 344 (by decide +kernel) rfl, rfl⟩
set_option maxRecDepth 100000 in
theorem GPage_cells : fdPut TPage 1 0 (.array .int) true := ⟨rfl, tyPage_ok 0 (by decide), ⟨tyPage, tyPage_ok⟩, nmPage⟩
set_option maxRecDepth 100000 in
theorem ONotes_3 : Cond.methodLink RNotes 3 objectInit ∈ wT ∧ Cond.instanceMethod objectInit ∈ wT ∧ Cond.code objectInit ⟨#[0xb1]⟩ 1 none ∈ wT := ⟨wT_in 58 (by decide +kernel) rfl, wT_in 45 (by decide +kernel) rfl, wT_in 46 rfl rfl⟩
set_option maxRecDepth 100000 in
theorem NANotes_9 : Cond.classLink RNotes 9 RPage ∈ wT ∧ ∀ s, NX s → va_AO RPage s := ⟨wT_in 59 (by decide +kernel) rfl, fun _ h => h.2.2.2.2.2⟩
set_option maxRecDepth 100000 in
theorem iwNotes : ∀ w ∈ u_ws RNotes TNotes 3, w ∈ wT := by decide +kernel
set_option maxRecDepth 100000 in
theorem FNotes_11 : fdOk RNotes RNotes RNotes TNotes 3 11 4 0 2 9 := ⟨⟨by decide, by decide, rfl, by decide, rfl, by decide⟩, iwNotes, wT_in 61 (by decide +kernel) rfl, rfl⟩
set_option maxRecDepth 100000 in
theorem GNotes_pages : fdPut TNotes 3 0 (.array (.object "AlarmTables$Page")) true := ⟨rfl, tyNotes_ok 0 (by decide), ⟨tyNotes, tyNotes_ok⟩, nmNotes⟩
set_option maxRecDepth 100000 in
theorem FNotes_21 : fdOk RNotes RNotes RNotes TNotes 3 21 4 1 0 4 := ⟨⟨by decide, by decide, rfl, by decide, rfl, by decide⟩, iwNotes, wT_in 62 (by decide +kernel) rfl, rfl⟩
set_option maxRecDepth 100000 in
theorem GNotes_kept : fdPut TNotes 3 1 (.int) false := ⟨rfl, tyNotes_ok 1 (by decide), ⟨tyNotes, tyNotes_ok⟩, nmNotes⟩
set_option maxRecDepth 100000 in
theorem iwAT : ∀ w ∈ u_ws RAT TAT 8, w ∈ wT := by decide +kernel
set_option maxRecDepth 100000 in
theorem FAT_38 : fdOk RAT RAT RAT TAT 8 38 8 4 0 10 := ⟨⟨by decide, by decide, rfl, by decide, rfl, by decide⟩, iwAT, wT_in 76 (by decide +kernel) rfl, rfl⟩
set_option maxRecDepth 100000 in
theorem GAT_counterCount : fdPut TAT 8 4 (.int) false := ⟨rfl, tyAT_ok 4 (by decide), ⟨tyAT, tyAT_ok⟩, nmAT⟩
set_option maxRecDepth 100000 in
theorem FAT_11 : fdOk RAT RAT RAT TAT 8 11 8 0 2 18 := ⟨⟨by decide, by decide, rfl, by decide, rfl, by decide⟩, iwAT, wT_in 72 (by decide +kernel) rfl, rfl⟩
set_option maxRecDepth 100000 in
theorem GAT_counters : fdPut TAT 8 0 (.array (.object "AlarmTables$Counter")) true := ⟨rfl, tyAT_ok 0 (by decide), ⟨tyAT, tyAT_ok⟩, nmAT⟩
set_option maxRecDepth 100000 in
theorem FAT_64 : fdOk RAT RAT RAT TAT 8 64 8 5 0 11 := ⟨⟨by decide, by decide, rfl, by decide, rfl, by decide⟩, iwAT, wT_in 77 (by decide +kernel) rfl, rfl⟩
set_option maxRecDepth 100000 in
theorem GAT_alarmCount : fdPut TAT 8 5 (.int) false := ⟨rfl, tyAT_ok 5 (by decide), ⟨tyAT, tyAT_ok⟩, nmAT⟩
set_option maxRecDepth 100000 in
theorem FAT_17 : fdOk RAT RAT RAT TAT 8 17 8 1 2 19 := ⟨⟨by decide, by decide, rfl, by decide, rfl, by decide⟩, iwAT, wT_in 73 (by decide +kernel) rfl, rfl⟩
set_option maxRecDepth 100000 in
theorem GAT_alarms : fdPut TAT 8 1 (.array (.object "AlarmTables$Alarm")) true := ⟨rfl, tyAT_ok 1 (by decide), ⟨tyAT, tyAT_ok⟩, nmAT⟩
set_option maxRecDepth 100000 in
theorem FAT_114 : fdOk RAT RAT RAT TAT 8 114 8 6 0 12 := ⟨⟨by decide, by decide, rfl, by decide, rfl, by decide⟩, iwAT, wT_in 78 (by decide +kernel) rfl, rfl⟩
set_option maxRecDepth 100000 in
theorem GAT_tableCount : fdPut TAT 8 6 (.int) false := ⟨rfl, tyAT_ok 6 (by decide), ⟨tyAT, tyAT_ok⟩, nmAT⟩
set_option maxRecDepth 100000 in
theorem FAT_23 : fdOk RAT RAT RAT TAT 8 23 8 2 2 20 := ⟨⟨by decide, by decide, rfl, by decide, rfl, by decide⟩, iwAT, wT_in 74 (by decide +kernel) rfl, rfl⟩
set_option maxRecDepth 100000 in
theorem GAT_tables : fdPut TAT 8 2 (.array (.object "AlarmTables$Table")) true := ⟨rfl, tyAT_ok 2 (by decide), ⟨tyAT, tyAT_ok⟩, nmAT⟩
set_option maxRecDepth 100000 in
theorem FAT_200 : fdOk RAT RCounter RCounter TCounter 12 200 3 7 0 3 := ⟨⟨by decide, by decide, rfl, by decide, rfl, by decide⟩, iwCounter, wT_in 493 (by decide +kernel) rfl, rfl⟩
set_option maxRecDepth 100000 in
theorem GCounter_leadsTo : fdPut TCounter 12 7 (.int) false := ⟨rfl, tyCounter_ok 7 (by decide), ⟨tyCounter, tyCounter_ok⟩, nmCounter⟩
set_option maxRecDepth 100000 in
theorem FAT_203 : fdOk RAT RCounter RCounter TCounter 12 203 3 0 0 2 := ⟨⟨by decide, by decide, rfl, by decide, rfl, by decide⟩, iwCounter, wT_in 479 (by decide +kernel) rfl, rfl⟩
set_option maxRecDepth 100000 in
theorem CAT_67 : cV RAT 67 RAT yAT_findAlarm cAT_findAlarm 2 (some (.object "AlarmTables$Alarm")) 1 := ⟨⟨wT_in 109 (by decide +kernel) rfl, wT_in 111 (by decide +kernel) rfl, wT_in 2 (by decide +kernel) rfl, wT_in 25 (by decide +kernel) rfl⟩, wT_in 112 rfl rfl, by decide +kernel⟩
set_option maxRecDepth 100000 in
theorem FAT_87 : fdOk RAT RAlarm RAlarm TAlarm 7 87 2 3 0 1 := ⟨⟨by decide, by decide, rfl, by decide, rfl, by decide⟩, iwAlarm, wT_in 142 (by decide +kernel) rfl, rfl⟩
set_option maxRecDepth 100000 in
theorem GAlarm_isSet : fdPut TAlarm 7 3 (.boolean) false := ⟨rfl, tyAlarm_ok 3 (by decide), ⟨tyAlarm, tyAlarm_ok⟩, nmAlarm⟩
set_option maxRecDepth 100000 in
theorem FAT_91 : fdOk RAT RAlarm RAlarm TAlarm 7 91 2 1 2 2 := ⟨⟨by decide, by decide, rfl, by decide, rfl, by decide⟩, iwAlarm, wT_in 139 (by decide +kernel) rfl, rfl⟩
set_option maxRecDepth 100000 in
theorem FAT_95 : fdOk RAT RCounter RCounter TCounter 12 95 3 1 1 2 := ⟨⟨by decide, by decide, rfl, by decide, rfl, by decide⟩, iwCounter, wT_in 481 (by decide +kernel) rfl, rfl⟩
set_option maxRecDepth 100000 in
theorem FAT_101 : fdOk RAT RAlarm RAlarm TAlarm 7 101 2 5 1 1 := ⟨⟨by decide, by decide, rfl, by decide, rfl, by decide⟩, iwAlarm, wT_in 145 (by decide +kernel) rfl, rfl⟩
set_option maxRecDepth 100000 in
theorem GAlarm_cycle : fdPut TAlarm 7 5 (.long) false := ⟨rfl, tyAlarm_ok 5 (by decide), ⟨tyAlarm, tyAlarm_ok⟩, nmAlarm⟩
set_option maxRecDepth 100000 in
theorem CAT_108 : cV RAT 108 RAlarm yAlarm_becomeDue cAlarm_becomeDue 3 none 1 := ⟨⟨wT_in 180 (by decide +kernel) rfl, wT_in 181 (by decide +kernel) rfl, wT_in 182 (by decide +kernel) rfl, wT_in 33 (by decide +kernel) rfl⟩, wT_in 183 rfl rfl, by decide +kernel⟩
set_option maxRecDepth 100000 in
theorem CAT_104 : cV RAT 104 RCounter yCounter_stepsUntil cCounter_stepsUntil 5 (some .long) 1 := ⟨⟨wT_in 176 (by decide +kernel) rfl, wT_in 177 (by decide +kernel) rfl, wT_in 178 (by decide +kernel) rfl, wT_in 32 (by decide +kernel) rfl⟩, wT_in 179 rfl rfl, by decide +kernel⟩
set_option maxRecDepth 100000 in
theorem QAT_99 : Cond.constantLong RAT 99 2 ∈ wT := wT_in 175 (by decide +kernel) rfl
set_option maxRecDepth 100000 in
theorem CAT_124 : cV RAT 124 RAT yAT_findTable cAT_findTable 2 (some (.object "AlarmTables$Table")) 1 := ⟨⟨wT_in 261 (by decide +kernel) rfl, wT_in 263 (by decide +kernel) rfl, wT_in 4 (by decide +kernel) rfl, wT_in 25 (by decide +kernel) rfl⟩, wT_in 264 rfl rfl, by decide +kernel⟩
set_option maxRecDepth 100000 in
theorem FAT_131 : fdOk RAT RTable RTable TTable 12 131 7 5 0 8 := ⟨⟨by decide, by decide, rfl, by decide, rfl, by decide⟩, iwTable, wT_in 216 (by decide +kernel) rfl, rfl⟩
set_option maxRecDepth 100000 in
theorem QAT_112 : Cond.constantLong RAT 112 1000000 ∈ wT := wT_in 199 (by decide +kernel) rfl
set_option maxRecDepth 100000 in
theorem FAT_151 : fdOk RAT RTable RTable TTable 12 151 7 9 1 11 := ⟨⟨by decide, by decide, rfl, by decide, rfl, by decide⟩, iwTable, wT_in 224 (by decide +kernel) rfl, rfl⟩
set_option maxRecDepth 100000 in
theorem FAT_138 : fdOk RAT RTable RTable TTable 12 138 7 1 2 13 := ⟨⟨by decide, by decide, rfl, by decide, rfl, by decide⟩, iwTable, wT_in 208 (by decide +kernel) rfl, rfl⟩
set_option maxRecDepth 100000 in
theorem FAT_154 : fdOk RAT RCounter RCounter TCounter 12 154 3 5 1 6 := ⟨⟨by decide, by decide, rfl, by decide, rfl, by decide⟩, iwCounter, wT_in 490 (by decide +kernel) rfl, rfl⟩
set_option maxRecDepth 100000 in
theorem CAT_157 : cV RAT 157 RTable yTable_runFrom cTable_runFrom 3 none 1 := ⟨⟨wT_in 301 (by decide +kernel) rfl, wT_in 302 (by decide +kernel) rfl, wT_in 303 (by decide +kernel) rfl, wT_in 36 (by decide +kernel) rfl⟩, wT_in 304 rfl rfl, by decide +kernel⟩
set_option maxRecDepth 100000 in
theorem FAT_160 : fdOk RAT RTable RTable TTable 12 160 7 7 1 10 := ⟨⟨by decide, by decide, rfl, by decide, rfl, by decide⟩, iwTable, wT_in 220 (by decide +kernel) rfl, rfl⟩
set_option maxRecDepth 100000 in
theorem CAT_163 : cV RAT 163 RCounter yCounter_wakeAt cCounter_wakeAt 3 none 1 := ⟨⟨wT_in 305 (by decide +kernel) rfl, wT_in 185 (by decide +kernel) rfl, wT_in 186 (by decide +kernel) rfl, wT_in 32 (by decide +kernel) rfl⟩, wT_in 187 rfl rfl, by decide +kernel⟩
set_option maxRecDepth 100000 in
theorem FAT_166 : fdOk RAT RTable RTable TTable 12 166 7 10 2 16 := ⟨⟨by decide, by decide, rfl, by decide, rfl, by decide⟩, iwTable, wT_in 225 (by decide +kernel) rfl, rfl⟩
set_option maxRecDepth 100000 in
theorem GTable_told : fdPut TTable 12 10 (.object "AlarmTables$Table") false := ⟨rfl, tyTable_ok 10 (by decide), ⟨tyTable, tyTable_ok⟩, nmTable⟩
set_option maxRecDepth 100000 in
theorem QAT_170 : Cond.constantLong RAT 170 (-1000) ∈ wT := wT_in 314 (by decide +kernel) rfl
set_option maxRecDepth 100000 in
theorem QAT_36 : Cond.constantLong RAT 36 1000 ∈ wT := wT_in 315 (by decide +kernel) rfl
end
section
def Page_init_S (S : HS) (t : Nat) : HS :=
  (sfr (newB S (hz S) 11 1000) 10 t (some (hz S)))
set_option maxRecDepth 20000 in
set_option maxHeartbeats 2000000 in
theorem c_Page_init (l : Launch) (D : va_G) (AC : Nat → ClassId) (S : HS) (t : Nat)  (k_t : kd S t = 5) : CtV l yPage_init (Cond.code yPage_init cPage_init 1 none :: wT) 1 12 D AC S [.ref t] 1 1000 (fun S' => S' = Page_init_S S t) := by
  refine met_of (by decide) (Nat.le_of_ble_eq_true rfl) ?_
  intro p e s m below meth c ls hsz X hW hl
  obtain ⟨hx, hb, hml, hr, hlk, hown, hnm, hts⟩ := X
  have hl : lv_has ls 1 [(0, .ref t)] := hl
  have mo : mono S S := mono.rf S
  refine lv_aload_n hx hb dPage_init_0 rfl (lv_at hl 0 rfl) ?_
  refine o_init OPage_3 hx hb hown hts hml hl.1 dPage_init_1 (Nat.le_of_ble_eq_true rfl) (Nat.le_of_ble_eq_true rfl) ?_
  refine lv_aload_n hx hb dPage_init_4 rfl (lv_at hl 0 rfl) ?_
  refine lv_sipush (v := (1000 : Int32)) hx hb dPage_init_5 (by decide) ?_
  refine n_i (K := 11) (t0 := 0) ⟨by decide, by decide, fun k => rO_obj k 11 (by decide) (by decide)⟩ rfl rfl ⟨fun C h => (by cases h), rfl⟩ NI_int hx hb hts hW (n := 1000) (by decide) ⟨by decide, by decide⟩ ⟨Nat.le_of_ble_eq_true rfl, Nat.le_of_ble_eq_true rfl⟩ (hz S) rfl dPage_init_8 (fun H hW m_1 k_q1 => ?_)
  have k_t := m_1.k k_t (by decide)
  have mo := mo.tr m_1
  refine p_r FPage_9 GPage_cells ⟨rfl, rfl⟩ (fun _ => ⟨hnm, rfl⟩) hx hb hts hown hW k_t k_q1 dPage_init_10 (fun H locs hW => ?_)
  have mo := mo.tr (mono_sfr (k := 10) (a := t) (v := (some (hz S))))
  exact e_v hsz hx hb hr hlk hW (mo) (Nat.le_of_ble_eq_true rfl) (Nat.le_of_ble_eq_true rfl) dPage_init_13 (rfl)

def Notes_init_S (S : HS) (t : Nat) : HS :=
  (sfr (newB S (hz S) 17 12) 9 t (some (hz S)))
set_option maxRecDepth 20000 in
set_option maxHeartbeats 2000000 in
theorem c_Notes_init (l : Launch) (D : va_G) (AC : Nat → ClassId) (S : HS) (t : Nat)  (k_t : kd S t = 4) : CtV l yNotes_init (Cond.code yNotes_init cNotes_init 1 none :: wT) 1 12 D AC S [.ref t] 1 12 (fun S' => S' = Notes_init_S S t) := by
  refine met_of (by decide) (Nat.le_of_ble_eq_true rfl) ?_
  intro p e s m below meth c ls hsz X hW hl
  obtain ⟨hx, hb, hml, hr, hlk, hown, hnm, hts⟩ := X
  have hl : lv_has ls 1 [(0, .ref t)] := hl
  have mo : mono S S := mono.rf S
  refine lv_aload_n hx hb dNotes_init_0 rfl (lv_at hl 0 rfl) ?_
  refine o_init ONotes_3 hx hb hown hts hml hl.1 dNotes_init_1 (Nat.le_of_ble_eq_true rfl) (Nat.le_of_ble_eq_true rfl) ?_
  refine lv_aload_n hx hb dNotes_init_4 rfl (lv_at hl 0 rfl) ?_
  refine lv_bipush (v := (12 : Int32)) hx hb dNotes_init_5 (by decide) ?_
  refine n_r (K := 17) (t0 := 6) ⟨by decide, by decide, fun k => rO_obj k 17 (by decide) (by decide)⟩ rfl NANotes_9 hx hb hts hown hW (n := 12) (by decide) (by decide) ⟨Nat.le_of_ble_eq_true rfl, Nat.le_of_ble_eq_true rfl⟩ (hz S) rfl dNotes_init_7 (fun H hW m_1 k_q1 => ?_)
  have k_t := m_1.k k_t (by decide)
  have mo := mo.tr m_1
  refine p_r FNotes_11 GNotes_pages ⟨rfl, rfl⟩ (fun _ => ⟨hnm, rfl⟩) hx hb hts hown hW k_t k_q1 dNotes_init_10 (fun H locs hW => ?_)
  have mo := mo.tr (mono_sfr (k := 9) (a := t) (v := (some (hz S))))
  exact e_v hsz hx hb hr hlk hW (mo) (Nat.le_of_ble_eq_true rfl) (Nat.le_of_ble_eq_true rfl) dNotes_init_13 (rfl)

theorem vin_0 {x : Int32} {j N n : Nat} (h : x = nI j) (hn : n = N) (hj : j < N) (hN : N < 2 ^ 31) : vp_in x n := by
  subst h; subst hn
  exact vp_in_nI hj hN
theorem vin_a {x : Int32} {j N n : Nat} (k : Nat) (h : x = nI j) (hn : n = N) (hj : j + k < N) (hN : N < 2 ^ 31) : vp_in (x + nI k) n := by
  subst h; subst hn
  rw [nI_add]
  exact vp_in_nI hj hN

theorem wr_le {x : Int32} {j n : Nat} (h : x = nI j) (hn : n = 1000) (hj : j + 4 ≤ 1000) : ¬ nI n < x + 4 := by
  subst h; subst hn
  rw [show nI j + 4 = nI (j + 4) from nI_add j 4]
  exact nI_nlt hj (by decide)

def write_S (S : HS) (t : Nat) (at_ : Int32) (kn : Int32) (nb : Int32) (of_ : Int64) (vl : Int64) : HS :=
  (sai (sai (sai (sai S (gd (fr S 10 t)) at_.toNatClampNeg kn) (gd (fr S 10 t)) (at_ + (1 : Int32)).toNatClampNeg nb) (gd (fr S 10 t)) (at_ + (2 : Int32)).toNatClampNeg of_.toInt32) (gd (fr S 10 t)) (at_ + (3 : Int32)).toNatClampNeg vl.toInt32)
set_option maxRecDepth 20000 in
set_option maxHeartbeats 2000000 in
theorem c_write (l : Launch) (D : va_G) (AC : Nat → ClassId) (S : HS) (t : Nat) (at_ : Int32) (kn : Int32) (nb : Int32) (of_ : Int64) (vl : Int64)  (k_t : kd S t = 5) (hn : nn S) (hat : at_ = nI at_.toNatClampNeg) (hj : at_.toNatClampNeg + 4 ≤ 1000) (hlen : an S (gd (fr S 10 t)) = 1000) : CtV l yPage_write (Cond.code yPage_write cPage_write 8 none :: wT) 0 0 D AC S [.ref t, .int at_, .int kn, .int nb, .long of_, .long vl] 0 0 (fun S' => S' = write_S S t at_ kn nb of_ vl) := by
  refine met_of (by decide) (Nat.le_of_ble_eq_true rfl) ?_
  intro p e s m below meth c ls hsz X hW hl
  obtain ⟨hx, hb, hml, hr, hlk, hown, hnm, hts⟩ := X
  have hl : lv_has ls 8 [(0, .ref t), (1, .int at_), (2, .int kn), (3, .int nb), (4, .long of_), (6, .long vl)] := hl
  have mo : mono S S := mono.rf S
  refine lv_iload_n hx hb dPage_write_0 rfl (lv_at hl 1 rfl) ?_
  refine lv_if_lt (tgt := 53) hx hb dPage_write_1 (by decide) (fun c_1 => ?_) (fun c_1 => ?_)
  · exact absurd c_1 (by rw [hat]; exact nI_pos (by omega))
  · refine lv_iload_n hx hb dPage_write_4 rfl (lv_at hl 1 rfl) ?_
    refine lv_iconst (v := (4 : Int32)) hx hb dPage_write_5 (by decide) ?_
    refine lv_iadd hx hb dPage_write_6 ?_
    refine lv_aload_n hx hb dPage_write_7 rfl (lv_at hl 0 rfl) ?_
    have kq_2 : ∀ b, fr S 10 t = some b → kd S b = 11 := fun b h => hW.ok.2.1 10 t b k_t h
    refine g_q FPage_9 hx hb hts hown hW k_t dPage_write_8 ?_
    have n_3 : fr S 10 t = some (gd (fr S 10 t)) := gd_some (hn 10 t rfl k_t)
    have kb_4 : kd S (gd (fr S 10 t)) = 11 := kq_2 (gd (fr S 10 t)) n_3
    refine q_some n_3 ?_
    refine a_len (K := 11) (t0 := 0) (by decide) rfl hx hb hW kb_4 dPage_write_11 ?_
    refine lv_icmp_gt (tgt := 53) hx hb dPage_write_12 (by decide) (fun c_5 => ?_) (fun c_5 => ?_)
    · exact absurd c_5 (wr_le hat hlen hj)
    · refine lv_aload_n hx hb dPage_write_15 rfl (lv_at hl 0 rfl) ?_
      refine g_q FPage_9 hx hb hts hown hW k_t dPage_write_16 ?_
      refine lv_iload_n hx hb dPage_write_19 rfl (lv_at hl 1 rfl) ?_
      refine lv_iload_n hx hb dPage_write_20 rfl (lv_at hl 2 rfl) ?_
      refine q_some2 n_3 ?_
      refine a_is (K := 11) (t0 := 0) (by decide) rfl hx hb hW kb_4 (vin_0 hat hlen (by omega) (by decide)) dPage_write_21 (fun H locs hW => ?_)
      have mo := mo.tr (mono_sai (a := (gd (fr S 10 t))) (i := at_.toNatClampNeg) (v := kn))
      have nnp_6 : nn (sai S (gd (fr S 10 t)) at_.toNatClampNeg kn) := nn_sai hn
      refine lv_aload_n hx hb dPage_write_22 rfl (lv_at hl 0 rfl) ?_
      refine g_q FPage_9 hx hb hts hown hW k_t dPage_write_23 ?_
      rw [show fr (sai S (gd (fr S 10 t)) at_.toNatClampNeg kn) 10 t = fr S 10 t from rfl]
      refine lv_iload_n hx hb dPage_write_26 rfl (lv_at hl 1 rfl) ?_
      refine lv_iconst (v := (1 : Int32)) hx hb dPage_write_27 (by decide) ?_
      refine lv_iadd hx hb dPage_write_28 ?_
      refine lv_iload_n hx hb dPage_write_29 rfl (lv_at hl 3 rfl) ?_
      refine q_some2 n_3 ?_
      refine a_is (K := 11) (t0 := 0) (by decide) rfl hx hb hW kb_4 (vin_a 1 hat hlen (by omega) (by decide)) dPage_write_30 (fun H locs hW => ?_)
      have mo := mo.tr (mono_sai (a := (gd (fr S 10 t))) (i := (at_ + (1 : Int32)).toNatClampNeg) (v := nb))
      have nnp_7 : nn (sai (sai S (gd (fr S 10 t)) at_.toNatClampNeg kn) (gd (fr S 10 t)) (at_ + (1 : Int32)).toNatClampNeg nb) := nn_sai nnp_6
      refine lv_aload_n hx hb dPage_write_31 rfl (lv_at hl 0 rfl) ?_
      refine g_q FPage_9 hx hb hts hown hW k_t dPage_write_32 ?_
      rw [show fr (sai (sai S (gd (fr S 10 t)) at_.toNatClampNeg kn) (gd (fr S 10 t)) (at_ + (1 : Int32)).toNatClampNeg nb) 10 t = fr S 10 t from rfl]
      refine lv_iload_n hx hb dPage_write_35 rfl (lv_at hl 1 rfl) ?_
      refine lv_iconst (v := (2 : Int32)) hx hb dPage_write_36 (by decide) ?_
      refine lv_iadd hx hb dPage_write_37 ?_
      refine lv_lload hx hb dPage_write_38 (lv_at hl 4 rfl) ?_
      refine lv_l2i hx hb dPage_write_40 rfl ?_
      refine q_some2 n_3 ?_
      refine a_is (K := 11) (t0 := 0) (by decide) rfl hx hb hW kb_4 (vin_a 2 hat hlen (by omega) (by decide)) dPage_write_41 (fun H locs hW => ?_)
      have mo := mo.tr (mono_sai (a := (gd (fr S 10 t))) (i := (at_ + (2 : Int32)).toNatClampNeg) (v := of_.toInt32))
      have nnp_8 : nn (sai (sai (sai S (gd (fr S 10 t)) at_.toNatClampNeg kn) (gd (fr S 10 t)) (at_ + (1 : Int32)).toNatClampNeg nb) (gd (fr S 10 t)) (at_ + (2 : Int32)).toNatClampNeg of_.toInt32) := nn_sai nnp_7
      refine lv_aload_n hx hb dPage_write_42 rfl (lv_at hl 0 rfl) ?_
      refine g_q FPage_9 hx hb hts hown hW k_t dPage_write_43 ?_
      rw [show fr (sai (sai (sai S (gd (fr S 10 t)) at_.toNatClampNeg kn) (gd (fr S 10 t)) (at_ + (1 : Int32)).toNatClampNeg nb) (gd (fr S 10 t)) (at_ + (2 : Int32)).toNatClampNeg of_.toInt32) 10 t = fr S 10 t from rfl]
      refine lv_iload_n hx hb dPage_write_46 rfl (lv_at hl 1 rfl) ?_
      refine lv_iconst (v := (3 : Int32)) hx hb dPage_write_47 (by decide) ?_
      refine lv_iadd hx hb dPage_write_48 ?_
      refine lv_lload hx hb dPage_write_49 (lv_at hl 5 rfl) ?_
      refine lv_l2i hx hb dPage_write_51 rfl ?_
      refine q_some2 n_3 ?_
      refine a_is (K := 11) (t0 := 0) (by decide) rfl hx hb hW kb_4 (vin_a 3 hat hlen (by omega) (by decide)) dPage_write_52 (fun H locs hW => ?_)
      have mo := mo.tr (mono_sai (a := (gd (fr S 10 t))) (i := (at_ + (3 : Int32)).toNatClampNeg) (v := vl.toInt32))
      have nnp_9 : nn (sai (sai (sai (sai S (gd (fr S 10 t)) at_.toNatClampNeg kn) (gd (fr S 10 t)) (at_ + (1 : Int32)).toNatClampNeg nb) (gd (fr S 10 t)) (at_ + (2 : Int32)).toNatClampNeg of_.toInt32) (gd (fr S 10 t)) (at_ + (3 : Int32)).toNatClampNeg vl.toInt32) := nn_sai nnp_8
      exact e_v hsz hx hb hr hlk hW (mo) (Nat.le_of_ble_eq_true rfl) (Nat.le_of_ble_eq_true rfl) dPage_write_53 (rfl)

def has_R (S : HS) (t : Nat) (i : Int32) : Int32 :=
  if i < 0 then
    (0 : Int32)
  else
    if (fi S 4 t) ≤ i then
      (0 : Int32)
    else
      (1 : Int32)
set_option maxRecDepth 20000 in
set_option maxHeartbeats 2000000 in
theorem c_has (l : Launch) (D : va_G) (AC : Nat → ClassId) (S : HS) (t : Nat) (i : Int32)  (k_t : kd S t = 4) : CtI l yNotes_has (Cond.code yNotes_has cNotes_has 2 (some .boolean) :: wT) 0 0 D AC S [.ref t, .int i] 0 0 (fun r S' => r = has_R S t i ∧ S' = S) := by
  refine met_of (by decide) (Nat.le_of_ble_eq_true rfl) ?_
  intro p e s m below meth c ls hsz X hW hl
  obtain ⟨hx, hb, hml, hr, hlk, hown, hnm, hts⟩ := X
  have hl : lv_has ls 2 [(0, .ref t), (1, .int i)] := hl
  have mo : mono S S := mono.rf S
  refine lv_iload_n hx hb dNotes_has_0 rfl (lv_at hl 1 rfl) ?_
  refine lv_if_lt (tgt := 16) hx hb dNotes_has_1 (by decide) (fun c_1 => ?_) (fun c_1 => ?_)
  · refine lv_iconst (v := (0 : Int32)) hx hb dNotes_has_16 (by decide) ?_
    exact e_z hsz hx hb hr hlk hW (mono.rf S) (Nat.le_of_ble_eq_true rfl) (Nat.le_of_ble_eq_true rfl) dNotes_has_17 (rfl) ⟨(by refine Eq.symm ?_; refine (if_pos c_1).trans ?_; rfl), rfl⟩
  · refine lv_iload_n hx hb dNotes_has_4 rfl (lv_at hl 1 rfl) ?_
    refine lv_aload_n hx hb dNotes_has_5 rfl (lv_at hl 0 rfl) ?_
    refine g_i FNotes_21 hx hb hts hown hW k_t dNotes_has_6 ?_
    refine lv_icmp_ge (tgt := 16) hx hb dNotes_has_9 (by decide) (fun c_2 => ?_) (fun c_2 => ?_)
    · refine lv_iconst (v := (0 : Int32)) hx hb dNotes_has_16 (by decide) ?_
      exact e_z hsz hx hb hr hlk hW (mono.rf S) (Nat.le_of_ble_eq_true rfl) (Nat.le_of_ble_eq_true rfl) dNotes_has_17 (rfl) ⟨(by refine Eq.symm ?_; refine (if_neg c_1).trans ?_; refine (if_pos c_2).trans ?_; rfl), rfl⟩
    · refine lv_iconst (v := (1 : Int32)) hx hb dNotes_has_12 (by decide) ?_
      refine lv_goto (tgt := 17) hx hb dNotes_has_13 (by decide) ?_
      exact e_z hsz hx hb hr hlk hW (mono.rf S) (Nat.le_of_ble_eq_true rfl) (Nat.le_of_ble_eq_true rfl) dNotes_has_17 (rfl) ⟨(by refine Eq.symm ?_; refine (if_neg c_1).trans ?_; refine (if_neg c_2).trans ?_; rfl), rfl⟩

theorem fnd_in {x cc : Int32} {n N len : Nat} (h : cc = nI n) (hn : n ≤ N) (hN : N < 2 ^ 31) (c1 : ¬ x < 1) (c2 : ¬ cc < x) (hl : len = N) : vp_in (x - 1) len := by
  subst h; subst hl
  rw [vp_in_iff]
  have h1 : (1 : Int32).toInt = 1 := rfl
  rw [Int32.lt_iff_toInt_lt, h1] at c1
  rw [Int32.lt_iff_toInt_lt, nI_toInt (by omega)] at c2
  have h2 : (x - 1).toInt = x.toInt - 1 := by
    rw [Int32.toInt_sub, h1]
    exact Int.bmod_eq_of_le (by omega) (by omega)
  rw [h2]
  omega
/-- the object's counts and arrays -/
def atOk (S : HS) (x : Nat) : Prop := (∃ n, n ≤ 20 ∧ fi S 10 x = nI n) ∧ (∃ n, n ≤ 100 ∧ fi S 11 x = nI n) ∧ (∃ n, n ≤ 20 ∧ fi S 12 x = nI n) ∧ an S (gd (fr S 18 x)) = 20 ∧ an S (gd (fr S 19 x)) = 100 ∧ an S (gd (fr S 20 x)) = 20

def findCounter_R (S : HS) (t : Nat) (n : Int32) : Option Nat :=
  if n < (1 : Int32) then
    none
  else
    if (fi S 10 t) < n then
      none
    else
      ar S (gd (fr S 18 t)) (n - (1 : Int32)).toNatClampNeg
set_option maxRecDepth 20000 in
set_option maxHeartbeats 2000000 in
theorem c_findCounter (l : Launch) (D : va_G) (AC : Nat → ClassId) (S : HS) (t : Nat) (n : Int32)  (k_t : kd S t = 8) (hn : nn S) (ha : atOk S t) : CtQ l yAT_findCounter (Cond.code yAT_findCounter cAT_findCounter 2 (some (.object "AlarmTables$Counter")) :: wT) 0 0 D AC S [.ref t, .int n] 0 0 (fun r S' => r = findCounter_R S t n ∧ S' = S) := by
  refine met_of (by decide) (Nat.le_of_ble_eq_true rfl) ?_
  intro p e s m below meth c ls hsz X hW hl
  obtain ⟨hx, hb, hml, hr, hlk, hown, hnm, hts⟩ := X
  have hl : lv_has ls 2 [(0, .ref t), (1, .int n)] := hl
  have mo : mono S S := mono.rf S
  refine lv_iload_n hx hb dAT_findCounter_0 rfl (lv_at hl 1 rfl) ?_
  refine lv_iconst (v := (1 : Int32)) hx hb dAT_findCounter_1 (by decide) ?_
  refine lv_icmp_lt (tgt := 24) hx hb dAT_findCounter_2 (by decide) (fun c_1 => ?_) (fun c_1 => ?_)
  · refine lv_null hx hb dAT_findCounter_24 ?_
    exact e_q (r := none) hsz hx hb hr hlk hW (mono.rf S) (Nat.le_of_ble_eq_true rfl) (Nat.le_of_ble_eq_true rfl) dAT_findCounter_25 ⟨(by refine Eq.symm ?_; refine (if_pos c_1).trans ?_; rfl), rfl⟩
  · refine lv_iload_n hx hb dAT_findCounter_5 rfl (lv_at hl 1 rfl) ?_
    refine lv_aload_n hx hb dAT_findCounter_6 rfl (lv_at hl 0 rfl) ?_
    refine g_i FAT_38 hx hb hts hown hW k_t dAT_findCounter_7 ?_
    refine lv_icmp_gt (tgt := 24) hx hb dAT_findCounter_10 (by decide) (fun c_2 => ?_) (fun c_2 => ?_)
    · refine lv_null hx hb dAT_findCounter_24 ?_
      exact e_q (r := none) hsz hx hb hr hlk hW (mono.rf S) (Nat.le_of_ble_eq_true rfl) (Nat.le_of_ble_eq_true rfl) dAT_findCounter_25 ⟨(by refine Eq.symm ?_; refine (if_neg c_1).trans ?_; refine (if_pos c_2).trans ?_; rfl), rfl⟩
    · refine lv_aload_n hx hb dAT_findCounter_13 rfl (lv_at hl 0 rfl) ?_
      have kq_3 : ∀ b, fr S 18 t = some b → kd S b = 14 := fun b h => hW.ok.2.1 18 t b k_t h
      refine g_q FAT_11 hx hb hts hown hW k_t dAT_findCounter_14 ?_
      refine lv_iload_n hx hb dAT_findCounter_17 rfl (lv_at hl 1 rfl) ?_
      refine lv_iconst (v := (1 : Int32)) hx hb dAT_findCounter_18 (by decide) ?_
      refine lv_isub hx hb dAT_findCounter_19 ?_
      have n_4 : fr S 18 t = some (gd (fr S 18 t)) := gd_some (hn 18 t rfl k_t)
      have kb_5 : kd S (gd (fr S 18 t)) = 14 := kq_3 (gd (fr S 18 t)) n_4
      refine q_some1 n_4 ?_
      have kq_6 : ∀ b, ar S (gd (fr S 18 t)) (n - (1 : Int32)).toNatClampNeg = some b → kd S b = 3 := fun b h => (hW.ok.2.2 (gd (fr S 18 t)) _ b (by rw [kb_5]; decide) h).trans (by rw [kb_5]; rfl)
      refine a_q (K := 14) (t0 := 3) (by decide) rfl hx hb hW kb_5 (fnd_in (Classical.choose_spec ha.1).2 (Classical.choose_spec ha.1).1 (by decide) c_1 c_2 ha.2.2.2.1) dAT_findCounter_20 ?_
      refine lv_goto (tgt := 25) hx hb dAT_findCounter_21 (by decide) ?_
      exact e_q (r := ar S (gd (fr S 18 t)) (n - (1 : Int32)).toNatClampNeg) hsz hx hb hr hlk hW (mono.rf S) (Nat.le_of_ble_eq_true rfl) (Nat.le_of_ble_eq_true rfl) dAT_findCounter_25 ⟨(by refine Eq.symm ?_; refine (if_neg c_1).trans ?_; refine (if_neg c_2).trans ?_; rfl), rfl⟩

theorem kq_findCounter {S : HS} {t : Nat} (h : hOk S) (k_t : kd S t = 8) (hn : nn S) (n : Int32) : ∀ b, findCounter_R S t n = some b → kd S b = 3 := by
  intro b hb
  have h1 := gd_some (hn 18 t rfl k_t)
  have h2 : kd S (gd (fr S 18 t)) = 14 := h.2.1 18 t _ k_t h1
  have h3 : ∀ j, ar S (gd (fr S 18 t)) j = some b → kd S b = 3 := fun j hj => (h.2.2 _ j b (by rw [h2]; decide) hj).trans (by rw [h2]; rfl)
  unfold findCounter_R at hb
  split at hb
  · cases hb
  · split at hb
    · cases hb
    · exact h3 _ hb

def findAlarm_R (S : HS) (t : Nat) (n : Int32) : Option Nat :=
  if n < (1 : Int32) then
    none
  else
    if (fi S 11 t) < n then
      none
    else
      ar S (gd (fr S 19 t)) (n - (1 : Int32)).toNatClampNeg
set_option maxRecDepth 20000 in
set_option maxHeartbeats 2000000 in
theorem c_findAlarm (l : Launch) (D : va_G) (AC : Nat → ClassId) (S : HS) (t : Nat) (n : Int32)  (k_t : kd S t = 8) (hn : nn S) (ha : atOk S t) : CtQ l yAT_findAlarm (Cond.code yAT_findAlarm cAT_findAlarm 2 (some (.object "AlarmTables$Alarm")) :: wT) 0 0 D AC S [.ref t, .int n] 0 0 (fun r S' => r = findAlarm_R S t n ∧ S' = S) := by
  refine met_of (by decide) (Nat.le_of_ble_eq_true rfl) ?_
  intro p e s m below meth c ls hsz X hW hl
  obtain ⟨hx, hb, hml, hr, hlk, hown, hnm, hts⟩ := X
  have hl : lv_has ls 2 [(0, .ref t), (1, .int n)] := hl
  have mo : mono S S := mono.rf S
  refine lv_iload_n hx hb dAT_findAlarm_0 rfl (lv_at hl 1 rfl) ?_
  refine lv_iconst (v := (1 : Int32)) hx hb dAT_findAlarm_1 (by decide) ?_
  refine lv_icmp_lt (tgt := 24) hx hb dAT_findAlarm_2 (by decide) (fun c_1 => ?_) (fun c_1 => ?_)
  · refine lv_null hx hb dAT_findAlarm_24 ?_
    exact e_q (r := none) hsz hx hb hr hlk hW (mono.rf S) (Nat.le_of_ble_eq_true rfl) (Nat.le_of_ble_eq_true rfl) dAT_findAlarm_25 ⟨(by refine Eq.symm ?_; refine (if_pos c_1).trans ?_; rfl), rfl⟩
  · refine lv_iload_n hx hb dAT_findAlarm_5 rfl (lv_at hl 1 rfl) ?_
    refine lv_aload_n hx hb dAT_findAlarm_6 rfl (lv_at hl 0 rfl) ?_
    refine g_i FAT_64 hx hb hts hown hW k_t dAT_findAlarm_7 ?_
    refine lv_icmp_gt (tgt := 24) hx hb dAT_findAlarm_10 (by decide) (fun c_2 => ?_) (fun c_2 => ?_)
    · refine lv_null hx hb dAT_findAlarm_24 ?_
      exact e_q (r := none) hsz hx hb hr hlk hW (mono.rf S) (Nat.le_of_ble_eq_true rfl) (Nat.le_of_ble_eq_true rfl) dAT_findAlarm_25 ⟨(by refine Eq.symm ?_; refine (if_neg c_1).trans ?_; refine (if_pos c_2).trans ?_; rfl), rfl⟩
    · refine lv_aload_n hx hb dAT_findAlarm_13 rfl (lv_at hl 0 rfl) ?_
      have kq_3 : ∀ b, fr S 19 t = some b → kd S b = 15 := fun b h => hW.ok.2.1 19 t b k_t h
      refine g_q FAT_17 hx hb hts hown hW k_t dAT_findAlarm_14 ?_
      refine lv_iload_n hx hb dAT_findAlarm_17 rfl (lv_at hl 1 rfl) ?_
      refine lv_iconst (v := (1 : Int32)) hx hb dAT_findAlarm_18 (by decide) ?_
      refine lv_isub hx hb dAT_findAlarm_19 ?_
      have n_4 : fr S 19 t = some (gd (fr S 19 t)) := gd_some (hn 19 t rfl k_t)
      have kb_5 : kd S (gd (fr S 19 t)) = 15 := kq_3 (gd (fr S 19 t)) n_4
      refine q_some1 n_4 ?_
      have kq_6 : ∀ b, ar S (gd (fr S 19 t)) (n - (1 : Int32)).toNatClampNeg = some b → kd S b = 2 := fun b h => (hW.ok.2.2 (gd (fr S 19 t)) _ b (by rw [kb_5]; decide) h).trans (by rw [kb_5]; rfl)
      refine a_q (K := 15) (t0 := 4) (by decide) rfl hx hb hW kb_5 (fnd_in (Classical.choose_spec ha.2.1).2 (Classical.choose_spec ha.2.1).1 (by decide) c_1 c_2 ha.2.2.2.2.1) dAT_findAlarm_20 ?_
      refine lv_goto (tgt := 25) hx hb dAT_findAlarm_21 (by decide) ?_
      exact e_q (r := ar S (gd (fr S 19 t)) (n - (1 : Int32)).toNatClampNeg) hsz hx hb hr hlk hW (mono.rf S) (Nat.le_of_ble_eq_true rfl) (Nat.le_of_ble_eq_true rfl) dAT_findAlarm_25 ⟨(by refine Eq.symm ?_; refine (if_neg c_1).trans ?_; refine (if_neg c_2).trans ?_; rfl), rfl⟩

theorem kq_findAlarm {S : HS} {t : Nat} (h : hOk S) (k_t : kd S t = 8) (hn : nn S) (n : Int32) : ∀ b, findAlarm_R S t n = some b → kd S b = 2 := by
  intro b hb
  have h1 := gd_some (hn 19 t rfl k_t)
  have h2 : kd S (gd (fr S 19 t)) = 15 := h.2.1 19 t _ k_t h1
  have h3 : ∀ j, ar S (gd (fr S 19 t)) j = some b → kd S b = 2 := fun j hj => (h.2.2 _ j b (by rw [h2]; decide) hj).trans (by rw [h2]; rfl)
  unfold findAlarm_R at hb
  split at hb
  · cases hb
  · split at hb
    · cases hb
    · exact h3 _ hb

def findTable_R (S : HS) (t : Nat) (n : Int32) : Option Nat :=
  if n < (1 : Int32) then
    none
  else
    if (fi S 12 t) < n then
      none
    else
      ar S (gd (fr S 20 t)) (n - (1 : Int32)).toNatClampNeg
set_option maxRecDepth 20000 in
set_option maxHeartbeats 2000000 in
theorem c_findTable (l : Launch) (D : va_G) (AC : Nat → ClassId) (S : HS) (t : Nat) (n : Int32)  (k_t : kd S t = 8) (hn : nn S) (ha : atOk S t) : CtQ l yAT_findTable (Cond.code yAT_findTable cAT_findTable 2 (some (.object "AlarmTables$Table")) :: wT) 0 0 D AC S [.ref t, .int n] 0 0 (fun r S' => r = findTable_R S t n ∧ S' = S) := by
  refine met_of (by decide) (Nat.le_of_ble_eq_true rfl) ?_
  intro p e s m below meth c ls hsz X hW hl
  obtain ⟨hx, hb, hml, hr, hlk, hown, hnm, hts⟩ := X
  have hl : lv_has ls 2 [(0, .ref t), (1, .int n)] := hl
  have mo : mono S S := mono.rf S
  refine lv_iload_n hx hb dAT_findTable_0 rfl (lv_at hl 1 rfl) ?_
  refine lv_iconst (v := (1 : Int32)) hx hb dAT_findTable_1 (by decide) ?_
  refine lv_icmp_lt (tgt := 24) hx hb dAT_findTable_2 (by decide) (fun c_1 => ?_) (fun c_1 => ?_)
  · refine lv_null hx hb dAT_findTable_24 ?_
    exact e_q (r := none) hsz hx hb hr hlk hW (mono.rf S) (Nat.le_of_ble_eq_true rfl) (Nat.le_of_ble_eq_true rfl) dAT_findTable_25 ⟨(by refine Eq.symm ?_; refine (if_pos c_1).trans ?_; rfl), rfl⟩
  · refine lv_iload_n hx hb dAT_findTable_5 rfl (lv_at hl 1 rfl) ?_
    refine lv_aload_n hx hb dAT_findTable_6 rfl (lv_at hl 0 rfl) ?_
    refine g_i FAT_114 hx hb hts hown hW k_t dAT_findTable_7 ?_
    refine lv_icmp_gt (tgt := 24) hx hb dAT_findTable_10 (by decide) (fun c_2 => ?_) (fun c_2 => ?_)
    · refine lv_null hx hb dAT_findTable_24 ?_
      exact e_q (r := none) hsz hx hb hr hlk hW (mono.rf S) (Nat.le_of_ble_eq_true rfl) (Nat.le_of_ble_eq_true rfl) dAT_findTable_25 ⟨(by refine Eq.symm ?_; refine (if_neg c_1).trans ?_; refine (if_pos c_2).trans ?_; rfl), rfl⟩
    · refine lv_aload_n hx hb dAT_findTable_13 rfl (lv_at hl 0 rfl) ?_
      have kq_3 : ∀ b, fr S 20 t = some b → kd S b = 16 := fun b h => hW.ok.2.1 20 t b k_t h
      refine g_q FAT_23 hx hb hts hown hW k_t dAT_findTable_14 ?_
      refine lv_iload_n hx hb dAT_findTable_17 rfl (lv_at hl 1 rfl) ?_
      refine lv_iconst (v := (1 : Int32)) hx hb dAT_findTable_18 (by decide) ?_
      refine lv_isub hx hb dAT_findTable_19 ?_
      have n_4 : fr S 20 t = some (gd (fr S 20 t)) := gd_some (hn 20 t rfl k_t)
      have kb_5 : kd S (gd (fr S 20 t)) = 16 := kq_3 (gd (fr S 20 t)) n_4
      refine q_some1 n_4 ?_
      have kq_6 : ∀ b, ar S (gd (fr S 20 t)) (n - (1 : Int32)).toNatClampNeg = some b → kd S b = 7 := fun b h => (hW.ok.2.2 (gd (fr S 20 t)) _ b (by rw [kb_5]; decide) h).trans (by rw [kb_5]; rfl)
      refine a_q (K := 16) (t0 := 5) (by decide) rfl hx hb hW kb_5 (fnd_in (Classical.choose_spec ha.2.2.1).2 (Classical.choose_spec ha.2.2.1).1 (by decide) c_1 c_2 ha.2.2.2.2.2) dAT_findTable_20 ?_
      refine lv_goto (tgt := 25) hx hb dAT_findTable_21 (by decide) ?_
      exact e_q (r := ar S (gd (fr S 20 t)) (n - (1 : Int32)).toNatClampNeg) hsz hx hb hr hlk hW (mono.rf S) (Nat.le_of_ble_eq_true rfl) (Nat.le_of_ble_eq_true rfl) dAT_findTable_25 ⟨(by refine Eq.symm ?_; refine (if_neg c_1).trans ?_; refine (if_neg c_2).trans ?_; rfl), rfl⟩

theorem kq_findTable {S : HS} {t : Nat} (h : hOk S) (k_t : kd S t = 8) (hn : nn S) (n : Int32) : ∀ b, findTable_R S t n = some b → kd S b = 7 := by
  intro b hb
  have h1 := gd_some (hn 20 t rfl k_t)
  have h2 : kd S (gd (fr S 20 t)) = 16 := h.2.1 20 t _ k_t h1
  have h3 : ∀ j, ar S (gd (fr S 20 t)) j = some b → kd S b = 7 := fun j hj => (h.2.2 _ j b (by rw [h2]; decide) hj).trans (by rw [h2]; rfl)
  unfold findTable_R at hb
  split at hb
  · cases hb
  · split at hb
    · cases hb
    · exact h3 _ hb

def wouldCircle_R (S : HS) (o : Nat) (c0 : Option Nat) : Int32 :=
  opc c0 ((0 : Int32))
  (fun b_1 => if (some b_1) = (some o) then
      (1 : Int32)
    else
      if ((fi S 3 b_1) &&& (fi S 2 o)) = 0 then
        (0 : Int32)
      else
        (1 : Int32))
set_option maxRecDepth 20000 in
set_option maxHeartbeats 2000000 in
theorem c_wouldCircle (l : Launch) (D : va_G) (AC : Nat → ClassId) (S : HS) (o : Nat) (c0 : Option Nat)  (k_o : kd S o = 3) (kq_c0 : ∀ b, c0 = some b → kd S b = 3) : CtI l yAT_wouldCircle (Cond.code yAT_wouldCircle cAT_wouldCircle 2 (some .boolean) :: wT) 0 0 D AC S [.ref o, va_rf c0] 0 0 (fun r S' => r = wouldCircle_R S o c0 ∧ S' = S) := by
  refine met_of (by decide) (by simp [lg_sl, q_cat, cat_r, cat_i, cat_l]) ?_
  intro p e s m below meth c ls hsz X hW hl
  obtain ⟨hx, hb, hml, hr, hlk, hown, hnm, hts⟩ := X
  have hl : lv_has ls 2 [(0, .ref o), (1, va_rf c0)] := by simpa [lv_args, q_cat, cat_r, cat_i, cat_l] using hl
  have mo : mono S S := mono.rf S
  refine q_aload_n hx hb dAT_wouldCircle_0 rfl (lv_at hl 1 rfl) ?_
  refine q_ifnull (tgt := 25) hx hb dAT_wouldCircle_1 (by decide) (fun n_1 => ?_) (fun b_1 n_1 => ?_)
  · refine lv_iconst (v := (0 : Int32)) hx hb dAT_wouldCircle_25 (by decide) ?_
    exact e_z hsz hx hb hr hlk hW (mono.rf S) (Nat.le_of_ble_eq_true rfl) (Nat.le_of_ble_eq_true rfl) dAT_wouldCircle_26 (rfl) ⟨(by refine Eq.symm ?_; refine (op_none n_1).trans ?_; rfl), rfl⟩
  · have k_b_1 : kd S b_1 = 3 := kq_c0 b_1 n_1
    refine q_aload_n hx hb dAT_wouldCircle_4 rfl (lv_at hl 1 rfl) ?_
    refine lv_aload_n hx hb dAT_wouldCircle_5 rfl (lv_at hl 0 rfl) ?_
    refine q_some1 n_1 ?_
    refine lv_acmp_eq (rx := some b_1) (ry := some o) (tgt := 21) hx hb dAT_wouldCircle_6 (by decide) (fun c_2 => ?_) (fun c_2 => ?_)
    · refine lv_iconst (v := (1 : Int32)) hx hb dAT_wouldCircle_21 (by decide) ?_
      refine lv_goto (tgt := 26) hx hb dAT_wouldCircle_22 (by decide) ?_
      exact e_z hsz hx hb hr hlk hW (mono.rf S) (Nat.le_of_ble_eq_true rfl) (Nat.le_of_ble_eq_true rfl) dAT_wouldCircle_26 (rfl) ⟨(by refine Eq.symm ?_; refine (op_some n_1).trans ?_; refine (if_pos c_2).trans ?_; rfl), rfl⟩
    · refine q_aload_n hx hb dAT_wouldCircle_9 rfl (lv_at hl 1 rfl) ?_
      refine q_some n_1 ?_
      refine g_i FAT_200 hx hb hts hown hW k_b_1 dAT_wouldCircle_10 ?_
      refine lv_aload_n hx hb dAT_wouldCircle_13 rfl (lv_at hl 0 rfl) ?_
      refine g_i FAT_203 hx hb hts hown hW k_o dAT_wouldCircle_14 ?_
      refine lv_iand hx hb dAT_wouldCircle_17 ?_
      refine lv_if_eq (tgt := 25) hx hb dAT_wouldCircle_18 (by decide) (fun c_3 => ?_) (fun c_3 => ?_)
      · refine lv_iconst (v := (0 : Int32)) hx hb dAT_wouldCircle_25 (by decide) ?_
        exact e_z hsz hx hb hr hlk hW (mono.rf S) (Nat.le_of_ble_eq_true rfl) (Nat.le_of_ble_eq_true rfl) dAT_wouldCircle_26 (rfl) ⟨(by refine Eq.symm ?_; refine (op_some n_1).trans ?_; refine (if_neg c_2).trans ?_; refine (if_pos c_3).trans ?_; rfl), rfl⟩
      · refine lv_iconst (v := (1 : Int32)) hx hb dAT_wouldCircle_21 (by decide) ?_
        refine lv_goto (tgt := 26) hx hb dAT_wouldCircle_22 (by decide) ?_
        exact e_z hsz hx hb hr hlk hW (mono.rf S) (Nat.le_of_ble_eq_true rfl) (Nat.le_of_ble_eq_true rfl) dAT_wouldCircle_26 (rfl) ⟨(by refine Eq.symm ?_; refine (op_some n_1).trans ?_; refine (if_neg c_2).trans ?_; refine (if_neg c_3).trans ?_; rfl), rfl⟩

def cancel_R (S : HS) (t : Nat) (n : Int32) : Int32 :=
  opc (findAlarm_R S t n) ((-1 : Int32))
  (fun b_3 => if (fi S 1 b_3) = 0 then
      (5 : Int32)
    else
      (1 : Int32))
def cancel_S (S : HS) (t : Nat) (n : Int32) : HS :=
  opc (findAlarm_R S t n) (S)
  (fun b_3 => if (fi S 1 b_3) = 0 then
      S
    else
      (sfi S 1 b_3 (0 : Int32)))
set_option maxRecDepth 20000 in
set_option maxHeartbeats 2000000 in
theorem c_cancel (l : Launch) (D : va_G) (AC : Nat → ClassId) (S : HS) (t : Nat) (n : Int32)  (k_t : kd S t = 8) (hn : nn S) (ha : atOk S t) : CtI l yAT_cancel (Cond.code yAT_cancel cAT_cancel 3 (some .int) :: wT) 1 24 D AC S [.ref t, .int n] 0 0 (fun r S' => r = cancel_R S t n ∧ S' = cancel_S S t n) := by
  refine met_of (by decide) (Nat.le_of_ble_eq_true rfl) ?_
  intro p e s m below meth c ls hsz X hW hl
  obtain ⟨hx, hb, hml, hr, hlk, hown, hnm, hts⟩ := X
  have hl : lv_has ls 3 [(0, .ref t), (1, .int n)] := hl
  have mo : mono S S := mono.rf S
  refine lv_aload_n hx hb dAT_cancel_0 rfl (lv_at hl 0 rfl) ?_
  refine lv_iload_n hx hb dAT_cancel_1 rfl (lv_at hl 1 rfl) ?_
  refine k_Vq (As := [.int n]) (rest := []) (c_findAlarm l D AC S t n k_t hn ha) CAT_67 ⟨by decide, by decide, _, rfl, rfl⟩ hx hb hml hown hts hW k_t hl.1 rfl rfl (Nat.le_of_ble_eq_true rfl) ⟨⟨Nat.le_of_ble_eq_true rfl, Nat.le_of_ble_eq_true rfl⟩, ⟨Nat.le_of_ble_eq_true rfl, Nat.le_of_ble_eq_true rfl⟩⟩ dAT_cancel_2 (fun r_1 S_1 H locs e_1 hW m_1 _ => ?_)
  obtain ⟨e1_1, e2_1⟩ := e_1
  rw [e2_1] at hW m_1
  rw [e1_1]
  have kq_2 : ∀ b, (findAlarm_R S t n) = some b → kd S b = 2 := kq_findAlarm hW.ok k_t hn _
  refine q_astore_n (i := 2) (lv' := [(2, va_rf (findAlarm_R S t n)), (0, .ref t), (1, .int n)]) hx hb dAT_cancel_5 rfl hl (by decide) rfl (fun ls hl => ?_)
  refine q_aload_n hx hb dAT_cancel_6 rfl (lv_at hl 0 rfl) ?_
  refine q_ifnonnull (tgt := 12) hx hb dAT_cancel_7 (by decide) (fun n_3 => ?_) (fun b_3 n_3 => ?_)
  · refine lv_iconst (v := (-1 : Int32)) hx hb dAT_cancel_10 (by decide) ?_
    exact e_i hsz hx hb hr hlk hW (mono.rf S) (Nat.le_of_ble_eq_true rfl) (Nat.le_of_ble_eq_true rfl) dAT_cancel_11 ⟨(by refine Eq.symm ?_; refine (op_none n_3).trans ?_; rfl), (by refine Eq.symm ?_; refine (op_none n_3).trans ?_; rfl)⟩
  · have k_b_3 : kd S b_3 = 2 := kq_2 b_3 n_3
    refine q_aload_n hx hb dAT_cancel_12 rfl (lv_at hl 0 rfl) ?_
    refine q_some n_3 ?_
    refine g_i FAT_87 hx hb hts hown hW k_b_3 dAT_cancel_13 ?_
    refine lv_if_ne (tgt := 21) hx hb dAT_cancel_16 (by decide) (fun c_4 => ?_) (fun c_4 => ?_)
    · refine q_aload_n hx hb dAT_cancel_21 rfl (lv_at hl 0 rfl) ?_
      refine lv_iconst (v := (0 : Int32)) hx hb dAT_cancel_22 (by decide) ?_
      refine q_some1 n_3 ?_
      refine p_i FAT_87 GAlarm_isSet (fun h => by cases h) hx hb hts hown hW k_b_3 rfl rfl dAT_cancel_23 (fun H locs hW => ?_)
      have mo := mo.tr (mono_sfi (k := 1) (a := b_3) (v := (0 : Int32)))
      have nnp_5 : nn (sfi S 1 b_3 (0 : Int32)) := nn_sfi hn
      refine lv_iconst (v := (1 : Int32)) hx hb dAT_cancel_26 (by decide) ?_
      exact e_i hsz hx hb hr hlk hW (mo) (Nat.le_of_ble_eq_true rfl) (Nat.le_of_ble_eq_true rfl) dAT_cancel_27 ⟨(by refine Eq.symm ?_; refine (op_some n_3).trans ?_; refine (if_neg c_4).trans ?_; rfl), (by refine Eq.symm ?_; refine (op_some n_3).trans ?_; refine (if_neg c_4).trans ?_; rfl)⟩
    · refine lv_iconst (v := (5 : Int32)) hx hb dAT_cancel_19 (by decide) ?_
      exact e_i hsz hx hb hr hlk hW (mono.rf S) (Nat.le_of_ble_eq_true rfl) (Nat.le_of_ble_eq_true rfl) dAT_cancel_20 ⟨(by refine Eq.symm ?_; refine (op_some n_3).trans ?_; refine (if_pos c_4).trans ?_; rfl), (by refine Eq.symm ?_; refine (op_some n_3).trans ?_; refine (if_pos c_4).trans ?_; rfl)⟩

def set_R (S : HS) (t : Nat) (n : Int32) (at_ : Int64) (cy : Int64) (ab : Int32) : Int32 :=
  opc (findAlarm_R S t n) ((-1 : Int32))
  (fun b_3 => if (fi S 1 b_3) = 0 then
      if ab = 0 then
        if at_ < ((1 : Int32).toInt64) then
          (3 : Int32)
        else
          if at_ < (fl S 2 (gd (fr S 2 b_3))) then
            if cy = (0 : Int64) then
              if ab = 0 then
                (1 : Int32)
              else
                (1 : Int32)
            else
              if cy < (2 : Int64) then
                (4 : Int32)
              else
                if (fl S 2 (gd (fr S 2 b_3))) < cy then
                  (4 : Int32)
                else
                  if ab = 0 then
                    (1 : Int32)
                  else
                    (1 : Int32)
          else
            (3 : Int32)
      else
        if at_ < ((0 : Int32).toInt64) then
          (3 : Int32)
        else
          if at_ < (fl S 2 (gd (fr S 2 b_3))) then
            if cy = (0 : Int64) then
              if ab = 0 then
                (1 : Int32)
              else
                (1 : Int32)
            else
              if cy < (2 : Int64) then
                (4 : Int32)
              else
                if (fl S 2 (gd (fr S 2 b_3))) < cy then
                  (4 : Int32)
                else
                  if ab = 0 then
                    (1 : Int32)
                  else
                    (1 : Int32)
          else
            (3 : Int32)
    else
      (2 : Int32))
def set_S (S : HS) (t : Nat) (n : Int32) (at_ : Int64) (cy : Int64) (ab : Int32) : HS :=
  opc (findAlarm_R S t n) (S)
  (fun b_3 => if (fi S 1 b_3) = 0 then
      if ab = 0 then
        if at_ < ((1 : Int32).toInt64) then
          S
        else
          if at_ < (fl S 2 (gd (fr S 2 b_3))) then
            if cy = (0 : Int64) then
              if ab = 0 then
                (becomeDue_S (sfl (sfi S 1 b_3 (1 : Int32)) 1 b_3 cy) b_3 at_)
              else
                (becomeDue_S (sfl (sfi S 1 b_3 (1 : Int32)) 1 b_3 cy) b_3 (stepsUntil_R (sfl (sfi S 1 b_3 (1 : Int32)) 1 b_3 cy) (gd (fr S 2 b_3)) at_))
            else
              if cy < (2 : Int64) then
                S
              else
                if (fl S 2 (gd (fr S 2 b_3))) < cy then
                  S
                else
                  if ab = 0 then
                    (becomeDue_S (sfl (sfi S 1 b_3 (1 : Int32)) 1 b_3 cy) b_3 at_)
                  else
                    (becomeDue_S (sfl (sfi S 1 b_3 (1 : Int32)) 1 b_3 cy) b_3 (stepsUntil_R (sfl (sfi S 1 b_3 (1 : Int32)) 1 b_3 cy) (gd (fr S 2 b_3)) at_))
          else
            S
      else
        if at_ < ((0 : Int32).toInt64) then
          S
        else
          if at_ < (fl S 2 (gd (fr S 2 b_3))) then
            if cy = (0 : Int64) then
              if ab = 0 then
                (becomeDue_S (sfl (sfi S 1 b_3 (1 : Int32)) 1 b_3 cy) b_3 at_)
              else
                (becomeDue_S (sfl (sfi S 1 b_3 (1 : Int32)) 1 b_3 cy) b_3 (stepsUntil_R (sfl (sfi S 1 b_3 (1 : Int32)) 1 b_3 cy) (gd (fr S 2 b_3)) at_))
            else
              if cy < (2 : Int64) then
                S
              else
                if (fl S 2 (gd (fr S 2 b_3))) < cy then
                  S
                else
                  if ab = 0 then
                    (becomeDue_S (sfl (sfi S 1 b_3 (1 : Int32)) 1 b_3 cy) b_3 at_)
                  else
                    (becomeDue_S (sfl (sfi S 1 b_3 (1 : Int32)) 1 b_3 cy) b_3 (stepsUntil_R (sfl (sfi S 1 b_3 (1 : Int32)) 1 b_3 cy) (gd (fr S 2 b_3)) at_))
          else
            S
    else
      S)
set_option maxRecDepth 20000 in
set_option maxHeartbeats 2000000 in
theorem c_set (l : Launch) (D : va_G) (AC : Nat → ClassId) (S : HS) (t : Nat) (n : Int32) (at_ : Int64) (cy : Int64) (ab : Int32)  (k_t : kd S t = 8) (hn : nn S) (ha : atOk S t) : CtI l yAT_set (Cond.code yAT_set cAT_set 10 (some .int) :: wT) 3 80 D AC S [.ref t, .int n, .long at_, .long cy, .int ab] 0 0 (fun r S' => r = set_R S t n at_ cy ab ∧ S' = set_S S t n at_ cy ab) := by
  refine met_of (by decide) (Nat.le_of_ble_eq_true rfl) ?_
  intro p e s m below meth c ls hsz X hW hl
  obtain ⟨hx, hb, hml, hr, hlk, hown, hnm, hts⟩ := X
  have hl : lv_has ls 10 [(0, .ref t), (1, .int n), (2, .long at_), (4, .long cy), (6, .int ab)] := hl
  have mo : mono S S := mono.rf S
  refine lv_aload_n hx hb dAT_set_0 rfl (lv_at hl 0 rfl) ?_
  refine lv_iload_n hx hb dAT_set_1 rfl (lv_at hl 1 rfl) ?_
  refine k_Vq (As := [.int n]) (rest := []) (c_findAlarm l D AC S t n k_t hn ha) CAT_67 ⟨by decide, by decide, _, rfl, rfl⟩ hx hb hml hown hts hW k_t hl.1 rfl rfl (Nat.le_of_ble_eq_true rfl) ⟨⟨Nat.le_of_ble_eq_true rfl, Nat.le_of_ble_eq_true rfl⟩, ⟨Nat.le_of_ble_eq_true rfl, Nat.le_of_ble_eq_true rfl⟩⟩ dAT_set_2 (fun r_1 S_1 H locs e_1 hW m_1 _ => ?_)
  obtain ⟨e1_1, e2_1⟩ := e_1
  rw [e2_1] at hW m_1
  rw [e1_1]
  have kq_2 : ∀ b, (findAlarm_R S t n) = some b → kd S b = 2 := kq_findAlarm hW.ok k_t hn _
  refine q_astore (lv' := [(7, va_rf (findAlarm_R S t n)), (0, .ref t), (1, .int n), (2, .long at_), (4, .long cy), (6, .int ab)]) hx hb dAT_set_5 hl (by decide) rfl (fun ls hl => ?_)
  refine q_aload hx hb dAT_set_7 (lv_at hl 0 rfl) ?_
  refine q_ifnonnull (tgt := 14) hx hb dAT_set_9 (by decide) (fun n_3 => ?_) (fun b_3 n_3 => ?_)
  · refine lv_iconst (v := (-1 : Int32)) hx hb dAT_set_12 (by decide) ?_
    exact e_i hsz hx hb hr hlk hW (mono.rf S) (Nat.le_of_ble_eq_true rfl) (Nat.le_of_ble_eq_true rfl) dAT_set_13 ⟨(by refine Eq.symm ?_; refine (op_none n_3).trans ?_; rfl), (by refine Eq.symm ?_; refine (op_none n_3).trans ?_; rfl)⟩
  · have k_b_3 : kd S b_3 = 2 := kq_2 b_3 n_3
    refine q_aload hx hb dAT_set_14 (lv_at hl 0 rfl) ?_
    refine q_some n_3 ?_
    refine g_i FAT_87 hx hb hts hown hW k_b_3 dAT_set_16 ?_
    refine lv_if_eq (tgt := 24) hx hb dAT_set_19 (by decide) (fun c_4 => ?_) (fun c_4 => ?_)
    · refine q_aload hx hb dAT_set_24 (lv_at hl 0 rfl) ?_
      refine q_some n_3 ?_
      have kq_5 : ∀ b, fr S 2 b_3 = some b → kd S b = 3 := fun b h => hW.ok.2.1 2 b_3 b k_b_3 h
      refine g_q FAT_91 hx hb hts hown hW k_b_3 dAT_set_26 ?_
      have n_6 : fr S 2 b_3 = some (gd (fr S 2 b_3)) := gd_some (hn 2 b_3 rfl k_b_3)
      have kb_7 : kd S (gd (fr S 2 b_3)) = 3 := kq_5 (gd (fr S 2 b_3)) n_6
      refine q_some n_6 ?_
      refine g_l FAT_95 hx hb hts hown hW kb_7 dAT_set_29 ?_
      refine lv_lstore (lv' := [(8, .long (fl S 2 (gd (fr S 2 b_3)))), (7, va_rf (findAlarm_R S t n)), (0, .ref t), (1, .int n), (2, .long at_), (4, .long cy), (6, .int ab)]) hx hb dAT_set_32 hl (by decide) (by simp [q_cat, cat_r, cat_i, cat_l, cat_n]) (fun ls hl => ?_)
      refine lv_lload_n hx hb dAT_set_34 rfl (lv_at hl 4 rfl) ?_
      refine lv_iload hx hb dAT_set_35 (lv_at hl 6 rfl) ?_
      refine lv_if_eq (tgt := 44) hx hb dAT_set_37 (by decide) (fun c_8 => ?_) (fun c_8 => ?_)
      · refine lv_iconst (v := (1 : Int32)) hx hb dAT_set_44 (by decide) ?_
        refine lv_i2l hx hb dAT_set_45 rfl ?_
        refine ll_lt (tgt := 57) hx hb dAT_set_46 dAT_set_47 (by decide) (fun c_9 => ?_) (fun c_9 => ?_)
        · refine lv_iconst (v := (3 : Int32)) hx hb dAT_set_57 (by decide) ?_
          exact e_i hsz hx hb hr hlk hW (mono.rf S) (Nat.le_of_ble_eq_true rfl) (Nat.le_of_ble_eq_true rfl) dAT_set_58 ⟨(by refine Eq.symm ?_; refine (op_some n_3).trans ?_; refine (if_pos c_4).trans ?_; refine (if_pos c_8).trans ?_; refine (if_pos c_9).trans ?_; rfl), (by refine Eq.symm ?_; refine (op_some n_3).trans ?_; refine (if_pos c_4).trans ?_; refine (if_pos c_8).trans ?_; refine (if_pos c_9).trans ?_; rfl)⟩
        · refine lv_lload_n hx hb dAT_set_50 rfl (lv_at hl 4 rfl) ?_
          refine lv_lload hx hb dAT_set_51 (lv_at hl 0 rfl) ?_
          refine ll_lt (tgt := 59) hx hb dAT_set_53 dAT_set_54 (by decide) (fun c_10 => ?_) (fun c_10 => ?_)
          · refine lv_lload hx hb dAT_set_59 (lv_at hl 5 rfl) ?_
            refine lv_lconst (v := (0 : Int64)) hx hb dAT_set_61 (by decide) ?_
            refine ll_eq (tgt := 85) hx hb dAT_set_62 dAT_set_63 (by decide) (fun c_11 => ?_) (fun c_11 => ?_)
            · refine q_aload hx hb dAT_set_85 (lv_at hl 1 rfl) ?_
              refine lv_iconst (v := (1 : Int32)) hx hb dAT_set_87 (by decide) ?_
              refine q_some1 n_3 ?_
              refine p_i FAT_87 GAlarm_isSet (fun h => by cases h) hx hb hts hown hW k_b_3 rfl rfl dAT_set_88 (fun H locs hW => ?_)
              have mo := mo.tr (mono_sfi (k := 1) (a := b_3) (v := (1 : Int32)))
              have nnp_12 : nn (sfi S 1 b_3 (1 : Int32)) := nn_sfi hn
              refine q_aload hx hb dAT_set_91 (lv_at hl 1 rfl) ?_
              refine lv_lload hx hb dAT_set_93 (lv_at hl 5 rfl) ?_
              refine q_some1 n_3 ?_
              refine p_l FAT_101 GAlarm_cycle (fun h => by cases h) hx hb hts hown hW k_b_3 dAT_set_95 (fun H locs hW => ?_)
              have mo := mo.tr (mono_sfl (k := 1) (a := b_3) (v := cy))
              have nnp_13 : nn (sfl (sfi S 1 b_3 (1 : Int32)) 1 b_3 cy) := nn_sfl nnp_12
              refine q_aload hx hb dAT_set_98 (lv_at hl 1 rfl) ?_
              refine lv_iload hx hb dAT_set_100 (lv_at hl 6 rfl) ?_
              refine lv_if_eq (tgt := 117) hx hb dAT_set_102 (by decide) (fun c_14 => ?_) (fun c_14 => ?_)
              · refine lv_lload_n hx hb dAT_set_117 rfl (lv_at hl 4 rfl) ?_
                refine q_some1 n_3 ?_
                refine k_Vv (As := [.long at_]) (rest := []) (c_becomeDue l D AC (sfl (sfi S 1 b_3 (1 : Int32)) 1 b_3 cy) b_3 at_ k_b_3 nnp_13) CAT_108 ⟨by decide, by decide, _, rfl, rfl⟩ hx hb hml hown hts hW k_b_3 hl.1 rfl rfl (Nat.le_of_ble_eq_true rfl) ⟨⟨Nat.le_of_ble_eq_true rfl, Nat.le_of_ble_eq_true rfl⟩, ⟨Nat.le_of_ble_eq_true rfl, Nat.le_of_ble_eq_true rfl⟩⟩ dAT_set_118 (fun S_15 H locs e_15 hW m_15 _ => ?_)
                rw [e_15] at hW m_15
                have k_t := m_15.k k_t (by decide)
                have k_b_3 := m_15.k k_b_3 (by decide)
                have kb_7 := m_15.k kb_7 (by decide)
                have kq_2 := fun b h => m_15.k (kq_2 b h) (by decide)
                have kq_5 := fun b h => m_15.k (kq_5 b h) (by decide)
                have mo := mo.tr m_15
                have nnp_16 : nn (becomeDue_S (sfl (sfi S 1 b_3 (1 : Int32)) 1 b_3 cy) b_3 at_) := nn_becomeDue nnp_13
                refine lv_iconst (v := (1 : Int32)) hx hb dAT_set_121 (by decide) ?_
                exact e_i hsz hx hb hr hlk hW (mo) (Nat.le_of_ble_eq_true rfl) (Nat.le_of_ble_eq_true rfl) dAT_set_122 ⟨(by refine Eq.symm ?_; refine (op_some n_3).trans ?_; refine (if_pos c_4).trans ?_; refine (if_pos c_8).trans ?_; refine (if_neg c_9).trans ?_; refine (if_pos c_10).trans ?_; refine (if_pos c_11).trans ?_; refine (if_pos c_14).trans ?_; rfl), (by refine Eq.symm ?_; refine (op_some n_3).trans ?_; refine (if_pos c_4).trans ?_; refine (if_pos c_8).trans ?_; refine (if_neg c_9).trans ?_; refine (if_pos c_10).trans ?_; refine (if_pos c_11).trans ?_; refine (if_pos c_14).trans ?_; rfl)⟩
              · refine q_aload hx hb dAT_set_105 (lv_at hl 1 rfl) ?_
                refine q_some n_3 ?_
                refine g_q FAT_91 hx hb hts hown hW k_b_3 dAT_set_107 ?_
                rw [show fr (sfl (sfi S 1 b_3 (1 : Int32)) 1 b_3 cy) 2 b_3 = fr S 2 b_3 from rfl]
                refine lv_lload_n hx hb dAT_set_110 rfl (lv_at hl 4 rfl) ?_
                refine q_some1 n_6 ?_
                refine k_Vl (As := [.long at_]) (rest := [va_rf (findAlarm_R S t n)]) (c_stepsUntil l D AC (sfl (sfi S 1 b_3 (1 : Int32)) 1 b_3 cy) (gd (fr S 2 b_3)) at_ kb_7) CAT_104 ⟨by decide, by decide, _, rfl, rfl⟩ hx hb hml hown hts hW kb_7 hl.1 rfl rfl (by simp [q_cat, cat_r, cat_i, cat_l, cat_n]) ⟨⟨Nat.le_of_ble_eq_true rfl, Nat.le_of_ble_eq_true rfl⟩, ⟨Nat.le_of_ble_eq_true rfl, Nat.le_of_ble_eq_true rfl⟩⟩ dAT_set_111 (fun r_17 S_17 H locs e_17 hW m_17 _ => ?_)
                obtain ⟨e1_17, e2_17⟩ := e_17
                rw [e2_17] at hW m_17
                rw [e1_17]
                refine lv_goto (tgt := 118) hx hb dAT_set_114 (by decide) ?_
                refine q_some1 n_3 ?_
                refine k_Vv (As := [.long (stepsUntil_R (sfl (sfi S 1 b_3 (1 : Int32)) 1 b_3 cy) (gd (fr S 2 b_3)) at_)]) (rest := []) (c_becomeDue l D AC (sfl (sfi S 1 b_3 (1 : Int32)) 1 b_3 cy) b_3 (stepsUntil_R (sfl (sfi S 1 b_3 (1 : Int32)) 1 b_3 cy) (gd (fr S 2 b_3)) at_) k_b_3 nnp_13) CAT_108 ⟨by decide, by decide, _, rfl, rfl⟩ hx hb hml hown hts hW k_b_3 hl.1 rfl rfl (Nat.le_of_ble_eq_true rfl) ⟨⟨Nat.le_of_ble_eq_true rfl, Nat.le_of_ble_eq_true rfl⟩, ⟨Nat.le_of_ble_eq_true rfl, Nat.le_of_ble_eq_true rfl⟩⟩ dAT_set_118 (fun S_18 H locs e_18 hW m_18 _ => ?_)
                rw [e_18] at hW m_18
                have k_t := m_18.k k_t (by decide)
                have k_b_3 := m_18.k k_b_3 (by decide)
                have kb_7 := m_18.k kb_7 (by decide)
                have kq_2 := fun b h => m_18.k (kq_2 b h) (by decide)
                have kq_5 := fun b h => m_18.k (kq_5 b h) (by decide)
                have mo := mo.tr m_18
                have nnp_19 : nn (becomeDue_S (sfl (sfi S 1 b_3 (1 : Int32)) 1 b_3 cy) b_3 (stepsUntil_R (sfl (sfi S 1 b_3 (1 : Int32)) 1 b_3 cy) (gd (fr S 2 b_3)) at_)) := nn_becomeDue nnp_13
                refine lv_iconst (v := (1 : Int32)) hx hb dAT_set_121 (by decide) ?_
                exact e_i hsz hx hb hr hlk hW (mo) (Nat.le_of_ble_eq_true rfl) (Nat.le_of_ble_eq_true rfl) dAT_set_122 ⟨(by refine Eq.symm ?_; refine (op_some n_3).trans ?_; refine (if_pos c_4).trans ?_; refine (if_pos c_8).trans ?_; refine (if_neg c_9).trans ?_; refine (if_pos c_10).trans ?_; refine (if_pos c_11).trans ?_; refine (if_neg c_14).trans ?_; rfl), (by refine Eq.symm ?_; refine (op_some n_3).trans ?_; refine (if_pos c_4).trans ?_; refine (if_pos c_8).trans ?_; refine (if_neg c_9).trans ?_; refine (if_pos c_10).trans ?_; refine (if_pos c_11).trans ?_; refine (if_neg c_14).trans ?_; rfl)⟩
            · refine lv_lload hx hb dAT_set_66 (lv_at hl 5 rfl) ?_
              refine lv_ldc2 (v := (2 : Int64)) hx hb hown (hts _ QAT_99) dAT_set_68 ?_
              refine ll_lt (tgt := 83) hx hb dAT_set_71 dAT_set_72 (by decide) (fun c_20 => ?_) (fun c_20 => ?_)
              · refine lv_iconst (v := (4 : Int32)) hx hb dAT_set_83 (by decide) ?_
                exact e_i hsz hx hb hr hlk hW (mono.rf S) (Nat.le_of_ble_eq_true rfl) (Nat.le_of_ble_eq_true rfl) dAT_set_84 ⟨(by refine Eq.symm ?_; refine (op_some n_3).trans ?_; refine (if_pos c_4).trans ?_; refine (if_pos c_8).trans ?_; refine (if_neg c_9).trans ?_; refine (if_pos c_10).trans ?_; refine (if_neg c_11).trans ?_; refine (if_pos c_20).trans ?_; rfl), (by refine Eq.symm ?_; refine (op_some n_3).trans ?_; refine (if_pos c_4).trans ?_; refine (if_pos c_8).trans ?_; refine (if_neg c_9).trans ?_; refine (if_pos c_10).trans ?_; refine (if_neg c_11).trans ?_; refine (if_pos c_20).trans ?_; rfl)⟩
              · refine lv_lload hx hb dAT_set_75 (lv_at hl 5 rfl) ?_
                refine lv_lload hx hb dAT_set_77 (lv_at hl 0 rfl) ?_
                refine ll_le (tgt := 85) hx hb dAT_set_79 dAT_set_80 (by decide) (fun c_21 => ?_) (fun c_21 => ?_)
                · refine q_aload hx hb dAT_set_85 (lv_at hl 1 rfl) ?_
                  refine lv_iconst (v := (1 : Int32)) hx hb dAT_set_87 (by decide) ?_
                  refine q_some1 n_3 ?_
                  refine p_i FAT_87 GAlarm_isSet (fun h => by cases h) hx hb hts hown hW k_b_3 rfl rfl dAT_set_88 (fun H locs hW => ?_)
                  have mo := mo.tr (mono_sfi (k := 1) (a := b_3) (v := (1 : Int32)))
                  have nnp_22 : nn (sfi S 1 b_3 (1 : Int32)) := nn_sfi hn
                  refine q_aload hx hb dAT_set_91 (lv_at hl 1 rfl) ?_
                  refine lv_lload hx hb dAT_set_93 (lv_at hl 5 rfl) ?_
                  refine q_some1 n_3 ?_
                  refine p_l FAT_101 GAlarm_cycle (fun h => by cases h) hx hb hts hown hW k_b_3 dAT_set_95 (fun H locs hW => ?_)
                  have mo := mo.tr (mono_sfl (k := 1) (a := b_3) (v := cy))
                  have nnp_23 : nn (sfl (sfi S 1 b_3 (1 : Int32)) 1 b_3 cy) := nn_sfl nnp_22
                  refine q_aload hx hb dAT_set_98 (lv_at hl 1 rfl) ?_
                  refine lv_iload hx hb dAT_set_100 (lv_at hl 6 rfl) ?_
                  refine lv_if_eq (tgt := 117) hx hb dAT_set_102 (by decide) (fun c_24 => ?_) (fun c_24 => ?_)
                  · refine lv_lload_n hx hb dAT_set_117 rfl (lv_at hl 4 rfl) ?_
                    refine q_some1 n_3 ?_
                    refine k_Vv (As := [.long at_]) (rest := []) (c_becomeDue l D AC (sfl (sfi S 1 b_3 (1 : Int32)) 1 b_3 cy) b_3 at_ k_b_3 nnp_23) CAT_108 ⟨by decide, by decide, _, rfl, rfl⟩ hx hb hml hown hts hW k_b_3 hl.1 rfl rfl (Nat.le_of_ble_eq_true rfl) ⟨⟨Nat.le_of_ble_eq_true rfl, Nat.le_of_ble_eq_true rfl⟩, ⟨Nat.le_of_ble_eq_true rfl, Nat.le_of_ble_eq_true rfl⟩⟩ dAT_set_118 (fun S_25 H locs e_25 hW m_25 _ => ?_)
                    rw [e_25] at hW m_25
                    have k_t := m_25.k k_t (by decide)
                    have k_b_3 := m_25.k k_b_3 (by decide)
                    have kb_7 := m_25.k kb_7 (by decide)
                    have kq_2 := fun b h => m_25.k (kq_2 b h) (by decide)
                    have kq_5 := fun b h => m_25.k (kq_5 b h) (by decide)
                    have mo := mo.tr m_25
                    have nnp_26 : nn (becomeDue_S (sfl (sfi S 1 b_3 (1 : Int32)) 1 b_3 cy) b_3 at_) := nn_becomeDue nnp_23
                    refine lv_iconst (v := (1 : Int32)) hx hb dAT_set_121 (by decide) ?_
                    exact e_i hsz hx hb hr hlk hW (mo) (Nat.le_of_ble_eq_true rfl) (Nat.le_of_ble_eq_true rfl) dAT_set_122 ⟨(by refine Eq.symm ?_; refine (op_some n_3).trans ?_; refine (if_pos c_4).trans ?_; refine (if_pos c_8).trans ?_; refine (if_neg c_9).trans ?_; refine (if_pos c_10).trans ?_; refine (if_neg c_11).trans ?_; refine (if_neg c_20).trans ?_; refine (if_neg c_21).trans ?_; refine (if_pos c_24).trans ?_; rfl), (by refine Eq.symm ?_; refine (op_some n_3).trans ?_; refine (if_pos c_4).trans ?_; refine (if_pos c_8).trans ?_; refine (if_neg c_9).trans ?_; refine (if_pos c_10).trans ?_; refine (if_neg c_11).trans ?_; refine (if_neg c_20).trans ?_; refine (if_neg c_21).trans ?_; refine (if_pos c_24).trans ?_; rfl)⟩
                  · refine q_aload hx hb dAT_set_105 (lv_at hl 1 rfl) ?_
                    refine q_some n_3 ?_
                    refine g_q FAT_91 hx hb hts hown hW k_b_3 dAT_set_107 ?_
                    rw [show fr (sfl (sfi S 1 b_3 (1 : Int32)) 1 b_3 cy) 2 b_3 = fr S 2 b_3 from rfl]
                    refine lv_lload_n hx hb dAT_set_110 rfl (lv_at hl 4 rfl) ?_
                    refine q_some1 n_6 ?_
                    refine k_Vl (As := [.long at_]) (rest := [va_rf (findAlarm_R S t n)]) (c_stepsUntil l D AC (sfl (sfi S 1 b_3 (1 : Int32)) 1 b_3 cy) (gd (fr S 2 b_3)) at_ kb_7) CAT_104 ⟨by decide, by decide, _, rfl, rfl⟩ hx hb hml hown hts hW kb_7 hl.1 rfl rfl (by simp [q_cat, cat_r, cat_i, cat_l, cat_n]) ⟨⟨Nat.le_of_ble_eq_true rfl, Nat.le_of_ble_eq_true rfl⟩, ⟨Nat.le_of_ble_eq_true rfl, Nat.le_of_ble_eq_true rfl⟩⟩ dAT_set_111 (fun r_27 S_27 H locs e_27 hW m_27 _ => ?_)
                    obtain ⟨e1_27, e2_27⟩ := e_27
                    rw [e2_27] at hW m_27
                    rw [e1_27]
                    refine lv_goto (tgt := 118) hx hb dAT_set_114 (by decide) ?_
                    refine q_some1 n_3 ?_
                    refine k_Vv (As := [.long (stepsUntil_R (sfl (sfi S 1 b_3 (1 : Int32)) 1 b_3 cy) (gd (fr S 2 b_3)) at_)]) (rest := []) (c_becomeDue l D AC (sfl (sfi S 1 b_3 (1 : Int32)) 1 b_3 cy) b_3 (stepsUntil_R (sfl (sfi S 1 b_3 (1 : Int32)) 1 b_3 cy) (gd (fr S 2 b_3)) at_) k_b_3 nnp_23) CAT_108 ⟨by decide, by decide, _, rfl, rfl⟩ hx hb hml hown hts hW k_b_3 hl.1 rfl rfl (Nat.le_of_ble_eq_true rfl) ⟨⟨Nat.le_of_ble_eq_true rfl, Nat.le_of_ble_eq_true rfl⟩, ⟨Nat.le_of_ble_eq_true rfl, Nat.le_of_ble_eq_true rfl⟩⟩ dAT_set_118 (fun S_28 H locs e_28 hW m_28 _ => ?_)
                    rw [e_28] at hW m_28
                    have k_t := m_28.k k_t (by decide)
                    have k_b_3 := m_28.k k_b_3 (by decide)
                    have kb_7 := m_28.k kb_7 (by decide)
                    have kq_2 := fun b h => m_28.k (kq_2 b h) (by decide)
                    have kq_5 := fun b h => m_28.k (kq_5 b h) (by decide)
                    have mo := mo.tr m_28
                    have nnp_29 : nn (becomeDue_S (sfl (sfi S 1 b_3 (1 : Int32)) 1 b_3 cy) b_3 (stepsUntil_R (sfl (sfi S 1 b_3 (1 : Int32)) 1 b_3 cy) (gd (fr S 2 b_3)) at_)) := nn_becomeDue nnp_23
                    refine lv_iconst (v := (1 : Int32)) hx hb dAT_set_121 (by decide) ?_
                    exact e_i hsz hx hb hr hlk hW (mo) (Nat.le_of_ble_eq_true rfl) (Nat.le_of_ble_eq_true rfl) dAT_set_122 ⟨(by refine Eq.symm ?_; refine (op_some n_3).trans ?_; refine (if_pos c_4).trans ?_; refine (if_pos c_8).trans ?_; refine (if_neg c_9).trans ?_; refine (if_pos c_10).trans ?_; refine (if_neg c_11).trans ?_; refine (if_neg c_20).trans ?_; refine (if_neg c_21).trans ?_; refine (if_neg c_24).trans ?_; rfl), (by refine Eq.symm ?_; refine (op_some n_3).trans ?_; refine (if_pos c_4).trans ?_; refine (if_pos c_8).trans ?_; refine (if_neg c_9).trans ?_; refine (if_pos c_10).trans ?_; refine (if_neg c_11).trans ?_; refine (if_neg c_20).trans ?_; refine (if_neg c_21).trans ?_; refine (if_neg c_24).trans ?_; rfl)⟩
                · refine lv_iconst (v := (4 : Int32)) hx hb dAT_set_83 (by decide) ?_
                  exact e_i hsz hx hb hr hlk hW (mono.rf S) (Nat.le_of_ble_eq_true rfl) (Nat.le_of_ble_eq_true rfl) dAT_set_84 ⟨(by refine Eq.symm ?_; refine (op_some n_3).trans ?_; refine (if_pos c_4).trans ?_; refine (if_pos c_8).trans ?_; refine (if_neg c_9).trans ?_; refine (if_pos c_10).trans ?_; refine (if_neg c_11).trans ?_; refine (if_neg c_20).trans ?_; refine (if_pos c_21).trans ?_; rfl), (by refine Eq.symm ?_; refine (op_some n_3).trans ?_; refine (if_pos c_4).trans ?_; refine (if_pos c_8).trans ?_; refine (if_neg c_9).trans ?_; refine (if_pos c_10).trans ?_; refine (if_neg c_11).trans ?_; refine (if_neg c_20).trans ?_; refine (if_pos c_21).trans ?_; rfl)⟩
          · refine lv_iconst (v := (3 : Int32)) hx hb dAT_set_57 (by decide) ?_
            exact e_i hsz hx hb hr hlk hW (mono.rf S) (Nat.le_of_ble_eq_true rfl) (Nat.le_of_ble_eq_true rfl) dAT_set_58 ⟨(by refine Eq.symm ?_; refine (op_some n_3).trans ?_; refine (if_pos c_4).trans ?_; refine (if_pos c_8).trans ?_; refine (if_neg c_9).trans ?_; refine (if_neg c_10).trans ?_; rfl), (by refine Eq.symm ?_; refine (op_some n_3).trans ?_; refine (if_pos c_4).trans ?_; refine (if_pos c_8).trans ?_; refine (if_neg c_9).trans ?_; refine (if_neg c_10).trans ?_; rfl)⟩
      · refine lv_iconst (v := (0 : Int32)) hx hb dAT_set_40 (by decide) ?_
        refine lv_goto (tgt := 45) hx hb dAT_set_41 (by decide) ?_
        refine lv_i2l hx hb dAT_set_45 rfl ?_
        refine ll_lt (tgt := 57) hx hb dAT_set_46 dAT_set_47 (by decide) (fun c_30 => ?_) (fun c_30 => ?_)
        · refine lv_iconst (v := (3 : Int32)) hx hb dAT_set_57 (by decide) ?_
          exact e_i hsz hx hb hr hlk hW (mono.rf S) (Nat.le_of_ble_eq_true rfl) (Nat.le_of_ble_eq_true rfl) dAT_set_58 ⟨(by refine Eq.symm ?_; refine (op_some n_3).trans ?_; refine (if_pos c_4).trans ?_; refine (if_neg c_8).trans ?_; refine (if_pos c_30).trans ?_; rfl), (by refine Eq.symm ?_; refine (op_some n_3).trans ?_; refine (if_pos c_4).trans ?_; refine (if_neg c_8).trans ?_; refine (if_pos c_30).trans ?_; rfl)⟩
        · refine lv_lload_n hx hb dAT_set_50 rfl (lv_at hl 4 rfl) ?_
          refine lv_lload hx hb dAT_set_51 (lv_at hl 0 rfl) ?_
          refine ll_lt (tgt := 59) hx hb dAT_set_53 dAT_set_54 (by decide) (fun c_31 => ?_) (fun c_31 => ?_)
          · refine lv_lload hx hb dAT_set_59 (lv_at hl 5 rfl) ?_
            refine lv_lconst (v := (0 : Int64)) hx hb dAT_set_61 (by decide) ?_
            refine ll_eq (tgt := 85) hx hb dAT_set_62 dAT_set_63 (by decide) (fun c_32 => ?_) (fun c_32 => ?_)
            · refine q_aload hx hb dAT_set_85 (lv_at hl 1 rfl) ?_
              refine lv_iconst (v := (1 : Int32)) hx hb dAT_set_87 (by decide) ?_
              refine q_some1 n_3 ?_
              refine p_i FAT_87 GAlarm_isSet (fun h => by cases h) hx hb hts hown hW k_b_3 rfl rfl dAT_set_88 (fun H locs hW => ?_)
              have mo := mo.tr (mono_sfi (k := 1) (a := b_3) (v := (1 : Int32)))
              have nnp_33 : nn (sfi S 1 b_3 (1 : Int32)) := nn_sfi hn
              refine q_aload hx hb dAT_set_91 (lv_at hl 1 rfl) ?_
              refine lv_lload hx hb dAT_set_93 (lv_at hl 5 rfl) ?_
              refine q_some1 n_3 ?_
              refine p_l FAT_101 GAlarm_cycle (fun h => by cases h) hx hb hts hown hW k_b_3 dAT_set_95 (fun H locs hW => ?_)
              have mo := mo.tr (mono_sfl (k := 1) (a := b_3) (v := cy))
              have nnp_34 : nn (sfl (sfi S 1 b_3 (1 : Int32)) 1 b_3 cy) := nn_sfl nnp_33
              refine q_aload hx hb dAT_set_98 (lv_at hl 1 rfl) ?_
              refine lv_iload hx hb dAT_set_100 (lv_at hl 6 rfl) ?_
              refine lv_if_eq (tgt := 117) hx hb dAT_set_102 (by decide) (fun c_35 => ?_) (fun c_35 => ?_)
              · refine lv_lload_n hx hb dAT_set_117 rfl (lv_at hl 4 rfl) ?_
                refine q_some1 n_3 ?_
                refine k_Vv (As := [.long at_]) (rest := []) (c_becomeDue l D AC (sfl (sfi S 1 b_3 (1 : Int32)) 1 b_3 cy) b_3 at_ k_b_3 nnp_34) CAT_108 ⟨by decide, by decide, _, rfl, rfl⟩ hx hb hml hown hts hW k_b_3 hl.1 rfl rfl (Nat.le_of_ble_eq_true rfl) ⟨⟨Nat.le_of_ble_eq_true rfl, Nat.le_of_ble_eq_true rfl⟩, ⟨Nat.le_of_ble_eq_true rfl, Nat.le_of_ble_eq_true rfl⟩⟩ dAT_set_118 (fun S_36 H locs e_36 hW m_36 _ => ?_)
                rw [e_36] at hW m_36
                have k_t := m_36.k k_t (by decide)
                have k_b_3 := m_36.k k_b_3 (by decide)
                have kb_7 := m_36.k kb_7 (by decide)
                have kq_2 := fun b h => m_36.k (kq_2 b h) (by decide)
                have kq_5 := fun b h => m_36.k (kq_5 b h) (by decide)
                have mo := mo.tr m_36
                have nnp_37 : nn (becomeDue_S (sfl (sfi S 1 b_3 (1 : Int32)) 1 b_3 cy) b_3 at_) := nn_becomeDue nnp_34
                refine lv_iconst (v := (1 : Int32)) hx hb dAT_set_121 (by decide) ?_
                exact e_i hsz hx hb hr hlk hW (mo) (Nat.le_of_ble_eq_true rfl) (Nat.le_of_ble_eq_true rfl) dAT_set_122 ⟨(by refine Eq.symm ?_; refine (op_some n_3).trans ?_; refine (if_pos c_4).trans ?_; refine (if_neg c_8).trans ?_; refine (if_neg c_30).trans ?_; refine (if_pos c_31).trans ?_; refine (if_pos c_32).trans ?_; refine (if_pos c_35).trans ?_; rfl), (by refine Eq.symm ?_; refine (op_some n_3).trans ?_; refine (if_pos c_4).trans ?_; refine (if_neg c_8).trans ?_; refine (if_neg c_30).trans ?_; refine (if_pos c_31).trans ?_; refine (if_pos c_32).trans ?_; refine (if_pos c_35).trans ?_; rfl)⟩
              · refine q_aload hx hb dAT_set_105 (lv_at hl 1 rfl) ?_
                refine q_some n_3 ?_
                refine g_q FAT_91 hx hb hts hown hW k_b_3 dAT_set_107 ?_
                rw [show fr (sfl (sfi S 1 b_3 (1 : Int32)) 1 b_3 cy) 2 b_3 = fr S 2 b_3 from rfl]
                refine lv_lload_n hx hb dAT_set_110 rfl (lv_at hl 4 rfl) ?_
                refine q_some1 n_6 ?_
                refine k_Vl (As := [.long at_]) (rest := [va_rf (findAlarm_R S t n)]) (c_stepsUntil l D AC (sfl (sfi S 1 b_3 (1 : Int32)) 1 b_3 cy) (gd (fr S 2 b_3)) at_ kb_7) CAT_104 ⟨by decide, by decide, _, rfl, rfl⟩ hx hb hml hown hts hW kb_7 hl.1 rfl rfl (by simp [q_cat, cat_r, cat_i, cat_l, cat_n]) ⟨⟨Nat.le_of_ble_eq_true rfl, Nat.le_of_ble_eq_true rfl⟩, ⟨Nat.le_of_ble_eq_true rfl, Nat.le_of_ble_eq_true rfl⟩⟩ dAT_set_111 (fun r_38 S_38 H locs e_38 hW m_38 _ => ?_)
                obtain ⟨e1_38, e2_38⟩ := e_38
                rw [e2_38] at hW m_38
                rw [e1_38]
                refine lv_goto (tgt := 118) hx hb dAT_set_114 (by decide) ?_
                refine q_some1 n_3 ?_
                refine k_Vv (As := [.long (stepsUntil_R (sfl (sfi S 1 b_3 (1 : Int32)) 1 b_3 cy) (gd (fr S 2 b_3)) at_)]) (rest := []) (c_becomeDue l D AC (sfl (sfi S 1 b_3 (1 : Int32)) 1 b_3 cy) b_3 (stepsUntil_R (sfl (sfi S 1 b_3 (1 : Int32)) 1 b_3 cy) (gd (fr S 2 b_3)) at_) k_b_3 nnp_34) CAT_108 ⟨by decide, by decide, _, rfl, rfl⟩ hx hb hml hown hts hW k_b_3 hl.1 rfl rfl (Nat.le_of_ble_eq_true rfl) ⟨⟨Nat.le_of_ble_eq_true rfl, Nat.le_of_ble_eq_true rfl⟩, ⟨Nat.le_of_ble_eq_true rfl, Nat.le_of_ble_eq_true rfl⟩⟩ dAT_set_118 (fun S_39 H locs e_39 hW m_39 _ => ?_)
                rw [e_39] at hW m_39
                have k_t := m_39.k k_t (by decide)
                have k_b_3 := m_39.k k_b_3 (by decide)
                have kb_7 := m_39.k kb_7 (by decide)
                have kq_2 := fun b h => m_39.k (kq_2 b h) (by decide)
                have kq_5 := fun b h => m_39.k (kq_5 b h) (by decide)
                have mo := mo.tr m_39
                have nnp_40 : nn (becomeDue_S (sfl (sfi S 1 b_3 (1 : Int32)) 1 b_3 cy) b_3 (stepsUntil_R (sfl (sfi S 1 b_3 (1 : Int32)) 1 b_3 cy) (gd (fr S 2 b_3)) at_)) := nn_becomeDue nnp_34
                refine lv_iconst (v := (1 : Int32)) hx hb dAT_set_121 (by decide) ?_
                exact e_i hsz hx hb hr hlk hW (mo) (Nat.le_of_ble_eq_true rfl) (Nat.le_of_ble_eq_true rfl) dAT_set_122 ⟨(by refine Eq.symm ?_; refine (op_some n_3).trans ?_; refine (if_pos c_4).trans ?_; refine (if_neg c_8).trans ?_; refine (if_neg c_30).trans ?_; refine (if_pos c_31).trans ?_; refine (if_pos c_32).trans ?_; refine (if_neg c_35).trans ?_; rfl), (by refine Eq.symm ?_; refine (op_some n_3).trans ?_; refine (if_pos c_4).trans ?_; refine (if_neg c_8).trans ?_; refine (if_neg c_30).trans ?_; refine (if_pos c_31).trans ?_; refine (if_pos c_32).trans ?_; refine (if_neg c_35).trans ?_; rfl)⟩
            · refine lv_lload hx hb dAT_set_66 (lv_at hl 5 rfl) ?_
              refine lv_ldc2 (v := (2 : Int64)) hx hb hown (hts _ QAT_99) dAT_set_68 ?_
              refine ll_lt (tgt := 83) hx hb dAT_set_71 dAT_set_72 (by decide) (fun c_41 => ?_) (fun c_41 => ?_)
              · refine lv_iconst (v := (4 : Int32)) hx hb dAT_set_83 (by decide) ?_
                exact e_i hsz hx hb hr hlk hW (mono.rf S) (Nat.le_of_ble_eq_true rfl) (Nat.le_of_ble_eq_true rfl) dAT_set_84 ⟨(by refine Eq.symm ?_; refine (op_some n_3).trans ?_; refine (if_pos c_4).trans ?_; refine (if_neg c_8).trans ?_; refine (if_neg c_30).trans ?_; refine (if_pos c_31).trans ?_; refine (if_neg c_32).trans ?_; refine (if_pos c_41).trans ?_; rfl), (by refine Eq.symm ?_; refine (op_some n_3).trans ?_; refine (if_pos c_4).trans ?_; refine (if_neg c_8).trans ?_; refine (if_neg c_30).trans ?_; refine (if_pos c_31).trans ?_; refine (if_neg c_32).trans ?_; refine (if_pos c_41).trans ?_; rfl)⟩
              · refine lv_lload hx hb dAT_set_75 (lv_at hl 5 rfl) ?_
                refine lv_lload hx hb dAT_set_77 (lv_at hl 0 rfl) ?_
                refine ll_le (tgt := 85) hx hb dAT_set_79 dAT_set_80 (by decide) (fun c_42 => ?_) (fun c_42 => ?_)
                · refine q_aload hx hb dAT_set_85 (lv_at hl 1 rfl) ?_
                  refine lv_iconst (v := (1 : Int32)) hx hb dAT_set_87 (by decide) ?_
                  refine q_some1 n_3 ?_
                  refine p_i FAT_87 GAlarm_isSet (fun h => by cases h) hx hb hts hown hW k_b_3 rfl rfl dAT_set_88 (fun H locs hW => ?_)
                  have mo := mo.tr (mono_sfi (k := 1) (a := b_3) (v := (1 : Int32)))
                  have nnp_43 : nn (sfi S 1 b_3 (1 : Int32)) := nn_sfi hn
                  refine q_aload hx hb dAT_set_91 (lv_at hl 1 rfl) ?_
                  refine lv_lload hx hb dAT_set_93 (lv_at hl 5 rfl) ?_
                  refine q_some1 n_3 ?_
                  refine p_l FAT_101 GAlarm_cycle (fun h => by cases h) hx hb hts hown hW k_b_3 dAT_set_95 (fun H locs hW => ?_)
                  have mo := mo.tr (mono_sfl (k := 1) (a := b_3) (v := cy))
                  have nnp_44 : nn (sfl (sfi S 1 b_3 (1 : Int32)) 1 b_3 cy) := nn_sfl nnp_43
                  refine q_aload hx hb dAT_set_98 (lv_at hl 1 rfl) ?_
                  refine lv_iload hx hb dAT_set_100 (lv_at hl 6 rfl) ?_
                  refine lv_if_eq (tgt := 117) hx hb dAT_set_102 (by decide) (fun c_45 => ?_) (fun c_45 => ?_)
                  · refine lv_lload_n hx hb dAT_set_117 rfl (lv_at hl 4 rfl) ?_
                    refine q_some1 n_3 ?_
                    refine k_Vv (As := [.long at_]) (rest := []) (c_becomeDue l D AC (sfl (sfi S 1 b_3 (1 : Int32)) 1 b_3 cy) b_3 at_ k_b_3 nnp_44) CAT_108 ⟨by decide, by decide, _, rfl, rfl⟩ hx hb hml hown hts hW k_b_3 hl.1 rfl rfl (Nat.le_of_ble_eq_true rfl) ⟨⟨Nat.le_of_ble_eq_true rfl, Nat.le_of_ble_eq_true rfl⟩, ⟨Nat.le_of_ble_eq_true rfl, Nat.le_of_ble_eq_true rfl⟩⟩ dAT_set_118 (fun S_46 H locs e_46 hW m_46 _ => ?_)
                    rw [e_46] at hW m_46
                    have k_t := m_46.k k_t (by decide)
                    have k_b_3 := m_46.k k_b_3 (by decide)
                    have kb_7 := m_46.k kb_7 (by decide)
                    have kq_2 := fun b h => m_46.k (kq_2 b h) (by decide)
                    have kq_5 := fun b h => m_46.k (kq_5 b h) (by decide)
                    have mo := mo.tr m_46
                    have nnp_47 : nn (becomeDue_S (sfl (sfi S 1 b_3 (1 : Int32)) 1 b_3 cy) b_3 at_) := nn_becomeDue nnp_44
                    refine lv_iconst (v := (1 : Int32)) hx hb dAT_set_121 (by decide) ?_
                    exact e_i hsz hx hb hr hlk hW (mo) (Nat.le_of_ble_eq_true rfl) (Nat.le_of_ble_eq_true rfl) dAT_set_122 ⟨(by refine Eq.symm ?_; refine (op_some n_3).trans ?_; refine (if_pos c_4).trans ?_; refine (if_neg c_8).trans ?_; refine (if_neg c_30).trans ?_; refine (if_pos c_31).trans ?_; refine (if_neg c_32).trans ?_; refine (if_neg c_41).trans ?_; refine (if_neg c_42).trans ?_; refine (if_pos c_45).trans ?_; rfl), (by refine Eq.symm ?_; refine (op_some n_3).trans ?_; refine (if_pos c_4).trans ?_; refine (if_neg c_8).trans ?_; refine (if_neg c_30).trans ?_; refine (if_pos c_31).trans ?_; refine (if_neg c_32).trans ?_; refine (if_neg c_41).trans ?_; refine (if_neg c_42).trans ?_; refine (if_pos c_45).trans ?_; rfl)⟩
                  · refine q_aload hx hb dAT_set_105 (lv_at hl 1 rfl) ?_
                    refine q_some n_3 ?_
                    refine g_q FAT_91 hx hb hts hown hW k_b_3 dAT_set_107 ?_
                    rw [show fr (sfl (sfi S 1 b_3 (1 : Int32)) 1 b_3 cy) 2 b_3 = fr S 2 b_3 from rfl]
                    refine lv_lload_n hx hb dAT_set_110 rfl (lv_at hl 4 rfl) ?_
                    refine q_some1 n_6 ?_
                    refine k_Vl (As := [.long at_]) (rest := [va_rf (findAlarm_R S t n)]) (c_stepsUntil l D AC (sfl (sfi S 1 b_3 (1 : Int32)) 1 b_3 cy) (gd (fr S 2 b_3)) at_ kb_7) CAT_104 ⟨by decide, by decide, _, rfl, rfl⟩ hx hb hml hown hts hW kb_7 hl.1 rfl rfl (by simp [q_cat, cat_r, cat_i, cat_l, cat_n]) ⟨⟨Nat.le_of_ble_eq_true rfl, Nat.le_of_ble_eq_true rfl⟩, ⟨Nat.le_of_ble_eq_true rfl, Nat.le_of_ble_eq_true rfl⟩⟩ dAT_set_111 (fun r_48 S_48 H locs e_48 hW m_48 _ => ?_)
                    obtain ⟨e1_48, e2_48⟩ := e_48
                    rw [e2_48] at hW m_48
                    rw [e1_48]
                    refine lv_goto (tgt := 118) hx hb dAT_set_114 (by decide) ?_
                    refine q_some1 n_3 ?_
                    refine k_Vv (As := [.long (stepsUntil_R (sfl (sfi S 1 b_3 (1 : Int32)) 1 b_3 cy) (gd (fr S 2 b_3)) at_)]) (rest := []) (c_becomeDue l D AC (sfl (sfi S 1 b_3 (1 : Int32)) 1 b_3 cy) b_3 (stepsUntil_R (sfl (sfi S 1 b_3 (1 : Int32)) 1 b_3 cy) (gd (fr S 2 b_3)) at_) k_b_3 nnp_44) CAT_108 ⟨by decide, by decide, _, rfl, rfl⟩ hx hb hml hown hts hW k_b_3 hl.1 rfl rfl (Nat.le_of_ble_eq_true rfl) ⟨⟨Nat.le_of_ble_eq_true rfl, Nat.le_of_ble_eq_true rfl⟩, ⟨Nat.le_of_ble_eq_true rfl, Nat.le_of_ble_eq_true rfl⟩⟩ dAT_set_118 (fun S_49 H locs e_49 hW m_49 _ => ?_)
                    rw [e_49] at hW m_49
                    have k_t := m_49.k k_t (by decide)
                    have k_b_3 := m_49.k k_b_3 (by decide)
                    have kb_7 := m_49.k kb_7 (by decide)
                    have kq_2 := fun b h => m_49.k (kq_2 b h) (by decide)
                    have kq_5 := fun b h => m_49.k (kq_5 b h) (by decide)
                    have mo := mo.tr m_49
                    have nnp_50 : nn (becomeDue_S (sfl (sfi S 1 b_3 (1 : Int32)) 1 b_3 cy) b_3 (stepsUntil_R (sfl (sfi S 1 b_3 (1 : Int32)) 1 b_3 cy) (gd (fr S 2 b_3)) at_)) := nn_becomeDue nnp_44
                    refine lv_iconst (v := (1 : Int32)) hx hb dAT_set_121 (by decide) ?_
                    exact e_i hsz hx hb hr hlk hW (mo) (Nat.le_of_ble_eq_true rfl) (Nat.le_of_ble_eq_true rfl) dAT_set_122 ⟨(by refine Eq.symm ?_; refine (op_some n_3).trans ?_; refine (if_pos c_4).trans ?_; refine (if_neg c_8).trans ?_; refine (if_neg c_30).trans ?_; refine (if_pos c_31).trans ?_; refine (if_neg c_32).trans ?_; refine (if_neg c_41).trans ?_; refine (if_neg c_42).trans ?_; refine (if_neg c_45).trans ?_; rfl), (by refine Eq.symm ?_; refine (op_some n_3).trans ?_; refine (if_pos c_4).trans ?_; refine (if_neg c_8).trans ?_; refine (if_neg c_30).trans ?_; refine (if_pos c_31).trans ?_; refine (if_neg c_32).trans ?_; refine (if_neg c_41).trans ?_; refine (if_neg c_42).trans ?_; refine (if_neg c_45).trans ?_; rfl)⟩
                · refine lv_iconst (v := (4 : Int32)) hx hb dAT_set_83 (by decide) ?_
                  exact e_i hsz hx hb hr hlk hW (mono.rf S) (Nat.le_of_ble_eq_true rfl) (Nat.le_of_ble_eq_true rfl) dAT_set_84 ⟨(by refine Eq.symm ?_; refine (op_some n_3).trans ?_; refine (if_pos c_4).trans ?_; refine (if_neg c_8).trans ?_; refine (if_neg c_30).trans ?_; refine (if_pos c_31).trans ?_; refine (if_neg c_32).trans ?_; refine (if_neg c_41).trans ?_; refine (if_pos c_42).trans ?_; rfl), (by refine Eq.symm ?_; refine (op_some n_3).trans ?_; refine (if_pos c_4).trans ?_; refine (if_neg c_8).trans ?_; refine (if_neg c_30).trans ?_; refine (if_pos c_31).trans ?_; refine (if_neg c_32).trans ?_; refine (if_neg c_41).trans ?_; refine (if_pos c_42).trans ?_; rfl)⟩
          · refine lv_iconst (v := (3 : Int32)) hx hb dAT_set_57 (by decide) ?_
            exact e_i hsz hx hb hr hlk hW (mono.rf S) (Nat.le_of_ble_eq_true rfl) (Nat.le_of_ble_eq_true rfl) dAT_set_58 ⟨(by refine Eq.symm ?_; refine (op_some n_3).trans ?_; refine (if_pos c_4).trans ?_; refine (if_neg c_8).trans ?_; refine (if_neg c_30).trans ?_; refine (if_neg c_31).trans ?_; rfl), (by refine Eq.symm ?_; refine (op_some n_3).trans ?_; refine (if_pos c_4).trans ?_; refine (if_neg c_8).trans ?_; refine (if_neg c_30).trans ?_; refine (if_neg c_31).trans ?_; rfl)⟩
    · refine lv_iconst (v := (2 : Int32)) hx hb dAT_set_22 (by decide) ?_
      exact e_i hsz hx hb hr hlk hW (mono.rf S) (Nat.le_of_ble_eq_true rfl) (Nat.le_of_ble_eq_true rfl) dAT_set_23 ⟨(by refine Eq.symm ?_; refine (op_some n_3).trans ?_; refine (if_neg c_4).trans ?_; rfl), (by refine Eq.symm ?_; refine (op_some n_3).trans ?_; refine (if_neg c_4).trans ?_; rfl)⟩

def start_R (S : HS) (t : Nat) (n : Int32) (at_ : Int64) : Int32 :=
  opc (findTable_R S t n) ((-1 : Int32))
  (fun b_3 => if (fi S 8 b_3) = 0 then
      if at_ < (1 : Int64) then
        (3 : Int32)
      else
        if (1000000 : Int64) < at_ then
          (3 : Int32)
        else
          (1 : Int32)
    else
      (2 : Int32))
def start_S (S : HS) (t : Nat) (n : Int32) (at_ : Int64) : HS :=
  opc (findTable_R S t n) (S)
  (fun b_3 => if (fi S 8 b_3) = 0 then
      if at_ < (1 : Int64) then
        S
      else
        if (1000000 : Int64) < at_ then
          S
        else
          (wakeAt_S (runFrom_S (sfl S 11 b_3 (0 : Int64)) b_3 ((fl S 6 (gd (fr S 13 b_3))) + at_)) (gd (fr (runFrom_S (sfl S 11 b_3 (0 : Int64)) b_3 ((fl S 6 (gd (fr S 13 b_3))) + at_)) 13 b_3)) (fl (runFrom_S (sfl S 11 b_3 (0 : Int64)) b_3 ((fl S 6 (gd (fr S 13 b_3))) + at_)) 10 b_3))
    else
      S)
set_option maxRecDepth 20000 in
set_option maxHeartbeats 2000000 in
theorem c_start (l : Launch) (D : va_G) (AC : Nat → ClassId) (S : HS) (t : Nat) (n : Int32) (at_ : Int64)  (k_t : kd S t = 8) (hn : nn S) (ha : atOk S t) : CtI l yAT_start (Cond.code yAT_start cAT_start 5 (some .int) :: wT) 2 60 D AC S [.ref t, .int n, .long at_] 0 0 (fun r S' => r = start_R S t n at_ ∧ S' = start_S S t n at_) := by
  refine met_of (by decide) (Nat.le_of_ble_eq_true rfl) ?_
  intro p e s m below meth c ls hsz X hW hl
  obtain ⟨hx, hb, hml, hr, hlk, hown, hnm, hts⟩ := X
  have hl : lv_has ls 5 [(0, .ref t), (1, .int n), (2, .long at_)] := hl
  have mo : mono S S := mono.rf S
  refine lv_aload_n hx hb dAT_start_0 rfl (lv_at hl 0 rfl) ?_
  refine lv_iload_n hx hb dAT_start_1 rfl (lv_at hl 1 rfl) ?_
  refine k_Vq (As := [.int n]) (rest := []) (c_findTable l D AC S t n k_t hn ha) CAT_124 ⟨by decide, by decide, _, rfl, rfl⟩ hx hb hml hown hts hW k_t hl.1 rfl rfl (Nat.le_of_ble_eq_true rfl) ⟨⟨Nat.le_of_ble_eq_true rfl, Nat.le_of_ble_eq_true rfl⟩, ⟨Nat.le_of_ble_eq_true rfl, Nat.le_of_ble_eq_true rfl⟩⟩ dAT_start_2 (fun r_1 S_1 H locs e_1 hW m_1 _ => ?_)
  obtain ⟨e1_1, e2_1⟩ := e_1
  rw [e2_1] at hW m_1
  rw [e1_1]
  have kq_2 : ∀ b, (findTable_R S t n) = some b → kd S b = 7 := kq_findTable hW.ok k_t hn _
  refine q_astore (lv' := [(4, va_rf (findTable_R S t n)), (0, .ref t), (1, .int n), (2, .long at_)]) hx hb dAT_start_5 hl (by decide) rfl (fun ls hl => ?_)
  refine q_aload hx hb dAT_start_7 (lv_at hl 0 rfl) ?_
  refine q_ifnonnull (tgt := 14) hx hb dAT_start_9 (by decide) (fun n_3 => ?_) (fun b_3 n_3 => ?_)
  · refine lv_iconst (v := (-1 : Int32)) hx hb dAT_start_12 (by decide) ?_
    exact e_i hsz hx hb hr hlk hW (mono.rf S) (Nat.le_of_ble_eq_true rfl) (Nat.le_of_ble_eq_true rfl) dAT_start_13 ⟨(by refine Eq.symm ?_; refine (op_none n_3).trans ?_; rfl), (by refine Eq.symm ?_; refine (op_none n_3).trans ?_; rfl)⟩
  · have k_b_3 : kd S b_3 = 7 := kq_2 b_3 n_3
    refine q_aload hx hb dAT_start_14 (lv_at hl 0 rfl) ?_
    refine q_some n_3 ?_
    refine g_i FAT_131 hx hb hts hown hW k_b_3 dAT_start_16 ?_
    refine lv_if_eq (tgt := 24) hx hb dAT_start_19 (by decide) (fun c_4 => ?_) (fun c_4 => ?_)
    · refine lv_lload_n hx hb dAT_start_24 rfl (lv_at hl 3 rfl) ?_
      refine lv_lconst (v := (1 : Int64)) hx hb dAT_start_25 (by decide) ?_
      refine ll_lt (tgt := 38) hx hb dAT_start_26 dAT_start_27 (by decide) (fun c_5 => ?_) (fun c_5 => ?_)
      · refine lv_iconst (v := (3 : Int32)) hx hb dAT_start_38 (by decide) ?_
        exact e_i hsz hx hb hr hlk hW (mono.rf S) (Nat.le_of_ble_eq_true rfl) (Nat.le_of_ble_eq_true rfl) dAT_start_39 ⟨(by refine Eq.symm ?_; refine (op_some n_3).trans ?_; refine (if_pos c_4).trans ?_; refine (if_pos c_5).trans ?_; rfl), (by refine Eq.symm ?_; refine (op_some n_3).trans ?_; refine (if_pos c_4).trans ?_; refine (if_pos c_5).trans ?_; rfl)⟩
      · refine lv_lload_n hx hb dAT_start_30 rfl (lv_at hl 3 rfl) ?_
        refine lv_ldc2 (v := (1000000 : Int64)) hx hb hown (hts _ QAT_112) dAT_start_31 ?_
        refine ll_le (tgt := 40) hx hb dAT_start_34 dAT_start_35 (by decide) (fun c_6 => ?_) (fun c_6 => ?_)
        · refine q_aload hx hb dAT_start_40 (lv_at hl 0 rfl) ?_
          refine lv_lconst (v := (0 : Int64)) hx hb dAT_start_42 (by decide) ?_
          refine q_some1 n_3 ?_
          refine p_l FAT_151 GTable_drift (fun h => by cases h) hx hb hts hown hW k_b_3 dAT_start_43 (fun H locs hW => ?_)
          have mo := mo.tr (mono_sfl (k := 11) (a := b_3) (v := (0 : Int64)))
          have nnp_7 : nn (sfl S 11 b_3 (0 : Int64)) := nn_sfl hn
          refine q_aload hx hb dAT_start_46 (lv_at hl 0 rfl) ?_
          refine q_aload hx hb dAT_start_48 (lv_at hl 0 rfl) ?_
          refine q_some n_3 ?_
          have kq_8 : ∀ b, fr S 13 b_3 = some b → kd (sfl S 11 b_3 (0 : Int64)) b = 3 := fun b h => hW.ok.2.1 13 b_3 b k_b_3 h
          refine g_q FAT_138 hx hb hts hown hW k_b_3 dAT_start_50 ?_
          rw [show fr (sfl S 11 b_3 (0 : Int64)) 13 b_3 = fr S 13 b_3 from rfl]
          have n_9 : fr S 13 b_3 = some (gd (fr S 13 b_3)) := gd_some (hn 13 b_3 rfl k_b_3)
          have kb_10 : kd (sfl S 11 b_3 (0 : Int64)) (gd (fr S 13 b_3)) = 3 := kq_8 (gd (fr S 13 b_3)) n_9
          refine q_some n_9 ?_
          refine g_l FAT_154 hx hb hts hown hW kb_10 dAT_start_53 ?_
          rw [show fl (sfl S 11 b_3 (0 : Int64)) 6 (gd (fr S 13 b_3)) = fl S 6 (gd (fr S 13 b_3)) from rfl]
          refine lv_lload_n hx hb dAT_start_56 rfl (lv_at hl 3 rfl) ?_
          refine lv_ladd hx hb dAT_start_57 ?_
          refine q_some1 n_3 ?_
          refine k_Vv (As := [.long ((fl S 6 (gd (fr S 13 b_3))) + at_)]) (rest := []) (c_runFrom l D AC (sfl S 11 b_3 (0 : Int64)) b_3 ((fl S 6 (gd (fr S 13 b_3))) + at_) k_b_3) CAT_157 ⟨by decide, by decide, _, rfl, rfl⟩ hx hb hml hown hts hW k_b_3 hl.1 rfl rfl (Nat.le_of_ble_eq_true rfl) ⟨⟨Nat.le_of_ble_eq_true rfl, Nat.le_of_ble_eq_true rfl⟩, ⟨Nat.le_of_ble_eq_true rfl, Nat.le_of_ble_eq_true rfl⟩⟩ dAT_start_58 (fun S_11 H locs e_11 hW m_11 _ => ?_)
          rw [e_11] at hW m_11
          have k_t := m_11.k k_t (by decide)
          have k_b_3 := m_11.k k_b_3 (by decide)
          have kb_10 := m_11.k kb_10 (by decide)
          have kq_2 := fun b h => m_11.k (kq_2 b h) (by decide)
          have kq_8 := fun b h => m_11.k (kq_8 b h) (by decide)
          have mo := mo.tr m_11
          have nnp_12 : nn (runFrom_S (sfl S 11 b_3 (0 : Int64)) b_3 ((fl S 6 (gd (fr S 13 b_3))) + at_)) := nn_runFrom nnp_7
          refine q_aload hx hb dAT_start_61 (lv_at hl 0 rfl) ?_
          refine q_some n_3 ?_
          have kq_13 : ∀ b, fr (runFrom_S (sfl S 11 b_3 (0 : Int64)) b_3 ((fl S 6 (gd (fr S 13 b_3))) + at_)) 13 b_3 = some b → kd (runFrom_S (sfl S 11 b_3 (0 : Int64)) b_3 ((fl S 6 (gd (fr S 13 b_3))) + at_)) b = 3 := fun b h => hW.ok.2.1 13 b_3 b k_b_3 h
          refine g_q FAT_138 hx hb hts hown hW k_b_3 dAT_start_63 ?_
          refine q_aload hx hb dAT_start_66 (lv_at hl 0 rfl) ?_
          refine q_some n_3 ?_
          refine g_l FAT_160 hx hb hts hown hW k_b_3 dAT_start_68 ?_
          have n_14 : fr (runFrom_S (sfl S 11 b_3 (0 : Int64)) b_3 ((fl S 6 (gd (fr S 13 b_3))) + at_)) 13 b_3 = some (gd (fr (runFrom_S (sfl S 11 b_3 (0 : Int64)) b_3 ((fl S 6 (gd (fr S 13 b_3))) + at_)) 13 b_3)) := gd_some (nnp_12 13 b_3 rfl k_b_3)
          have kb_15 : kd (runFrom_S (sfl S 11 b_3 (0 : Int64)) b_3 ((fl S 6 (gd (fr S 13 b_3))) + at_)) (gd (fr (runFrom_S (sfl S 11 b_3 (0 : Int64)) b_3 ((fl S 6 (gd (fr S 13 b_3))) + at_)) 13 b_3)) = 3 := kq_13 (gd (fr (runFrom_S (sfl S 11 b_3 (0 : Int64)) b_3 ((fl S 6 (gd (fr S 13 b_3))) + at_)) 13 b_3)) n_14
          refine q_some1 n_14 ?_
          refine k_Vv (As := [.long (fl (runFrom_S (sfl S 11 b_3 (0 : Int64)) b_3 ((fl S 6 (gd (fr S 13 b_3))) + at_)) 10 b_3)]) (rest := []) (c_wakeAt l D AC (runFrom_S (sfl S 11 b_3 (0 : Int64)) b_3 ((fl S 6 (gd (fr S 13 b_3))) + at_)) (gd (fr (runFrom_S (sfl S 11 b_3 (0 : Int64)) b_3 ((fl S 6 (gd (fr S 13 b_3))) + at_)) 13 b_3)) (fl (runFrom_S (sfl S 11 b_3 (0 : Int64)) b_3 ((fl S 6 (gd (fr S 13 b_3))) + at_)) 10 b_3) kb_15) CAT_163 ⟨by decide, by decide, _, rfl, rfl⟩ hx hb hml hown hts hW kb_15 hl.1 rfl rfl (Nat.le_of_ble_eq_true rfl) ⟨⟨Nat.le_of_ble_eq_true rfl, Nat.le_of_ble_eq_true rfl⟩, ⟨Nat.le_of_ble_eq_true rfl, Nat.le_of_ble_eq_true rfl⟩⟩ dAT_start_71 (fun S_16 H locs e_16 hW m_16 _ => ?_)
          rw [e_16] at hW m_16
          have k_t := m_16.k k_t (by decide)
          have k_b_3 := m_16.k k_b_3 (by decide)
          have kb_10 := m_16.k kb_10 (by decide)
          have kb_15 := m_16.k kb_15 (by decide)
          have kq_2 := fun b h => m_16.k (kq_2 b h) (by decide)
          have kq_8 := fun b h => m_16.k (kq_8 b h) (by decide)
          have kq_13 := fun b h => m_16.k (kq_13 b h) (by decide)
          have mo := mo.tr m_16
          have nnp_17 : nn (wakeAt_S (runFrom_S (sfl S 11 b_3 (0 : Int64)) b_3 ((fl S 6 (gd (fr S 13 b_3))) + at_)) (gd (fr (runFrom_S (sfl S 11 b_3 (0 : Int64)) b_3 ((fl S 6 (gd (fr S 13 b_3))) + at_)) 13 b_3)) (fl (runFrom_S (sfl S 11 b_3 (0 : Int64)) b_3 ((fl S 6 (gd (fr S 13 b_3))) + at_)) 10 b_3)) := nn_wakeAt nnp_12
          refine lv_iconst (v := (1 : Int32)) hx hb dAT_start_74 (by decide) ?_
          exact e_i hsz hx hb hr hlk hW (mo) (Nat.le_of_ble_eq_true rfl) (Nat.le_of_ble_eq_true rfl) dAT_start_75 ⟨(by refine Eq.symm ?_; refine (op_some n_3).trans ?_; refine (if_pos c_4).trans ?_; refine (if_neg c_5).trans ?_; refine (if_neg c_6).trans ?_; rfl), (by refine Eq.symm ?_; refine (op_some n_3).trans ?_; refine (if_pos c_4).trans ?_; refine (if_neg c_5).trans ?_; refine (if_neg c_6).trans ?_; rfl)⟩
        · refine lv_iconst (v := (3 : Int32)) hx hb dAT_start_38 (by decide) ?_
          exact e_i hsz hx hb hr hlk hW (mono.rf S) (Nat.le_of_ble_eq_true rfl) (Nat.le_of_ble_eq_true rfl) dAT_start_39 ⟨(by refine Eq.symm ?_; refine (op_some n_3).trans ?_; refine (if_pos c_4).trans ?_; refine (if_neg c_5).trans ?_; refine (if_pos c_6).trans ?_; rfl), (by refine Eq.symm ?_; refine (op_some n_3).trans ?_; refine (if_pos c_4).trans ?_; refine (if_neg c_5).trans ?_; refine (if_pos c_6).trans ?_; rfl)⟩
    · refine lv_iconst (v := (2 : Int32)) hx hb dAT_start_22 (by decide) ?_
      exact e_i hsz hx hb hr hlk hW (mono.rf S) (Nat.le_of_ble_eq_true rfl) (Nat.le_of_ble_eq_true rfl) dAT_start_23 ⟨(by refine Eq.symm ?_; refine (op_some n_3).trans ?_; refine (if_neg c_4).trans ?_; rfl), (by refine Eq.symm ?_; refine (op_some n_3).trans ?_; refine (if_neg c_4).trans ?_; rfl)⟩

def next_R (S : HS) (t : Nat) (n : Int32) (m_ : Int32) : Int32 :=
  opc (findTable_R S t n) ((-1 : Int32))
  (fun b_5 => if m_ = 0 then
      opc (findTable_R S t m_) ((1 : Int32))
      (fun b_7 => if (fr S 13 b_7) = (fr S 13 b_5) then
          (1 : Int32)
        else
          (-3 : Int32))
    else
      opc (findTable_R S t m_) ((-1 : Int32))
      (fun b_13 => if (fr S 13 b_13) = (fr S 13 b_5) then
          (1 : Int32)
        else
          (-3 : Int32)))
def next_S (S : HS) (t : Nat) (n : Int32) (m_ : Int32) : HS :=
  opc (findTable_R S t n) (S)
  (fun b_5 => if m_ = 0 then
      opc (findTable_R S t m_) ((sfr S 16 b_5 (findTable_R S t m_)))
      (fun b_7 => if (fr S 13 b_7) = (fr S 13 b_5) then
          (sfr S 16 b_5 (some b_7))
        else
          S)
    else
      opc (findTable_R S t m_) (S)
      (fun b_13 => if (fr S 13 b_13) = (fr S 13 b_5) then
          (sfr S 16 b_5 (some b_13))
        else
          S))
set_option maxRecDepth 20000 in
set_option maxHeartbeats 2000000 in
theorem c_next (l : Launch) (D : va_G) (AC : Nat → ClassId) (S : HS) (t : Nat) (n : Int32) (m_ : Int32)  (k_t : kd S t = 8) (hn : nn S) (ha : atOk S t) : CtI l yAT_next (Cond.code yAT_next cAT_next 5 (some .int) :: wT) 1 24 D AC S [.ref t, .int n, .int m_] 0 0 (fun r S' => r = next_R S t n m_ ∧ S' = next_S S t n m_) := by
  refine met_of (by decide) (Nat.le_of_ble_eq_true rfl) ?_
  intro p e s m below meth c ls hsz X hW hl
  obtain ⟨hx, hb, hml, hr, hlk, hown, hnm, hts⟩ := X
  have hl : lv_has ls 5 [(0, .ref t), (1, .int n), (2, .int m_)] := hl
  have mo : mono S S := mono.rf S
  refine lv_aload_n hx hb dAT_next_0 rfl (lv_at hl 0 rfl) ?_
  refine lv_iload_n hx hb dAT_next_1 rfl (lv_at hl 1 rfl) ?_
  refine k_Vq (As := [.int n]) (rest := []) (c_findTable l D AC S t n k_t hn ha) CAT_124 ⟨by decide, by decide, _, rfl, rfl⟩ hx hb hml hown hts hW k_t hl.1 rfl rfl (Nat.le_of_ble_eq_true rfl) ⟨⟨Nat.le_of_ble_eq_true rfl, Nat.le_of_ble_eq_true rfl⟩, ⟨Nat.le_of_ble_eq_true rfl, Nat.le_of_ble_eq_true rfl⟩⟩ dAT_next_2 (fun r_1 S_1 H locs e_1 hW m_1 _ => ?_)
  obtain ⟨e1_1, e2_1⟩ := e_1
  rw [e2_1] at hW m_1
  rw [e1_1]
  have kq_2 : ∀ b, (findTable_R S t n) = some b → kd S b = 7 := kq_findTable hW.ok k_t hn _
  refine q_astore_n (i := 3) (lv' := [(3, va_rf (findTable_R S t n)), (0, .ref t), (1, .int n), (2, .int m_)]) hx hb dAT_next_5 rfl hl (by decide) rfl (fun ls hl => ?_)
  refine lv_aload_n hx hb dAT_next_6 rfl (lv_at hl 1 rfl) ?_
  refine lv_iload_n hx hb dAT_next_7 rfl (lv_at hl 3 rfl) ?_
  refine k_Vq (As := [.int m_]) (rest := []) (c_findTable l D AC S t m_ k_t hn ha) CAT_124 ⟨by decide, by decide, _, rfl, rfl⟩ hx hb hml hown hts hW k_t hl.1 rfl rfl (Nat.le_of_ble_eq_true rfl) ⟨⟨Nat.le_of_ble_eq_true rfl, Nat.le_of_ble_eq_true rfl⟩, ⟨Nat.le_of_ble_eq_true rfl, Nat.le_of_ble_eq_true rfl⟩⟩ dAT_next_8 (fun r_3 S_3 H locs e_3 hW m_3 _ => ?_)
  obtain ⟨e1_3, e2_3⟩ := e_3
  rw [e2_3] at hW m_3
  rw [e1_3]
  have kq_4 : ∀ b, (findTable_R S t m_) = some b → kd S b = 7 := kq_findTable hW.ok k_t hn _
  refine q_astore (lv' := [(4, va_rf (findTable_R S t m_)), (3, va_rf (findTable_R S t n)), (0, .ref t), (1, .int n), (2, .int m_)]) hx hb dAT_next_11 hl (by decide) (by simp [q_cat, cat_r, cat_i, cat_l, cat_n]) (fun ls hl => ?_)
  refine q_aload_n hx hb dAT_next_13 rfl (lv_at hl 1 rfl) ?_
  refine q_ifnull (tgt := 26) hx hb dAT_next_14 (by decide) (fun n_5 => ?_) (fun b_5 n_5 => ?_)
  · refine lv_iconst (v := (-1 : Int32)) hx hb dAT_next_26 (by decide) ?_
    exact e_i hsz hx hb hr hlk hW (mono.rf S) (Nat.le_of_ble_eq_true rfl) (Nat.le_of_ble_eq_true rfl) dAT_next_27 ⟨(by refine Eq.symm ?_; refine (op_none n_5).trans ?_; rfl), (by refine Eq.symm ?_; refine (op_none n_5).trans ?_; rfl)⟩
  · have k_b_5 : kd S b_5 = 7 := kq_2 b_5 n_5
    refine lv_iload_n hx hb dAT_next_17 rfl (lv_at hl 4 rfl) ?_
    refine lv_if_eq (tgt := 28) hx hb dAT_next_18 (by decide) (fun c_6 => ?_) (fun c_6 => ?_)
    · refine q_aload hx hb dAT_next_28 (lv_at hl 0 rfl) ?_
      refine q_ifnull (tgt := 48) hx hb dAT_next_30 (by decide) (fun n_7 => ?_) (fun b_7 n_7 => ?_)
      · refine q_aload_n hx hb dAT_next_48 rfl (lv_at hl 1 rfl) ?_
        refine q_aload hx hb dAT_next_49 (lv_at hl 0 rfl) ?_
        refine q_some1 n_5 ?_
        refine p_q FAT_166 GTable_told ⟨fun _ => rfl, fun _ => rfl, rfl, rfl⟩ (fun h => by cases h) hx hb hts hown hW k_b_5 kq_4 dAT_next_51 (fun H locs hW => ?_)
        have mo := mo.tr (mono_sfr (k := 16) (a := b_5) (v := (findTable_R S t m_)))
        have nnp_8 : nn (sfr S 16 b_5 (findTable_R S t m_)) := nn_sfr hn (Or.inl rfl)
        refine lv_iconst (v := (1 : Int32)) hx hb dAT_next_54 (by decide) ?_
        exact e_i hsz hx hb hr hlk hW (mo) (Nat.le_of_ble_eq_true rfl) (Nat.le_of_ble_eq_true rfl) dAT_next_55 ⟨(by refine Eq.symm ?_; refine (op_some n_5).trans ?_; refine (if_pos c_6).trans ?_; refine (op_none n_7).trans ?_; rfl), (by refine Eq.symm ?_; refine (op_some n_5).trans ?_; refine (if_pos c_6).trans ?_; refine (op_none n_7).trans ?_; rfl)⟩
      · have k_b_7 : kd S b_7 = 7 := kq_4 b_7 n_7
        refine q_aload hx hb dAT_next_33 (lv_at hl 0 rfl) ?_
        refine q_some n_7 ?_
        have kq_9 : ∀ b, fr S 13 b_7 = some b → kd S b = 3 := fun b h => hW.ok.2.1 13 b_7 b k_b_7 h
        refine g_q FAT_138 hx hb hts hown hW k_b_7 dAT_next_35 ?_
        refine q_aload_n hx hb dAT_next_38 rfl (lv_at hl 1 rfl) ?_
        refine q_some n_5 ?_
        have kq_10 : ∀ b, fr S 13 b_5 = some b → kd S b = 3 := fun b h => hW.ok.2.1 13 b_5 b k_b_5 h
        refine g_q FAT_138 hx hb hts hown hW k_b_5 dAT_next_39 ?_
        refine lv_acmp_eq (rx := fr S 13 b_7) (ry := fr S 13 b_5) (tgt := 48) hx hb dAT_next_42 (by decide) (fun c_11 => ?_) (fun c_11 => ?_)
        · refine q_aload_n hx hb dAT_next_48 rfl (lv_at hl 1 rfl) ?_
          refine q_aload hx hb dAT_next_49 (lv_at hl 0 rfl) ?_
          refine q_some n_7 ?_
          refine q_some1 n_5 ?_
          refine p_r FAT_166 GTable_told ⟨rfl, rfl⟩ (fun h => by cases h) hx hb hts hown hW k_b_5 k_b_7 dAT_next_51 (fun H locs hW => ?_)
          have mo := mo.tr (mono_sfr (k := 16) (a := b_5) (v := (some b_7)))
          have nnp_12 : nn (sfr S 16 b_5 (some b_7)) := nn_sfr hn (Or.inl rfl)
          refine lv_iconst (v := (1 : Int32)) hx hb dAT_next_54 (by decide) ?_
          exact e_i hsz hx hb hr hlk hW (mo) (Nat.le_of_ble_eq_true rfl) (Nat.le_of_ble_eq_true rfl) dAT_next_55 ⟨(by refine Eq.symm ?_; refine (op_some n_5).trans ?_; refine (if_pos c_6).trans ?_; refine (op_some n_7).trans ?_; refine (if_pos c_11).trans ?_; rfl), (by refine Eq.symm ?_; refine (op_some n_5).trans ?_; refine (if_pos c_6).trans ?_; refine (op_some n_7).trans ?_; refine (if_pos c_11).trans ?_; rfl)⟩
        · refine lv_bipush (v := (-3 : Int32)) hx hb dAT_next_45 (by decide) ?_
          exact e_i hsz hx hb hr hlk hW (mono.rf S) (Nat.le_of_ble_eq_true rfl) (Nat.le_of_ble_eq_true rfl) dAT_next_47 ⟨(by refine Eq.symm ?_; refine (op_some n_5).trans ?_; refine (if_pos c_6).trans ?_; refine (op_some n_7).trans ?_; refine (if_neg c_11).trans ?_; rfl), (by refine Eq.symm ?_; refine (op_some n_5).trans ?_; refine (if_pos c_6).trans ?_; refine (op_some n_7).trans ?_; refine (if_neg c_11).trans ?_; rfl)⟩
    · refine q_aload hx hb dAT_next_21 (lv_at hl 0 rfl) ?_
      refine q_ifnonnull (tgt := 28) hx hb dAT_next_23 (by decide) (fun n_13 => ?_) (fun b_13 n_13 => ?_)
      · refine lv_iconst (v := (-1 : Int32)) hx hb dAT_next_26 (by decide) ?_
        exact e_i hsz hx hb hr hlk hW (mono.rf S) (Nat.le_of_ble_eq_true rfl) (Nat.le_of_ble_eq_true rfl) dAT_next_27 ⟨(by refine Eq.symm ?_; refine (op_some n_5).trans ?_; refine (if_neg c_6).trans ?_; refine (op_none n_13).trans ?_; rfl), (by refine Eq.symm ?_; refine (op_some n_5).trans ?_; refine (if_neg c_6).trans ?_; refine (op_none n_13).trans ?_; rfl)⟩
      · have k_b_13 : kd S b_13 = 7 := kq_4 b_13 n_13
        refine q_aload hx hb dAT_next_28 (lv_at hl 0 rfl) ?_
        refine q_some n_13 ?_
        refine lv_ifnull hx hb dAT_next_30 ?_
        refine q_aload hx hb dAT_next_33 (lv_at hl 0 rfl) ?_
        refine q_some n_13 ?_
        have kq_14 : ∀ b, fr S 13 b_13 = some b → kd S b = 3 := fun b h => hW.ok.2.1 13 b_13 b k_b_13 h
        refine g_q FAT_138 hx hb hts hown hW k_b_13 dAT_next_35 ?_
        refine q_aload_n hx hb dAT_next_38 rfl (lv_at hl 1 rfl) ?_
        refine q_some n_5 ?_
        have kq_15 : ∀ b, fr S 13 b_5 = some b → kd S b = 3 := fun b h => hW.ok.2.1 13 b_5 b k_b_5 h
        refine g_q FAT_138 hx hb hts hown hW k_b_5 dAT_next_39 ?_
        refine lv_acmp_eq (rx := fr S 13 b_13) (ry := fr S 13 b_5) (tgt := 48) hx hb dAT_next_42 (by decide) (fun c_16 => ?_) (fun c_16 => ?_)
        · refine q_aload_n hx hb dAT_next_48 rfl (lv_at hl 1 rfl) ?_
          refine q_aload hx hb dAT_next_49 (lv_at hl 0 rfl) ?_
          refine q_some n_13 ?_
          refine q_some1 n_5 ?_
          refine p_r FAT_166 GTable_told ⟨rfl, rfl⟩ (fun h => by cases h) hx hb hts hown hW k_b_5 k_b_13 dAT_next_51 (fun H locs hW => ?_)
          have mo := mo.tr (mono_sfr (k := 16) (a := b_5) (v := (some b_13)))
          have nnp_17 : nn (sfr S 16 b_5 (some b_13)) := nn_sfr hn (Or.inl rfl)
          refine lv_iconst (v := (1 : Int32)) hx hb dAT_next_54 (by decide) ?_
          exact e_i hsz hx hb hr hlk hW (mo) (Nat.le_of_ble_eq_true rfl) (Nat.le_of_ble_eq_true rfl) dAT_next_55 ⟨(by refine Eq.symm ?_; refine (op_some n_5).trans ?_; refine (if_neg c_6).trans ?_; refine (op_some n_13).trans ?_; refine (if_pos c_16).trans ?_; rfl), (by refine Eq.symm ?_; refine (op_some n_5).trans ?_; refine (if_neg c_6).trans ?_; refine (op_some n_13).trans ?_; refine (if_pos c_16).trans ?_; rfl)⟩
        · refine lv_bipush (v := (-3 : Int32)) hx hb dAT_next_45 (by decide) ?_
          exact e_i hsz hx hb hr hlk hW (mono.rf S) (Nat.le_of_ble_eq_true rfl) (Nat.le_of_ble_eq_true rfl) dAT_next_47 ⟨(by refine Eq.symm ?_; refine (op_some n_5).trans ?_; refine (if_neg c_6).trans ?_; refine (op_some n_13).trans ?_; refine (if_neg c_16).trans ?_; rfl), (by refine Eq.symm ?_; refine (op_some n_5).trans ?_; refine (if_neg c_6).trans ?_; refine (op_some n_13).trans ?_; refine (if_neg c_16).trans ?_; rfl)⟩

def sync_R (S : HS) (t : Nat) (n : Int32) (by_ : Int64) : Int32 :=
  opc (findTable_R S t n) ((-1 : Int32))
  (fun b_3 => if by_ < ((-1000 : Int64) - (fl S 11 b_3)) then
      (-2 : Int32)
    else
      if ((1000 : Int64) - (fl S 11 b_3)) < by_ then
        (-2 : Int32)
      else
        if (fi S 8 b_3) = 0 then
          (-3 : Int32)
        else
          ((fl S 11 b_3) + by_).toInt32)
def sync_S (S : HS) (t : Nat) (n : Int32) (by_ : Int64) : HS :=
  opc (findTable_R S t n) (S)
  (fun b_3 => if by_ < ((-1000 : Int64) - (fl S 11 b_3)) then
      S
    else
      if ((1000 : Int64) - (fl S 11 b_3)) < by_ then
        S
      else
        if (fi S 8 b_3) = 0 then
          S
        else
          (sfl S 11 b_3 ((fl S 11 b_3) + by_)))
set_option maxRecDepth 20000 in
set_option maxHeartbeats 2000000 in
theorem c_sync (l : Launch) (D : va_G) (AC : Nat → ClassId) (S : HS) (t : Nat) (n : Int32) (by_ : Int64)  (k_t : kd S t = 8) (hn : nn S) (ha : atOk S t) : CtI l yAT_sync (Cond.code yAT_sync cAT_sync 5 (some .int) :: wT) 1 24 D AC S [.ref t, .int n, .long by_] 0 0 (fun r S' => r = sync_R S t n by_ ∧ S' = sync_S S t n by_) := by
  refine met_of (by decide) (Nat.le_of_ble_eq_true rfl) ?_
  intro p e s m below meth c ls hsz X hW hl
  obtain ⟨hx, hb, hml, hr, hlk, hown, hnm, hts⟩ := X
  have hl : lv_has ls 5 [(0, .ref t), (1, .int n), (2, .long by_)] := hl
  have mo : mono S S := mono.rf S
  refine lv_aload_n hx hb dAT_sync_0 rfl (lv_at hl 0 rfl) ?_
  refine lv_iload_n hx hb dAT_sync_1 rfl (lv_at hl 1 rfl) ?_
  refine k_Vq (As := [.int n]) (rest := []) (c_findTable l D AC S t n k_t hn ha) CAT_124 ⟨by decide, by decide, _, rfl, rfl⟩ hx hb hml hown hts hW k_t hl.1 rfl rfl (Nat.le_of_ble_eq_true rfl) ⟨⟨Nat.le_of_ble_eq_true rfl, Nat.le_of_ble_eq_true rfl⟩, ⟨Nat.le_of_ble_eq_true rfl, Nat.le_of_ble_eq_true rfl⟩⟩ dAT_sync_2 (fun r_1 S_1 H locs e_1 hW m_1 _ => ?_)
  obtain ⟨e1_1, e2_1⟩ := e_1
  rw [e2_1] at hW m_1
  rw [e1_1]
  have kq_2 : ∀ b, (findTable_R S t n) = some b → kd S b = 7 := kq_findTable hW.ok k_t hn _
  refine q_astore (lv' := [(4, va_rf (findTable_R S t n)), (0, .ref t), (1, .int n), (2, .long by_)]) hx hb dAT_sync_5 hl (by decide) rfl (fun ls hl => ?_)
  refine q_aload hx hb dAT_sync_7 (lv_at hl 0 rfl) ?_
  refine q_ifnonnull (tgt := 14) hx hb dAT_sync_9 (by decide) (fun n_3 => ?_) (fun b_3 n_3 => ?_)
  · refine lv_iconst (v := (-1 : Int32)) hx hb dAT_sync_12 (by decide) ?_
    exact e_i hsz hx hb hr hlk hW (mono.rf S) (Nat.le_of_ble_eq_true rfl) (Nat.le_of_ble_eq_true rfl) dAT_sync_13 ⟨(by refine Eq.symm ?_; refine (op_none n_3).trans ?_; rfl), (by refine Eq.symm ?_; refine (op_none n_3).trans ?_; rfl)⟩
  · have k_b_3 : kd S b_3 = 7 := kq_2 b_3 n_3
    refine lv_lload_n hx hb dAT_sync_14 rfl (lv_at hl 3 rfl) ?_
    refine lv_ldc2 (v := (-1000 : Int64)) hx hb hown (hts _ QAT_170) dAT_sync_15 ?_
    refine q_aload hx hb dAT_sync_18 (lv_at hl 0 rfl) ?_
    refine q_some n_3 ?_
    refine g_l FAT_151 hx hb hts hown hW k_b_3 dAT_sync_20 ?_
    refine lv_lsub hx hb dAT_sync_23 ?_
    refine ll_lt (tgt := 42) hx hb dAT_sync_24 dAT_sync_25 (by decide) (fun c_4 => ?_) (fun c_4 => ?_)
    · refine lv_bipush (v := (-2 : Int32)) hx hb dAT_sync_42 (by decide) ?_
      exact e_i hsz hx hb hr hlk hW (mono.rf S) (Nat.le_of_ble_eq_true rfl) (Nat.le_of_ble_eq_true rfl) dAT_sync_44 ⟨(by refine Eq.symm ?_; refine (op_some n_3).trans ?_; refine (if_pos c_4).trans ?_; rfl), (by refine Eq.symm ?_; refine (op_some n_3).trans ?_; refine (if_pos c_4).trans ?_; rfl)⟩
    · refine lv_lload_n hx hb dAT_sync_28 rfl (lv_at hl 3 rfl) ?_
      refine lv_ldc2 (v := (1000 : Int64)) hx hb hown (hts _ QAT_36) dAT_sync_29 ?_
      refine q_aload hx hb dAT_sync_32 (lv_at hl 0 rfl) ?_
      refine q_some n_3 ?_
      refine g_l FAT_151 hx hb hts hown hW k_b_3 dAT_sync_34 ?_
      refine lv_lsub hx hb dAT_sync_37 ?_
      refine ll_le (tgt := 45) hx hb dAT_sync_38 dAT_sync_39 (by decide) (fun c_5 => ?_) (fun c_5 => ?_)
      · refine q_aload hx hb dAT_sync_45 (lv_at hl 0 rfl) ?_
        refine q_some n_3 ?_
        refine g_i FAT_131 hx hb hts hown hW k_b_3 dAT_sync_47 ?_
        refine lv_if_ne (tgt := 56) hx hb dAT_sync_50 (by decide) (fun c_6 => ?_) (fun c_6 => ?_)
        · refine q_aload hx hb dAT_sync_56 (lv_at hl 0 rfl) ?_
          refine lv_dup hx hb dAT_sync_58 (q_cat _) ?_
          refine q_some n_3 ?_
          refine g_l FAT_151 hx hb hts hown hW k_b_3 dAT_sync_59 ?_
          refine lv_lload_n hx hb dAT_sync_62 rfl (lv_at hl 3 rfl) ?_
          refine lv_ladd hx hb dAT_sync_63 ?_
          refine q_some1 n_3 ?_
          refine p_l FAT_151 GTable_drift (fun h => by cases h) hx hb hts hown hW k_b_3 dAT_sync_64 (fun H locs hW => ?_)
          have mo := mo.tr (mono_sfl (k := 11) (a := b_3) (v := ((fl S 11 b_3) + by_)))
          have nnp_7 : nn (sfl S 11 b_3 ((fl S 11 b_3) + by_)) := nn_sfl hn
          refine q_aload hx hb dAT_sync_67 (lv_at hl 0 rfl) ?_
          refine q_some n_3 ?_
          refine g_l FAT_151 hx hb hts hown hW k_b_3 dAT_sync_69 ?_
          rw [show fl (sfl S 11 b_3 ((fl S 11 b_3) + by_)) 11 b_3 = ((fl S 11 b_3) + by_) from up2_self _ _ _ _]
          refine lv_l2i hx hb dAT_sync_72 rfl ?_
          exact e_i hsz hx hb hr hlk hW (mo) (Nat.le_of_ble_eq_true rfl) (Nat.le_of_ble_eq_true rfl) dAT_sync_73 ⟨(by refine Eq.symm ?_; refine (op_some n_3).trans ?_; refine (if_neg c_4).trans ?_; refine (if_neg c_5).trans ?_; refine (if_neg c_6).trans ?_; rfl), (by refine Eq.symm ?_; refine (op_some n_3).trans ?_; refine (if_neg c_4).trans ?_; refine (if_neg c_5).trans ?_; refine (if_neg c_6).trans ?_; rfl)⟩
        · refine lv_bipush (v := (-3 : Int32)) hx hb dAT_sync_53 (by decide) ?_
          exact e_i hsz hx hb hr hlk hW (mono.rf S) (Nat.le_of_ble_eq_true rfl) (Nat.le_of_ble_eq_true rfl) dAT_sync_55 ⟨(by refine Eq.symm ?_; refine (op_some n_3).trans ?_; refine (if_neg c_4).trans ?_; refine (if_neg c_5).trans ?_; refine (if_pos c_6).trans ?_; rfl), (by refine Eq.symm ?_; refine (op_some n_3).trans ?_; refine (if_neg c_4).trans ?_; refine (if_neg c_5).trans ?_; refine (if_pos c_6).trans ?_; rfl)⟩
      · refine lv_bipush (v := (-2 : Int32)) hx hb dAT_sync_42 (by decide) ?_
        exact e_i hsz hx hb hr hlk hW (mono.rf S) (Nat.le_of_ble_eq_true rfl) (Nat.le_of_ble_eq_true rfl) dAT_sync_44 ⟨(by refine Eq.symm ?_; refine (op_some n_3).trans ?_; refine (if_neg c_4).trans ?_; refine (if_pos c_5).trans ?_; rfl), (by refine Eq.symm ?_; refine (op_some n_3).trans ?_; refine (if_neg c_4).trans ?_; refine (if_pos c_5).trans ?_; rfl)⟩

def deviation_R (S : HS) (t : Nat) (n : Int32) : Int64 :=
  opc (findTable_R S t n) ((0 : Int64))
  (fun b_3 => fl S 11 b_3)
set_option maxRecDepth 20000 in
set_option maxHeartbeats 2000000 in
theorem c_deviation (l : Launch) (D : va_G) (AC : Nat → ClassId) (S : HS) (t : Nat) (n : Int32)  (k_t : kd S t = 8) (hn : nn S) (ha : atOk S t) : CtL l yAT_deviation (Cond.code yAT_deviation cAT_deviation 3 (some .long) :: wT) 1 24 D AC S [.ref t, .int n] 0 0 (fun r S' => r = deviation_R S t n ∧ S' = S) := by
  refine met_of (by decide) (Nat.le_of_ble_eq_true rfl) ?_
  intro p e s m below meth c ls hsz X hW hl
  obtain ⟨hx, hb, hml, hr, hlk, hown, hnm, hts⟩ := X
  have hl : lv_has ls 3 [(0, .ref t), (1, .int n)] := hl
  have mo : mono S S := mono.rf S
  refine lv_aload_n hx hb dAT_deviation_0 rfl (lv_at hl 0 rfl) ?_
  refine lv_iload_n hx hb dAT_deviation_1 rfl (lv_at hl 1 rfl) ?_
  refine k_Vq (As := [.int n]) (rest := []) (c_findTable l D AC S t n k_t hn ha) CAT_124 ⟨by decide, by decide, _, rfl, rfl⟩ hx hb hml hown hts hW k_t hl.1 rfl rfl (Nat.le_of_ble_eq_true rfl) ⟨⟨Nat.le_of_ble_eq_true rfl, Nat.le_of_ble_eq_true rfl⟩, ⟨Nat.le_of_ble_eq_true rfl, Nat.le_of_ble_eq_true rfl⟩⟩ dAT_deviation_2 (fun r_1 S_1 H locs e_1 hW m_1 _ => ?_)
  obtain ⟨e1_1, e2_1⟩ := e_1
  rw [e2_1] at hW m_1
  rw [e1_1]
  have kq_2 : ∀ b, (findTable_R S t n) = some b → kd S b = 7 := kq_findTable hW.ok k_t hn _
  refine q_astore_n (i := 2) (lv' := [(2, va_rf (findTable_R S t n)), (0, .ref t), (1, .int n)]) hx hb dAT_deviation_5 rfl hl (by decide) rfl (fun ls hl => ?_)
  refine q_aload_n hx hb dAT_deviation_6 rfl (lv_at hl 0 rfl) ?_
  refine q_ifnonnull (tgt := 14) hx hb dAT_deviation_7 (by decide) (fun n_3 => ?_) (fun b_3 n_3 => ?_)
  · refine lv_lconst (v := (0 : Int64)) hx hb dAT_deviation_10 (by decide) ?_
    refine lv_goto (tgt := 18) hx hb dAT_deviation_11 (by decide) ?_
    exact e_l hsz hx hb hr hlk hW (mono.rf S) (Nat.le_of_ble_eq_true rfl) (Nat.le_of_ble_eq_true rfl) dAT_deviation_18 ⟨(by refine Eq.symm ?_; refine (op_none n_3).trans ?_; rfl), rfl⟩
  · have k_b_3 : kd S b_3 = 7 := kq_2 b_3 n_3
    refine q_aload_n hx hb dAT_deviation_14 rfl (lv_at hl 0 rfl) ?_
    refine q_some n_3 ?_
    refine g_l FAT_151 hx hb hts hown hW k_b_3 dAT_deviation_15 ?_
    exact e_l hsz hx hb hr hlk hW (mono.rf S) (Nat.le_of_ble_eq_true rfl) (Nat.le_of_ble_eq_true rfl) dAT_deviation_18 ⟨(by refine Eq.symm ?_; refine (op_some n_3).trans ?_; rfl), rfl⟩
end
section
set_option maxRecDepth 100000 in
theorem FNotes_17 : fdOk RNotes RNotes RNotes TNotes 3 17 4 2 0 5 := ⟨⟨by decide, by decide, rfl, by decide, rfl, by decide⟩, iwNotes, wT_in 63 (by decide +kernel) rfl, rfl⟩
set_option maxRecDepth 100000 in
theorem GNotes_total : fdPut TNotes 3 2 (.int) false := ⟨rfl, tyNotes_ok 2 (by decide), ⟨tyNotes, tyNotes_ok⟩, nmNotes⟩
set_option maxRecDepth 100000 in
theorem dvPage (S : HS) (q : Nat) : ∀ j, j < 1 → defaultValue (tyPage j) = vp_V ((lay 5).map (fv (newQ S q 5) q)) j := by
  intro j hj
  rcases (show j = 0 by omega) with rfl <;> simp [vp_V, lay, fv, newQ, fi, fl, fr, zr, va_rf, tyPage, defaultValue]
set_option maxRecDepth 100000 in
theorem NNotes_9 : (5 ≠ 0 ∧ aK 5 = 0 ∧ aE 5 = 0 ∧ vwCl[5 - 1]? = some (RPage, TPage, 1)) ∧ (∃ ty : Nat → FieldType, (∀ k, k < 1 → parseFieldDescriptor (TPage k).2.2.1 = some (ty k)) ∧ ∀ S q, ∀ j, j < 1 → defaultValue (ty j) = vp_V ((lay 5).map (fv (newQ S q 5) q)) j) ∧ (Cond.classLink RNotes 9 RPage ∈ wT ∧ Cond.instantiable RPage 1 ∈ wT ∧ Cond.initialized RPage ∈ wT) := ⟨⟨by decide, by decide, by decide, rfl⟩, ⟨tyPage, tyPage_ok, dvPage⟩, wT_in 59 (by decide +kernel) rfl, wT_in 339 (by decide +kernel) rfl, wT_in 38 (by decide +kernel) rfl⟩
set_option maxRecDepth 100000 in
theorem CNotes_24 : cN RNotes 24 yPage_init "AlarmTables" cPage_init 1 0 := ⟨fun _ h => h.2.1, ⟨wT_in 341 (by decide +kernel) rfl, wT_in 38 (by decide +kernel) rfl, rfl⟩, wT_in 342 rfl rfl, by decide +kernel⟩
set_option maxRecDepth 100000 in
theorem CNotes_25 : cV RNotes 25 RPage yPage_write cPage_write 8 none 5 := ⟨⟨wT_in 350 (by decide +kernel) rfl, wT_in 351 (by decide +kernel) rfl, wT_in 352 (by decide +kernel) rfl, wT_in 38 (by decide +kernel) rfl⟩, wT_in 353 rfl rfl, by decide +kernel⟩
end
section
def pgOk (S : HS) : Prop := ∀ b, kd S b = 5 → an S (gd (fr S 10 b)) = 1000
theorem nnk5 {k : Nat} (h : nnk k = true) (h2 : rO k = 5) : k = 10 := by
  unfold nnk at h
  split at h <;> first | rfl | (cases h2) | (cases h)
theorem nn_pg {S : HS} {q : Nat} (hq : hz S = q) (h : nn S) (hf : kd S q = 0) : nn (Page_init_S (newQ S q 5) q) := by
  intro k a hk ha
  have ha : va_up (va_up (kd S) q 5) (hz S + 1) 11 a = rO k := ha
  show ∃ b, up2 (zr (fr S) q none) 10 q (some (hz S + 1)) k a = some b
  by_cases h1 : a = hz S + 1
  · subst h1
    rw [va_up_self] at ha
    exact absurd ha.symm (rO_obj k 11 (by decide) (by decide))
  · rw [va_up_ne _ _ h1] at ha
    by_cases h2 : a = q
    · subst h2
      rw [va_up_self] at ha
      have := nnk5 hk ha.symm
      subst this
      exact ⟨_, up2_self _ _ _ _⟩
    · rw [va_up_ne _ _ h2] at ha
      obtain ⟨b, hb⟩ := h k a hk ha
      exact ⟨b, by rw [up2_a _ _ _ _ h2]; simp only [zr, h2, if_false]; exact hb⟩
theorem Wd.k0 {D : va_G} {AC : Nat → ClassId} {A : Nat → Prop} {s : State} {H0 H : Heap} {locs : List Loc} {S : HS} (hW : Wd D AC A s H0 H locs S) : kd S (hz S) = 0 := Classical.byContradiction fun z => hW.fresh (hW.ok.1 _ z)
theorem dv250 {k : Int32} (h : k = nI k.toNatClampNeg) (hn : k.toNatClampNeg ≤ 3000) : k / 250 = nI (k.toNatClampNeg / 250) := by
  generalize k.toNatClampNeg = n at h hn
  subst h
  exact pk_div (by omega) (by decide) (by decide)
theorem ix_w {k : Int32} (h : k = nI k.toNatClampNeg) (hn : k.toNatClampNeg ≤ 3000) : ((k - k / 250 * 250) * 4) = nI ((k - k / 250 * 250) * 4).toNatClampNeg ∧ ((k - k / 250 * 250) * 4).toNatClampNeg + 4 ≤ 1000 := by
  generalize k.toNatClampNeg = n at h hn
  subst h
  have e : (nI n - nI n / 250 * 250) * 4 = nI (n % 250 * 4) := by
    rw [show nI n - nI n / 250 * 250 = nI (n % 250) from pk_rem (by omega) (by decide) (by decide)]
    exact pk_mul _ 4
  have : n % 250 < 250 := Nat.mod_lt _ (by decide)
  rw [e, nI_clamp (by omega)]
  exact ⟨rfl, by omega⟩
def addC (S : HS) (t : Nat) : Nat := if fi S 4 t < (3000 : Int32) then opc (ar S (gd (fr S 9 t)) (fi S 4 t / (250 : Int32)).toNatClampNeg) 2 (fun _ => 0) else 0
def addM (S : HS) (t : Nat) : Nat := if fi S 4 t < (3000 : Int32) then opc (ar S (gd (fr S 9 t)) (fi S 4 t / (250 : Int32)).toNatClampNeg) 1001 (fun _ => 0) else 0

theorem pg_in {k : Int32} (h : k = nI k.toNatClampNeg) (hn : k.toNatClampNeg ≤ 3000) (c : k < 3000) {len : Nat} (hl : len = 12) : vp_in (k / 250) len := by
  have h1 : k.toNatClampNeg < 3000 := by
    rw [h] at c
    exact (nI_ltI (b := 3000) (by omega) (by decide)).mp c
  rw [dv250 h hn, hl]
  exact vp_in_nI (by omega) (by decide)

def add_S (S : HS) (t : Nat) (kn : Int32) (nb : Int32) (of_ : Int64) (vl : Int64) : HS :=
  if (fi S 4 t) < (3000 : Int32) then
    opc (ar S (gd (fr S 9 t)) ((fi S 4 t) / (250 : Int32)).toNatClampNeg) ((sfi (write_S (sar (Page_init_S (newQ (sfi S 5 t ((fi S 5 t) + (1 : Int32))) (hz S) 5) (hz S)) (gd (fr S 9 t)) ((fi S 4 t) / (250 : Int32)).toNatClampNeg (some (hz S))) (hz S) (((fi S 4 t) - (fi S 4 t) / (250 : Int32) * (250 : Int32)) * (4 : Int32)) kn nb of_ vl) 4 t ((fi (write_S (sar (Page_init_S (newQ (sfi S 5 t ((fi S 5 t) + (1 : Int32))) (hz S) 5) (hz S)) (gd (fr S 9 t)) ((fi S 4 t) / (250 : Int32)).toNatClampNeg (some (hz S))) (hz S) (((fi S 4 t) - (fi S 4 t) / (250 : Int32) * (250 : Int32)) * (4 : Int32)) kn nb of_ vl) 4 t) + (1 : Int32))))
    (fun b_7 => (sfi (write_S (sfi S 5 t ((fi S 5 t) + (1 : Int32))) b_7 (((fi S 4 t) - (fi S 4 t) / (250 : Int32) * (250 : Int32)) * (4 : Int32)) kn nb of_ vl) 4 t ((fi (write_S (sfi S 5 t ((fi S 5 t) + (1 : Int32))) b_7 (((fi S 4 t) - (fi S 4 t) / (250 : Int32) * (250 : Int32)) * (4 : Int32)) kn nb of_ vl) 4 t) + (1 : Int32))))
  else
    (sfi S 5 t ((fi S 5 t) + (1 : Int32)))
set_option maxRecDepth 20000 in
set_option maxHeartbeats 2000000 in
theorem c_add (l : Launch) (D : va_G) (AC : Nat → ClassId) (S : HS) (t : Nat) (kn : Int32) (nb : Int32) (of_ : Int64) (vl : Int64)  (k_t : kd S t = 4) (hn : nn S) (hk : fi S 4 t = nI (fi S 4 t).toNatClampNeg) (hle : (fi S 4 t).toNatClampNeg ≤ 3000) (hlp : an S (gd (fr S 9 t)) = 12) (hpg : pgOk S) : CtV l yNotes_add (Cond.code yNotes_add cNotes_add 8 none :: wT) 2 40 D AC S [.ref t, .int kn, .int nb, .long of_, .long vl] (addC S t) (addM S t) (fun S' => S' = add_S S t kn nb of_ vl) := by
  refine met_of (by decide) (Nat.le_of_ble_eq_true rfl) ?_
  intro p e s m below meth c ls hsz X hW hl
  obtain ⟨hx, hb, hml, hr, hlk, hown, hnm, hts⟩ := X
  have hl : lv_has ls 8 [(0, .ref t), (1, .int kn), (2, .int nb), (3, .long of_), (5, .long vl)] := hl
  have mo : mono S S := mono.rf S
  refine lv_aload_n hx hb dNotes_add_0 rfl (lv_at hl 0 rfl) ?_
  refine lv_dup hx hb dNotes_add_1 rfl ?_
  refine g_i FNotes_17 hx hb hts hown hW k_t dNotes_add_2 ?_
  refine lv_iconst (v := (1 : Int32)) hx hb dNotes_add_5 (by decide) ?_
  refine lv_iadd hx hb dNotes_add_6 ?_
  refine p_i FNotes_17 GNotes_total (fun h => by cases h) hx hb hts hown hW k_t rfl rfl dNotes_add_7 (fun H locs hW => ?_)
  have mo := mo.tr (mono_sfi (k := 5) (a := t) (v := ((fi S 5 t) + (1 : Int32))))
  have nnp_1 : nn (sfi S 5 t ((fi S 5 t) + (1 : Int32))) := nn_sfi hn
  refine lv_aload_n hx hb dNotes_add_10 rfl (lv_at hl 0 rfl) ?_
  refine g_i FNotes_21 hx hb hts hown hW k_t dNotes_add_11 ?_
  rw [show fi (sfi S 5 t ((fi S 5 t) + (1 : Int32))) 4 t = fi S 4 t from rfl]
  refine lv_sipush (v := (3000 : Int32)) hx hb dNotes_add_14 (by decide) ?_
  refine lv_icmp_lt (tgt := 21) hx hb dNotes_add_17 (by decide) (fun c_2 => ?_) (fun c_2 => ?_)
  · refine lv_aload_n hx hb dNotes_add_21 rfl (lv_at hl 0 rfl) ?_
    refine g_i FNotes_21 hx hb hts hown hW k_t dNotes_add_22 ?_
    rw [show fi (sfi S 5 t ((fi S 5 t) + (1 : Int32))) 4 t = fi S 4 t from rfl]
    refine lv_sipush (v := (250 : Int32)) hx hb dNotes_add_25 (by decide) ?_
    refine lv_idiv hx hb dNotes_add_28 (by decide) ?_
    refine lv_istore (lv' := [(7, .int ((fi S 4 t) / (250 : Int32))), (0, .ref t), (1, .int kn), (2, .int nb), (3, .long of_), (5, .long vl)]) hx hb dNotes_add_29 hl (by decide) rfl (fun ls hl => ?_)
    refine lv_aload_n hx hb dNotes_add_31 rfl (lv_at hl 1 rfl) ?_
    have kq_3 : ∀ b, fr S 9 t = some b → kd (sfi S 5 t ((fi S 5 t) + (1 : Int32))) b = 17 := fun b h => hW.ok.2.1 9 t b k_t h
    refine g_q FNotes_11 hx hb hts hown hW k_t dNotes_add_32 ?_
    rw [show fr (sfi S 5 t ((fi S 5 t) + (1 : Int32))) 9 t = fr S 9 t from rfl]
    refine lv_iload hx hb dNotes_add_35 (lv_at hl 0 rfl) ?_
    have n_4 : fr S 9 t = some (gd (fr S 9 t)) := gd_some (hn 9 t rfl k_t)
    have kb_5 : kd (sfi S 5 t ((fi S 5 t) + (1 : Int32))) (gd (fr S 9 t)) = 17 := kq_3 (gd (fr S 9 t)) n_4
    refine q_some1 n_4 ?_
    have kq_6 : ∀ b, ar S (gd (fr S 9 t)) ((fi S 4 t) / (250 : Int32)).toNatClampNeg = some b → kd (sfi S 5 t ((fi S 5 t) + (1 : Int32))) b = 5 := fun b h => (hW.ok.2.2 (gd (fr S 9 t)) _ b (by rw [kb_5]; decide) h).trans (by rw [kb_5]; rfl)
    refine a_q (K := 17) (t0 := 6) (by decide) rfl hx hb hW kb_5 (pg_in hk hle c_2 hlp) dNotes_add_37 ?_
    rw [show ar (sfi S 5 t ((fi S 5 t) + (1 : Int32))) (gd (fr S 9 t)) ((fi S 4 t) / (250 : Int32)).toNatClampNeg = ar S (gd (fr S 9 t)) ((fi S 4 t) / (250 : Int32)).toNatClampNeg from rfl]
    refine q_ifnonnull (tgt := 55) hx hb dNotes_add_38 (by decide) (fun n_7 => ?_) (fun b_7 n_7 => ?_)
    · refine lv_aload_n hx hb dNotes_add_41 rfl (lv_at hl 1 rfl) ?_
      refine g_q FNotes_11 hx hb hts hown hW k_t dNotes_add_42 ?_
      rw [show fr (sfi S 5 t ((fi S 5 t) + (1 : Int32))) 9 t = fr S 9 t from rfl]
      refine lv_iload hx hb dNotes_add_45 (lv_at hl 0 rfl) ?_
      have ne8_0 : t ≠ (hz S) := hW.ne k_t (by decide)
      have ne8_1 : (gd (fr S 9 t)) ≠ (hz S) := hW.ne kb_5 (by decide)
      have hC : addC S t = 2 := (if_pos c_2).trans (op_none n_7)
      have hM : addM S t = 1001 := (if_pos c_2).trans (op_none n_7)
      have hnew : kd (sfi S 5 t ((fi S 5 t) + (1 : Int32))) (hz S) = 0 := hW.k0
      refine n_o (NNotes_9).1 rfl (NNotes_9).2.1 iwPage (NNotes_9).2.2 hx hb hts hown hW ⟨by show _ ≤ addC S t; omega, by show _ ≤ addM S t; omega⟩ (hz S) rfl dNotes_add_47 (fun H hW m_8 k_q8 => ?_)
      have hlp := m_8.n kb_5 (by decide) hlp
      have k_t := m_8.k k_t (by decide)
      have kb_5 := m_8.k kb_5 (by decide)
      have kq_3 := fun b h => m_8.k (kq_3 b h) (by decide)
      have kq_6 := fun b h => m_8.k (kq_6 b h) (by decide)
      have mo := mo.tr m_8
      refine lv_dup hx hb dNotes_add_50 rfl ?_
      refine k_Nv (As := []) (rest := [.ref (hz S), .int ((fi S 4 t) / (250 : Int32)), va_rf (fr S 9 t)]) (c_Page_init l D AC (newQ (sfi S 5 t ((fi S 5 t) + (1 : Int32))) (hz S) 5) (hz S) k_q8) CNotes_24 hx hb hml hown hts hW hl.1 rfl rfl (by simp [q_cat, cat_r, cat_i, cat_l, cat_n]) ⟨⟨Nat.le_of_ble_eq_true rfl, Nat.le_of_ble_eq_true rfl⟩, ⟨by show _ ≤ addC S t; omega, by show _ ≤ addM S t; omega⟩⟩ dNotes_add_51 (fun S_9 H locs e_9 hW m_9 _ => ?_)
      rw [e_9] at hW m_9
      have hlp := m_9.n kb_5 (by decide) hlp
      have k_t := m_9.k k_t (by decide)
      have kb_5 := m_9.k kb_5 (by decide)
      have k_q8 := m_9.k k_q8 (by decide)
      have kq_3 := fun b h => m_9.k (kq_3 b h) (by decide)
      have kq_6 := fun b h => m_9.k (kq_6 b h) (by decide)
      have mo := mo.tr m_9
      have nnp_10 : nn (Page_init_S (newQ (sfi S 5 t ((fi S 5 t) + (1 : Int32))) (hz S) 5) (hz S)) := nn_pg rfl nnp_1 hnew
      refine q_some2 n_4 ?_
      refine a_rs (K := 17) (t0 := 6) (by decide) rfl (r := (RPage, TPage, 1)) ⟨rfl, rfl⟩ hx hb hW kb_5 k_q8 (pg_in hk hle c_2 hlp) dNotes_add_54 (fun H locs hW => ?_)
      have mo := mo.tr (mono_sar (a := (gd (fr S 9 t))) (i := ((fi S 4 t) / (250 : Int32)).toNatClampNeg) (v := (some (hz S))))
      have nnp_11 : nn (sar (Page_init_S (newQ (sfi S 5 t ((fi S 5 t) + (1 : Int32))) (hz S) 5) (hz S)) (gd (fr S 9 t)) ((fi S 4 t) / (250 : Int32)).toNatClampNeg (some (hz S))) := nn_sar nnp_10
      refine lv_aload_n hx hb dNotes_add_55 rfl (lv_at hl 1 rfl) ?_
      refine g_q FNotes_11 hx hb hts hown hW k_t dNotes_add_56 ?_
      rw [show fr (sar (Page_init_S (newQ (sfi S 5 t ((fi S 5 t) + (1 : Int32))) (hz S) 5) (hz S)) (gd (fr S 9 t)) ((fi S 4 t) / (250 : Int32)).toNatClampNeg (some (hz S))) 9 t = fr S 9 t from (by simp only [Page_init_S, ne8_0, fr_sfr, fr_sfi, fr_sfl, fr_sar, fr_sai, fr_sal, fi_sfr, fi_sfi, fi_sfl, fi_sar, fi_sai, fi_sal, fl_sfr, fl_sfi, fl_sfl, fl_sar, fl_sai, fl_sal, fr_newQ, fi_newQ, fl_newQ, fr_newB, fi_newB, fl_newB, ne_eq, not_false_eq_true] <;> rfl)]
      refine lv_iload hx hb dNotes_add_59 (lv_at hl 0 rfl) ?_
      refine q_some1 n_4 ?_
      refine a_q (K := 17) (t0 := 6) (by decide) rfl hx hb hW kb_5 (pg_in hk hle c_2 hlp) dNotes_add_61 ?_
      rw [show ar (sar (Page_init_S (newQ (sfi S 5 t ((fi S 5 t) + (1 : Int32))) (hz S) 5) (hz S)) (gd (fr S 9 t)) ((fi S 4 t) / (250 : Int32)).toNatClampNeg (some (hz S))) (gd (fr S 9 t)) ((fi S 4 t) / (250 : Int32)).toNatClampNeg = some (hz S) from up2_self _ _ _ _]
      refine q_some rfl ?_
      refine lv_aload_n hx hb dNotes_add_62 rfl (lv_at hl 1 rfl) ?_
      refine g_i FNotes_21 hx hb hts hown hW k_t dNotes_add_63 ?_
      rw [show fi (sar (Page_init_S (newQ (sfi S 5 t ((fi S 5 t) + (1 : Int32))) (hz S) 5) (hz S)) (gd (fr S 9 t)) ((fi S 4 t) / (250 : Int32)).toNatClampNeg (some (hz S))) 4 t = fi S 4 t from (by simp only [Page_init_S, ne8_0, fr_sfr, fr_sfi, fr_sfl, fr_sar, fr_sai, fr_sal, fi_sfr, fi_sfi, fi_sfl, fi_sar, fi_sai, fi_sal, fl_sfr, fl_sfi, fl_sfl, fl_sar, fl_sai, fl_sal, fr_newQ, fi_newQ, fl_newQ, fr_newB, fi_newB, fl_newB, ne_eq, not_false_eq_true] <;> rfl)]
      refine lv_sipush (v := (250 : Int32)) hx hb dNotes_add_66 (by decide) ?_
      refine lv_irem hx hb dNotes_add_69 (by decide) ?_
      refine lv_iconst (v := (4 : Int32)) hx hb dNotes_add_70 (by decide) ?_
      refine lv_imul hx hb dNotes_add_71 ?_
      refine lv_iload_n hx hb dNotes_add_72 rfl (lv_at hl 2 rfl) ?_
      refine lv_iload_n hx hb dNotes_add_73 rfl (lv_at hl 3 rfl) ?_
      refine lv_lload_n hx hb dNotes_add_74 rfl (lv_at hl 4 rfl) ?_
      refine lv_lload hx hb dNotes_add_75 (lv_at hl 5 rfl) ?_
      refine k_Vv (As := [.int (((fi S 4 t) - (fi S 4 t) / (250 : Int32) * (250 : Int32)) * (4 : Int32)), .int kn, .int nb, .long of_, .long vl]) (rest := []) (c_write l D AC (sar (Page_init_S (newQ (sfi S 5 t ((fi S 5 t) + (1 : Int32))) (hz S) 5) (hz S)) (gd (fr S 9 t)) ((fi S 4 t) / (250 : Int32)).toNatClampNeg (some (hz S))) (hz S) (((fi S 4 t) - (fi S 4 t) / (250 : Int32) * (250 : Int32)) * (4 : Int32)) kn nb of_ vl k_q8 nnp_11 ((ix_w hk hle).1) ((ix_w hk hle).2) (by simp [Page_init_S, gd, fr, sfr, sar, up2, an, kd, newB, newQ, va_up])) CNotes_25 ⟨by decide, by decide, _, rfl, rfl⟩ hx hb hml hown hts hW k_q8 hl.1 rfl rfl (Nat.le_of_ble_eq_true rfl) ⟨⟨Nat.le_of_ble_eq_true rfl, Nat.le_of_ble_eq_true rfl⟩, ⟨by show _ ≤ addC S t; omega, by show _ ≤ addM S t; omega⟩⟩ dNotes_add_77 (fun S_12 H locs e_12 hW m_12 _ => ?_)
      rw [e_12] at hW m_12
      have hlp := m_12.n kb_5 (by decide) hlp
      have k_t := m_12.k k_t (by decide)
      have kb_5 := m_12.k kb_5 (by decide)
      have k_q8 := m_12.k k_q8 (by decide)
      have kq_3 := fun b h => m_12.k (kq_3 b h) (by decide)
      have kq_6 := fun b h => m_12.k (kq_6 b h) (by decide)
      have mo := mo.tr m_12
      refine lv_aload_n hx hb dNotes_add_80 rfl (lv_at hl 1 rfl) ?_
      refine lv_dup hx hb dNotes_add_81 rfl ?_
      refine g_i FNotes_21 hx hb hts hown hW k_t dNotes_add_82 ?_
      refine lv_iconst (v := (1 : Int32)) hx hb dNotes_add_85 (by decide) ?_
      refine lv_iadd hx hb dNotes_add_86 ?_
      refine p_i FNotes_21 GNotes_kept (fun h => by cases h) hx hb hts hown hW k_t rfl rfl dNotes_add_87 (fun H locs hW => ?_)
      have mo := mo.tr (mono_sfi (k := 4) (a := t) (v := ((fi (write_S (sar (Page_init_S (newQ (sfi S 5 t ((fi S 5 t) + (1 : Int32))) (hz S) 5) (hz S)) (gd (fr S 9 t)) ((fi S 4 t) / (250 : Int32)).toNatClampNeg (some (hz S))) (hz S) (((fi S 4 t) - (fi S 4 t) / (250 : Int32) * (250 : Int32)) * (4 : Int32)) kn nb of_ vl) 4 t) + (1 : Int32))))
      exact e_v hsz hx hb hr hlk hW (mo) (by show _ ≤ addC S t; omega) (by show _ ≤ addM S t; omega) dNotes_add_90 ((by refine Eq.symm ?_; refine (if_pos c_2).trans ?_; refine (op_none n_7).trans ?_; rfl))
    · have k_b_7 : kd (sfi S 5 t ((fi S 5 t) + (1 : Int32))) b_7 = 5 := kq_6 b_7 n_7
      refine lv_aload_n hx hb dNotes_add_55 rfl (lv_at hl 1 rfl) ?_
      refine g_q FNotes_11 hx hb hts hown hW k_t dNotes_add_56 ?_
      rw [show fr (sfi S 5 t ((fi S 5 t) + (1 : Int32))) 9 t = fr S 9 t from rfl]
      refine lv_iload hx hb dNotes_add_59 (lv_at hl 0 rfl) ?_
      refine q_some1 n_4 ?_
      refine a_q (K := 17) (t0 := 6) (by decide) rfl hx hb hW kb_5 (pg_in hk hle c_2 hlp) dNotes_add_61 ?_
      rw [show ar (sfi S 5 t ((fi S 5 t) + (1 : Int32))) (gd (fr S 9 t)) ((fi S 4 t) / (250 : Int32)).toNatClampNeg = ar S (gd (fr S 9 t)) ((fi S 4 t) / (250 : Int32)).toNatClampNeg from rfl]
      refine lv_aload_n hx hb dNotes_add_62 rfl (lv_at hl 1 rfl) ?_
      refine g_i FNotes_21 hx hb hts hown hW k_t dNotes_add_63 ?_
      rw [show fi (sfi S 5 t ((fi S 5 t) + (1 : Int32))) 4 t = fi S 4 t from rfl]
      refine lv_sipush (v := (250 : Int32)) hx hb dNotes_add_66 (by decide) ?_
      refine lv_irem hx hb dNotes_add_69 (by decide) ?_
      refine lv_iconst (v := (4 : Int32)) hx hb dNotes_add_70 (by decide) ?_
      refine lv_imul hx hb dNotes_add_71 ?_
      refine lv_iload_n hx hb dNotes_add_72 rfl (lv_at hl 2 rfl) ?_
      refine lv_iload_n hx hb dNotes_add_73 rfl (lv_at hl 3 rfl) ?_
      refine lv_lload_n hx hb dNotes_add_74 rfl (lv_at hl 4 rfl) ?_
      refine lv_lload hx hb dNotes_add_75 (lv_at hl 5 rfl) ?_
      refine q_some5 n_7 ?_
      refine k_Vv (As := [.int (((fi S 4 t) - (fi S 4 t) / (250 : Int32) * (250 : Int32)) * (4 : Int32)), .int kn, .int nb, .long of_, .long vl]) (rest := []) (c_write l D AC (sfi S 5 t ((fi S 5 t) + (1 : Int32))) b_7 (((fi S 4 t) - (fi S 4 t) / (250 : Int32) * (250 : Int32)) * (4 : Int32)) kn nb of_ vl k_b_7 nnp_1 ((ix_w hk hle).1) ((ix_w hk hle).2) (hpg b_7 k_b_7)) CNotes_25 ⟨by decide, by decide, _, rfl, rfl⟩ hx hb hml hown hts hW k_b_7 hl.1 rfl rfl (Nat.le_of_ble_eq_true rfl) ⟨⟨Nat.le_of_ble_eq_true rfl, Nat.le_of_ble_eq_true rfl⟩, ⟨by show _ ≤ addC S t; omega, by show _ ≤ addM S t; omega⟩⟩ dNotes_add_77 (fun S_13 H locs e_13 hW m_13 _ => ?_)
      rw [e_13] at hW m_13
      have hlp := m_13.n kb_5 (by decide) hlp
      have k_t := m_13.k k_t (by decide)
      have kb_5 := m_13.k kb_5 (by decide)
      have k_b_7 := m_13.k k_b_7 (by decide)
      have kq_3 := fun b h => m_13.k (kq_3 b h) (by decide)
      have kq_6 := fun b h => m_13.k (kq_6 b h) (by decide)
      have mo := mo.tr m_13
      refine lv_aload_n hx hb dNotes_add_80 rfl (lv_at hl 1 rfl) ?_
      refine lv_dup hx hb dNotes_add_81 rfl ?_
      refine g_i FNotes_21 hx hb hts hown hW k_t dNotes_add_82 ?_
      refine lv_iconst (v := (1 : Int32)) hx hb dNotes_add_85 (by decide) ?_
      refine lv_iadd hx hb dNotes_add_86 ?_
      refine p_i FNotes_21 GNotes_kept (fun h => by cases h) hx hb hts hown hW k_t rfl rfl dNotes_add_87 (fun H locs hW => ?_)
      have mo := mo.tr (mono_sfi (k := 4) (a := t) (v := ((fi (write_S (sfi S 5 t ((fi S 5 t) + (1 : Int32))) b_7 (((fi S 4 t) - (fi S 4 t) / (250 : Int32) * (250 : Int32)) * (4 : Int32)) kn nb of_ vl) 4 t) + (1 : Int32))))
      exact e_v hsz hx hb hr hlk hW (mo) (Nat.zero_le _) (Nat.zero_le _) dNotes_add_90 ((by refine Eq.symm ?_; refine (if_pos c_2).trans ?_; refine (op_some n_7).trans ?_; rfl))
  · exact e_v hsz hx hb hr hlk hW (mo) (Nat.zero_le _) (Nat.zero_le _) dNotes_add_20 ((by refine Eq.symm ?_; refine (if_neg c_2).trans ?_; rfl))
end
section
set_option maxRecDepth 100000 in
theorem FNotes_29 : fdOk RNotes RPage RPage TPage 1 29 5 0 2 10 := ⟨⟨by decide, by decide, rfl, by decide, rfl, by decide⟩, iwPage, wT_in 345 (by decide +kernel) rfl, rfl⟩
set_option maxRecDepth 100000 in
theorem FAT_30 : fdOk RAT RAT RAT TAT 8 30 8 3 2 21 := ⟨⟨by decide, by decide, rfl, by decide, rfl, by decide⟩, iwAT, wT_in 75 (by decide +kernel) rfl, rfl⟩
set_option maxRecDepth 100000 in
theorem GAT_notes : fdPut TAT 8 3 (.object "AlarmTables$Notes") true := ⟨rfl, tyAT_ok 3 (by decide), ⟨tyAT, tyAT_ok⟩, nmAT⟩
set_option maxRecDepth 100000 in
theorem CAT_192 : cV RAT 192 RNotes yNotes_has cNotes_has 2 (some .boolean) 1 := ⟨⟨wT_in 385 (by decide +kernel) rfl, wT_in 386 (by decide +kernel) rfl, wT_in 387 (by decide +kernel) rfl, wT_in 26 (by decide +kernel) rfl⟩, wT_in 388 rfl rfl, by decide +kernel⟩
set_option maxRecDepth 100000 in
theorem CAT_196 : cV RAT 196 RNotes yNotes_read cNotes_read 4 (some .int) 2 := ⟨⟨wT_in 389 (by decide +kernel) rfl, wT_in 390 (by decide +kernel) rfl, wT_in 391 (by decide +kernel) rfl, wT_in 26 (by decide +kernel) rfl⟩, wT_in 392 rfl rfl, by decide +kernel⟩
set_option maxRecDepth 100000 in
theorem FAT_182 : fdOk RAT RNotes RNotes TNotes 3 182 4 2 0 5 := ⟨⟨by decide, by decide, rfl, by decide, rfl, by decide⟩, iwNotes, wT_in 64 (by decide +kernel) rfl, rfl⟩
set_option maxRecDepth 100000 in
theorem CTable_35 : cV RTable 35 RTable yTable_pointBefore cTable_pointBefore 5 (some (.object "AlarmTables$Point")) 1 := ⟨⟨wT_in 269 (by decide +kernel) rfl, wT_in 270 (by decide +kernel) rfl, wT_in 271 (by decide +kernel) rfl, wT_in 36 (by decide +kernel) rfl⟩, wT_in 272 rfl rfl, by decide +kernel⟩
set_option maxRecDepth 100000 in
theorem FTable_39 : fdOk RTable RTable RTable TTable 12 39 7 4 0 7 := ⟨⟨by decide, by decide, rfl, by decide, rfl, by decide⟩, iwTable, wT_in 213 (by decide +kernel) rfl, rfl⟩
set_option maxRecDepth 100000 in
theorem GTable_pointCount : fdPut TTable 12 4 (.int) false := ⟨rfl, tyTable_ok 4 (by decide), ⟨tyTable, tyTable_ok⟩, nmTable⟩
set_option maxRecDepth 100000 in
theorem CAT_52 : cV RAT 52 RAT yAT_findCounter cAT_findCounter 2 (some (.object "AlarmTables$Counter")) 1 := ⟨⟨wT_in 101 (by decide +kernel) rfl, wT_in 103 (by decide +kernel) rfl, wT_in 0 (by decide +kernel) rfl, wT_in 25 (by decide +kernel) rfl⟩, wT_in 104 rfl rfl, by decide +kernel⟩
set_option maxRecDepth 100000 in
theorem OAT_3 : Cond.methodLink RAT 3 objectInit ∈ wT ∧ Cond.instanceMethod objectInit ∈ wT ∧ Cond.code objectInit ⟨#[0xb1]⟩ 1 none ∈ wT := ⟨wT_in 44 (by decide +kernel) rfl, wT_in 45 (by decide +kernel) rfl, wT_in 46 rfl rfl⟩
set_option maxRecDepth 100000 in
theorem NAAT_9 : Cond.classLink RAT 9 RCounter ∈ wT ∧ ∀ s, NX s → va_AO RCounter s := ⟨wT_in 47 (by decide +kernel) rfl, fun _ h => h.2.2.1⟩
set_option maxRecDepth 100000 in
theorem NAAT_15 : Cond.classLink RAT 15 RAlarm ∈ wT ∧ ∀ s, NX s → va_AO RAlarm s := ⟨wT_in 49 (by decide +kernel) rfl, fun _ h => h.2.2.2.1⟩
set_option maxRecDepth 100000 in
theorem NAAT_21 : Cond.classLink RAT 21 RTable ∈ wT ∧ ∀ s, NX s → va_AO RTable s := ⟨wT_in 51 (by decide +kernel) rfl, fun _ h => h.2.2.2.2.1⟩
set_option maxRecDepth 100000 in
theorem dvNotes (S : HS) (q : Nat) : ∀ j, j < 3 → defaultValue (tyNotes j) = vp_V ((lay 4).map (fv (newQ S q 4) q)) j := by
  intro j hj
  rcases (show j = 0 ∨ j = 1 ∨ j = 2 by omega) with rfl | rfl | rfl <;> simp [vp_V, lay, fv, newQ, fi, fl, fr, zr, va_rf, tyNotes, defaultValue]
set_option maxRecDepth 100000 in
theorem NAT_27 : (4 ≠ 0 ∧ aK 4 = 0 ∧ aE 4 = 0 ∧ vwCl[4 - 1]? = some (RNotes, TNotes, 3)) ∧ (∃ ty : Nat → FieldType, (∀ k, k < 3 → parseFieldDescriptor (TNotes k).2.2.1 = some (ty k)) ∧ ∀ S q, ∀ j, j < 3 → defaultValue (ty j) = vp_V ((lay 4).map (fv (newQ S q 4) q)) j) ∧ (Cond.classLink RAT 27 RNotes ∈ wT ∧ Cond.instantiable RNotes 3 ∈ wT ∧ Cond.initialized RNotes ∈ wT) := ⟨⟨by decide, by decide, by decide, rfl⟩, ⟨tyNotes, tyNotes_ok, dvNotes⟩, wT_in 53 (by decide +kernel) rfl, wT_in 54 (by decide +kernel) rfl, wT_in 26 (by decide +kernel) rfl⟩
set_option maxRecDepth 100000 in
theorem CAT_29 : cN RAT 29 yNotes_init "AlarmTables" cNotes_init 1 0 := ⟨fun _ h => h.1, ⟨wT_in 56 (by decide +kernel) rfl, wT_in 26 (by decide +kernel) rfl, rfl⟩, wT_in 57 rfl rfl, by decide +kernel⟩
end
section
theorem rd_in {i : Int32} {len : Nat} (h : i = nI i.toNatClampNeg) (hn : i.toNatClampNeg < 3000) (hl : len = 12) : vp_in (i / 250) len := by
  rw [dv250 h (by omega), hl]
  exact vp_in_nI (by omega) (by decide)
theorem rd_in2 {i c : Int32} {len : Nat} (h : i = nI i.toNatClampNeg) (hn : i.toNatClampNeg < 3000) (hc : c = nI c.toNatClampNeg) (hc4 : c.toNatClampNeg < 4) (hl : len = 1000) : vp_in (((i - i / 250 * 250) * 4) + c) len := by
  obtain ⟨h1, h2⟩ := ix_w h (by omega)
  generalize ((i - i / 250 * 250) * 4).toNatClampNeg = j at h1 h2
  rw [h1, hc, nI_add, hl]
  exact vp_in_nI (by omega) (by decide)

def read_R (S : HS) (t : Nat) (i : Int32) (c0 : Int32) : Int32 :=
  opc (ar S (gd (fr S 9 t)) (i / (250 : Int32)).toNatClampNeg) ((-1 : Int32))
  (fun b_5 => ai S (gd (fr S 10 b_5)) (((i - i / (250 : Int32) * (250 : Int32)) * (4 : Int32)) + c0).toNatClampNeg)
set_option maxRecDepth 20000 in
set_option maxHeartbeats 2000000 in
theorem c_read (l : Launch) (D : va_G) (AC : Nat → ClassId) (S : HS) (t : Nat) (i : Int32) (c0 : Int32)  (k_t : kd S t = 4) (hn : nn S) (hi : i = nI i.toNatClampNeg ∧ i.toNatClampNeg < 3000) (hc : c0 = nI c0.toNatClampNeg ∧ c0.toNatClampNeg < 4) (hlp : an S (gd (fr S 9 t)) = 12) (hpg : pgOk S) : CtI l yNotes_read (Cond.code yNotes_read cNotes_read 4 (some .int) :: wT) 0 0 D AC S [.ref t, .int i, .int c0] 0 0 (fun r S' => r = read_R S t i c0 ∧ S' = S) := by
  refine met_of (by decide) (Nat.le_of_ble_eq_true rfl) ?_
  intro p e s m below meth c ls hsz X hW hl
  obtain ⟨hx, hb, hml, hr, hlk, hown, hnm, hts⟩ := X
  have hl : lv_has ls 4 [(0, .ref t), (1, .int i), (2, .int c0)] := hl
  have mo : mono S S := mono.rf S
  refine lv_aload_n hx hb dNotes_read_0 rfl (lv_at hl 0 rfl) ?_
  have kq_1 : ∀ b, fr S 9 t = some b → kd S b = 17 := fun b h => hW.ok.2.1 9 t b k_t h
  refine g_q FNotes_11 hx hb hts hown hW k_t dNotes_read_1 ?_
  refine lv_iload_n hx hb dNotes_read_4 rfl (lv_at hl 1 rfl) ?_
  refine lv_sipush (v := (250 : Int32)) hx hb dNotes_read_5 (by decide) ?_
  refine lv_idiv hx hb dNotes_read_8 (by decide) ?_
  have n_2 : fr S 9 t = some (gd (fr S 9 t)) := gd_some (hn 9 t rfl k_t)
  have kb_3 : kd S (gd (fr S 9 t)) = 17 := kq_1 (gd (fr S 9 t)) n_2
  refine q_some1 n_2 ?_
  have kq_4 : ∀ b, ar S (gd (fr S 9 t)) (i / (250 : Int32)).toNatClampNeg = some b → kd S b = 5 := fun b h => (hW.ok.2.2 (gd (fr S 9 t)) _ b (by rw [kb_3]; decide) h).trans (by rw [kb_3]; rfl)
  refine a_q (K := 17) (t0 := 6) (by decide) rfl hx hb hW kb_3 (rd_in hi.1 hi.2 hlp) dNotes_read_9 ?_
  refine q_astore_n (i := 3) (lv' := [(3, va_rf (ar S (gd (fr S 9 t)) (i / (250 : Int32)).toNatClampNeg)), (0, .ref t), (1, .int i), (2, .int c0)]) hx hb dNotes_read_10 rfl hl (by decide) rfl (fun ls hl => ?_)
  refine q_aload_n hx hb dNotes_read_11 rfl (lv_at hl 0 rfl) ?_
  refine q_ifnonnull (tgt := 19) hx hb dNotes_read_12 (by decide) (fun n_5 => ?_) (fun b_5 n_5 => ?_)
  · refine lv_iconst (v := (-1 : Int32)) hx hb dNotes_read_15 (by decide) ?_
    refine lv_goto (tgt := 33) hx hb dNotes_read_16 (by decide) ?_
    exact e_i hsz hx hb hr hlk hW (mono.rf S) (Nat.le_of_ble_eq_true rfl) (Nat.le_of_ble_eq_true rfl) dNotes_read_33 ⟨(by refine Eq.symm ?_; refine (op_none n_5).trans ?_; rfl), rfl⟩
  · have k_b_5 : kd S b_5 = 5 := kq_4 b_5 n_5
    refine q_aload_n hx hb dNotes_read_19 rfl (lv_at hl 0 rfl) ?_
    refine q_some n_5 ?_
    have kq_6 : ∀ b, fr S 10 b_5 = some b → kd S b = 11 := fun b h => hW.ok.2.1 10 b_5 b k_b_5 h
    refine g_q FNotes_29 hx hb hts hown hW k_b_5 dNotes_read_20 ?_
    refine lv_iload_n hx hb dNotes_read_23 rfl (lv_at hl 2 rfl) ?_
    refine lv_sipush (v := (250 : Int32)) hx hb dNotes_read_24 (by decide) ?_
    refine lv_irem hx hb dNotes_read_27 (by decide) ?_
    refine lv_iconst (v := (4 : Int32)) hx hb dNotes_read_28 (by decide) ?_
    refine lv_imul hx hb dNotes_read_29 ?_
    refine lv_iload_n hx hb dNotes_read_30 rfl (lv_at hl 3 rfl) ?_
    refine lv_iadd hx hb dNotes_read_31 ?_
    have n_7 : fr S 10 b_5 = some (gd (fr S 10 b_5)) := gd_some (hn 10 b_5 rfl k_b_5)
    have kb_8 : kd S (gd (fr S 10 b_5)) = 11 := kq_6 (gd (fr S 10 b_5)) n_7
    refine q_some1 n_7 ?_
    refine a_il (K := 11) (t0 := 0) (by decide) rfl hx hb hW kb_8 (rd_in2 hi.1 hi.2 hc.1 hc.2 (hpg b_5 k_b_5)) dNotes_read_32 ?_
    exact e_i hsz hx hb hr hlk hW (mono.rf S) (Nat.le_of_ble_eq_true rfl) (Nat.le_of_ble_eq_true rfl) dNotes_read_33 ⟨(by refine Eq.symm ?_; refine (op_some n_5).trans ?_; rfl), rfl⟩

theorem has_lt {S : HS} {t : Nat} {i : Int32} {n : Nat} (hk : fi S 4 t = nI n) (hn : n ≤ 3000) (h : ¬ has_R S t i = 0) : i = nI i.toNatClampNeg ∧ i.toNatClampNeg < 3000 := by
  unfold has_R at h
  split at h
  · exact absurd rfl h
  · split at h
    · exact absurd rfl h
    · rename_i h1 h2
      obtain ⟨j, hj, rfl⟩ := nI_of h1
      rw [hk, nI_leI (by omega) hj] at h2
      rw [nI_clamp hj]
      exact ⟨rfl, by omega⟩
theorem col_lt {c : Int32} (h1 : ¬ c < 0) (h2 : c < 4) : c = nI c.toNatClampNeg ∧ c.toNatClampNeg < 4 := by
  obtain ⟨j, hj, rfl⟩ := nI_of h1
  have h2 : nI j < nI 4 := h2
  rw [nI_ltI hj (by decide)] at h2
  rw [nI_clamp hj]
  exact ⟨rfl, h2⟩

-- expired
def expired_R (S : HS) (t : Nat) (i : Int32) (what : Int32) : Int32 :=
  if i = (-1 : Int32) then
    if what = 0 then
      fi S 5 (gd (fr S 21 t))
    else
      if (has_R S (gd (fr S 21 t)) i) = 0 then
        (-1 : Int32)
      else
        if what < 0 then
          (-2 : Int32)
        else
          if what < (4 : Int32) then
            (read_R S (gd (fr S 21 t)) i what)
          else
            (-2 : Int32)
  else
    if (has_R S (gd (fr S 21 t)) i) = 0 then
      (-1 : Int32)
    else
      if what < 0 then
        (-2 : Int32)
      else
        if what < (4 : Int32) then
          (read_R S (gd (fr S 21 t)) i what)
        else
          (-2 : Int32)
set_option maxRecDepth 20000 in
set_option maxHeartbeats 2000000 in
theorem c_expired (l : Launch) (D : va_G) (AC : Nat → ClassId) (S : HS) (t : Nat) (i : Int32) (what : Int32)  (k_t : kd S t = 8) (hn : nn S) (hk : ∃ n, n ≤ 3000 ∧ fi S 4 (gd (fr S 21 t)) = nI n) (hlp : an S (gd (fr S 9 (gd (fr S 21 t)))) = 12) (hpg : pgOk S) : CtI l yAT_expired (Cond.code yAT_expired cAT_expired 3 (some .int) :: wT) 1 24 D AC S [.ref t, .int i, .int what] 0 0 (fun r S' => r = expired_R S t i what ∧ S' = S) := by
  refine met_of (by decide) (Nat.le_of_ble_eq_true rfl) ?_
  intro p e s m below meth c ls hsz X hW hl
  obtain ⟨hx, hb, hml, hr, hlk, hown, hnm, hts⟩ := X
  have hl : lv_has ls 3 [(0, .ref t), (1, .int i), (2, .int what)] := hl
  have mo : mono S S := mono.rf S
  refine lv_iload_n hx hb dAT_expired_0 rfl (lv_at hl 1 rfl) ?_
  refine lv_iconst (v := (-1 : Int32)) hx hb dAT_expired_1 (by decide) ?_
  refine lv_icmp_ne (tgt := 17) hx hb dAT_expired_2 (by decide) (fun c_1 => ?_) (fun c_1 => ?_)
  · refine lv_aload_n hx hb dAT_expired_17 rfl (lv_at hl 0 rfl) ?_
    have kq_2 : ∀ b, fr S 21 t = some b → kd S b = 4 := fun b h => hW.ok.2.1 21 t b k_t h
    refine g_q FAT_30 hx hb hts hown hW k_t dAT_expired_18 ?_
    refine lv_iload_n hx hb dAT_expired_21 rfl (lv_at hl 1 rfl) ?_
    have n_3 : fr S 21 t = some (gd (fr S 21 t)) := gd_some (hn 21 t rfl k_t)
    have kb_4 : kd S (gd (fr S 21 t)) = 4 := kq_2 (gd (fr S 21 t)) n_3
    refine q_some1 n_3 ?_
    refine k_Vi (As := [.int i]) (rest := []) (c_has l D AC S (gd (fr S 21 t)) i kb_4) CAT_192 ⟨by decide, by decide, _, rfl, rfl⟩ hx hb hml hown hts hW kb_4 hl.1 rfl rfl (Nat.le_of_ble_eq_true rfl) ⟨⟨Nat.le_of_ble_eq_true rfl, Nat.le_of_ble_eq_true rfl⟩, ⟨Nat.le_of_ble_eq_true rfl, Nat.le_of_ble_eq_true rfl⟩⟩ dAT_expired_22 (fun r_5 S_5 H locs e_5 hW m_5 _ => ?_)
    obtain ⟨e1_5, e2_5⟩ := e_5
    rw [e2_5] at hW m_5
    rw [e1_5]
    refine lv_if_ne (tgt := 30) hx hb dAT_expired_25 (by decide) (fun c_6 => ?_) (fun c_6 => ?_)
    · refine lv_iload_n hx hb dAT_expired_30 rfl (lv_at hl 2 rfl) ?_
      refine lv_if_lt (tgt := 39) hx hb dAT_expired_31 (by decide) (fun c_7 => ?_) (fun c_7 => ?_)
      · refine lv_bipush (v := (-2 : Int32)) hx hb dAT_expired_39 (by decide) ?_
        exact e_i hsz hx hb hr hlk hW (mono.rf S) (Nat.le_of_ble_eq_true rfl) (Nat.le_of_ble_eq_true rfl) dAT_expired_41 ⟨(by refine Eq.symm ?_; refine (if_neg c_1).trans ?_; refine (if_neg c_6).trans ?_; refine (if_pos c_7).trans ?_; rfl), rfl⟩
      · refine lv_iload_n hx hb dAT_expired_34 rfl (lv_at hl 2 rfl) ?_
        refine lv_iconst (v := (4 : Int32)) hx hb dAT_expired_35 (by decide) ?_
        refine lv_icmp_lt (tgt := 42) hx hb dAT_expired_36 (by decide) (fun c_8 => ?_) (fun c_8 => ?_)
        · refine lv_aload_n hx hb dAT_expired_42 rfl (lv_at hl 0 rfl) ?_
          refine g_q FAT_30 hx hb hts hown hW k_t dAT_expired_43 ?_
          refine lv_iload_n hx hb dAT_expired_46 rfl (lv_at hl 1 rfl) ?_
          refine lv_iload_n hx hb dAT_expired_47 rfl (lv_at hl 2 rfl) ?_
          refine q_some2 n_3 ?_
          refine k_Vi (As := [.int i, .int what]) (rest := []) (c_read l D AC S (gd (fr S 21 t)) i what kb_4 hn (has_lt (Classical.choose_spec hk).2 (Classical.choose_spec hk).1 c_6) (col_lt c_7 c_8) hlp hpg) CAT_196 ⟨by decide, by decide, _, rfl, rfl⟩ hx hb hml hown hts hW kb_4 hl.1 rfl rfl (Nat.le_of_ble_eq_true rfl) ⟨⟨Nat.le_of_ble_eq_true rfl, Nat.le_of_ble_eq_true rfl⟩, ⟨Nat.le_of_ble_eq_true rfl, Nat.le_of_ble_eq_true rfl⟩⟩ dAT_expired_48 (fun r_9 S_9 H locs e_9 hW m_9 _ => ?_)
          obtain ⟨e1_9, e2_9⟩ := e_9
          rw [e2_9] at hW m_9
          rw [e1_9]
          exact e_i hsz hx hb hr hlk hW (mono.rf S) (Nat.le_of_ble_eq_true rfl) (Nat.le_of_ble_eq_true rfl) dAT_expired_51 ⟨(by refine Eq.symm ?_; refine (if_neg c_1).trans ?_; refine (if_neg c_6).trans ?_; refine (if_neg c_7).trans ?_; refine (if_pos c_8).trans ?_; rfl), rfl⟩
        · refine lv_bipush (v := (-2 : Int32)) hx hb dAT_expired_39 (by decide) ?_
          exact e_i hsz hx hb hr hlk hW (mono.rf S) (Nat.le_of_ble_eq_true rfl) (Nat.le_of_ble_eq_true rfl) dAT_expired_41 ⟨(by refine Eq.symm ?_; refine (if_neg c_1).trans ?_; refine (if_neg c_6).trans ?_; refine (if_neg c_7).trans ?_; refine (if_neg c_8).trans ?_; rfl), rfl⟩
    · refine lv_iconst (v := (-1 : Int32)) hx hb dAT_expired_28 (by decide) ?_
      exact e_i hsz hx hb hr hlk hW (mono.rf S) (Nat.le_of_ble_eq_true rfl) (Nat.le_of_ble_eq_true rfl) dAT_expired_29 ⟨(by refine Eq.symm ?_; refine (if_neg c_1).trans ?_; refine (if_pos c_6).trans ?_; rfl), rfl⟩
  · refine lv_iload_n hx hb dAT_expired_5 rfl (lv_at hl 2 rfl) ?_
    refine lv_if_ne (tgt := 17) hx hb dAT_expired_6 (by decide) (fun c_10 => ?_) (fun c_10 => ?_)
    · refine lv_aload_n hx hb dAT_expired_17 rfl (lv_at hl 0 rfl) ?_
      have kq_11 : ∀ b, fr S 21 t = some b → kd S b = 4 := fun b h => hW.ok.2.1 21 t b k_t h
      refine g_q FAT_30 hx hb hts hown hW k_t dAT_expired_18 ?_
      refine lv_iload_n hx hb dAT_expired_21 rfl (lv_at hl 1 rfl) ?_
      have n_12 : fr S 21 t = some (gd (fr S 21 t)) := gd_some (hn 21 t rfl k_t)
      have kb_13 : kd S (gd (fr S 21 t)) = 4 := kq_11 (gd (fr S 21 t)) n_12
      refine q_some1 n_12 ?_
      refine k_Vi (As := [.int i]) (rest := []) (c_has l D AC S (gd (fr S 21 t)) i kb_13) CAT_192 ⟨by decide, by decide, _, rfl, rfl⟩ hx hb hml hown hts hW kb_13 hl.1 rfl rfl (Nat.le_of_ble_eq_true rfl) ⟨⟨Nat.le_of_ble_eq_true rfl, Nat.le_of_ble_eq_true rfl⟩, ⟨Nat.le_of_ble_eq_true rfl, Nat.le_of_ble_eq_true rfl⟩⟩ dAT_expired_22 (fun r_14 S_14 H locs e_14 hW m_14 _ => ?_)
      obtain ⟨e1_14, e2_14⟩ := e_14
      rw [e2_14] at hW m_14
      rw [e1_14]
      refine lv_if_ne (tgt := 30) hx hb dAT_expired_25 (by decide) (fun c_15 => ?_) (fun c_15 => ?_)
      · refine lv_iload_n hx hb dAT_expired_30 rfl (lv_at hl 2 rfl) ?_
        refine lv_if_lt (tgt := 39) hx hb dAT_expired_31 (by decide) (fun c_16 => ?_) (fun c_16 => ?_)
        · refine lv_bipush (v := (-2 : Int32)) hx hb dAT_expired_39 (by decide) ?_
          exact e_i hsz hx hb hr hlk hW (mono.rf S) (Nat.le_of_ble_eq_true rfl) (Nat.le_of_ble_eq_true rfl) dAT_expired_41 ⟨(by refine Eq.symm ?_; refine (if_pos c_1).trans ?_; refine (if_neg c_10).trans ?_; refine (if_neg c_15).trans ?_; refine (if_pos c_16).trans ?_; rfl), rfl⟩
        · refine lv_iload_n hx hb dAT_expired_34 rfl (lv_at hl 2 rfl) ?_
          refine lv_iconst (v := (4 : Int32)) hx hb dAT_expired_35 (by decide) ?_
          refine lv_icmp_lt (tgt := 42) hx hb dAT_expired_36 (by decide) (fun c_17 => ?_) (fun c_17 => ?_)
          · refine lv_aload_n hx hb dAT_expired_42 rfl (lv_at hl 0 rfl) ?_
            refine g_q FAT_30 hx hb hts hown hW k_t dAT_expired_43 ?_
            refine lv_iload_n hx hb dAT_expired_46 rfl (lv_at hl 1 rfl) ?_
            refine lv_iload_n hx hb dAT_expired_47 rfl (lv_at hl 2 rfl) ?_
            refine q_some2 n_12 ?_
            refine k_Vi (As := [.int i, .int what]) (rest := []) (c_read l D AC S (gd (fr S 21 t)) i what kb_13 hn (has_lt (Classical.choose_spec hk).2 (Classical.choose_spec hk).1 c_15) (col_lt c_16 c_17) hlp hpg) CAT_196 ⟨by decide, by decide, _, rfl, rfl⟩ hx hb hml hown hts hW kb_13 hl.1 rfl rfl (Nat.le_of_ble_eq_true rfl) ⟨⟨Nat.le_of_ble_eq_true rfl, Nat.le_of_ble_eq_true rfl⟩, ⟨Nat.le_of_ble_eq_true rfl, Nat.le_of_ble_eq_true rfl⟩⟩ dAT_expired_48 (fun r_18 S_18 H locs e_18 hW m_18 _ => ?_)
            obtain ⟨e1_18, e2_18⟩ := e_18
            rw [e2_18] at hW m_18
            rw [e1_18]
            exact e_i hsz hx hb hr hlk hW (mono.rf S) (Nat.le_of_ble_eq_true rfl) (Nat.le_of_ble_eq_true rfl) dAT_expired_51 ⟨(by refine Eq.symm ?_; refine (if_pos c_1).trans ?_; refine (if_neg c_10).trans ?_; refine (if_neg c_15).trans ?_; refine (if_neg c_16).trans ?_; refine (if_pos c_17).trans ?_; rfl), rfl⟩
          · refine lv_bipush (v := (-2 : Int32)) hx hb dAT_expired_39 (by decide) ?_
            exact e_i hsz hx hb hr hlk hW (mono.rf S) (Nat.le_of_ble_eq_true rfl) (Nat.le_of_ble_eq_true rfl) dAT_expired_41 ⟨(by refine Eq.symm ?_; refine (if_pos c_1).trans ?_; refine (if_neg c_10).trans ?_; refine (if_neg c_15).trans ?_; refine (if_neg c_16).trans ?_; refine (if_neg c_17).trans ?_; rfl), rfl⟩
      · refine lv_iconst (v := (-1 : Int32)) hx hb dAT_expired_28 (by decide) ?_
        exact e_i hsz hx hb hr hlk hW (mono.rf S) (Nat.le_of_ble_eq_true rfl) (Nat.le_of_ble_eq_true rfl) dAT_expired_29 ⟨(by refine Eq.symm ?_; refine (if_pos c_1).trans ?_; refine (if_neg c_10).trans ?_; refine (if_pos c_15).trans ?_; rfl), rfl⟩
    · refine lv_aload_n hx hb dAT_expired_9 rfl (lv_at hl 0 rfl) ?_
      have kq_19 : ∀ b, fr S 21 t = some b → kd S b = 4 := fun b h => hW.ok.2.1 21 t b k_t h
      refine g_q FAT_30 hx hb hts hown hW k_t dAT_expired_10 ?_
      have n_20 : fr S 21 t = some (gd (fr S 21 t)) := gd_some (hn 21 t rfl k_t)
      have kb_21 : kd S (gd (fr S 21 t)) = 4 := kq_19 (gd (fr S 21 t)) n_20
      refine q_some n_20 ?_
      refine g_i FAT_182 hx hb hts hown hW kb_21 dAT_expired_13 ?_
      exact e_i hsz hx hb hr hlk hW (mono.rf S) (Nat.le_of_ble_eq_true rfl) (Nat.le_of_ble_eq_true rfl) dAT_expired_16 ⟨(by refine Eq.symm ?_; refine (if_pos c_1).trans ?_; refine (if_pos c_10).trans ?_; rfl), rfl⟩

def hasPointAt_R (S : HS) (t : Nat) (off : Int64) (zs : List Nat) : Int32 :=
  opc (pbL S off none zs) (opc (fr S 14 t) ((0 : Int32))
    (fun b_5 => if (fl S 8 b_5) = off then
        (1 : Int32)
      else
        (0 : Int32)))
  (fun b_3 => opc (fr S 12 b_3) ((0 : Int32))
    (fun b_8 => if (fl S 8 b_8) = off then
        (1 : Int32)
      else
        (0 : Int32)))
set_option maxRecDepth 20000 in
set_option maxHeartbeats 2000000 in
theorem c_hasPointAt (l : Launch) (D : va_G) (AC : Nat → ClassId) (S : HS) (t : Nat) (off : Int64) (zs : List Nat) (k_t : kd S t = 7) (hc : chn (fr S 12) (fr S 14 t) zs) : CtI l yTable_hasPointAt (Cond.code yTable_hasPointAt cTable_hasPointAt 5 (some .boolean) :: wT) 1 24 D AC S [.ref t, .long off] 0 0 (fun r S' => r = hasPointAt_R S t off zs ∧ S' = S) := by
  refine met_of (by decide) (Nat.le_of_ble_eq_true rfl) ?_
  intro p e s m below meth c ls hsz X hW hl
  obtain ⟨hx, hb, hml, hr, hlk, hown, hnm, hts⟩ := X
  have hl : lv_has ls 5 [(0, .ref t), (1, .long off)] := hl
  have mo : mono S S := mono.rf S
  refine lv_aload_n hx hb dTable_hasPointAt_0 rfl (lv_at hl 0 rfl) ?_
  refine lv_lload_n hx hb dTable_hasPointAt_1 rfl (lv_at hl 1 rfl) ?_
  refine k_Vq (As := [.long off]) (rest := []) (c_pointBefore l D AC S t off zs k_t hc) CTable_35 ⟨by decide, by decide, _, rfl, rfl⟩ hx hb hml hown hts hW k_t hl.1 rfl rfl (Nat.le_of_ble_eq_true rfl) ⟨⟨Nat.le_of_ble_eq_true rfl, Nat.le_of_ble_eq_true rfl⟩, ⟨Nat.le_of_ble_eq_true rfl, Nat.le_of_ble_eq_true rfl⟩⟩ dTable_hasPointAt_2 (fun r_1 S_1 H locs e_1 hW m_1 _ => ?_)
  obtain ⟨e1_1, e2_1⟩ := e_1
  rw [e2_1] at hW m_1
  rw [e1_1]
  have kq_2 : ∀ b, (pbL S off none zs) = some b → kd S b = 6 := pointBefore_kd hW.ok k_t hc _
  refine q_astore_n (i := 3) (lv' := [(3, va_rf (pbL S off none zs)), (0, .ref t), (1, .long off)]) hx hb dTable_hasPointAt_5 rfl hl (by decide) rfl (fun ls hl => ?_)
  refine q_aload_n hx hb dTable_hasPointAt_6 rfl (lv_at hl 0 rfl) ?_
  refine q_ifnonnull (tgt := 17) hx hb dTable_hasPointAt_7 (by decide) (fun n_3 => ?_) (fun b_3 n_3 => ?_)
  · refine lv_aload_n hx hb dTable_hasPointAt_10 rfl (lv_at hl 1 rfl) ?_
    have kq_4 : ∀ b, fr S 14 t = some b → kd S b = 6 := fun b h => hW.ok.2.1 14 t b k_t h
    refine g_q FTable_23 hx hb hts hown hW k_t dTable_hasPointAt_11 ?_
    refine lv_goto (tgt := 21) hx hb dTable_hasPointAt_14 (by decide) ?_
    refine q_astore (lv' := [(4, va_rf (fr S 14 t)), (3, va_rf (pbL S off none zs)), (0, .ref t), (1, .long off)]) hx hb dTable_hasPointAt_21 hl (by decide) (by simp [q_cat, cat_r, cat_i, cat_l, cat_n]) (fun ls hl => ?_)
    refine q_aload hx hb dTable_hasPointAt_23 (lv_at hl 0 rfl) ?_
    refine q_ifnull (tgt := 42) hx hb dTable_hasPointAt_25 (by decide) (fun n_5 => ?_) (fun b_5 n_5 => ?_)
    · refine lv_iconst (v := (0 : Int32)) hx hb dTable_hasPointAt_42 (by decide) ?_
      exact e_z hsz hx hb hr hlk hW (mono.rf S) (Nat.le_of_ble_eq_true rfl) (Nat.le_of_ble_eq_true rfl) dTable_hasPointAt_43 (rfl) ⟨(by refine Eq.symm ?_; refine (op_none n_3).trans ?_; refine (op_none n_5).trans ?_; rfl), rfl⟩
    · have k_b_5 : kd S b_5 = 6 := kq_4 b_5 n_5
      refine q_aload hx hb dTable_hasPointAt_28 (lv_at hl 0 rfl) ?_
      refine q_some n_5 ?_
      refine g_l FTable_27 hx hb hts hown hW k_b_5 dTable_hasPointAt_30 ?_
      refine lv_lload_n hx hb dTable_hasPointAt_33 rfl (lv_at hl 3 rfl) ?_
      refine ll_ne (tgt := 42) hx hb dTable_hasPointAt_34 dTable_hasPointAt_35 (by decide) (fun c_6 => ?_) (fun c_6 => ?_)
      · refine lv_iconst (v := (0 : Int32)) hx hb dTable_hasPointAt_42 (by decide) ?_
        exact e_z hsz hx hb hr hlk hW (mono.rf S) (Nat.le_of_ble_eq_true rfl) (Nat.le_of_ble_eq_true rfl) dTable_hasPointAt_43 (rfl) ⟨(by refine Eq.symm ?_; refine (op_none n_3).trans ?_; refine (op_some n_5).trans ?_; refine (if_neg c_6).trans ?_; rfl), rfl⟩
      · refine lv_iconst (v := (1 : Int32)) hx hb dTable_hasPointAt_38 (by decide) ?_
        refine lv_goto (tgt := 43) hx hb dTable_hasPointAt_39 (by decide) ?_
        exact e_z hsz hx hb hr hlk hW (mono.rf S) (Nat.le_of_ble_eq_true rfl) (Nat.le_of_ble_eq_true rfl) dTable_hasPointAt_43 (rfl) ⟨(by refine Eq.symm ?_; refine (op_none n_3).trans ?_; refine (op_some n_5).trans ?_; refine (if_pos c_6).trans ?_; rfl), rfl⟩
  · have k_b_3 : kd S b_3 = 6 := kq_2 b_3 n_3
    refine q_aload_n hx hb dTable_hasPointAt_17 rfl (lv_at hl 0 rfl) ?_
    refine q_some n_3 ?_
    have kq_7 : ∀ b, fr S 12 b_3 = some b → kd S b = 6 := fun b h => hW.ok.2.1 12 b_3 b k_b_3 h
    refine g_q FTable_32 hx hb hts hown hW k_b_3 dTable_hasPointAt_18 ?_
    refine q_astore (lv' := [(4, va_rf (fr S 12 b_3)), (3, va_rf (pbL S off none zs)), (0, .ref t), (1, .long off)]) hx hb dTable_hasPointAt_21 hl (by decide) (by simp [q_cat, cat_r, cat_i, cat_l, cat_n]) (fun ls hl => ?_)
    refine q_aload hx hb dTable_hasPointAt_23 (lv_at hl 0 rfl) ?_
    refine q_ifnull (tgt := 42) hx hb dTable_hasPointAt_25 (by decide) (fun n_8 => ?_) (fun b_8 n_8 => ?_)
    · refine lv_iconst (v := (0 : Int32)) hx hb dTable_hasPointAt_42 (by decide) ?_
      exact e_z hsz hx hb hr hlk hW (mono.rf S) (Nat.le_of_ble_eq_true rfl) (Nat.le_of_ble_eq_true rfl) dTable_hasPointAt_43 (rfl) ⟨(by refine Eq.symm ?_; refine (op_some n_3).trans ?_; refine (op_none n_8).trans ?_; rfl), rfl⟩
    · have k_b_8 : kd S b_8 = 6 := kq_7 b_8 n_8
      refine q_aload hx hb dTable_hasPointAt_28 (lv_at hl 0 rfl) ?_
      refine q_some n_8 ?_
      refine g_l FTable_27 hx hb hts hown hW k_b_8 dTable_hasPointAt_30 ?_
      refine lv_lload_n hx hb dTable_hasPointAt_33 rfl (lv_at hl 3 rfl) ?_
      refine ll_ne (tgt := 42) hx hb dTable_hasPointAt_34 dTable_hasPointAt_35 (by decide) (fun c_9 => ?_) (fun c_9 => ?_)
      · refine lv_iconst (v := (0 : Int32)) hx hb dTable_hasPointAt_42 (by decide) ?_
        exact e_z hsz hx hb hr hlk hW (mono.rf S) (Nat.le_of_ble_eq_true rfl) (Nat.le_of_ble_eq_true rfl) dTable_hasPointAt_43 (rfl) ⟨(by refine Eq.symm ?_; refine (op_some n_3).trans ?_; refine (op_some n_8).trans ?_; refine (if_neg c_9).trans ?_; rfl), rfl⟩
      · refine lv_iconst (v := (1 : Int32)) hx hb dTable_hasPointAt_38 (by decide) ?_
        refine lv_goto (tgt := 43) hx hb dTable_hasPointAt_39 (by decide) ?_
        exact e_z hsz hx hb hr hlk hW (mono.rf S) (Nat.le_of_ble_eq_true rfl) (Nat.le_of_ble_eq_true rfl) dTable_hasPointAt_43 (rfl) ⟨(by refine Eq.symm ?_; refine (op_some n_3).trans ?_; refine (op_some n_8).trans ?_; refine (if_pos c_9).trans ?_; rfl), rfl⟩

def insert_S (S : HS) (t : Nat) (x : Nat) (zs : List Nat) : HS :=
  opc (pbL S (fl S 8 x) none zs) ((sfi (sfr (sfr S 12 x (fr S 14 t)) 14 t (some x)) 7 t ((fi S 7 t) + (1 : Int32))))
  (fun b_3 => (sfi (sfr (sfr S 12 x (fr S 12 b_3)) 12 b_3 (some x)) 7 t ((fi S 7 t) + (1 : Int32))))
set_option maxRecDepth 20000 in
set_option maxHeartbeats 2000000 in
theorem c_insert (l : Launch) (D : va_G) (AC : Nat → ClassId) (S : HS) (t : Nat) (x : Nat) (zs : List Nat) (k_t : kd S t = 7) (k_x : kd S x = 6) (hc : chn (fr S 12) (fr S 14 t) zs) : CtV l yTable_insert (Cond.code yTable_insert cTable_insert 3 none :: wT) 1 24 D AC S [.ref t, .ref x] 0 0 (fun S' => S' = insert_S S t x zs) := by
  refine met_of (by decide) (Nat.le_of_ble_eq_true rfl) ?_
  intro p e s m below meth c ls hsz X hW hl
  obtain ⟨hx, hb, hml, hr, hlk, hown, hnm, hts⟩ := X
  have hl : lv_has ls 3 [(0, .ref t), (1, .ref x)] := hl
  have mo : mono S S := mono.rf S
  refine lv_aload_n hx hb dTable_insert_0 rfl (lv_at hl 0 rfl) ?_
  refine lv_aload_n hx hb dTable_insert_1 rfl (lv_at hl 1 rfl) ?_
  refine g_l FTable_27 hx hb hts hown hW k_x dTable_insert_2 ?_
  refine k_Vq (As := [.long (fl S 8 x)]) (rest := []) (c_pointBefore l D AC S t (fl S 8 x) zs k_t hc) CTable_35 ⟨by decide, by decide, _, rfl, rfl⟩ hx hb hml hown hts hW k_t hl.1 rfl rfl (Nat.le_of_ble_eq_true rfl) ⟨⟨Nat.le_of_ble_eq_true rfl, Nat.le_of_ble_eq_true rfl⟩, ⟨Nat.le_of_ble_eq_true rfl, Nat.le_of_ble_eq_true rfl⟩⟩ dTable_insert_5 (fun r_1 S_1 H locs e_1 hW m_1 _ => ?_)
  obtain ⟨e1_1, e2_1⟩ := e_1
  rw [e2_1] at hW m_1
  rw [e1_1]
  have kq_2 : ∀ b, (pbL S (fl S 8 x) none zs) = some b → kd S b = 6 := pointBefore_kd hW.ok k_t hc _
  refine q_astore_n (i := 2) (lv' := [(2, va_rf (pbL S (fl S 8 x) none zs)), (0, .ref t), (1, .ref x)]) hx hb dTable_insert_8 rfl hl (by decide) rfl (fun ls hl => ?_)
  refine q_aload_n hx hb dTable_insert_9 rfl (lv_at hl 0 rfl) ?_
  refine q_ifnonnull (tgt := 29) hx hb dTable_insert_10 (by decide) (fun n_3 => ?_) (fun b_3 n_3 => ?_)
  · refine lv_aload_n hx hb dTable_insert_13 rfl (lv_at hl 2 rfl) ?_
    refine lv_aload_n hx hb dTable_insert_14 rfl (lv_at hl 1 rfl) ?_
    have kq_4 : ∀ b, fr S 14 t = some b → kd S b = 6 := fun b h => hW.ok.2.1 14 t b k_t h
    refine g_q FTable_23 hx hb hts hown hW k_t dTable_insert_15 ?_
    refine p_q FTable_32 GPoint_behind ⟨fun _ => rfl, fun _ => rfl, rfl, rfl⟩ (fun h => by cases h) hx hb hts hown hW k_x kq_4 dTable_insert_18 (fun H locs hW => ?_)
    have mo := mo.tr (mono_sfr (k := 12) (a := x) (v := (fr S 14 t)))
    refine lv_aload_n hx hb dTable_insert_21 rfl (lv_at hl 1 rfl) ?_
    refine lv_aload_n hx hb dTable_insert_22 rfl (lv_at hl 2 rfl) ?_
    refine p_r FTable_23 GTable_firstPoint ⟨rfl, rfl⟩ (fun h => by cases h) hx hb hts hown hW k_t k_x dTable_insert_23 (fun H locs hW => ?_)
    have mo := mo.tr (mono_sfr (k := 14) (a := t) (v := (some x)))
    refine lv_goto (tgt := 42) hx hb dTable_insert_26 (by decide) ?_
    refine lv_aload_n hx hb dTable_insert_42 rfl (lv_at hl 1 rfl) ?_
    refine lv_dup hx hb dTable_insert_43 rfl ?_
    refine g_i FTable_39 hx hb hts hown hW k_t dTable_insert_44 ?_
    rw [show fi (sfr (sfr S 12 x (fr S 14 t)) 14 t (some x)) 7 t = fi S 7 t from rfl]
    refine lv_iconst (v := (1 : Int32)) hx hb dTable_insert_47 (by decide) ?_
    refine lv_iadd hx hb dTable_insert_48 ?_
    refine p_i FTable_39 GTable_pointCount (fun h => by cases h) hx hb hts hown hW k_t rfl rfl dTable_insert_49 (fun H locs hW => ?_)
    have mo := mo.tr (mono_sfi (k := 7) (a := t) (v := ((fi S 7 t) + (1 : Int32))))
    exact e_v hsz hx hb hr hlk hW (mo) (Nat.le_of_ble_eq_true rfl) (Nat.le_of_ble_eq_true rfl) dTable_insert_52 ((by refine Eq.symm ?_; refine (op_none n_3).trans ?_; rfl))
  · have k_b_3 : kd S b_3 = 6 := kq_2 b_3 n_3
    refine lv_aload_n hx hb dTable_insert_29 rfl (lv_at hl 2 rfl) ?_
    refine q_aload_n hx hb dTable_insert_30 rfl (lv_at hl 0 rfl) ?_
    refine q_some n_3 ?_
    have kq_5 : ∀ b, fr S 12 b_3 = some b → kd S b = 6 := fun b h => hW.ok.2.1 12 b_3 b k_b_3 h
    refine g_q FTable_32 hx hb hts hown hW k_b_3 dTable_insert_31 ?_
    refine p_q FTable_32 GPoint_behind ⟨fun _ => rfl, fun _ => rfl, rfl, rfl⟩ (fun h => by cases h) hx hb hts hown hW k_x kq_5 dTable_insert_34 (fun H locs hW => ?_)
    have mo := mo.tr (mono_sfr (k := 12) (a := x) (v := (fr S 12 b_3)))
    refine q_aload_n hx hb dTable_insert_37 rfl (lv_at hl 0 rfl) ?_
    refine lv_aload_n hx hb dTable_insert_38 rfl (lv_at hl 2 rfl) ?_
    refine q_some1 n_3 ?_
    refine p_r FTable_32 GPoint_behind ⟨rfl, rfl⟩ (fun h => by cases h) hx hb hts hown hW k_b_3 k_x dTable_insert_39 (fun H locs hW => ?_)
    have mo := mo.tr (mono_sfr (k := 12) (a := b_3) (v := (some x)))
    refine lv_aload_n hx hb dTable_insert_42 rfl (lv_at hl 1 rfl) ?_
    refine lv_dup hx hb dTable_insert_43 rfl ?_
    refine g_i FTable_39 hx hb hts hown hW k_t dTable_insert_44 ?_
    rw [show fi (sfr (sfr S 12 x (fr S 12 b_3)) 12 b_3 (some x)) 7 t = fi S 7 t from rfl]
    refine lv_iconst (v := (1 : Int32)) hx hb dTable_insert_47 (by decide) ?_
    refine lv_iadd hx hb dTable_insert_48 ?_
    refine p_i FTable_39 GTable_pointCount (fun h => by cases h) hx hb hts hown hW k_t rfl rfl dTable_insert_49 (fun H locs hW => ?_)
    have mo := mo.tr (mono_sfi (k := 7) (a := t) (v := ((fi S 7 t) + (1 : Int32))))
    exact e_v hsz hx hb hr hlk hW (mo) (Nat.le_of_ble_eq_true rfl) (Nat.le_of_ble_eq_true rfl) dTable_insert_52 ((by refine Eq.symm ?_; refine (op_some n_3).trans ?_; rfl))

def isUnknownFor_R (S : HS) (t : Nat) (a : Int32) (o : Int32) : Int32 :=
  if a = (0 : Int32) then
    if o = 0 then
      (0 : Int32)
    else
      (1 : Int32)
  else
    if a = (1 : Int32) then
      opc (findCounter_R S t o) ((1 : Int32))
      (fun b_6 => (0 : Int32))
    else
      if a = (2 : Int32) then
        opc (findAlarm_R S t o) ((1 : Int32))
        (fun b_10 => (0 : Int32))
      else
        (0 : Int32)
set_option maxRecDepth 20000 in
set_option maxHeartbeats 2000000 in
theorem c_isUnknownFor (l : Launch) (D : va_G) (AC : Nat → ClassId) (S : HS) (t : Nat) (a : Int32) (o : Int32)  (k_t : kd S t = 8) (hn : nn S) (ha : atOk S t) : CtI l yAT_isUnknownFor (Cond.code yAT_isUnknownFor cAT_isUnknownFor 3 (some .boolean) :: wT) 1 24 D AC S [.ref t, .int a, .int o] 0 0 (fun r S' => r = isUnknownFor_R S t a o ∧ S' = S) := by
  refine met_of (by decide) (Nat.le_of_ble_eq_true rfl) ?_
  intro p e s m below meth c ls hsz X hW hl
  obtain ⟨hx, hb, hml, hr, hlk, hown, hnm, hts⟩ := X
  have hl : lv_has ls 3 [(0, .ref t), (1, .int a), (2, .int o)] := hl
  have mo : mono S S := mono.rf S
  refine lv_iload_n hx hb dAT_isUnknownFor_0 rfl (lv_at hl 1 rfl) ?_
  by_cases c_1 : a = (0 : Int32)
  · refine lv_tableIn (off := 27) (tgt := 28) hx hb dAT_isUnknownFor_1 (by rw [c_1]; decide) (by rw [c_1]; decide) (by rw [c_1]; rfl) (by decide) ?_
    refine lv_iload_n hx hb dAT_isUnknownFor_28 rfl (lv_at hl 2 rfl) ?_
    refine lv_if_eq (tgt := 36) hx hb dAT_isUnknownFor_29 (by decide) (fun c_2 => ?_) (fun c_2 => ?_)
    · refine lv_iconst (v := (0 : Int32)) hx hb dAT_isUnknownFor_36 (by decide) ?_
      exact e_z hsz hx hb hr hlk hW (mono.rf S) (Nat.le_of_ble_eq_true rfl) (Nat.le_of_ble_eq_true rfl) dAT_isUnknownFor_37 (rfl) ⟨(by refine Eq.symm ?_; refine (if_pos c_1).trans ?_; refine (if_pos c_2).trans ?_; rfl), rfl⟩
    · refine lv_iconst (v := (1 : Int32)) hx hb dAT_isUnknownFor_32 (by decide) ?_
      refine lv_goto (tgt := 37) hx hb dAT_isUnknownFor_33 (by decide) ?_
      exact e_z hsz hx hb hr hlk hW (mono.rf S) (Nat.le_of_ble_eq_true rfl) (Nat.le_of_ble_eq_true rfl) dAT_isUnknownFor_37 (rfl) ⟨(by refine Eq.symm ?_; refine (if_pos c_1).trans ?_; refine (if_neg c_2).trans ?_; rfl), rfl⟩
  · by_cases c_3 : a = (1 : Int32)
    · refine lv_tableIn (off := 37) (tgt := 38) hx hb dAT_isUnknownFor_1 (by rw [c_3]; decide) (by rw [c_3]; decide) (by rw [c_3]; rfl) (by decide) ?_
      refine lv_aload_n hx hb dAT_isUnknownFor_38 rfl (lv_at hl 0 rfl) ?_
      refine lv_iload_n hx hb dAT_isUnknownFor_39 rfl (lv_at hl 2 rfl) ?_
      refine k_Vq (As := [.int o]) (rest := []) (c_findCounter l D AC S t o k_t hn ha) CAT_52 ⟨by decide, by decide, _, rfl, rfl⟩ hx hb hml hown hts hW k_t hl.1 rfl rfl (Nat.le_of_ble_eq_true rfl) ⟨⟨Nat.le_of_ble_eq_true rfl, Nat.le_of_ble_eq_true rfl⟩, ⟨Nat.le_of_ble_eq_true rfl, Nat.le_of_ble_eq_true rfl⟩⟩ dAT_isUnknownFor_40 (fun r_4 S_4 H locs e_4 hW m_4 _ => ?_)
      obtain ⟨e1_4, e2_4⟩ := e_4
      rw [e2_4] at hW m_4
      rw [e1_4]
      have kq_5 : ∀ b, (findCounter_R S t o) = some b → kd S b = 3 := kq_findCounter hW.ok k_t hn _
      refine q_ifnonnull (tgt := 50) hx hb dAT_isUnknownFor_43 (by decide) (fun n_6 => ?_) (fun b_6 n_6 => ?_)
      · refine lv_iconst (v := (1 : Int32)) hx hb dAT_isUnknownFor_46 (by decide) ?_
        refine lv_goto (tgt := 51) hx hb dAT_isUnknownFor_47 (by decide) ?_
        exact e_z hsz hx hb hr hlk hW (mono.rf S) (Nat.le_of_ble_eq_true rfl) (Nat.le_of_ble_eq_true rfl) dAT_isUnknownFor_51 (rfl) ⟨(by refine Eq.symm ?_; refine (if_neg c_1).trans ?_; refine (if_pos c_3).trans ?_; refine (op_none n_6).trans ?_; rfl), rfl⟩
      · have k_b_6 : kd S b_6 = 3 := kq_5 b_6 n_6
        refine lv_iconst (v := (0 : Int32)) hx hb dAT_isUnknownFor_50 (by decide) ?_
        exact e_z hsz hx hb hr hlk hW (mono.rf S) (Nat.le_of_ble_eq_true rfl) (Nat.le_of_ble_eq_true rfl) dAT_isUnknownFor_51 (rfl) ⟨(by refine Eq.symm ?_; refine (if_neg c_1).trans ?_; refine (if_pos c_3).trans ?_; refine (op_some n_6).trans ?_; rfl), rfl⟩
    · by_cases c_7 : a = (2 : Int32)
      · refine lv_tableIn (off := 51) (tgt := 52) hx hb dAT_isUnknownFor_1 (by rw [c_7]; decide) (by rw [c_7]; decide) (by rw [c_7]; rfl) (by decide) ?_
        refine lv_aload_n hx hb dAT_isUnknownFor_52 rfl (lv_at hl 0 rfl) ?_
        refine lv_iload_n hx hb dAT_isUnknownFor_53 rfl (lv_at hl 2 rfl) ?_
        refine k_Vq (As := [.int o]) (rest := []) (c_findAlarm l D AC S t o k_t hn ha) CAT_67 ⟨by decide, by decide, _, rfl, rfl⟩ hx hb hml hown hts hW k_t hl.1 rfl rfl (Nat.le_of_ble_eq_true rfl) ⟨⟨Nat.le_of_ble_eq_true rfl, Nat.le_of_ble_eq_true rfl⟩, ⟨Nat.le_of_ble_eq_true rfl, Nat.le_of_ble_eq_true rfl⟩⟩ dAT_isUnknownFor_54 (fun r_8 S_8 H locs e_8 hW m_8 _ => ?_)
        obtain ⟨e1_8, e2_8⟩ := e_8
        rw [e2_8] at hW m_8
        rw [e1_8]
        have kq_9 : ∀ b, (findAlarm_R S t o) = some b → kd S b = 2 := kq_findAlarm hW.ok k_t hn _
        refine q_ifnonnull (tgt := 64) hx hb dAT_isUnknownFor_57 (by decide) (fun n_10 => ?_) (fun b_10 n_10 => ?_)
        · refine lv_iconst (v := (1 : Int32)) hx hb dAT_isUnknownFor_60 (by decide) ?_
          refine lv_goto (tgt := 65) hx hb dAT_isUnknownFor_61 (by decide) ?_
          exact e_z hsz hx hb hr hlk hW (mono.rf S) (Nat.le_of_ble_eq_true rfl) (Nat.le_of_ble_eq_true rfl) dAT_isUnknownFor_65 (rfl) ⟨(by refine Eq.symm ?_; refine (if_neg c_1).trans ?_; refine (if_neg c_3).trans ?_; refine (if_pos c_7).trans ?_; refine (op_none n_10).trans ?_; rfl), rfl⟩
        · have k_b_10 : kd S b_10 = 2 := kq_9 b_10 n_10
          refine lv_iconst (v := (0 : Int32)) hx hb dAT_isUnknownFor_64 (by decide) ?_
          exact e_z hsz hx hb hr hlk hW (mono.rf S) (Nat.le_of_ble_eq_true rfl) (Nat.le_of_ble_eq_true rfl) dAT_isUnknownFor_65 (rfl) ⟨(by refine Eq.symm ?_; refine (if_neg c_1).trans ?_; refine (if_neg c_3).trans ?_; refine (if_pos c_7).trans ?_; refine (op_some n_10).trans ?_; rfl), rfl⟩
      · refine lv_tableOut (tgt := 66) hx hb dAT_isUnknownFor_1 (by have u_0 := lv_neT c_1 (a := 0) rfl; have u_1 := lv_neT c_3 (a := 1) rfl; have u_2 := lv_neT c_7 (a := 2) rfl; omega) (by decide) ?_
        refine lv_iconst (v := (0 : Int32)) hx hb dAT_isUnknownFor_66 (by decide) ?_
        exact e_z hsz hx hb hr hlk hW (mono.rf S) (Nat.le_of_ble_eq_true rfl) (Nat.le_of_ble_eq_true rfl) dAT_isUnknownFor_67 (rfl) ⟨(by refine Eq.symm ?_; refine (if_neg c_1).trans ?_; refine (if_neg c_3).trans ?_; refine (if_neg c_7).trans ?_; rfl), rfl⟩

def AT_init_S (S : HS) (t : Nat) : HS :=
  (sfr (Notes_init_S (newQ (sfr (newB (sfr (newB (sfr (newB S (hz S) 14 20) 18 t (some (hz S))) (hz (newB S (hz S) 14 20)) 15 100) 19 t (some (hz (newB S (hz S) 14 20)))) (hz (newB (sfr (newB S (hz S) 14 20) 18 t (some (hz S))) (hz (newB S (hz S) 14 20)) 15 100)) 16 20) 20 t (some (hz (newB (sfr (newB S (hz S) 14 20) 18 t (some (hz S))) (hz (newB S (hz S) 14 20)) 15 100)))) (hz (newB (sfr (newB (sfr (newB S (hz S) 14 20) 18 t (some (hz S))) (hz (newB S (hz S) 14 20)) 15 100) 19 t (some (hz (newB S (hz S) 14 20)))) (hz (newB (sfr (newB S (hz S) 14 20) 18 t (some (hz S))) (hz (newB S (hz S) 14 20)) 15 100)) 16 20)) 4) (hz (newB (sfr (newB (sfr (newB S (hz S) 14 20) 18 t (some (hz S))) (hz (newB S (hz S) 14 20)) 15 100) 19 t (some (hz (newB S (hz S) 14 20)))) (hz (newB (sfr (newB S (hz S) 14 20) 18 t (some (hz S))) (hz (newB S (hz S) 14 20)) 15 100)) 16 20))) 21 t (some (hz (newB (sfr (newB (sfr (newB S (hz S) 14 20) 18 t (some (hz S))) (hz (newB S (hz S) 14 20)) 15 100) 19 t (some (hz (newB S (hz S) 14 20)))) (hz (newB (sfr (newB S (hz S) 14 20) 18 t (some (hz S))) (hz (newB S (hz S) 14 20)) 15 100)) 16 20))))
set_option maxRecDepth 20000 in
set_option maxHeartbeats 2000000 in
theorem c_AT_init (l : Launch) (D : va_G) (AC : Nat → ClassId) (S : HS) (t : Nat)  (k_t : kd S t = 8) : CtV l yAT_init (Cond.code yAT_init cAT_init 1 none :: wT) 2 40 D AC S [.ref t] 5 155 (fun S' => S' = AT_init_S S t) := by
  refine met_of (by decide) (Nat.le_of_ble_eq_true rfl) ?_
  intro p e s m below meth c ls hsz X hW hl
  obtain ⟨hx, hb, hml, hr, hlk, hown, hnm, hts⟩ := X
  have hl : lv_has ls 1 [(0, .ref t)] := hl
  have mo : mono S S := mono.rf S
  refine lv_aload_n hx hb dAT_init_0 rfl (lv_at hl 0 rfl) ?_
  refine o_init OAT_3 hx hb hown hts hml hl.1 dAT_init_1 (Nat.le_of_ble_eq_true rfl) (Nat.le_of_ble_eq_true rfl) ?_
  refine lv_aload_n hx hb dAT_init_4 rfl (lv_at hl 0 rfl) ?_
  refine lv_bipush (v := (20 : Int32)) hx hb dAT_init_5 (by decide) ?_
  refine n_r (K := 14) (t0 := 3) ⟨by decide, by decide, fun k => rO_obj k 14 (by decide) (by decide)⟩ rfl NAAT_9 hx hb hts hown hW (n := 20) (by decide) (by decide) ⟨Nat.le_of_ble_eq_true rfl, Nat.le_of_ble_eq_true rfl⟩ (hz S) rfl dAT_init_7 (fun H hW m_1 k_q1 => ?_)
  have k_t := m_1.k k_t (by decide)
  have mo := mo.tr m_1
  refine p_r FAT_11 GAT_counters ⟨rfl, rfl⟩ (fun _ => ⟨hnm, rfl⟩) hx hb hts hown hW k_t k_q1 dAT_init_10 (fun H locs hW => ?_)
  have mo := mo.tr (mono_sfr (k := 18) (a := t) (v := (some (hz S))))
  refine lv_aload_n hx hb dAT_init_13 rfl (lv_at hl 0 rfl) ?_
  refine lv_bipush (v := (100 : Int32)) hx hb dAT_init_14 (by decide) ?_
  refine n_r (K := 15) (t0 := 4) ⟨by decide, by decide, fun k => rO_obj k 15 (by decide) (by decide)⟩ rfl NAAT_15 hx hb hts hown hW (n := 100) (by decide) (by decide) ⟨Nat.le_of_ble_eq_true rfl, Nat.le_of_ble_eq_true rfl⟩ (hz (newB S (hz S) 14 20)) rfl dAT_init_16 (fun H hW m_2 k_q2 => ?_)
  have k_t := m_2.k k_t (by decide)
  have k_q1 := m_2.k k_q1 (by decide)
  have mo := mo.tr m_2
  refine p_r FAT_17 GAT_alarms ⟨rfl, rfl⟩ (fun _ => ⟨hnm, rfl⟩) hx hb hts hown hW k_t k_q2 dAT_init_19 (fun H locs hW => ?_)
  have mo := mo.tr (mono_sfr (k := 19) (a := t) (v := (some (hz (newB S (hz S) 14 20)))))
  refine lv_aload_n hx hb dAT_init_22 rfl (lv_at hl 0 rfl) ?_
  refine lv_bipush (v := (20 : Int32)) hx hb dAT_init_23 (by decide) ?_
  refine n_r (K := 16) (t0 := 5) ⟨by decide, by decide, fun k => rO_obj k 16 (by decide) (by decide)⟩ rfl NAAT_21 hx hb hts hown hW (n := 20) (by decide) (by decide) ⟨Nat.le_of_ble_eq_true rfl, Nat.le_of_ble_eq_true rfl⟩ (hz (newB (sfr (newB S (hz S) 14 20) 18 t (some (hz S))) (hz (newB S (hz S) 14 20)) 15 100)) rfl dAT_init_25 (fun H hW m_3 k_q3 => ?_)
  have k_t := m_3.k k_t (by decide)
  have k_q1 := m_3.k k_q1 (by decide)
  have k_q2 := m_3.k k_q2 (by decide)
  have mo := mo.tr m_3
  refine p_r FAT_23 GAT_tables ⟨rfl, rfl⟩ (fun _ => ⟨hnm, rfl⟩) hx hb hts hown hW k_t k_q3 dAT_init_28 (fun H locs hW => ?_)
  have mo := mo.tr (mono_sfr (k := 20) (a := t) (v := (some (hz (newB (sfr (newB S (hz S) 14 20) 18 t (some (hz S))) (hz (newB S (hz S) 14 20)) 15 100)))))
  refine lv_aload_n hx hb dAT_init_31 rfl (lv_at hl 0 rfl) ?_
  have ne4_0 : t ≠ (hz (newB (sfr (newB (sfr (newB S (hz S) 14 20) 18 t (some (hz S))) (hz (newB S (hz S) 14 20)) 15 100) 19 t (some (hz (newB S (hz S) 14 20)))) (hz (newB (sfr (newB S (hz S) 14 20) 18 t (some (hz S))) (hz (newB S (hz S) 14 20)) 15 100)) 16 20)) := hW.ne k_t (by decide)
  have ne4_1 : (hz S) ≠ (hz (newB (sfr (newB (sfr (newB S (hz S) 14 20) 18 t (some (hz S))) (hz (newB S (hz S) 14 20)) 15 100) 19 t (some (hz (newB S (hz S) 14 20)))) (hz (newB (sfr (newB S (hz S) 14 20) 18 t (some (hz S))) (hz (newB S (hz S) 14 20)) 15 100)) 16 20)) := hW.ne k_q1 (by decide)
  have ne4_2 : (hz (newB S (hz S) 14 20)) ≠ (hz (newB (sfr (newB (sfr (newB S (hz S) 14 20) 18 t (some (hz S))) (hz (newB S (hz S) 14 20)) 15 100) 19 t (some (hz (newB S (hz S) 14 20)))) (hz (newB (sfr (newB S (hz S) 14 20) 18 t (some (hz S))) (hz (newB S (hz S) 14 20)) 15 100)) 16 20)) := hW.ne k_q2 (by decide)
  have ne4_3 : (hz (newB (sfr (newB S (hz S) 14 20) 18 t (some (hz S))) (hz (newB S (hz S) 14 20)) 15 100)) ≠ (hz (newB (sfr (newB (sfr (newB S (hz S) 14 20) 18 t (some (hz S))) (hz (newB S (hz S) 14 20)) 15 100) 19 t (some (hz (newB S (hz S) 14 20)))) (hz (newB (sfr (newB S (hz S) 14 20) 18 t (some (hz S))) (hz (newB S (hz S) 14 20)) 15 100)) 16 20)) := hW.ne k_q3 (by decide)
  refine n_o (NAT_27).1 rfl (NAT_27).2.1 iwNotes (NAT_27).2.2 hx hb hts hown hW ⟨Nat.le_of_ble_eq_true rfl, Nat.le_of_ble_eq_true rfl⟩ (hz (newB (sfr (newB (sfr (newB S (hz S) 14 20) 18 t (some (hz S))) (hz (newB S (hz S) 14 20)) 15 100) 19 t (some (hz (newB S (hz S) 14 20)))) (hz (newB (sfr (newB S (hz S) 14 20) 18 t (some (hz S))) (hz (newB S (hz S) 14 20)) 15 100)) 16 20)) rfl dAT_init_32 (fun H hW m_4 k_q4 => ?_)
  have k_t := m_4.k k_t (by decide)
  have k_q1 := m_4.k k_q1 (by decide)
  have k_q2 := m_4.k k_q2 (by decide)
  have k_q3 := m_4.k k_q3 (by decide)
  have mo := mo.tr m_4
  refine lv_dup hx hb dAT_init_35 rfl ?_
  refine k_Nv (As := []) (rest := [.ref (hz (newB (sfr (newB (sfr (newB S (hz S) 14 20) 18 t (some (hz S))) (hz (newB S (hz S) 14 20)) 15 100) 19 t (some (hz (newB S (hz S) 14 20)))) (hz (newB (sfr (newB S (hz S) 14 20) 18 t (some (hz S))) (hz (newB S (hz S) 14 20)) 15 100)) 16 20)), .ref t]) (c_Notes_init l D AC (newQ (sfr (newB (sfr (newB (sfr (newB S (hz S) 14 20) 18 t (some (hz S))) (hz (newB S (hz S) 14 20)) 15 100) 19 t (some (hz (newB S (hz S) 14 20)))) (hz (newB (sfr (newB S (hz S) 14 20) 18 t (some (hz S))) (hz (newB S (hz S) 14 20)) 15 100)) 16 20) 20 t (some (hz (newB (sfr (newB S (hz S) 14 20) 18 t (some (hz S))) (hz (newB S (hz S) 14 20)) 15 100)))) (hz (newB (sfr (newB (sfr (newB S (hz S) 14 20) 18 t (some (hz S))) (hz (newB S (hz S) 14 20)) 15 100) 19 t (some (hz (newB S (hz S) 14 20)))) (hz (newB (sfr (newB S (hz S) 14 20) 18 t (some (hz S))) (hz (newB S (hz S) 14 20)) 15 100)) 16 20)) 4) (hz (newB (sfr (newB (sfr (newB S (hz S) 14 20) 18 t (some (hz S))) (hz (newB S (hz S) 14 20)) 15 100) 19 t (some (hz (newB S (hz S) 14 20)))) (hz (newB (sfr (newB S (hz S) 14 20) 18 t (some (hz S))) (hz (newB S (hz S) 14 20)) 15 100)) 16 20)) k_q4) CAT_29 hx hb hml hown hts hW hl.1 rfl rfl (Nat.le_of_ble_eq_true rfl) ⟨⟨Nat.le_of_ble_eq_true rfl, Nat.le_of_ble_eq_true rfl⟩, ⟨Nat.le_of_ble_eq_true rfl, Nat.le_of_ble_eq_true rfl⟩⟩ dAT_init_36 (fun S_5 H locs e_5 hW m_5 _ => ?_)
  rw [e_5] at hW m_5
  have k_t := m_5.k k_t (by decide)
  have k_q1 := m_5.k k_q1 (by decide)
  have k_q2 := m_5.k k_q2 (by decide)
  have k_q3 := m_5.k k_q3 (by decide)
  have k_q4 := m_5.k k_q4 (by decide)
  have mo := mo.tr m_5
  refine p_r FAT_30 GAT_notes ⟨rfl, rfl⟩ (fun _ => ⟨hnm, rfl⟩) hx hb hts hown hW k_t k_q4 dAT_init_39 (fun H locs hW => ?_)
  have mo := mo.tr (mono_sfr (k := 21) (a := t) (v := (some (hz (newB (sfr (newB (sfr (newB S (hz S) 14 20) 18 t (some (hz S))) (hz (newB S (hz S) 14 20)) 15 100) 19 t (some (hz (newB S (hz S) 14 20)))) (hz (newB (sfr (newB S (hz S) 14 20) 18 t (some (hz S))) (hz (newB S (hz S) 14 20)) 15 100)) 16 20)))))
  exact e_v hsz hx hb hr hlk hW (mo) (Nat.le_of_ble_eq_true rfl) (Nat.le_of_ble_eq_true rfl) dAT_init_42 (rfl)
end
section

end
section
def lkStep (S : HS) (own : Nat) (ad : Int32) (o : Option Nat) : HS :=
  opc o S (fun c => if some c = some own then sfi S 3 c (fi S 3 c ||| ad) else if (fi S 3 c &&& fi S 2 own) = 0 then S else sfi S 3 c (fi S 3 c ||| ad))
def lkN (t own : Nat) (ad : Int32) : Nat → Nat → HS → HS
  | 0, _, S => S
  | k + 1, i, S => lkN t own ad k (i + 1) (lkStep S own ad (ar S (gd (fr S 18 t)) (nI i).toNatClampNeg))
def link_S (S : HS) (t own : Nat) (c0 : Option Nat) : HS :=
  opc c0 S (fun c => lkN t own (fi S 3 c ||| fi S 2 c) (fi S 10 t).toNatClampNeg 0 S)
theorem nI_cl {x : Int32} {n : Nat} (h : x = nI n) (hn : n < 2 ^ 31) : x.toNatClampNeg = n := by rw [h, nI_clamp hn]

set_option maxRecDepth 20000 in
set_option maxHeartbeats 2000000 in
theorem c_link (l : Launch) (D : va_G) (AC : Nat → ClassId) (S : HS) (t own : Nat) (c0 : Option Nat) (k_t : kd S t = 8) (k_own : kd S own = 3) (kq_c0 : ∀ b, c0 = some b → kd S b = 3) (hn : nn S) (ha : atOk S t) : CtV l yAT_link (Cond.code yAT_link cAT_link 6 none :: wT) 0 0 D AC S [.ref t, .ref own, va_rf c0] 0 0 (fun S' => S' = link_S S t own c0) := by
  refine met_of (by decide) (by simp [lg_sl, q_cat, cat_r, cat_i, cat_l]) ?_
  intro p e s m below meth c ls hsz X hW hl
  obtain ⟨hx, hb, hml, hr, hlk, hown, hnm, hts⟩ := X
  have mo : mono S S := mono.rf S
  have hl : lv_has ls 6 [(0, .ref t), (1, .ref own), (2, va_rf c0)] := by simpa [lv_args, q_cat, cat_r, cat_i, cat_l] using hl
  obtain ⟨n, hn20, hcnt⟩ := ha.1
  have loop : ∀ (ad : Int32) (k i : Nat) (S1 : HS), i + k = n → fi S1 10 t = nI n → nn S1 → atOk S1 t → kd S1 t = 8 → kd S1 own = 3 → lkN t own ad k i S1 = link_S S t own c0 → mono S S1 → ∀ H locs, Wd D AC (AS (hL S) s.heap.size) s s.heap H locs S1 → ∀ ls, lv_has ls 6 [(0, .ref t), (1, .ref own), (3, .int ad), (4, .int (nI i))] → W p l e (rmOf 0 0 0 0) s m ([.ref t, .ref own, va_rf c0] : List Value).toArray below meth c H locs 0 0 (MQ below (va_Qv (fun S' => S' = link_S S t own c0) (CB D AC S) (AS (hL S) (hz S))) ([.ref t, .ref own, va_rf c0] : List Value).toArray s 0 0 (AS (hL S) (hz S))) (F0 m 18 ls []) := by
    intro ad k
    induction k with
    | zero =>
      intro i S1 hik hcnt1 hn ha k_t k_own hv mo H locs hW ls hl
      refine lv_iload hx hb dAT_link_18 (lv_at hl 3 rfl) ?_
      refine lv_aload_n hx hb dAT_link_20 rfl (lv_at hl 0 rfl) ?_
      refine g_i FAT_38 hx hb hts hown hW k_t dAT_link_21 ?_
      refine lv_icmp_ge (tgt := 77) hx hb dAT_link_24 (by decide) (fun c_101 => ?_) (fun c_101 => ?_)
      · exact e_v hsz hx hb hr hlk hW mo (Nat.le_refl _) (Nat.le_refl _) dAT_link_77 hv
      · exact absurd (by rw [hcnt1]; exact nI_le (by omega) (by omega)) c_101
    | succ k ih =>
      intro i S1 hik hcnt1 hn ha k_t k_own hv mo H locs hW ls hl
      refine lv_iload hx hb dAT_link_18 (lv_at hl 3 rfl) ?_
      refine lv_aload_n hx hb dAT_link_20 rfl (lv_at hl 0 rfl) ?_
      refine g_i FAT_38 hx hb hts hown hW k_t dAT_link_21 ?_
      refine lv_icmp_ge (tgt := 77) hx hb dAT_link_24 (by decide) (fun c_101 => ?_) (fun c_101 => ?_)
      · exact absurd c_101 (by rw [hcnt1]; exact nI_ge (by omega) (by omega))
      · refine lv_aload_n hx hb dAT_link_27 rfl (lv_at hl 0 rfl) ?_
        have kq_102 : ∀ b, fr S1 18 t = some b → kd S1 b = 14 := fun b h => hW.ok.2.1 18 t b k_t h
        refine g_q FAT_11 hx hb hts hown hW k_t dAT_link_28 ?_
        refine lv_iload hx hb dAT_link_31 (lv_at hl 3 rfl) ?_
        have n_103 : fr S1 18 t = some (gd (fr S1 18 t)) := gd_some (hn 18 t rfl k_t)
        have kb_104 : kd S1 (gd (fr S1 18 t)) = 14 := kq_102 (gd (fr S1 18 t)) n_103
        refine q_some1 n_103 ?_
        have kq_105 : ∀ b, ar S1 (gd (fr S1 18 t)) (nI i).toNatClampNeg = some b → kd S1 b = 3 := fun b h => (hW.ok.2.2 (gd (fr S1 18 t)) _ b (by rw [kb_104]; decide) h).trans (by rw [kb_104]; rfl)
        refine a_q (K := 14) (t0 := 3) (by decide) rfl hx hb hW kb_104 (vin_0 rfl ha.2.2.2.1 (by omega) (by decide)) dAT_link_33 ?_
        refine q_astore (lv' := [(5, va_rf (ar S1 (gd (fr S1 18 t)) (nI i).toNatClampNeg)), (0, .ref t), (1, .ref own), (3, .int ad), (4, .int (nI i))]) hx hb dAT_link_34 hl (by decide) rfl (fun ls hl => ?_)
        refine q_aload hx hb dAT_link_36 (lv_at hl 0 rfl) ?_
        refine q_ifnull (tgt := 71) hx hb dAT_link_38 (by decide) (fun n_106 => ?_) (fun b_106 n_106 => ?_)
        · refine lv_iinc (v := ((nI i) + (1 : Int32))) (lv' := [(4, .int ((nI i) + (1 : Int32))), (5, va_rf (ar S1 (gd (fr S1 18 t)) (nI i).toNatClampNeg)), (0, .ref t), (1, .ref own), (3, .int ad)]) hx hb dAT_link_71 hl (k := 4) rfl rfl (by decide) rfl (fun ls hl => ?_)
          refine lv_goto (tgt := 18) hx hb dAT_link_74 (by decide) ?_
          exact ih (i + 1) S1 (by omega) hcnt1 hn ha k_t k_own ((congrArg (lkN t own ad k (i + 1)) (by refine Eq.symm ?_; refine (op_none n_106).trans ?_; rfl)).trans hv) mo H locs hW ls (by rw [← nI_1]; exact (lv_sub hl [2, 3, 4, 0] rfl))
        · have k_b_106 : kd S1 b_106 = 3 := kq_105 b_106 n_106
          refine q_aload hx hb dAT_link_41 (lv_at hl 0 rfl) ?_
          refine lv_aload_n hx hb dAT_link_43 rfl (lv_at hl 2 rfl) ?_
          refine q_some1 n_106 ?_
          refine lv_acmp_eq (rx := some b_106) (ry := some own) (tgt := 60) hx hb dAT_link_44 (by decide) (fun c_107 => ?_) (fun c_107 => ?_)
          · refine q_aload hx hb dAT_link_60 (lv_at hl 0 rfl) ?_
            refine lv_dup hx hb dAT_link_62 (q_cat _) ?_
            refine q_some n_106 ?_
            refine g_i FAT_200 hx hb hts hown hW k_b_106 dAT_link_63 ?_
            refine lv_iload_n hx hb dAT_link_66 rfl (lv_at hl 3 rfl) ?_
            refine lv_ior hx hb dAT_link_67 ?_
            refine q_some1 n_106 ?_
            refine p_i FAT_200 GCounter_leadsTo (fun h => by cases h) hx hb hts hown hW k_b_106 rfl rfl dAT_link_68 (fun H locs hW => ?_)
            have mo := mo.tr (mono_sfi (k := 3) (a := b_106) (v := ((fi S1 3 b_106) ||| ad)))
            have nnp_108 : nn (sfi S1 3 b_106 ((fi S1 3 b_106) ||| ad)) := nn_sfi hn
            refine lv_iinc (v := ((nI i) + (1 : Int32))) (lv' := [(4, .int ((nI i) + (1 : Int32))), (5, va_rf (ar S1 (gd (fr S1 18 t)) (nI i).toNatClampNeg)), (0, .ref t), (1, .ref own), (3, .int ad)]) hx hb dAT_link_71 hl (k := 4) rfl rfl (by decide) rfl (fun ls hl => ?_)
            refine lv_goto (tgt := 18) hx hb dAT_link_74 (by decide) ?_
            exact ih (i + 1) (sfi S1 3 b_106 ((fi S1 3 b_106) ||| ad)) (by omega) hcnt1 hn ha k_t k_own ((congrArg (lkN t own ad k (i + 1)) (by refine Eq.symm ?_; refine (op_some n_106).trans ?_; refine (if_pos c_107).trans ?_; rfl)).trans hv) mo H locs hW ls (by rw [← nI_1]; exact (lv_sub hl [2, 3, 4, 0] rfl))
          · refine q_aload hx hb dAT_link_47 (lv_at hl 0 rfl) ?_
            refine q_some n_106 ?_
            refine g_i FAT_200 hx hb hts hown hW k_b_106 dAT_link_49 ?_
            refine lv_aload_n hx hb dAT_link_52 rfl (lv_at hl 2 rfl) ?_
            refine g_i FAT_203 hx hb hts hown hW k_own dAT_link_53 ?_
            refine lv_iand hx hb dAT_link_56 ?_
            refine lv_if_eq (tgt := 71) hx hb dAT_link_57 (by decide) (fun c_109 => ?_) (fun c_109 => ?_)
            · refine lv_iinc (v := ((nI i) + (1 : Int32))) (lv' := [(4, .int ((nI i) + (1 : Int32))), (5, va_rf (ar S1 (gd (fr S1 18 t)) (nI i).toNatClampNeg)), (0, .ref t), (1, .ref own), (3, .int ad)]) hx hb dAT_link_71 hl (k := 4) rfl rfl (by decide) rfl (fun ls hl => ?_)
              refine lv_goto (tgt := 18) hx hb dAT_link_74 (by decide) ?_
              exact ih (i + 1) S1 (by omega) hcnt1 hn ha k_t k_own ((congrArg (lkN t own ad k (i + 1)) (by refine Eq.symm ?_; refine (op_some n_106).trans ?_; refine (if_neg c_107).trans ?_; refine (if_pos c_109).trans ?_; rfl)).trans hv) mo H locs hW ls (by rw [← nI_1]; exact (lv_sub hl [2, 3, 4, 0] rfl))
            · refine q_aload hx hb dAT_link_60 (lv_at hl 0 rfl) ?_
              refine lv_dup hx hb dAT_link_62 (q_cat _) ?_
              refine q_some n_106 ?_
              refine g_i FAT_200 hx hb hts hown hW k_b_106 dAT_link_63 ?_
              refine lv_iload_n hx hb dAT_link_66 rfl (lv_at hl 3 rfl) ?_
              refine lv_ior hx hb dAT_link_67 ?_
              refine q_some1 n_106 ?_
              refine p_i FAT_200 GCounter_leadsTo (fun h => by cases h) hx hb hts hown hW k_b_106 rfl rfl dAT_link_68 (fun H locs hW => ?_)
              have mo := mo.tr (mono_sfi (k := 3) (a := b_106) (v := ((fi S1 3 b_106) ||| ad)))
              have nnp_110 : nn (sfi S1 3 b_106 ((fi S1 3 b_106) ||| ad)) := nn_sfi hn
              refine lv_iinc (v := ((nI i) + (1 : Int32))) (lv' := [(4, .int ((nI i) + (1 : Int32))), (5, va_rf (ar S1 (gd (fr S1 18 t)) (nI i).toNatClampNeg)), (0, .ref t), (1, .ref own), (3, .int ad)]) hx hb dAT_link_71 hl (k := 4) rfl rfl (by decide) rfl (fun ls hl => ?_)
              refine lv_goto (tgt := 18) hx hb dAT_link_74 (by decide) ?_
              exact ih (i + 1) (sfi S1 3 b_106 ((fi S1 3 b_106) ||| ad)) (by omega) hcnt1 hn ha k_t k_own ((congrArg (lkN t own ad k (i + 1)) (by refine Eq.symm ?_; refine (op_some n_106).trans ?_; refine (if_neg c_107).trans ?_; refine (if_neg c_109).trans ?_; rfl)).trans hv) mo H locs hW ls (by rw [← nI_1]; exact (lv_sub hl [2, 3, 4, 0] rfl))
  refine q_aload_n hx hb dAT_link_0 rfl (lv_at hl 2 rfl) ?_
  refine q_ifnonnull (tgt := 5) hx hb dAT_link_1 (by decide) (fun n_101 => ?_) (fun b_101 n_101 => ?_)
  · exact e_v hsz hx hb hr hlk hW mo (Nat.le_refl _) (Nat.le_refl _) dAT_link_4 (by refine Eq.symm ?_; refine (op_none n_101).trans ?_; rfl)
  · have k_b_101 : kd S b_101 = 3 := kq_c0 b_101 n_101
    refine q_aload_n hx hb dAT_link_5 rfl (lv_at hl 2 rfl) ?_
    refine q_some n_101 ?_
    refine g_i FAT_200 hx hb hts hown hW k_b_101 dAT_link_6 ?_
    refine q_aload_n hx hb dAT_link_9 rfl (lv_at hl 2 rfl) ?_
    refine q_some n_101 ?_
    refine g_i FAT_203 hx hb hts hown hW k_b_101 dAT_link_10 ?_
    refine lv_ior hx hb dAT_link_13 ?_
    refine lv_istore_n (i := 3) (lv' := [(3, .int ((fi S 3 b_101) ||| (fi S 2 b_101))), (0, .ref t), (1, .ref own), (2, va_rf c0)]) hx hb dAT_link_14 rfl hl (by decide) (by simp [q_cat, cat_r, cat_i, cat_l, cat_n]) (fun ls hl => ?_)
    refine lv_iconst (v := (0 : Int32)) hx hb dAT_link_15 (by decide) ?_
    refine lv_istore (lv' := [(4, .int (0 : Int32)), (3, .int ((fi S 3 b_101) ||| (fi S 2 b_101))), (0, .ref t), (1, .ref own), (2, va_rf c0)]) hx hb dAT_link_16 hl (by decide) rfl (fun ls hl => ?_)
    exact loop _ n 0 S (by omega) hcnt hn ha k_t k_own ((congrArg (fun z => lkN t own _ z 0 S) (nI_cl hcnt (by omega)).symm).trans (by refine Eq.symm ?_; exact op_some n_101)) mo _ _ hW ls (lv_sub hl [2, 3, 1, 0] rfl)
end
section

end
section
-- what holds along the steps of a tick
abbrev ntA (S : HS) (t : Nat) : Nat := gd (fr S 21 t)
abbrev kpN (S : HS) (t : Nat) : Nat := (fi S 4 (ntA S t)).toNatClampNeg
abbrev pgA (S : HS) (t : Nat) : Nat := gd (fr S 9 (ntA S t))
def kpOk (S : HS) (t : Nat) : Prop := fi S 4 (ntA S t) = nI (kpN S t) ∧ kpN S t ≤ 3000 ∧ an S (pgA S t) = 12 ∧ (∀ j, j < 12 → (ar S (pgA S t) j = none ↔ kpN S t ≤ 250 * j))
def chOk (S : HS) (f0 b0 : Nat) : Prop := ∀ c, kd S c = 3 → ∃ xs, chn (fr S b0) (fr S f0 c) xs
def hlt (S : HS) : Prop := ∀ a ∈ hL S, a < hz S
def sInv (S : HS) (t : Nat) : Prop := (hOk S ∧ hlt S) ∧ kd S t = 8 ∧ nn S ∧ pgOk S ∧ kpOk S t ∧ chOk S 5 4 ∧ chOk S 7 17
def pgl (n : Nat) : Nat := 12 - (n + 249) / 250
def phi (S : HS) (t : Nat) : Nat := 2 * pgl (kpN S t)
def psi (S : HS) (t : Nat) : Nat := 1001 * pgl (kpN S t)
def sRel (t : Nat) (S S' : HS) : Prop := sInv S' t ∧ (hz S' + phi S' t = hz S + phi S t ∧ tz S' + psi S' t = tz S + psi S t) ∧ (hz S ≤ hz S' ∧ tz S ≤ tz S') ∧ (∀ k a, kd S a ≠ 0 → k ≠ 15 → fr S' k a = fr S k a) ∧ mono S S'
theorem sRel.rf {t : Nat} {S : HS} (h : sInv S t) : sRel t S S := ⟨h, ⟨rfl, rfl⟩, ⟨Nat.le_refl _, Nat.le_refl _⟩, fun _ _ _ _ => rfl, mono.rf S⟩
theorem sRel.tr {t : Nat} {S S' S'' : HS} (h : sRel t S S') (h' : sRel t S' S'') : sRel t S S'' :=
  ⟨h'.1, ⟨h'.2.1.1.trans h.2.1.1, h'.2.1.2.trans h.2.1.2⟩, ⟨Nat.le_trans h.2.2.1.1 h'.2.2.1.1, Nat.le_trans h.2.2.1.2 h'.2.2.1.2⟩,
    fun k a ha hk => (h'.2.2.2.1 k a (by rw [(h.2.2.2.2 a ha).1]; exact ha) hk).trans (h.2.2.2.1 k a ha hk), h.2.2.2.2.tr h'.2.2.2.2⟩
theorem sRel_sfl {t : Nat} {S : HS} {k a : Nat} {v : Int64} (h : sInv S t) : sRel t S (sfl S k a v) := ⟨h, ⟨rfl, rfl⟩, ⟨Nat.le_refl _, Nat.le_refl _⟩, fun _ _ _ _ => rfl, mono_sfl⟩
theorem sRel_sfi {t : Nat} {S : HS} {k a : Nat} {v : Int32} (hk : 4 ≠ k) (h : sInv S t) : sRel t S (sfi S k a v) := by
  have e : fi (sfi S k a v) 4 = fi S 4 := funext fun x => up2_k _ _ _ _ hk
  have e1 : ∀ x, fi (sfi S k a v) 4 x = fi S 4 x := fun x => by rw [e]
  have e2 : kpN (sfi S k a v) t = kpN S t := by show (fi (sfi S k a v) 4 (ntA S t)).toNatClampNeg = _; rw [e1]
  obtain ⟨h1, h2, h3, h4, ⟨h5, h6, h7, h8⟩, h9, h10⟩ := h
  refine ⟨⟨h1, h2, h3, h4, ⟨?_, ?_, h7, ?_⟩, h9, h10⟩, ⟨?_, ?_⟩, ⟨Nat.le_refl _, Nat.le_refl _⟩, fun _ _ _ _ => rfl, mono_sfi⟩
  · show fi (sfi S k a v) 4 (ntA S t) = _
    rw [e1, e2]; exact h5
  · rw [e2]; exact h6
  · rw [e2]; exact h8
  · unfold phi; rw [e2]; rfl
  · unfold psi; rw [e2]; rfl
theorem sRel_sfr {t : Nat} {S : HS} {a : Nat} {v : Option Nat} (h : sInv S t) (hv : ∀ b, v = some b → kd S b = rT 15) : sRel t S (sfr S 15 a v) := by
  have e : ∀ k, k ≠ 15 → fr (sfr S 15 a v) k = fr S k := fun k hk => funext fun x => up2_k _ _ _ _ hk
  obtain ⟨h1, h2, h3, h4, h5, h9, h10⟩ := h
  refine ⟨⟨⟨h1.1.sfr _ _ _ hv, h1.2⟩, h2, nn_sfr h3 (Or.inl rfl), ?_, ?_, ?_, ?_⟩, ⟨?_, ?_⟩, ⟨Nat.le_refl _, Nat.le_refl _⟩, fun k x _ hk => by rw [e k hk], mono_sfr⟩
  · intro b hb
    rw [e 10 (by decide)]
    exact h4 b hb
  · unfold kpOk pgA kpN ntA
    rw [e 21 (by decide), e 9 (by decide)]
    exact h5
  · intro c hc
    rw [e 5 (by decide), e 4 (by decide)]
    exact h9 c hc
  · intro c hc
    rw [e 7 (by decide), e 17 (by decide)]
    exact h10 c hc
  · unfold phi kpN ntA
    rw [e 21 (by decide)]
    rfl
  · unfold psi kpN ntA
    rw [e 21 (by decide)]
    rfl
theorem sRel_wakeAt {t : Nat} {S : HS} {a : Nat} {d : Int64} (h : sInv S t) : sRel t S (wakeAt_S S a d) := sRel_sfl h
theorem sRel_becomeDue {t : Nat} {S : HS} {a : Nat} {d : Int64} (h : sInv S t) : sRel t S (becomeDue_S S a d) := (sRel_sfl h).tr (sRel_sfl (sRel_sfl h).1)
theorem sRel_advance {t : Nat} {S : HS} {a : Nat} (h : sInv S t) : sRel t S (advance_S S a) := by
  unfold advance_S
  exact ite_P (P := sRel t S) ((sRel_sfl h).tr (sRel_sfl (sRel_sfl h).1)) (((sRel_sfl h).tr (sRel_sfl (sRel_sfl h).1)).tr (sRel_sfl ((sRel_sfl h).tr (sRel_sfl (sRel_sfl h).1)).1))
theorem sRel_runFrom {t : Nat} {S : HS} {a : Nat} {d : Int64} (h : sInv S t) : sRel t S (runFrom_S S a d) :=
  have s1 := sRel_sfi (k := 8) (a := a) (v := 1) (by decide) h
  have s2 := s1.tr (sRel_sfi (k := 9) (a := a) (v := 0) (by decide) s1.1)
  s2.tr (sRel_sfl s2.1)
theorem sRel_goOn {t : Nat} {S : HS} {a : Nat} {fm : Int64} {o : Option Nat} (h : sInv S t) (ho : ∀ b, o = some b → kd S b = 6) : sRel t S (goOn_S S a fm o) := by
  have s1 : sRel t S (sfr S 15 a o) := sRel_sfr h ho
  unfold goOn_S
  have key : ∀ (c : Prop) [Decidable c] (v1 v2 v3 : Int64) (w : Nat), sRel t S (if c then wakeAt_S (sfl (sfl (sfl (sfr S 15 a o) 10 a v1) 11 a v2) 10 a v3) w v3 else sfl (sfr S 15 a o) 10 a v1) := by
    intro c _ v1 v2 v3 w
    have s2 := s1.tr (sRel_sfl (k := 10) (a := a) (v := v1) s1.1)
    have s3 := s2.tr (sRel_sfl (k := 11) (a := a) (v := v2) s2.1)
    have s4 := s3.tr (sRel_sfl (k := 10) (a := a) (v := v3) s3.1)
    exact ite_P (P := sRel t S) (s4.tr (sRel_wakeAt s4.1)) s2
  exact opc_P (P := sRel t S) (fun _ => key _ _ _ _ _) (fun _ _ => key _ _ _ _ _)

theorem sRel_sai {t : Nat} {S : HS} {a i : Nat} {v : Int32} (h : sInv S t) : sRel t S (sai S a i v) := ⟨h, ⟨rfl, rfl⟩, ⟨Nat.le_refl _, Nat.le_refl _⟩, fun _ _ _ _ => rfl, mono_sai⟩
theorem chn_kd {S : HS} (h : hOk S) {b0 K : Nat} (hO : rO b0 = K) (hT : rT b0 = K) : ∀ (xs : List Nat) (o : Option Nat), chn (fr S b0) o xs → (∀ b, o = some b → kd S b = K) → ∀ x ∈ xs, kd S x = K
  | [], _, _, _, x, hx => by cases hx
  | y :: ys, o, hc, ho, x, hx => by
    have hy : kd S y = K := ho y hc.1
    rcases List.mem_cons.mp hx with rfl | hx
    · exact hy
    · exact chn_kd h hO hT ys _ hc.2 (fun b hb => (h.2.1 b0 y b (hy.trans hO.symm) hb).trans hT) x hx
theorem chn_congr {f g : Nat → Option Nat} : ∀ (xs : List Nat) (o : Option Nat), (∀ x ∈ xs, f x = g x) → chn f o xs → chn g o xs
  | [], _, _, h => h
  | x :: xs, o, he, h => ⟨h.1, by rw [← he x List.mem_cons_self]; exact chn_congr xs _ (fun y hy => he y (List.mem_cons_of_mem _ hy)) h.2⟩
/-- chains stay where the fields of what was there stay -/
theorem chOk_keep {S S' : HS} {f0 b0 K : Nat} (h : hOk S) (hc : chOk S f0 b0) (hO : rO b0 = K) (hT : rT b0 = K) (hf : rO f0 = 3 ∧ rT f0 = K) (hK : K ≠ 0) (he : ∀ a, kd S a ≠ 0 → fr S' f0 a = fr S f0 a ∧ fr S' b0 a = fr S b0 a) (hk : ∀ c, kd S' c = 3 → kd S c = 3) : chOk S' f0 b0 := by
  intro c hc'
  have hc3 := hk c hc'
  obtain ⟨xs, hx⟩ := hc c hc3
  refine ⟨xs, ?_⟩
  rw [(he c (by rw [hc3]; decide)).1]
  have hkd := chn_kd h hO hT xs _ hx (fun b hb => (h.2.1 f0 c b (hc3.trans hf.1.symm) hb).trans hf.2)
  exact chn_congr xs _ (fun x hx => ((he x (by rw [hkd x hx]; exact hK)).2).symm) hx
/-- a new page in its place -/
def mkQ (S : HS) (q p j : Nat) : HS := sar (Page_init_S (newQ S q 5) q) p j (some q)
abbrev mkPg (S : HS) (p j : Nat) : HS := mkQ S (hz S) p j
theorem mkPg_fr {S : HS} {p j k a : Nat} (ha : a ≠ hz S) : fr (mkPg S p j) k a = fr S k a := by
  show up2 (zr (fr S) (hz S) none) 10 (hz S) (some (hz S + 1)) k a = _
  rw [up2_a _ _ _ _ ha]
  exact if_neg ha
theorem mkPg_kd {S : HS} {p j a : Nat} : kd (mkPg S p j) a = if a = hz S + 1 then 11 else if a = hz S then 5 else kd S a := rfl
theorem mkPg_an {S : HS} {p j a : Nat} : an (mkPg S p j) a = if a = hz S + 1 then 1000 else an S a := rfl
theorem mkPg_ok {S : HS} {p j : Nat} (h : hOk S) (hl : hlt S) (hp : kd S p = 17) : hOk (mkPg S p j) ∧ hlt (mkPg S p j) := by
  have f1 : hz S ∉ hL S := fun q => Nat.lt_irrefl _ (hl _ q)
  have h1 : hOk (newQ S (hz S) 5) := h.newQ f1 rfl rO_ne rT_ne rfl
  have f2 : hz S + 1 ∉ hL (newQ S (hz S) 5) := fun q => by
    rcases List.mem_append.mp q with q | q
    · exact absurd (hl _ q) (by omega)
    · rw [List.mem_singleton] at q; omega
  have h2 : hOk (newB (newQ S (hz S) 5) (hz S + 1) 11 1000) := h1.newB f2 (fun k => rO_obj k 11 (by decide) (by decide)) rO_ne rT_ne
  have hne : p ≠ hz S + 1 := fun q => by have := hl p (h.1 p (by rw [hp]; decide)); omega
  have hne2 : p ≠ hz S := fun q => by have := hl p (h.1 p (by rw [hp]; decide)); omega
  have h3 : hOk (Page_init_S (newQ S (hz S) 5) (hz S)) := h2.sfr _ _ _ (fun b hb => by cases hb; exact va_up_self _ _ _)
  refine ⟨h3.sar _ _ _ (fun b hb => ?_), fun a ha => ?_⟩
  · cases hb
    have e1 : kd (Page_init_S (newQ S (hz S) 5) (hz S)) (hz S) = 5 := by
      show va_up (va_up (kd S) (hz S) 5) (hz S + 1) 11 (hz S) = 5
      rw [va_up_ne _ _ (by omega), va_up_self]
    have e2 : kd (Page_init_S (newQ S (hz S) 5) (hz S)) p = 17 := by
      show va_up (va_up (kd S) (hz S) 5) (hz S + 1) 11 p = 17
      rw [va_up_ne _ _ hne, va_up_ne _ _ hne2, hp]
    rw [e1, e2]
    rfl
  · have ha : a ∈ (hL S ++ [hz S]) ++ [hz S + 1] := ha
    show a < hz S + 1 + 1
    rcases List.mem_append.mp ha with ha | ha
    · rcases List.mem_append.mp ha with ha | ha
      · have := hl a ha; omega
      · rw [List.mem_singleton] at ha; omega
    · rw [List.mem_singleton] at ha; omega
theorem mkPg_old {S : HS} (h : hOk S) (hl : hlt S) {a : Nat} (ha : kd S a ≠ 0) : a ≠ hz S ∧ a ≠ hz S + 1 := by
  have := hl a (h.1 a ha)
  exact ⟨by omega, by omega⟩
theorem mkPg_mono {S : HS} {p j : Nat} (h : hOk S) (hl : hlt S) : mono S (mkPg S p j) := fun a ha => by
  obtain ⟨n1, n2⟩ := mkPg_old h hl ha
  rw [mkPg_kd, mkPg_an, if_neg n2, if_neg n1, if_neg n2]
  exact ⟨rfl, rfl⟩
theorem mkPg_pgOk {S : HS} {p j : Nat} (h : hOk S) (hl : hlt S) (hn : nn S) (hp : pgOk S) : pgOk (mkPg S p j) := by
  intro b hb
  rw [mkPg_kd] at hb
  by_cases h1 : b = hz S + 1
  · rw [if_pos h1] at hb; cases hb
  · rw [if_neg h1] at hb
    by_cases h2 : b = hz S
    · subst h2
      show an (mkPg S p j) (gd (up2 (zr (fr S) (hz S) none) 10 (hz S) (some (hz S + 1)) 10 (hz S))) = 1000
      rw [up2_self, mkPg_an]
      exact if_pos rfl
    · rw [if_neg h2] at hb
      have h3 := gd_some (hn 10 b rfl hb)
      have h4 : kd S (gd (fr S 10 b)) = 11 := h.2.1 10 b _ hb h3
      have h5 := (mkPg_old h hl (a := gd (fr S 10 b)) (by rw [h4]; decide)).2
      rw [mkPg_fr h2, mkPg_an, if_neg h5]
      exact hp b hb

/-- equal but for ints in arrays -/
def eqv (X Y : HS) : Prop := (hz Y = hz X ∧ tz Y = tz X ∧ hL Y = hL X) ∧ kd Y = kd X ∧ fi Y = fi X ∧ fr Y = fr X ∧ an Y = an X ∧ ar Y = ar X
theorem eqv_write {S : HS} {a : Nat} {w kn nb : Int32} {o v : Int64} : eqv S (write_S S a w kn nb o v) := ⟨⟨rfl, rfl, rfl⟩, rfl, rfl, rfl, rfl, rfl⟩
theorem eqv_ok {X Y : HS} (e : eqv X Y) (h : hOk X ∧ hlt X) : hOk Y ∧ hlt Y := by
  obtain ⟨⟨e1, e2, e3⟩, e4, e5, e6, e7, e8⟩ := e
  unfold hOk hlt at *
  rw [e3, e4, e6, e8, e1]
  exact h
theorem eqv_nn {X Y : HS} (e : eqv X Y) (h : nn X) : nn Y := by
  obtain ⟨⟨e1, e2, e3⟩, e4, e5, e6, e7, e8⟩ := e
  unfold nn at *
  rw [e4, e6]
  exact h
theorem eqv_pg {X Y : HS} (e : eqv X Y) (h : pgOk X) : pgOk Y := by
  obtain ⟨⟨e1, e2, e3⟩, e4, e5, e6, e7, e8⟩ := e
  unfold pgOk at *
  rw [e4, e6, e7]
  exact h
theorem eqv_ch {X Y : HS} (e : eqv X Y) {f0 b0 : Nat} (h : chOk X f0 b0) : chOk Y f0 b0 := by
  obtain ⟨⟨e1, e2, e3⟩, e4, e5, e6, e7, e8⟩ := e
  unfold chOk at *
  rw [e4, e6]
  exact h
theorem add_core {S S1 : HS} {t : Nat} (h : sInv S t) (ok1 : hOk S1 ∧ hlt S1) (k1 : kd S1 t = 8) (n1 : nn S1) (p1 : pgOk S1) (c1 : chOk S1 5 4) (c2 : chOk S1 7 17) (f1 : fi S1 4 (ntA S t) = fi S 4 (ntA S t)) (r1 : fr S1 21 t = fr S 21 t) (r2 : fr S1 9 (ntA S t) = fr S 9 (ntA S t)) (a1 : an S1 (pgA S t) = 12)
    (pg1 : ∀ j, j < 12 → (ar S1 (pgA S t) j = none ↔ kpN S t + 1 ≤ 250 * j)) (hk : kpN S t < 3000) (z1 : hz S1 + 2 * pgl (kpN S t + 1) = hz S + phi S t) (z2 : tz S1 + 1001 * pgl (kpN S t + 1) = tz S + psi S t) (z3 : hz S ≤ hz S1 ∧ tz S ≤ tz S1) (fm : ∀ k a, kd S a ≠ 0 → k ≠ 15 → fr S1 k a = fr S k a) (mo : mono S S1) : sRel t S (sfi S1 4 (ntA S t) (fi S1 4 (ntA S t) + 1)) := by
  have e1 : ntA (sfi S1 4 (ntA S t) (fi S1 4 (ntA S t) + 1)) t = ntA S t := by show gd (fr S1 21 t) = _; rw [r1]
  have e2 : fi (sfi S1 4 (ntA S t) (fi S1 4 (ntA S t) + 1)) 4 (ntA S t) = nI (kpN S t + 1) := by
    show up2 (fi S1) 4 (ntA S t) _ 4 (ntA S t) = _
    rw [up2_self, f1, h.2.2.2.2.1.1]
    exact nI_1 _
  have e3 : kpN (sfi S1 4 (ntA S t) (fi S1 4 (ntA S t) + 1)) t = kpN S t + 1 := by
    show (fi (sfi S1 4 (ntA S t) (fi S1 4 (ntA S t) + 1)) 4 (ntA (sfi S1 4 (ntA S t) (fi S1 4 (ntA S t) + 1)) t)).toNatClampNeg = _
    rw [e1, e2]
    exact nI_clamp (by omega)
  have e4 : pgA (sfi S1 4 (ntA S t) (fi S1 4 (ntA S t) + 1)) t = pgA S t := by
    show gd (fr S1 9 (ntA (sfi S1 4 (ntA S t) (fi S1 4 (ntA S t) + 1)) t)) = _
    rw [e1, r2]
  refine ⟨⟨ok1, k1, n1, p1, ⟨?_, ?_, ?_, ?_⟩, c1, c2⟩, ⟨?_, ?_⟩, z3, fm, mo⟩
  · rw [e1, e2, e3]
  · rw [e3]; omega
  · rw [e4]; exact a1
  · rw [e3, e4]; exact pg1
  · unfold phi; rw [e3]; exact z1
  · unfold psi; rw [e3]; exact z2
theorem add_core2 {S S1 Y : HS} {t : Nat} (e : eqv S1 Y) (h : sInv S t) (ok1 : hOk S1 ∧ hlt S1) (k1 : kd S1 t = 8) (n1 : nn S1) (p1 : pgOk S1) (c1 : chOk S1 5 4) (c2 : chOk S1 7 17) (f1 : fi S1 4 (ntA S t) = fi S 4 (ntA S t)) (r1 : fr S1 21 t = fr S 21 t) (r2 : fr S1 9 (ntA S t) = fr S 9 (ntA S t)) (a1 : an S1 (pgA S t) = 12)
    (pg1 : ∀ j, j < 12 → (ar S1 (pgA S t) j = none ↔ kpN S t + 1 ≤ 250 * j)) (hk : kpN S t < 3000) (z1 : hz S1 + 2 * pgl (kpN S t + 1) = hz S + phi S t) (z2 : tz S1 + 1001 * pgl (kpN S t + 1) = tz S + psi S t) (z3 : hz S ≤ hz S1 ∧ tz S ≤ tz S1) (fm : ∀ k a, kd S a ≠ 0 → k ≠ 15 → fr S1 k a = fr S k a) (mo : mono S S1) : sRel t S (sfi Y 4 (ntA S t) (fi Y 4 (ntA S t) + 1)) := by
  have ok2 := eqv_ok e ok1
  have n2 := eqv_nn e n1
  have p2 := eqv_pg e p1
  have c3 := eqv_ch e c1
  have c4 := eqv_ch e c2
  obtain ⟨⟨e1, e2, e3⟩, e4, e5, e6, e7, e8⟩ := e
  refine add_core h ok2 (by rw [e4]; exact k1) n2 p2 c3 c4 (by rw [e5]; exact f1) (by rw [e6]; exact r1) (by rw [e6]; exact r2) (by rw [e7]; exact a1) (by rw [e8]; exact pg1) hk (by rw [e1]; exact z1) (by rw [e2]; exact z2) (by rw [e1, e2]; exact z3) (by rw [e6]; exact fm) ?_
  intro a ha
  rw [e4, e7]
  exact mo a ha
theorem mkPg_fi {S : HS} {p j k a : Nat} (ha : a ≠ hz S) : fi (mkPg S p j) k a = fi S k a := if_neg ha
theorem mkPg_hz {S : HS} {p j : Nat} : hz (mkPg S p j) = hz S + 2 := rfl
theorem mkPg_tz {S : HS} {p j : Nat} : tz (mkPg S p j) = tz S + 1 + 1000 := rfl
theorem mkPg_ar {S : HS} {p j i : Nat} (hp : p ≠ hz S + 1) : ar (mkPg S p j) p i = if i = j then some (hz S) else ar S p i := by
  show up2 (va_up (ar S) (hz S + 1) (fun _ => none)) p j (some (hz S)) p i = _
  by_cases h : i = j
  · subst h; rw [up2_self, if_pos rfl]
  · rw [if_neg h, show up2 (va_up (ar S) (hz S + 1) (fun _ => none)) p j (some (hz S)) p i = va_up (ar S) (hz S + 1) (fun _ => none) p i by simp [up2, h], va_up_ne _ _ hp]
theorem pgl_stay {n : Nat} (h : n % 250 ≠ 0) : pgl (n + 1) = pgl n := by unfold pgl; omega
theorem pgl_less {n : Nat} (h : n % 250 = 0) (hn : n < 3000) : pgl n = pgl (n + 1) + 1 := by unfold pgl; omega
theorem addC_le {S : HS} {t : Nat} (h : sInv S t) : addC S (ntA S t) ≤ phi S t ∧ addM S (ntA S t) ≤ psi S t := by
  obtain ⟨h1, h2, h3, h4, ⟨h5, h6, h7, h8⟩, h9, h10⟩ := h
  unfold addC addM
  by_cases c : fi S 4 (ntA S t) < (3000 : Int32)
  · rw [if_pos c, if_pos c]
    have hk : kpN S t < 3000 := by
      rw [h5] at c
      exact (nI_ltI (b := 3000) (by omega) (by decide)).mp c
    have e : (fi S 4 (ntA S t) / (250 : Int32)).toNatClampNeg = kpN S t / 250 := by rw [dv250 h5 h6, nI_clamp (by have : (fi S 4 (ntA S t)).toNatClampNeg ≤ 3000 := h6; omega)]
    rw [e]
    cases hp : ar S (gd (fr S 9 (ntA S t))) (kpN S t / 250) with
    | none =>
      have hm := (h8 (kpN S t / 250) (by omega)).mp hp
      have hm : kpN S t % 250 = 0 := by omega
      have := pgl_less hm hk
      show 2 ≤ phi S t ∧ 1001 ≤ psi S t
      unfold phi psi
      omega
    | some b => exact ⟨Nat.zero_le _, Nat.zero_le _⟩
  · rw [if_neg c, if_neg c]
    exact ⟨Nat.zero_le _, Nat.zero_le _⟩
theorem sRel_add {S : HS} {t : Nat} {kn nb : Int32} {of_ vl : Int64} (h0 : sInv S t) : sRel t S (add_S S (ntA S t) kn nb of_ vl) := by
  have s1 : sRel t S (sfi S 5 (ntA S t) (fi S 5 (ntA S t) + 1)) := sRel_sfi (by decide) h0
  unfold add_S
  by_cases c : fi S 4 (ntA S t) < (3000 : Int32)
  · rw [if_pos c]
    have h := s1.1
    obtain ⟨g1, g2, g3, g4, ⟨g5, g6, g7, g8⟩, g9, g10⟩ := h0
    have hk : kpN S t < 3000 := by
      rw [g5] at c
      exact (nI_ltI (b := 3000) (by omega) (by decide)).mp c
    have e : (fi S 4 (ntA S t) / (250 : Int32)).toNatClampNeg = kpN S t / 250 := by rw [dv250 g5 g6, nI_clamp (by have : (fi S 4 (ntA S t)).toNatClampNeg ≤ 3000 := g6; omega)]
    rw [e]
    have nts := gd_some (g3 21 t rfl g2)
    have ntk : kd S (ntA S t) = 4 := g1.1.2.1 21 t _ g2 nts
    have pgs := gd_some (g3 9 (ntA S t) rfl ntk)
    have pgk : kd S (pgA S t) = 17 := g1.1.2.1 9 (ntA S t) _ ntk pgs
    cases hp : ar S (gd (fr S 9 (ntA S t))) (kpN S t / 250) with
    | none =>
      have hm := (g8 (kpN S t / 250) (by omega)).mp hp
      have hm : kpN S t % 250 = 0 := by omega
      have hl := pgl_less hm hk
      have hzX : hz (sfi S 5 (ntA S t) (fi S 5 (ntA S t) + 1)) = hz S := rfl
      have hX0 : kd (sfi S 5 (ntA S t) (fi S 5 (ntA S t) + 1)) (hz S) = 0 := Classical.byContradiction fun q => Nat.lt_irrefl _ (g1.2 _ (g1.1.1 _ q))
      have nt1 : ntA S t ≠ hz S := (mkPg_old g1.1 g1.2 (a := ntA S t) (by rw [ntk]; decide)).1
      have t1 : t ≠ hz S := (mkPg_old g1.1 g1.2 (a := t) (by rw [g2]; decide)).1
      have p1 := (mkPg_old g1.1 g1.2 (a := pgA S t) (by rw [pgk]; decide)).2
      show sRel t S (sfi (write_S (mkQ (sfi S 5 (ntA S t) (fi S 5 (ntA S t) + 1)) (hz S) (pgA S t) (kpN S t / 250)) (hz S) _ kn nb of_ vl) 4 (ntA S t) (fi (write_S (mkQ (sfi S 5 (ntA S t) (fi S 5 (ntA S t) + 1)) (hz S) (pgA S t) (kpN S t / 250)) (hz S) _ kn nb of_ vl) 4 (ntA S t) + 1))
      have hzX : hz (sfi S 5 (ntA S t) (fi S 5 (ntA S t) + 1)) = hz S := rfl
      have frX : ∀ k a, fr (sfi S 5 (ntA S t) (fi S 5 (ntA S t) + 1)) k a = fr S k a := fun _ _ => rfl
      have kdX : ∀ a, kd (sfi S 5 (ntA S t) (fi S 5 (ntA S t) + 1)) a = kd S a := fun _ => rfl
      have anX : ∀ a, an (sfi S 5 (ntA S t) (fi S 5 (ntA S t) + 1)) a = an S a := fun _ => rfl
      have arX : ∀ a i, ar (sfi S 5 (ntA S t) (fi S 5 (ntA S t) + 1)) a i = ar S a i := fun _ _ => rfl
      have fiX : fi (sfi S 5 (ntA S t) (fi S 5 (ntA S t) + 1)) 4 (ntA S t) = fi S 4 (ntA S t) := rfl
      have tzX : tz (sfi S 5 (ntA S t) (fi S 5 (ntA S t) + 1)) = tz S := rfl
      have moX : mono S (sfi S 5 (ntA S t) (fi S 5 (ntA S t) + 1)) := mono_sfi
      generalize sfi S 5 (ntA S t) (fi S 5 (ntA S t) + 1) = X at h hzX hX0 frX kdX anX arX fiX tzX moX ⊢
      rw [show mkQ X (hz S) (pgA S t) (kpN S t / 250) = mkPg X (pgA S t) (kpN S t / 250) by rw [← hzX]]
      generalize ((fi S 4 (ntA S t) - fi S 4 (ntA S t) / 250 * 250) * 4) = wq
      obtain ⟨⟨x1, x1b⟩, x2, x3, x4, x5, x6, x7⟩ := h
      have pkX : kd X (pgA S t) = 17 := by rw [kdX]; exact pgk
      have hkd3 : ∀ c, kd (mkPg X (pgA S t) (kpN S t / 250)) c = 3 → kd X c = 3 := fun c hc => by
        rw [mkPg_kd] at hc
        split at hc
        · cases hc
        · split at hc
          · cases hc
          · exact hc
      have hfr : ∀ a, kd X a ≠ 0 → ∀ k, fr (mkPg X (pgA S t) (kpN S t / 250)) k a = fr X k a := fun a ha k => mkPg_fr (mkPg_old x1 x1b ha).1
      have nX : nn (mkPg X (pgA S t) (kpN S t / 250)) := nn_sar (nn_pg rfl x3 (by rw [hzX]; exact hX0))
      have c1X := chOk_keep (S' := mkPg X (pgA S t) (kpN S t / 250)) x1 x6 rfl rfl ⟨rfl, rfl⟩ (by decide) (fun a ha => ⟨hfr a ha _, hfr a ha _⟩) hkd3
      have c2X := chOk_keep (S' := mkPg X (pgA S t) (kpN S t / 250)) x1 x7 rfl rfl ⟨rfl, rfl⟩ (by decide) (fun a ha => ⟨hfr a ha _, hfr a ha _⟩) hkd3
      have mX : mono X (mkPg X (pgA S t) (kpN S t / 250)) := mkPg_mono x1 x1b
      refine add_core2 (S1 := mkPg X (pgA S t) (kpN S t / 250)) eqv_write ⟨g1, g2, g3, g4, ⟨g5, g6, g7, g8⟩, g9, g10⟩ (mkPg_ok x1 x1b pkX) (mX.k x2 (by decide)) nX (mkPg_pgOk x1 x1b x3 x4) c1X c2X ?_ ?_ ?_ ?_ ?_ hk ?_ ?_ ?_ ?_ (moX.tr mX)
      · rw [mkPg_fi (by rw [hzX]; exact nt1)]
        exact fiX
      · exact (hfr t (by rw [x2]; decide) 21).trans (frX 21 t)
      · exact (hfr (ntA S t) (by rw [kdX, ntk]; decide) 9).trans (frX 9 (ntA S t))
      · rw [mkPg_an, hzX, if_neg p1, anX]
        exact g7
      · intro j hj
        rw [mkPg_ar (by rw [hzX]; exact p1)]
        by_cases hjj : j = kpN S t / 250
        · rw [if_pos hjj]
          constructor
          · intro q; cases q
          · intro q; omega
        · rw [if_neg hjj, arX, g8 j hj]
          omega
      · rw [mkPg_hz, hzX]
        unfold phi
        rw [hl]
        omega
      · rw [mkPg_tz, tzX]
        unfold psi
        rw [hl]
        omega
      · rw [mkPg_hz, mkPg_tz, hzX, tzX]
        omega
      · intro k a ha _
        exact (hfr a (by rw [kdX]; exact ha) k).trans (frX _ _)
    | some b =>
      have hm : ¬ kpN S t ≤ 250 * (kpN S t / 250) := fun q => by rw [(g8 (kpN S t / 250) (by omega)).mpr q] at hp; cases hp
      have hm : kpN S t % 250 ≠ 0 := by omega
      have hl := pgl_stay hm
      show sRel t S (sfi (write_S (sfi S 5 (ntA S t) (fi S 5 (ntA S t) + 1)) b _ kn nb of_ vl) 4 (ntA S t) (fi (write_S (sfi S 5 (ntA S t) (fi S 5 (ntA S t) + 1)) b _ kn nb of_ vl) 4 (ntA S t) + 1))
      have frX : ∀ k a, fr (sfi S 5 (ntA S t) (fi S 5 (ntA S t) + 1)) k a = fr S k a := fun _ _ => rfl
      have arX : ∀ a i, ar (sfi S 5 (ntA S t) (fi S 5 (ntA S t) + 1)) a i = ar S a i := fun _ _ => rfl
      have anX : ∀ a, an (sfi S 5 (ntA S t) (fi S 5 (ntA S t) + 1)) a = an S a := fun _ => rfl
      have fiX : fi (sfi S 5 (ntA S t) (fi S 5 (ntA S t) + 1)) 4 (ntA S t) = fi S 4 (ntA S t) := rfl
      have hzX : hz (sfi S 5 (ntA S t) (fi S 5 (ntA S t) + 1)) = hz S := rfl
      have tzX : tz (sfi S 5 (ntA S t) (fi S 5 (ntA S t) + 1)) = tz S := rfl
      have moX : mono S (sfi S 5 (ntA S t) (fi S 5 (ntA S t) + 1)) := mono_sfi
      generalize sfi S 5 (ntA S t) (fi S 5 (ntA S t) + 1) = X at h frX arX anX fiX hzX tzX moX ⊢
      obtain ⟨x1, x2, x3, x4, x5, x6, x7⟩ := h
      refine add_core2 (S1 := X) eqv_write ⟨g1, g2, g3, g4, ⟨g5, g6, g7, g8⟩, g9, g10⟩ x1 x2 x3 x4 x6 x7 fiX (frX _ _) (frX _ _) ((anX _).trans g7) ?_ hk ?_ ?_ ?_ (fun k a _ _ => frX k a) moX
      · intro j hj
        rw [arX, g8 j hj]
        omega
      · rw [hzX, hl]
        rfl
      · rw [tzX, hl]
        rfl
      · rw [hzX, tzX]
        exact ⟨Nat.le_refl _, Nat.le_refl _⟩
  · rw [if_neg c]
    exact s1
end
section
set_option maxRecDepth 100000 in
theorem FAT_282 : fdOk RAT RAct RAct TAct 2 282 1 1 2 1 := ⟨⟨by decide, by decide, rfl, by decide, rfl, by decide⟩, iwAct, wT_in 126 (by decide +kernel) rfl, rfl⟩
set_option maxRecDepth 100000 in
theorem FAT_285 : fdOk RAT RAct RAct TAct 2 285 1 0 2 0 := ⟨⟨by decide, by decide, rfl, by decide, rfl, by decide⟩, iwAct, wT_in 124 (by decide +kernel) rfl, rfl⟩
set_option maxRecDepth 100000 in
theorem FAT_185 : fdOk RAT RAT RAT TAT 8 185 8 7 0 13 := ⟨⟨by decide, by decide, rfl, by decide, rfl, by decide⟩, iwAT, wT_in 79 (by decide +kernel) rfl, rfl⟩
set_option maxRecDepth 100000 in
theorem GAT_actSteps : fdPut TAT 8 7 (.int) false := ⟨rfl, tyAT_ok 7 (by decide), ⟨tyAT, tyAT_ok⟩, nmAT⟩
set_option maxRecDepth 100000 in
theorem CAT_188 : cV RAT 188 RAT yAT_makeStep cAT_makeStep 4 none 2 := ⟨⟨wT_in 322 (by decide +kernel) rfl, wT_in 324 (by decide +kernel) rfl, wT_in 5 (by decide +kernel) rfl, wT_in 25 (by decide +kernel) rfl⟩, wT_in 325 rfl rfl, by decide +kernel⟩
set_option maxRecDepth 100000 in
theorem FAT_234 : fdOk RAT RAlarm RAlarm TAlarm 7 234 2 4 1 0 := ⟨⟨by decide, by decide, rfl, by decide, rfl, by decide⟩, iwAlarm, wT_in 144 (by decide +kernel) rfl, rfl⟩
set_option maxRecDepth 100000 in
theorem FAT_235 : fdOk RAT RAlarm RAlarm TAlarm 7 235 2 0 0 0 := ⟨⟨by decide, by decide, rfl, by decide, rfl, by decide⟩, iwAlarm, wT_in 137 (by decide +kernel) rfl, rfl⟩
set_option maxRecDepth 100000 in
theorem FAT_238 : fdOk RAT RCounter RCounter TCounter 12 238 3 4 1 5 := ⟨⟨by decide, by decide, rfl, by decide, rfl, by decide⟩, iwCounter, wT_in 486 (by decide +kernel) rfl, rfl⟩
set_option maxRecDepth 100000 in
theorem CAT_241 : cV RAT 241 RNotes yNotes_add cNotes_add 8 none 4 := ⟨⟨wT_in 335 (by decide +kernel) rfl, wT_in 336 (by decide +kernel) rfl, wT_in 337 (by decide +kernel) rfl, wT_in 26 (by decide +kernel) rfl⟩, wT_in 338 rfl rfl, by decide +kernel⟩
set_option maxRecDepth 100000 in
theorem FAT_245 : fdOk RAT RAlarm RAlarm TAlarm 7 245 2 2 2 3 := ⟨⟨by decide, by decide, rfl, by decide, rfl, by decide⟩, iwAlarm, wT_in 141 (by decide +kernel) rfl, rfl⟩
set_option maxRecDepth 100000 in
theorem CAT_249 : cV RAT 249 RAT yAT_perform cAT_perform 3 none 2 := ⟨⟨wT_in 354 (by decide +kernel) rfl, wT_in 356 (by decide +kernel) rfl, wT_in 7 (by decide +kernel) rfl, wT_in 25 (by decide +kernel) rfl⟩, wT_in 357 rfl rfl, by decide +kernel⟩
set_option maxRecDepth 100000 in
theorem FAT_275 : fdOk RAT RTable RTable TTable 12 275 7 0 0 6 := ⟨⟨by decide, by decide, rfl, by decide, rfl, by decide⟩, iwTable, wT_in 206 (by decide +kernel) rfl, rfl⟩
end
section
def perform_S (S : HS) (t : Nat) (x : Nat) (dp : Int32) (rec : HS → Nat → HS) : HS :=
  opc (fr S 1 x) (opc (fr S 0 x) (S)
    (fun b_4 => if (20000 : Int32) ≤ (fi S 13 t) then
        S
      else
        if (20 : Int32) ≤ dp then
          S
        else
          (rec (sfi S 13 t ((fi S 13 t) + (1 : Int32))) b_4)))
  (fun b_2 => opc (fr S 0 x) ((sfi S 1 b_2 (0 : Int32)))
    (fun b_11 => if (20000 : Int32) ≤ (fi S 13 t) then
        (sfi S 1 b_2 (0 : Int32))
      else
        if (20 : Int32) ≤ dp then
          (sfi S 1 b_2 (0 : Int32))
        else
          (rec (sfi (sfi S 1 b_2 (0 : Int32)) 13 t ((fi S 13 t) + (1 : Int32))) b_11)))
set_option maxRecDepth 20000 in
set_option maxHeartbeats 2000000 in
theorem c_perform (l : Launch) (D : va_G) (AC : Nat → ClassId) (S : HS) (t : Nat) (x : Nat) (dp : Int32) (rec : HS → Nat → HS) (k : Nat) (k_t : kd S t = 8) (k_x : kd S x = 1) (hi : sInv S t) (hrec : ¬ (20 : Int32) ≤ dp → ∀ S1 c1, sInv S1 t → kd S1 c1 = 3 → CtV l yAT_makeStep (Cond.code yAT_makeStep cAT_makeStep 4 none :: wT) (8 + 5 * k) (200 + 92 * k) D AC S1 [.ref t, .ref c1, .int (dp + 1)] (phi S1 t) (psi S1 t) (fun S2 => S2 = rec S1 c1)) (hrr : ∀ S1 c1, sInv S1 t → kd S1 c1 = 3 → sRel t S1 (rec S1 c1)) : CtV l yAT_perform (Cond.code yAT_perform cAT_perform 3 none :: wT) (9 + 5 * k) (223 + 92 * k) D AC S [.ref t, .ref x, .int dp] (phi S t) (psi S t) (fun S' => S' = perform_S S t x dp rec) := by
  refine met_of (by decide) (Nat.le_of_ble_eq_true rfl) ?_
  intro p e s m below meth c ls hsz X hW hl
  obtain ⟨hx, hb, hml, hr, hlk, hown, hnm, hts⟩ := X
  have hl : lv_has ls 3 [(0, .ref t), (1, .ref x), (2, .int dp)] := hl
  have mo : mono S S := mono.rf S
  have sr : sRel t S S := sRel.rf hi
  have ht0 := hW.t
  refine lv_aload_n hx hb dAT_perform_0 rfl (lv_at hl 1 rfl) ?_
  have kq_1 : ∀ b, fr S 1 x = some b → kd S b = 2 := fun b h => hW.ok.2.1 1 x b k_x h
  refine g_q FAT_282 hx hb hts hown hW k_x dAT_perform_1 ?_
  refine q_ifnull (tgt := 15) hx hb dAT_perform_4 (by decide) (fun n_2 => ?_) (fun b_2 n_2 => ?_)
  · refine lv_aload_n hx hb dAT_perform_15 rfl (lv_at hl 1 rfl) ?_
    have kq_3 : ∀ b, fr S 0 x = some b → kd S b = 3 := fun b h => hW.ok.2.1 0 x b k_x h
    refine g_q FAT_285 hx hb hts hown hW k_x dAT_perform_16 ?_
    refine q_ifnull (tgt := 59) hx hb dAT_perform_19 (by decide) (fun n_4 => ?_) (fun b_4 n_4 => ?_)
    · exact e_v hsz hx hb hr hlk hW (mono.rf S) (by show _ ≤ phi S t; have z1 := sr.2.1; have z2 := sr.2.2.1; omega) (by show _ ≤ psi S t; have z1 := sr.2.1; have z2 := sr.2.2.1; omega) dAT_perform_59 ((by refine Eq.symm ?_; refine (op_none n_2).trans ?_; refine (op_none n_4).trans ?_; rfl))
    · have k_b_4 : kd S b_4 = 3 := kq_3 b_4 n_4
      refine lv_aload_n hx hb dAT_perform_22 rfl (lv_at hl 0 rfl) ?_
      refine g_i FAT_185 hx hb hts hown hW k_t dAT_perform_23 ?_
      refine lv_sipush (v := (20000 : Int32)) hx hb dAT_perform_26 (by decide) ?_
      refine lv_icmp_ge (tgt := 59) hx hb dAT_perform_29 (by decide) (fun c_5 => ?_) (fun c_5 => ?_)
      · exact e_v hsz hx hb hr hlk hW (mono.rf S) (by show _ ≤ phi S t; have z1 := sr.2.1; have z2 := sr.2.2.1; omega) (by show _ ≤ psi S t; have z1 := sr.2.1; have z2 := sr.2.2.1; omega) dAT_perform_59 ((by refine Eq.symm ?_; refine (op_none n_2).trans ?_; refine (op_some n_4).trans ?_; refine (if_pos c_5).trans ?_; rfl))
      · refine lv_iload_n hx hb dAT_perform_32 rfl (lv_at hl 2 rfl) ?_
        refine lv_bipush (v := (20 : Int32)) hx hb dAT_perform_33 (by decide) ?_
        refine lv_icmp_ge (tgt := 59) hx hb dAT_perform_35 (by decide) (fun c_6 => ?_) (fun c_6 => ?_)
        · exact e_v hsz hx hb hr hlk hW (mono.rf S) (by show _ ≤ phi S t; have z1 := sr.2.1; have z2 := sr.2.2.1; omega) (by show _ ≤ psi S t; have z1 := sr.2.1; have z2 := sr.2.2.1; omega) dAT_perform_59 ((by refine Eq.symm ?_; refine (op_none n_2).trans ?_; refine (op_some n_4).trans ?_; refine (if_neg c_5).trans ?_; refine (if_pos c_6).trans ?_; rfl))
        · refine lv_aload_n hx hb dAT_perform_38 rfl (lv_at hl 0 rfl) ?_
          refine lv_dup hx hb dAT_perform_39 rfl ?_
          refine g_i FAT_185 hx hb hts hown hW k_t dAT_perform_40 ?_
          refine lv_iconst (v := (1 : Int32)) hx hb dAT_perform_43 (by decide) ?_
          refine lv_iadd hx hb dAT_perform_44 ?_
          refine p_i FAT_185 GAT_actSteps (fun h => by cases h) hx hb hts hown hW k_t rfl rfl dAT_perform_45 (fun H locs hW => ?_)
          have mo := mo.tr (mono_sfi (k := 13) (a := t) (v := ((fi S 13 t) + (1 : Int32))))
          have sr : sRel t S (sfi S 13 t ((fi S 13 t) + (1 : Int32))) := sr.tr (sRel_sfi (by decide) sr.1)
          refine W.tight (k := hz (sfi S 13 t ((fi S 13 t) + (1 : Int32))) - hz S) (n := tz (sfi S 13 t ((fi S 13 t) + (1 : Int32))) - tz S) (by rw [hW.z, hsz]; have := sr.2.2.1.1; omega) (by rw [hW.t, ht0]; have := sr.2.2.1.2; omega) ?_
          have nnp_7 : nn (sfi S 13 t ((fi S 13 t) + (1 : Int32))) := nn_sfi hi.2.2.1
          refine lv_aload_n hx hb dAT_perform_48 rfl (lv_at hl 0 rfl) ?_
          refine lv_aload_n hx hb dAT_perform_49 rfl (lv_at hl 1 rfl) ?_
          refine g_q FAT_285 hx hb hts hown hW k_x dAT_perform_50 ?_
          rw [show fr (sfi S 13 t ((fi S 13 t) + (1 : Int32))) 0 x = fr S 0 x from rfl]
          refine lv_iload_n hx hb dAT_perform_53 rfl (lv_at hl 2 rfl) ?_
          refine lv_iconst (v := (1 : Int32)) hx hb dAT_perform_54 (by decide) ?_
          refine lv_iadd hx hb dAT_perform_55 ?_
          refine q_some1 n_4 ?_
          refine k_Vv (As := [.ref b_4, .int (dp + (1 : Int32))]) (rest := []) (hrec c_6 (sfi S 13 t ((fi S 13 t) + (1 : Int32))) b_4 sr.1 k_b_4) CAT_188 ⟨by decide, by decide, _, rfl, rfl⟩ hx hb hml hown hts hW k_t hl.1 rfl rfl (Nat.le_of_ble_eq_true rfl) ⟨⟨by show _ ≤ (9 + 5 * k); omega, by show _ ≤ (223 + 92 * k); omega⟩, ⟨by show _ ≤ phi S t; have z1 := sr.2.1; have z2 := sr.2.2.1; omega, by show _ ≤ psi S t; have z1 := sr.2.1; have z2 := sr.2.2.1; omega⟩⟩ dAT_perform_56 (fun S_8 H locs e_8 hW m_8 _ => ?_)
          rw [e_8] at hW m_8
          have sr := sr.tr (hrr _ _ sr.1 k_b_4)
          have k_t := m_8.k k_t (by decide)
          have k_x := m_8.k k_x (by decide)
          have k_b_4 := m_8.k k_b_4 (by decide)
          have kq_1 := fun b h => m_8.k (kq_1 b h) (by decide)
          have kq_3 := fun b h => m_8.k (kq_3 b h) (by decide)
          have mo := mo.tr m_8
          refine W.tight (k := hz (rec (sfi S 13 t ((fi S 13 t) + (1 : Int32))) b_4) - hz S) (n := tz (rec (sfi S 13 t ((fi S 13 t) + (1 : Int32))) b_4) - tz S) (by rw [hW.z, hsz]; have := sr.2.2.1.1; omega) (by rw [hW.t, ht0]; have := sr.2.2.1.2; omega) ?_
          exact e_v hsz hx hb hr hlk hW (mo) (by show _ ≤ phi S t; have z1 := sr.2.1; have z2 := sr.2.2.1; omega) (by show _ ≤ psi S t; have z1 := sr.2.1; have z2 := sr.2.2.1; omega) dAT_perform_59 ((by refine Eq.symm ?_; refine (op_none n_2).trans ?_; refine (op_some n_4).trans ?_; refine (if_neg c_5).trans ?_; refine (if_neg c_6).trans ?_; rfl))
  · have k_b_2 : kd S b_2 = 2 := kq_1 b_2 n_2
    refine lv_aload_n hx hb dAT_perform_7 rfl (lv_at hl 1 rfl) ?_
    refine g_q FAT_282 hx hb hts hown hW k_x dAT_perform_8 ?_
    refine lv_iconst (v := (0 : Int32)) hx hb dAT_perform_11 (by decide) ?_
    refine q_some1 n_2 ?_
    refine p_i FAT_87 GAlarm_isSet (fun h => by cases h) hx hb hts hown hW k_b_2 rfl rfl dAT_perform_12 (fun H locs hW => ?_)
    have mo := mo.tr (mono_sfi (k := 1) (a := b_2) (v := (0 : Int32)))
    have sr : sRel t S (sfi S 1 b_2 (0 : Int32)) := sr.tr (sRel_sfi (by decide) sr.1)
    refine W.tight (k := hz (sfi S 1 b_2 (0 : Int32)) - hz S) (n := tz (sfi S 1 b_2 (0 : Int32)) - tz S) (by rw [hW.z, hsz]; have := sr.2.2.1.1; omega) (by rw [hW.t, ht0]; have := sr.2.2.1.2; omega) ?_
    have nnp_9 : nn (sfi S 1 b_2 (0 : Int32)) := nn_sfi hi.2.2.1
    refine lv_aload_n hx hb dAT_perform_15 rfl (lv_at hl 1 rfl) ?_
    have kq_10 : ∀ b, fr S 0 x = some b → kd (sfi S 1 b_2 (0 : Int32)) b = 3 := fun b h => hW.ok.2.1 0 x b k_x h
    refine g_q FAT_285 hx hb hts hown hW k_x dAT_perform_16 ?_
    rw [show fr (sfi S 1 b_2 (0 : Int32)) 0 x = fr S 0 x from rfl]
    refine q_ifnull (tgt := 59) hx hb dAT_perform_19 (by decide) (fun n_11 => ?_) (fun b_11 n_11 => ?_)
    · exact e_v hsz hx hb hr hlk hW (mo) (by show _ ≤ phi S t; have z1 := sr.2.1; have z2 := sr.2.2.1; omega) (by show _ ≤ psi S t; have z1 := sr.2.1; have z2 := sr.2.2.1; omega) dAT_perform_59 ((by refine Eq.symm ?_; refine (op_some n_2).trans ?_; refine (op_none n_11).trans ?_; rfl))
    · have k_b_11 : kd (sfi S 1 b_2 (0 : Int32)) b_11 = 3 := kq_10 b_11 n_11
      refine lv_aload_n hx hb dAT_perform_22 rfl (lv_at hl 0 rfl) ?_
      refine g_i FAT_185 hx hb hts hown hW k_t dAT_perform_23 ?_
      rw [show fi (sfi S 1 b_2 (0 : Int32)) 13 t = fi S 13 t from rfl]
      refine lv_sipush (v := (20000 : Int32)) hx hb dAT_perform_26 (by decide) ?_
      refine lv_icmp_ge (tgt := 59) hx hb dAT_perform_29 (by decide) (fun c_12 => ?_) (fun c_12 => ?_)
      · exact e_v hsz hx hb hr hlk hW (mo) (by show _ ≤ phi S t; have z1 := sr.2.1; have z2 := sr.2.2.1; omega) (by show _ ≤ psi S t; have z1 := sr.2.1; have z2 := sr.2.2.1; omega) dAT_perform_59 ((by refine Eq.symm ?_; refine (op_some n_2).trans ?_; refine (op_some n_11).trans ?_; refine (if_pos c_12).trans ?_; rfl))
      · refine lv_iload_n hx hb dAT_perform_32 rfl (lv_at hl 2 rfl) ?_
        refine lv_bipush (v := (20 : Int32)) hx hb dAT_perform_33 (by decide) ?_
        refine lv_icmp_ge (tgt := 59) hx hb dAT_perform_35 (by decide) (fun c_13 => ?_) (fun c_13 => ?_)
        · exact e_v hsz hx hb hr hlk hW (mo) (by show _ ≤ phi S t; have z1 := sr.2.1; have z2 := sr.2.2.1; omega) (by show _ ≤ psi S t; have z1 := sr.2.1; have z2 := sr.2.2.1; omega) dAT_perform_59 ((by refine Eq.symm ?_; refine (op_some n_2).trans ?_; refine (op_some n_11).trans ?_; refine (if_neg c_12).trans ?_; refine (if_pos c_13).trans ?_; rfl))
        · refine lv_aload_n hx hb dAT_perform_38 rfl (lv_at hl 0 rfl) ?_
          refine lv_dup hx hb dAT_perform_39 rfl ?_
          refine g_i FAT_185 hx hb hts hown hW k_t dAT_perform_40 ?_
          rw [show fi (sfi S 1 b_2 (0 : Int32)) 13 t = fi S 13 t from rfl]
          refine lv_iconst (v := (1 : Int32)) hx hb dAT_perform_43 (by decide) ?_
          refine lv_iadd hx hb dAT_perform_44 ?_
          refine p_i FAT_185 GAT_actSteps (fun h => by cases h) hx hb hts hown hW k_t rfl rfl dAT_perform_45 (fun H locs hW => ?_)
          have mo := mo.tr (mono_sfi (k := 13) (a := t) (v := ((fi S 13 t) + (1 : Int32))))
          have sr : sRel t S (sfi (sfi S 1 b_2 (0 : Int32)) 13 t ((fi S 13 t) + (1 : Int32))) := sr.tr (sRel_sfi (by decide) sr.1)
          refine W.tight (k := hz (sfi (sfi S 1 b_2 (0 : Int32)) 13 t ((fi S 13 t) + (1 : Int32))) - hz S) (n := tz (sfi (sfi S 1 b_2 (0 : Int32)) 13 t ((fi S 13 t) + (1 : Int32))) - tz S) (by rw [hW.z, hsz]; have := sr.2.2.1.1; omega) (by rw [hW.t, ht0]; have := sr.2.2.1.2; omega) ?_
          have nnp_14 : nn (sfi (sfi S 1 b_2 (0 : Int32)) 13 t ((fi S 13 t) + (1 : Int32))) := nn_sfi nnp_9
          refine lv_aload_n hx hb dAT_perform_48 rfl (lv_at hl 0 rfl) ?_
          refine lv_aload_n hx hb dAT_perform_49 rfl (lv_at hl 1 rfl) ?_
          refine g_q FAT_285 hx hb hts hown hW k_x dAT_perform_50 ?_
          rw [show fr (sfi (sfi S 1 b_2 (0 : Int32)) 13 t ((fi S 13 t) + (1 : Int32))) 0 x = fr S 0 x from rfl]
          refine lv_iload_n hx hb dAT_perform_53 rfl (lv_at hl 2 rfl) ?_
          refine lv_iconst (v := (1 : Int32)) hx hb dAT_perform_54 (by decide) ?_
          refine lv_iadd hx hb dAT_perform_55 ?_
          refine q_some1 n_11 ?_
          refine k_Vv (As := [.ref b_11, .int (dp + (1 : Int32))]) (rest := []) (hrec c_13 (sfi (sfi S 1 b_2 (0 : Int32)) 13 t ((fi S 13 t) + (1 : Int32))) b_11 sr.1 k_b_11) CAT_188 ⟨by decide, by decide, _, rfl, rfl⟩ hx hb hml hown hts hW k_t hl.1 rfl rfl (Nat.le_of_ble_eq_true rfl) ⟨⟨by show _ ≤ (9 + 5 * k); omega, by show _ ≤ (223 + 92 * k); omega⟩, ⟨by show _ ≤ phi S t; have z1 := sr.2.1; have z2 := sr.2.2.1; omega, by show _ ≤ psi S t; have z1 := sr.2.1; have z2 := sr.2.2.1; omega⟩⟩ dAT_perform_56 (fun S_15 H locs e_15 hW m_15 _ => ?_)
          rw [e_15] at hW m_15
          have sr := sr.tr (hrr _ _ sr.1 k_b_11)
          have k_t := m_15.k k_t (by decide)
          have k_x := m_15.k k_x (by decide)
          have k_b_2 := m_15.k k_b_2 (by decide)
          have k_b_11 := m_15.k k_b_11 (by decide)
          have kq_1 := fun b h => m_15.k (kq_1 b h) (by decide)
          have kq_10 := fun b h => m_15.k (kq_10 b h) (by decide)
          have mo := mo.tr m_15
          refine W.tight (k := hz (rec (sfi (sfi S 1 b_2 (0 : Int32)) 13 t ((fi S 13 t) + (1 : Int32))) b_11) - hz S) (n := tz (rec (sfi (sfi S 1 b_2 (0 : Int32)) 13 t ((fi S 13 t) + (1 : Int32))) b_11) - tz S) (by rw [hW.z, hsz]; have := sr.2.2.1.1; omega) (by rw [hW.t, ht0]; have := sr.2.2.1.2; omega) ?_
          exact e_v hsz hx hb hr hlk hW (mo) (by show _ ≤ phi S t; have z1 := sr.2.1; have z2 := sr.2.2.1; omega) (by show _ ≤ psi S t; have z1 := sr.2.1; have z2 := sr.2.2.1; omega) dAT_perform_59 ((by refine Eq.symm ?_; refine (op_some n_2).trans ?_; refine (op_some n_11).trans ?_; refine (if_neg c_12).trans ?_; refine (if_neg c_13).trans ?_; rfl))

theorem sRel_perform {S : HS} {t x : Nat} {dp : Int32} {rec : HS → Nat → HS} (hrr : ∀ S1 c1, sInv S1 t → kd S1 c1 = 3 → sRel t S1 (rec S1 c1)) (h : sInv S t) (k_x : kd S x = 1) : sRel t S (perform_S S t x dp rec) := by
  have hc : ∀ c, fr S 0 x = some c → kd S c = 3 := fun c hc => h.1.1.2.1 0 x c k_x hc
  have key : ∀ (S1 : HS) (c : Nat) (v : Int32), sRel t S S1 → kd S1 c = 3 → sRel t S (if (20000 : Int32) ≤ fi S 13 t then S1 else if (20 : Int32) ≤ dp then S1 else rec (sfi S1 13 t v) c) := by
    intro S1 c v s1 kc
    have s2 := s1.tr (sRel_sfi (k := 13) (a := t) (v := v) (by decide) s1.1)
    exact ite_P (P := sRel t S) s1 (ite_P (P := sRel t S) s1 (s2.tr (hrr _ _ s2.1 kc)))
  unfold perform_S
  refine opc_P (P := sRel t S) (fun _ => ?_) (fun b _ => ?_)
  · exact opc_P (P := sRel t S) (fun _ => sRel.rf h) (fun c hcc => key S c _ (sRel.rf h) (hc c hcc))
  · have s1 : sRel t S (sfi S 1 b 0) := sRel_sfi (by decide) h
    exact opc_P (P := sRel t S) (fun _ => s1) (fun c hcc => key (sfi S 1 b 0) c _ s1 (hc c hcc))

def takeAlarmTurn_S (S : HS) (t : Nat) (a : Nat) (dp : Int32) (rec : HS → Nat → HS) : HS :=
  if (fi S 1 a) = 0 then
    S
  else
    if (fl S 0 a) = (fl S 6 (gd (fr S 2 a))) then
      if (fl (add_S S (gd (fr S 21 t)) (0 : Int32) (fi S 0 a) (0 : Int64) (fl S 5 (gd (fr S 2 a)))) 1 a) = (0 : Int64) then
        (perform_S (sfi (add_S S (gd (fr S 21 t)) (0 : Int32) (fi S 0 a) (0 : Int64) (fl S 5 (gd (fr S 2 a)))) 1 a (0 : Int32)) t (gd (fr (add_S S (gd (fr S 21 t)) (0 : Int32) (fi S 0 a) (0 : Int64) (fl S 5 (gd (fr S 2 a)))) 3 a)) dp rec)
      else
        (perform_S (becomeDue_S (add_S S (gd (fr S 21 t)) (0 : Int32) (fi S 0 a) (0 : Int64) (fl S 5 (gd (fr S 2 a)))) a (fl (add_S S (gd (fr S 21 t)) (0 : Int32) (fi S 0 a) (0 : Int64) (fl S 5 (gd (fr S 2 a)))) 1 a)) t (gd (fr (becomeDue_S (add_S S (gd (fr S 21 t)) (0 : Int32) (fi S 0 a) (0 : Int64) (fl S 5 (gd (fr S 2 a)))) a (fl (add_S S (gd (fr S 21 t)) (0 : Int32) (fi S 0 a) (0 : Int64) (fl S 5 (gd (fr S 2 a)))) 1 a)) 3 a)) dp rec)
    else
      (wakeAt_S S (gd (fr S 2 a)) (fl S 0 a))
set_option maxRecDepth 20000 in
set_option maxHeartbeats 2000000 in
theorem c_takeAlarmTurn (l : Launch) (D : va_G) (AC : Nat → ClassId) (S : HS) (t : Nat) (a : Nat) (dp : Int32) (rec : HS → Nat → HS) (k : Nat) (k_t : kd S t = 8) (k_a : kd S a = 2) (hi : sInv S t) (hrec : ¬ (20 : Int32) ≤ dp → ∀ S1 c1, sInv S1 t → kd S1 c1 = 3 → CtV l yAT_makeStep (Cond.code yAT_makeStep cAT_makeStep 4 none :: wT) (8 + 5 * k) (200 + 92 * k) D AC S1 [.ref t, .ref c1, .int (dp + 1)] (phi S1 t) (psi S1 t) (fun S2 => S2 = rec S1 c1)) (hrr : ∀ S1 c1, sInv S1 t → kd S1 c1 = 3 → sRel t S1 (rec S1 c1)) : CtV l yAT_takeAlarmTurn (Cond.code yAT_takeAlarmTurn cAT_takeAlarmTurn 3 none :: wT) (10 + 5 * k) (245 + 92 * k) D AC S [.ref t, .ref a, .int dp] (phi S t) (psi S t) (fun S' => S' = takeAlarmTurn_S S t a dp rec) := by
  refine met_of (by decide) (Nat.le_of_ble_eq_true rfl) ?_
  intro p e s m below meth c ls hsz X hW hl
  obtain ⟨hx, hb, hml, hr, hlk, hown, hnm, hts⟩ := X
  have hl : lv_has ls 3 [(0, .ref t), (1, .ref a), (2, .int dp)] := hl
  have mo : mono S S := mono.rf S
  have sr : sRel t S S := sRel.rf hi
  have ht0 := hW.t
  refine lv_aload_n hx hb dAT_takeAlarmTurn_0 rfl (lv_at hl 1 rfl) ?_
  refine g_i FAT_87 hx hb hts hown hW k_a dAT_takeAlarmTurn_1 ?_
  refine lv_if_ne (tgt := 8) hx hb dAT_takeAlarmTurn_4 (by decide) (fun c_1 => ?_) (fun c_1 => ?_)
  · refine lv_aload_n hx hb dAT_takeAlarmTurn_8 rfl (lv_at hl 1 rfl) ?_
    refine g_l FAT_234 hx hb hts hown hW k_a dAT_takeAlarmTurn_9 ?_
    refine lv_aload_n hx hb dAT_takeAlarmTurn_12 rfl (lv_at hl 1 rfl) ?_
    have kq_2 : ∀ b, fr S 2 a = some b → kd S b = 3 := fun b h => hW.ok.2.1 2 a b k_a h
    refine g_q FAT_91 hx hb hts hown hW k_a dAT_takeAlarmTurn_13 ?_
    have n_3 : fr S 2 a = some (gd (fr S 2 a)) := gd_some (hi.2.2.1 2 a rfl k_a)
    have kb_4 : kd S (gd (fr S 2 a)) = 3 := kq_2 (gd (fr S 2 a)) n_3
    refine q_some n_3 ?_
    refine g_l FAT_154 hx hb hts hown hW kb_4 dAT_takeAlarmTurn_16 ?_
    refine ll_eq (tgt := 35) hx hb dAT_takeAlarmTurn_19 dAT_takeAlarmTurn_20 (by decide) (fun c_5 => ?_) (fun c_5 => ?_)
    · refine lv_aload_n hx hb dAT_takeAlarmTurn_35 rfl (lv_at hl 0 rfl) ?_
      have kq_6 : ∀ b, fr S 21 t = some b → kd S b = 4 := fun b h => hW.ok.2.1 21 t b k_t h
      refine g_q FAT_30 hx hb hts hown hW k_t dAT_takeAlarmTurn_36 ?_
      refine lv_iconst (v := (0 : Int32)) hx hb dAT_takeAlarmTurn_39 (by decide) ?_
      refine lv_aload_n hx hb dAT_takeAlarmTurn_40 rfl (lv_at hl 1 rfl) ?_
      refine g_i FAT_235 hx hb hts hown hW k_a dAT_takeAlarmTurn_41 ?_
      refine lv_lconst (v := (0 : Int64)) hx hb dAT_takeAlarmTurn_44 (by decide) ?_
      refine lv_aload_n hx hb dAT_takeAlarmTurn_45 rfl (lv_at hl 1 rfl) ?_
      refine g_q FAT_91 hx hb hts hown hW k_a dAT_takeAlarmTurn_46 ?_
      refine q_some n_3 ?_
      refine g_l FAT_238 hx hb hts hown hW kb_4 dAT_takeAlarmTurn_49 ?_
      have n_7 : fr S 21 t = some (gd (fr S 21 t)) := gd_some (hi.2.2.1 21 t rfl k_t)
      have kb_8 : kd S (gd (fr S 21 t)) = 4 := kq_6 (gd (fr S 21 t)) n_7
      refine q_some4 n_7 ?_
      refine k_Vv (As := [.int (0 : Int32), .int (fi S 0 a), .long (0 : Int64), .long (fl S 5 (gd (fr S 2 a)))]) (rest := []) (c_add l D AC S (gd (fr S 21 t)) (0 : Int32) (fi S 0 a) (0 : Int64) (fl S 5 (gd (fr S 2 a))) kb_8 sr.1.2.2.1 sr.1.2.2.2.2.1.1 sr.1.2.2.2.2.1.2.1 sr.1.2.2.2.2.1.2.2.1 sr.1.2.2.2.1) CAT_241 ⟨by decide, by decide, _, rfl, rfl⟩ hx hb hml hown hts hW kb_8 hl.1 rfl rfl (Nat.le_of_ble_eq_true rfl) ⟨⟨by show _ ≤ (10 + 5 * k); omega, by show _ ≤ (245 + 92 * k); omega⟩, ⟨by show _ ≤ phi S t; have z1 := sr.2.1; have z2 := sr.2.2.1; have z3 : addC S (gd (fr S 21 t)) ≤ phi S t ∧ addM S (gd (fr S 21 t)) ≤ psi S t := addC_le sr.1; omega, by show _ ≤ psi S t; have z1 := sr.2.1; have z2 := sr.2.2.1; have z3 : addC S (gd (fr S 21 t)) ≤ phi S t ∧ addM S (gd (fr S 21 t)) ≤ psi S t := addC_le sr.1; omega⟩⟩ dAT_takeAlarmTurn_52 (fun S_9 H locs e_9 hW m_9 _ => ?_)
      rw [e_9] at hW m_9
      have sr : sRel t S (add_S S (gd (fr S 21 t)) (0 : Int32) (fi S 0 a) (0 : Int64) (fl S 5 (gd (fr S 2 a)))) := sr.tr (sRel_add sr.1)
      have k_t := m_9.k k_t (by decide)
      have k_a := m_9.k k_a (by decide)
      have kb_4 := m_9.k kb_4 (by decide)
      have kb_8 := m_9.k kb_8 (by decide)
      have kq_2 := fun b h => m_9.k (kq_2 b h) (by decide)
      have kq_6 := fun b h => m_9.k (kq_6 b h) (by decide)
      have mo := mo.tr m_9
      refine W.tight (k := hz (add_S S (gd (fr S 21 t)) (0 : Int32) (fi S 0 a) (0 : Int64) (fl S 5 (gd (fr S 2 a)))) - hz S) (n := tz (add_S S (gd (fr S 21 t)) (0 : Int32) (fi S 0 a) (0 : Int64) (fl S 5 (gd (fr S 2 a)))) - tz S) (by rw [hW.z, hsz]; have := sr.2.2.1.1; omega) (by rw [hW.t, ht0]; have := sr.2.2.1.2; omega) ?_
      have nnp_10 : nn (add_S S (gd (fr S 21 t)) (0 : Int32) (fi S 0 a) (0 : Int64) (fl S 5 (gd (fr S 2 a)))) := sr.1.2.2.1
      refine lv_aload_n hx hb dAT_takeAlarmTurn_55 rfl (lv_at hl 1 rfl) ?_
      refine g_l FAT_101 hx hb hts hown hW k_a dAT_takeAlarmTurn_56 ?_
      refine lv_lconst (v := (0 : Int64)) hx hb dAT_takeAlarmTurn_59 (by decide) ?_
      refine ll_ne (tgt := 72) hx hb dAT_takeAlarmTurn_60 dAT_takeAlarmTurn_61 (by decide) (fun c_11 => ?_) (fun c_11 => ?_)
      · refine lv_aload_n hx hb dAT_takeAlarmTurn_72 rfl (lv_at hl 1 rfl) ?_
        refine lv_aload_n hx hb dAT_takeAlarmTurn_73 rfl (lv_at hl 1 rfl) ?_
        refine g_l FAT_101 hx hb hts hown hW k_a dAT_takeAlarmTurn_74 ?_
        refine k_Vv (As := [.long (fl (add_S S (gd (fr S 21 t)) (0 : Int32) (fi S 0 a) (0 : Int64) (fl S 5 (gd (fr S 2 a)))) 1 a)]) (rest := []) (c_becomeDue l D AC (add_S S (gd (fr S 21 t)) (0 : Int32) (fi S 0 a) (0 : Int64) (fl S 5 (gd (fr S 2 a)))) a (fl (add_S S (gd (fr S 21 t)) (0 : Int32) (fi S 0 a) (0 : Int64) (fl S 5 (gd (fr S 2 a)))) 1 a) k_a sr.1.2.2.1) CAT_108 ⟨by decide, by decide, _, rfl, rfl⟩ hx hb hml hown hts hW k_a hl.1 rfl rfl (Nat.le_of_ble_eq_true rfl) ⟨⟨by show _ ≤ (10 + 5 * k); omega, by show _ ≤ (245 + 92 * k); omega⟩, ⟨by show _ ≤ phi S t; have z1 := sr.2.1; have z2 := sr.2.2.1; omega, by show _ ≤ psi S t; have z1 := sr.2.1; have z2 := sr.2.2.1; omega⟩⟩ dAT_takeAlarmTurn_77 (fun S_12 H locs e_12 hW m_12 _ => ?_)
        rw [e_12] at hW m_12
        have sr : sRel t S (becomeDue_S (add_S S (gd (fr S 21 t)) (0 : Int32) (fi S 0 a) (0 : Int64) (fl S 5 (gd (fr S 2 a)))) a (fl (add_S S (gd (fr S 21 t)) (0 : Int32) (fi S 0 a) (0 : Int64) (fl S 5 (gd (fr S 2 a)))) 1 a)) := sr.tr (sRel_becomeDue sr.1)
        have k_t := m_12.k k_t (by decide)
        have k_a := m_12.k k_a (by decide)
        have kb_4 := m_12.k kb_4 (by decide)
        have kb_8 := m_12.k kb_8 (by decide)
        have kq_2 := fun b h => m_12.k (kq_2 b h) (by decide)
        have kq_6 := fun b h => m_12.k (kq_6 b h) (by decide)
        have mo := mo.tr m_12
        refine W.tight (k := hz (becomeDue_S (add_S S (gd (fr S 21 t)) (0 : Int32) (fi S 0 a) (0 : Int64) (fl S 5 (gd (fr S 2 a)))) a (fl (add_S S (gd (fr S 21 t)) (0 : Int32) (fi S 0 a) (0 : Int64) (fl S 5 (gd (fr S 2 a)))) 1 a)) - hz S) (n := tz (becomeDue_S (add_S S (gd (fr S 21 t)) (0 : Int32) (fi S 0 a) (0 : Int64) (fl S 5 (gd (fr S 2 a)))) a (fl (add_S S (gd (fr S 21 t)) (0 : Int32) (fi S 0 a) (0 : Int64) (fl S 5 (gd (fr S 2 a)))) 1 a)) - tz S) (by rw [hW.z, hsz]; have := sr.2.2.1.1; omega) (by rw [hW.t, ht0]; have := sr.2.2.1.2; omega) ?_
        have nnp_13 : nn (becomeDue_S (add_S S (gd (fr S 21 t)) (0 : Int32) (fi S 0 a) (0 : Int64) (fl S 5 (gd (fr S 2 a)))) a (fl (add_S S (gd (fr S 21 t)) (0 : Int32) (fi S 0 a) (0 : Int64) (fl S 5 (gd (fr S 2 a)))) 1 a)) := sr.1.2.2.1
        refine lv_aload_n hx hb dAT_takeAlarmTurn_80 rfl (lv_at hl 0 rfl) ?_
        refine lv_aload_n hx hb dAT_takeAlarmTurn_81 rfl (lv_at hl 1 rfl) ?_
        have kq_14 : ∀ b, fr (becomeDue_S (add_S S (gd (fr S 21 t)) (0 : Int32) (fi S 0 a) (0 : Int64) (fl S 5 (gd (fr S 2 a)))) a (fl (add_S S (gd (fr S 21 t)) (0 : Int32) (fi S 0 a) (0 : Int64) (fl S 5 (gd (fr S 2 a)))) 1 a)) 3 a = some b → kd (becomeDue_S (add_S S (gd (fr S 21 t)) (0 : Int32) (fi S 0 a) (0 : Int64) (fl S 5 (gd (fr S 2 a)))) a (fl (add_S S (gd (fr S 21 t)) (0 : Int32) (fi S 0 a) (0 : Int64) (fl S 5 (gd (fr S 2 a)))) 1 a)) b = 1 := fun b h => hW.ok.2.1 3 a b k_a h
        refine g_q FAT_245 hx hb hts hown hW k_a dAT_takeAlarmTurn_82 ?_
        refine lv_iload_n hx hb dAT_takeAlarmTurn_85 rfl (lv_at hl 2 rfl) ?_
        have n_15 : fr (becomeDue_S (add_S S (gd (fr S 21 t)) (0 : Int32) (fi S 0 a) (0 : Int64) (fl S 5 (gd (fr S 2 a)))) a (fl (add_S S (gd (fr S 21 t)) (0 : Int32) (fi S 0 a) (0 : Int64) (fl S 5 (gd (fr S 2 a)))) 1 a)) 3 a = some (gd (fr (becomeDue_S (add_S S (gd (fr S 21 t)) (0 : Int32) (fi S 0 a) (0 : Int64) (fl S 5 (gd (fr S 2 a)))) a (fl (add_S S (gd (fr S 21 t)) (0 : Int32) (fi S 0 a) (0 : Int64) (fl S 5 (gd (fr S 2 a)))) 1 a)) 3 a)) := gd_some (nnp_13 3 a rfl k_a)
        have kb_16 : kd (becomeDue_S (add_S S (gd (fr S 21 t)) (0 : Int32) (fi S 0 a) (0 : Int64) (fl S 5 (gd (fr S 2 a)))) a (fl (add_S S (gd (fr S 21 t)) (0 : Int32) (fi S 0 a) (0 : Int64) (fl S 5 (gd (fr S 2 a)))) 1 a)) (gd (fr (becomeDue_S (add_S S (gd (fr S 21 t)) (0 : Int32) (fi S 0 a) (0 : Int64) (fl S 5 (gd (fr S 2 a)))) a (fl (add_S S (gd (fr S 21 t)) (0 : Int32) (fi S 0 a) (0 : Int64) (fl S 5 (gd (fr S 2 a)))) 1 a)) 3 a)) = 1 := kq_14 (gd (fr (becomeDue_S (add_S S (gd (fr S 21 t)) (0 : Int32) (fi S 0 a) (0 : Int64) (fl S 5 (gd (fr S 2 a)))) a (fl (add_S S (gd (fr S 21 t)) (0 : Int32) (fi S 0 a) (0 : Int64) (fl S 5 (gd (fr S 2 a)))) 1 a)) 3 a)) n_15
        refine q_some1 n_15 ?_
        refine k_Vv (As := [.ref (gd (fr (becomeDue_S (add_S S (gd (fr S 21 t)) (0 : Int32) (fi S 0 a) (0 : Int64) (fl S 5 (gd (fr S 2 a)))) a (fl (add_S S (gd (fr S 21 t)) (0 : Int32) (fi S 0 a) (0 : Int64) (fl S 5 (gd (fr S 2 a)))) 1 a)) 3 a)), .int dp]) (rest := []) (c_perform l D AC (becomeDue_S (add_S S (gd (fr S 21 t)) (0 : Int32) (fi S 0 a) (0 : Int64) (fl S 5 (gd (fr S 2 a)))) a (fl (add_S S (gd (fr S 21 t)) (0 : Int32) (fi S 0 a) (0 : Int64) (fl S 5 (gd (fr S 2 a)))) 1 a)) t (gd (fr (becomeDue_S (add_S S (gd (fr S 21 t)) (0 : Int32) (fi S 0 a) (0 : Int64) (fl S 5 (gd (fr S 2 a)))) a (fl (add_S S (gd (fr S 21 t)) (0 : Int32) (fi S 0 a) (0 : Int64) (fl S 5 (gd (fr S 2 a)))) 1 a)) 3 a)) dp rec k k_t kb_16 sr.1 hrec hrr) CAT_249 ⟨by decide, by decide, _, rfl, rfl⟩ hx hb hml hown hts hW k_t hl.1 rfl rfl (Nat.le_of_ble_eq_true rfl) ⟨⟨by show _ ≤ (10 + 5 * k); omega, by show _ ≤ (245 + 92 * k); omega⟩, ⟨by show _ ≤ phi S t; have z1 := sr.2.1; have z2 := sr.2.2.1; omega, by show _ ≤ psi S t; have z1 := sr.2.1; have z2 := sr.2.2.1; omega⟩⟩ dAT_takeAlarmTurn_86 (fun S_17 H locs e_17 hW m_17 _ => ?_)
        rw [e_17] at hW m_17
        have sr : sRel t S (perform_S (becomeDue_S (add_S S (gd (fr S 21 t)) (0 : Int32) (fi S 0 a) (0 : Int64) (fl S 5 (gd (fr S 2 a)))) a (fl (add_S S (gd (fr S 21 t)) (0 : Int32) (fi S 0 a) (0 : Int64) (fl S 5 (gd (fr S 2 a)))) 1 a)) t (gd (fr (becomeDue_S (add_S S (gd (fr S 21 t)) (0 : Int32) (fi S 0 a) (0 : Int64) (fl S 5 (gd (fr S 2 a)))) a (fl (add_S S (gd (fr S 21 t)) (0 : Int32) (fi S 0 a) (0 : Int64) (fl S 5 (gd (fr S 2 a)))) 1 a)) 3 a)) dp rec) := sr.tr (sRel_perform hrr sr.1 kb_16)
        have k_t := m_17.k k_t (by decide)
        have k_a := m_17.k k_a (by decide)
        have kb_4 := m_17.k kb_4 (by decide)
        have kb_8 := m_17.k kb_8 (by decide)
        have kb_16 := m_17.k kb_16 (by decide)
        have kq_2 := fun b h => m_17.k (kq_2 b h) (by decide)
        have kq_6 := fun b h => m_17.k (kq_6 b h) (by decide)
        have kq_14 := fun b h => m_17.k (kq_14 b h) (by decide)
        have mo := mo.tr m_17
        refine W.tight (k := hz (perform_S (becomeDue_S (add_S S (gd (fr S 21 t)) (0 : Int32) (fi S 0 a) (0 : Int64) (fl S 5 (gd (fr S 2 a)))) a (fl (add_S S (gd (fr S 21 t)) (0 : Int32) (fi S 0 a) (0 : Int64) (fl S 5 (gd (fr S 2 a)))) 1 a)) t (gd (fr (becomeDue_S (add_S S (gd (fr S 21 t)) (0 : Int32) (fi S 0 a) (0 : Int64) (fl S 5 (gd (fr S 2 a)))) a (fl (add_S S (gd (fr S 21 t)) (0 : Int32) (fi S 0 a) (0 : Int64) (fl S 5 (gd (fr S 2 a)))) 1 a)) 3 a)) dp rec) - hz S) (n := tz (perform_S (becomeDue_S (add_S S (gd (fr S 21 t)) (0 : Int32) (fi S 0 a) (0 : Int64) (fl S 5 (gd (fr S 2 a)))) a (fl (add_S S (gd (fr S 21 t)) (0 : Int32) (fi S 0 a) (0 : Int64) (fl S 5 (gd (fr S 2 a)))) 1 a)) t (gd (fr (becomeDue_S (add_S S (gd (fr S 21 t)) (0 : Int32) (fi S 0 a) (0 : Int64) (fl S 5 (gd (fr S 2 a)))) a (fl (add_S S (gd (fr S 21 t)) (0 : Int32) (fi S 0 a) (0 : Int64) (fl S 5 (gd (fr S 2 a)))) 1 a)) 3 a)) dp rec) - tz S) (by rw [hW.z, hsz]; have := sr.2.2.1.1; omega) (by rw [hW.t, ht0]; have := sr.2.2.1.2; omega) ?_
        have nnp_18 : nn (perform_S (becomeDue_S (add_S S (gd (fr S 21 t)) (0 : Int32) (fi S 0 a) (0 : Int64) (fl S 5 (gd (fr S 2 a)))) a (fl (add_S S (gd (fr S 21 t)) (0 : Int32) (fi S 0 a) (0 : Int64) (fl S 5 (gd (fr S 2 a)))) 1 a)) t (gd (fr (becomeDue_S (add_S S (gd (fr S 21 t)) (0 : Int32) (fi S 0 a) (0 : Int64) (fl S 5 (gd (fr S 2 a)))) a (fl (add_S S (gd (fr S 21 t)) (0 : Int32) (fi S 0 a) (0 : Int64) (fl S 5 (gd (fr S 2 a)))) 1 a)) 3 a)) dp rec) := sr.1.2.2.1
        exact e_v hsz hx hb hr hlk hW (mo) (by show _ ≤ phi S t; have z1 := sr.2.1; have z2 := sr.2.2.1; omega) (by show _ ≤ psi S t; have z1 := sr.2.1; have z2 := sr.2.2.1; omega) dAT_takeAlarmTurn_89 ((by refine Eq.symm ?_; refine (if_neg c_1).trans ?_; refine (if_pos c_5).trans ?_; refine (if_neg c_11).trans ?_; rfl))
      · refine lv_aload_n hx hb dAT_takeAlarmTurn_64 rfl (lv_at hl 1 rfl) ?_
        refine lv_iconst (v := (0 : Int32)) hx hb dAT_takeAlarmTurn_65 (by decide) ?_
        refine p_i FAT_87 GAlarm_isSet (fun h => by cases h) hx hb hts hown hW k_a rfl rfl dAT_takeAlarmTurn_66 (fun H locs hW => ?_)
        have mo := mo.tr (mono_sfi (k := 1) (a := a) (v := (0 : Int32)))
        have sr : sRel t S (sfi (add_S S (gd (fr S 21 t)) (0 : Int32) (fi S 0 a) (0 : Int64) (fl S 5 (gd (fr S 2 a)))) 1 a (0 : Int32)) := sr.tr (sRel_sfi (by decide) sr.1)
        refine W.tight (k := hz (sfi (add_S S (gd (fr S 21 t)) (0 : Int32) (fi S 0 a) (0 : Int64) (fl S 5 (gd (fr S 2 a)))) 1 a (0 : Int32)) - hz S) (n := tz (sfi (add_S S (gd (fr S 21 t)) (0 : Int32) (fi S 0 a) (0 : Int64) (fl S 5 (gd (fr S 2 a)))) 1 a (0 : Int32)) - tz S) (by rw [hW.z, hsz]; have := sr.2.2.1.1; omega) (by rw [hW.t, ht0]; have := sr.2.2.1.2; omega) ?_
        have nnp_19 : nn (sfi (add_S S (gd (fr S 21 t)) (0 : Int32) (fi S 0 a) (0 : Int64) (fl S 5 (gd (fr S 2 a)))) 1 a (0 : Int32)) := nn_sfi nnp_10
        refine lv_goto (tgt := 80) hx hb dAT_takeAlarmTurn_69 (by decide) ?_
        refine lv_aload_n hx hb dAT_takeAlarmTurn_80 rfl (lv_at hl 0 rfl) ?_
        refine lv_aload_n hx hb dAT_takeAlarmTurn_81 rfl (lv_at hl 1 rfl) ?_
        have kq_20 : ∀ b, fr (add_S S (gd (fr S 21 t)) (0 : Int32) (fi S 0 a) (0 : Int64) (fl S 5 (gd (fr S 2 a)))) 3 a = some b → kd (sfi (add_S S (gd (fr S 21 t)) (0 : Int32) (fi S 0 a) (0 : Int64) (fl S 5 (gd (fr S 2 a)))) 1 a (0 : Int32)) b = 1 := fun b h => hW.ok.2.1 3 a b k_a h
        refine g_q FAT_245 hx hb hts hown hW k_a dAT_takeAlarmTurn_82 ?_
        rw [show fr (sfi (add_S S (gd (fr S 21 t)) (0 : Int32) (fi S 0 a) (0 : Int64) (fl S 5 (gd (fr S 2 a)))) 1 a (0 : Int32)) 3 a = fr (add_S S (gd (fr S 21 t)) (0 : Int32) (fi S 0 a) (0 : Int64) (fl S 5 (gd (fr S 2 a)))) 3 a from rfl]
        refine lv_iload_n hx hb dAT_takeAlarmTurn_85 rfl (lv_at hl 2 rfl) ?_
        have n_21 : fr (add_S S (gd (fr S 21 t)) (0 : Int32) (fi S 0 a) (0 : Int64) (fl S 5 (gd (fr S 2 a)))) 3 a = some (gd (fr (add_S S (gd (fr S 21 t)) (0 : Int32) (fi S 0 a) (0 : Int64) (fl S 5 (gd (fr S 2 a)))) 3 a)) := gd_some (nnp_10 3 a rfl k_a)
        have kb_22 : kd (sfi (add_S S (gd (fr S 21 t)) (0 : Int32) (fi S 0 a) (0 : Int64) (fl S 5 (gd (fr S 2 a)))) 1 a (0 : Int32)) (gd (fr (add_S S (gd (fr S 21 t)) (0 : Int32) (fi S 0 a) (0 : Int64) (fl S 5 (gd (fr S 2 a)))) 3 a)) = 1 := kq_20 (gd (fr (add_S S (gd (fr S 21 t)) (0 : Int32) (fi S 0 a) (0 : Int64) (fl S 5 (gd (fr S 2 a)))) 3 a)) n_21
        refine q_some1 n_21 ?_
        refine k_Vv (As := [.ref (gd (fr (add_S S (gd (fr S 21 t)) (0 : Int32) (fi S 0 a) (0 : Int64) (fl S 5 (gd (fr S 2 a)))) 3 a)), .int dp]) (rest := []) (c_perform l D AC (sfi (add_S S (gd (fr S 21 t)) (0 : Int32) (fi S 0 a) (0 : Int64) (fl S 5 (gd (fr S 2 a)))) 1 a (0 : Int32)) t (gd (fr (add_S S (gd (fr S 21 t)) (0 : Int32) (fi S 0 a) (0 : Int64) (fl S 5 (gd (fr S 2 a)))) 3 a)) dp rec k k_t kb_22 sr.1 hrec hrr) CAT_249 ⟨by decide, by decide, _, rfl, rfl⟩ hx hb hml hown hts hW k_t hl.1 rfl rfl (Nat.le_of_ble_eq_true rfl) ⟨⟨by show _ ≤ (10 + 5 * k); omega, by show _ ≤ (245 + 92 * k); omega⟩, ⟨by show _ ≤ phi S t; have z1 := sr.2.1; have z2 := sr.2.2.1; omega, by show _ ≤ psi S t; have z1 := sr.2.1; have z2 := sr.2.2.1; omega⟩⟩ dAT_takeAlarmTurn_86 (fun S_23 H locs e_23 hW m_23 _ => ?_)
        rw [e_23] at hW m_23
        have sr : sRel t S (perform_S (sfi (add_S S (gd (fr S 21 t)) (0 : Int32) (fi S 0 a) (0 : Int64) (fl S 5 (gd (fr S 2 a)))) 1 a (0 : Int32)) t (gd (fr (add_S S (gd (fr S 21 t)) (0 : Int32) (fi S 0 a) (0 : Int64) (fl S 5 (gd (fr S 2 a)))) 3 a)) dp rec) := sr.tr (sRel_perform hrr sr.1 kb_22)
        have k_t := m_23.k k_t (by decide)
        have k_a := m_23.k k_a (by decide)
        have kb_4 := m_23.k kb_4 (by decide)
        have kb_8 := m_23.k kb_8 (by decide)
        have kb_22 := m_23.k kb_22 (by decide)
        have kq_2 := fun b h => m_23.k (kq_2 b h) (by decide)
        have kq_6 := fun b h => m_23.k (kq_6 b h) (by decide)
        have kq_20 := fun b h => m_23.k (kq_20 b h) (by decide)
        have mo := mo.tr m_23
        refine W.tight (k := hz (perform_S (sfi (add_S S (gd (fr S 21 t)) (0 : Int32) (fi S 0 a) (0 : Int64) (fl S 5 (gd (fr S 2 a)))) 1 a (0 : Int32)) t (gd (fr (add_S S (gd (fr S 21 t)) (0 : Int32) (fi S 0 a) (0 : Int64) (fl S 5 (gd (fr S 2 a)))) 3 a)) dp rec) - hz S) (n := tz (perform_S (sfi (add_S S (gd (fr S 21 t)) (0 : Int32) (fi S 0 a) (0 : Int64) (fl S 5 (gd (fr S 2 a)))) 1 a (0 : Int32)) t (gd (fr (add_S S (gd (fr S 21 t)) (0 : Int32) (fi S 0 a) (0 : Int64) (fl S 5 (gd (fr S 2 a)))) 3 a)) dp rec) - tz S) (by rw [hW.z, hsz]; have := sr.2.2.1.1; omega) (by rw [hW.t, ht0]; have := sr.2.2.1.2; omega) ?_
        have nnp_24 : nn (perform_S (sfi (add_S S (gd (fr S 21 t)) (0 : Int32) (fi S 0 a) (0 : Int64) (fl S 5 (gd (fr S 2 a)))) 1 a (0 : Int32)) t (gd (fr (add_S S (gd (fr S 21 t)) (0 : Int32) (fi S 0 a) (0 : Int64) (fl S 5 (gd (fr S 2 a)))) 3 a)) dp rec) := sr.1.2.2.1
        exact e_v hsz hx hb hr hlk hW (mo) (by show _ ≤ phi S t; have z1 := sr.2.1; have z2 := sr.2.2.1; omega) (by show _ ≤ psi S t; have z1 := sr.2.1; have z2 := sr.2.2.1; omega) dAT_takeAlarmTurn_89 ((by refine Eq.symm ?_; refine (if_neg c_1).trans ?_; refine (if_pos c_5).trans ?_; refine (if_pos c_11).trans ?_; rfl))
    · refine lv_aload_n hx hb dAT_takeAlarmTurn_23 rfl (lv_at hl 1 rfl) ?_
      refine g_q FAT_91 hx hb hts hown hW k_a dAT_takeAlarmTurn_24 ?_
      refine lv_aload_n hx hb dAT_takeAlarmTurn_27 rfl (lv_at hl 1 rfl) ?_
      refine g_l FAT_234 hx hb hts hown hW k_a dAT_takeAlarmTurn_28 ?_
      refine q_some1 n_3 ?_
      refine k_Vv (As := [.long (fl S 0 a)]) (rest := []) (c_wakeAt l D AC S (gd (fr S 2 a)) (fl S 0 a) kb_4) CAT_163 ⟨by decide, by decide, _, rfl, rfl⟩ hx hb hml hown hts hW kb_4 hl.1 rfl rfl (Nat.le_of_ble_eq_true rfl) ⟨⟨by show _ ≤ (10 + 5 * k); omega, by show _ ≤ (245 + 92 * k); omega⟩, ⟨by show _ ≤ phi S t; have z1 := sr.2.1; have z2 := sr.2.2.1; omega, by show _ ≤ psi S t; have z1 := sr.2.1; have z2 := sr.2.2.1; omega⟩⟩ dAT_takeAlarmTurn_31 (fun S_25 H locs e_25 hW m_25 _ => ?_)
      rw [e_25] at hW m_25
      have sr : sRel t S (wakeAt_S S (gd (fr S 2 a)) (fl S 0 a)) := sr.tr (sRel_wakeAt sr.1)
      have k_t := m_25.k k_t (by decide)
      have k_a := m_25.k k_a (by decide)
      have kb_4 := m_25.k kb_4 (by decide)
      have kq_2 := fun b h => m_25.k (kq_2 b h) (by decide)
      have mo := mo.tr m_25
      refine W.tight (k := hz (wakeAt_S S (gd (fr S 2 a)) (fl S 0 a)) - hz S) (n := tz (wakeAt_S S (gd (fr S 2 a)) (fl S 0 a)) - tz S) (by rw [hW.z, hsz]; have := sr.2.2.1.1; omega) (by rw [hW.t, ht0]; have := sr.2.2.1.2; omega) ?_
      have nnp_26 : nn (wakeAt_S S (gd (fr S 2 a)) (fl S 0 a)) := sr.1.2.2.1
      exact e_v hsz hx hb hr hlk hW (mo) (by show _ ≤ phi S t; have z1 := sr.2.1; have z2 := sr.2.2.1; omega) (by show _ ≤ psi S t; have z1 := sr.2.1; have z2 := sr.2.2.1; omega) dAT_takeAlarmTurn_34 ((by refine Eq.symm ?_; refine (if_neg c_1).trans ?_; refine (if_neg c_5).trans ?_; rfl))
  · exact e_v hsz hx hb hr hlk hW (mono.rf S) (by show _ ≤ phi S t; have z1 := sr.2.1; have z2 := sr.2.2.1; omega) (by show _ ≤ psi S t; have z1 := sr.2.1; have z2 := sr.2.2.1; omega) dAT_takeAlarmTurn_7 ((by refine Eq.symm ?_; refine (if_pos c_1).trans ?_; rfl))

theorem nn_get {S : HS} (h : hOk S) (hn : nn S) {k a : Nat} (hk : nnk k = true) (ha : kd S a = rO k) : kd S (gd (fr S k a)) = rT k := h.2.1 k a _ ha (gd_some (hn k a hk ha))
theorem sRel_takeAlarmTurn {S : HS} {t a : Nat} {dp : Int32} {rec : HS → Nat → HS} (hrr : ∀ S1 c1, sInv S1 t → kd S1 c1 = 3 → sRel t S1 (rec S1 c1)) (h : sInv S t) (k_a : kd S a = 2) : sRel t S (takeAlarmTurn_S S t a dp rec) := by
  have key : ∀ S1, sRel t S S1 → sRel t S (perform_S S1 t (gd (fr S1 3 a)) dp rec) := fun S1 s1 => s1.tr (sRel_perform hrr s1.1 (nn_get s1.1.1.1 s1.1.2.2.1 rfl (s1.2.2.2.2.k k_a (by decide))))
  unfold takeAlarmTurn_S
  refine ite_P (P := sRel t S) (sRel.rf h) (ite_P (P := sRel t S) ?_ (sRel_wakeAt h))
  have sA : sRel t S (add_S S (gd (fr S 21 t)) (0 : Int32) (fi S 0 a) (0 : Int64) (fl S 5 (gd (fr S 2 a)))) := sRel_add h
  generalize add_S S (gd (fr S 21 t)) (0 : Int32) (fi S 0 a) (0 : Int64) (fl S 5 (gd (fr S 2 a))) = S1 at sA
  refine ite_P (P := sRel t S) ?_ ?_
  · exact key (sfi S1 1 a 0) (sA.tr (sRel_sfi (by decide) sA.1))
  · exact key (becomeDue_S S1 a (fl S1 1 a)) (sA.tr (sRel_becomeDue sA.1))

def giveOver_R (S : HS) (t : Nat) (a : Nat) : Option Nat :=
  opc (fr (add_S S (gd (fr S 21 t)) (2 : Int32) (fi S 6 a) (0 : Int64) (fl S 5 (gd (fr S 13 a)))) 16 a) (none)
  (fun b_11 => if (fi (sfi (add_S S (gd (fr S 21 t)) (2 : Int32) (fi S 6 a) (0 : Int64) (fl S 5 (gd (fr S 13 a)))) 8 a (0 : Int32)) 8 b_11) = 0 then
      if (some b_11) = (some a) then
        fr (add_S S (gd (fr S 21 t)) (2 : Int32) (fi S 6 a) (0 : Int64) (fl S 5 (gd (fr S 13 a)))) 16 a
      else
        fr (add_S S (gd (fr S 21 t)) (2 : Int32) (fi S 6 a) (0 : Int64) (fl S 5 (gd (fr S 13 a)))) 16 a
    else
      none)
def giveOver_S (S : HS) (t : Nat) (a : Nat) : HS :=
  opc (fr (add_S S (gd (fr S 21 t)) (2 : Int32) (fi S 6 a) (0 : Int64) (fl S 5 (gd (fr S 13 a)))) 16 a) ((sfi (add_S S (gd (fr S 21 t)) (2 : Int32) (fi S 6 a) (0 : Int64) (fl S 5 (gd (fr S 13 a)))) 8 a (0 : Int32)))
  (fun b_11 => if (fi (sfi (add_S S (gd (fr S 21 t)) (2 : Int32) (fi S 6 a) (0 : Int64) (fl S 5 (gd (fr S 13 a)))) 8 a (0 : Int32)) 8 b_11) = 0 then
      if (some b_11) = (some a) then
        (runFrom_S (sfi (add_S S (gd (fr S 21 t)) (2 : Int32) (fi S 6 a) (0 : Int64) (fl S 5 (gd (fr S 13 a)))) 8 a (0 : Int32)) b_11 (fl (add_S S (gd (fr S 21 t)) (2 : Int32) (fi S 6 a) (0 : Int64) (fl S 5 (gd (fr S 13 a)))) 6 (gd (fr (add_S S (gd (fr S 21 t)) (2 : Int32) (fi S 6 a) (0 : Int64) (fl S 5 (gd (fr S 13 a)))) 13 a))))
      else
        (runFrom_S (sfl (sfi (add_S S (gd (fr S 21 t)) (2 : Int32) (fi S 6 a) (0 : Int64) (fl S 5 (gd (fr S 13 a)))) 8 a (0 : Int32)) 11 b_11 (0 : Int64)) b_11 (fl (add_S S (gd (fr S 21 t)) (2 : Int32) (fi S 6 a) (0 : Int64) (fl S 5 (gd (fr S 13 a)))) 6 (gd (fr (add_S S (gd (fr S 21 t)) (2 : Int32) (fi S 6 a) (0 : Int64) (fl S 5 (gd (fr S 13 a)))) 13 a))))
    else
      (sfi (add_S S (gd (fr S 21 t)) (2 : Int32) (fi S 6 a) (0 : Int64) (fl S 5 (gd (fr S 13 a)))) 8 a (0 : Int32)))
set_option maxRecDepth 20000 in
set_option maxHeartbeats 2000000 in
theorem c_giveOver (l : Launch) (D : va_G) (AC : Nat → ClassId) (S : HS) (t : Nat) (a : Nat)  (k_t : kd S t = 8) (k_a : kd S a = 7) (hi : sInv S t) : CtQ l yAT_giveOver (Cond.code yAT_giveOver cAT_giveOver 3 (some (.object "AlarmTables$Table")) :: wT) 10 150 D AC S [.ref t, .ref a] (phi S t) (psi S t) (fun r S' => r = giveOver_R S t a ∧ S' = giveOver_S S t a) := by
  refine met_of (by decide) (Nat.le_of_ble_eq_true rfl) ?_
  intro p e s m below meth c ls hsz X hW hl
  obtain ⟨hx, hb, hml, hr, hlk, hown, hnm, hts⟩ := X
  have hl : lv_has ls 3 [(0, .ref t), (1, .ref a)] := hl
  have mo : mono S S := mono.rf S
  have sr : sRel t S S := sRel.rf hi
  have ht0 := hW.t
  refine lv_aload_n hx hb dAT_giveOver_0 rfl (lv_at hl 0 rfl) ?_
  have kq_1 : ∀ b, fr S 21 t = some b → kd S b = 4 := fun b h => hW.ok.2.1 21 t b k_t h
  refine g_q FAT_30 hx hb hts hown hW k_t dAT_giveOver_1 ?_
  refine lv_iconst (v := (2 : Int32)) hx hb dAT_giveOver_4 (by decide) ?_
  refine lv_aload_n hx hb dAT_giveOver_5 rfl (lv_at hl 1 rfl) ?_
  refine g_i FAT_275 hx hb hts hown hW k_a dAT_giveOver_6 ?_
  refine lv_lconst (v := (0 : Int64)) hx hb dAT_giveOver_9 (by decide) ?_
  refine lv_aload_n hx hb dAT_giveOver_10 rfl (lv_at hl 1 rfl) ?_
  have kq_2 : ∀ b, fr S 13 a = some b → kd S b = 3 := fun b h => hW.ok.2.1 13 a b k_a h
  refine g_q FAT_138 hx hb hts hown hW k_a dAT_giveOver_11 ?_
  have n_3 : fr S 13 a = some (gd (fr S 13 a)) := gd_some (hi.2.2.1 13 a rfl k_a)
  have kb_4 : kd S (gd (fr S 13 a)) = 3 := kq_2 (gd (fr S 13 a)) n_3
  refine q_some n_3 ?_
  refine g_l FAT_238 hx hb hts hown hW kb_4 dAT_giveOver_14 ?_
  have n_5 : fr S 21 t = some (gd (fr S 21 t)) := gd_some (hi.2.2.1 21 t rfl k_t)
  have kb_6 : kd S (gd (fr S 21 t)) = 4 := kq_1 (gd (fr S 21 t)) n_5
  refine q_some4 n_5 ?_
  refine k_Vv (As := [.int (2 : Int32), .int (fi S 6 a), .long (0 : Int64), .long (fl S 5 (gd (fr S 13 a)))]) (rest := []) (c_add l D AC S (gd (fr S 21 t)) (2 : Int32) (fi S 6 a) (0 : Int64) (fl S 5 (gd (fr S 13 a))) kb_6 sr.1.2.2.1 sr.1.2.2.2.2.1.1 sr.1.2.2.2.2.1.2.1 sr.1.2.2.2.2.1.2.2.1 sr.1.2.2.2.1) CAT_241 ⟨by decide, by decide, _, rfl, rfl⟩ hx hb hml hown hts hW kb_6 hl.1 rfl rfl (Nat.le_of_ble_eq_true rfl) ⟨⟨by show _ ≤ 10; omega, by show _ ≤ 150; omega⟩, ⟨by show _ ≤ phi S t; have z1 := sr.2.1; have z2 := sr.2.2.1; have z3 : addC S (gd (fr S 21 t)) ≤ phi S t ∧ addM S (gd (fr S 21 t)) ≤ psi S t := addC_le sr.1; omega, by show _ ≤ psi S t; have z1 := sr.2.1; have z2 := sr.2.2.1; have z3 : addC S (gd (fr S 21 t)) ≤ phi S t ∧ addM S (gd (fr S 21 t)) ≤ psi S t := addC_le sr.1; omega⟩⟩ dAT_giveOver_17 (fun S_7 H locs e_7 hW m_7 _ => ?_)
  rw [e_7] at hW m_7
  have sr : sRel t S (add_S S (gd (fr S 21 t)) (2 : Int32) (fi S 6 a) (0 : Int64) (fl S 5 (gd (fr S 13 a)))) := sr.tr (sRel_add sr.1)
  have k_t := m_7.k k_t (by decide)
  have k_a := m_7.k k_a (by decide)
  have kb_4 := m_7.k kb_4 (by decide)
  have kb_6 := m_7.k kb_6 (by decide)
  have kq_1 := fun b h => m_7.k (kq_1 b h) (by decide)
  have kq_2 := fun b h => m_7.k (kq_2 b h) (by decide)
  have mo := mo.tr m_7
  refine W.tight (k := hz (add_S S (gd (fr S 21 t)) (2 : Int32) (fi S 6 a) (0 : Int64) (fl S 5 (gd (fr S 13 a)))) - hz S) (n := tz (add_S S (gd (fr S 21 t)) (2 : Int32) (fi S 6 a) (0 : Int64) (fl S 5 (gd (fr S 13 a)))) - tz S) (by rw [hW.z, hsz]; have := sr.2.2.1.1; omega) (by rw [hW.t, ht0]; have := sr.2.2.1.2; omega) ?_
  have nnp_8 : nn (add_S S (gd (fr S 21 t)) (2 : Int32) (fi S 6 a) (0 : Int64) (fl S 5 (gd (fr S 13 a)))) := sr.1.2.2.1
  refine lv_aload_n hx hb dAT_giveOver_20 rfl (lv_at hl 1 rfl) ?_
  refine lv_iconst (v := (0 : Int32)) hx hb dAT_giveOver_21 (by decide) ?_
  refine p_i FAT_131 GTable_runs (fun h => by cases h) hx hb hts hown hW k_a rfl rfl dAT_giveOver_22 (fun H locs hW => ?_)
  have mo := mo.tr (mono_sfi (k := 8) (a := a) (v := (0 : Int32)))
  have sr : sRel t S (sfi (add_S S (gd (fr S 21 t)) (2 : Int32) (fi S 6 a) (0 : Int64) (fl S 5 (gd (fr S 13 a)))) 8 a (0 : Int32)) := sr.tr (sRel_sfi (by decide) sr.1)
  refine W.tight (k := hz (sfi (add_S S (gd (fr S 21 t)) (2 : Int32) (fi S 6 a) (0 : Int64) (fl S 5 (gd (fr S 13 a)))) 8 a (0 : Int32)) - hz S) (n := tz (sfi (add_S S (gd (fr S 21 t)) (2 : Int32) (fi S 6 a) (0 : Int64) (fl S 5 (gd (fr S 13 a)))) 8 a (0 : Int32)) - tz S) (by rw [hW.z, hsz]; have := sr.2.2.1.1; omega) (by rw [hW.t, ht0]; have := sr.2.2.1.2; omega) ?_
  have nnp_9 : nn (sfi (add_S S (gd (fr S 21 t)) (2 : Int32) (fi S 6 a) (0 : Int64) (fl S 5 (gd (fr S 13 a)))) 8 a (0 : Int32)) := nn_sfi nnp_8
  refine lv_aload_n hx hb dAT_giveOver_25 rfl (lv_at hl 1 rfl) ?_
  have kq_10 : ∀ b, fr (add_S S (gd (fr S 21 t)) (2 : Int32) (fi S 6 a) (0 : Int64) (fl S 5 (gd (fr S 13 a)))) 16 a = some b → kd (sfi (add_S S (gd (fr S 21 t)) (2 : Int32) (fi S 6 a) (0 : Int64) (fl S 5 (gd (fr S 13 a)))) 8 a (0 : Int32)) b = 7 := fun b h => hW.ok.2.1 16 a b k_a h
  refine g_q FAT_166 hx hb hts hown hW k_a dAT_giveOver_26 ?_
  rw [show fr (sfi (add_S S (gd (fr S 21 t)) (2 : Int32) (fi S 6 a) (0 : Int64) (fl S 5 (gd (fr S 13 a)))) 8 a (0 : Int32)) 16 a = fr (add_S S (gd (fr S 21 t)) (2 : Int32) (fi S 6 a) (0 : Int64) (fl S 5 (gd (fr S 13 a)))) 16 a from rfl]
  refine q_astore_n (i := 2) (lv' := [(2, va_rf (fr (add_S S (gd (fr S 21 t)) (2 : Int32) (fi S 6 a) (0 : Int64) (fl S 5 (gd (fr S 13 a)))) 16 a)), (0, .ref t), (1, .ref a)]) hx hb dAT_giveOver_29 rfl hl (by decide) rfl (fun ls hl => ?_)
  refine q_aload_n hx hb dAT_giveOver_30 rfl (lv_at hl 0 rfl) ?_
  refine q_ifnull (tgt := 41) hx hb dAT_giveOver_31 (by decide) (fun n_11 => ?_) (fun b_11 n_11 => ?_)
  · refine lv_null hx hb dAT_giveOver_41 ?_
    exact e_q (r := none) hsz hx hb hr hlk hW (mo) (by show _ ≤ phi S t; have z1 := sr.2.1; have z2 := sr.2.2.1; omega) (by show _ ≤ psi S t; have z1 := sr.2.1; have z2 := sr.2.2.1; omega) dAT_giveOver_42 ⟨(by refine Eq.symm ?_; refine (op_none n_11).trans ?_; rfl), (by refine Eq.symm ?_; refine (op_none n_11).trans ?_; rfl)⟩
  · have k_b_11 : kd (sfi (add_S S (gd (fr S 21 t)) (2 : Int32) (fi S 6 a) (0 : Int64) (fl S 5 (gd (fr S 13 a)))) 8 a (0 : Int32)) b_11 = 7 := kq_10 b_11 n_11
    refine q_aload_n hx hb dAT_giveOver_34 rfl (lv_at hl 0 rfl) ?_
    refine q_some n_11 ?_
    refine g_i FAT_131 hx hb hts hown hW k_b_11 dAT_giveOver_35 ?_
    refine lv_if_eq (tgt := 43) hx hb dAT_giveOver_38 (by decide) (fun c_12 => ?_) (fun c_12 => ?_)
    · refine q_aload_n hx hb dAT_giveOver_43 rfl (lv_at hl 0 rfl) ?_
      refine lv_aload_n hx hb dAT_giveOver_44 rfl (lv_at hl 2 rfl) ?_
      refine q_some1 n_11 ?_
      refine lv_acmp_eq (rx := some b_11) (ry := some a) (tgt := 53) hx hb dAT_giveOver_45 (by decide) (fun c_13 => ?_) (fun c_13 => ?_)
      · refine q_aload_n hx hb dAT_giveOver_53 rfl (lv_at hl 0 rfl) ?_
        refine lv_aload_n hx hb dAT_giveOver_54 rfl (lv_at hl 2 rfl) ?_
        have kq_14 : ∀ b, fr (add_S S (gd (fr S 21 t)) (2 : Int32) (fi S 6 a) (0 : Int64) (fl S 5 (gd (fr S 13 a)))) 13 a = some b → kd (sfi (add_S S (gd (fr S 21 t)) (2 : Int32) (fi S 6 a) (0 : Int64) (fl S 5 (gd (fr S 13 a)))) 8 a (0 : Int32)) b = 3 := fun b h => hW.ok.2.1 13 a b k_a h
        refine g_q FAT_138 hx hb hts hown hW k_a dAT_giveOver_55 ?_
        rw [show fr (sfi (add_S S (gd (fr S 21 t)) (2 : Int32) (fi S 6 a) (0 : Int64) (fl S 5 (gd (fr S 13 a)))) 8 a (0 : Int32)) 13 a = fr (add_S S (gd (fr S 21 t)) (2 : Int32) (fi S 6 a) (0 : Int64) (fl S 5 (gd (fr S 13 a)))) 13 a from rfl]
        have n_15 : fr (add_S S (gd (fr S 21 t)) (2 : Int32) (fi S 6 a) (0 : Int64) (fl S 5 (gd (fr S 13 a)))) 13 a = some (gd (fr (add_S S (gd (fr S 21 t)) (2 : Int32) (fi S 6 a) (0 : Int64) (fl S 5 (gd (fr S 13 a)))) 13 a)) := gd_some (nnp_8 13 a rfl k_a)
        have kb_16 : kd (sfi (add_S S (gd (fr S 21 t)) (2 : Int32) (fi S 6 a) (0 : Int64) (fl S 5 (gd (fr S 13 a)))) 8 a (0 : Int32)) (gd (fr (add_S S (gd (fr S 21 t)) (2 : Int32) (fi S 6 a) (0 : Int64) (fl S 5 (gd (fr S 13 a)))) 13 a)) = 3 := kq_14 (gd (fr (add_S S (gd (fr S 21 t)) (2 : Int32) (fi S 6 a) (0 : Int64) (fl S 5 (gd (fr S 13 a)))) 13 a)) n_15
        refine q_some n_15 ?_
        refine g_l FAT_154 hx hb hts hown hW kb_16 dAT_giveOver_58 ?_
        rw [show fl (sfi (add_S S (gd (fr S 21 t)) (2 : Int32) (fi S 6 a) (0 : Int64) (fl S 5 (gd (fr S 13 a)))) 8 a (0 : Int32)) 6 (gd (fr (add_S S (gd (fr S 21 t)) (2 : Int32) (fi S 6 a) (0 : Int64) (fl S 5 (gd (fr S 13 a)))) 13 a)) = fl (add_S S (gd (fr S 21 t)) (2 : Int32) (fi S 6 a) (0 : Int64) (fl S 5 (gd (fr S 13 a)))) 6 (gd (fr (add_S S (gd (fr S 21 t)) (2 : Int32) (fi S 6 a) (0 : Int64) (fl S 5 (gd (fr S 13 a)))) 13 a)) from rfl]
        refine q_some1 n_11 ?_
        refine k_Vv (As := [.long (fl (add_S S (gd (fr S 21 t)) (2 : Int32) (fi S 6 a) (0 : Int64) (fl S 5 (gd (fr S 13 a)))) 6 (gd (fr (add_S S (gd (fr S 21 t)) (2 : Int32) (fi S 6 a) (0 : Int64) (fl S 5 (gd (fr S 13 a)))) 13 a)))]) (rest := []) (c_runFrom l D AC (sfi (add_S S (gd (fr S 21 t)) (2 : Int32) (fi S 6 a) (0 : Int64) (fl S 5 (gd (fr S 13 a)))) 8 a (0 : Int32)) b_11 (fl (add_S S (gd (fr S 21 t)) (2 : Int32) (fi S 6 a) (0 : Int64) (fl S 5 (gd (fr S 13 a)))) 6 (gd (fr (add_S S (gd (fr S 21 t)) (2 : Int32) (fi S 6 a) (0 : Int64) (fl S 5 (gd (fr S 13 a)))) 13 a))) k_b_11) CAT_157 ⟨by decide, by decide, _, rfl, rfl⟩ hx hb hml hown hts hW k_b_11 hl.1 rfl rfl (Nat.le_of_ble_eq_true rfl) ⟨⟨by show _ ≤ 10; omega, by show _ ≤ 150; omega⟩, ⟨by show _ ≤ phi S t; have z1 := sr.2.1; have z2 := sr.2.2.1; omega, by show _ ≤ psi S t; have z1 := sr.2.1; have z2 := sr.2.2.1; omega⟩⟩ dAT_giveOver_61 (fun S_17 H locs e_17 hW m_17 _ => ?_)
        rw [e_17] at hW m_17
        have sr : sRel t S (runFrom_S (sfi (add_S S (gd (fr S 21 t)) (2 : Int32) (fi S 6 a) (0 : Int64) (fl S 5 (gd (fr S 13 a)))) 8 a (0 : Int32)) b_11 (fl (add_S S (gd (fr S 21 t)) (2 : Int32) (fi S 6 a) (0 : Int64) (fl S 5 (gd (fr S 13 a)))) 6 (gd (fr (add_S S (gd (fr S 21 t)) (2 : Int32) (fi S 6 a) (0 : Int64) (fl S 5 (gd (fr S 13 a)))) 13 a)))) := sr.tr (sRel_runFrom sr.1)
        have k_t := m_17.k k_t (by decide)
        have k_a := m_17.k k_a (by decide)
        have kb_4 := m_17.k kb_4 (by decide)
        have kb_6 := m_17.k kb_6 (by decide)
        have k_b_11 := m_17.k k_b_11 (by decide)
        have kb_16 := m_17.k kb_16 (by decide)
        have kq_1 := fun b h => m_17.k (kq_1 b h) (by decide)
        have kq_2 := fun b h => m_17.k (kq_2 b h) (by decide)
        have kq_10 := fun b h => m_17.k (kq_10 b h) (by decide)
        have kq_14 := fun b h => m_17.k (kq_14 b h) (by decide)
        have mo := mo.tr m_17
        refine W.tight (k := hz (runFrom_S (sfi (add_S S (gd (fr S 21 t)) (2 : Int32) (fi S 6 a) (0 : Int64) (fl S 5 (gd (fr S 13 a)))) 8 a (0 : Int32)) b_11 (fl (add_S S (gd (fr S 21 t)) (2 : Int32) (fi S 6 a) (0 : Int64) (fl S 5 (gd (fr S 13 a)))) 6 (gd (fr (add_S S (gd (fr S 21 t)) (2 : Int32) (fi S 6 a) (0 : Int64) (fl S 5 (gd (fr S 13 a)))) 13 a)))) - hz S) (n := tz (runFrom_S (sfi (add_S S (gd (fr S 21 t)) (2 : Int32) (fi S 6 a) (0 : Int64) (fl S 5 (gd (fr S 13 a)))) 8 a (0 : Int32)) b_11 (fl (add_S S (gd (fr S 21 t)) (2 : Int32) (fi S 6 a) (0 : Int64) (fl S 5 (gd (fr S 13 a)))) 6 (gd (fr (add_S S (gd (fr S 21 t)) (2 : Int32) (fi S 6 a) (0 : Int64) (fl S 5 (gd (fr S 13 a)))) 13 a)))) - tz S) (by rw [hW.z, hsz]; have := sr.2.2.1.1; omega) (by rw [hW.t, ht0]; have := sr.2.2.1.2; omega) ?_
        have nnp_18 : nn (runFrom_S (sfi (add_S S (gd (fr S 21 t)) (2 : Int32) (fi S 6 a) (0 : Int64) (fl S 5 (gd (fr S 13 a)))) 8 a (0 : Int32)) b_11 (fl (add_S S (gd (fr S 21 t)) (2 : Int32) (fi S 6 a) (0 : Int64) (fl S 5 (gd (fr S 13 a)))) 6 (gd (fr (add_S S (gd (fr S 21 t)) (2 : Int32) (fi S 6 a) (0 : Int64) (fl S 5 (gd (fr S 13 a)))) 13 a)))) := sr.1.2.2.1
        refine q_aload_n hx hb dAT_giveOver_64 rfl (lv_at hl 0 rfl) ?_
        exact e_q (r := fr (add_S S (gd (fr S 21 t)) (2 : Int32) (fi S 6 a) (0 : Int64) (fl S 5 (gd (fr S 13 a)))) 16 a) hsz hx hb hr hlk hW (mo) (by show _ ≤ phi S t; have z1 := sr.2.1; have z2 := sr.2.2.1; omega) (by show _ ≤ psi S t; have z1 := sr.2.1; have z2 := sr.2.2.1; omega) dAT_giveOver_65 ⟨(by refine Eq.symm ?_; refine (op_some n_11).trans ?_; refine (if_pos c_12).trans ?_; refine (if_pos c_13).trans ?_; rfl), (by refine Eq.symm ?_; refine (op_some n_11).trans ?_; refine (if_pos c_12).trans ?_; refine (if_pos c_13).trans ?_; rfl)⟩
      · refine q_aload_n hx hb dAT_giveOver_48 rfl (lv_at hl 0 rfl) ?_
        refine lv_lconst (v := (0 : Int64)) hx hb dAT_giveOver_49 (by decide) ?_
        refine q_some1 n_11 ?_
        refine p_l FAT_151 GTable_drift (fun h => by cases h) hx hb hts hown hW k_b_11 dAT_giveOver_50 (fun H locs hW => ?_)
        have mo := mo.tr (mono_sfl (k := 11) (a := b_11) (v := (0 : Int64)))
        have sr : sRel t S (sfl (sfi (add_S S (gd (fr S 21 t)) (2 : Int32) (fi S 6 a) (0 : Int64) (fl S 5 (gd (fr S 13 a)))) 8 a (0 : Int32)) 11 b_11 (0 : Int64)) := sr.tr (sRel_sfl sr.1)
        refine W.tight (k := hz (sfl (sfi (add_S S (gd (fr S 21 t)) (2 : Int32) (fi S 6 a) (0 : Int64) (fl S 5 (gd (fr S 13 a)))) 8 a (0 : Int32)) 11 b_11 (0 : Int64)) - hz S) (n := tz (sfl (sfi (add_S S (gd (fr S 21 t)) (2 : Int32) (fi S 6 a) (0 : Int64) (fl S 5 (gd (fr S 13 a)))) 8 a (0 : Int32)) 11 b_11 (0 : Int64)) - tz S) (by rw [hW.z, hsz]; have := sr.2.2.1.1; omega) (by rw [hW.t, ht0]; have := sr.2.2.1.2; omega) ?_
        have nnp_19 : nn (sfl (sfi (add_S S (gd (fr S 21 t)) (2 : Int32) (fi S 6 a) (0 : Int64) (fl S 5 (gd (fr S 13 a)))) 8 a (0 : Int32)) 11 b_11 (0 : Int64)) := nn_sfl nnp_9
        refine q_aload_n hx hb dAT_giveOver_53 rfl (lv_at hl 0 rfl) ?_
        refine lv_aload_n hx hb dAT_giveOver_54 rfl (lv_at hl 2 rfl) ?_
        have kq_20 : ∀ b, fr (add_S S (gd (fr S 21 t)) (2 : Int32) (fi S 6 a) (0 : Int64) (fl S 5 (gd (fr S 13 a)))) 13 a = some b → kd (sfl (sfi (add_S S (gd (fr S 21 t)) (2 : Int32) (fi S 6 a) (0 : Int64) (fl S 5 (gd (fr S 13 a)))) 8 a (0 : Int32)) 11 b_11 (0 : Int64)) b = 3 := fun b h => hW.ok.2.1 13 a b k_a h
        refine g_q FAT_138 hx hb hts hown hW k_a dAT_giveOver_55 ?_
        rw [show fr (sfl (sfi (add_S S (gd (fr S 21 t)) (2 : Int32) (fi S 6 a) (0 : Int64) (fl S 5 (gd (fr S 13 a)))) 8 a (0 : Int32)) 11 b_11 (0 : Int64)) 13 a = fr (add_S S (gd (fr S 21 t)) (2 : Int32) (fi S 6 a) (0 : Int64) (fl S 5 (gd (fr S 13 a)))) 13 a from rfl]
        have n_21 : fr (add_S S (gd (fr S 21 t)) (2 : Int32) (fi S 6 a) (0 : Int64) (fl S 5 (gd (fr S 13 a)))) 13 a = some (gd (fr (add_S S (gd (fr S 21 t)) (2 : Int32) (fi S 6 a) (0 : Int64) (fl S 5 (gd (fr S 13 a)))) 13 a)) := gd_some (nnp_8 13 a rfl k_a)
        have kb_22 : kd (sfl (sfi (add_S S (gd (fr S 21 t)) (2 : Int32) (fi S 6 a) (0 : Int64) (fl S 5 (gd (fr S 13 a)))) 8 a (0 : Int32)) 11 b_11 (0 : Int64)) (gd (fr (add_S S (gd (fr S 21 t)) (2 : Int32) (fi S 6 a) (0 : Int64) (fl S 5 (gd (fr S 13 a)))) 13 a)) = 3 := kq_20 (gd (fr (add_S S (gd (fr S 21 t)) (2 : Int32) (fi S 6 a) (0 : Int64) (fl S 5 (gd (fr S 13 a)))) 13 a)) n_21
        refine q_some n_21 ?_
        refine g_l FAT_154 hx hb hts hown hW kb_22 dAT_giveOver_58 ?_
        rw [show fl (sfl (sfi (add_S S (gd (fr S 21 t)) (2 : Int32) (fi S 6 a) (0 : Int64) (fl S 5 (gd (fr S 13 a)))) 8 a (0 : Int32)) 11 b_11 (0 : Int64)) 6 (gd (fr (add_S S (gd (fr S 21 t)) (2 : Int32) (fi S 6 a) (0 : Int64) (fl S 5 (gd (fr S 13 a)))) 13 a)) = fl (add_S S (gd (fr S 21 t)) (2 : Int32) (fi S 6 a) (0 : Int64) (fl S 5 (gd (fr S 13 a)))) 6 (gd (fr (add_S S (gd (fr S 21 t)) (2 : Int32) (fi S 6 a) (0 : Int64) (fl S 5 (gd (fr S 13 a)))) 13 a)) from rfl]
        refine q_some1 n_11 ?_
        refine k_Vv (As := [.long (fl (add_S S (gd (fr S 21 t)) (2 : Int32) (fi S 6 a) (0 : Int64) (fl S 5 (gd (fr S 13 a)))) 6 (gd (fr (add_S S (gd (fr S 21 t)) (2 : Int32) (fi S 6 a) (0 : Int64) (fl S 5 (gd (fr S 13 a)))) 13 a)))]) (rest := []) (c_runFrom l D AC (sfl (sfi (add_S S (gd (fr S 21 t)) (2 : Int32) (fi S 6 a) (0 : Int64) (fl S 5 (gd (fr S 13 a)))) 8 a (0 : Int32)) 11 b_11 (0 : Int64)) b_11 (fl (add_S S (gd (fr S 21 t)) (2 : Int32) (fi S 6 a) (0 : Int64) (fl S 5 (gd (fr S 13 a)))) 6 (gd (fr (add_S S (gd (fr S 21 t)) (2 : Int32) (fi S 6 a) (0 : Int64) (fl S 5 (gd (fr S 13 a)))) 13 a))) k_b_11) CAT_157 ⟨by decide, by decide, _, rfl, rfl⟩ hx hb hml hown hts hW k_b_11 hl.1 rfl rfl (Nat.le_of_ble_eq_true rfl) ⟨⟨by show _ ≤ 10; omega, by show _ ≤ 150; omega⟩, ⟨by show _ ≤ phi S t; have z1 := sr.2.1; have z2 := sr.2.2.1; omega, by show _ ≤ psi S t; have z1 := sr.2.1; have z2 := sr.2.2.1; omega⟩⟩ dAT_giveOver_61 (fun S_23 H locs e_23 hW m_23 _ => ?_)
        rw [e_23] at hW m_23
        have sr : sRel t S (runFrom_S (sfl (sfi (add_S S (gd (fr S 21 t)) (2 : Int32) (fi S 6 a) (0 : Int64) (fl S 5 (gd (fr S 13 a)))) 8 a (0 : Int32)) 11 b_11 (0 : Int64)) b_11 (fl (add_S S (gd (fr S 21 t)) (2 : Int32) (fi S 6 a) (0 : Int64) (fl S 5 (gd (fr S 13 a)))) 6 (gd (fr (add_S S (gd (fr S 21 t)) (2 : Int32) (fi S 6 a) (0 : Int64) (fl S 5 (gd (fr S 13 a)))) 13 a)))) := sr.tr (sRel_runFrom sr.1)
        have k_t := m_23.k k_t (by decide)
        have k_a := m_23.k k_a (by decide)
        have kb_4 := m_23.k kb_4 (by decide)
        have kb_6 := m_23.k kb_6 (by decide)
        have k_b_11 := m_23.k k_b_11 (by decide)
        have kb_22 := m_23.k kb_22 (by decide)
        have kq_1 := fun b h => m_23.k (kq_1 b h) (by decide)
        have kq_2 := fun b h => m_23.k (kq_2 b h) (by decide)
        have kq_10 := fun b h => m_23.k (kq_10 b h) (by decide)
        have kq_20 := fun b h => m_23.k (kq_20 b h) (by decide)
        have mo := mo.tr m_23
        refine W.tight (k := hz (runFrom_S (sfl (sfi (add_S S (gd (fr S 21 t)) (2 : Int32) (fi S 6 a) (0 : Int64) (fl S 5 (gd (fr S 13 a)))) 8 a (0 : Int32)) 11 b_11 (0 : Int64)) b_11 (fl (add_S S (gd (fr S 21 t)) (2 : Int32) (fi S 6 a) (0 : Int64) (fl S 5 (gd (fr S 13 a)))) 6 (gd (fr (add_S S (gd (fr S 21 t)) (2 : Int32) (fi S 6 a) (0 : Int64) (fl S 5 (gd (fr S 13 a)))) 13 a)))) - hz S) (n := tz (runFrom_S (sfl (sfi (add_S S (gd (fr S 21 t)) (2 : Int32) (fi S 6 a) (0 : Int64) (fl S 5 (gd (fr S 13 a)))) 8 a (0 : Int32)) 11 b_11 (0 : Int64)) b_11 (fl (add_S S (gd (fr S 21 t)) (2 : Int32) (fi S 6 a) (0 : Int64) (fl S 5 (gd (fr S 13 a)))) 6 (gd (fr (add_S S (gd (fr S 21 t)) (2 : Int32) (fi S 6 a) (0 : Int64) (fl S 5 (gd (fr S 13 a)))) 13 a)))) - tz S) (by rw [hW.z, hsz]; have := sr.2.2.1.1; omega) (by rw [hW.t, ht0]; have := sr.2.2.1.2; omega) ?_
        have nnp_24 : nn (runFrom_S (sfl (sfi (add_S S (gd (fr S 21 t)) (2 : Int32) (fi S 6 a) (0 : Int64) (fl S 5 (gd (fr S 13 a)))) 8 a (0 : Int32)) 11 b_11 (0 : Int64)) b_11 (fl (add_S S (gd (fr S 21 t)) (2 : Int32) (fi S 6 a) (0 : Int64) (fl S 5 (gd (fr S 13 a)))) 6 (gd (fr (add_S S (gd (fr S 21 t)) (2 : Int32) (fi S 6 a) (0 : Int64) (fl S 5 (gd (fr S 13 a)))) 13 a)))) := sr.1.2.2.1
        refine q_aload_n hx hb dAT_giveOver_64 rfl (lv_at hl 0 rfl) ?_
        exact e_q (r := fr (add_S S (gd (fr S 21 t)) (2 : Int32) (fi S 6 a) (0 : Int64) (fl S 5 (gd (fr S 13 a)))) 16 a) hsz hx hb hr hlk hW (mo) (by show _ ≤ phi S t; have z1 := sr.2.1; have z2 := sr.2.2.1; omega) (by show _ ≤ psi S t; have z1 := sr.2.1; have z2 := sr.2.2.1; omega) dAT_giveOver_65 ⟨(by refine Eq.symm ?_; refine (op_some n_11).trans ?_; refine (if_pos c_12).trans ?_; refine (if_neg c_13).trans ?_; rfl), (by refine Eq.symm ?_; refine (op_some n_11).trans ?_; refine (if_pos c_12).trans ?_; refine (if_neg c_13).trans ?_; rfl)⟩
    · refine lv_null hx hb dAT_giveOver_41 ?_
      exact e_q (r := none) hsz hx hb hr hlk hW (mo) (by show _ ≤ phi S t; have z1 := sr.2.1; have z2 := sr.2.2.1; omega) (by show _ ≤ psi S t; have z1 := sr.2.1; have z2 := sr.2.2.1; omega) dAT_giveOver_42 ⟨(by refine Eq.symm ?_; refine (op_some n_11).trans ?_; refine (if_neg c_12).trans ?_; rfl), (by refine Eq.symm ?_; refine (op_some n_11).trans ?_; refine (if_neg c_12).trans ?_; rfl)⟩

theorem sRel_giveOver {S : HS} {t a : Nat} (h : sInv S t) (k_a : kd S a = 7) : sRel t S (giveOver_S S t a) := by
  unfold giveOver_S
  have sA : sRel t S (add_S S (gd (fr S 21 t)) (2 : Int32) (fi S 6 a) (0 : Int64) (fl S 5 (gd (fr S 13 a)))) := sRel_add h
  generalize add_S S (gd (fr S 21 t)) (2 : Int32) (fi S 6 a) (0 : Int64) (fl S 5 (gd (fr S 13 a))) = S1 at sA
  have s1 : sRel t S (sfi S1 8 a 0) := sA.tr (sRel_sfi (by decide) sA.1)
  refine opc_P (P := sRel t S) (fun _ => s1) (fun b _ => ite_P (P := sRel t S) (ite_P (P := sRel t S) ?_ ?_) s1)
  · exact s1.tr (sRel_runFrom s1.1)
  · have s2 := s1.tr (sRel_sfl (k := 11) (a := b) (v := 0) s1.1)
    exact s2.tr (sRel_runFrom s2.1)
theorem giveOver_kd {S : HS} {t a : Nat} (h : sInv S t) (k_a : kd S a = 7) : ∀ b, giveOver_R S t a = some b → kd (giveOver_S S t a) b = 7 := by
  intro b hb
  unfold giveOver_R at hb
  unfold giveOver_S
  have sA : sRel t S (add_S S (gd (fr S 21 t)) (2 : Int32) (fi S 6 a) (0 : Int64) (fl S 5 (gd (fr S 13 a)))) := sRel_add h
  generalize add_S S (gd (fr S 21 t)) (2 : Int32) (fi S 6 a) (0 : Int64) (fl S 5 (gd (fr S 13 a))) = S1 at sA hb
  have k1 : kd S1 b = 7 := by
    have hk : ∀ c, fr S1 16 a = some c → kd S1 c = 7 := fun c hc => sA.1.1.1.2.1 16 a c (sA.2.2.2.2.k k_a (by decide)) hc
    cases ho : fr S1 16 a with
    | none => rw [ho] at hb; cases hb
    | some c =>
      rw [ho] at hb
      have hb : (if fi (sfi S1 8 a 0) 8 c = 0 then (if some c = some a then some c else some c) else none) = some b := hb
      split at hb
      · split at hb <;> (cases hb; exact hk _ ho)
      · cases hb
  refine opc_P (P := fun z => kd z b = 7) (fun _ => k1) (fun c _ => ite_P (P := fun z => kd z b = 7) (ite_P (P := fun z => kd z b = 7) k1 k1) k1)
end
section
set_option maxRecDepth 100000 in
theorem FAT_257 : fdOk RAT RTable RTable TTable 12 257 7 6 0 9 := ⟨⟨by decide, by decide, rfl, by decide, rfl, by decide⟩, iwTable, wT_in 218 (by decide +kernel) rfl, rfl⟩
set_option maxRecDepth 100000 in
theorem FAT_268 : fdOk RAT RTable RTable TTable 12 268 7 8 2 15 := ⟨⟨by decide, by decide, rfl, by decide, rfl, by decide⟩, iwTable, wT_in 222 (by decide +kernel) rfl, rfl⟩
set_option maxRecDepth 100000 in
theorem CAT_271 : cV RAT 271 RAT yAT_giveOver cAT_giveOver 3 (some (.object "AlarmTables$Table")) 1 := ⟨⟨wT_in 377 (by decide +kernel) rfl, wT_in 379 (by decide +kernel) rfl, wT_in 10 (by decide +kernel) rfl, wT_in 25 (by decide +kernel) rfl⟩, wT_in 380 rfl rfl, by decide +kernel⟩
set_option maxRecDepth 100000 in
theorem FAT_276 : fdOk RAT RPoint RPoint TPoint 3 276 6 0 1 8 := ⟨⟨by decide, by decide, rfl, by decide, rfl, by decide⟩, iwPoint, wT_in 281 (by decide +kernel) rfl, rfl⟩
set_option maxRecDepth 100000 in
theorem FAT_279 : fdOk RAT RPoint RPoint TPoint 3 279 6 2 2 12 := ⟨⟨by decide, by decide, rfl, by decide, rfl, by decide⟩, iwPoint, wT_in 285 (by decide +kernel) rfl, rfl⟩
set_option maxRecDepth 100000 in
theorem CAT_264 : cV RAT 264 RTable yTable_goOn cTable_goOn 8 none 2 := ⟨⟨wT_in 366 (by decide +kernel) rfl, wT_in 367 (by decide +kernel) rfl, wT_in 368 (by decide +kernel) rfl, wT_in 36 (by decide +kernel) rfl⟩, wT_in 369 rfl rfl, by decide +kernel⟩
set_option maxRecDepth 100000 in
theorem FAT_281 : fdOk RAT RPoint RPoint TPoint 3 281 6 1 2 11 := ⟨⟨by decide, by decide, rfl, by decide, rfl, by decide⟩, iwPoint, wT_in 283 (by decide +kernel) rfl, rfl⟩
set_option maxRecDepth 100000 in
theorem FAT_260 : fdOk RAT RTable RTable TTable 12 260 7 3 2 14 := ⟨⟨by decide, by decide, rfl, by decide, rfl, by decide⟩, iwTable, wT_in 212 (by decide +kernel) rfl, rfl⟩
set_option maxRecDepth 100000 in
theorem CAT_253 : cV RAT 253 RAT yAT_goThrough cAT_goThrough 4 (some (.object "AlarmTables$Table")) 2 := ⟨⟨wT_in 362 (by decide +kernel) rfl, wT_in 364 (by decide +kernel) rfl, wT_in 9 (by decide +kernel) rfl, wT_in 25 (by decide +kernel) rfl⟩, wT_in 365 rfl rfl, by decide +kernel⟩
end
section
def goThrough_R (S : HS) (t : Nat) (a : Nat) (dp : Int32) (rec : HS → Nat → HS) : Option Nat :=
  if (fi S 9 a) = 0 then
    some a
  else
    opc (fr S 15 a) ((giveOver_R S t a))
    (fun b_3 => some a)
def goThrough_S (S : HS) (t : Nat) (a : Nat) (dp : Int32) (rec : HS → Nat → HS) : HS :=
  if (fi S 9 a) = 0 then
    (goOn_S (sfi S 9 a (1 : Int32)) a (0 : Int64) (fr S 14 a))
  else
    opc (fr S 15 a) ((giveOver_S S t a))
    (fun b_3 => (perform_S (goOn_S (add_S S (gd (fr S 21 t)) (1 : Int32) (fi S 6 a) (fl S 8 b_3) (fl S 5 (gd (fr S 13 a)))) a (fl (add_S S (gd (fr S 21 t)) (1 : Int32) (fi S 6 a) (fl S 8 b_3) (fl S 5 (gd (fr S 13 a)))) 8 b_3) (fr (add_S S (gd (fr S 21 t)) (1 : Int32) (fi S 6 a) (fl S 8 b_3) (fl S 5 (gd (fr S 13 a)))) 12 b_3)) t (gd (fr (goOn_S (add_S S (gd (fr S 21 t)) (1 : Int32) (fi S 6 a) (fl S 8 b_3) (fl S 5 (gd (fr S 13 a)))) a (fl (add_S S (gd (fr S 21 t)) (1 : Int32) (fi S 6 a) (fl S 8 b_3) (fl S 5 (gd (fr S 13 a)))) 8 b_3) (fr (add_S S (gd (fr S 21 t)) (1 : Int32) (fi S 6 a) (fl S 8 b_3) (fl S 5 (gd (fr S 13 a)))) 12 b_3)) 11 b_3)) dp rec))
set_option maxRecDepth 20000 in
set_option maxHeartbeats 2000000 in
theorem c_goThrough (l : Launch) (D : va_G) (AC : Nat → ClassId) (S : HS) (t : Nat) (a : Nat) (dp : Int32) (rec : HS → Nat → HS) (k : Nat) (k_t : kd S t = 8) (k_a : kd S a = 7) (hi : sInv S t) (hrec : ¬ (20 : Int32) ≤ dp → ∀ S1 c1, sInv S1 t → kd S1 c1 = 3 → CtV l yAT_makeStep (Cond.code yAT_makeStep cAT_makeStep 4 none :: wT) (8 + 5 * k) (200 + 92 * k) D AC S1 [.ref t, .ref c1, .int (dp + 1)] (phi S1 t) (psi S1 t) (fun S2 => S2 = rec S1 c1)) (hrr : ∀ S1 c1, sInv S1 t → kd S1 c1 = 3 → sRel t S1 (rec S1 c1)) : CtQ l yAT_goThrough (Cond.code yAT_goThrough cAT_goThrough 4 (some (.object "AlarmTables$Table")) :: wT) (11 + 5 * k) (245 + 92 * k) D AC S [.ref t, .ref a, .int dp] (phi S t) (psi S t) (fun r S' => r = goThrough_R S t a dp rec ∧ S' = goThrough_S S t a dp rec) := by
  refine met_of (by decide) (Nat.le_of_ble_eq_true rfl) ?_
  intro p e s m below meth c ls hsz X hW hl
  obtain ⟨hx, hb, hml, hr, hlk, hown, hnm, hts⟩ := X
  have hl : lv_has ls 4 [(0, .ref t), (1, .ref a), (2, .int dp)] := hl
  have mo : mono S S := mono.rf S
  have sr : sRel t S S := sRel.rf hi
  have ht0 := hW.t
  refine lv_aload_n hx hb dAT_goThrough_0 rfl (lv_at hl 1 rfl) ?_
  refine g_i FAT_257 hx hb hts hown hW k_a dAT_goThrough_1 ?_
  refine lv_if_ne (tgt := 23) hx hb dAT_goThrough_4 (by decide) (fun c_1 => ?_) (fun c_1 => ?_)
  · refine lv_aload_n hx hb dAT_goThrough_23 rfl (lv_at hl 1 rfl) ?_
    have kq_2 : ∀ b, fr S 15 a = some b → kd S b = 6 := fun b h => hW.ok.2.1 15 a b k_a h
    refine g_q FAT_268 hx hb hts hown hW k_a dAT_goThrough_24 ?_
    refine q_astore_n (i := 3) (lv' := [(3, va_rf (fr S 15 a)), (0, .ref t), (1, .ref a), (2, .int dp)]) hx hb dAT_goThrough_27 rfl hl (by decide) rfl (fun ls hl => ?_)
    refine q_aload_n hx hb dAT_goThrough_28 rfl (lv_at hl 0 rfl) ?_
    refine q_ifnonnull (tgt := 38) hx hb dAT_goThrough_29 (by decide) (fun n_3 => ?_) (fun b_3 n_3 => ?_)
    · refine lv_aload_n hx hb dAT_goThrough_32 rfl (lv_at hl 1 rfl) ?_
      refine lv_aload_n hx hb dAT_goThrough_33 rfl (lv_at hl 2 rfl) ?_
      have si_4 : sInv S t := sr.1
      have ka_4 := k_a
      refine k_Vq (As := [.ref a]) (rest := []) (c_giveOver l D AC S t a k_t k_a sr.1) CAT_271 ⟨by decide, by decide, _, rfl, rfl⟩ hx hb hml hown hts hW k_t hl.1 rfl rfl (Nat.le_of_ble_eq_true rfl) ⟨⟨by show _ ≤ (11 + 5 * k); omega, by show _ ≤ (245 + 92 * k); omega⟩, ⟨by show _ ≤ phi S t; have z1 := sr.2.1; have z2 := sr.2.2.1; omega, by show _ ≤ psi S t; have z1 := sr.2.1; have z2 := sr.2.2.1; omega⟩⟩ dAT_goThrough_34 (fun r_5 S_5 H locs e_5 hW m_5 _ => ?_)
      obtain ⟨e1_5, e2_5⟩ := e_5
      rw [e2_5] at hW m_5
      rw [e1_5]
      have sr : sRel t S (giveOver_S S t a) := sr.tr (sRel_giveOver sr.1 k_a)
      have k_t := m_5.k k_t (by decide)
      have k_a := m_5.k k_a (by decide)
      have kq_2 := fun b h => m_5.k (kq_2 b h) (by decide)
      have mo := mo.tr m_5
      refine W.tight (k := hz (giveOver_S S t a) - hz S) (n := tz (giveOver_S S t a) - tz S) (by rw [hW.z, hsz]; have := sr.2.2.1.1; omega) (by rw [hW.t, ht0]; have := sr.2.2.1.2; omega) ?_
      have nnp_6 : nn (giveOver_S S t a) := sr.1.2.2.1
      have kq_7 : ∀ b, (giveOver_R S t a) = some b → kd (giveOver_S S t a) b = 7 := giveOver_kd si_4 ka_4
      exact e_q (r := (giveOver_R S t a)) hsz hx hb hr hlk hW (mo) (by show _ ≤ phi S t; have z1 := sr.2.1; have z2 := sr.2.2.1; omega) (by show _ ≤ psi S t; have z1 := sr.2.1; have z2 := sr.2.2.1; omega) dAT_goThrough_37 ⟨(by refine Eq.symm ?_; refine (if_neg c_1).trans ?_; refine (op_none n_3).trans ?_; rfl), (by refine Eq.symm ?_; refine (if_neg c_1).trans ?_; refine (op_none n_3).trans ?_; rfl)⟩
    · have k_b_3 : kd S b_3 = 6 := kq_2 b_3 n_3
      refine lv_aload_n hx hb dAT_goThrough_38 rfl (lv_at hl 1 rfl) ?_
      have kq_8 : ∀ b, fr S 21 t = some b → kd S b = 4 := fun b h => hW.ok.2.1 21 t b k_t h
      refine g_q FAT_30 hx hb hts hown hW k_t dAT_goThrough_39 ?_
      refine lv_iconst (v := (1 : Int32)) hx hb dAT_goThrough_42 (by decide) ?_
      refine lv_aload_n hx hb dAT_goThrough_43 rfl (lv_at hl 2 rfl) ?_
      refine g_i FAT_275 hx hb hts hown hW k_a dAT_goThrough_44 ?_
      refine q_aload_n hx hb dAT_goThrough_47 rfl (lv_at hl 0 rfl) ?_
      refine q_some n_3 ?_
      refine g_l FAT_276 hx hb hts hown hW k_b_3 dAT_goThrough_48 ?_
      refine lv_aload_n hx hb dAT_goThrough_51 rfl (lv_at hl 2 rfl) ?_
      have kq_9 : ∀ b, fr S 13 a = some b → kd S b = 3 := fun b h => hW.ok.2.1 13 a b k_a h
      refine g_q FAT_138 hx hb hts hown hW k_a dAT_goThrough_52 ?_
      have n_10 : fr S 13 a = some (gd (fr S 13 a)) := gd_some (hi.2.2.1 13 a rfl k_a)
      have kb_11 : kd S (gd (fr S 13 a)) = 3 := kq_9 (gd (fr S 13 a)) n_10
      refine q_some n_10 ?_
      refine g_l FAT_238 hx hb hts hown hW kb_11 dAT_goThrough_55 ?_
      have n_12 : fr S 21 t = some (gd (fr S 21 t)) := gd_some (hi.2.2.1 21 t rfl k_t)
      have kb_13 : kd S (gd (fr S 21 t)) = 4 := kq_8 (gd (fr S 21 t)) n_12
      refine q_some4 n_12 ?_
      refine k_Vv (As := [.int (1 : Int32), .int (fi S 6 a), .long (fl S 8 b_3), .long (fl S 5 (gd (fr S 13 a)))]) (rest := []) (c_add l D AC S (gd (fr S 21 t)) (1 : Int32) (fi S 6 a) (fl S 8 b_3) (fl S 5 (gd (fr S 13 a))) kb_13 sr.1.2.2.1 sr.1.2.2.2.2.1.1 sr.1.2.2.2.2.1.2.1 sr.1.2.2.2.2.1.2.2.1 sr.1.2.2.2.1) CAT_241 ⟨by decide, by decide, _, rfl, rfl⟩ hx hb hml hown hts hW kb_13 hl.1 rfl rfl (Nat.le_of_ble_eq_true rfl) ⟨⟨by show _ ≤ (11 + 5 * k); omega, by show _ ≤ (245 + 92 * k); omega⟩, ⟨by show _ ≤ phi S t; have z1 := sr.2.1; have z2 := sr.2.2.1; have z3 : addC S (gd (fr S 21 t)) ≤ phi S t ∧ addM S (gd (fr S 21 t)) ≤ psi S t := addC_le sr.1; omega, by show _ ≤ psi S t; have z1 := sr.2.1; have z2 := sr.2.2.1; have z3 : addC S (gd (fr S 21 t)) ≤ phi S t ∧ addM S (gd (fr S 21 t)) ≤ psi S t := addC_le sr.1; omega⟩⟩ dAT_goThrough_58 (fun S_14 H locs e_14 hW m_14 _ => ?_)
      rw [e_14] at hW m_14
      have sr : sRel t S (add_S S (gd (fr S 21 t)) (1 : Int32) (fi S 6 a) (fl S 8 b_3) (fl S 5 (gd (fr S 13 a)))) := sr.tr (sRel_add sr.1)
      have k_t := m_14.k k_t (by decide)
      have k_a := m_14.k k_a (by decide)
      have k_b_3 := m_14.k k_b_3 (by decide)
      have kb_11 := m_14.k kb_11 (by decide)
      have kb_13 := m_14.k kb_13 (by decide)
      have kq_2 := fun b h => m_14.k (kq_2 b h) (by decide)
      have kq_8 := fun b h => m_14.k (kq_8 b h) (by decide)
      have kq_9 := fun b h => m_14.k (kq_9 b h) (by decide)
      have mo := mo.tr m_14
      refine W.tight (k := hz (add_S S (gd (fr S 21 t)) (1 : Int32) (fi S 6 a) (fl S 8 b_3) (fl S 5 (gd (fr S 13 a)))) - hz S) (n := tz (add_S S (gd (fr S 21 t)) (1 : Int32) (fi S 6 a) (fl S 8 b_3) (fl S 5 (gd (fr S 13 a)))) - tz S) (by rw [hW.z, hsz]; have := sr.2.2.1.1; omega) (by rw [hW.t, ht0]; have := sr.2.2.1.2; omega) ?_
      have nnp_15 : nn (add_S S (gd (fr S 21 t)) (1 : Int32) (fi S 6 a) (fl S 8 b_3) (fl S 5 (gd (fr S 13 a)))) := sr.1.2.2.1
      refine lv_aload_n hx hb dAT_goThrough_61 rfl (lv_at hl 2 rfl) ?_
      refine q_aload_n hx hb dAT_goThrough_62 rfl (lv_at hl 0 rfl) ?_
      refine q_some n_3 ?_
      refine g_l FAT_276 hx hb hts hown hW k_b_3 dAT_goThrough_63 ?_
      refine q_aload_n hx hb dAT_goThrough_66 rfl (lv_at hl 0 rfl) ?_
      refine q_some n_3 ?_
      have kq_16 : ∀ b, fr (add_S S (gd (fr S 21 t)) (1 : Int32) (fi S 6 a) (fl S 8 b_3) (fl S 5 (gd (fr S 13 a)))) 12 b_3 = some b → kd (add_S S (gd (fr S 21 t)) (1 : Int32) (fi S 6 a) (fl S 8 b_3) (fl S 5 (gd (fr S 13 a)))) b = 6 := fun b h => hW.ok.2.1 12 b_3 b k_b_3 h
      refine g_q FAT_279 hx hb hts hown hW k_b_3 dAT_goThrough_67 ?_
      refine k_Vv (As := [.long (fl (add_S S (gd (fr S 21 t)) (1 : Int32) (fi S 6 a) (fl S 8 b_3) (fl S 5 (gd (fr S 13 a)))) 8 b_3), va_rf (fr (add_S S (gd (fr S 21 t)) (1 : Int32) (fi S 6 a) (fl S 8 b_3) (fl S 5 (gd (fr S 13 a)))) 12 b_3)]) (rest := []) (c_goOn l D AC (add_S S (gd (fr S 21 t)) (1 : Int32) (fi S 6 a) (fl S 8 b_3) (fl S 5 (gd (fr S 13 a)))) a (fl (add_S S (gd (fr S 21 t)) (1 : Int32) (fi S 6 a) (fl S 8 b_3) (fl S 5 (gd (fr S 13 a)))) 8 b_3) (fr (add_S S (gd (fr S 21 t)) (1 : Int32) (fi S 6 a) (fl S 8 b_3) (fl S 5 (gd (fr S 13 a)))) 12 b_3) k_a kq_16 sr.1.2.2.1) CAT_264 ⟨by decide, by decide, _, rfl, rfl⟩ hx hb hml hown hts hW k_a hl.1 rfl rfl (Nat.le_of_ble_eq_true rfl) ⟨⟨by show _ ≤ (11 + 5 * k); omega, by show _ ≤ (245 + 92 * k); omega⟩, ⟨by show _ ≤ phi S t; have z1 := sr.2.1; have z2 := sr.2.2.1; omega, by show _ ≤ psi S t; have z1 := sr.2.1; have z2 := sr.2.2.1; omega⟩⟩ dAT_goThrough_70 (fun S_17 H locs e_17 hW m_17 _ => ?_)
      rw [e_17] at hW m_17
      have sr : sRel t S (goOn_S (add_S S (gd (fr S 21 t)) (1 : Int32) (fi S 6 a) (fl S 8 b_3) (fl S 5 (gd (fr S 13 a)))) a (fl (add_S S (gd (fr S 21 t)) (1 : Int32) (fi S 6 a) (fl S 8 b_3) (fl S 5 (gd (fr S 13 a)))) 8 b_3) (fr (add_S S (gd (fr S 21 t)) (1 : Int32) (fi S 6 a) (fl S 8 b_3) (fl S 5 (gd (fr S 13 a)))) 12 b_3)) := sr.tr (sRel_goOn sr.1 kq_16)
      have k_t := m_17.k k_t (by decide)
      have k_a := m_17.k k_a (by decide)
      have k_b_3 := m_17.k k_b_3 (by decide)
      have kb_11 := m_17.k kb_11 (by decide)
      have kb_13 := m_17.k kb_13 (by decide)
      have kq_2 := fun b h => m_17.k (kq_2 b h) (by decide)
      have kq_8 := fun b h => m_17.k (kq_8 b h) (by decide)
      have kq_9 := fun b h => m_17.k (kq_9 b h) (by decide)
      have kq_16 := fun b h => m_17.k (kq_16 b h) (by decide)
      have mo := mo.tr m_17
      refine W.tight (k := hz (goOn_S (add_S S (gd (fr S 21 t)) (1 : Int32) (fi S 6 a) (fl S 8 b_3) (fl S 5 (gd (fr S 13 a)))) a (fl (add_S S (gd (fr S 21 t)) (1 : Int32) (fi S 6 a) (fl S 8 b_3) (fl S 5 (gd (fr S 13 a)))) 8 b_3) (fr (add_S S (gd (fr S 21 t)) (1 : Int32) (fi S 6 a) (fl S 8 b_3) (fl S 5 (gd (fr S 13 a)))) 12 b_3)) - hz S) (n := tz (goOn_S (add_S S (gd (fr S 21 t)) (1 : Int32) (fi S 6 a) (fl S 8 b_3) (fl S 5 (gd (fr S 13 a)))) a (fl (add_S S (gd (fr S 21 t)) (1 : Int32) (fi S 6 a) (fl S 8 b_3) (fl S 5 (gd (fr S 13 a)))) 8 b_3) (fr (add_S S (gd (fr S 21 t)) (1 : Int32) (fi S 6 a) (fl S 8 b_3) (fl S 5 (gd (fr S 13 a)))) 12 b_3)) - tz S) (by rw [hW.z, hsz]; have := sr.2.2.1.1; omega) (by rw [hW.t, ht0]; have := sr.2.2.1.2; omega) ?_
      have nnp_18 : nn (goOn_S (add_S S (gd (fr S 21 t)) (1 : Int32) (fi S 6 a) (fl S 8 b_3) (fl S 5 (gd (fr S 13 a)))) a (fl (add_S S (gd (fr S 21 t)) (1 : Int32) (fi S 6 a) (fl S 8 b_3) (fl S 5 (gd (fr S 13 a)))) 8 b_3) (fr (add_S S (gd (fr S 21 t)) (1 : Int32) (fi S 6 a) (fl S 8 b_3) (fl S 5 (gd (fr S 13 a)))) 12 b_3)) := sr.1.2.2.1
      refine lv_aload_n hx hb dAT_goThrough_73 rfl (lv_at hl 1 rfl) ?_
      refine q_aload_n hx hb dAT_goThrough_74 rfl (lv_at hl 0 rfl) ?_
      refine q_some n_3 ?_
      have kq_19 : ∀ b, fr (goOn_S (add_S S (gd (fr S 21 t)) (1 : Int32) (fi S 6 a) (fl S 8 b_3) (fl S 5 (gd (fr S 13 a)))) a (fl (add_S S (gd (fr S 21 t)) (1 : Int32) (fi S 6 a) (fl S 8 b_3) (fl S 5 (gd (fr S 13 a)))) 8 b_3) (fr (add_S S (gd (fr S 21 t)) (1 : Int32) (fi S 6 a) (fl S 8 b_3) (fl S 5 (gd (fr S 13 a)))) 12 b_3)) 11 b_3 = some b → kd (goOn_S (add_S S (gd (fr S 21 t)) (1 : Int32) (fi S 6 a) (fl S 8 b_3) (fl S 5 (gd (fr S 13 a)))) a (fl (add_S S (gd (fr S 21 t)) (1 : Int32) (fi S 6 a) (fl S 8 b_3) (fl S 5 (gd (fr S 13 a)))) 8 b_3) (fr (add_S S (gd (fr S 21 t)) (1 : Int32) (fi S 6 a) (fl S 8 b_3) (fl S 5 (gd (fr S 13 a)))) 12 b_3)) b = 1 := fun b h => hW.ok.2.1 11 b_3 b k_b_3 h
      refine g_q FAT_281 hx hb hts hown hW k_b_3 dAT_goThrough_75 ?_
      refine lv_iload_n hx hb dAT_goThrough_78 rfl (lv_at hl 3 rfl) ?_
      have n_20 : fr (goOn_S (add_S S (gd (fr S 21 t)) (1 : Int32) (fi S 6 a) (fl S 8 b_3) (fl S 5 (gd (fr S 13 a)))) a (fl (add_S S (gd (fr S 21 t)) (1 : Int32) (fi S 6 a) (fl S 8 b_3) (fl S 5 (gd (fr S 13 a)))) 8 b_3) (fr (add_S S (gd (fr S 21 t)) (1 : Int32) (fi S 6 a) (fl S 8 b_3) (fl S 5 (gd (fr S 13 a)))) 12 b_3)) 11 b_3 = some (gd (fr (goOn_S (add_S S (gd (fr S 21 t)) (1 : Int32) (fi S 6 a) (fl S 8 b_3) (fl S 5 (gd (fr S 13 a)))) a (fl (add_S S (gd (fr S 21 t)) (1 : Int32) (fi S 6 a) (fl S 8 b_3) (fl S 5 (gd (fr S 13 a)))) 8 b_3) (fr (add_S S (gd (fr S 21 t)) (1 : Int32) (fi S 6 a) (fl S 8 b_3) (fl S 5 (gd (fr S 13 a)))) 12 b_3)) 11 b_3)) := gd_some (nnp_18 11 b_3 rfl k_b_3)
      have kb_21 : kd (goOn_S (add_S S (gd (fr S 21 t)) (1 : Int32) (fi S 6 a) (fl S 8 b_3) (fl S 5 (gd (fr S 13 a)))) a (fl (add_S S (gd (fr S 21 t)) (1 : Int32) (fi S 6 a) (fl S 8 b_3) (fl S 5 (gd (fr S 13 a)))) 8 b_3) (fr (add_S S (gd (fr S 21 t)) (1 : Int32) (fi S 6 a) (fl S 8 b_3) (fl S 5 (gd (fr S 13 a)))) 12 b_3)) (gd (fr (goOn_S (add_S S (gd (fr S 21 t)) (1 : Int32) (fi S 6 a) (fl S 8 b_3) (fl S 5 (gd (fr S 13 a)))) a (fl (add_S S (gd (fr S 21 t)) (1 : Int32) (fi S 6 a) (fl S 8 b_3) (fl S 5 (gd (fr S 13 a)))) 8 b_3) (fr (add_S S (gd (fr S 21 t)) (1 : Int32) (fi S 6 a) (fl S 8 b_3) (fl S 5 (gd (fr S 13 a)))) 12 b_3)) 11 b_3)) = 1 := kq_19 (gd (fr (goOn_S (add_S S (gd (fr S 21 t)) (1 : Int32) (fi S 6 a) (fl S 8 b_3) (fl S 5 (gd (fr S 13 a)))) a (fl (add_S S (gd (fr S 21 t)) (1 : Int32) (fi S 6 a) (fl S 8 b_3) (fl S 5 (gd (fr S 13 a)))) 8 b_3) (fr (add_S S (gd (fr S 21 t)) (1 : Int32) (fi S 6 a) (fl S 8 b_3) (fl S 5 (gd (fr S 13 a)))) 12 b_3)) 11 b_3)) n_20
      refine q_some1 n_20 ?_
      refine k_Vv (As := [.ref (gd (fr (goOn_S (add_S S (gd (fr S 21 t)) (1 : Int32) (fi S 6 a) (fl S 8 b_3) (fl S 5 (gd (fr S 13 a)))) a (fl (add_S S (gd (fr S 21 t)) (1 : Int32) (fi S 6 a) (fl S 8 b_3) (fl S 5 (gd (fr S 13 a)))) 8 b_3) (fr (add_S S (gd (fr S 21 t)) (1 : Int32) (fi S 6 a) (fl S 8 b_3) (fl S 5 (gd (fr S 13 a)))) 12 b_3)) 11 b_3)), .int dp]) (rest := []) (c_perform l D AC (goOn_S (add_S S (gd (fr S 21 t)) (1 : Int32) (fi S 6 a) (fl S 8 b_3) (fl S 5 (gd (fr S 13 a)))) a (fl (add_S S (gd (fr S 21 t)) (1 : Int32) (fi S 6 a) (fl S 8 b_3) (fl S 5 (gd (fr S 13 a)))) 8 b_3) (fr (add_S S (gd (fr S 21 t)) (1 : Int32) (fi S 6 a) (fl S 8 b_3) (fl S 5 (gd (fr S 13 a)))) 12 b_3)) t (gd (fr (goOn_S (add_S S (gd (fr S 21 t)) (1 : Int32) (fi S 6 a) (fl S 8 b_3) (fl S 5 (gd (fr S 13 a)))) a (fl (add_S S (gd (fr S 21 t)) (1 : Int32) (fi S 6 a) (fl S 8 b_3) (fl S 5 (gd (fr S 13 a)))) 8 b_3) (fr (add_S S (gd (fr S 21 t)) (1 : Int32) (fi S 6 a) (fl S 8 b_3) (fl S 5 (gd (fr S 13 a)))) 12 b_3)) 11 b_3)) dp rec k k_t kb_21 sr.1 hrec hrr) CAT_249 ⟨by decide, by decide, _, rfl, rfl⟩ hx hb hml hown hts hW k_t hl.1 rfl rfl (Nat.le_of_ble_eq_true rfl) ⟨⟨by show _ ≤ (11 + 5 * k); omega, by show _ ≤ (245 + 92 * k); omega⟩, ⟨by show _ ≤ phi S t; have z1 := sr.2.1; have z2 := sr.2.2.1; omega, by show _ ≤ psi S t; have z1 := sr.2.1; have z2 := sr.2.2.1; omega⟩⟩ dAT_goThrough_79 (fun S_22 H locs e_22 hW m_22 _ => ?_)
      rw [e_22] at hW m_22
      have sr : sRel t S (perform_S (goOn_S (add_S S (gd (fr S 21 t)) (1 : Int32) (fi S 6 a) (fl S 8 b_3) (fl S 5 (gd (fr S 13 a)))) a (fl (add_S S (gd (fr S 21 t)) (1 : Int32) (fi S 6 a) (fl S 8 b_3) (fl S 5 (gd (fr S 13 a)))) 8 b_3) (fr (add_S S (gd (fr S 21 t)) (1 : Int32) (fi S 6 a) (fl S 8 b_3) (fl S 5 (gd (fr S 13 a)))) 12 b_3)) t (gd (fr (goOn_S (add_S S (gd (fr S 21 t)) (1 : Int32) (fi S 6 a) (fl S 8 b_3) (fl S 5 (gd (fr S 13 a)))) a (fl (add_S S (gd (fr S 21 t)) (1 : Int32) (fi S 6 a) (fl S 8 b_3) (fl S 5 (gd (fr S 13 a)))) 8 b_3) (fr (add_S S (gd (fr S 21 t)) (1 : Int32) (fi S 6 a) (fl S 8 b_3) (fl S 5 (gd (fr S 13 a)))) 12 b_3)) 11 b_3)) dp rec) := sr.tr (sRel_perform hrr sr.1 kb_21)
      have k_t := m_22.k k_t (by decide)
      have k_a := m_22.k k_a (by decide)
      have k_b_3 := m_22.k k_b_3 (by decide)
      have kb_11 := m_22.k kb_11 (by decide)
      have kb_13 := m_22.k kb_13 (by decide)
      have kb_21 := m_22.k kb_21 (by decide)
      have kq_2 := fun b h => m_22.k (kq_2 b h) (by decide)
      have kq_8 := fun b h => m_22.k (kq_8 b h) (by decide)
      have kq_9 := fun b h => m_22.k (kq_9 b h) (by decide)
      have kq_16 := fun b h => m_22.k (kq_16 b h) (by decide)
      have kq_19 := fun b h => m_22.k (kq_19 b h) (by decide)
      have mo := mo.tr m_22
      refine W.tight (k := hz (perform_S (goOn_S (add_S S (gd (fr S 21 t)) (1 : Int32) (fi S 6 a) (fl S 8 b_3) (fl S 5 (gd (fr S 13 a)))) a (fl (add_S S (gd (fr S 21 t)) (1 : Int32) (fi S 6 a) (fl S 8 b_3) (fl S 5 (gd (fr S 13 a)))) 8 b_3) (fr (add_S S (gd (fr S 21 t)) (1 : Int32) (fi S 6 a) (fl S 8 b_3) (fl S 5 (gd (fr S 13 a)))) 12 b_3)) t (gd (fr (goOn_S (add_S S (gd (fr S 21 t)) (1 : Int32) (fi S 6 a) (fl S 8 b_3) (fl S 5 (gd (fr S 13 a)))) a (fl (add_S S (gd (fr S 21 t)) (1 : Int32) (fi S 6 a) (fl S 8 b_3) (fl S 5 (gd (fr S 13 a)))) 8 b_3) (fr (add_S S (gd (fr S 21 t)) (1 : Int32) (fi S 6 a) (fl S 8 b_3) (fl S 5 (gd (fr S 13 a)))) 12 b_3)) 11 b_3)) dp rec) - hz S) (n := tz (perform_S (goOn_S (add_S S (gd (fr S 21 t)) (1 : Int32) (fi S 6 a) (fl S 8 b_3) (fl S 5 (gd (fr S 13 a)))) a (fl (add_S S (gd (fr S 21 t)) (1 : Int32) (fi S 6 a) (fl S 8 b_3) (fl S 5 (gd (fr S 13 a)))) 8 b_3) (fr (add_S S (gd (fr S 21 t)) (1 : Int32) (fi S 6 a) (fl S 8 b_3) (fl S 5 (gd (fr S 13 a)))) 12 b_3)) t (gd (fr (goOn_S (add_S S (gd (fr S 21 t)) (1 : Int32) (fi S 6 a) (fl S 8 b_3) (fl S 5 (gd (fr S 13 a)))) a (fl (add_S S (gd (fr S 21 t)) (1 : Int32) (fi S 6 a) (fl S 8 b_3) (fl S 5 (gd (fr S 13 a)))) 8 b_3) (fr (add_S S (gd (fr S 21 t)) (1 : Int32) (fi S 6 a) (fl S 8 b_3) (fl S 5 (gd (fr S 13 a)))) 12 b_3)) 11 b_3)) dp rec) - tz S) (by rw [hW.z, hsz]; have := sr.2.2.1.1; omega) (by rw [hW.t, ht0]; have := sr.2.2.1.2; omega) ?_
      have nnp_23 : nn (perform_S (goOn_S (add_S S (gd (fr S 21 t)) (1 : Int32) (fi S 6 a) (fl S 8 b_3) (fl S 5 (gd (fr S 13 a)))) a (fl (add_S S (gd (fr S 21 t)) (1 : Int32) (fi S 6 a) (fl S 8 b_3) (fl S 5 (gd (fr S 13 a)))) 8 b_3) (fr (add_S S (gd (fr S 21 t)) (1 : Int32) (fi S 6 a) (fl S 8 b_3) (fl S 5 (gd (fr S 13 a)))) 12 b_3)) t (gd (fr (goOn_S (add_S S (gd (fr S 21 t)) (1 : Int32) (fi S 6 a) (fl S 8 b_3) (fl S 5 (gd (fr S 13 a)))) a (fl (add_S S (gd (fr S 21 t)) (1 : Int32) (fi S 6 a) (fl S 8 b_3) (fl S 5 (gd (fr S 13 a)))) 8 b_3) (fr (add_S S (gd (fr S 21 t)) (1 : Int32) (fi S 6 a) (fl S 8 b_3) (fl S 5 (gd (fr S 13 a)))) 12 b_3)) 11 b_3)) dp rec) := sr.1.2.2.1
      refine lv_aload_n hx hb dAT_goThrough_82 rfl (lv_at hl 2 rfl) ?_
      exact e_q (r := some a) hsz hx hb hr hlk hW (mo) (by show _ ≤ phi S t; have z1 := sr.2.1; have z2 := sr.2.2.1; omega) (by show _ ≤ psi S t; have z1 := sr.2.1; have z2 := sr.2.2.1; omega) dAT_goThrough_83 ⟨(by refine Eq.symm ?_; refine (if_neg c_1).trans ?_; refine (op_some n_3).trans ?_; rfl), (by refine Eq.symm ?_; refine (if_neg c_1).trans ?_; refine (op_some n_3).trans ?_; rfl)⟩
  · refine lv_aload_n hx hb dAT_goThrough_7 rfl (lv_at hl 1 rfl) ?_
    refine lv_iconst (v := (1 : Int32)) hx hb dAT_goThrough_8 (by decide) ?_
    refine p_i FAT_257 GTable_begun (fun h => by cases h) hx hb hts hown hW k_a rfl rfl dAT_goThrough_9 (fun H locs hW => ?_)
    have mo := mo.tr (mono_sfi (k := 9) (a := a) (v := (1 : Int32)))
    have sr : sRel t S (sfi S 9 a (1 : Int32)) := sr.tr (sRel_sfi (by decide) sr.1)
    refine W.tight (k := hz (sfi S 9 a (1 : Int32)) - hz S) (n := tz (sfi S 9 a (1 : Int32)) - tz S) (by rw [hW.z, hsz]; have := sr.2.2.1.1; omega) (by rw [hW.t, ht0]; have := sr.2.2.1.2; omega) ?_
    have nnp_24 : nn (sfi S 9 a (1 : Int32)) := nn_sfi hi.2.2.1
    refine lv_aload_n hx hb dAT_goThrough_12 rfl (lv_at hl 1 rfl) ?_
    refine lv_lconst (v := (0 : Int64)) hx hb dAT_goThrough_13 (by decide) ?_
    refine lv_aload_n hx hb dAT_goThrough_14 rfl (lv_at hl 1 rfl) ?_
    have kq_25 : ∀ b, fr S 14 a = some b → kd (sfi S 9 a (1 : Int32)) b = 6 := fun b h => hW.ok.2.1 14 a b k_a h
    refine g_q FAT_260 hx hb hts hown hW k_a dAT_goThrough_15 ?_
    rw [show fr (sfi S 9 a (1 : Int32)) 14 a = fr S 14 a from rfl]
    refine k_Vv (As := [.long (0 : Int64), va_rf (fr S 14 a)]) (rest := []) (c_goOn l D AC (sfi S 9 a (1 : Int32)) a (0 : Int64) (fr S 14 a) k_a kq_25 sr.1.2.2.1) CAT_264 ⟨by decide, by decide, _, rfl, rfl⟩ hx hb hml hown hts hW k_a hl.1 rfl rfl (Nat.le_of_ble_eq_true rfl) ⟨⟨by show _ ≤ (11 + 5 * k); omega, by show _ ≤ (245 + 92 * k); omega⟩, ⟨by show _ ≤ phi S t; have z1 := sr.2.1; have z2 := sr.2.2.1; omega, by show _ ≤ psi S t; have z1 := sr.2.1; have z2 := sr.2.2.1; omega⟩⟩ dAT_goThrough_18 (fun S_26 H locs e_26 hW m_26 _ => ?_)
    rw [e_26] at hW m_26
    have sr : sRel t S (goOn_S (sfi S 9 a (1 : Int32)) a (0 : Int64) (fr S 14 a)) := sr.tr (sRel_goOn sr.1 kq_25)
    have k_t := m_26.k k_t (by decide)
    have k_a := m_26.k k_a (by decide)
    have kq_25 := fun b h => m_26.k (kq_25 b h) (by decide)
    have mo := mo.tr m_26
    refine W.tight (k := hz (goOn_S (sfi S 9 a (1 : Int32)) a (0 : Int64) (fr S 14 a)) - hz S) (n := tz (goOn_S (sfi S 9 a (1 : Int32)) a (0 : Int64) (fr S 14 a)) - tz S) (by rw [hW.z, hsz]; have := sr.2.2.1.1; omega) (by rw [hW.t, ht0]; have := sr.2.2.1.2; omega) ?_
    have nnp_27 : nn (goOn_S (sfi S 9 a (1 : Int32)) a (0 : Int64) (fr S 14 a)) := sr.1.2.2.1
    refine lv_aload_n hx hb dAT_goThrough_21 rfl (lv_at hl 1 rfl) ?_
    exact e_q (r := some a) hsz hx hb hr hlk hW (mo) (by show _ ≤ phi S t; have z1 := sr.2.1; have z2 := sr.2.2.1; omega) (by show _ ≤ psi S t; have z1 := sr.2.1; have z2 := sr.2.2.1; omega) dAT_goThrough_22 ⟨(by refine Eq.symm ?_; refine (if_pos c_1).trans ?_; rfl), (by refine Eq.symm ?_; refine (if_pos c_1).trans ?_; rfl)⟩

theorem sRel_goThrough {S : HS} {t a : Nat} {dp : Int32} {rec : HS → Nat → HS} (hrr : ∀ S1 c1, sInv S1 t → kd S1 c1 = 3 → sRel t S1 (rec S1 c1)) (h : sInv S t) (k_a : kd S a = 7) : sRel t S (goThrough_S S t a dp rec) := by
  unfold goThrough_S
  refine ite_P (P := sRel t S) ?_ (opc_P (P := sRel t S) (fun _ => sRel_giveOver h k_a) (fun b hb => ?_))
  · have s1 : sRel t S (sfi S 9 a 1) := sRel_sfi (by decide) h
    exact s1.tr (sRel_goOn s1.1 (fun b hb => h.1.1.2.1 14 a b k_a hb))
  · have k_b : kd S b = 6 := h.1.1.2.1 15 a b k_a hb
    have sA : sRel t S (add_S S (gd (fr S 21 t)) (1 : Int32) (fi S 6 a) (fl S 8 b) (fl S 5 (gd (fr S 13 a)))) := sRel_add h
    generalize add_S S (gd (fr S 21 t)) (1 : Int32) (fi S 6 a) (fl S 8 b) (fl S 5 (gd (fr S 13 a))) = S1 at sA
    have kb1 := sA.2.2.2.2.k k_b (by decide)
    have s2 : sRel t S (goOn_S S1 a (fl S1 8 b) (fr S1 12 b)) := sA.tr (sRel_goOn sA.1 (fun z hz => sA.1.1.1.2.1 12 b z kb1 hz))
    generalize goOn_S S1 a (fl S1 8 b) (fr S1 12 b) = S2 at s2
    exact s2.tr (sRel_perform hrr s2.1 (nn_get s2.1.1.1 s2.1.2.2.1 rfl (s2.2.2.2.2.k k_b (by decide))))
theorem goThrough_kd {S : HS} {t a : Nat} {dp : Int32} {rec : HS → Nat → HS} (hrr : ∀ S1 c1, sInv S1 t → kd S1 c1 = 3 → sRel t S1 (rec S1 c1)) (h : sInv S t) (k_a : kd S a = 7) : ∀ b, goThrough_R S t a dp rec = some b → kd (goThrough_S S t a dp rec) b = 7 := by
  intro b hb
  have s1 := (sRel_goThrough (dp := dp) hrr h k_a).2.2.2.2
  unfold goThrough_R at hb
  by_cases c : fi S 9 a = 0
  · rw [if_pos c] at hb
    cases hb
    exact s1.k k_a (by decide)
  · rw [if_neg c] at hb
    cases ho : fr S 15 a with
    | none =>
      rw [op_none ho] at hb
      have e : goThrough_S S t a dp rec = giveOver_S S t a := (if_neg c).trans (op_none ho)
      rw [e]
      exact giveOver_kd h k_a b hb
    | some x =>
      rw [op_some ho] at hb
      cases hb
      exact s1.k k_a (by decide)
/-- what a table goes through in one step: at most so many things -/
def ttL (t : Nat) (dp : Int32) (rec : HS → Nat → HS) : Nat → HS → Option Nat → HS
  | 0, S, _ => S
  | n + 1, S, o => opc o S (fun b => if fl S 10 b = fl S 6 (gd (fr S 13 b)) then ttL t dp rec n (goThrough_S S t b dp rec) (goThrough_R S t b dp rec) else S)
def takeTableTurn_S (S : HS) (t a : Nat) (dp : Int32) (rec : HS → Nat → HS) : HS :=
  if fi S 8 a = 0 then S else if fl S 10 a = fl S 6 (gd (fr S 13 a)) then ttL t dp rec 8 S (some a) else wakeAt_S S (gd (fr S 13 a)) (fl S 10 a)
theorem sRel_ttL {t : Nat} {dp : Int32} {rec : HS → Nat → HS} (hrr : ∀ S1 c1, sInv S1 t → kd S1 c1 = 3 → sRel t S1 (rec S1 c1)) : ∀ (n : Nat) (S : HS) (o : Option Nat), sInv S t → (∀ b, o = some b → kd S b = 7) → sRel t S (ttL t dp rec n S o)
  | 0, S, _, h, _ => sRel.rf h
  | n + 1, S, o, h, ho => by
    unfold ttL
    refine opc_P (P := sRel t S) (fun _ => sRel.rf h) (fun b hb => ite_P (P := sRel t S) ?_ (sRel.rf h))
    have s1 := sRel_goThrough (dp := dp) hrr h (ho b hb)
    exact s1.tr (sRel_ttL hrr n _ _ s1.1 (goThrough_kd hrr h (ho b hb)))
theorem sRel_takeTableTurn {S : HS} {t a : Nat} {dp : Int32} {rec : HS → Nat → HS} (hrr : ∀ S1 c1, sInv S1 t → kd S1 c1 = 3 → sRel t S1 (rec S1 c1)) (h : sInv S t) (k_a : kd S a = 7) : sRel t S (takeTableTurn_S S t a dp rec) := by
  unfold takeTableTurn_S
  exact ite_P (P := sRel t S) (sRel.rf h) (ite_P (P := sRel t S) (sRel_ttL hrr 8 S _ h (fun b hb => by cases hb; exact k_a)) (sRel_wakeAt h))

set_option maxRecDepth 20000 in
set_option maxHeartbeats 2000000 in
theorem c_takeTableTurn (l : Launch) (D : va_G) (AC : Nat → ClassId) (S : HS) (t a : Nat) (dp : Int32) (rec : HS → Nat → HS) (k : Nat) (k_t : kd S t = 8) (k_a : kd S a = 7) (hi : sInv S t) (hrec : ¬ (20 : Int32) ≤ dp → ∀ S1 c1, sInv S1 t → kd S1 c1 = 3 → CtV l yAT_makeStep (Cond.code yAT_makeStep cAT_makeStep 4 none :: wT) (8 + 5 * k) (200 + 92 * k) D AC S1 [.ref t, .ref c1, .int (dp + 1)] (phi S1 t) (psi S1 t) (fun S2 => S2 = rec S1 c1)) (hrr : ∀ S1 c1, sInv S1 t → kd S1 c1 = 3 → sRel t S1 (rec S1 c1)) : CtV l yAT_takeTableTurn (Cond.code yAT_takeTableTurn cAT_takeTableTurn 5 none :: wT) (12 + 5 * k) (268 + 92 * k) D AC S [.ref t, .ref a, .int dp] (phi S t) (psi S t) (fun S' => S' = takeTableTurn_S S t a dp rec) := by
  refine met_of (by decide) (Nat.le_of_ble_eq_true rfl) ?_
  intro p e s m below meth c ls hsz X hW hl
  obtain ⟨hx, hb, hml, hr, hlk, hown, hnm, hts⟩ := X
  have mo : mono S S := mono.rf S
  have hl : lv_has ls 5 [(0, .ref t), (1, .ref a), (2, .int dp)] := hl
  have sr : sRel t S S := sRel.rf hi
  have ht0 := hW.t
  have loop : ∀ (n j : Nat) (S1 : HS) (ob : Option Nat), j + n = 8 → (∀ b, ob = some b → kd S1 b = 7) → kd S1 t = 8 → ttL t dp rec n S1 ob = takeTableTurn_S S t a dp rec → sRel t S S1 → mono S S1 → ∀ H locs, Wd D AC (AS (hL S) s.heap.size) s s.heap H locs S1 → ∀ ls, lv_has ls 5 [(0, .ref t), (2, .int dp), (3, va_rf ob), (4, .int (nI j))] → W p l e (rmOf (12 + 5 * k) (phi S t) (psi S t) (268 + 92 * k)) s m ([.ref t, .ref a, .int dp] : List Value).toArray below meth c H locs (hz S1 - hz S) (tz S1 - tz S) (MQ below (va_Qv (fun S' => S' = takeTableTurn_S S t a dp rec) (CB D AC S) (AS (hL S) (hz S))) ([.ref t, .ref a, .int dp] : List Value).toArray s (phi S t) (psi S t) (AS (hL S) (hz S))) (F0 m 40 ls []) := by
    intro n
    induction n with
    | zero =>
      intro j S1 ob hj kq_ob k_t hv sr mo H locs hW ls hl
      have nnp_101 : nn S1 := sr.1.2.2.1
      refine lv_iload hx hb dAT_takeTableTurn_40 (lv_at hl 3 rfl) ?_
      refine lv_bipush (v := (8 : Int32)) hx hb dAT_takeTableTurn_42 (by decide) ?_
      refine lv_icmp_ge (tgt := 79) hx hb dAT_takeTableTurn_44 (by decide) (fun c_102 => ?_) (fun c_102 => ?_)
      · exact e_v hsz hx hb hr hlk hW mo (by show _ ≤ phi S t; have z1 := sr.2.1; have z2 := sr.2.2.1; omega) (by show _ ≤ psi S t; have z1 := sr.2.1; have z2 := sr.2.2.1; omega) dAT_takeTableTurn_79 hv
      · exact absurd (by rw [show j = 8 by omega]; decide) c_102
    | succ n ih =>
      intro j S1 ob hj kq_ob k_t hv sr mo H locs hW ls hl
      have nnp_101 : nn S1 := sr.1.2.2.1
      refine lv_iload hx hb dAT_takeTableTurn_40 (lv_at hl 3 rfl) ?_
      refine lv_bipush (v := (8 : Int32)) hx hb dAT_takeTableTurn_42 (by decide) ?_
      refine lv_icmp_ge (tgt := 79) hx hb dAT_takeTableTurn_44 (by decide) (fun c_102 => ?_) (fun c_102 => ?_)
      · exact absurd c_102 (by rw [show (8 : Int32) = nI 8 from rfl, nI_leI (by decide) (by omega)]; omega)
      · refine q_aload_n hx hb dAT_takeTableTurn_47 rfl (lv_at hl 2 rfl) ?_
        refine q_ifnull (tgt := 79) hx hb dAT_takeTableTurn_48 (by decide) (fun n_103 => ?_) (fun b_103 n_103 => ?_)
        · exact e_v hsz hx hb hr hlk hW mo (by show _ ≤ phi S t; have z1 := sr.2.1; have z2 := sr.2.2.1; omega) (by show _ ≤ psi S t; have z1 := sr.2.1; have z2 := sr.2.2.1; omega) dAT_takeTableTurn_79 ((by refine Eq.symm ?_; refine (op_none n_103).trans ?_; rfl : S1 = ttL t dp rec (n + 1) S1 ob).trans hv)
        · have k_b_103 : kd S1 b_103 = 7 := kq_ob b_103 n_103
          refine q_aload_n hx hb dAT_takeTableTurn_51 rfl (lv_at hl 2 rfl) ?_
          refine q_some n_103 ?_
          refine g_l FAT_160 hx hb hts hown hW k_b_103 dAT_takeTableTurn_52 ?_
          refine q_aload_n hx hb dAT_takeTableTurn_55 rfl (lv_at hl 2 rfl) ?_
          refine q_some n_103 ?_
          have kq_104 : ∀ b, fr S1 13 b_103 = some b → kd S1 b = 3 := fun b h => hW.ok.2.1 13 b_103 b k_b_103 h
          refine g_q FAT_138 hx hb hts hown hW k_b_103 dAT_takeTableTurn_56 ?_
          have n_105 : fr S1 13 b_103 = some (gd (fr S1 13 b_103)) := gd_some (nnp_101 13 b_103 rfl k_b_103)
          have kb_106 : kd S1 (gd (fr S1 13 b_103)) = 3 := kq_104 (gd (fr S1 13 b_103)) n_105
          refine q_some n_105 ?_
          refine g_l FAT_154 hx hb hts hown hW kb_106 dAT_takeTableTurn_59 ?_
          refine ll_ne (tgt := 79) hx hb dAT_takeTableTurn_62 dAT_takeTableTurn_63 (by decide) (fun c_107 => ?_) (fun c_107 => ?_)
          · exact e_v hsz hx hb hr hlk hW mo (by show _ ≤ phi S t; have z1 := sr.2.1; have z2 := sr.2.2.1; omega) (by show _ ≤ psi S t; have z1 := sr.2.1; have z2 := sr.2.2.1; omega) dAT_takeTableTurn_79 ((by refine Eq.symm ?_; refine (op_some n_103).trans ?_; refine (if_neg c_107).trans ?_; rfl : S1 = ttL t dp rec (n + 1) S1 ob).trans hv)
          · refine lv_aload_n hx hb dAT_takeTableTurn_66 rfl (lv_at hl 0 rfl) ?_
            refine q_aload_n hx hb dAT_takeTableTurn_67 rfl (lv_at hl 2 rfl) ?_
            refine lv_iload_n hx hb dAT_takeTableTurn_68 rfl (lv_at hl 1 rfl) ?_
            refine q_some1 n_103 ?_
            have si_108 : sInv S1 t := sr.1
            have ka_108 := k_b_103
            refine k_Vq (As := [.ref b_103, .int dp]) (rest := []) (c_goThrough l D AC S1 t b_103 dp rec k k_t k_b_103 sr.1 hrec hrr) CAT_253 ⟨by decide, by decide, _, rfl, rfl⟩ hx hb hml hown hts hW k_t hl.1 rfl rfl (Nat.le_of_ble_eq_true rfl) ⟨⟨by show _ ≤ (12 + 5 * k); omega, by show _ ≤ (268 + 92 * k); omega⟩, ⟨by show _ ≤ phi S t; have z1 := sr.2.1; have z2 := sr.2.2.1; omega, by show _ ≤ psi S t; have z1 := sr.2.1; have z2 := sr.2.2.1; omega⟩⟩ dAT_takeTableTurn_69 (fun r_109 S_109 H locs e_109 hW m_109 _ => ?_)
            obtain ⟨e1_109, e2_109⟩ := e_109
            rw [e2_109] at hW m_109
            rw [e1_109]
            have sr : sRel t S (goThrough_S S1 t b_103 dp rec) := sr.tr (sRel_goThrough hrr sr.1 k_b_103)
            have k_t := m_109.k k_t (by decide)
            have k_b_103 := m_109.k k_b_103 (by decide)
            have kb_106 := m_109.k kb_106 (by decide)
            have kq_ob := fun b h => m_109.k (kq_ob b h) (by decide)
            have kq_104 := fun b h => m_109.k (kq_104 b h) (by decide)
            have mo := mo.tr m_109
            refine W.tight (k := hz (goThrough_S S1 t b_103 dp rec) - hz S) (n := tz (goThrough_S S1 t b_103 dp rec) - tz S) (by rw [hW.z, hsz]; have := sr.2.2.1.1; omega) (by rw [hW.t, ht0]; have := sr.2.2.1.2; omega) ?_
            have nnp_110 : nn (goThrough_S S1 t b_103 dp rec) := sr.1.2.2.1
            have kq_111 : ∀ b, (goThrough_R S1 t b_103 dp rec) = some b → kd (goThrough_S S1 t b_103 dp rec) b = 7 := goThrough_kd hrr si_108 ka_108
            refine q_astore_n (i := 3) (lv' := [(3, va_rf (goThrough_R S1 t b_103 dp rec)), (0, .ref t), (2, .int dp), (4, .int (nI j))]) hx hb dAT_takeTableTurn_72 rfl hl (by decide) rfl (fun ls hl => ?_)
            refine lv_iinc (v := ((nI j) + (1 : Int32))) (lv' := [(4, .int ((nI j) + (1 : Int32))), (3, va_rf (goThrough_R S1 t b_103 dp rec)), (0, .ref t), (2, .int dp)]) hx hb dAT_takeTableTurn_73 hl (k := 3) rfl rfl (by decide) (by simp [q_cat, cat_r, cat_i, cat_l, cat_n]) (fun ls hl => ?_)
            refine lv_goto (tgt := 40) hx hb dAT_takeTableTurn_76 (by decide) ?_
            exact ih (j + 1) (goThrough_S S1 t b_103 dp rec) (goThrough_R S1 t b_103 dp rec) (by omega) kq_111 k_t ((by refine Eq.symm ?_; refine (op_some n_103).trans ?_; refine (if_pos c_107).trans ?_; rfl : ttL t dp rec n (goThrough_S S1 t b_103 dp rec) (goThrough_R S1 t b_103 dp rec) = ttL t dp rec (n + 1) S1 ob).trans hv) sr mo H locs hW ls (by rw [← nI_1]; exact (lv_sub hl [2, 3, 1, 0] rfl))
  refine lv_aload_n hx hb dAT_takeTableTurn_0 rfl (lv_at hl 1 rfl) ?_
  refine g_i FAT_131 hx hb hts hown hW k_a dAT_takeTableTurn_1 ?_
  refine lv_if_ne (tgt := 8) hx hb dAT_takeTableTurn_4 (by decide) (fun c_1 => ?_) (fun c_1 => ?_)
  · refine lv_aload_n hx hb dAT_takeTableTurn_8 rfl (lv_at hl 1 rfl) ?_
    refine g_l FAT_160 hx hb hts hown hW k_a dAT_takeTableTurn_9 ?_
    refine lv_aload_n hx hb dAT_takeTableTurn_12 rfl (lv_at hl 1 rfl) ?_
    have kq_2 : ∀ b, fr S 13 a = some b → kd S b = 3 := fun b h => hW.ok.2.1 13 a b k_a h
    refine g_q FAT_138 hx hb hts hown hW k_a dAT_takeTableTurn_13 ?_
    have n_3 : fr S 13 a = some (gd (fr S 13 a)) := gd_some (hi.2.2.1 13 a rfl k_a)
    have kb_4 : kd S (gd (fr S 13 a)) = 3 := kq_2 (gd (fr S 13 a)) n_3
    refine q_some n_3 ?_
    refine g_l FAT_154 hx hb hts hown hW kb_4 dAT_takeTableTurn_16 ?_
    refine ll_eq (tgt := 35) hx hb dAT_takeTableTurn_19 dAT_takeTableTurn_20 (by decide) (fun c_5 => ?_) (fun c_5 => ?_)
    · refine lv_aload_n hx hb dAT_takeTableTurn_35 rfl (lv_at hl 1 rfl) ?_
      refine lv_astore_n (i := 3) (lv' := [(3, .ref a), (0, .ref t), (1, .ref a), (2, .int dp)]) hx hb dAT_takeTableTurn_36 rfl hl (by decide) rfl (fun ls hl => ?_)
      refine lv_iconst (v := (0 : Int32)) hx hb dAT_takeTableTurn_37 (by decide) ?_
      refine lv_istore (lv' := [(4, .int (0 : Int32)), (3, .ref a), (0, .ref t), (1, .ref a), (2, .int dp)]) hx hb dAT_takeTableTurn_38 hl (by decide) rfl (fun ls hl => ?_)
      refine W.tight (k := hz S - hz S) (n := tz S - tz S) (Nat.le_add_right _ _) (Nat.le_add_right _ _) ?_
      exact loop 8 0 S (some a) (by omega) (fun b h => by cases h; exact k_a) k_t (by refine Eq.symm ?_; refine (if_neg c_1).trans ?_; refine (if_pos c_5).trans ?_; rfl) sr mo _ _ hW ls (lv_sub hl [2, 4, 1, 0] rfl)
    · refine lv_aload_n hx hb dAT_takeTableTurn_23 rfl (lv_at hl 1 rfl) ?_
      refine g_q FAT_138 hx hb hts hown hW k_a dAT_takeTableTurn_24 ?_
      refine lv_aload_n hx hb dAT_takeTableTurn_27 rfl (lv_at hl 1 rfl) ?_
      refine g_l FAT_160 hx hb hts hown hW k_a dAT_takeTableTurn_28 ?_
      refine q_some1 n_3 ?_
      refine k_Vv (As := [.long (fl S 10 a)]) (rest := []) (c_wakeAt l D AC S (gd (fr S 13 a)) (fl S 10 a) kb_4) CAT_163 ⟨by decide, by decide, _, rfl, rfl⟩ hx hb hml hown hts hW kb_4 hl.1 rfl rfl (Nat.le_of_ble_eq_true rfl) ⟨⟨by show _ ≤ (12 + 5 * k); omega, by show _ ≤ (268 + 92 * k); omega⟩, ⟨by show _ ≤ phi S t; have z1 := sr.2.1; have z2 := sr.2.2.1; omega, by show _ ≤ psi S t; have z1 := sr.2.1; have z2 := sr.2.2.1; omega⟩⟩ dAT_takeTableTurn_31 (fun S_6 H locs e_6 hW m_6 _ => ?_)
      rw [e_6] at hW m_6
      have sr : sRel t S (wakeAt_S S (gd (fr S 13 a)) (fl S 10 a)) := sr.tr (sRel_wakeAt sr.1)
      have k_t := m_6.k k_t (by decide)
      have k_a := m_6.k k_a (by decide)
      have kb_4 := m_6.k kb_4 (by decide)
      have kq_2 := fun b h => m_6.k (kq_2 b h) (by decide)
      have mo := mo.tr m_6
      refine W.tight (k := hz (wakeAt_S S (gd (fr S 13 a)) (fl S 10 a)) - hz S) (n := tz (wakeAt_S S (gd (fr S 13 a)) (fl S 10 a)) - tz S) (by rw [hW.z, hsz]; have := sr.2.2.1.1; omega) (by rw [hW.t, ht0]; have := sr.2.2.1.2; omega) ?_
      have nnp_7 : nn (wakeAt_S S (gd (fr S 13 a)) (fl S 10 a)) := sr.1.2.2.1
      exact e_v hsz hx hb hr hlk hW (mo) (by show _ ≤ phi S t; have z1 := sr.2.1; have z2 := sr.2.2.1; omega) (by show _ ≤ psi S t; have z1 := sr.2.1; have z2 := sr.2.2.1; omega) dAT_takeTableTurn_34 ((by refine Eq.symm ?_; refine (if_neg c_1).trans ?_; refine (if_neg c_5).trans ?_; rfl))
  · exact e_v hsz hx hb hr hlk hW (mo) (by show _ ≤ phi S t; have z1 := sr.2.1; have z2 := sr.2.2.1; omega) (by show _ ≤ psi S t; have z1 := sr.2.1; have z2 := sr.2.2.1; omega) dAT_takeTableTurn_7 ((by refine Eq.symm ?_; refine (if_pos c_1).trans ?_; rfl))
end
section
set_option maxRecDepth 100000 in
theorem CAT_228 : cV RAT 228 RAT yAT_takeTableTurn cAT_takeTableTurn 5 none 2 := ⟨⟨wT_in 358 (by decide +kernel) rfl, wT_in 360 (by decide +kernel) rfl, wT_in 8 (by decide +kernel) rfl, wT_in 25 (by decide +kernel) rfl⟩, wT_in 361 rfl rfl, by decide +kernel⟩
set_option maxRecDepth 100000 in
theorem FAT_232 : fdOk RAT RTable RTable TTable 12 232 7 11 2 17 := ⟨⟨by decide, by decide, rfl, by decide, rfl, by decide⟩, iwTable, wT_in 227 (by decide +kernel) rfl, rfl⟩
set_option maxRecDepth 100000 in
theorem FAT_225 : fdOk RAT RCounter RCounter TCounter 12 225 3 10 2 7 := ⟨⟨by decide, by decide, rfl, by decide, rfl, by decide⟩, iwCounter, wT_in 498 (by decide +kernel) rfl, rfl⟩
set_option maxRecDepth 100000 in
theorem CAT_218 : cV RAT 218 RAT yAT_takeAlarmTurn cAT_takeAlarmTurn 3 none 2 := ⟨⟨wT_in 331 (by decide +kernel) rfl, wT_in 333 (by decide +kernel) rfl, wT_in 6 (by decide +kernel) rfl, wT_in 25 (by decide +kernel) rfl⟩, wT_in 334 rfl rfl, by decide +kernel⟩
set_option maxRecDepth 100000 in
theorem FAT_222 : fdOk RAT RAlarm RAlarm TAlarm 7 222 2 6 2 4 := ⟨⟨by decide, by decide, rfl, by decide, rfl, by decide⟩, iwAlarm, wT_in 147 (by decide +kernel) rfl, rfl⟩
set_option maxRecDepth 100000 in
theorem CAT_206 : cV RAT 206 RCounter yCounter_advance cCounter_advance 1 none 0 := ⟨⟨wT_in 326 (by decide +kernel) rfl, wT_in 327 (by decide +kernel) rfl, wT_in 328 (by decide +kernel) rfl, wT_in 32 (by decide +kernel) rfl⟩, wT_in 329 rfl rfl, by decide +kernel⟩
set_option maxRecDepth 100000 in
theorem FAT_209 : fdOk RAT RCounter RCounter TCounter 12 209 3 6 1 7 := ⟨⟨by decide, by decide, rfl, by decide, rfl, by decide⟩, iwCounter, wT_in 492 (by decide +kernel) rfl, rfl⟩
set_option maxRecDepth 100000 in
theorem QAT_212 : Cond.constantLong RAT 212 9223372036854775807 ∈ wT := wT_in 330 (by decide +kernel) rfl
set_option maxRecDepth 100000 in
theorem FAT_214 : fdOk RAT RCounter RCounter TCounter 12 214 3 8 2 5 := ⟨⟨by decide, by decide, rfl, by decide, rfl, by decide⟩, iwCounter, wT_in 495 (by decide +kernel) rfl, rfl⟩
end
section
noncomputable def cho (f : Nat → Option Nat) (o : Option Nat) : List Nat := Classical.epsilon (fun xs => chn f o xs)
theorem cho_spec {f : Nat → Option Nat} {o : Option Nat} (h : ∃ xs, chn f o xs) : chn f o (cho f o) := Classical.epsilon_spec h
def aLp (t : Nat) (dp : Int32) (rec : HS → Nat → HS) : List Nat → HS → HS
  | [], S => S
  | x :: xs, S => aLp t dp rec xs (takeAlarmTurn_S S t x dp rec)
def tLp (t : Nat) (dp : Int32) (rec : HS → Nat → HS) : List Nat → HS → HS
  | [], S => S
  | x :: xs, S => tLp t dp rec xs (takeTableTurn_S S t x dp rec)
noncomputable def mkT (t c : Nat) (dp : Int32) (rec : HS → Nat → HS) (S : HS) : HS := tLp t dp rec (cho (fr S 17) (fr S 7 c)) S
noncomputable def mkA (t c : Nat) (dp : Int32) (rec : HS → Nat → HS) (S : HS) : HS := aLp t dp rec (cho (fr S 4) (fr S 5 c)) S
noncomputable def makeStep_S (S : HS) (t c : Nat) (dp : Int32) (rec : HS → Nat → HS) : HS :=
  if fl (advance_S S c) 6 c < fl (advance_S S c) 7 c then advance_S S c else mkT t c dp rec (mkA t c dp rec (sfl (advance_S S c) 7 c (9223372036854775807 : Int64)))
/-- a chain goes on behind a change that keeps the chain's field -/
theorem chn_step {t : Nat} {S1 S2 : HS} (h : hOk S1) (r : sRel t S1 S2) {b0 K x : Nat} (hb : b0 ≠ 15) (hO : rO b0 = K) (hT : rT b0 = K) (hK : K ≠ 0) (kx : kd S1 x = K) {xs : List Nat} (hc : chn (fr S1 b0) (fr S1 b0 x) xs) : chn (fr S2 b0) (fr S2 b0 x) xs := by
  have hkd := chn_kd h hO hT xs _ hc (fun b hb => (h.2.1 b0 x b (kx.trans hO.symm) hb).trans hT)
  rw [r.2.2.2.1 b0 x (by rw [kx]; exact hK) hb]
  exact chn_congr xs _ (fun y hy => (r.2.2.2.1 b0 y (by rw [hkd y hy]; exact hK) hb).symm) hc
theorem sRel_aLp {t : Nat} {dp : Int32} {rec : HS → Nat → HS} (hrr : ∀ S1 c1, sInv S1 t → kd S1 c1 = 3 → sRel t S1 (rec S1 c1)) : ∀ (xs : List Nat) (S : HS), sInv S t → (∀ x ∈ xs, kd S x = 2) → sRel t S (aLp t dp rec xs S)
  | [], _, h, _ => sRel.rf h
  | x :: xs, S, h, hx => by
    have s1 := sRel_takeAlarmTurn (dp := dp) hrr h (hx x List.mem_cons_self)
    exact s1.tr (sRel_aLp hrr xs _ s1.1 (fun y hy => s1.2.2.2.2.k (hx y (List.mem_cons_of_mem _ hy)) (by decide)))
theorem sRel_tLp {t : Nat} {dp : Int32} {rec : HS → Nat → HS} (hrr : ∀ S1 c1, sInv S1 t → kd S1 c1 = 3 → sRel t S1 (rec S1 c1)) : ∀ (xs : List Nat) (S : HS), sInv S t → (∀ x ∈ xs, kd S x = 7) → sRel t S (tLp t dp rec xs S)
  | [], _, h, _ => sRel.rf h
  | x :: xs, S, h, hx => by
    have s1 := sRel_takeTableTurn (dp := dp) hrr h (hx x List.mem_cons_self)
    exact s1.tr (sRel_tLp hrr xs _ s1.1 (fun y hy => s1.2.2.2.2.k (hx y (List.mem_cons_of_mem _ hy)) (by decide)))
theorem sRel_mkA {t c : Nat} {dp : Int32} {rec : HS → Nat → HS} (hrr : ∀ S1 c1, sInv S1 t → kd S1 c1 = 3 → sRel t S1 (rec S1 c1)) {S : HS} (h : sInv S t) (kc : kd S c = 3) : sRel t S (mkA t c dp rec S) :=
  sRel_aLp hrr _ S h (chn_kd h.1.1 rfl rfl _ _ (cho_spec (h.2.2.2.2.2.1 c kc)) (fun b hb => h.1.1.2.1 5 c b kc hb))
theorem sRel_mkT {t c : Nat} {dp : Int32} {rec : HS → Nat → HS} (hrr : ∀ S1 c1, sInv S1 t → kd S1 c1 = 3 → sRel t S1 (rec S1 c1)) {S : HS} (h : sInv S t) (kc : kd S c = 3) : sRel t S (mkT t c dp rec S) :=
  sRel_tLp hrr _ S h (chn_kd h.1.1 rfl rfl _ _ (cho_spec (h.2.2.2.2.2.2 c kc)) (fun b hb => h.1.1.2.1 7 c b kc hb))
theorem sRel_makeStep {t c : Nat} {dp : Int32} {rec : HS → Nat → HS} (hrr : ∀ S1 c1, sInv S1 t → kd S1 c1 = 3 → sRel t S1 (rec S1 c1)) {S : HS} (h : sInv S t) (kc : kd S c = 3) : sRel t S (makeStep_S S t c dp rec) := by
  unfold makeStep_S
  have s0 : sRel t S (advance_S S c) := sRel_advance h
  generalize advance_S S c = S0 at s0
  have s1 : sRel t S (sfl S0 7 c 9223372036854775807) := s0.tr (sRel_sfl s0.1)
  have s2 := s1.tr (sRel_mkA (c := c) (dp := dp) hrr s1.1 (s1.2.2.2.2.k kc (by decide)))
  exact ite_P (P := sRel t S) s0 (s2.tr (sRel_mkT (c := c) (dp := dp) hrr s2.1 (s2.2.2.2.2.k kc (by decide))))

set_option maxRecDepth 20000 in
set_option maxHeartbeats 2000000 in
theorem c_makeStep (l : Launch) (D : va_G) (AC : Nat → ClassId) (S : HS) (t c : Nat) (dp : Int32) (rec : HS → Nat → HS) (k : Nat) (k_t : kd S t = 8) (k_c : kd S c = 3) (hi : sInv S t) (hrec : ¬ (20 : Int32) ≤ dp → ∀ S1 c1, sInv S1 t → kd S1 c1 = 3 → CtV l yAT_makeStep (Cond.code yAT_makeStep cAT_makeStep 4 none :: wT) (8 + 5 * k) (200 + 92 * k) D AC S1 [.ref t, .ref c1, .int (dp + 1)] (phi S1 t) (psi S1 t) (fun S2 => S2 = rec S1 c1)) (hrr : ∀ S1 c1, sInv S1 t → kd S1 c1 = 3 → sRel t S1 (rec S1 c1)) : CtV l yAT_makeStep (Cond.code yAT_makeStep cAT_makeStep 4 none :: wT) (13 + 5 * k) (292 + 92 * k) D AC S [.ref t, .ref c, .int dp] (phi S t) (psi S t) (fun S' => S' = makeStep_S S t c dp rec) := by
  refine met_of (by decide) (Nat.le_of_ble_eq_true rfl) ?_
  intro p e s m below meth c9 ls hsz X hW hl
  obtain ⟨hx, hb, hml, hr, hlk, hown, hnm, hts⟩ := X
  have mo : mono S S := mono.rf S
  have hl : lv_has ls 4 [(0, .ref t), (1, .ref c), (2, .int dp)] := hl
  have sr : sRel t S S := sRel.rf hi
  have ht0 := hW.t
  have loop2 : ∀ (xs : List Nat) (S1 : HS) (ob : Option Nat), chn (fr S1 17) ob xs → (∀ b, ob = some b → kd S1 b = 7) → kd S1 t = 8 → kd S1 c = 3 → tLp t dp rec xs S1 = makeStep_S S t c dp rec → sRel t S S1 → mono S S1 → ∀ H locs, Wd D AC (AS (hL S) s.heap.size) s s.heap H locs S1 → ∀ ls, lv_has ls 4 [(0, .ref t), (1, .ref c), (2, .int dp), (3, va_rf ob)] → W p l e (rmOf (13 + 5 * k) (phi S t) (psi S t) (292 + 92 * k)) s m ([.ref t, .ref c, .int dp] : List Value).toArray below meth c9 H locs (hz S1 - hz S) (tz S1 - tz S) (MQ below (va_Qv (fun S' => S' = makeStep_S S t c dp rec) (CB D AC S) (AS (hL S) (hz S))) ([.ref t, .ref c, .int dp] : List Value).toArray s (phi S t) (psi S t) (AS (hL S) (hz S))) (F0 m 52 ls []) := by
    intro xs
    induction xs with
    | nil =>
      intro S1 ob hc kq_ob k_t k_c hv sr mo H locs hW ls hl
      have hc : ob = none := hc
      have nnp_101 : nn S1 := sr.1.2.2.1
      refine q_aload_n hx hb dAT_makeStep_52 rfl (lv_at hl 3 rfl) ?_
      refine q_none hc ?_
      refine lv_ifnullN (tgt := 70) hx hb dAT_makeStep_53 (by decide) ?_
      exact e_v hsz hx hb hr hlk hW mo (by show _ ≤ phi S t; have z1 := sr.2.1; have z2 := sr.2.2.1; omega) (by show _ ≤ psi S t; have z1 := sr.2.1; have z2 := sr.2.2.1; omega) dAT_makeStep_70 hv
    | cons x xs ih =>
      intro S1 ob hc kq_ob k_t k_c hv sr mo H locs hW ls hl
      obtain ⟨hc1, hc2⟩ := hc
      have k_x : kd S1 x = 7 := kq_ob x hc1
      have si1 := sr.1
      have kx1 := k_x
      have nnp_101 : nn S1 := sr.1.2.2.1
      refine q_aload_n hx hb dAT_makeStep_52 rfl (lv_at hl 3 rfl) ?_
      refine q_some hc1 ?_
      refine lv_ifnull hx hb dAT_makeStep_53 ?_
      refine lv_aload_n hx hb dAT_makeStep_56 rfl (lv_at hl 0 rfl) ?_
      refine q_aload_n hx hb dAT_makeStep_57 rfl (lv_at hl 3 rfl) ?_
      refine lv_iload_n hx hb dAT_makeStep_58 rfl (lv_at hl 2 rfl) ?_
      refine q_some1 hc1 ?_
      refine k_Vv (As := [.ref x, .int dp]) (rest := []) (c_takeTableTurn l D AC S1 t x dp rec k k_t k_x sr.1 hrec hrr) CAT_228 ⟨by decide, by decide, _, rfl, rfl⟩ hx hb hml hown hts hW k_t hl.1 rfl rfl (Nat.le_of_ble_eq_true rfl) ⟨⟨by show _ ≤ (13 + 5 * k); omega, by show _ ≤ (292 + 92 * k); omega⟩, ⟨by show _ ≤ phi S t; have z1 := sr.2.1; have z2 := sr.2.2.1; omega, by show _ ≤ psi S t; have z1 := sr.2.1; have z2 := sr.2.2.1; omega⟩⟩ dAT_makeStep_59 (fun S_102 H locs e_102 hW m_102 _ => ?_)
      rw [e_102] at hW m_102
      have sr : sRel t S (takeTableTurn_S S1 t x dp rec) := sr.tr (sRel_takeTableTurn hrr sr.1 k_x)
      have k_t := m_102.k k_t (by decide)
      have k_c := m_102.k k_c (by decide)
      have k_x := m_102.k k_x (by decide)
      have kq_ob := fun b h => m_102.k (kq_ob b h) (by decide)
      have mo := mo.tr m_102
      refine W.tight (k := hz (takeTableTurn_S S1 t x dp rec) - hz S) (n := tz (takeTableTurn_S S1 t x dp rec) - tz S) (by rw [hW.z, hsz]; have := sr.2.2.1.1; omega) (by rw [hW.t, ht0]; have := sr.2.2.1.2; omega) ?_
      have nnp_103 : nn (takeTableTurn_S S1 t x dp rec) := sr.1.2.2.1
      refine q_aload_n hx hb dAT_makeStep_62 rfl (lv_at hl 3 rfl) ?_
      refine q_some hc1 ?_
      have kq_104 : ∀ b, fr (takeTableTurn_S S1 t x dp rec) 17 x = some b → kd (takeTableTurn_S S1 t x dp rec) b = 7 := fun b h => hW.ok.2.1 17 x b k_x h
      refine g_q FAT_232 hx hb hts hown hW k_x dAT_makeStep_63 ?_
      refine q_astore_n (i := 3) (lv' := [(3, va_rf (fr (takeTableTurn_S S1 t x dp rec) 17 x)), (0, .ref t), (1, .ref c), (2, .int dp)]) hx hb dAT_makeStep_66 rfl hl (by decide) rfl (fun ls hl => ?_)
      refine lv_goto (tgt := 52) hx hb dAT_makeStep_67 (by decide) ?_
      exact ih (takeTableTurn_S S1 t x dp rec) (fr (takeTableTurn_S S1 t x dp rec) 17 x) (chn_step si1.1.1 (sRel_takeTableTurn hrr si1 kx1) (by decide) rfl rfl (by decide) kx1 hc2) kq_104 k_t k_c hv sr mo H locs hW ls (lv_sub hl [1, 2, 3, 0] rfl)
  have loop1 : ∀ (xs : List Nat) (S1 : HS) (ob : Option Nat), chn (fr S1 4) ob xs → (∀ b, ob = some b → kd S1 b = 2) → kd S1 t = 8 → kd S1 c = 3 → mkT t c dp rec (aLp t dp rec xs S1) = makeStep_S S t c dp rec → sRel t S S1 → mono S S1 → ∀ H locs, Wd D AC (AS (hL S) s.heap.size) s s.heap H locs S1 → ∀ ls, lv_has ls 4 [(0, .ref t), (1, .ref c), (2, .int dp), (3, va_rf ob)] → W p l e (rmOf (13 + 5 * k) (phi S t) (psi S t) (292 + 92 * k)) s m ([.ref t, .ref c, .int dp] : List Value).toArray below meth c9 H locs (hz S1 - hz S) (tz S1 - tz S) (MQ below (va_Qv (fun S' => S' = makeStep_S S t c dp rec) (CB D AC S) (AS (hL S) (hz S))) ([.ref t, .ref c, .int dp] : List Value).toArray s (phi S t) (psi S t) (AS (hL S) (hz S))) (F0 m 29 ls []) := by
    intro xs
    induction xs with
    | nil =>
      intro S1 ob hc kq_ob k_t k_c hv sr mo H locs hW ls hl
      have hc : ob = none := hc
      have nnp_101 : nn S1 := sr.1.2.2.1
      refine q_aload_n hx hb dAT_makeStep_29 rfl (lv_at hl 3 rfl) ?_
      refine q_none hc ?_
      refine lv_ifnullN (tgt := 47) hx hb dAT_makeStep_30 (by decide) ?_
      refine lv_aload_n hx hb dAT_makeStep_47 rfl (lv_at hl 1 rfl) ?_
      have kq_102 : ∀ b, fr S1 7 c = some b → kd S1 b = 7 := fun b h => hW.ok.2.1 7 c b k_c h
      refine g_q FAT_225 hx hb hts hown hW k_c dAT_makeStep_48 ?_
      refine q_astore_n (i := 3) (lv' := [(3, va_rf (fr S1 7 c)), (0, .ref t), (1, .ref c), (2, .int dp)]) hx hb dAT_makeStep_51 rfl hl (by decide) rfl (fun ls hl => ?_)
      exact loop2 _ S1 (fr S1 7 c) (cho_spec (sr.1.2.2.2.2.2.2 c k_c)) kq_102 k_t k_c hv sr mo H locs hW ls (lv_sub hl [1, 2, 3, 0] rfl)
    | cons x xs ih =>
      intro S1 ob hc kq_ob k_t k_c hv sr mo H locs hW ls hl
      obtain ⟨hc1, hc2⟩ := hc
      have k_x : kd S1 x = 2 := kq_ob x hc1
      have si1 := sr.1
      have kx1 := k_x
      have nnp_101 : nn S1 := sr.1.2.2.1
      refine q_aload_n hx hb dAT_makeStep_29 rfl (lv_at hl 3 rfl) ?_
      refine q_some hc1 ?_
      refine lv_ifnull hx hb dAT_makeStep_30 ?_
      refine lv_aload_n hx hb dAT_makeStep_33 rfl (lv_at hl 0 rfl) ?_
      refine q_aload_n hx hb dAT_makeStep_34 rfl (lv_at hl 3 rfl) ?_
      refine lv_iload_n hx hb dAT_makeStep_35 rfl (lv_at hl 2 rfl) ?_
      refine q_some1 hc1 ?_
      refine k_Vv (As := [.ref x, .int dp]) (rest := []) (c_takeAlarmTurn l D AC S1 t x dp rec k k_t k_x sr.1 hrec hrr) CAT_218 ⟨by decide, by decide, _, rfl, rfl⟩ hx hb hml hown hts hW k_t hl.1 rfl rfl (Nat.le_of_ble_eq_true rfl) ⟨⟨by show _ ≤ (13 + 5 * k); omega, by show _ ≤ (292 + 92 * k); omega⟩, ⟨by show _ ≤ phi S t; have z1 := sr.2.1; have z2 := sr.2.2.1; omega, by show _ ≤ psi S t; have z1 := sr.2.1; have z2 := sr.2.2.1; omega⟩⟩ dAT_makeStep_36 (fun S_102 H locs e_102 hW m_102 _ => ?_)
      rw [e_102] at hW m_102
      have sr : sRel t S (takeAlarmTurn_S S1 t x dp rec) := sr.tr (sRel_takeAlarmTurn hrr sr.1 k_x)
      have k_t := m_102.k k_t (by decide)
      have k_c := m_102.k k_c (by decide)
      have k_x := m_102.k k_x (by decide)
      have kq_ob := fun b h => m_102.k (kq_ob b h) (by decide)
      have mo := mo.tr m_102
      refine W.tight (k := hz (takeAlarmTurn_S S1 t x dp rec) - hz S) (n := tz (takeAlarmTurn_S S1 t x dp rec) - tz S) (by rw [hW.z, hsz]; have := sr.2.2.1.1; omega) (by rw [hW.t, ht0]; have := sr.2.2.1.2; omega) ?_
      have nnp_103 : nn (takeAlarmTurn_S S1 t x dp rec) := sr.1.2.2.1
      refine q_aload_n hx hb dAT_makeStep_39 rfl (lv_at hl 3 rfl) ?_
      refine q_some hc1 ?_
      have kq_104 : ∀ b, fr (takeAlarmTurn_S S1 t x dp rec) 4 x = some b → kd (takeAlarmTurn_S S1 t x dp rec) b = 2 := fun b h => hW.ok.2.1 4 x b k_x h
      refine g_q FAT_222 hx hb hts hown hW k_x dAT_makeStep_40 ?_
      refine q_astore_n (i := 3) (lv' := [(3, va_rf (fr (takeAlarmTurn_S S1 t x dp rec) 4 x)), (0, .ref t), (1, .ref c), (2, .int dp)]) hx hb dAT_makeStep_43 rfl hl (by decide) rfl (fun ls hl => ?_)
      refine lv_goto (tgt := 29) hx hb dAT_makeStep_44 (by decide) ?_
      exact ih (takeAlarmTurn_S S1 t x dp rec) (fr (takeAlarmTurn_S S1 t x dp rec) 4 x) (chn_step si1.1.1 (sRel_takeAlarmTurn hrr si1 kx1) (by decide) rfl rfl (by decide) kx1 hc2) kq_104 k_t k_c hv sr mo H locs hW ls (lv_sub hl [1, 2, 3, 0] rfl)
  refine lv_aload_n hx hb dAT_makeStep_0 rfl (lv_at hl 1 rfl) ?_
  refine k_Vv (As := []) (rest := []) (c_advance l D AC S c k_c) CAT_206 ⟨by decide, by decide, _, rfl, rfl⟩ hx hb hml hown hts hW k_c hl.1 rfl rfl (Nat.le_of_ble_eq_true rfl) ⟨⟨by show _ ≤ (13 + 5 * k); omega, by show _ ≤ (292 + 92 * k); omega⟩, ⟨by show _ ≤ phi S t; have z1 := sr.2.1; have z2 := sr.2.2.1; omega, by show _ ≤ psi S t; have z1 := sr.2.1; have z2 := sr.2.2.1; omega⟩⟩ dAT_makeStep_1 (fun S_1 H locs e_1 hW m_1 _ => ?_)
  rw [e_1] at hW m_1
  have sr : sRel t S (advance_S S c) := sr.tr (sRel_advance sr.1)
  have k_t := m_1.k k_t (by decide)
  have k_c := m_1.k k_c (by decide)
  have mo := mo.tr m_1
  refine W.tight (k := hz (advance_S S c) - hz S) (n := tz (advance_S S c) - tz S) (by rw [hW.z, hsz]; have := sr.2.2.1.1; omega) (by rw [hW.t, ht0]; have := sr.2.2.1.2; omega) ?_
  have nnp_2 : nn (advance_S S c) := sr.1.2.2.1
  refine lv_aload_n hx hb dAT_makeStep_4 rfl (lv_at hl 1 rfl) ?_
  refine g_l FAT_154 hx hb hts hown hW k_c dAT_makeStep_5 ?_
  refine lv_aload_n hx hb dAT_makeStep_8 rfl (lv_at hl 1 rfl) ?_
  refine g_l FAT_209 hx hb hts hown hW k_c dAT_makeStep_9 ?_
  refine ll_ge (tgt := 17) hx hb dAT_makeStep_12 dAT_makeStep_13 (by decide) (fun c_3 => ?_) (fun c_3 => ?_)
  · refine lv_aload_n hx hb dAT_makeStep_17 rfl (lv_at hl 1 rfl) ?_
    refine lv_ldc2 (v := (9223372036854775807 : Int64)) hx hb hown (hts _ QAT_212) dAT_makeStep_18 ?_
    refine p_l FAT_209 GCounter_wake (fun h => by cases h) hx hb hts hown hW k_c dAT_makeStep_21 (fun H locs hW => ?_)
    have mo := mo.tr (mono_sfl (k := 7) (a := c) (v := (9223372036854775807 : Int64)))
    have sr : sRel t S (sfl (advance_S S c) 7 c (9223372036854775807 : Int64)) := sr.tr (sRel_sfl sr.1)
    refine W.tight (k := hz (sfl (advance_S S c) 7 c (9223372036854775807 : Int64)) - hz S) (n := tz (sfl (advance_S S c) 7 c (9223372036854775807 : Int64)) - tz S) (by rw [hW.z, hsz]; have := sr.2.2.1.1; omega) (by rw [hW.t, ht0]; have := sr.2.2.1.2; omega) ?_
    have nnp_4 : nn (sfl (advance_S S c) 7 c (9223372036854775807 : Int64)) := nn_sfl nnp_2
    refine lv_aload_n hx hb dAT_makeStep_24 rfl (lv_at hl 1 rfl) ?_
    have kq_5 : ∀ b, fr (advance_S S c) 5 c = some b → kd (sfl (advance_S S c) 7 c (9223372036854775807 : Int64)) b = 2 := fun b h => hW.ok.2.1 5 c b k_c h
    refine g_q FAT_214 hx hb hts hown hW k_c dAT_makeStep_25 ?_
    rw [show fr (sfl (advance_S S c) 7 c (9223372036854775807 : Int64)) 5 c = fr (advance_S S c) 5 c from rfl]
    refine q_astore_n (i := 3) (lv' := [(3, va_rf (fr (advance_S S c) 5 c)), (0, .ref t), (1, .ref c), (2, .int dp)]) hx hb dAT_makeStep_28 rfl hl (by decide) rfl (fun ls hl => ?_)
    exact loop1 _ (sfl (advance_S S c) 7 c (9223372036854775807 : Int64)) (fr (advance_S S c) 5 c) (cho_spec (sr.1.2.2.2.2.2.1 c k_c)) kq_5 k_t k_c (by refine Eq.symm ?_; refine (if_neg c_3).trans ?_; rfl) sr mo H locs hW ls (lv_sub hl [1, 2, 3, 0] rfl)
  · exact e_v hsz hx hb hr hlk hW mo (by show _ ≤ phi S t; have z1 := sr.2.1; have z2 := sr.2.2.1; omega) (by show _ ≤ psi S t; have z1 := sr.2.1; have z2 := sr.2.2.1; omega) dAT_makeStep_16 (by refine Eq.symm ?_; refine (if_pos c_3).trans ?_; rfl)
end
section
set_option maxRecDepth 100000 in
theorem QAT_172 : Cond.constantLong RAT 172 100000 ∈ wT := wT_in 320 (by decide +kernel) rfl
set_option maxRecDepth 100000 in
theorem FAT_174 : fdOk RAT RCounter RCounter TCounter 12 174 3 2 1 3 := ⟨⟨by decide, by decide, rfl, by decide, rfl, by decide⟩, iwCounter, wT_in 483 (by decide +kernel) rfl, rfl⟩
set_option maxRecDepth 100000 in
theorem FAT_177 : fdOk RAT RCounter RCounter TCounter 12 177 3 3 1 4 := ⟨⟨by decide, by decide, rfl, by decide, rfl, by decide⟩, iwCounter, wT_in 484 (by decide +kernel) rfl, rfl⟩
set_option maxRecDepth 100000 in
theorem GCounter_ticksKept : fdPut TCounter 12 3 (.long) false := ⟨rfl, tyCounter_ok 3 (by decide), ⟨tyCounter, tyCounter_ok⟩, nmCounter⟩
set_option maxRecDepth 100000 in
theorem QAT_180 : Cond.constantLong RAT 180 5000 ∈ wT := wT_in 321 (by decide +kernel) rfl
end
section
noncomputable def stF (t : Nat) : Nat → HS → Nat → HS
  | 0, S, _ => S
  | k + 1, S, c => makeStep_S S t c (nI (20 - k)) (stF t k)
theorem sRel_stF (t : Nat) : ∀ (k : Nat) (S : HS) (c : Nat), sInv S t → kd S c = 3 → sRel t S (stF t k S c)
  | 0, _, _, h, _ => sRel.rf h
  | k + 1, _, _, h, kc => sRel_makeStep (dp := nI (20 - k)) (fun S1 c1 => sRel_stF t k S1 c1) h kc
theorem c_stF (l : Launch) (D : va_G) (AC : Nat → ClassId) (t : Nat) : ∀ (k : Nat), k ≤ 19 → ∀ (S : HS) (c : Nat), sInv S t → kd S c = 3 → CtV l yAT_makeStep (Cond.code yAT_makeStep cAT_makeStep 4 none :: wT) (8 + 5 * (k + 1)) (200 + 92 * (k + 1)) D AC S [.ref t, .ref c, .int (nI (20 - k))] (phi S t) (psi S t) (fun S2 => S2 = stF t (k + 1) S c)
  | 0, _, S, c, h, kc => c_makeStep l D AC S t c (nI 20) (stF t 0) 0 h.2.1 kc h (fun q => absurd (show (20 : Int32) ≤ nI 20 by decide) q) (fun S1 c1 => sRel_stF t 0 S1 c1)
  | k + 1, hk, S, c, h, kc => by
    have e1 : 8 + 5 * (k + 1 + 1) = 13 + 5 * (k + 1) := by omega
    have e2 : 200 + 92 * (k + 1 + 1) = 292 + 92 * (k + 1) := by omega
    rw [e1, e2]
    refine c_makeStep l D AC S t c (nI (20 - (k + 1))) (stF t (k + 1)) (k + 1) h.2.1 kc h (fun _ S1 c1 h1 kc1 => ?_) (fun S1 c1 => sRel_stF t (k + 1) S1 c1)
    have e3 : nI (20 - (k + 1)) + 1 = nI (20 - k) := by rw [nI_1]; congr 1; omega
    rw [e3]
    exact c_stF l D AC t k (by omega) S1 c1 h1 kc1
theorem lN_ltD {d : Int64} {j : Nat} (hd : ¬ (5000 : Int64) < d) (hj : j ≤ d.toNatClampNeg) : (lN j < d ↔ j < d.toNatClampNeg) := by
  have h1 : (5000 : Int64).toInt = 5000 := by decide
  rw [Int64.lt_iff_toInt_lt, h1] at hd
  have h2 : d.toNatClampNeg = d.toInt.toNat := rfl
  rw [h2] at hj ⊢
  rw [Int64.lt_iff_toInt_lt, lN_toInt (by omega)]
  omega
theorem ne0_of {x : Int64} (h : ¬ x < (1 : Int64)) : ¬ x = 0 := fun e => h (by rw [e]; decide)
noncomputable def tkL (t c : Nat) : Nat → HS → HS
  | 0, S => S
  | n + 1, S => tkL t c n (stF t 20 S c)
theorem sRel_tkL {t c : Nat} : ∀ (n : Nat) (S : HS), sInv S t → kd S c = 3 → sRel t S (tkL t c n S)
  | 0, _, h, _ => sRel.rf h
  | n + 1, S, h, kc => by
    have s1 := sRel_stF t 20 S c h kc
    exact s1.tr (sRel_tkL n _ s1.1 (s1.2.2.2.2.k kc (by decide)))
abbrev tkD (S : HS) (c : Nat) (x : Int64) : Int64 := (fl S 4 c + x) / fl S 3 c
noncomputable def tick_S (S : HS) (t : Nat) (n : Int32) (x : Int64) : HS :=
  opc (findCounter_R S t n) S (fun c => if x < (0 : Int64) then S else if (100000 : Int64) < x then S else if fl S 3 c < (1 : Int64) then S else if (5000 : Int64) < tkD S c x then S else
    tkL t c (tkD S c x).toNatClampNeg (sfi (sfl S 4 c ((fl S 4 c + x) - tkD S c x * fl S 3 c)) 13 t 0))
noncomputable def tick_R (S : HS) (t : Nat) (n : Int32) (x : Int64) : Int32 :=
  opc (findCounter_R S t n) (-1) (fun c => if x < (0 : Int64) then -2 else if (100000 : Int64) < x then -2 else if fl S 3 c < (1 : Int64) then -2 else if (5000 : Int64) < tkD S c x then -2 else
    fi (tick_S S t n x) 5 (gd (fr (tick_S S t n x) 21 t)) - fi S 5 (gd (fr S 21 t)))
theorem sRel_tick {S : HS} {t : Nat} {n : Int32} {x : Int64} (h : sInv S t) : sRel t S (tick_S S t n x) := by
  unfold tick_S
  refine opc_P (P := sRel t S) (fun _ => sRel.rf h) (fun c hc => ?_)
  have kc : kd S c = 3 := kq_findCounter h.1.1 h.2.1 h.2.2.1 n c hc
  refine ite_P (P := sRel t S) (sRel.rf h) (ite_P (P := sRel t S) (sRel.rf h) (ite_P (P := sRel t S) (sRel.rf h) (ite_P (P := sRel t S) (sRel.rf h) ?_)))
  have s1 : sRel t S (sfl S 4 c ((fl S 4 c + x) - tkD S c x * fl S 3 c)) := sRel_sfl h
  have s2 := s1.tr (sRel_sfi (k := 13) (a := t) (v := 0) (by decide) s1.1)
  exact s2.tr (sRel_tkL _ _ s2.1 (s2.2.2.2.2.k kc (by decide)))

set_option maxRecDepth 20000 in
set_option maxHeartbeats 2000000 in
theorem c_tick (l : Launch) (D : va_G) (AC : Nat → ClassId) (S : HS) (t : Nat) (n : Int32) (x : Int64) (k_t : kd S t = 8) (hi : sInv S t) (ha : atOk S t) : CtI l yAT_tick (Cond.code yAT_tick cAT_tick 12 (some .int) :: wT) 109 2063 D AC S [.ref t, .int n, .long x] (phi S t) (psi S t) (fun r S' => r = tick_R S t n x ∧ S' = tick_S S t n x) := by
  refine met_of (by decide) (Nat.le_of_ble_eq_true rfl) ?_
  intro p e s m below meth c9 ls hsz X hW hl
  obtain ⟨hx, hb, hml, hr, hlk, hown, hnm, hts⟩ := X
  have mo : mono S S := mono.rf S
  have hl : lv_has ls 12 [(0, .ref t), (1, .int n), (2, .long x)] := hl
  have sr : sRel t S S := sRel.rf hi
  have ht0 := hW.t
  have loop : ∀ (c : Nat) (d : Int64) (bf : Int32), ¬ (5000 : Int64) < d → fi (tick_S S t n x) 5 (gd (fr (tick_S S t n x) 21 t)) - bf = tick_R S t n x → ∀ (k j : Nat) (S1 : HS), j + k = d.toNatClampNeg → kd S1 t = 8 → kd S1 c = 3 → tkL t c k S1 = tick_S S t n x → sRel t S S1 → mono S S1 → ∀ H locs, Wd D AC (AS (hL S) s.heap.size) s s.heap H locs S1 → ∀ ls, lv_has ls 12 [(0, .ref t), (4, .ref c), (7, .long d), (9, .int bf), (10, .long (lN j))] → W p l e (rmOf 109 (phi S t) (psi S t) 2063) s m ([.ref t, .int n, .long x] : List Value).toArray below meth c9 H locs (hz S1 - hz S) (tz S1 - tz S) (MQ below (va_Qi (fun r S' => r = tick_R S t n x ∧ S' = tick_S S t n x) (CB D AC S) (AS (hL S) (hz S))) ([.ref t, .int n, .long x] : List Value).toArray s (phi S t) (psi S t) (AS (hL S) (hz S))) (F0 m 102 ls []) := by
    intro c d bf hd hR k
    induction k with
    | zero =>
      intro j S1 hj k_t k_c hv sr mo H locs hW ls hl
      have nnp_101 : nn S1 := sr.1.2.2.1
      refine lv_lload hx hb dAT_tick_102 (lv_at hl 4 rfl) ?_
      refine lv_lload hx hb dAT_tick_104 (lv_at hl 2 rfl) ?_
      refine ll_ge (tgt := 126) hx hb dAT_tick_106 dAT_tick_107 (by decide) (fun c_102 => ?_) (fun c_102 => ?_)
      · refine lv_aload_n hx hb dAT_tick_126 rfl (lv_at hl 0 rfl) ?_
        have kq_103 : ∀ b, fr S1 21 t = some b → kd S1 b = 4 := fun b h => hW.ok.2.1 21 t b k_t h
        refine g_q FAT_30 hx hb hts hown hW k_t dAT_tick_127 ?_
        have n_104 : fr S1 21 t = some (gd (fr S1 21 t)) := gd_some (nnp_101 21 t rfl k_t)
        have kb_105 : kd S1 (gd (fr S1 21 t)) = 4 := kq_103 (gd (fr S1 21 t)) n_104
        refine q_some n_104 ?_
        refine g_i FAT_182 hx hb hts hown hW kb_105 dAT_tick_130 ?_
        refine lv_iload hx hb dAT_tick_133 (lv_at hl 3 rfl) ?_
        refine lv_isub hx hb dAT_tick_135 ?_
        exact e_i hsz hx hb hr hlk hW mo (by show _ ≤ phi S t; have z1 := sr.2.1; have z2 := sr.2.2.1; omega) (by show _ ≤ psi S t; have z1 := sr.2.1; have z2 := sr.2.2.1; omega) dAT_tick_136 ⟨by rw [← hR, ← hv]; rfl, hv⟩
      · exact absurd c_102 (fun q => by have q := (lN_ltD hd (by omega)).mp q; omega)
    | succ k ih =>
      intro j S1 hj k_t k_c hv sr mo H locs hW ls hl
      have nnp_101 : nn S1 := sr.1.2.2.1
      refine lv_lload hx hb dAT_tick_102 (lv_at hl 4 rfl) ?_
      refine lv_lload hx hb dAT_tick_104 (lv_at hl 2 rfl) ?_
      refine ll_ge (tgt := 126) hx hb dAT_tick_106 dAT_tick_107 (by decide) (fun c_102 => ?_) (fun c_102 => ?_)
      · exact absurd ((lN_ltD hd (by omega)).mpr (by omega)) c_102
      · refine lv_aload_n hx hb dAT_tick_110 rfl (lv_at hl 0 rfl) ?_
        refine lv_aload hx hb dAT_tick_111 (lv_at hl 1 rfl) ?_
        refine lv_iconst (v := (1 : Int32)) hx hb dAT_tick_113 (by decide) ?_
        refine k_Vv (As := [.ref c, .int (1 : Int32)]) (rest := []) (c_stF l D AC t 19 (by decide) S1 c sr.1 k_c) CAT_188 ⟨by decide, by decide, _, rfl, rfl⟩ hx hb hml hown hts hW k_t hl.1 rfl rfl (Nat.le_of_ble_eq_true rfl) ⟨⟨by show _ ≤ 109; omega, by show _ ≤ 2063; omega⟩, ⟨by show _ ≤ phi S t; have z1 := sr.2.1; have z2 := sr.2.2.1; omega, by show _ ≤ psi S t; have z1 := sr.2.1; have z2 := sr.2.2.1; omega⟩⟩ dAT_tick_114 (fun S_103 H locs e_103 hW m_103 _ => ?_)
        have e_103 : S_103 = (stF t 20 S1 c) := e_103
        rw [e_103] at hW m_103
        have sr : sRel t S (stF t 20 S1 c) := sr.tr (sRel_stF t 20 _ _ sr.1 k_c)
        have k_t := m_103.k k_t (by decide)
        have k_c := m_103.k k_c (by decide)
        have mo := mo.tr m_103
        refine W.tight (k := hz (stF t 20 S1 c) - hz S) (n := tz (stF t 20 S1 c) - tz S) (by rw [hW.z, hsz]; have := sr.2.2.1.1; omega) (by rw [hW.t, ht0]; have := sr.2.2.1.2; omega) ?_
        have nnp_104 : nn (stF t 20 S1 c) := sr.1.2.2.1
        refine lv_lload hx hb dAT_tick_117 (lv_at hl 4 rfl) ?_
        refine lv_lconst (v := (1 : Int64)) hx hb dAT_tick_119 (by decide) ?_
        refine lv_ladd hx hb dAT_tick_120 ?_
        refine lv_lstore (lv' := [(10, .long ((lN j) + (1 : Int64))), (0, .ref t), (4, .ref c), (7, .long d), (9, .int bf)]) hx hb dAT_tick_121 hl (by decide) rfl (fun ls hl => ?_)
        refine lv_goto (tgt := 102) hx hb dAT_tick_123 (by decide) ?_
        exact ih (j + 1) (stF t 20 S1 c) (by omega) k_t k_c hv sr mo H locs hW ls (by rw [← lN_1]; exact (lv_sub hl [1, 2, 3, 4, 0] rfl))
  refine lv_aload_n hx hb dAT_tick_0 rfl (lv_at hl 0 rfl) ?_
  refine lv_iload_n hx hb dAT_tick_1 rfl (lv_at hl 1 rfl) ?_
  refine k_Vq (As := [.int n]) (rest := []) (c_findCounter l D AC S t n k_t sr.1.2.2.1 ha) CAT_52 ⟨by decide, by decide, _, rfl, rfl⟩ hx hb hml hown hts hW k_t hl.1 rfl rfl (Nat.le_of_ble_eq_true rfl) ⟨⟨Nat.le_of_ble_eq_true rfl, Nat.le_of_ble_eq_true rfl⟩, ⟨by show _ ≤ phi S t; have z1 := sr.2.1; have z2 := sr.2.2.1; omega, by show _ ≤ psi S t; have z1 := sr.2.1; have z2 := sr.2.2.1; omega⟩⟩ dAT_tick_2 (fun r_1 S_1 H locs e_1 hW m_1 _ => ?_)
  obtain ⟨e1_1, e2_1⟩ := e_1
  rw [e2_1] at hW m_1
  rw [e1_1]
  have kq_2 : ∀ b, (findCounter_R S t n) = some b → kd S b = 3 := kq_findCounter hW.ok k_t hi.2.2.1 _
  refine q_astore (lv' := [(4, va_rf (findCounter_R S t n)), (0, .ref t), (1, .int n), (2, .long x)]) hx hb dAT_tick_5 hl (by decide) rfl (fun ls hl => ?_)
  refine q_aload hx hb dAT_tick_7 (lv_at hl 0 rfl) ?_
  refine q_ifnonnull (tgt := 14) hx hb dAT_tick_9 (by decide) (fun n_3 => ?_) (fun b_3 n_3 => ?_)
  · refine lv_iconst (v := (-1 : Int32)) hx hb dAT_tick_12 (by decide) ?_
    exact e_i hsz hx hb hr hlk hW (mo) (by show _ ≤ phi S t; have z1 := sr.2.1; have z2 := sr.2.2.1; omega) (by show _ ≤ psi S t; have z1 := sr.2.1; have z2 := sr.2.2.1; omega) dAT_tick_13 ⟨(by refine Eq.symm ?_; refine (op_none n_3).trans ?_; rfl), (by refine Eq.symm ?_; refine (op_none n_3).trans ?_; rfl)⟩
  · have k_b_3 : kd S b_3 = 3 := kq_2 b_3 n_3
    refine lv_lload_n hx hb dAT_tick_14 rfl (lv_at hl 3 rfl) ?_
    refine lv_lconst (v := (0 : Int64)) hx hb dAT_tick_15 (by decide) ?_
    refine ll_lt (tgt := 38) hx hb dAT_tick_16 dAT_tick_17 (by decide) (fun c_4 => ?_) (fun c_4 => ?_)
    · refine lv_bipush (v := (-2 : Int32)) hx hb dAT_tick_38 (by decide) ?_
      exact e_i hsz hx hb hr hlk hW (mo) (by show _ ≤ phi S t; have z1 := sr.2.1; have z2 := sr.2.2.1; omega) (by show _ ≤ psi S t; have z1 := sr.2.1; have z2 := sr.2.2.1; omega) dAT_tick_40 ⟨(by refine Eq.symm ?_; refine (op_some n_3).trans ?_; refine (if_pos c_4).trans ?_; rfl), (by refine Eq.symm ?_; refine (op_some n_3).trans ?_; refine (if_pos c_4).trans ?_; rfl)⟩
    · refine lv_lload_n hx hb dAT_tick_20 rfl (lv_at hl 3 rfl) ?_
      refine lv_ldc2 (v := (100000 : Int64)) hx hb hown (hts _ QAT_172) dAT_tick_21 ?_
      refine ll_gt (tgt := 38) hx hb dAT_tick_24 dAT_tick_25 (by decide) (fun c_5 => ?_) (fun c_5 => ?_)
      · refine lv_bipush (v := (-2 : Int32)) hx hb dAT_tick_38 (by decide) ?_
        exact e_i hsz hx hb hr hlk hW (mo) (by show _ ≤ phi S t; have z1 := sr.2.1; have z2 := sr.2.2.1; omega) (by show _ ≤ psi S t; have z1 := sr.2.1; have z2 := sr.2.2.1; omega) dAT_tick_40 ⟨(by refine Eq.symm ?_; refine (op_some n_3).trans ?_; refine (if_neg c_4).trans ?_; refine (if_pos c_5).trans ?_; rfl), (by refine Eq.symm ?_; refine (op_some n_3).trans ?_; refine (if_neg c_4).trans ?_; refine (if_pos c_5).trans ?_; rfl)⟩
      · refine q_aload hx hb dAT_tick_28 (lv_at hl 0 rfl) ?_
        refine q_some n_3 ?_
        refine g_l FAT_174 hx hb hts hown hW k_b_3 dAT_tick_30 ?_
        refine lv_lconst (v := (1 : Int64)) hx hb dAT_tick_33 (by decide) ?_
        refine ll_ge (tgt := 41) hx hb dAT_tick_34 dAT_tick_35 (by decide) (fun c_6 => ?_) (fun c_6 => ?_)
        · refine q_aload hx hb dAT_tick_41 (lv_at hl 0 rfl) ?_
          refine q_some n_3 ?_
          refine g_l FAT_177 hx hb hts hown hW k_b_3 dAT_tick_43 ?_
          refine lv_lload_n hx hb dAT_tick_46 rfl (lv_at hl 3 rfl) ?_
          refine lv_ladd hx hb dAT_tick_47 ?_
          refine lv_lstore (lv' := [(5, .long ((fl S 4 b_3) + x)), (4, va_rf (findCounter_R S t n)), (0, .ref t), (1, .int n), (2, .long x)]) hx hb dAT_tick_48 hl (by decide) (by simp [q_cat, cat_r, cat_i, cat_l, cat_n]) (fun ls hl => ?_)
          refine lv_lload hx hb dAT_tick_50 (lv_at hl 0 rfl) ?_
          refine q_aload hx hb dAT_tick_52 (lv_at hl 1 rfl) ?_
          refine q_some n_3 ?_
          refine g_l FAT_174 hx hb hts hown hW k_b_3 dAT_tick_54 ?_
          refine lv_ldiv hx hb dAT_tick_57 (ne0_of c_6) ?_
          refine lv_lstore (lv' := [(7, .long (((fl S 4 b_3) + x) / (fl S 3 b_3))), (5, .long ((fl S 4 b_3) + x)), (4, va_rf (findCounter_R S t n)), (0, .ref t), (1, .int n), (2, .long x)]) hx hb dAT_tick_58 hl (by decide) rfl (fun ls hl => ?_)
          refine lv_lload hx hb dAT_tick_60 (lv_at hl 0 rfl) ?_
          refine lv_ldc2 (v := (5000 : Int64)) hx hb hown (hts _ QAT_180) dAT_tick_62 ?_
          refine ll_le (tgt := 72) hx hb dAT_tick_65 dAT_tick_66 (by decide) (fun c_7 => ?_) (fun c_7 => ?_)
          · refine q_aload hx hb dAT_tick_72 (lv_at hl 2 rfl) ?_
            refine lv_lload hx hb dAT_tick_74 (lv_at hl 1 rfl) ?_
            refine q_aload hx hb dAT_tick_76 (lv_at hl 2 rfl) ?_
            refine q_some n_3 ?_
            refine g_l FAT_174 hx hb hts hown hW k_b_3 dAT_tick_78 ?_
            refine lv_lrem hx hb dAT_tick_81 (ne0_of c_6) ?_
            refine q_some1 n_3 ?_
            refine p_l FAT_177 GCounter_ticksKept (fun h => by cases h) hx hb hts hown hW k_b_3 dAT_tick_82 (fun H locs hW => ?_)
            have mo := mo.tr (mono_sfl (k := 4) (a := b_3) (v := (((fl S 4 b_3) + x) - ((fl S 4 b_3) + x) / (fl S 3 b_3) * (fl S 3 b_3))))
            have sr : sRel t S (sfl S 4 b_3 (((fl S 4 b_3) + x) - ((fl S 4 b_3) + x) / (fl S 3 b_3) * (fl S 3 b_3))) := sr.tr (sRel_sfl sr.1)
            refine W.tight (k := hz (sfl S 4 b_3 (((fl S 4 b_3) + x) - ((fl S 4 b_3) + x) / (fl S 3 b_3) * (fl S 3 b_3))) - hz S) (n := tz (sfl S 4 b_3 (((fl S 4 b_3) + x) - ((fl S 4 b_3) + x) / (fl S 3 b_3) * (fl S 3 b_3))) - tz S) (by rw [hW.z, hsz]; have := sr.2.2.1.1; omega) (by rw [hW.t, ht0]; have := sr.2.2.1.2; omega) ?_
            have nnp_8 : nn (sfl S 4 b_3 (((fl S 4 b_3) + x) - ((fl S 4 b_3) + x) / (fl S 3 b_3) * (fl S 3 b_3))) := nn_sfl hi.2.2.1
            refine lv_aload_n hx hb dAT_tick_85 rfl (lv_at hl 3 rfl) ?_
            have kq_9 : ∀ b, fr S 21 t = some b → kd (sfl S 4 b_3 (((fl S 4 b_3) + x) - ((fl S 4 b_3) + x) / (fl S 3 b_3) * (fl S 3 b_3))) b = 4 := fun b h => hW.ok.2.1 21 t b k_t h
            refine g_q FAT_30 hx hb hts hown hW k_t dAT_tick_86 ?_
            rw [show fr (sfl S 4 b_3 (((fl S 4 b_3) + x) - ((fl S 4 b_3) + x) / (fl S 3 b_3) * (fl S 3 b_3))) 21 t = fr S 21 t from rfl]
            have n_10 : fr S 21 t = some (gd (fr S 21 t)) := gd_some (hi.2.2.1 21 t rfl k_t)
            have kb_11 : kd (sfl S 4 b_3 (((fl S 4 b_3) + x) - ((fl S 4 b_3) + x) / (fl S 3 b_3) * (fl S 3 b_3))) (gd (fr S 21 t)) = 4 := kq_9 (gd (fr S 21 t)) n_10
            refine q_some n_10 ?_
            refine g_i FAT_182 hx hb hts hown hW kb_11 dAT_tick_89 ?_
            rw [show fi (sfl S 4 b_3 (((fl S 4 b_3) + x) - ((fl S 4 b_3) + x) / (fl S 3 b_3) * (fl S 3 b_3))) 5 (gd (fr S 21 t)) = fi S 5 (gd (fr S 21 t)) from rfl]
            refine lv_istore (lv' := [(9, .int (fi S 5 (gd (fr S 21 t)))), (7, .long (((fl S 4 b_3) + x) / (fl S 3 b_3))), (5, .long ((fl S 4 b_3) + x)), (4, va_rf (findCounter_R S t n)), (0, .ref t), (1, .int n), (2, .long x)]) hx hb dAT_tick_92 hl (by decide) rfl (fun ls hl => ?_)
            refine lv_aload_n hx hb dAT_tick_94 rfl (lv_at hl 4 rfl) ?_
            refine lv_iconst (v := (0 : Int32)) hx hb dAT_tick_95 (by decide) ?_
            refine p_i FAT_185 GAT_actSteps (fun h => by cases h) hx hb hts hown hW k_t rfl rfl dAT_tick_96 (fun H locs hW => ?_)
            have mo := mo.tr (mono_sfi (k := 13) (a := t) (v := (0 : Int32)))
            have sr : sRel t S (sfi (sfl S 4 b_3 (((fl S 4 b_3) + x) - ((fl S 4 b_3) + x) / (fl S 3 b_3) * (fl S 3 b_3))) 13 t (0 : Int32)) := sr.tr (sRel_sfi (by decide) sr.1)
            refine W.tight (k := hz (sfi (sfl S 4 b_3 (((fl S 4 b_3) + x) - ((fl S 4 b_3) + x) / (fl S 3 b_3) * (fl S 3 b_3))) 13 t (0 : Int32)) - hz S) (n := tz (sfi (sfl S 4 b_3 (((fl S 4 b_3) + x) - ((fl S 4 b_3) + x) / (fl S 3 b_3) * (fl S 3 b_3))) 13 t (0 : Int32)) - tz S) (by rw [hW.z, hsz]; have := sr.2.2.1.1; omega) (by rw [hW.t, ht0]; have := sr.2.2.1.2; omega) ?_
            have nnp_12 : nn (sfi (sfl S 4 b_3 (((fl S 4 b_3) + x) - ((fl S 4 b_3) + x) / (fl S 3 b_3) * (fl S 3 b_3))) 13 t (0 : Int32)) := nn_sfi nnp_8
            refine lv_lconst (v := (0 : Int64)) hx hb dAT_tick_99 (by decide) ?_
            refine lv_lstore (lv' := [(10, .long (0 : Int64)), (9, .int (fi S 5 (gd (fr S 21 t)))), (7, .long (((fl S 4 b_3) + x) / (fl S 3 b_3))), (5, .long ((fl S 4 b_3) + x)), (4, va_rf (findCounter_R S t n)), (0, .ref t), (1, .int n), (2, .long x)]) hx hb dAT_tick_100 hl (by decide) rfl (fun ls hl => ?_)
            exact loop b_3 (((fl S 4 b_3) + x) / (fl S 3 b_3)) (fi S 5 (gd (fr S 21 t))) c_7 (by refine Eq.symm ?_; refine (op_some n_3).trans ?_; refine (if_neg c_4).trans ?_; refine (if_neg c_5).trans ?_; refine (if_neg c_6).trans ?_; refine (if_neg c_7).trans ?_; rfl) _ 0 (sfi (sfl S 4 b_3 (((fl S 4 b_3) + x) - ((fl S 4 b_3) + x) / (fl S 3 b_3) * (fl S 3 b_3))) 13 t (0 : Int32)) (Nat.zero_add _) k_t k_b_3 (by refine Eq.symm ?_; refine (op_some n_3).trans ?_; refine (if_neg c_4).trans ?_; refine (if_neg c_5).trans ?_; refine (if_neg c_6).trans ?_; refine (if_neg c_7).trans ?_; rfl) sr mo _ _ hW ls (by have hl2 := (lv_sub hl [5, 4, 2, 1, 0] rfl); rw [n_3] at hl2; exact hl2)
          · refine lv_bipush (v := (-2 : Int32)) hx hb dAT_tick_69 (by decide) ?_
            exact e_i hsz hx hb hr hlk hW (mo) (by show _ ≤ phi S t; have z1 := sr.2.1; have z2 := sr.2.2.1; omega) (by show _ ≤ psi S t; have z1 := sr.2.1; have z2 := sr.2.2.1; omega) dAT_tick_71 ⟨(by refine Eq.symm ?_; refine (op_some n_3).trans ?_; refine (if_neg c_4).trans ?_; refine (if_neg c_5).trans ?_; refine (if_neg c_6).trans ?_; refine (if_pos c_7).trans ?_; rfl), (by refine Eq.symm ?_; refine (op_some n_3).trans ?_; refine (if_neg c_4).trans ?_; refine (if_neg c_5).trans ?_; refine (if_neg c_6).trans ?_; refine (if_pos c_7).trans ?_; rfl)⟩
        · refine lv_bipush (v := (-2 : Int32)) hx hb dAT_tick_38 (by decide) ?_
          exact e_i hsz hx hb hr hlk hW (mo) (by show _ ≤ phi S t; have z1 := sr.2.1; have z2 := sr.2.2.1; omega) (by show _ ≤ psi S t; have z1 := sr.2.1; have z2 := sr.2.2.1; omega) dAT_tick_40 ⟨(by refine Eq.symm ?_; refine (op_some n_3).trans ?_; refine (if_neg c_4).trans ?_; refine (if_neg c_5).trans ?_; refine (if_pos c_6).trans ?_; rfl), (by refine Eq.symm ?_; refine (op_some n_3).trans ?_; refine (if_neg c_4).trans ?_; refine (if_neg c_5).trans ?_; refine (if_pos c_6).trans ?_; rfl)⟩
end
section

end
section
theorem cnt_in {x : Int32} {n N len : Nat} (h : x = nI n) (hn : n ≤ N) (hN : N < 2 ^ 31) (c : x < nI N) (hl : len = N) : vp_in x len := by
  subst h
  rw [nI_ltI (by omega) hN] at c
  rw [hl]
  exact vp_in_nI c hN
theorem Wd.k00 {D : va_G} {AC : Nat → ClassId} {A : Nat → Prop} {s : State} {H0 H : Heap} {locs : List Loc} {S : HS} (hW : Wd D AC A s H0 H locs S) : ∀ a, hz S ≤ a → kd S a = 0 := fun a ha => Classical.byContradiction fun z => by
  have := hW.lt (hW.ok.1 _ z)
  omega
theorem nnk1 {k : Nat} (h : nnk k = true) : rO k ≠ 1 := by
  unfold nnk at h
  split at h <;> first | (intro q; cases q; done) | (cases h)
theorem nn_gen {S S' : HS} (h : nn S) (P : Nat → Prop) (ho : ∀ a, ¬ P a → kd S' a = kd S a ∧ ∀ k, fr S' k a = fr S k a) (hn : ∀ a, P a → ∀ k, nnk k = true → kd S' a = rO k → ∃ b, fr S' k a = some b) : nn S' := by
  intro k a hk ha
  by_cases hp : P a
  · exact hn a hp k hk ha
  · obtain ⟨e1, e2⟩ := ho a hp
    rw [e1] at ha
    rw [e2]
    exact h k a hk ha
/-- an object with its act -/
abbrev q2 (S : HS) (K : Nat) : Nat := hz (newQ S (hz S) K)
def mk2 (S : HS) (K : Nat) (c0 a0 : Option Nat) : HS := Act_init_S (newQ (newQ S (hz S) K) (hz (newQ S (hz S) K)) 1) (hz (newQ S (hz S) K)) c0 a0
theorem mk2_fr {S : HS} {K : Nat} {c0 a0 : Option Nat} {k a : Nat} (h1 : a ≠ hz S) (h2 : a ≠ hz S + 1) : fr (mk2 S K c0 a0) k a = fr S k a := by
  show up2 (up2 (zr (zr (fr S) (hz S) none) (hz S + 1) none) 0 (hz S + 1) c0) 1 (hz S + 1) a0 k a = _
  rw [up2_a _ _ _ _ h2, up2_a _ _ _ _ h2]
  simp only [zr, h1, h2, if_false]
theorem mk2_kd {S : HS} {K : Nat} {c0 a0 : Option Nat} {a : Nat} : kd (mk2 S K c0 a0) a = if a = hz S + 1 then 1 else if a = hz S then K else kd S a := rfl
theorem mk2_fi {S : HS} {K : Nat} {c0 a0 : Option Nat} {k a : Nat} (h1 : a ≠ hz S) (h2 : a ≠ hz S + 1) : fi (mk2 S K c0 a0) k a = fi S k a := by
  show zr (zr (fi S) (hz S) 0) (hz S + 1) 0 k a = _
  simp only [zr, h1, h2, if_false]
theorem nnk2 {k : Nat} (h : nnk k = true) (h2 : rO k = 2) : k = 2 ∨ k = 3 := by
  unfold nnk at h
  split at h <;> first | exact Or.inl rfl | exact Or.inr rfl | (cases h2; done) | (cases h)
theorem nnk6 {k : Nat} (h : nnk k = true) (h2 : rO k = 6) : k = 11 := by
  unfold nnk at h
  split at h <;> first | rfl | (cases h2; done) | (cases h)
/-- nothing is null in an object and its act -/
theorem nn_mk2 {S X : HS} {K : Nat} (h : nn S) (hk : ∀ a, kd X a = if a = hz S + 1 then 1 else if a = hz S then K else kd S a) (hf : ∀ k a, a ≠ hz S → a ≠ hz S + 1 → fr X k a = fr S k a) (hn : ∀ k, nnk k = true → rO k = K → ∃ b, fr X k (hz S) = some b) : nn X := by
  refine nn_gen h (fun a => a = hz S ∨ a = hz S + 1) (fun a ha => ?_) (fun a ha k hk2 hr => ?_)
  · have h1 : a ≠ hz S := fun q => ha (Or.inl q)
    have h2 : a ≠ hz S + 1 := fun q => ha (Or.inr q)
    exact ⟨(hk a).trans ((if_neg h2).trans (if_neg h1)), fun k => hf k a h1 h2⟩
  · rcases ha with ha | ha
    · subst ha
      have e := (hk (hz S)).trans ((if_neg (show ¬ hz S = hz S + 1 by omega)).trans (if_pos rfl))
      exact hn k hk2 (hr.symm.trans e)
    · subst ha
      have e := (hk (hz S + 1)).trans (if_pos rfl)
      exact absurd (hr.symm.trans e) (nnk1 hk2)
theorem Alarm_init_fr {Y : HS} {q own x k a : Nat} {n : Int32} (h : a ≠ q) : fr (Alarm_init_S Y q n own x) k a = fr Y k a := by
  show up2 (up2 (fr Y) 2 q (some own)) 3 q (some x) k a = fr Y k a
  rw [up2_a _ _ _ _ h, up2_a _ _ _ _ h]
theorem Alarm_init_2 {Y : HS} {q own x : Nat} {n : Int32} : fr (Alarm_init_S Y q n own x) 2 q = some own := by
  show up2 (up2 (fr Y) 2 q (some own)) 3 q (some x) 2 q = some own
  rw [up2_k _ _ _ _ (by decide), up2_self]
theorem Alarm_init_3 {Y : HS} {q own x : Nat} {n : Int32} : fr (Alarm_init_S Y q n own x) 3 q = some x := by
  show up2 (up2 (fr Y) 2 q (some own)) 3 q (some x) 3 q = some x
  rw [up2_self]
theorem Alarm_init_kd {Y : HS} {q own x a : Nat} {n : Int32} : kd (Alarm_init_S Y q n own x) a = kd Y a := rfl
theorem Point_init_fr {Y : HS} {q x k a : Nat} {o : Int64} (h : a ≠ q) : fr (Point_init_S Y q o x) k a = fr Y k a := by
  show up2 (fr Y) 11 q (some x) k a = fr Y k a
  rw [up2_a _ _ _ _ h]
theorem Point_init_11 {Y : HS} {q x : Nat} {o : Int64} : fr (Point_init_S Y q o x) 11 q = some x := by
  show up2 (fr Y) 11 q (some x) 11 q = some x
  rw [up2_self]
theorem Point_init_kd {Y : HS} {q x a : Nat} {o : Int64} : kd (Point_init_S Y q o x) a = kd Y a := rfl
theorem nn_alarm {S : HS} {c0 a0 : Option Nat} {n : Int32} {own : Nat} (h : nn S) : nn (Alarm_init_S (mk2 S 2 c0 a0) (hz S) n own (hz S + 1)) := by
  refine nn_mk2 (K := 2) h (fun _ => Alarm_init_kd.trans mk2_kd) (fun k a h1 h2 => (Alarm_init_fr h1).trans (mk2_fr h1 h2)) (fun k hk hr => ?_)
  rcases nnk2 hk hr with rfl | rfl
  · exact ⟨own, Alarm_init_2⟩
  · exact ⟨hz S + 1, Alarm_init_3⟩
theorem nn_appendAlarm {S : HS} {t a : Nat} (h : nn S) : nn (appendAlarm_S S t a) := by
  unfold appendAlarm_S
  exact opc_P (P := nn) (fun _ => nn_sfr (nn_sfr h (Or.inl rfl)) (Or.inl rfl)) (fun _ _ => nn_sfr (nn_sfr h (Or.inl rfl)) (Or.inl rfl))
theorem nn_point {S : HS} {c0 a0 : Option Nat} {o : Int64} (h : nn S) : nn (Point_init_S (mk2 S 6 c0 a0) (hz S) o (hz S + 1)) := by
  refine nn_mk2 (K := 6) h (fun _ => Point_init_kd.trans mk2_kd) (fun k a h1 h2 => (Point_init_fr h1).trans (mk2_fr h1 h2)) (fun k hk hr => ?_)
  have := nnk6 hk hr
  subst this
  exact ⟨hz S + 1, Point_init_11⟩
theorem nn_insert {S : HS} {t x : Nat} {zs : List Nat} (h : nn S) : nn (insert_S S t x zs) := by
  unfold insert_S
  exact opc_P (P := nn) (fun _ => nn_sfi (nn_sfr (nn_sfr h (Or.inl rfl)) (Or.inl rfl))) (fun _ _ => nn_sfi (nn_sfr (nn_sfr h (Or.inl rfl)) (Or.inl rfl)))
theorem atOk_gen {S S' : HS} {t : Nat} (h : atOk S t) (h1 : fi S' 10 t = fi S 10 t) (h2 : ∃ n, n ≤ 100 ∧ fi S' 11 t = nI n) (h3 : fi S' 12 t = fi S 12 t) (h4 : ∀ k, 18 ≤ k → fr S' k t = fr S k t) (h5 : an S' = an S) : atOk S' t := by
  obtain ⟨g1, g2, g3, g4, g5, g6⟩ := h
  unfold atOk
  rw [h1, h3, h4 18 (by decide), h4 19 (by decide), h4 20 (by decide), h5]
  exact ⟨g1, h2, g3, g4, g5, g6⟩
theorem cnt_up {x : Int32} {N : Nat} (h : ∃ n, n ≤ N ∧ x = nI n) (hN : N < 2 ^ 31) (c : x < nI N) : ∃ n, n ≤ N ∧ x + 1 = nI n := by
  obtain ⟨n, hn, rfl⟩ := h
  rw [nI_ltI (by omega) hN] at c
  exact ⟨n + 1, c, nI_1 n⟩
theorem atOk_sfr {S : HS} {t k a : Nat} {v : Option Nat} (h : atOk S t) (hk : k < 18) : atOk (sfr S k a v) t := atOk_gen h rfl h.2.1 rfl (fun j hj => up2_k _ _ _ _ (by omega)) rfl
theorem atOk_sfi {S : HS} {t k a : Nat} {v : Int32} (h : atOk S t) (hk : k < 10) : atOk (sfi S k a v) t := atOk_gen h (up2_k _ _ _ _ (by omega)) (by
  obtain ⟨n, h1, h2⟩ := h.2.1
  exact ⟨n, h1, (up2_k _ _ _ _ (by omega)).trans h2⟩) (up2_k _ _ _ _ (by omega)) (fun j hj => rfl) rfl
theorem atOk_sar {S : HS} {t a i : Nat} {v : Option Nat} (h : atOk S t) : atOk (sar S a i v) t := h
theorem atOk_sfl {S : HS} {t k a : Nat} {v : Int64} (h : atOk S t) : atOk (sfl S k a v) t := h
theorem atOk_mk2 {S : HS} {t K : Nat} {c0 a0 : Option Nat} (h : atOk S t) (t1 : t ≠ hz S) (t2 : t ≠ hz S + 1) : atOk (mk2 S K c0 a0) t := by
  obtain ⟨n, h1, h2⟩ := h.2.1
  exact atOk_gen h (mk2_fi t1 t2) ⟨n, h1, (mk2_fi t1 t2).trans h2⟩ (mk2_fi t1 t2) (fun _ _ => mk2_fr t1 t2) rfl
theorem atOk_cnt {S : HS} {t : Nat} {v : Int32} (h : atOk S t) (hv : ∃ n, n ≤ 100 ∧ v = nI n) : atOk (sfi S 11 t v) t := by
  obtain ⟨n, h1, h2⟩ := hv
  exact atOk_gen h (up2_k (fi S) t t v (show 10 ≠ 11 by decide)) ⟨n, h1, (up2_self (fi S) 11 t v).trans h2⟩ (up2_k (fi S) t t v (show 12 ≠ 11 by decide)) (fun _ _ => rfl) rfl
theorem atOk_alarm {S : HS} {t own i : Nat} {arr : Nat} {v c0 a0 : Option Nat} {n : Int32} (h : atOk S t) (h0 : ∀ a, hz S ≤ a → kd S a = 0) (kt : kd S t = 8) (c : fi S 11 t < 100) : atOk (appendAlarm_S (sfi (sar (Alarm_init_S (mk2 S 2 c0 a0) (hz S) n own (hz S + 1)) arr i v) 11 t (fi S 11 t + 1)) own (hz S)) t := by
  have t1 : t ≠ hz S := fun q => by rw [h0 t (by omega)] at kt; cases kt
  have t2 : t ≠ hz S + 1 := fun q => by rw [h0 t (by omega)] at kt; cases kt
  have k1 : atOk (mk2 S 2 c0 a0) t := atOk_mk2 h t1 t2
  generalize mk2 S 2 c0 a0 = Y at k1
  have k2 : atOk (Alarm_init_S Y (hz S) n own (hz S + 1)) t := atOk_sfr (atOk_sfr (atOk_sfi k1 (by decide)) (by decide)) (by decide)
  generalize Alarm_init_S Y (hz S) n own (hz S + 1) = Z at k2
  have k3 : atOk (sfi (sar Z arr i v) 11 t (fi S 11 t + 1)) t := atOk_cnt (atOk_sar k2) (cnt_up h.2.1 (by decide) c)
  generalize sfi (sar Z arr i v) 11 t (fi S 11 t + 1) = X at k3
  unfold appendAlarm_S
  exact opc_P (P := fun z => atOk z t) (fun _ => atOk_sfr (atOk_sfr k3 (by decide)) (by decide)) (fun _ _ => atOk_sfr (atOk_sfr k3 (by decide)) (by decide))
theorem atOk_point {S : HS} {t b : Nat} {zs : List Nat} {c0 a0 : Option Nat} {o : Int64} (h : atOk S t) (h0 : ∀ a, hz S ≤ a → kd S a = 0) (kt : kd S t = 8) : atOk (insert_S (Point_init_S (mk2 S 6 c0 a0) (hz S) o (hz S + 1)) b (hz S) zs) t := by
  have t1 : t ≠ hz S := fun q => by rw [h0 t (by omega)] at kt; cases kt
  have t2 : t ≠ hz S + 1 := fun q => by rw [h0 t (by omega)] at kt; cases kt
  have k1 : atOk (mk2 S 6 c0 a0) t := atOk_mk2 h t1 t2
  generalize mk2 S 6 c0 a0 = Y at k1
  have k2 : atOk (Point_init_S Y (hz S) o (hz S + 1)) t := atOk_sfr (atOk_sfl k1) (by decide)
  generalize Point_init_S Y (hz S) o (hz S + 1) = X at k2
  unfold insert_S
  exact opc_P (P := fun z => atOk z t) (fun _ => atOk_sfi (atOk_sfr (atOk_sfr k2 (by decide)) (by decide)) (by decide)) (fun _ _ => atOk_sfi (atOk_sfr (atOk_sfr k2 (by decide)) (by decide)) (by decide))
theorem chn_point {S : HS} {b : Nat} {zs : List Nat} {c0 a0 : Option Nat} {o : Int64} (h : hOk S) (h0 : ∀ a, hz S ≤ a → kd S a = 0) (kb : kd S b = 7) (hc : chn (fr S 12) (fr S 14 b) zs) : chn (fr (Point_init_S (mk2 S 6 c0 a0) (hz S) o (hz S + 1)) 12) (fr (Point_init_S (mk2 S 6 c0 a0) (hz S) o (hz S + 1)) 14 b) zs := by
  have he : ∀ k a, kd S a ≠ 0 → fr (Point_init_S (mk2 S 6 c0 a0) (hz S) o (hz S + 1)) k a = fr S k a := fun k a ha => by
    have t1 : a ≠ hz S := fun q => ha (h0 a (by omega))
    have t2 : a ≠ hz S + 1 := fun q => ha (h0 a (by omega))
    exact (Point_init_fr t1).trans (mk2_fr t1 t2)
  generalize Point_init_S (mk2 S 6 c0 a0) (hz S) o (hz S + 1) = X at he
  rw [he 14 b (by rw [kb]; decide)]
  have hk := chn_kd h (b0 := 12) (K := 6) rfl rfl zs _ hc (fun z hz => h.2.1 14 b z kb hz)
  exact chn_congr zs _ (fun x hx => (he 12 x (by rw [hk x hx]; decide)).symm) hc
theorem kk_sfi {S : HS} {k a b K : Nat} {v : Int32} (h : kd S b = K) : kd (sfi S k a v) b = K := h
theorem ka_sfi {S : HS} {k a b K : Nat} {v : Int32} (h : an S b = K) : an (sfi S k a v) b = K := h
theorem kk_sfl {S : HS} {k a b K : Nat} {v : Int64} (h : kd S b = K) : kd (sfl S k a v) b = K := h
theorem ka_sfl {S : HS} {k a b K : Nat} {v : Int64} (h : an S b = K) : an (sfl S k a v) b = K := h
theorem kk_sfr {S : HS} {k a b K : Nat} {v : Option Nat} (h : kd S b = K) : kd (sfr S k a v) b = K := h
theorem ka_sfr {S : HS} {k a b K : Nat} {v : Option Nat} (h : an S b = K) : an (sfr S k a v) b = K := h
theorem kk_sai {S : HS} {a i b K : Nat} {v : Int32} (h : kd S b = K) : kd (sai S a i v) b = K := h
theorem ka_sai {S : HS} {a i b K : Nat} {v : Int32} (h : an S b = K) : an (sai S a i v) b = K := h
theorem kk_sal {S : HS} {a i b K : Nat} {v : Int64} (h : kd S b = K) : kd (sal S a i v) b = K := h
theorem ka_sal {S : HS} {a i b K : Nat} {v : Int64} (h : an S b = K) : an (sal S a i v) b = K := h
theorem kk_sar {S : HS} {a i b K : Nat} {v : Option Nat} (h : kd S b = K) : kd (sar S a i v) b = K := h
theorem ka_sar {S : HS} {a i b K : Nat} {v : Option Nat} (h : an S b = K) : an (sar S a i v) b = K := h
end
section
set_option maxRecDepth 100000 in
theorem dvTable (S : HS) (q : Nat) : ∀ j, j < 12 → defaultValue (tyTable j) = vp_V ((lay 7).map (fv (newQ S q 7) q)) j := by
  intro j hj
  rcases (show j = 0 ∨ j = 1 ∨ j = 2 ∨ j = 3 ∨ j = 4 ∨ j = 5 ∨ j = 6 ∨ j = 7 ∨ j = 8 ∨ j = 9 ∨ j = 10 ∨ j = 11 by omega) with rfl | rfl | rfl | rfl | rfl | rfl | rfl | rfl | rfl | rfl | rfl | rfl <;> simp [vp_V, lay, fv, newQ, fi, fl, fr, zr, va_rf, tyTable, defaultValue]
set_option maxRecDepth 100000 in
theorem NAT_21 : (7 ≠ 0 ∧ aK 7 = 0 ∧ aE 7 = 0 ∧ vwCl[7 - 1]? = some (RTable, TTable, 12)) ∧ (∃ ty : Nat → FieldType, (∀ k, k < 12 → parseFieldDescriptor (TTable k).2.2.1 = some (ty k)) ∧ ∀ S q, ∀ j, j < 12 → defaultValue (ty j) = vp_V ((lay 7).map (fv (newQ S q 7) q)) j) ∧ (Cond.classLink RAT 21 RTable ∈ wT ∧ Cond.instantiable RTable 12 ∈ wT ∧ Cond.initialized RTable ∈ wT) := ⟨⟨by decide, by decide, by decide, rfl⟩, ⟨tyTable, tyTable_ok, dvTable⟩, wT_in 51 (by decide +kernel) rfl, wT_in 200 (by decide +kernel) rfl, wT_in 36 (by decide +kernel) rfl⟩
set_option maxRecDepth 100000 in
theorem CAT_117 : cI RAT 117 yTable_init cTable_init 5 3 := ⟨⟨wT_in 201 (by decide +kernel) rfl, wT_in 202 (by decide +kernel) rfl, wT_in 36 (by decide +kernel) rfl, rfl⟩, wT_in 203 rfl rfl, by decide +kernel⟩
set_option maxRecDepth 100000 in
theorem CAT_120 : cV RAT 120 RCounter yCounter_appendTable cCounter_appendTable 2 none 1 := ⟨⟨wT_in 253 (by decide +kernel) rfl, wT_in 254 (by decide +kernel) rfl, wT_in 255 (by decide +kernel) rfl, wT_in 32 (by decide +kernel) rfl⟩, wT_in 256 rfl rfl, by decide +kernel⟩
end
section
def table_R (S : HS) (t : Nat) (n : Int32) (k : Int64) : Int32 :=
  opc (findCounter_R S t n) ((-1 : Int32))
  (fun b_3 => if k < (1 : Int64) then
      (-2 : Int32)
    else
      if (1000000 : Int64) < k then
        (-2 : Int32)
      else
        if (fi S 12 t) < (20 : Int32) then
          fi (appendTable_S (sfi (sar (Table_init_S (newQ S (hz S) 7) (hz S) ((fi S 12 t) + (1 : Int32)) b_3 k) (gd (fr S 20 t)) (fi S 12 t).toNatClampNeg (some (hz S))) 12 t ((fi S 12 t) + (1 : Int32))) b_3 (hz S)) 12 t
        else
          (-4 : Int32))
def table_S (S : HS) (t : Nat) (n : Int32) (k : Int64) : HS :=
  opc (findCounter_R S t n) (S)
  (fun b_3 => if k < (1 : Int64) then
      S
    else
      if (1000000 : Int64) < k then
        S
      else
        if (fi S 12 t) < (20 : Int32) then
          (appendTable_S (sfi (sar (Table_init_S (newQ S (hz S) 7) (hz S) ((fi S 12 t) + (1 : Int32)) b_3 k) (gd (fr S 20 t)) (fi S 12 t).toNatClampNeg (some (hz S))) 12 t ((fi S 12 t) + (1 : Int32))) b_3 (hz S))
        else
          S)
set_option maxRecDepth 20000 in
set_option maxHeartbeats 2000000 in
theorem c_table (l : Launch) (D : va_G) (AC : Nat → ClassId) (S : HS) (t : Nat) (n : Int32) (k : Int64)  (k_t : kd S t = 8) (hn : nn S) (ha : atOk S t) : CtI l yAT_table (Cond.code yAT_table cAT_table 6 (some .int) :: wT) 2 60 D AC S [.ref t, .int n, .long k] 1 12 (fun r S' => r = table_R S t n k ∧ S' = table_S S t n k) := by
  refine met_of (by decide) (Nat.le_of_ble_eq_true rfl) ?_
  intro p e s m below meth c ls hsz X hW hl
  obtain ⟨hx, hb, hml, hr, hlk, hown, hnm, hts⟩ := X
  have hl : lv_has ls 6 [(0, .ref t), (1, .int n), (2, .long k)] := hl
  have mo : mono S S := mono.rf S
  have h00 := hW.k00
  have kt0 := k_t
  have nA : fr S 20 t = some (gd (fr S 20 t)) := gd_some (hn 20 t rfl k_t)
  have kA : kd S (gd (fr S 20 t)) = 16 := hW.ok.2.1 20 t _ k_t nA
  have lA : an S (gd (fr S 20 t)) = 20 := ha.2.2.2.2.2
  have kqA : ∀ b, fr S 20 t = some b → kd S b = 16 := fun b h => hW.ok.2.1 20 t b k_t h
  refine lv_aload_n hx hb dAT_table_0 rfl (lv_at hl 0 rfl) ?_
  refine lv_iload_n hx hb dAT_table_1 rfl (lv_at hl 1 rfl) ?_
  refine k_Vq (As := [.int n]) (rest := []) (c_findCounter l D AC S t n k_t hn ha) CAT_52 ⟨by decide, by decide, _, rfl, rfl⟩ hx hb hml hown hts hW k_t hl.1 rfl rfl (Nat.le_of_ble_eq_true rfl) ⟨⟨Nat.le_of_ble_eq_true rfl, Nat.le_of_ble_eq_true rfl⟩, ⟨Nat.le_of_ble_eq_true rfl, Nat.le_of_ble_eq_true rfl⟩⟩ dAT_table_2 (fun r_1 S_1 H locs e_1 hW m_1 _ => ?_)
  obtain ⟨e1_1, e2_1⟩ := e_1
  rw [e2_1] at hW m_1
  rw [e1_1]
  have kq_2 : ∀ b, (findCounter_R S t n) = some b → kd S b = 3 := kq_findCounter hW.ok k_t hn _
  refine q_astore (lv' := [(4, va_rf (findCounter_R S t n)), (0, .ref t), (1, .int n), (2, .long k)]) hx hb dAT_table_5 hl (by decide) rfl (fun ls hl => ?_)
  refine q_aload hx hb dAT_table_7 (lv_at hl 0 rfl) ?_
  refine q_ifnonnull (tgt := 14) hx hb dAT_table_9 (by decide) (fun n_3 => ?_) (fun b_3 n_3 => ?_)
  · refine lv_iconst (v := (-1 : Int32)) hx hb dAT_table_12 (by decide) ?_
    exact e_i hsz hx hb hr hlk hW (mono.rf S) (Nat.le_of_ble_eq_true rfl) (Nat.le_of_ble_eq_true rfl) dAT_table_13 ⟨(by refine Eq.symm ?_; refine (op_none n_3).trans ?_; rfl), (by refine Eq.symm ?_; refine (op_none n_3).trans ?_; rfl)⟩
  · have k_b_3 : kd S b_3 = 3 := kq_2 b_3 n_3
    refine lv_lload_n hx hb dAT_table_14 rfl (lv_at hl 3 rfl) ?_
    refine lv_lconst (v := (1 : Int64)) hx hb dAT_table_15 (by decide) ?_
    refine ll_lt (tgt := 28) hx hb dAT_table_16 dAT_table_17 (by decide) (fun c_4 => ?_) (fun c_4 => ?_)
    · refine lv_bipush (v := (-2 : Int32)) hx hb dAT_table_28 (by decide) ?_
      exact e_i hsz hx hb hr hlk hW (mono.rf S) (Nat.le_of_ble_eq_true rfl) (Nat.le_of_ble_eq_true rfl) dAT_table_30 ⟨(by refine Eq.symm ?_; refine (op_some n_3).trans ?_; refine (if_pos c_4).trans ?_; rfl), (by refine Eq.symm ?_; refine (op_some n_3).trans ?_; refine (if_pos c_4).trans ?_; rfl)⟩
    · refine lv_lload_n hx hb dAT_table_20 rfl (lv_at hl 3 rfl) ?_
      refine lv_ldc2 (v := (1000000 : Int64)) hx hb hown (hts _ QAT_112) dAT_table_21 ?_
      refine ll_le (tgt := 31) hx hb dAT_table_24 dAT_table_25 (by decide) (fun c_5 => ?_) (fun c_5 => ?_)
      · refine lv_aload_n hx hb dAT_table_31 rfl (lv_at hl 1 rfl) ?_
        refine g_i FAT_114 hx hb hts hown hW k_t dAT_table_32 ?_
        refine lv_bipush (v := (20 : Int32)) hx hb dAT_table_35 (by decide) ?_
        refine lv_icmp_lt (tgt := 43) hx hb dAT_table_37 (by decide) (fun c_6 => ?_) (fun c_6 => ?_)
        · have ne7_0 : t ≠ (hz S) := hW.ne k_t (by decide)
          have ne7_1 : (gd (fr S 20 t)) ≠ (hz S) := hW.ne kA (by decide)
          have ne7_2 : b_3 ≠ (hz S) := hW.ne k_b_3 (by decide)
          refine n_o (NAT_21).1 rfl (NAT_21).2.1 iwTable (NAT_21).2.2 hx hb hts hown hW ⟨Nat.le_of_ble_eq_true rfl, Nat.le_of_ble_eq_true rfl⟩ (hz S) rfl dAT_table_43 (fun H hW m_7 k_q7 => ?_)
          have lA := m_7.n kA (by decide) lA
          have k_t := m_7.k k_t (by decide)
          have kA := m_7.k kA (by decide)
          have k_b_3 := m_7.k k_b_3 (by decide)
          have kqA := fun b h => m_7.k (kqA b h) (by decide)
          have kq_2 := fun b h => m_7.k (kq_2 b h) (by decide)
          have mo := mo.tr m_7
          refine lv_dup hx hb dAT_table_46 rfl ?_
          refine lv_aload_n hx hb dAT_table_47 rfl (lv_at hl 1 rfl) ?_
          refine g_i FAT_114 hx hb hts hown hW k_t dAT_table_48 ?_
          rw [show fi (newQ S (hz S) 7) 12 t = fi S 12 t from (by simp only [ne7_0, fr_sfr, fr_sfi, fr_sfl, fr_sar, fr_sai, fr_sal, fi_sfr, fi_sfi, fi_sfl, fi_sar, fi_sai, fi_sal, fl_sfr, fl_sfi, fl_sfl, fl_sar, fl_sai, fl_sal, fr_newQ, fi_newQ, fl_newQ, fr_newB, fi_newB, fl_newB, ne_eq, not_false_eq_true] <;> rfl)]
          refine lv_iconst (v := (1 : Int32)) hx hb dAT_table_51 (by decide) ?_
          refine lv_iadd hx hb dAT_table_52 ?_
          refine q_aload hx hb dAT_table_53 (lv_at hl 0 rfl) ?_
          refine lv_lload_n hx hb dAT_table_55 rfl (lv_at hl 3 rfl) ?_
          refine q_some1 n_3 ?_
          refine k_Iv (As := [.int ((fi S 12 t) + (1 : Int32)), .ref b_3, .long k]) (rest := [.ref (hz S)]) (c_Table_init l D AC (newQ S (hz S) 7) (hz S) ((fi S 12 t) + (1 : Int32)) b_3 k k_q7 k_b_3) CAT_117 hx hb hml hown hts hW hl.1 rfl rfl (Nat.le_of_ble_eq_true rfl) ⟨⟨Nat.le_of_ble_eq_true rfl, Nat.le_of_ble_eq_true rfl⟩, ⟨Nat.le_of_ble_eq_true rfl, Nat.le_of_ble_eq_true rfl⟩⟩ dAT_table_56 (fun S_8 H locs e_8 hW m_8 _ => ?_)
          rw [e_8] at hW m_8
          have lA := m_8.n kA (by decide) lA
          have k_t := m_8.k k_t (by decide)
          have kA := m_8.k kA (by decide)
          have k_b_3 := m_8.k k_b_3 (by decide)
          have k_q7 := m_8.k k_q7 (by decide)
          have kqA := fun b h => m_8.k (kqA b h) (by decide)
          have kq_2 := fun b h => m_8.k (kq_2 b h) (by decide)
          have mo := mo.tr m_8
          refine lv_astore (lv' := [(5, .ref (hz S)), (4, va_rf (findCounter_R S t n)), (0, .ref t), (1, .int n), (2, .long k)]) hx hb dAT_table_59 hl (by decide) (by simp [q_cat, cat_r, cat_i, cat_l, cat_n]) (fun ls hl => ?_)
          refine lv_aload_n hx hb dAT_table_61 rfl (lv_at hl 2 rfl) ?_
          refine g_q FAT_23 hx hb hts hown hW k_t dAT_table_62 ?_
          rw [show fr (Table_init_S (newQ S (hz S) 7) (hz S) ((fi S 12 t) + (1 : Int32)) b_3 k) 20 t = fr S 20 t from (by simp only [Table_init_S, ne7_0, fr_sfr, fr_sfi, fr_sfl, fr_sar, fr_sai, fr_sal, fi_sfr, fi_sfi, fi_sfl, fi_sar, fi_sai, fi_sal, fl_sfr, fl_sfi, fl_sfl, fl_sar, fl_sai, fl_sal, fr_newQ, fi_newQ, fl_newQ, fr_newB, fi_newB, fl_newB, ne_eq, not_false_eq_true] <;> rfl)]
          refine lv_aload_n hx hb dAT_table_65 rfl (lv_at hl 2 rfl) ?_
          refine g_i FAT_114 hx hb hts hown hW k_t dAT_table_66 ?_
          rw [show fi (Table_init_S (newQ S (hz S) 7) (hz S) ((fi S 12 t) + (1 : Int32)) b_3 k) 12 t = fi S 12 t from (by simp only [Table_init_S, ne7_0, fr_sfr, fr_sfi, fr_sfl, fr_sar, fr_sai, fr_sal, fi_sfr, fi_sfi, fi_sfl, fi_sar, fi_sai, fi_sal, fl_sfr, fl_sfi, fl_sfl, fl_sar, fl_sai, fl_sal, fr_newQ, fi_newQ, fl_newQ, fr_newB, fi_newB, fl_newB, ne_eq, not_false_eq_true] <;> rfl)]
          refine lv_aload hx hb dAT_table_69 (lv_at hl 0 rfl) ?_
          refine q_some2 nA ?_
          refine a_rs (K := 16) (t0 := 5) (by decide) rfl (r := (RTable, TTable, 12)) ⟨rfl, rfl⟩ hx hb hW kA k_q7 (cnt_in (Classical.choose_spec ha.2.2.1).2 (Classical.choose_spec ha.2.2.1).1 (by decide) c_6 lA) dAT_table_71 (fun H locs hW => ?_)
          have mo := mo.tr (mono_sar (a := (gd (fr S 20 t))) (i := (fi S 12 t).toNatClampNeg) (v := (some (hz S))))
          have lA : an (sar (Table_init_S (newQ S (hz S) 7) (hz S) ((fi S 12 t) + (1 : Int32)) b_3 k) (gd (fr S 20 t)) (fi S 12 t).toNatClampNeg (some (hz S))) (gd (fr S 20 t)) = 20 := ka_sar lA
          have k_t : kd (sar (Table_init_S (newQ S (hz S) 7) (hz S) ((fi S 12 t) + (1 : Int32)) b_3 k) (gd (fr S 20 t)) (fi S 12 t).toNatClampNeg (some (hz S))) t = 8 := kk_sar k_t
          have kA : kd (sar (Table_init_S (newQ S (hz S) 7) (hz S) ((fi S 12 t) + (1 : Int32)) b_3 k) (gd (fr S 20 t)) (fi S 12 t).toNatClampNeg (some (hz S))) (gd (fr S 20 t)) = 16 := kk_sar kA
          have k_b_3 : kd (sar (Table_init_S (newQ S (hz S) 7) (hz S) ((fi S 12 t) + (1 : Int32)) b_3 k) (gd (fr S 20 t)) (fi S 12 t).toNatClampNeg (some (hz S))) b_3 = 3 := kk_sar k_b_3
          have k_q7 : kd (sar (Table_init_S (newQ S (hz S) 7) (hz S) ((fi S 12 t) + (1 : Int32)) b_3 k) (gd (fr S 20 t)) (fi S 12 t).toNatClampNeg (some (hz S))) (hz S) = 7 := kk_sar k_q7
          have kqA : ∀ b, fr S 20 t = some b → kd (sar (Table_init_S (newQ S (hz S) 7) (hz S) ((fi S 12 t) + (1 : Int32)) b_3 k) (gd (fr S 20 t)) (fi S 12 t).toNatClampNeg (some (hz S))) b = 16 := fun b h => kk_sar (kqA b h)
          have kq_2 : ∀ b, (findCounter_R S t n) = some b → kd (sar (Table_init_S (newQ S (hz S) 7) (hz S) ((fi S 12 t) + (1 : Int32)) b_3 k) (gd (fr S 20 t)) (fi S 12 t).toNatClampNeg (some (hz S))) b = 3 := fun b h => kk_sar (kq_2 b h)
          refine lv_aload_n hx hb dAT_table_72 rfl (lv_at hl 2 rfl) ?_
          refine lv_dup hx hb dAT_table_73 rfl ?_
          refine g_i FAT_114 hx hb hts hown hW k_t dAT_table_74 ?_
          rw [show fi (sar (Table_init_S (newQ S (hz S) 7) (hz S) ((fi S 12 t) + (1 : Int32)) b_3 k) (gd (fr S 20 t)) (fi S 12 t).toNatClampNeg (some (hz S))) 12 t = fi S 12 t from (by simp only [Table_init_S, ne7_0, fr_sfr, fr_sfi, fr_sfl, fr_sar, fr_sai, fr_sal, fi_sfr, fi_sfi, fi_sfl, fi_sar, fi_sai, fi_sal, fl_sfr, fl_sfi, fl_sfl, fl_sar, fl_sai, fl_sal, fr_newQ, fi_newQ, fl_newQ, fr_newB, fi_newB, fl_newB, ne_eq, not_false_eq_true] <;> rfl)]
          refine lv_iconst (v := (1 : Int32)) hx hb dAT_table_77 (by decide) ?_
          refine lv_iadd hx hb dAT_table_78 ?_
          refine p_i FAT_114 GAT_tableCount (fun h => by cases h) hx hb hts hown hW k_t rfl rfl dAT_table_79 (fun H locs hW => ?_)
          have mo := mo.tr (mono_sfi (k := 12) (a := t) (v := ((fi S 12 t) + (1 : Int32))))
          have lA : an (sfi (sar (Table_init_S (newQ S (hz S) 7) (hz S) ((fi S 12 t) + (1 : Int32)) b_3 k) (gd (fr S 20 t)) (fi S 12 t).toNatClampNeg (some (hz S))) 12 t ((fi S 12 t) + (1 : Int32))) (gd (fr S 20 t)) = 20 := ka_sfi lA
          have k_t : kd (sfi (sar (Table_init_S (newQ S (hz S) 7) (hz S) ((fi S 12 t) + (1 : Int32)) b_3 k) (gd (fr S 20 t)) (fi S 12 t).toNatClampNeg (some (hz S))) 12 t ((fi S 12 t) + (1 : Int32))) t = 8 := kk_sfi k_t
          have kA : kd (sfi (sar (Table_init_S (newQ S (hz S) 7) (hz S) ((fi S 12 t) + (1 : Int32)) b_3 k) (gd (fr S 20 t)) (fi S 12 t).toNatClampNeg (some (hz S))) 12 t ((fi S 12 t) + (1 : Int32))) (gd (fr S 20 t)) = 16 := kk_sfi kA
          have k_b_3 : kd (sfi (sar (Table_init_S (newQ S (hz S) 7) (hz S) ((fi S 12 t) + (1 : Int32)) b_3 k) (gd (fr S 20 t)) (fi S 12 t).toNatClampNeg (some (hz S))) 12 t ((fi S 12 t) + (1 : Int32))) b_3 = 3 := kk_sfi k_b_3
          have k_q7 : kd (sfi (sar (Table_init_S (newQ S (hz S) 7) (hz S) ((fi S 12 t) + (1 : Int32)) b_3 k) (gd (fr S 20 t)) (fi S 12 t).toNatClampNeg (some (hz S))) 12 t ((fi S 12 t) + (1 : Int32))) (hz S) = 7 := kk_sfi k_q7
          have kqA : ∀ b, fr S 20 t = some b → kd (sfi (sar (Table_init_S (newQ S (hz S) 7) (hz S) ((fi S 12 t) + (1 : Int32)) b_3 k) (gd (fr S 20 t)) (fi S 12 t).toNatClampNeg (some (hz S))) 12 t ((fi S 12 t) + (1 : Int32))) b = 16 := fun b h => kk_sfi (kqA b h)
          have kq_2 : ∀ b, (findCounter_R S t n) = some b → kd (sfi (sar (Table_init_S (newQ S (hz S) 7) (hz S) ((fi S 12 t) + (1 : Int32)) b_3 k) (gd (fr S 20 t)) (fi S 12 t).toNatClampNeg (some (hz S))) 12 t ((fi S 12 t) + (1 : Int32))) b = 3 := fun b h => kk_sfi (kq_2 b h)
          refine q_aload hx hb dAT_table_82 (lv_at hl 1 rfl) ?_
          refine lv_aload hx hb dAT_table_84 (lv_at hl 0 rfl) ?_
          refine q_some1 n_3 ?_
          refine k_Vv (As := [.ref (hz S)]) (rest := []) (c_appendTable l D AC (sfi (sar (Table_init_S (newQ S (hz S) 7) (hz S) ((fi S 12 t) + (1 : Int32)) b_3 k) (gd (fr S 20 t)) (fi S 12 t).toNatClampNeg (some (hz S))) 12 t ((fi S 12 t) + (1 : Int32))) b_3 (hz S) k_b_3 k_q7) CAT_120 ⟨by decide, by decide, _, rfl, rfl⟩ hx hb hml hown hts hW k_b_3 hl.1 rfl rfl (Nat.le_of_ble_eq_true rfl) ⟨⟨Nat.le_of_ble_eq_true rfl, Nat.le_of_ble_eq_true rfl⟩, ⟨Nat.le_of_ble_eq_true rfl, Nat.le_of_ble_eq_true rfl⟩⟩ dAT_table_86 (fun S_9 H locs e_9 hW m_9 _ => ?_)
          rw [e_9] at hW m_9
          have lA := m_9.n kA (by decide) lA
          have k_t := m_9.k k_t (by decide)
          have kA := m_9.k kA (by decide)
          have k_b_3 := m_9.k k_b_3 (by decide)
          have k_q7 := m_9.k k_q7 (by decide)
          have kqA := fun b h => m_9.k (kqA b h) (by decide)
          have kq_2 := fun b h => m_9.k (kq_2 b h) (by decide)
          have mo := mo.tr m_9
          refine lv_aload_n hx hb dAT_table_89 rfl (lv_at hl 2 rfl) ?_
          refine g_i FAT_114 hx hb hts hown hW k_t dAT_table_90 ?_
          exact e_i hsz hx hb hr hlk hW (mo) (Nat.le_of_ble_eq_true rfl) (Nat.le_of_ble_eq_true rfl) dAT_table_93 ⟨(by refine Eq.symm ?_; refine (op_some n_3).trans ?_; refine (if_neg c_4).trans ?_; refine (if_neg c_5).trans ?_; refine (if_pos c_6).trans ?_; rfl), (by refine Eq.symm ?_; refine (op_some n_3).trans ?_; refine (if_neg c_4).trans ?_; refine (if_neg c_5).trans ?_; refine (if_pos c_6).trans ?_; rfl)⟩
        · refine lv_bipush (v := (-4 : Int32)) hx hb dAT_table_40 (by decide) ?_
          exact e_i hsz hx hb hr hlk hW (mono.rf S) (Nat.le_of_ble_eq_true rfl) (Nat.le_of_ble_eq_true rfl) dAT_table_42 ⟨(by refine Eq.symm ?_; refine (op_some n_3).trans ?_; refine (if_neg c_4).trans ?_; refine (if_neg c_5).trans ?_; refine (if_neg c_6).trans ?_; rfl), (by refine Eq.symm ?_; refine (op_some n_3).trans ?_; refine (if_neg c_4).trans ?_; refine (if_neg c_5).trans ?_; refine (if_neg c_6).trans ?_; rfl)⟩
      · refine lv_bipush (v := (-2 : Int32)) hx hb dAT_table_28 (by decide) ?_
        exact e_i hsz hx hb hr hlk hW (mono.rf S) (Nat.le_of_ble_eq_true rfl) (Nat.le_of_ble_eq_true rfl) dAT_table_30 ⟨(by refine Eq.symm ?_; refine (op_some n_3).trans ?_; refine (if_neg c_4).trans ?_; refine (if_pos c_5).trans ?_; rfl), (by refine Eq.symm ?_; refine (op_some n_3).trans ?_; refine (if_neg c_4).trans ?_; refine (if_pos c_5).trans ?_; rfl)⟩
end
section
set_option maxRecDepth 100000 in
theorem dvAlarm (S : HS) (q : Nat) : ∀ j, j < 7 → defaultValue (tyAlarm j) = vp_V ((lay 2).map (fv (newQ S q 2) q)) j := by
  intro j hj
  rcases (show j = 0 ∨ j = 1 ∨ j = 2 ∨ j = 3 ∨ j = 4 ∨ j = 5 ∨ j = 6 by omega) with rfl | rfl | rfl | rfl | rfl | rfl | rfl <;> simp [vp_V, lay, fv, newQ, fi, fl, fr, zr, va_rf, tyAlarm, defaultValue]
set_option maxRecDepth 100000 in
theorem NAT_15 : (2 ≠ 0 ∧ aK 2 = 0 ∧ aE 2 = 0 ∧ vwCl[2 - 1]? = some (RAlarm, TAlarm, 7)) ∧ (∃ ty : Nat → FieldType, (∀ k, k < 7 → parseFieldDescriptor (TAlarm k).2.2.1 = some (ty k)) ∧ ∀ S q, ∀ j, j < 7 → defaultValue (ty j) = vp_V ((lay 2).map (fv (newQ S q 2) q)) j) ∧ (Cond.classLink RAT 15 RAlarm ∈ wT ∧ Cond.instantiable RAlarm 7 ∈ wT ∧ Cond.initialized RAlarm ∈ wT) := ⟨⟨by decide, by decide, by decide, rfl⟩, ⟨tyAlarm, tyAlarm_ok, dvAlarm⟩, wT_in 49 (by decide +kernel) rfl, wT_in 116 (by decide +kernel) rfl, wT_in 33 (by decide +kernel) rfl⟩
set_option maxRecDepth 100000 in
theorem dvAct (S : HS) (q : Nat) : ∀ j, j < 2 → defaultValue (tyAct j) = vp_V ((lay 1).map (fv (newQ S q 1) q)) j := by
  intro j hj
  rcases (show j = 0 ∨ j = 1 by omega) with rfl | rfl <;> simp [vp_V, lay, fv, newQ, fi, fl, fr, zr, va_rf, tyAct, defaultValue]
set_option maxRecDepth 100000 in
theorem NAT_71 : (1 ≠ 0 ∧ aK 1 = 0 ∧ aE 1 = 0 ∧ vwCl[1 - 1]? = some (RAct, TAct, 2)) ∧ (∃ ty : Nat → FieldType, (∀ k, k < 2 → parseFieldDescriptor (TAct k).2.2.1 = some (ty k)) ∧ ∀ S q, ∀ j, j < 2 → defaultValue (ty j) = vp_V ((lay 1).map (fv (newQ S q 1) q)) j) ∧ (Cond.classLink RAT 71 RAct ∈ wT ∧ Cond.instantiable RAct 2 ∈ wT ∧ Cond.initialized RAct ∈ wT) := ⟨⟨by decide, by decide, by decide, rfl⟩, ⟨tyAct, tyAct_ok, dvAct⟩, wT_in 117 (by decide +kernel) rfl, wT_in 118 (by decide +kernel) rfl, wT_in 34 (by decide +kernel) rfl⟩
set_option maxRecDepth 100000 in
theorem CAT_73 : cI RAT 73 yAct_init cAct_init 3 2 := ⟨⟨wT_in 119 (by decide +kernel) rfl, wT_in 120 (by decide +kernel) rfl, wT_in 34 (by decide +kernel) rfl, rfl⟩, wT_in 121 rfl rfl, by decide +kernel⟩
set_option maxRecDepth 100000 in
theorem CAT_76 : cI RAT 76 yAlarm_init cAlarm_init 4 3 := ⟨⟨wT_in 132 (by decide +kernel) rfl, wT_in 133 (by decide +kernel) rfl, wT_in 33 (by decide +kernel) rfl, rfl⟩, wT_in 134 rfl rfl, by decide +kernel⟩
set_option maxRecDepth 100000 in
theorem CAT_79 : cV RAT 79 RCounter yCounter_appendAlarm cCounter_appendAlarm 2 none 1 := ⟨⟨wT_in 163 (by decide +kernel) rfl, wT_in 164 (by decide +kernel) rfl, wT_in 165 (by decide +kernel) rfl, wT_in 32 (by decide +kernel) rfl⟩, wT_in 166 rfl rfl, by decide +kernel⟩
set_option maxRecDepth 100000 in
theorem CAT_83 : cV RAT 83 RAT yAT_link cAT_link 6 none 2 := ⟨⟨wT_in 167 (by decide +kernel) rfl, wT_in 169 (by decide +kernel) rfl, wT_in 3 (by decide +kernel) rfl, wT_in 25 (by decide +kernel) rfl⟩, wT_in 170 rfl rfl, by decide +kernel⟩
set_option maxRecDepth 100000 in
theorem CAT_56 : cV RAT 56 RAT yAT_isUnknownFor cAT_isUnknownFor 3 (some .boolean) 2 := ⟨⟨wT_in 105 (by decide +kernel) rfl, wT_in 107 (by decide +kernel) rfl, wT_in 1 (by decide +kernel) rfl, wT_in 25 (by decide +kernel) rfl⟩, wT_in 108 rfl rfl, by decide +kernel⟩
set_option maxRecDepth 100000 in
theorem CAT_60 : cS RAT 60 yAT_wouldCircle cAT_wouldCircle 2 (some .boolean) 2 := ⟨⟨wT_in 113 (by decide +kernel) rfl, wT_in 114 (by decide +kernel) rfl, wT_in 25 (by decide +kernel) rfl⟩, wT_in 115 rfl rfl, by decide +kernel⟩
end
section
theorem nn_alarm' {S : HS} {c0 a0 : Option Nat} {n : Int32} {own : Nat} (h : nn S) : nn (Alarm_init_S (Act_init_S (newQ (newQ S (hz S) 2) (hz (newQ S (hz S) 2)) 1) (hz (newQ S (hz S) 2)) c0 a0) (hz S) n own (hz (newQ S (hz S) 2))) := nn_alarm h
theorem atOk_alarm' {S : HS} {t own i arr : Nat} {v c0 a0 : Option Nat} {n : Int32} (h : atOk S t) (h0 : ∀ a, hz S ≤ a → kd S a = 0) (kt : kd S t = 8) (c : fi S 11 t < 100) : atOk (appendAlarm_S (sfi (sar (Alarm_init_S (Act_init_S (newQ (newQ S (hz S) 2) (hz (newQ S (hz S) 2)) 1) (hz (newQ S (hz S) 2)) c0 a0) (hz S) n own (hz (newQ S (hz S) 2))) arr i v) 11 t (fi S 11 t + 1)) own (hz S)) t := atOk_alarm h h0 kt c
theorem nn_point' {S : HS} {c0 a0 : Option Nat} {o : Int64} (h : nn S) : nn (Point_init_S (Act_init_S (newQ (newQ S (hz S) 6) (hz (newQ S (hz S) 6)) 1) (hz (newQ S (hz S) 6)) c0 a0) (hz S) o (hz (newQ S (hz S) 6))) := nn_point h
theorem atOk_point' {S : HS} {t b : Nat} {zs : List Nat} {c0 a0 : Option Nat} {o : Int64} (h : atOk S t) (h0 : ∀ a, hz S ≤ a → kd S a = 0) (kt : kd S t = 8) : atOk (insert_S (Point_init_S (Act_init_S (newQ (newQ S (hz S) 6) (hz (newQ S (hz S) 6)) 1) (hz (newQ S (hz S) 6)) c0 a0) (hz S) o (hz (newQ S (hz S) 6))) b (hz S) zs) t := atOk_point h h0 kt
theorem chn_point' {S : HS} {b : Nat} {zs : List Nat} {c0 a0 : Option Nat} {o : Int64} (h : hOk S) (h0 : ∀ a, hz S ≤ a → kd S a = 0) (kb : kd S b = 7) (hc : chn (fr S 12) (fr S 14 b) zs) : chn (fr (Point_init_S (Act_init_S (newQ (newQ S (hz S) 6) (hz (newQ S (hz S) 6)) 1) (hz (newQ S (hz S) 6)) c0 a0) (hz S) o (hz (newQ S (hz S) 6))) 12) (fr (Point_init_S (Act_init_S (newQ (newQ S (hz S) 6) (hz (newQ S (hz S) 6)) 1) (hz (newQ S (hz S) 6)) c0 a0) (hz S) o (hz (newQ S (hz S) 6))) 14 b) zs := chn_point h h0 kb hc

def alarmE_S (S : HS) (t own : Nat) (c0 a0 : Option Nat) : HS := (link_S (appendAlarm_S (sfi (sar (Alarm_init_S (Act_init_S (newQ (newQ S (hz S) 2) (hz (newQ S (hz S) 2)) 1) (hz (newQ S (hz S) 2)) c0 a0) (hz S) ((fi S 11 t) + (1 : Int32)) own (hz (newQ S (hz S) 2))) (gd (fr S 19 t)) (fi S 11 t).toNatClampNeg (some (hz S))) 11 t ((fi S 11 t) + (1 : Int32))) own (hz S)) t own c0)
def alarmE_R (S : HS) (t own : Nat) (c0 a0 : Option Nat) : Int32 := fi (link_S (appendAlarm_S (sfi (sar (Alarm_init_S (Act_init_S (newQ (newQ S (hz S) 2) (hz (newQ S (hz S) 2)) 1) (hz (newQ S (hz S) 2)) c0 a0) (hz S) ((fi S 11 t) + (1 : Int32)) own (hz (newQ S (hz S) 2))) (gd (fr S 19 t)) (fi S 11 t).toNatClampNeg (some (hz S))) 11 t ((fi S 11 t) + (1 : Int32))) own (hz S)) t own c0) 11 t

def alarm_R (S : HS) (t : Nat) (n x o : Int32) : Int32 :=
  opc (findCounter_R S t n) ((-1 : Int32))
  (fun b_3 => if (isUnknownFor_R S t x o) = 0 then
      if x < 0 then
        (-2 : Int32)
      else
        if x ≤ (2 : Int32) then
          if x = (1 : Int32) then
            if (wouldCircle_R S b_3 (findCounter_R S t o)) = 0 then
              if (fi S 11 t) < (100 : Int32) then
                if x = (2 : Int32) then
                  alarmE_R S t b_3 (findCounter_R S t o) (findAlarm_R S t o)
                else
                  alarmE_R S t b_3 (findCounter_R S t o) none
              else
                (-4 : Int32)
            else
              (-3 : Int32)
          else
            if (wouldCircle_R S b_3 none) = 0 then
              if (fi S 11 t) < (100 : Int32) then
                if x = (2 : Int32) then
                  alarmE_R S t b_3 none (findAlarm_R S t o)
                else
                  alarmE_R S t b_3 none none
              else
                (-4 : Int32)
            else
              (-3 : Int32)
        else
          (-2 : Int32)
    else
      (-1 : Int32))
def alarm_S (S : HS) (t : Nat) (n x o : Int32) : HS :=
  opc (findCounter_R S t n) (S)
  (fun b_3 => if (isUnknownFor_R S t x o) = 0 then
      if x < 0 then
        S
      else
        if x ≤ (2 : Int32) then
          if x = (1 : Int32) then
            if (wouldCircle_R S b_3 (findCounter_R S t o)) = 0 then
              if (fi S 11 t) < (100 : Int32) then
                if x = (2 : Int32) then
                  alarmE_S S t b_3 (findCounter_R S t o) (findAlarm_R S t o)
                else
                  alarmE_S S t b_3 (findCounter_R S t o) none
              else
                S
            else
              S
          else
            if (wouldCircle_R S b_3 none) = 0 then
              if (fi S 11 t) < (100 : Int32) then
                if x = (2 : Int32) then
                  alarmE_S S t b_3 none (findAlarm_R S t o)
                else
                  alarmE_S S t b_3 none none
              else
                S
            else
              S
        else
          S
    else
      S)

set_option maxRecDepth 20000 in
set_option maxHeartbeats 2000000 in
theorem c_alarm (l : Launch) (D : va_G) (AC : Nat → ClassId) (S : HS) (t : Nat) (n x o : Int32) (k_t : kd S t = 8) (hn : nn S) (ha : atOk S t) : CtI l yAT_alarm (Cond.code yAT_alarm cAT_alarm 8 (some .int) :: wT) 2 60 D AC S [.ref t, .int n, .int x, .int o] 2 9 (fun r S' => r = alarm_R S t n x o ∧ S' = alarm_S S t n x o) := by
  refine met_of (by decide) (Nat.le_of_ble_eq_true rfl) ?_
  intro p e s m below meth c ls hsz X hW hl
  obtain ⟨hx, hb, hml, hr, hlk, hown, hnm, hts⟩ := X
  have mo : mono S S := mono.rf S
  have hl : lv_has ls 8 [(0, .ref t), (1, .int n), (2, .int x), (3, .int o)] := hl
  have h00 := hW.k00
  have kt0 := k_t
  have nA : fr S 19 t = some (gd (fr S 19 t)) := gd_some (hn 19 t rfl k_t)
  have kA : kd S (gd (fr S 19 t)) = 15 := hW.ok.2.1 19 t _ k_t nA
  have lA : an S (gd (fr S 19 t)) = 100 := ha.2.2.2.2.1
  have kqA : ∀ b, fr S 19 t = some b → kd S b = 15 := fun b h => hW.ok.2.1 19 t b k_t h
  have seg92 : ∀ (own : Nat) (c0 a0 : Option Nat), kd S own = 3 → (∀ b, c0 = some b → kd S b = 3) → (∀ b, a0 = some b → kd S b = 2) → fi S 11 t < (100 : Int32) → alarmE_R S t own c0 a0 = alarm_R S t n x o → alarmE_S S t own c0 a0 = alarm_S S t n x o → ∀ ls, lv_has ls 8 [(0, .ref t), (4, .ref own), (5, va_rf c0), (6, va_rf a0)] → W p l e (rmOf 2 2 9 60) s m ([.ref t, .int n, .int x, .int o] : List Value).toArray below meth c s.heap [] 0 0 (MQ below (va_Qi (fun r S' => r = alarm_R S t n x o ∧ S' = alarm_S S t n x o) (CB D AC S) (AS (hL S) (hz S))) ([.ref t, .int n, .int x, .int o] : List Value).toArray s 2 9 (AS (hL S) (hz S))) (F0 m 92 ls []) := by
    intro own c0 a0 k_own kq_c0 kq_a0 c0_ hvR hvS ls hl
    have ne101_0 : t ≠ (hz S) := hW.ne k_t (by decide)
    have ne101_1 : own ≠ (hz S) := hW.ne k_own (by decide)
    have ne101_2 : (gd (fr S 19 t)) ≠ (hz S) := hW.ne kA (by decide)
    refine n_o (NAT_15).1 rfl (NAT_15).2.1 iwAlarm (NAT_15).2.2 hx hb hts hown hW ⟨Nat.le_of_ble_eq_true rfl, Nat.le_of_ble_eq_true rfl⟩ (hz S) rfl dAT_alarm_92 (fun H hW m_101 k_q101 => ?_)
    have lA := m_101.n kA (by decide) lA
    have k_t := m_101.k k_t (by decide)
    have k_own := m_101.k k_own (by decide)
    have kA := m_101.k kA (by decide)
    have kq_c0 := fun b h => m_101.k (kq_c0 b h) (by decide)
    have kq_a0 := fun b h => m_101.k (kq_a0 b h) (by decide)
    have kqA := fun b h => m_101.k (kqA b h) (by decide)
    have mo := mo.tr m_101
    refine lv_dup hx hb dAT_alarm_95 rfl ?_
    refine lv_aload_n hx hb dAT_alarm_96 rfl (lv_at hl 0 rfl) ?_
    refine g_i FAT_64 hx hb hts hown hW k_t dAT_alarm_97 ?_
    rw [show fi (newQ S (hz S) 2) 11 t = fi S 11 t from (by simp only [ne101_0, fr_sfr, fr_sfi, fr_sfl, fr_sar, fr_sai, fr_sal, fi_sfr, fi_sfi, fi_sfl, fi_sar, fi_sai, fi_sal, fl_sfr, fl_sfi, fl_sfl, fl_sar, fl_sai, fl_sal, fr_newQ, fi_newQ, fl_newQ, fr_newB, fi_newB, fl_newB, ne_eq, not_false_eq_true] <;> rfl)]
    refine lv_iconst (v := (1 : Int32)) hx hb dAT_alarm_100 (by decide) ?_
    refine lv_iadd hx hb dAT_alarm_101 ?_
    refine lv_aload hx hb dAT_alarm_102 (lv_at hl 1 rfl) ?_
    have ne102_0 : t ≠ (hz (newQ S (hz S) 2)) := hW.ne k_t (by decide)
    have ne102_1 : own ≠ (hz (newQ S (hz S) 2)) := hW.ne k_own (by decide)
    have ne102_2 : (gd (fr S 19 t)) ≠ (hz (newQ S (hz S) 2)) := hW.ne kA (by decide)
    have ne102_3 : (hz S) ≠ (hz (newQ S (hz S) 2)) := hW.ne k_q101 (by decide)
    refine n_o (NAT_71).1 rfl (NAT_71).2.1 iwAct (NAT_71).2.2 hx hb hts hown hW ⟨Nat.le_of_ble_eq_true rfl, Nat.le_of_ble_eq_true rfl⟩ (hz (newQ S (hz S) 2)) rfl dAT_alarm_104 (fun H hW m_102 k_q102 => ?_)
    have lA := m_102.n kA (by decide) lA
    have k_t := m_102.k k_t (by decide)
    have k_own := m_102.k k_own (by decide)
    have kA := m_102.k kA (by decide)
    have k_q101 := m_102.k k_q101 (by decide)
    have kq_c0 := fun b h => m_102.k (kq_c0 b h) (by decide)
    have kq_a0 := fun b h => m_102.k (kq_a0 b h) (by decide)
    have kqA := fun b h => m_102.k (kqA b h) (by decide)
    have mo := mo.tr m_102
    refine lv_dup hx hb dAT_alarm_107 rfl ?_
    refine q_aload hx hb dAT_alarm_108 (lv_at hl 2 rfl) ?_
    refine q_aload hx hb dAT_alarm_110 (lv_at hl 3 rfl) ?_
    refine k_Iv (As := [va_rf c0, va_rf a0]) (rest := [.ref (hz (newQ S (hz S) 2)), .ref own, .int ((fi S 11 t) + (1 : Int32)), .ref (hz S), .ref (hz S)]) (c_Act_init l D AC (newQ (newQ S (hz S) 2) (hz (newQ S (hz S) 2)) 1) (hz (newQ S (hz S) 2)) c0 a0 k_q102 kq_c0 kq_a0) CAT_73 hx hb hml hown hts hW hl.1 rfl rfl (Nat.le_of_ble_eq_true rfl) ⟨⟨Nat.le_of_ble_eq_true rfl, Nat.le_of_ble_eq_true rfl⟩, ⟨Nat.le_of_ble_eq_true rfl, Nat.le_of_ble_eq_true rfl⟩⟩ dAT_alarm_112 (fun S_103 H locs e_103 hW m_103 _ => ?_)
    rw [e_103] at hW m_103
    have lA := m_103.n kA (by decide) lA
    have k_t := m_103.k k_t (by decide)
    have k_own := m_103.k k_own (by decide)
    have kA := m_103.k kA (by decide)
    have k_q101 := m_103.k k_q101 (by decide)
    have k_q102 := m_103.k k_q102 (by decide)
    have kq_c0 := fun b h => m_103.k (kq_c0 b h) (by decide)
    have kq_a0 := fun b h => m_103.k (kq_a0 b h) (by decide)
    have kqA := fun b h => m_103.k (kqA b h) (by decide)
    have mo := mo.tr m_103
    refine k_Iv (As := [.int ((fi S 11 t) + (1 : Int32)), .ref own, .ref (hz (newQ S (hz S) 2))]) (rest := [.ref (hz S)]) (c_Alarm_init l D AC (Act_init_S (newQ (newQ S (hz S) 2) (hz (newQ S (hz S) 2)) 1) (hz (newQ S (hz S) 2)) c0 a0) (hz S) ((fi S 11 t) + (1 : Int32)) own (hz (newQ S (hz S) 2)) k_q101 k_own k_q102) CAT_76 hx hb hml hown hts hW hl.1 rfl rfl (Nat.le_of_ble_eq_true rfl) ⟨⟨Nat.le_of_ble_eq_true rfl, Nat.le_of_ble_eq_true rfl⟩, ⟨Nat.le_of_ble_eq_true rfl, Nat.le_of_ble_eq_true rfl⟩⟩ dAT_alarm_115 (fun S_104 H locs e_104 hW m_104 _ => ?_)
    rw [e_104] at hW m_104
    have lA := m_104.n kA (by decide) lA
    have k_t := m_104.k k_t (by decide)
    have k_own := m_104.k k_own (by decide)
    have kA := m_104.k kA (by decide)
    have k_q101 := m_104.k k_q101 (by decide)
    have k_q102 := m_104.k k_q102 (by decide)
    have kq_c0 := fun b h => m_104.k (kq_c0 b h) (by decide)
    have kq_a0 := fun b h => m_104.k (kq_a0 b h) (by decide)
    have kqA := fun b h => m_104.k (kqA b h) (by decide)
    have mo := mo.tr m_104
    have nnp_105 : nn (Alarm_init_S (Act_init_S (newQ (newQ S (hz S) 2) (hz (newQ S (hz S) 2)) 1) (hz (newQ S (hz S) 2)) c0 a0) (hz S) ((fi S 11 t) + (1 : Int32)) own (hz (newQ S (hz S) 2))) := nn_alarm' hn
    refine lv_astore (lv' := [(7, .ref (hz S)), (0, .ref t), (4, .ref own), (5, va_rf c0), (6, va_rf a0)]) hx hb dAT_alarm_118 hl (by decide) (by simp [q_cat, cat_r, cat_i, cat_l, cat_n]) (fun ls hl => ?_)
    refine lv_aload_n hx hb dAT_alarm_120 rfl (lv_at hl 1 rfl) ?_
    refine g_q FAT_17 hx hb hts hown hW k_t dAT_alarm_121 ?_
    rw [show fr (Alarm_init_S (Act_init_S (newQ (newQ S (hz S) 2) (hz (newQ S (hz S) 2)) 1) (hz (newQ S (hz S) 2)) c0 a0) (hz S) ((fi S 11 t) + (1 : Int32)) own (hz (newQ S (hz S) 2))) 19 t = fr S 19 t from (by simp only [Alarm_init_S, ne101_0, Act_init_S, ne102_0, fr_sfr, fr_sfi, fr_sfl, fr_sar, fr_sai, fr_sal, fi_sfr, fi_sfi, fi_sfl, fi_sar, fi_sai, fi_sal, fl_sfr, fl_sfi, fl_sfl, fl_sar, fl_sai, fl_sal, fr_newQ, fi_newQ, fl_newQ, fr_newB, fi_newB, fl_newB, ne_eq, not_false_eq_true] <;> rfl)]
    refine lv_aload_n hx hb dAT_alarm_124 rfl (lv_at hl 1 rfl) ?_
    refine g_i FAT_64 hx hb hts hown hW k_t dAT_alarm_125 ?_
    rw [show fi (Alarm_init_S (Act_init_S (newQ (newQ S (hz S) 2) (hz (newQ S (hz S) 2)) 1) (hz (newQ S (hz S) 2)) c0 a0) (hz S) ((fi S 11 t) + (1 : Int32)) own (hz (newQ S (hz S) 2))) 11 t = fi S 11 t from (by simp only [Alarm_init_S, ne101_0, Act_init_S, ne102_0, fr_sfr, fr_sfi, fr_sfl, fr_sar, fr_sai, fr_sal, fi_sfr, fi_sfi, fi_sfl, fi_sar, fi_sai, fi_sal, fl_sfr, fl_sfi, fl_sfl, fl_sar, fl_sai, fl_sal, fr_newQ, fi_newQ, fl_newQ, fr_newB, fi_newB, fl_newB, ne_eq, not_false_eq_true] <;> rfl)]
    refine lv_aload hx hb dAT_alarm_128 (lv_at hl 0 rfl) ?_
    refine q_some2 nA ?_
    refine a_rs (K := 15) (t0 := 4) (by decide) rfl (r := (RAlarm, TAlarm, 7)) ⟨rfl, rfl⟩ hx hb hW kA k_q101 (cnt_in (Classical.choose_spec ha.2.1).2 (Classical.choose_spec ha.2.1).1 (by decide) c0_ lA) dAT_alarm_130 (fun H locs hW => ?_)
    have mo := mo.tr (mono_sar (a := (gd (fr S 19 t))) (i := (fi S 11 t).toNatClampNeg) (v := (some (hz S))))
    have lA : an (sar (Alarm_init_S (Act_init_S (newQ (newQ S (hz S) 2) (hz (newQ S (hz S) 2)) 1) (hz (newQ S (hz S) 2)) c0 a0) (hz S) ((fi S 11 t) + (1 : Int32)) own (hz (newQ S (hz S) 2))) (gd (fr S 19 t)) (fi S 11 t).toNatClampNeg (some (hz S))) (gd (fr S 19 t)) = 100 := ka_sar lA
    have k_t : kd (sar (Alarm_init_S (Act_init_S (newQ (newQ S (hz S) 2) (hz (newQ S (hz S) 2)) 1) (hz (newQ S (hz S) 2)) c0 a0) (hz S) ((fi S 11 t) + (1 : Int32)) own (hz (newQ S (hz S) 2))) (gd (fr S 19 t)) (fi S 11 t).toNatClampNeg (some (hz S))) t = 8 := kk_sar k_t
    have k_own : kd (sar (Alarm_init_S (Act_init_S (newQ (newQ S (hz S) 2) (hz (newQ S (hz S) 2)) 1) (hz (newQ S (hz S) 2)) c0 a0) (hz S) ((fi S 11 t) + (1 : Int32)) own (hz (newQ S (hz S) 2))) (gd (fr S 19 t)) (fi S 11 t).toNatClampNeg (some (hz S))) own = 3 := kk_sar k_own
    have kA : kd (sar (Alarm_init_S (Act_init_S (newQ (newQ S (hz S) 2) (hz (newQ S (hz S) 2)) 1) (hz (newQ S (hz S) 2)) c0 a0) (hz S) ((fi S 11 t) + (1 : Int32)) own (hz (newQ S (hz S) 2))) (gd (fr S 19 t)) (fi S 11 t).toNatClampNeg (some (hz S))) (gd (fr S 19 t)) = 15 := kk_sar kA
    have k_q101 : kd (sar (Alarm_init_S (Act_init_S (newQ (newQ S (hz S) 2) (hz (newQ S (hz S) 2)) 1) (hz (newQ S (hz S) 2)) c0 a0) (hz S) ((fi S 11 t) + (1 : Int32)) own (hz (newQ S (hz S) 2))) (gd (fr S 19 t)) (fi S 11 t).toNatClampNeg (some (hz S))) (hz S) = 2 := kk_sar k_q101
    have k_q102 : kd (sar (Alarm_init_S (Act_init_S (newQ (newQ S (hz S) 2) (hz (newQ S (hz S) 2)) 1) (hz (newQ S (hz S) 2)) c0 a0) (hz S) ((fi S 11 t) + (1 : Int32)) own (hz (newQ S (hz S) 2))) (gd (fr S 19 t)) (fi S 11 t).toNatClampNeg (some (hz S))) (hz (newQ S (hz S) 2)) = 1 := kk_sar k_q102
    have kq_c0 : ∀ b, c0 = some b → kd (sar (Alarm_init_S (Act_init_S (newQ (newQ S (hz S) 2) (hz (newQ S (hz S) 2)) 1) (hz (newQ S (hz S) 2)) c0 a0) (hz S) ((fi S 11 t) + (1 : Int32)) own (hz (newQ S (hz S) 2))) (gd (fr S 19 t)) (fi S 11 t).toNatClampNeg (some (hz S))) b = 3 := fun b h => kk_sar (kq_c0 b h)
    have kq_a0 : ∀ b, a0 = some b → kd (sar (Alarm_init_S (Act_init_S (newQ (newQ S (hz S) 2) (hz (newQ S (hz S) 2)) 1) (hz (newQ S (hz S) 2)) c0 a0) (hz S) ((fi S 11 t) + (1 : Int32)) own (hz (newQ S (hz S) 2))) (gd (fr S 19 t)) (fi S 11 t).toNatClampNeg (some (hz S))) b = 2 := fun b h => kk_sar (kq_a0 b h)
    have kqA : ∀ b, fr S 19 t = some b → kd (sar (Alarm_init_S (Act_init_S (newQ (newQ S (hz S) 2) (hz (newQ S (hz S) 2)) 1) (hz (newQ S (hz S) 2)) c0 a0) (hz S) ((fi S 11 t) + (1 : Int32)) own (hz (newQ S (hz S) 2))) (gd (fr S 19 t)) (fi S 11 t).toNatClampNeg (some (hz S))) b = 15 := fun b h => kk_sar (kqA b h)
    have nnp_106 : nn (sar (Alarm_init_S (Act_init_S (newQ (newQ S (hz S) 2) (hz (newQ S (hz S) 2)) 1) (hz (newQ S (hz S) 2)) c0 a0) (hz S) ((fi S 11 t) + (1 : Int32)) own (hz (newQ S (hz S) 2))) (gd (fr S 19 t)) (fi S 11 t).toNatClampNeg (some (hz S))) := nn_sar nnp_105
    refine lv_aload_n hx hb dAT_alarm_131 rfl (lv_at hl 1 rfl) ?_
    refine lv_dup hx hb dAT_alarm_132 rfl ?_
    refine g_i FAT_64 hx hb hts hown hW k_t dAT_alarm_133 ?_
    rw [show fi (sar (Alarm_init_S (Act_init_S (newQ (newQ S (hz S) 2) (hz (newQ S (hz S) 2)) 1) (hz (newQ S (hz S) 2)) c0 a0) (hz S) ((fi S 11 t) + (1 : Int32)) own (hz (newQ S (hz S) 2))) (gd (fr S 19 t)) (fi S 11 t).toNatClampNeg (some (hz S))) 11 t = fi S 11 t from (by simp only [Alarm_init_S, ne101_0, Act_init_S, ne102_0, fr_sfr, fr_sfi, fr_sfl, fr_sar, fr_sai, fr_sal, fi_sfr, fi_sfi, fi_sfl, fi_sar, fi_sai, fi_sal, fl_sfr, fl_sfi, fl_sfl, fl_sar, fl_sai, fl_sal, fr_newQ, fi_newQ, fl_newQ, fr_newB, fi_newB, fl_newB, ne_eq, not_false_eq_true] <;> rfl)]
    refine lv_iconst (v := (1 : Int32)) hx hb dAT_alarm_136 (by decide) ?_
    refine lv_iadd hx hb dAT_alarm_137 ?_
    refine p_i FAT_64 GAT_alarmCount (fun h => by cases h) hx hb hts hown hW k_t rfl rfl dAT_alarm_138 (fun H locs hW => ?_)
    have mo := mo.tr (mono_sfi (k := 11) (a := t) (v := ((fi S 11 t) + (1 : Int32))))
    have lA : an (sfi (sar (Alarm_init_S (Act_init_S (newQ (newQ S (hz S) 2) (hz (newQ S (hz S) 2)) 1) (hz (newQ S (hz S) 2)) c0 a0) (hz S) ((fi S 11 t) + (1 : Int32)) own (hz (newQ S (hz S) 2))) (gd (fr S 19 t)) (fi S 11 t).toNatClampNeg (some (hz S))) 11 t ((fi S 11 t) + (1 : Int32))) (gd (fr S 19 t)) = 100 := ka_sfi lA
    have k_t : kd (sfi (sar (Alarm_init_S (Act_init_S (newQ (newQ S (hz S) 2) (hz (newQ S (hz S) 2)) 1) (hz (newQ S (hz S) 2)) c0 a0) (hz S) ((fi S 11 t) + (1 : Int32)) own (hz (newQ S (hz S) 2))) (gd (fr S 19 t)) (fi S 11 t).toNatClampNeg (some (hz S))) 11 t ((fi S 11 t) + (1 : Int32))) t = 8 := kk_sfi k_t
    have k_own : kd (sfi (sar (Alarm_init_S (Act_init_S (newQ (newQ S (hz S) 2) (hz (newQ S (hz S) 2)) 1) (hz (newQ S (hz S) 2)) c0 a0) (hz S) ((fi S 11 t) + (1 : Int32)) own (hz (newQ S (hz S) 2))) (gd (fr S 19 t)) (fi S 11 t).toNatClampNeg (some (hz S))) 11 t ((fi S 11 t) + (1 : Int32))) own = 3 := kk_sfi k_own
    have kA : kd (sfi (sar (Alarm_init_S (Act_init_S (newQ (newQ S (hz S) 2) (hz (newQ S (hz S) 2)) 1) (hz (newQ S (hz S) 2)) c0 a0) (hz S) ((fi S 11 t) + (1 : Int32)) own (hz (newQ S (hz S) 2))) (gd (fr S 19 t)) (fi S 11 t).toNatClampNeg (some (hz S))) 11 t ((fi S 11 t) + (1 : Int32))) (gd (fr S 19 t)) = 15 := kk_sfi kA
    have k_q101 : kd (sfi (sar (Alarm_init_S (Act_init_S (newQ (newQ S (hz S) 2) (hz (newQ S (hz S) 2)) 1) (hz (newQ S (hz S) 2)) c0 a0) (hz S) ((fi S 11 t) + (1 : Int32)) own (hz (newQ S (hz S) 2))) (gd (fr S 19 t)) (fi S 11 t).toNatClampNeg (some (hz S))) 11 t ((fi S 11 t) + (1 : Int32))) (hz S) = 2 := kk_sfi k_q101
    have k_q102 : kd (sfi (sar (Alarm_init_S (Act_init_S (newQ (newQ S (hz S) 2) (hz (newQ S (hz S) 2)) 1) (hz (newQ S (hz S) 2)) c0 a0) (hz S) ((fi S 11 t) + (1 : Int32)) own (hz (newQ S (hz S) 2))) (gd (fr S 19 t)) (fi S 11 t).toNatClampNeg (some (hz S))) 11 t ((fi S 11 t) + (1 : Int32))) (hz (newQ S (hz S) 2)) = 1 := kk_sfi k_q102
    have kq_c0 : ∀ b, c0 = some b → kd (sfi (sar (Alarm_init_S (Act_init_S (newQ (newQ S (hz S) 2) (hz (newQ S (hz S) 2)) 1) (hz (newQ S (hz S) 2)) c0 a0) (hz S) ((fi S 11 t) + (1 : Int32)) own (hz (newQ S (hz S) 2))) (gd (fr S 19 t)) (fi S 11 t).toNatClampNeg (some (hz S))) 11 t ((fi S 11 t) + (1 : Int32))) b = 3 := fun b h => kk_sfi (kq_c0 b h)
    have kq_a0 : ∀ b, a0 = some b → kd (sfi (sar (Alarm_init_S (Act_init_S (newQ (newQ S (hz S) 2) (hz (newQ S (hz S) 2)) 1) (hz (newQ S (hz S) 2)) c0 a0) (hz S) ((fi S 11 t) + (1 : Int32)) own (hz (newQ S (hz S) 2))) (gd (fr S 19 t)) (fi S 11 t).toNatClampNeg (some (hz S))) 11 t ((fi S 11 t) + (1 : Int32))) b = 2 := fun b h => kk_sfi (kq_a0 b h)
    have kqA : ∀ b, fr S 19 t = some b → kd (sfi (sar (Alarm_init_S (Act_init_S (newQ (newQ S (hz S) 2) (hz (newQ S (hz S) 2)) 1) (hz (newQ S (hz S) 2)) c0 a0) (hz S) ((fi S 11 t) + (1 : Int32)) own (hz (newQ S (hz S) 2))) (gd (fr S 19 t)) (fi S 11 t).toNatClampNeg (some (hz S))) 11 t ((fi S 11 t) + (1 : Int32))) b = 15 := fun b h => kk_sfi (kqA b h)
    have nnp_107 : nn (sfi (sar (Alarm_init_S (Act_init_S (newQ (newQ S (hz S) 2) (hz (newQ S (hz S) 2)) 1) (hz (newQ S (hz S) 2)) c0 a0) (hz S) ((fi S 11 t) + (1 : Int32)) own (hz (newQ S (hz S) 2))) (gd (fr S 19 t)) (fi S 11 t).toNatClampNeg (some (hz S))) 11 t ((fi S 11 t) + (1 : Int32))) := nn_sfi nnp_106
    refine lv_aload hx hb dAT_alarm_141 (lv_at hl 2 rfl) ?_
    refine lv_aload hx hb dAT_alarm_143 (lv_at hl 0 rfl) ?_
    refine k_Vv (As := [.ref (hz S)]) (rest := []) (c_appendAlarm l D AC (sfi (sar (Alarm_init_S (Act_init_S (newQ (newQ S (hz S) 2) (hz (newQ S (hz S) 2)) 1) (hz (newQ S (hz S) 2)) c0 a0) (hz S) ((fi S 11 t) + (1 : Int32)) own (hz (newQ S (hz S) 2))) (gd (fr S 19 t)) (fi S 11 t).toNatClampNeg (some (hz S))) 11 t ((fi S 11 t) + (1 : Int32))) own (hz S) k_own k_q101) CAT_79 ⟨by decide, by decide, _, rfl, rfl⟩ hx hb hml hown hts hW k_own hl.1 rfl rfl (Nat.le_of_ble_eq_true rfl) ⟨⟨Nat.le_of_ble_eq_true rfl, Nat.le_of_ble_eq_true rfl⟩, ⟨Nat.le_of_ble_eq_true rfl, Nat.le_of_ble_eq_true rfl⟩⟩ dAT_alarm_145 (fun S_108 H locs e_108 hW m_108 _ => ?_)
    rw [e_108] at hW m_108
    have lA := m_108.n kA (by decide) lA
    have k_t := m_108.k k_t (by decide)
    have k_own := m_108.k k_own (by decide)
    have kA := m_108.k kA (by decide)
    have k_q101 := m_108.k k_q101 (by decide)
    have k_q102 := m_108.k k_q102 (by decide)
    have kq_c0 := fun b h => m_108.k (kq_c0 b h) (by decide)
    have kq_a0 := fun b h => m_108.k (kq_a0 b h) (by decide)
    have kqA := fun b h => m_108.k (kqA b h) (by decide)
    have mo := mo.tr m_108
    have nnp_109 : nn (appendAlarm_S (sfi (sar (Alarm_init_S (Act_init_S (newQ (newQ S (hz S) 2) (hz (newQ S (hz S) 2)) 1) (hz (newQ S (hz S) 2)) c0 a0) (hz S) ((fi S 11 t) + (1 : Int32)) own (hz (newQ S (hz S) 2))) (gd (fr S 19 t)) (fi S 11 t).toNatClampNeg (some (hz S))) 11 t ((fi S 11 t) + (1 : Int32))) own (hz S)) := nn_appendAlarm nnp_107
    refine lv_aload_n hx hb dAT_alarm_148 rfl (lv_at hl 1 rfl) ?_
    refine lv_aload hx hb dAT_alarm_149 (lv_at hl 2 rfl) ?_
    refine q_aload hx hb dAT_alarm_151 (lv_at hl 3 rfl) ?_
    refine k_Vv (As := [.ref own, va_rf c0]) (rest := []) (c_link l D AC (appendAlarm_S (sfi (sar (Alarm_init_S (Act_init_S (newQ (newQ S (hz S) 2) (hz (newQ S (hz S) 2)) 1) (hz (newQ S (hz S) 2)) c0 a0) (hz S) ((fi S 11 t) + (1 : Int32)) own (hz (newQ S (hz S) 2))) (gd (fr S 19 t)) (fi S 11 t).toNatClampNeg (some (hz S))) 11 t ((fi S 11 t) + (1 : Int32))) own (hz S)) t own c0 k_t k_own kq_c0 nnp_109 (atOk_alarm' ha h00 kt0 c0_)) CAT_83 ⟨by decide, by decide, _, rfl, rfl⟩ hx hb hml hown hts hW k_t hl.1 rfl rfl (Nat.le_of_ble_eq_true rfl) ⟨⟨Nat.le_of_ble_eq_true rfl, Nat.le_of_ble_eq_true rfl⟩, ⟨Nat.le_of_ble_eq_true rfl, Nat.le_of_ble_eq_true rfl⟩⟩ dAT_alarm_153 (fun S_110 H locs e_110 hW m_110 _ => ?_)
    rw [e_110] at hW m_110
    have lA := m_110.n kA (by decide) lA
    have k_t := m_110.k k_t (by decide)
    have k_own := m_110.k k_own (by decide)
    have kA := m_110.k kA (by decide)
    have k_q101 := m_110.k k_q101 (by decide)
    have k_q102 := m_110.k k_q102 (by decide)
    have kq_c0 := fun b h => m_110.k (kq_c0 b h) (by decide)
    have kq_a0 := fun b h => m_110.k (kq_a0 b h) (by decide)
    have kqA := fun b h => m_110.k (kqA b h) (by decide)
    have mo := mo.tr m_110
    refine lv_aload_n hx hb dAT_alarm_156 rfl (lv_at hl 1 rfl) ?_
    refine g_i FAT_64 hx hb hts hown hW k_t dAT_alarm_157 ?_
    exact e_i hsz hx hb hr hlk hW mo (Nat.le_of_ble_eq_true rfl) (Nat.le_of_ble_eq_true rfl) dAT_alarm_160 ⟨hvR, hvS⟩
  refine lv_aload_n hx hb dAT_alarm_0 rfl (lv_at hl 0 rfl) ?_
  refine lv_iload_n hx hb dAT_alarm_1 rfl (lv_at hl 1 rfl) ?_
  refine k_Vq (As := [.int n]) (rest := []) (c_findCounter l D AC S t n k_t hn ha) CAT_52 ⟨by decide, by decide, _, rfl, rfl⟩ hx hb hml hown hts hW k_t hl.1 rfl rfl (Nat.le_of_ble_eq_true rfl) ⟨⟨Nat.le_of_ble_eq_true rfl, Nat.le_of_ble_eq_true rfl⟩, ⟨Nat.le_of_ble_eq_true rfl, Nat.le_of_ble_eq_true rfl⟩⟩ dAT_alarm_2 (fun r_1 S_1 H locs e_1 hW m_1 _ => ?_)
  obtain ⟨e1_1, e2_1⟩ := e_1
  rw [e2_1] at hW m_1
  rw [e1_1]
  have kq_2 : ∀ b, (findCounter_R S t n) = some b → kd S b = 3 := kq_findCounter hW.ok k_t hn _
  refine q_astore (lv' := [(4, va_rf (findCounter_R S t n)), (0, .ref t), (1, .int n), (2, .int x), (3, .int o)]) hx hb dAT_alarm_5 hl (by decide) rfl (fun ls hl => ?_)
  refine q_aload hx hb dAT_alarm_7 (lv_at hl 0 rfl) ?_
  refine q_ifnull (tgt := 21) hx hb dAT_alarm_9 (by decide) (fun n_3 => ?_) (fun b_3 n_3 => ?_)
  · refine lv_iconst (v := (-1 : Int32)) hx hb dAT_alarm_21 (by decide) ?_
    exact e_i hsz hx hb hr hlk hW mo (Nat.le_of_ble_eq_true rfl) (Nat.le_of_ble_eq_true rfl) dAT_alarm_22 ⟨by refine Eq.symm ?_; refine (op_none n_3).trans ?_; rfl, by refine Eq.symm ?_; refine (op_none n_3).trans ?_; rfl⟩
  · have k_b_3 : kd S b_3 = 3 := kq_2 b_3 n_3
    refine lv_aload_n hx hb dAT_alarm_12 rfl (lv_at hl 1 rfl) ?_
    refine lv_iload_n hx hb dAT_alarm_13 rfl (lv_at hl 3 rfl) ?_
    refine lv_iload_n hx hb dAT_alarm_14 rfl (lv_at hl 4 rfl) ?_
    refine k_Vi (As := [.int x, .int o]) (rest := []) (c_isUnknownFor l D AC S t x o k_t hn ha) CAT_56 ⟨by decide, by decide, _, rfl, rfl⟩ hx hb hml hown hts hW k_t hl.1 rfl rfl (Nat.le_of_ble_eq_true rfl) ⟨⟨Nat.le_of_ble_eq_true rfl, Nat.le_of_ble_eq_true rfl⟩, ⟨Nat.le_of_ble_eq_true rfl, Nat.le_of_ble_eq_true rfl⟩⟩ dAT_alarm_15 (fun r_4 S_4 H locs e_4 hW m_4 _ => ?_)
    obtain ⟨e1_4, e2_4⟩ := e_4
    rw [e2_4] at hW m_4
    rw [e1_4]
    refine lv_if_eq (tgt := 23) hx hb dAT_alarm_18 (by decide) (fun c_5 => ?_) (fun c_5 => ?_)
    · refine lv_iload_n hx hb dAT_alarm_23 rfl (lv_at hl 3 rfl) ?_
      refine lv_if_lt (tgt := 32) hx hb dAT_alarm_24 (by decide) (fun c_6 => ?_) (fun c_6 => ?_)
      · refine lv_bipush (v := (-2 : Int32)) hx hb dAT_alarm_32 (by decide) ?_
        exact e_i hsz hx hb hr hlk hW mo (Nat.le_of_ble_eq_true rfl) (Nat.le_of_ble_eq_true rfl) dAT_alarm_34 ⟨by refine Eq.symm ?_; refine (op_some n_3).trans ?_; refine (if_pos c_5).trans ?_; refine (if_pos c_6).trans ?_; rfl, by refine Eq.symm ?_; refine (op_some n_3).trans ?_; refine (if_pos c_5).trans ?_; refine (if_pos c_6).trans ?_; rfl⟩
      · refine lv_iload_n hx hb dAT_alarm_27 rfl (lv_at hl 3 rfl) ?_
        refine lv_iconst (v := (2 : Int32)) hx hb dAT_alarm_28 (by decide) ?_
        refine lv_icmp_le (tgt := 35) hx hb dAT_alarm_29 (by decide) (fun c_7 => ?_) (fun c_7 => ?_)
        · refine lv_iload_n hx hb dAT_alarm_35 rfl (lv_at hl 3 rfl) ?_
          refine lv_iconst (v := (1 : Int32)) hx hb dAT_alarm_36 (by decide) ?_
          refine lv_icmp_ne (tgt := 48) hx hb dAT_alarm_37 (by decide) (fun c_8 => ?_) (fun c_8 => ?_)
          · refine lv_null hx hb dAT_alarm_48 ?_
            refine lv_astoreN (lv' := [(5, .null), (4, va_rf (findCounter_R S t n)), (0, .ref t), (1, .int n), (2, .int x), (3, .int o)]) hx hb dAT_alarm_49 hl (by decide) (by simp [q_cat, cat_r, cat_i, cat_l, cat_n]) (fun ls hl => ?_)
            refine q_aload hx hb dAT_alarm_51 (lv_at hl 1 rfl) ?_
            refine lv_aloadN hx hb dAT_alarm_53 (lv_at hl 0 rfl) ?_
            refine q_some1 n_3 ?_
            refine k_Si (As := [.ref b_3, .null]) (rest := []) (c_wouldCircle l D AC S b_3 none k_b_3 (fun b h => by cases h)) CAT_60 hx hb hml hown hts hW hl.1 rfl rfl (Nat.le_of_ble_eq_true rfl) ⟨⟨Nat.le_of_ble_eq_true rfl, Nat.le_of_ble_eq_true rfl⟩, ⟨Nat.le_of_ble_eq_true rfl, Nat.le_of_ble_eq_true rfl⟩⟩ dAT_alarm_55 (fun r_9 S_9 H locs e_9 hW m_9 _ => ?_)
            obtain ⟨e1_9, e2_9⟩ := e_9
            rw [e2_9] at hW m_9
            rw [e1_9]
            refine lv_if_eq (tgt := 64) hx hb dAT_alarm_58 (by decide) (fun c_10 => ?_) (fun c_10 => ?_)
            · refine lv_aload_n hx hb dAT_alarm_64 rfl (lv_at hl 2 rfl) ?_
              refine g_i FAT_64 hx hb hts hown hW k_t dAT_alarm_65 ?_
              refine lv_bipush (v := (100 : Int32)) hx hb dAT_alarm_68 (by decide) ?_
              refine lv_icmp_lt (tgt := 76) hx hb dAT_alarm_70 (by decide) (fun c_11 => ?_) (fun c_11 => ?_)
              · refine lv_iload_n hx hb dAT_alarm_76 rfl (lv_at hl 4 rfl) ?_
                refine lv_iconst (v := (2 : Int32)) hx hb dAT_alarm_77 (by decide) ?_
                refine lv_icmp_ne (tgt := 89) hx hb dAT_alarm_78 (by decide) (fun c_12 => ?_) (fun c_12 => ?_)
                · refine lv_null hx hb dAT_alarm_89 ?_
                  refine lv_astoreN (lv' := [(6, .null), (5, .null), (4, va_rf (findCounter_R S t n)), (0, .ref t), (1, .int n), (2, .int x), (3, .int o)]) hx hb dAT_alarm_90 hl (by decide) rfl (fun ls hl => ?_)
                  exact seg92 b_3 none none k_b_3 (fun b h => by cases h) (fun b h => by cases h) c_11 (by refine Eq.symm ?_; refine (op_some n_3).trans ?_; refine (if_pos c_5).trans ?_; refine (if_neg c_6).trans ?_; refine (if_pos c_7).trans ?_; refine (if_neg c_8).trans ?_; refine (if_pos c_10).trans ?_; refine (if_pos c_11).trans ?_; refine (if_neg c_12).trans ?_; rfl) (by refine Eq.symm ?_; refine (op_some n_3).trans ?_; refine (if_pos c_5).trans ?_; refine (if_neg c_6).trans ?_; refine (if_pos c_7).trans ?_; refine (if_neg c_8).trans ?_; refine (if_pos c_10).trans ?_; refine (if_pos c_11).trans ?_; refine (if_neg c_12).trans ?_; rfl) ls (by have hl2 := (lv_sub hl [3, 2, 1, 0] rfl); rw [n_3] at hl2; exact hl2)
                · refine lv_aload_n hx hb dAT_alarm_81 rfl (lv_at hl 2 rfl) ?_
                  refine lv_iload_n hx hb dAT_alarm_82 rfl (lv_at hl 5 rfl) ?_
                  refine k_Vq (As := [.int o]) (rest := []) (c_findAlarm l D AC S t o k_t hn ha) CAT_67 ⟨by decide, by decide, _, rfl, rfl⟩ hx hb hml hown hts hW k_t hl.1 rfl rfl (Nat.le_of_ble_eq_true rfl) ⟨⟨Nat.le_of_ble_eq_true rfl, Nat.le_of_ble_eq_true rfl⟩, ⟨Nat.le_of_ble_eq_true rfl, Nat.le_of_ble_eq_true rfl⟩⟩ dAT_alarm_83 (fun r_13 S_13 H locs e_13 hW m_13 _ => ?_)
                  obtain ⟨e1_13, e2_13⟩ := e_13
                  rw [e2_13] at hW m_13
                  rw [e1_13]
                  have kq_14 : ∀ b, (findAlarm_R S t o) = some b → kd S b = 2 := kq_findAlarm hW.ok k_t hn _
                  refine lv_goto (tgt := 90) hx hb dAT_alarm_86 (by decide) ?_
                  refine q_astore (lv' := [(6, va_rf (findAlarm_R S t o)), (5, .null), (4, va_rf (findCounter_R S t n)), (0, .ref t), (1, .int n), (2, .int x), (3, .int o)]) hx hb dAT_alarm_90 hl (by decide) rfl (fun ls hl => ?_)
                  exact seg92 b_3 none (findAlarm_R S t o) k_b_3 (fun b h => by cases h) kq_14 c_11 (by refine Eq.symm ?_; refine (op_some n_3).trans ?_; refine (if_pos c_5).trans ?_; refine (if_neg c_6).trans ?_; refine (if_pos c_7).trans ?_; refine (if_neg c_8).trans ?_; refine (if_pos c_10).trans ?_; refine (if_pos c_11).trans ?_; refine (if_pos c_12).trans ?_; rfl) (by refine Eq.symm ?_; refine (op_some n_3).trans ?_; refine (if_pos c_5).trans ?_; refine (if_neg c_6).trans ?_; refine (if_pos c_7).trans ?_; refine (if_neg c_8).trans ?_; refine (if_pos c_10).trans ?_; refine (if_pos c_11).trans ?_; refine (if_pos c_12).trans ?_; rfl) ls (by have hl2 := (lv_sub hl [3, 2, 1, 0] rfl); rw [n_3] at hl2; exact hl2)
              · refine lv_bipush (v := (-4 : Int32)) hx hb dAT_alarm_73 (by decide) ?_
                exact e_i hsz hx hb hr hlk hW mo (Nat.le_of_ble_eq_true rfl) (Nat.le_of_ble_eq_true rfl) dAT_alarm_75 ⟨by refine Eq.symm ?_; refine (op_some n_3).trans ?_; refine (if_pos c_5).trans ?_; refine (if_neg c_6).trans ?_; refine (if_pos c_7).trans ?_; refine (if_neg c_8).trans ?_; refine (if_pos c_10).trans ?_; refine (if_neg c_11).trans ?_; rfl, by refine Eq.symm ?_; refine (op_some n_3).trans ?_; refine (if_pos c_5).trans ?_; refine (if_neg c_6).trans ?_; refine (if_pos c_7).trans ?_; refine (if_neg c_8).trans ?_; refine (if_pos c_10).trans ?_; refine (if_neg c_11).trans ?_; rfl⟩
            · refine lv_bipush (v := (-3 : Int32)) hx hb dAT_alarm_61 (by decide) ?_
              exact e_i hsz hx hb hr hlk hW mo (Nat.le_of_ble_eq_true rfl) (Nat.le_of_ble_eq_true rfl) dAT_alarm_63 ⟨by refine Eq.symm ?_; refine (op_some n_3).trans ?_; refine (if_pos c_5).trans ?_; refine (if_neg c_6).trans ?_; refine (if_pos c_7).trans ?_; refine (if_neg c_8).trans ?_; refine (if_neg c_10).trans ?_; rfl, by refine Eq.symm ?_; refine (op_some n_3).trans ?_; refine (if_pos c_5).trans ?_; refine (if_neg c_6).trans ?_; refine (if_pos c_7).trans ?_; refine (if_neg c_8).trans ?_; refine (if_neg c_10).trans ?_; rfl⟩
          · refine lv_aload_n hx hb dAT_alarm_40 rfl (lv_at hl 1 rfl) ?_
            refine lv_iload_n hx hb dAT_alarm_41 rfl (lv_at hl 4 rfl) ?_
            refine k_Vq (As := [.int o]) (rest := []) (c_findCounter l D AC S t o k_t hn ha) CAT_52 ⟨by decide, by decide, _, rfl, rfl⟩ hx hb hml hown hts hW k_t hl.1 rfl rfl (Nat.le_of_ble_eq_true rfl) ⟨⟨Nat.le_of_ble_eq_true rfl, Nat.le_of_ble_eq_true rfl⟩, ⟨Nat.le_of_ble_eq_true rfl, Nat.le_of_ble_eq_true rfl⟩⟩ dAT_alarm_42 (fun r_15 S_15 H locs e_15 hW m_15 _ => ?_)
            obtain ⟨e1_15, e2_15⟩ := e_15
            rw [e2_15] at hW m_15
            rw [e1_15]
            have kq_16 : ∀ b, (findCounter_R S t o) = some b → kd S b = 3 := kq_findCounter hW.ok k_t hn _
            refine lv_goto (tgt := 49) hx hb dAT_alarm_45 (by decide) ?_
            refine q_astore (lv' := [(5, va_rf (findCounter_R S t o)), (4, va_rf (findCounter_R S t n)), (0, .ref t), (1, .int n), (2, .int x), (3, .int o)]) hx hb dAT_alarm_49 hl (by decide) (by simp [q_cat, cat_r, cat_i, cat_l, cat_n]) (fun ls hl => ?_)
            refine q_aload hx hb dAT_alarm_51 (lv_at hl 1 rfl) ?_
            refine q_aload hx hb dAT_alarm_53 (lv_at hl 0 rfl) ?_
            refine q_some1 n_3 ?_
            refine k_Si (As := [.ref b_3, va_rf (findCounter_R S t o)]) (rest := []) (c_wouldCircle l D AC S b_3 (findCounter_R S t o) k_b_3 kq_16) CAT_60 hx hb hml hown hts hW hl.1 rfl rfl (Nat.le_of_ble_eq_true rfl) ⟨⟨Nat.le_of_ble_eq_true rfl, Nat.le_of_ble_eq_true rfl⟩, ⟨Nat.le_of_ble_eq_true rfl, Nat.le_of_ble_eq_true rfl⟩⟩ dAT_alarm_55 (fun r_17 S_17 H locs e_17 hW m_17 _ => ?_)
            obtain ⟨e1_17, e2_17⟩ := e_17
            rw [e2_17] at hW m_17
            rw [e1_17]
            refine lv_if_eq (tgt := 64) hx hb dAT_alarm_58 (by decide) (fun c_18 => ?_) (fun c_18 => ?_)
            · refine lv_aload_n hx hb dAT_alarm_64 rfl (lv_at hl 2 rfl) ?_
              refine g_i FAT_64 hx hb hts hown hW k_t dAT_alarm_65 ?_
              refine lv_bipush (v := (100 : Int32)) hx hb dAT_alarm_68 (by decide) ?_
              refine lv_icmp_lt (tgt := 76) hx hb dAT_alarm_70 (by decide) (fun c_19 => ?_) (fun c_19 => ?_)
              · refine lv_iload_n hx hb dAT_alarm_76 rfl (lv_at hl 4 rfl) ?_
                refine lv_iconst (v := (2 : Int32)) hx hb dAT_alarm_77 (by decide) ?_
                refine lv_icmp_ne (tgt := 89) hx hb dAT_alarm_78 (by decide) (fun c_20 => ?_) (fun c_20 => ?_)
                · refine lv_null hx hb dAT_alarm_89 ?_
                  refine lv_astoreN (lv' := [(6, .null), (5, va_rf (findCounter_R S t o)), (4, va_rf (findCounter_R S t n)), (0, .ref t), (1, .int n), (2, .int x), (3, .int o)]) hx hb dAT_alarm_90 hl (by decide) (by simp [q_cat, cat_r, cat_i, cat_l, cat_n]) (fun ls hl => ?_)
                  exact seg92 b_3 (findCounter_R S t o) none k_b_3 kq_16 (fun b h => by cases h) c_19 (by refine Eq.symm ?_; refine (op_some n_3).trans ?_; refine (if_pos c_5).trans ?_; refine (if_neg c_6).trans ?_; refine (if_pos c_7).trans ?_; refine (if_pos c_8).trans ?_; refine (if_pos c_18).trans ?_; refine (if_pos c_19).trans ?_; refine (if_neg c_20).trans ?_; rfl) (by refine Eq.symm ?_; refine (op_some n_3).trans ?_; refine (if_pos c_5).trans ?_; refine (if_neg c_6).trans ?_; refine (if_pos c_7).trans ?_; refine (if_pos c_8).trans ?_; refine (if_pos c_18).trans ?_; refine (if_pos c_19).trans ?_; refine (if_neg c_20).trans ?_; rfl) ls (by have hl2 := (lv_sub hl [3, 2, 1, 0] rfl); rw [n_3] at hl2; exact hl2)
                · refine lv_aload_n hx hb dAT_alarm_81 rfl (lv_at hl 2 rfl) ?_
                  refine lv_iload_n hx hb dAT_alarm_82 rfl (lv_at hl 5 rfl) ?_
                  refine k_Vq (As := [.int o]) (rest := []) (c_findAlarm l D AC S t o k_t hn ha) CAT_67 ⟨by decide, by decide, _, rfl, rfl⟩ hx hb hml hown hts hW k_t hl.1 rfl rfl (Nat.le_of_ble_eq_true rfl) ⟨⟨Nat.le_of_ble_eq_true rfl, Nat.le_of_ble_eq_true rfl⟩, ⟨Nat.le_of_ble_eq_true rfl, Nat.le_of_ble_eq_true rfl⟩⟩ dAT_alarm_83 (fun r_21 S_21 H locs e_21 hW m_21 _ => ?_)
                  obtain ⟨e1_21, e2_21⟩ := e_21
                  rw [e2_21] at hW m_21
                  rw [e1_21]
                  have kq_22 : ∀ b, (findAlarm_R S t o) = some b → kd S b = 2 := kq_findAlarm hW.ok k_t hn _
                  refine lv_goto (tgt := 90) hx hb dAT_alarm_86 (by decide) ?_
                  refine q_astore (lv' := [(6, va_rf (findAlarm_R S t o)), (5, va_rf (findCounter_R S t o)), (4, va_rf (findCounter_R S t n)), (0, .ref t), (1, .int n), (2, .int x), (3, .int o)]) hx hb dAT_alarm_90 hl (by decide) (by simp [q_cat, cat_r, cat_i, cat_l, cat_n]) (fun ls hl => ?_)
                  exact seg92 b_3 (findCounter_R S t o) (findAlarm_R S t o) k_b_3 kq_16 kq_22 c_19 (by refine Eq.symm ?_; refine (op_some n_3).trans ?_; refine (if_pos c_5).trans ?_; refine (if_neg c_6).trans ?_; refine (if_pos c_7).trans ?_; refine (if_pos c_8).trans ?_; refine (if_pos c_18).trans ?_; refine (if_pos c_19).trans ?_; refine (if_pos c_20).trans ?_; rfl) (by refine Eq.symm ?_; refine (op_some n_3).trans ?_; refine (if_pos c_5).trans ?_; refine (if_neg c_6).trans ?_; refine (if_pos c_7).trans ?_; refine (if_pos c_8).trans ?_; refine (if_pos c_18).trans ?_; refine (if_pos c_19).trans ?_; refine (if_pos c_20).trans ?_; rfl) ls (by have hl2 := (lv_sub hl [3, 2, 1, 0] rfl); rw [n_3] at hl2; exact hl2)
              · refine lv_bipush (v := (-4 : Int32)) hx hb dAT_alarm_73 (by decide) ?_
                exact e_i hsz hx hb hr hlk hW mo (Nat.le_of_ble_eq_true rfl) (Nat.le_of_ble_eq_true rfl) dAT_alarm_75 ⟨by refine Eq.symm ?_; refine (op_some n_3).trans ?_; refine (if_pos c_5).trans ?_; refine (if_neg c_6).trans ?_; refine (if_pos c_7).trans ?_; refine (if_pos c_8).trans ?_; refine (if_pos c_18).trans ?_; refine (if_neg c_19).trans ?_; rfl, by refine Eq.symm ?_; refine (op_some n_3).trans ?_; refine (if_pos c_5).trans ?_; refine (if_neg c_6).trans ?_; refine (if_pos c_7).trans ?_; refine (if_pos c_8).trans ?_; refine (if_pos c_18).trans ?_; refine (if_neg c_19).trans ?_; rfl⟩
            · refine lv_bipush (v := (-3 : Int32)) hx hb dAT_alarm_61 (by decide) ?_
              exact e_i hsz hx hb hr hlk hW mo (Nat.le_of_ble_eq_true rfl) (Nat.le_of_ble_eq_true rfl) dAT_alarm_63 ⟨by refine Eq.symm ?_; refine (op_some n_3).trans ?_; refine (if_pos c_5).trans ?_; refine (if_neg c_6).trans ?_; refine (if_pos c_7).trans ?_; refine (if_pos c_8).trans ?_; refine (if_neg c_18).trans ?_; rfl, by refine Eq.symm ?_; refine (op_some n_3).trans ?_; refine (if_pos c_5).trans ?_; refine (if_neg c_6).trans ?_; refine (if_pos c_7).trans ?_; refine (if_pos c_8).trans ?_; refine (if_neg c_18).trans ?_; rfl⟩
        · refine lv_bipush (v := (-2 : Int32)) hx hb dAT_alarm_32 (by decide) ?_
          exact e_i hsz hx hb hr hlk hW mo (Nat.le_of_ble_eq_true rfl) (Nat.le_of_ble_eq_true rfl) dAT_alarm_34 ⟨by refine Eq.symm ?_; refine (op_some n_3).trans ?_; refine (if_pos c_5).trans ?_; refine (if_neg c_6).trans ?_; refine (if_neg c_7).trans ?_; rfl, by refine Eq.symm ?_; refine (op_some n_3).trans ?_; refine (if_pos c_5).trans ?_; refine (if_neg c_6).trans ?_; refine (if_neg c_7).trans ?_; rfl⟩
    · refine lv_iconst (v := (-1 : Int32)) hx hb dAT_alarm_21 (by decide) ?_
      exact e_i hsz hx hb hr hlk hW mo (Nat.le_of_ble_eq_true rfl) (Nat.le_of_ble_eq_true rfl) dAT_alarm_22 ⟨by refine Eq.symm ?_; refine (op_some n_3).trans ?_; refine (if_neg c_5).trans ?_; rfl, by refine Eq.symm ?_; refine (op_some n_3).trans ?_; refine (if_neg c_5).trans ?_; rfl⟩
end
