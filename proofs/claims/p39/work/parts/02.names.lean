/-! ===== BEGIN words of one list among another's, by their places ===== -/
theorem goodIn_r {big : List Cond} (ws : List Cond) (ps : List Nat) (hp : ws = ps.filterMap (fun i => big[i]?)) (h : ws.all goodWord = true) : GoodIn big ws := by
  intro w hw
  have h1 := List.all_eq_true.mp h w hw
  rw [hp] at hw
  obtain ⟨i, -, hi⟩ := List.mem_filterMap.mp hw
  have hm : w ∈ big := by first | exact List.mem_of_getElem? hi | exact List.getElem?_mem hi
  exact ⟨hm, good_of_word h1⟩
theorem goodIn_app {big a b : List Cond} (ha : GoodIn big a) (hb : GoodIn big b) : GoodIn big (a ++ b) := fun w h => (List.mem_append.mp h).elim (ha w) (hb w)
theorem goodIn_ca {big a b : List Cond} {c : Cond} (ha : GoodIn big (c :: a)) (hb : GoodIn big b) : GoodIn big (c :: (a ++ b)) := fun w h => (List.mem_cons.mp h).elim (fun e => ha w (List.mem_cons.mpr (Or.inl e))) (fun h => (List.mem_append.mp h).elim (fun h => ha w (List.mem_cons.mpr (Or.inr h))) (hb w))
theorem goodIn_sub {big ws : List Cond} (hm : ∀ w ∈ ws, w ∈ big) (h : ws.all goodWord = true) : GoodIn big ws := fun w hw => ⟨hm w hw, good_of_word (List.all_eq_true.mp h w hw)⟩
/-! ===== END ===== -/

/-! ===== BEGIN new T[n][m]: the outer array a place, the inner ones among the pooled ===== -/
/-- f, but v at every address of l -/
def vr_up {α : Type} (f : Nat → α) (l : List Nat) (v : α) : Nat → α := fun a => if a ∈ l then v else f a
theorem vr_up_in {α : Type} {f : Nat → α} {l : List Nat} {v : α} {a : Nat} (h : a ∈ l) : vr_up f l v a = v := if_pos h
theorem vr_up_ne {α : Type} {f : Nat → α} {l : List Nat} {v : α} {a : Nat} (h : a ∉ l) : vr_up f l v a = f a := if_neg h
theorem vr_rows {L l : List Nat} {f : Nat → va_E} {e : va_E} (h : ∀ a, a ∈ l → a ∉ L) : va_pl L f ++ l.map (fun a => (a, e)) = va_pl (L ++ l) (vr_up f l e) := by
  unfold va_pl
  rw [List.map_append]
  congr 1
  · apply List.map_congr_left
    intro a ha
    rw [vr_up_ne (fun q => h a q ha)]
  · apply List.map_congr_left
    intro a ha
    rw [vr_up_in ha]
theorem vr_lay {X rows : va_W} {x : Nat × va_E} {pl : va_W} {D : va_G} {cl : List vw_C} {H : Heap} (hP : va_P D cl (((X ++ pl) ++ [x]) ++ rows) H) : va_P D cl ((X ++ [x]) ++ (pl ++ rows)) H := by
  rw [List.append_assoc (X ++ pl)] at hP
  have h := va_P.swap hP
  rw [← List.append_assoc X] at h
  have h2 := va_P.swap h
  rw [List.append_assoc (X ++ [x])] at h2
  exact h2
theorem vr_layD {X rows : va_W} {x : Nat × va_E} {pl : va_W} {A : Nat → Prop} (hD : va_D A (((X ++ pl) ++ [x]) ++ rows)) : va_D A ((X ++ [x]) ++ (pl ++ rows)) := by
  rw [List.append_assoc (X ++ pl)] at hD
  have h := va_D.swap hD
  rw [← List.append_assoc X] at h
  have h2 := va_D.swap h
  rw [List.append_assoc (X ++ [x])] at h2
  exact h2
theorem vr_outer (c : ClassId) (N h0 : Nat) : ∀ i : Nat, Jvm.Free.Multi.outerC c N h0 i = arrV c N (fun j => va_rf (if j < i then some (h0 + 1 + j) else none))
  | 0 => by
    show ({ cls := c, slots := Array.replicate N .null, vm := .none } : Cell) = _
    rw [arrV_new]
    refine congrArg (arrV c N) (funext fun j => ?_)
    simp [va_rf]
  | i + 1 => by
    show (Jvm.Free.Multi.outerC c N h0 i).setSlot i (.ref (h0 + 1 + i)) = _
    rw [vr_outer c N h0 i, arrV_store]
    refine congrArg (arrV c N) (funext fun j => ?_)
    by_cases e : j = i
    · subst e
      simp [updV, va_rf]
    · by_cases h : j < i
      · simp [updV, e, h, Nat.lt_succ_of_lt h]
      · simp [updV, e, h, show ¬ j < i + 1 by omega]

/-! ===== END ===== -/

/-! ===== BEGIN printed: names, fields, word lists, decode rows ===== -/
def RX0 : String := "RecordBridge$BookReader"
def TX0 : u_T := fun k => match k with
  | 0 => ("RecordBridge$BookReader", "ownWords", "[I", true)
  | 1 => ("RecordBridge$BookReader", "tape", "LRecordBridge$Tape;", true)
  | 2 => ("RecordBridge$BookReader", "plan", "LRecordBridge$Plan;", false)
  | 3 => ("RecordBridge$BookReader", "state", "I", false)
  | 4 => ("RecordBridge$BookReader", "at", "I", false)
  | 5 => ("RecordBridge$BookReader", "letters", "I", false)
  | 6 => ("RecordBridge$BookReader", "word", "I", false)
  | 7 => ("RecordBridge$BookReader", "ownWord", "I", false)
  | 8 => ("RecordBridge$BookReader", "digits", "I", false)
  | 9 => ("RecordBridge$BookReader", "number", "I", false)
  | 10 => ("RecordBridge$BookReader", "shape", "LRecordBridge$Shape;", false)
  | 11 => ("RecordBridge$BookReader", "kind", "I", false)
  | 12 => ("RecordBridge$BookReader", "passage", "LRecordBridge$Passage;", false)
  | 13 => ("RecordBridge$BookReader", "from", "I", false)
  | 14 => ("RecordBridge$BookReader", "first", "LRecordBridge$Shape;", false)
  | 15 => ("RecordBridge$BookReader", "second", "LRecordBridge$Shape;", false)
  | 16 => ("RecordBridge$BookReader", "rule", "LRecordBridge$Rule;", false)
  | 17 => ("RecordBridge$BookReader", "target", "I", false)
  | 18 => ("RecordBridge$BookReader", "faultSort", "I", false)
  | _ => ("RecordBridge$BookReader", "faultPlace", "I", false)
def tyX0 : Nat → FieldType := fun k => match k with
  | 0 => .array .int
  | 1 => .object "RecordBridge$Tape"
  | 2 => .object "RecordBridge$Plan"
  | 3 => .int
  | 4 => .int
  | 5 => .int
  | 6 => .int
  | 7 => .int
  | 8 => .int
  | 9 => .int
  | 10 => .object "RecordBridge$Shape"
  | 11 => .int
  | 12 => .object "RecordBridge$Passage"
  | 13 => .int
  | 14 => .object "RecordBridge$Shape"
  | 15 => .object "RecordBridge$Shape"
  | 16 => .object "RecordBridge$Rule"
  | 17 => .int
  | 18 => .int
  | _ => .int
abbrev wsX00 : List Cond := u_ws RX0 TX0 20
theorem nmX0 : ∀ a, a < 20 → ∀ b, b < 20 → a ≠ b → (TX0 a).2.1 ≠ (TX0 b).2.1 := by decide +kernel
theorem tyX0_ok : ∀ k, k < 20 → parseFieldDescriptor (TX0 k).2.2.1 = some (tyX0 k) := by decide +kernel
abbrev cX0_init : ByteArray := prog_2_method_1_code
def yX0_init : MethodName := ⟨RX0, "<init>", "()V"⟩
abbrev cX0_readBook : ByteArray := prog_2_method_2_code
def yX0_readBook : MethodName := ⟨RX0, "readBook", "()Z"⟩
abbrev cX0_lookAtNext : ByteArray := prog_2_method_3_code
def yX0_lookAtNext : MethodName := ⟨RX0, "lookAtNext", "()V"⟩
abbrev cX0_takeInScheme : ByteArray := prog_2_method_4_code
def yX0_takeInScheme : MethodName := ⟨RX0, "takeInScheme", "()Z"⟩
abbrev cX0_takeInCross : ByteArray := prog_2_method_5_code
def yX0_takeInCross : MethodName := ⟨RX0, "takeInCross", "()Z"⟩
abbrev cX0_refuse : ByteArray := prog_2_method_6_code
def yX0_refuse : MethodName := ⟨RX0, "refuse", "(II)Z"⟩
abbrev cX0_goOn : ByteArray := prog_2_method_7_code
def yX0_goOn : MethodName := ⟨RX0, "goOn", "(I)Z"⟩
abbrev cX0_nameStands : ByteArray := prog_2_method_8_code
def yX0_nameStands : MethodName := ⟨RX0, "nameStands", "()Z"⟩
abbrev cX0_numberStands : ByteArray := prog_2_method_9_code
def yX0_numberStands : MethodName := ⟨RX0, "numberStands", "(II)Z"⟩
abbrev cX0_refuseOneMore : ByteArray := prog_2_method_10_code
def yX0_refuseOneMore : MethodName := ⟨RX0, "refuseOneMore", "()Z"⟩
abbrev cX0_takeSign : ByteArray := prog_2_method_11_code
def yX0_takeSign : MethodName := ⟨RX0, "takeSign", "(I)Z"⟩
abbrev cX0_takeStatement : ByteArray := prog_2_method_12_code
def yX0_takeStatement : MethodName := ⟨RX0, "takeStatement", "()Z"⟩
abbrev cX0_takeSchemeName : ByteArray := prog_2_method_13_code
def yX0_takeSchemeName : MethodName := ⟨RX0, "takeSchemeName", "()Z"⟩
abbrev cX0_takeKind : ByteArray := prog_2_method_14_code
def yX0_takeKind : MethodName := ⟨RX0, "takeKind", "()Z"⟩
abbrev cX0_takeFieldName : ByteArray := prog_2_method_15_code
def yX0_takeFieldName : MethodName := ⟨RX0, "takeFieldName", "()Z"⟩
abbrev cX0_takeTimesNumber : ByteArray := prog_2_method_16_code
def yX0_takeTimesNumber : MethodName := ⟨RX0, "takeTimesNumber", "()Z"⟩
abbrev cX0_takeFirstScheme : ByteArray := prog_2_method_17_code
def yX0_takeFirstScheme : MethodName := ⟨RX0, "takeFirstScheme", "()Z"⟩
abbrev cX0_takeSecondScheme : ByteArray := prog_2_method_18_code
def yX0_takeSecondScheme : MethodName := ⟨RX0, "takeSecondScheme", "()Z"⟩
abbrev cX0_takeTarget : ByteArray := prog_2_method_19_code
def yX0_takeTarget : MethodName := ⟨RX0, "takeTarget", "()Z"⟩
abbrev cX0_takeNumberSource : ByteArray := prog_2_method_20_code
def yX0_takeNumberSource : MethodName := ⟨RX0, "takeNumberSource", "()Z"⟩
abbrev cX0_takeFieldSource : ByteArray := prog_2_method_21_code
def yX0_takeFieldSource : MethodName := ⟨RX0, "takeFieldSource", "()Z"⟩
abbrev cX0_beginRule : ByteArray := prog_2_method_22_code
def yX0_beginRule : MethodName := ⟨RX0, "beginRule", "(IIII)Z"⟩
abbrev cX0_takeSort : ByteArray := prog_2_method_23_code
def yX0_takeSort : MethodName := ⟨RX0, "takeSort", "()Z"⟩
abbrev cX0_takeFactor : ByteArray := prog_2_method_24_code
def yX0_takeFactor : MethodName := ⟨RX0, "takeFactor", "()Z"⟩
abbrev cX0_takeSecondField : ByteArray := prog_2_method_25_code
def yX0_takeSecondField : MethodName := ⟨RX0, "takeSecondField", "()Z"⟩
abbrev cX0_takeRuleSign : ByteArray := prog_2_method_26_code
def yX0_takeRuleSign : MethodName := ⟨RX0, "takeRuleSign", "()Z"⟩
def RX1 : String := "RecordBridge$Carrier"
def TX1 : u_T := fun k => match k with
  | _ => ("RecordBridge$Carrier", "account", "[I", true)
def tyX1 : Nat → FieldType := fun k => match k with
  | _ => .array .int
abbrev wsX10 : List Cond := u_ws RX1 TX1 1
theorem nmX1 : ∀ a, a < 1 → ∀ b, b < 1 → a ≠ b → (TX1 a).2.1 ≠ (TX1 b).2.1 := by decide +kernel
theorem tyX1_ok : ∀ k, k < 1 → parseFieldDescriptor (TX1 k).2.2.1 = some (tyX1 k) := by decide +kernel
abbrev cX1_init : ByteArray := prog_3_method_1_code
def yX1_init : MethodName := ⟨RX1, "<init>", "()V"⟩
def RX2 : String := "RecordBridge$Kinds"
def TX2 : u_T := fun k => match k with
  | _ => ("", "", "", false)
def tyX2 : Nat → FieldType := fun k => match k with
  | _ => .int
abbrev wsX20 : List Cond := u_ws RX2 TX2 0
theorem nmX2 : ∀ a, a < 0 → ∀ b, b < 0 → a ≠ b → (TX2 a).2.1 ≠ (TX2 b).2.1 := by decide +kernel
theorem tyX2_ok : ∀ k, k < 0 → parseFieldDescriptor (TX2 k).2.2.1 = some (tyX2 k) := by decide +kernel
abbrev cX2_isNumber : ByteArray := prog_4_method_2_code
def yX2_isNumber : MethodName := ⟨RX2, "isNumber", "(I)Z"⟩
abbrev cX2_isReal : ByteArray := prog_4_method_3_code
def yX2_isReal : MethodName := ⟨RX2, "isReal", "(I)Z"⟩
abbrev cX2_goesInto : ByteArray := prog_4_method_4_code
def yX2_goesInto : MethodName := ⟨RX2, "goesInto", "(II)Z"⟩
abbrev cX2_told : ByteArray := prog_4_method_6_code
def yX2_told : MethodName := ⟨RX2, "told", "(IJ)J"⟩
abbrev cX2_toldWord : ByteArray := prog_4_method_7_code
def yX2_toldWord : MethodName := ⟨RX2, "toldWord", "(J)J"⟩
abbrev cX2_changed : ByteArray := prog_4_method_8_code
def yX2_changed : MethodName := ⟨RX2, "changed", "(IJI)J"⟩
abbrev cX2_wholeOfWord : ByteArray := prog_4_method_10_code
def yX2_wholeOfWord : MethodName := ⟨RX2, "wholeOfWord", "(J)J"⟩
abbrev cX2_digitsWord : ByteArray := prog_4_method_11_code
def yX2_digitsWord : MethodName := ⟨RX2, "digitsWord", "(J)J"⟩
abbrev cX2_ofWhole : ByteArray := prog_4_method_12_code
def yX2_ofWhole : MethodName := ⟨RX2, "ofWhole", "(JI)J"⟩
abbrev cX2_ofReal : ByteArray := prog_4_method_13_code
def yX2_ofReal : MethodName := ⟨RX2, "ofReal", "(DI)J"⟩
def RX3 : String := "RecordBridge$Passage"
def TX3 : u_T := fun k => match k with
  | 0 => ("RecordBridge$Passage", "rules", "[LRecordBridge$Rule;", true)
  | 1 => ("RecordBridge$Passage", "from", "I", false)
  | 2 => ("RecordBridge$Passage", "to", "I", false)
  | _ => ("RecordBridge$Passage", "ruleCount", "I", false)
def tyX3 : Nat → FieldType := fun k => match k with
  | 0 => .array (.object "RecordBridge$Rule")
  | 1 => .int
  | 2 => .int
  | _ => .int
abbrev wsX30 : List Cond := u_ws RX3 TX3 4
theorem nmX3 : ∀ a, a < 4 → ∀ b, b < 4 → a ≠ b → (TX3 a).2.1 ≠ (TX3 b).2.1 := by decide +kernel
theorem tyX3_ok : ∀ k, k < 4 → parseFieldDescriptor (TX3 k).2.2.1 = some (tyX3 k) := by decide +kernel
abbrev cX3_init : ByteArray := prog_5_method_1_code
def yX3_init : MethodName := ⟨RX3, "<init>", "()V"⟩
abbrev cX3_begin : ByteArray := prog_5_method_2_code
def yX3_begin : MethodName := ⟨RX3, "begin", "(II)V"⟩
abbrev cX3_ruleAt : ByteArray := prog_5_method_3_code
def yX3_ruleAt : MethodName := ⟨RX3, "ruleAt", "(I)LRecordBridge$Rule;"⟩
abbrev cX3_addRule : ByteArray := prog_5_method_4_code
def yX3_addRule : MethodName := ⟨RX3, "addRule", "()LRecordBridge$Rule;"⟩
abbrev cX3_fieldsFilled : ByteArray := prog_5_method_6_code
def yX3_fieldsFilled : MethodName := ⟨RX3, "fieldsFilled", "()I"⟩
def RX4 : String := "RecordBridge$Plan"
def TX4 : u_T := fun k => match k with
  | 0 => ("RecordBridge$Plan", "shapes", "[LRecordBridge$Shape;", true)
  | 1 => ("RecordBridge$Plan", "passages", "[LRecordBridge$Passage;", true)
  | 2 => ("RecordBridge$Plan", "shapeCount", "I", false)
  | _ => ("RecordBridge$Plan", "passageCount", "I", false)
def tyX4 : Nat → FieldType := fun k => match k with
  | 0 => .array (.object "RecordBridge$Shape")
  | 1 => .array (.object "RecordBridge$Passage")
  | 2 => .int
  | _ => .int
abbrev wsX40 : List Cond := u_ws RX4 TX4 4
theorem nmX4 : ∀ a, a < 4 → ∀ b, b < 4 → a ≠ b → (TX4 a).2.1 ≠ (TX4 b).2.1 := by decide +kernel
theorem tyX4_ok : ∀ k, k < 4 → parseFieldDescriptor (TX4 k).2.2.1 = some (tyX4 k) := by decide +kernel
abbrev cX4_init : ByteArray := prog_6_method_1_code
def yX4_init : MethodName := ⟨RX4, "<init>", "()V"⟩
abbrev cX4_clear : ByteArray := prog_6_method_2_code
def yX4_clear : MethodName := ⟨RX4, "clear", "()V"⟩
abbrev cX4_shape : ByteArray := prog_6_method_3_code
def yX4_shape : MethodName := ⟨RX4, "shape", "(I)LRecordBridge$Shape;"⟩
abbrev cX4_passage : ByteArray := prog_6_method_4_code
def yX4_passage : MethodName := ⟨RX4, "passage", "(I)LRecordBridge$Passage;"⟩
abbrev cX4_addShape : ByteArray := prog_6_method_5_code
def yX4_addShape : MethodName := ⟨RX4, "addShape", "(I)LRecordBridge$Shape;"⟩
abbrev cX4_addPassage : ByteArray := prog_6_method_6_code
def yX4_addPassage : MethodName := ⟨RX4, "addPassage", "(II)LRecordBridge$Passage;"⟩
abbrev cX4_shapeOfName : ByteArray := prog_6_method_7_code
def yX4_shapeOfName : MethodName := ⟨RX4, "shapeOfName", "(I)I"⟩
def RX5 : String := "RecordBridge$Reals"
def TX5 : u_T := fun k => match k with
  | _ => ("", "", "", false)
def tyX5 : Nat → FieldType := fun k => match k with
  | _ => .int
abbrev wsX50 : List Cond := u_ws RX5 TX5 0
theorem nmX5 : ∀ a, a < 0 → ∀ b, b < 0 → a ≠ b → (TX5 a).2.1 ≠ (TX5 b).2.1 := by decide +kernel
theorem tyX5_ok : ∀ k, k < 0 → parseFieldDescriptor (TX5 k).2.2.1 = some (tyX5 k) := by decide +kernel
abbrev cX5_toBits : ByteArray := prog_7_method_2_code
def yX5_toBits : MethodName := ⟨RX5, "toBits", "(DI)J"⟩
abbrev cX5_fromBits : ByteArray := prog_7_method_3_code
def yX5_fromBits : MethodName := ⟨RX5, "fromBits", "(JI)D"⟩
def RX6 : String := "RecordBridge$Rows"
def TX6 : u_T := fun k => match k with
  | 0 => ("RecordBridge$Rows", "now", "[J", true)
  | 1 => ("RecordBridge$Rows", "past", "[[J", true)
  | 2 => ("RecordBridge$Rows", "next", "I", false)
  | _ => ("RecordBridge$Rows", "kept", "I", false)
def tyX6 : Nat → FieldType := fun k => match k with
  | 0 => .array .long
  | 1 => .array (.array .long)
  | 2 => .int
  | _ => .int
abbrev wsX60 : List Cond := u_ws RX6 TX6 4
theorem nmX6 : ∀ a, a < 4 → ∀ b, b < 4 → a ≠ b → (TX6 a).2.1 ≠ (TX6 b).2.1 := by decide +kernel
theorem tyX6_ok : ∀ k, k < 4 → parseFieldDescriptor (TX6 k).2.2.1 = some (tyX6 k) := by decide +kernel
abbrev cX6_init : ByteArray := prog_8_method_1_code
def yX6_init : MethodName := ⟨RX6, "<init>", "()V"⟩
abbrev cX6_clear : ByteArray := prog_8_method_2_code
def yX6_clear : MethodName := ⟨RX6, "clear", "()V"⟩
abbrev cX6_keepPast : ByteArray := prog_8_method_3_code
def yX6_keepPast : MethodName := ⟨RX6, "keepPast", "()V"⟩
abbrev cX6_goBack : ByteArray := prog_8_method_4_code
def yX6_goBack : MethodName := ⟨RX6, "goBack", "()Z"⟩
abbrev cX6_countOf : ByteArray := prog_8_method_5_code
def yX6_countOf : MethodName := ⟨RX6, "countOf", "(I)I"⟩
abbrev cX6_recordStart : ByteArray := prog_8_method_8_code
def yX6_recordStart : MethodName := ⟨RX6, "recordStart", "(II)I"⟩
abbrev cX6_isRecordPlace : ByteArray := prog_8_method_9_code
def yX6_isRecordPlace : MethodName := ⟨RX6, "isRecordPlace", "(II)Z"⟩
abbrev cX6_indexOf : ByteArray := prog_8_method_15_code
def yX6_indexOf : MethodName := ⟨RX6, "indexOf", "(ILRecordBridge$Shape;II)I"⟩
abbrev cX6_rawAt : ByteArray := prog_8_method_16_code
def yX6_rawAt : MethodName := ⟨RX6, "rawAt", "(ILRecordBridge$Shape;II)J"⟩
abbrev cX6_isEmptyAt : ByteArray := prog_8_method_17_code
def yX6_isEmptyAt : MethodName := ⟨RX6, "isEmptyAt", "(ILRecordBridge$Shape;II)Z"⟩
abbrev cX6_valueAt : ByteArray := prog_8_method_18_code
def yX6_valueAt : MethodName := ⟨RX6, "valueAt", "(ILRecordBridge$Shape;II)J"⟩
abbrev cX6_setAt : ByteArray := prog_8_method_19_code
def yX6_setAt : MethodName := ⟨RX6, "setAt", "(ILRecordBridge$Shape;IIJ)V"⟩
abbrev cX6_thingKind : ByteArray := prog_8_method_20_code
def yX6_thingKind : MethodName := ⟨RX6, "thingKind", "(I)I"⟩
abbrev cX6_thingValue : ByteArray := prog_8_method_21_code
def yX6_thingValue : MethodName := ⟨RX6, "thingValue", "(I)J"⟩
abbrev cX6_setThing : ByteArray := prog_8_method_22_code
def yX6_setThing : MethodName := ⟨RX6, "setThing", "(IIJ)V"⟩
def RX7 : String := "RecordBridge$Rule"
def TX7 : u_T := fun k => match k with
  | 0 => ("RecordBridge$Rule", "target", "I", false)
  | 1 => ("RecordBridge$Rule", "sort", "I", false)
  | 2 => ("RecordBridge$Rule", "first", "I", false)
  | 3 => ("RecordBridge$Rule", "other", "I", false)
  | 4 => ("RecordBridge$Rule", "made", "I", false)
  | 5 => ("RecordBridge$Rule", "cells", "I", false)
  | 6 => ("RecordBridge$Rule", "cellsRead", "I", false)
  | _ => ("RecordBridge$Rule", "fits", "Z", false)
def tyX7 : Nat → FieldType := fun k => match k with
  | 0 => .int
  | 1 => .int
  | 2 => .int
  | 3 => .int
  | 4 => .int
  | 5 => .int
  | 6 => .int
  | _ => .boolean
abbrev wsX70 : List Cond := u_ws RX7 TX7 8
theorem nmX7 : ∀ a, a < 8 → ∀ b, b < 8 → a ≠ b → (TX7 a).2.1 ≠ (TX7 b).2.1 := by decide +kernel
theorem tyX7_ok : ∀ k, k < 8 → parseFieldDescriptor (TX7 k).2.2.1 = some (tyX7 k) := by decide +kernel
abbrev cX7_init : ByteArray := prog_9_method_1_code
def yX7_init : MethodName := ⟨RX7, "<init>", "()V"⟩
abbrev cX7_set : ByteArray := prog_9_method_2_code
def yX7_set : MethodName := ⟨RX7, "set", "(IIII)V"⟩
abbrev cX7_settle : ByteArray := prog_9_method_3_code
def yX7_settle : MethodName := ⟨RX7, "settle", "(LRecordBridge$Shape;LRecordBridge$Shape;)V"⟩
abbrev cX7_fieldsRead : ByteArray := prog_9_method_4_code
def yX7_fieldsRead : MethodName := ⟨RX7, "fieldsRead", "()I"⟩
def RX8 : String := "RecordBridge$Shape"
def TX8 : u_T := fun k => match k with
  | 0 => ("RecordBridge$Shape", "names", "[I", true)
  | 1 => ("RecordBridge$Shape", "kinds", "[I", true)
  | 2 => ("RecordBridge$Shape", "cells", "[I", true)
  | 3 => ("RecordBridge$Shape", "starts", "[I", true)
  | 4 => ("RecordBridge$Shape", "name", "I", false)
  | 5 => ("RecordBridge$Shape", "fieldCount", "I", false)
  | _ => ("RecordBridge$Shape", "cellCount", "I", false)
def tyX8 : Nat → FieldType := fun k => match k with
  | 0 => .array .int
  | 1 => .array .int
  | 2 => .array .int
  | 3 => .array .int
  | 4 => .int
  | 5 => .int
  | _ => .int
abbrev wsX80 : List Cond := u_ws RX8 TX8 7
theorem nmX8 : ∀ a, a < 7 → ∀ b, b < 7 → a ≠ b → (TX8 a).2.1 ≠ (TX8 b).2.1 := by decide +kernel
theorem tyX8_ok : ∀ k, k < 7 → parseFieldDescriptor (TX8 k).2.2.1 = some (tyX8 k) := by decide +kernel
abbrev cX8_init : ByteArray := prog_10_method_1_code
def yX8_init : MethodName := ⟨RX8, "<init>", "()V"⟩
abbrev cX8_begin : ByteArray := prog_10_method_2_code
def yX8_begin : MethodName := ⟨RX8, "begin", "(I)V"⟩
abbrev cX8_addField : ByteArray := prog_10_method_3_code
def yX8_addField : MethodName := ⟨RX8, "addField", "(II)V"⟩
abbrev cX8_repeatLast : ByteArray := prog_10_method_4_code
def yX8_repeatLast : MethodName := ⟨RX8, "repeatLast", "(I)V"⟩
abbrev cX8_hasField : ByteArray := prog_10_method_5_code
def yX8_hasField : MethodName := ⟨RX8, "hasField", "(I)Z"⟩
abbrev cX8_kindOf : ByteArray := prog_10_method_6_code
def yX8_kindOf : MethodName := ⟨RX8, "kindOf", "(I)I"⟩
abbrev cX8_hasWords : ByteArray := prog_10_method_7_code
def yX8_hasWords : MethodName := ⟨RX8, "hasWords", "(I)Z"⟩
abbrev cX8_fieldOfName : ByteArray := prog_10_method_8_code
def yX8_fieldOfName : MethodName := ⟨RX8, "fieldOfName", "(I)I"⟩
def RX9 : String := "RecordBridge$Tape"
def TX9 : u_T := fun k => match k with
  | 0 => ("RecordBridge$Tape", "bytes", "[I", true)
  | _ => ("RecordBridge$Tape", "count", "I", false)
def tyX9 : Nat → FieldType := fun k => match k with
  | 0 => .array .int
  | _ => .int
abbrev wsX90 : List Cond := u_ws RX9 TX9 2
theorem nmX9 : ∀ a, a < 2 → ∀ b, b < 2 → a ≠ b → (TX9 a).2.1 ≠ (TX9 b).2.1 := by decide +kernel
theorem tyX9_ok : ∀ k, k < 2 → parseFieldDescriptor (TX9 k).2.2.1 = some (tyX9 k) := by decide +kernel
abbrev cX9_init : ByteArray := prog_11_method_1_code
def yX9_init : MethodName := ⟨RX9, "<init>", "()V"⟩
abbrev cX9_takes : ByteArray := prog_11_method_2_code
def yX9_takes : MethodName := ⟨RX9, "takes", "(I)Z"⟩
abbrev cX9_addNumber : ByteArray := prog_11_method_3_code
def yX9_addNumber : MethodName := ⟨RX9, "addNumber", "(I)V"⟩
abbrev cX9_byteAt : ByteArray := prog_11_method_4_code
def yX9_byteAt : MethodName := ⟨RX9, "byteAt", "(I)I"⟩
abbrev cX9_isLetter : ByteArray := prog_11_method_5_code
def yX9_isLetter : MethodName := ⟨RX9, "isLetter", "(I)Z"⟩
abbrev cX9_isDigit : ByteArray := prog_11_method_6_code
def yX9_isDigit : MethodName := ⟨RX9, "isDigit", "(I)Z"⟩
abbrev cX9_isBlank : ByteArray := prog_11_method_7_code
def yX9_isBlank : MethodName := ⟨RX9, "isBlank", "(I)Z"⟩
abbrev cX9_lettersFrom : ByteArray := prog_11_method_8_code
def yX9_lettersFrom : MethodName := ⟨RX9, "lettersFrom", "(I)I"⟩
abbrev cX9_digitsFrom : ByteArray := prog_11_method_9_code
def yX9_digitsFrom : MethodName := ⟨RX9, "digitsFrom", "(I)I"⟩
abbrev cX9_numberFrom : ByteArray := prog_11_method_10_code
def yX9_numberFrom : MethodName := ⟨RX9, "numberFrom", "(II)I"⟩
abbrev cX9_nameFrom : ByteArray := prog_11_method_11_code
def yX9_nameFrom : MethodName := ⟨RX9, "nameFrom", "(I)I"⟩
abbrev cX9_withLetter : ByteArray := prog_11_method_13_code
def yX9_withLetter : MethodName := ⟨RX9, "withLetter", "(III)I"⟩
def RX10 : String := "RecordBridge$Ways"
def TX10 : u_T := fun k => match k with
  | 0 => ("RecordBridge$Ways", "steps", "[I", true)
  | 1 => ("RecordBridge$Ways", "bestSteps", "[I", true)
  | 2 => ("RecordBridge$Ways", "one", "[J", true)
  | 3 => ("RecordBridge$Ways", "other", "[J", true)
  | 4 => ("RecordBridge$Ways", "bestCount", "I", false)
  | _ => ("RecordBridge$Ways", "leastLost", "I", false)
def tyX10 : Nat → FieldType := fun k => match k with
  | 0 => .array .int
  | 1 => .array .int
  | 2 => .array .long
  | 3 => .array .long
  | 4 => .int
  | _ => .int
abbrev wsX100 : List Cond := u_ws RX10 TX10 6
theorem nmX10 : ∀ a, a < 6 → ∀ b, b < 6 → a ≠ b → (TX10 a).2.1 ≠ (TX10 b).2.1 := by decide +kernel
theorem tyX10_ok : ∀ k, k < 6 → parseFieldDescriptor (TX10 k).2.2.1 = some (tyX10 k) := by decide +kernel
abbrev cX10_init : ByteArray := prog_12_method_1_code
def yX10_init : MethodName := ⟨RX10, "<init>", "()V"⟩
def RX11 : String := "RecordBridge"
def TX11 : u_T := fun k => match k with
  | 0 => ("RecordBridge", "tape", "LRecordBridge$Tape;", true)
  | 1 => ("RecordBridge", "reader", "LRecordBridge$BookReader;", true)
  | 2 => ("RecordBridge", "rows", "LRecordBridge$Rows;", true)
  | 3 => ("RecordBridge", "carrier", "LRecordBridge$Carrier;", true)
  | 4 => ("RecordBridge", "ways", "LRecordBridge$Ways;", true)
  | 5 => ("RecordBridge", "refusals", "[I", true)
  | 6 => ("RecordBridge", "lastAccount", "[I", true)
  | 7 => ("RecordBridge", "values", "[J", true)
  | 8 => ("RecordBridge", "carried", "[J", true)
  | 9 => ("RecordBridge", "compared", "[J", true)
  | 10 => ("RecordBridge", "plan", "LRecordBridge$Plan;", false)
  | 11 => ("RecordBridge", "accounted", "Z", false)
  | 12 => ("RecordBridge", "reason", "I", false)
  | _ => ("RecordBridge", "drawn", "I", false)
def tyX11 : Nat → FieldType := fun k => match k with
  | 0 => .object "RecordBridge$Tape"
  | 1 => .object "RecordBridge$BookReader"
  | 2 => .object "RecordBridge$Rows"
  | 3 => .object "RecordBridge$Carrier"
  | 4 => .object "RecordBridge$Ways"
  | 5 => .array .int
  | 6 => .array .int
  | 7 => .array .long
  | 8 => .array .long
  | 9 => .array .long
  | 10 => .object "RecordBridge$Plan"
  | 11 => .boolean
  | 12 => .int
  | _ => .int
abbrev wsX110 : List Cond := u_ws RX11 TX11 14
theorem nmX11 : ∀ a, a < 14 → ∀ b, b < 14 → a ≠ b → (TX11 a).2.1 ≠ (TX11 b).2.1 := by decide +kernel
theorem tyX11_ok : ∀ k, k < 14 → parseFieldDescriptor (TX11 k).2.2.1 = some (tyX11 k) := by decide +kernel
abbrev cX11_init : ByteArray := prog_1_method_1_code
def yX11_init : MethodName := ⟨RX11, "<init>", "()V"⟩
abbrev cX11_feed : ByteArray := prog_1_method_2_code
def yX11_feed : MethodName := ⟨RX11, "feed", "(IIIII)I"⟩
abbrev cX11_end : ByteArray := prog_1_method_3_code
def yX11_end : MethodName := ⟨RX11, "end", "(I)Z"⟩
abbrev cX11_book : ByteArray := prog_1_method_4_code
def yX11_book : MethodName := ⟨RX11, "book", "()I"⟩
abbrev cX11_has : ByteArray := prog_1_method_6_code
def yX11_has : MethodName := ⟨RX11, "has", "(I)I"⟩
abbrev cX11_hasOfScheme : ByteArray := prog_1_method_7_code
def yX11_hasOfScheme : MethodName := ⟨RX11, "hasOfScheme", "(I)I"⟩
abbrev cX11_field : ByteArray := prog_1_method_10_code
def yX11_field : MethodName := ⟨RX11, "field", "(III)I"⟩
abbrev cX11_widens : ByteArray := prog_1_method_13_code
def yX11_widens : MethodName := ⟨RX11, "widens", "(II)I"⟩
abbrev cX11_length : ByteArray := prog_1_method_14_code
def yX11_length : MethodName := ⟨RX11, "length", "(II)I"⟩
abbrev cX11_read : ByteArray := prog_1_method_15_code
def yX11_read : MethodName := ⟨RX11, "read", "(IIII)J"⟩
abbrev cX11_get : ByteArray := prog_1_method_16_code
def yX11_get : MethodName := ⟨RX11, "get", "(IIII)J"⟩
abbrev cX11_write : ByteArray := prog_1_method_17_code
def yX11_write : MethodName := ⟨RX11, "write", "(IIIIJ)Z"⟩
abbrev cX11_put : ByteArray := prog_1_method_18_code
def yX11_put : MethodName := ⟨RX11, "put", "(IIIIJ)Z"⟩
abbrev cX11_why : ByteArray := prog_1_method_19_code
def yX11_why : MethodName := ⟨RX11, "why", "()I"⟩
abbrev cX11_rowSort : ByteArray := prog_1_method_22_code
def yX11_rowSort : MethodName := ⟨RX11, "rowSort", "(II)I"⟩
abbrev cX11_placesOf : ByteArray := prog_1_method_23_code
def yX11_placesOf : MethodName := ⟨RX11, "placesOf", "(III)I"⟩
abbrev cX11_kindRefusal : ByteArray := prog_1_method_24_code
def yX11_kindRefusal : MethodName := ⟨RX11, "kindRefusal", "(IIII)I"⟩
abbrev cX11_thingRefusal : ByteArray := prog_1_method_25_code
def yX11_thingRefusal : MethodName := ⟨RX11, "thingRefusal", "(IIII)I"⟩
abbrev cX11_takesThing : ByteArray := prog_1_method_26_code
def yX11_takesThing : MethodName := ⟨RX11, "takesThing", "(II)Z"⟩
abbrev cX11_undo : ByteArray := prog_1_method_45_code
def yX11_undo : MethodName := ⟨RX11, "undo", "()Z"⟩
def RX12 : String := "RecordBridgeModel"
def TX12 : u_T := fun k => match k with
  | _ => ("", "", "", false)
def tyX12 : Nat → FieldType := fun k => match k with
  | _ => .int
abbrev wsX120 : List Cond := u_ws RX12 TX12 0
theorem nmX12 : ∀ a, a < 0 → ∀ b, b < 0 → a ≠ b → (TX12 a).2.1 ≠ (TX12 b).2.1 := by decide +kernel
theorem tyX12_ok : ∀ k, k < 0 → parseFieldDescriptor (TX12 k).2.2.1 = some (tyX12 k) := by decide +kernel
def RJx145de : String := "java/io/Serializable"
def RJx9f9b0 : String := "java/lang/CharSequence"
def RJxb160c : String := "java/lang/Comparable"
def RJxe99ae : String := "java/lang/Double"
abbrev cJxe99ae_isNaN_b9ae7 : ByteArray := prog_15_method_6_code
def yJxe99ae_isNaN_b9ae7 : MethodName := ⟨RJxe99ae, "isNaN", "(D)Z"⟩
abbrev cJxe99ae_doubleToLongBits_ccdee : ByteArray := prog_15_method_23_code
def yJxe99ae_doubleToLongBits_ccdee : MethodName := ⟨RJxe99ae, "doubleToLongBits", "(D)J"⟩
def RJxf58ca : String := "java/lang/Float"
abbrev cJxf58ca_isNaN_12338 : ByteArray := prog_16_method_6_code
def yJxf58ca_isNaN_12338 : MethodName := ⟨RJxf58ca, "isNaN", "(F)Z"⟩
abbrev cJxf58ca_floatToIntBits_5c35a : ByteArray := prog_16_method_24_code
def yJxf58ca_floatToIntBits_5c35a : MethodName := ⟨RJxf58ca, "floatToIntBits", "(F)I"⟩
def RJ9 : String := "java/lang/Math"
abbrev cJ9_floorMod_7cf53 : ByteArray := prog_17_method_50_code
def yJ9_floorMod_7cf53 : MethodName := ⟨RJ9, "floorMod", "(II)I"⟩
abbrev cJ9_max_7cf53 : ByteArray := prog_17_method_65_code
def yJ9_max_7cf53 : MethodName := ⟨RJ9, "max", "(II)I"⟩
abbrev cJ9_min_7cf53 : ByteArray := prog_17_method_69_code
def yJ9_min_7cf53 : MethodName := ⟨RJ9, "min", "(II)I"⟩
def RJxd2413 : String := "java/lang/Number"
def RJ0 : String := "java/lang/String"
abbrev cJ0_length_8abf5 : ByteArray := prog_19_method_54_code
def yJ0_length_8abf5 : MethodName := ⟨RJ0, "length", "()I"⟩
abbrev cJ0_charAt_5068e : ByteArray := prog_19_method_56_code
def yJ0_charAt_5068e : MethodName := ⟨RJ0, "charAt", "(I)C"⟩
abbrev cJ0_coder_7d493 : ByteArray := prog_19_method_152_code
def yJ0_coder_7d493 : MethodName := ⟨RJ0, "coder", "()B"⟩
abbrev cJ0_isLatin1_aae02 : ByteArray := prog_19_method_154_code
def yJ0_isLatin1_aae02 : MethodName := ⟨RJ0, "isLatin1", "()Z"⟩
abbrev cJ0_checkIndex_df160 : ByteArray := prog_19_method_155_code
def yJ0_checkIndex_df160 : MethodName := ⟨RJ0, "checkIndex", "(II)V"⟩
def RJ1 : String := "java/lang/StringLatin1"
abbrev cJ1_charAt_3b067 : ByteArray := prog_20_method_2_code
def yJ1_charAt_3b067 : MethodName := ⟨RJ1, "charAt", "([BI)C"⟩
def RJ2 : String := "java/lang/StringUTF16"
abbrev cJ2_getChar_3b067 : ByteArray := prog_21_method_5_code
def yJ2_getChar_3b067 : MethodName := ⟨RJ2, "getChar", "([BI)C"⟩
abbrev cJ2_length_9d52b : ByteArray := prog_21_method_6_code
def yJ2_length_9d52b : MethodName := ⟨RJ2, "length", "([B)I"⟩
abbrev cJ2_charAt_3b067 : ByteArray := prog_21_method_83_code
def yJ2_charAt_3b067 : MethodName := ⟨RJ2, "charAt", "([BI)C"⟩
abbrev cJ2_checkIndex_2214a : ByteArray := prog_21_method_91_code
def yJ2_checkIndex_2214a : MethodName := ⟨RJ2, "checkIndex", "(I[B)V"⟩
def RJ10 : String := "java/lang/System"
def RJxfd54e : String := "java/lang/constant/Constable"
def RJx3cf43 : String := "java/lang/constant/ConstantDesc"
def RJ7 : String := "java/util/Arrays"
abbrev cJ7_fill_d0a16 : ByteArray := prog_23_method_101_code
def yJ7_fill_d0a16 : MethodName := ⟨RJ7, "fill", "([JJ)V"⟩
def RJ3 : String := "jdk/internal/util/Preconditions"
abbrev cJ3_checkIndex_8e157 : ByteArray := prog_24_method_11_code
def yJ3_checkIndex_8e157 : MethodName := ⟨RJ3, "checkIndex", "(IILjava/util/function/BiFunction;)I"⟩
def RL : String := "RecordBridgeLaw"
abbrev cL_pick : ByteArray := method_2_code
def yL_pick : MethodName := ⟨RL, "pick", "([II)I"⟩
abbrev cL_four : ByteArray := method_3_code
def yL_four : MethodName := ⟨RL, "four", "(Ljava/lang/String;I)I"⟩
abbrev cL_say : ByteArray := method_4_code
def yL_say : MethodName := ⟨RL, "say", "(LRecordBridge;Ljava/lang/String;[I)Z"⟩
abbrev cL_sign : ByteArray := method_5_code
def yL_sign : MethodName := ⟨RL, "sign", "(LRecordBridge;I[I)Z"⟩
abbrev cL_number : ByteArray := method_6_code
def yL_number : MethodName := ⟨RL, "number", "(LRecordBridge;I[I)Z"⟩
abbrev cL_kind : ByteArray := method_7_code
def yL_kind : MethodName := ⟨RL, "kind", "(LRecordBridge;I[I)Z"⟩
abbrev cL_scheme : ByteArray := method_8_code
def yL_scheme : MethodName := ⟨RL, "scheme", "(LRecordBridge;II[I)Z"⟩
abbrev cL_kindOf : ByteArray := method_9_code
def yL_kindOf : MethodName := ⟨RL, "kindOf", "(II)I"⟩
abbrev cL_isNumber : ByteArray := method_10_code
def yL_isNumber : MethodName := ⟨RL, "isNumber", "(I)Z"⟩
abbrev cL_field : ByteArray := method_11_code
def yL_field : MethodName := ⟨RL, "field", "(LRecordBridge;I[I)Z"⟩
abbrev cL_cross : ByteArray := method_12_code
def yL_cross : MethodName := ⟨RL, "cross", "(LRecordBridge;IIIII[I)Z"⟩
abbrev cL_book : ByteArray := method_13_code
def yL_book : MethodName := ⟨RL, "book", "(LRecordBridge;[I[I)Z"⟩
abbrev cL_widens : ByteArray := method_14_code
def yL_widens : MethodName := ⟨RL, "widens", "(II)Z"⟩
abbrev cL_cast : ByteArray := method_15_code
def yL_cast : MethodName := ⟨RL, "cast", "(JII)J"⟩
abbrev cL_told : ByteArray := method_16_code
def yL_told : MethodName := ⟨RL, "told", "(JI)J"⟩
abbrev cL_as : ByteArray := method_17_code
def yL_as : MethodName := ⟨RL, "as", "(JII)J"⟩
abbrev cL_reason : ByteArray := method_18_code
def yL_reason : MethodName := ⟨RL, "reason", "(LRecordBridge;IIII)I"⟩
abbrev cL_goes : ByteArray := method_19_code
def yL_goes : MethodName := ⟨RL, "goes", "(LRecordBridge;II)Z"⟩
abbrev cL_law : ByteArray := code
def yL_law : MethodName := ⟨RL, "law", "([I)Z"⟩
abbrev vwCl : List vw_C := [(RX0, TX0, 20), (RX1, TX1, 1), (RX3, TX3, 4), (RX4, TX4, 4), (RX6, TX6, 4), (RX7, TX7, 8), (RX8, TX8, 7), (RX9, TX9, 2), (RX10, TX10, 6), (RX11, TX11, 14)]
/-! ===== END printed: names ===== -/
