/-! THE STRING: length() and charAt(int) of the one string, and the JDK's methods behind them. -/
set_option maxRecDepth 100000 in
theorem zj_1 : ∀ w ∈ ([Cond.code ⟨"java/lang/Object", "<init>", "()V"⟩ object_method_1_code 1 (Option.none : Option FieldType), Cond.code ⟨"java/lang/String", "length", "()I"⟩ prog_20_method_54_code 1 (Option.some FieldType.int), Cond.code ⟨"java/lang/String", "coder", "()B"⟩ prog_20_method_152_code 1 (Option.some FieldType.byte), Cond.code ⟨"java/lang/String", "charAt", "(I)C"⟩ prog_20_method_56_code 2 (Option.some FieldType.char), Cond.code ⟨"java/lang/String", "isLatin1", "()Z"⟩ prog_20_method_154_code 1 (Option.some FieldType.boolean), Cond.code ⟨"java/lang/StringLatin1", "charAt", "([BI)C"⟩ prog_21_method_2_code 2 (Option.some FieldType.char), Cond.code ⟨"java/lang/String", "checkIndex", "(II)V"⟩ prog_20_method_155_code 2 (Option.none : Option FieldType)] : List Cond), w ∈ zWS := by
  have e : tables_1_1.filter k2_isCode = [zwc 124, Cond.code ⟨"java/lang/Object", "<init>", "()V"⟩ object_method_1_code 1 (Option.none : Option FieldType), zwc 0, zwc 103, zwc 55, zwc 95, zwc 45, zwc 90, Cond.code ⟨"java/lang/String", "length", "()I"⟩ prog_20_method_54_code 1 (Option.some FieldType.int), Cond.code ⟨"java/lang/String", "coder", "()B"⟩ prog_20_method_152_code 1 (Option.some FieldType.byte), Cond.code ⟨"java/lang/String", "charAt", "(I)C"⟩ prog_20_method_56_code 2 (Option.some FieldType.char), Cond.code ⟨"java/lang/String", "isLatin1", "()Z"⟩ prog_20_method_154_code 1 (Option.some FieldType.boolean), Cond.code ⟨"java/lang/StringLatin1", "charAt", "([BI)C"⟩ prog_21_method_2_code 2 (Option.some FieldType.char), Cond.code ⟨"java/lang/String", "checkIndex", "(II)V"⟩ prog_20_method_155_code 2 (Option.none : Option FieldType)] := rfl
  intro w hw
  have h : w ∈ tables_1_1.filter k2_isCode ∧ goodWord w = true := by
    rw [e]
    simp only [List.mem_cons, List.not_mem_nil, or_false] at hw
    rcases hw with rfl | rfl | rfl | rfl | rfl | rfl | rfl <;> exact ⟨by simp only [List.mem_cons, true_or, or_true], rfl⟩
  refine zWS_of (List.mem_append_right _ ?_) h.2
  unfold tables_1
  simp only [List.mem_append]
  exact Or.inl (List.mem_filter.mp h.1).1
set_option maxRecDepth 100000 in
theorem zj_2 : ∀ w ∈ ([Cond.code ⟨"jdk/internal/util/Preconditions", "checkIndex", "(IILjava/util/function/BiFunction;)I"⟩ prog_25_method_11_code 3 (Option.some FieldType.int), Cond.code ⟨"java/lang/StringUTF16", "charAt", "([BI)C"⟩ prog_22_method_83_code 2 (Option.some FieldType.char), Cond.code ⟨"java/lang/StringUTF16", "checkIndex", "(I[B)V"⟩ prog_22_method_91_code 2 (Option.none : Option FieldType), Cond.code ⟨"java/lang/StringUTF16", "length", "([B)I"⟩ prog_22_method_6_code 1 (Option.some FieldType.int), Cond.code ⟨"java/lang/StringUTF16", "getChar", "([BI)C"⟩ prog_22_method_5_code 2 (Option.some FieldType.char)] : List Cond), w ∈ zWS := by
  have e : tables_1_2.filter k2_isCode = [Cond.code ⟨"jdk/internal/util/Preconditions", "checkIndex", "(IILjava/util/function/BiFunction;)I"⟩ prog_25_method_11_code 3 (Option.some FieldType.int), Cond.code ⟨"java/lang/StringUTF16", "charAt", "([BI)C"⟩ prog_22_method_83_code 2 (Option.some FieldType.char), Cond.code ⟨"java/lang/StringUTF16", "checkIndex", "(I[B)V"⟩ prog_22_method_91_code 2 (Option.none : Option FieldType), Cond.code ⟨"java/lang/StringUTF16", "length", "([B)I"⟩ prog_22_method_6_code 1 (Option.some FieldType.int), Cond.code ⟨"java/lang/StringUTF16", "getChar", "([BI)C"⟩ prog_22_method_5_code 2 (Option.some FieldType.char), zwc 115, zwc 64, zwc 65, zwc 317, zwc 85, zwc 26, zwc 117, zwc 125, zwc 104, zwc 105, zwc 126, zwc 127, zwc 1, zwc 56] := rfl
  intro w hw
  have h : w ∈ tables_1_2.filter k2_isCode ∧ goodWord w = true := by
    rw [e]
    simp only [List.mem_cons, List.not_mem_nil, or_false] at hw
    rcases hw with rfl | rfl | rfl | rfl | rfl <;> exact ⟨by simp only [List.mem_cons, true_or, or_true], rfl⟩
  refine zWS_of (List.mem_append_right _ ?_) h.2
  unfold tables_1
  simp only [List.mem_append]
  exact Or.inr (Or.inl (List.mem_filter.mp h.1).1)
def zyLen : MethodName := ⟨"java/lang/String", "length", "()I"⟩
def zyCod : MethodName := ⟨"java/lang/String", "coder", "()B"⟩
def zyChr : MethodName := ⟨"java/lang/String", "charAt", "(I)C"⟩
def zyLat : MethodName := ⟨"java/lang/String", "isLatin1", "()Z"⟩
def zyLch : MethodName := ⟨"java/lang/StringLatin1", "charAt", "([BI)C"⟩
def zyChk : MethodName := ⟨"java/lang/String", "checkIndex", "(II)V"⟩
def zyPre : MethodName := ⟨"jdk/internal/util/Preconditions", "checkIndex", "(IILjava/util/function/BiFunction;)I"⟩
theorem zcLen_in : Cond.code zyLen prog_20_method_54_code 1 (some .int) ∈ zWS := zj_1 _ (by unfold zyLen; simp only [List.mem_cons, true_or, or_true])
theorem zcCod_in : Cond.code zyCod prog_20_method_152_code 1 (some .byte) ∈ zWS := zj_1 _ (by unfold zyCod; simp only [List.mem_cons, true_or, or_true])
theorem zcChr_in : Cond.code zyChr prog_20_method_56_code 2 (some .char) ∈ zWS := zj_1 _ (by unfold zyChr; simp only [List.mem_cons, true_or, or_true])
theorem zcLat_in : Cond.code zyLat prog_20_method_154_code 1 (some .boolean) ∈ zWS := zj_1 _ (by unfold zyLat; simp only [List.mem_cons, true_or, or_true])
theorem zcLch_in : Cond.code zyLch prog_21_method_2_code 2 (some .char) ∈ zWS := zj_1 _ (by unfold zyLch; simp only [List.mem_cons, true_or, or_true])
theorem zcChk_in : Cond.code zyChk prog_20_method_155_code 2 none ∈ zWS := zj_1 _ (by unfold zyChk; simp only [List.mem_cons, true_or, or_true])
theorem zcPre_in : Cond.code zyPre prog_25_method_11_code 3 (some .int) ∈ zWS := zj_2 _ (by unfold zyPre; simp only [List.mem_cons, true_or, or_true])
theorem zObj_in : Cond.code Lib.objectInit ⟨#[0xb1]⟩ 1 none ∈ zWS := zj_1 _ (List.mem_cons.mpr (Or.inl rfl))
/-- further words of the tables -/
def zswL : List Cond := [.methodLink "java/lang/String" 335 zyCod, .instanceMethod zyCod, .selects "java/lang/String" zyCod zyCod, .fieldLink "java/lang/String" 9 "java/lang/String" "value" "[B", .fieldLink "java/lang/String" 15 "java/lang/String" "coder" "B", .fieldLink "java/lang/String" 38 "java/lang/String" "COMPACT_STRINGS" "Z", .methodLink "java/lang/String" 492 zyLat, .instanceMethod zyLat, .selects "java/lang/String" zyLat zyLat, .methodLink "java/lang/String" 495 zyLch, .static zyLch, .methodLink "java/lang/StringLatin1" 9 zyChk, .static zyChk, .fieldLink "java/lang/String" 1053 "jdk/internal/util/Preconditions" "SIOOBE_FORMATTER" "Ljava/util/function/BiFunction;", .methodLink "java/lang/String" 1059 zyPre, .static zyPre, .initialized "java/lang/String", .initialized "java/lang/StringLatin1", .initialized "jdk/internal/util/Preconditions"]
theorem zsw_all : zswL.all (fun w => zsub [w] lw_tbl) = true := by decide +kernel
theorem zsw (k : Nat) {w : Cond} (h : zswL[k]? = some w) (g : goodWord w = true) : w ∈ zWS := zWS_of (zsub_in _ _ (List.all_eq_true.mp zsw_all w (List.mem_of_getElem? h)) _ List.mem_cons_self) g
/-- the string's bytes, if they are an argument -/
def zPv (B : Nat) (b : Option Nat) (U : State) : Prop := ∀ ad : Nat, b = some ad → va_T .byte ad 87 (fun j => .int (zTX.getD j 0)) (fun q => B ≤ q) U U.heap
theorem zPv.go {B : Nat} {b : Option Nat} {s t : State} (hW : s.WarmedH t.vm) (hk : ∀ a : Nat, a < s.heap.size → ¬ B ≤ a → t.heap[a]? = s.heap[a]?) (h : zPv B b s) : zPv B b t := fun ad e => (va_T.moved hW.alike (h ad e)).kept hk
/-- a contract of a method of the JDK's that changes nothing -/
def zSM (l : Launch) (D : va_G) (cy : Nat → ClassId) (B sc tx : Nat) (b : Option Nat) (σ : zSt) (y : MethodName) (cc : ByteArray) (mx : Nat) (ret : Option FieldType) (fr lo : Nat) (av : List Value) (v : Option Value) : Prop :=
  Met l y (Cond.code y cc mx ret :: zWS) { frames := fr, cells := 0, slots := 0, locals := lo } (va_Pc av (fun U => zWd D cy B sc tx σ U ∧ zPv B b U)) (fun _ st oc t => (oc = .returned v ∧ zWd D cy B sc tx σ t) ∧ va_F (fun q => B ≤ q) st t) 0 0 (fun q => B ≤ q)
theorem zSM_blind {D : va_G} {cy : Nat → ClassId} {B sc tx : Nat} {b : Option Nat} {σ : zSt} {av : List Value} : FrameBlind (va_Pc av (fun U => zWd D cy B sc tx σ U ∧ zPv B b U)) := by
  intro a U g mk h
  obtain ⟨h0, ⟨h1, h2, h3, h4, h5, h6⟩, h7⟩ := h
  have hW : U.WarmedH (U.calling g mk a).vm := State.WarmedH.refl U
  exact ⟨h0, ⟨h1, h2, h3.go hW, h4.go hW (fun _ _ _ => rfl), va_X.moved (Vm.Alike.refl U.vm) h5, h6⟩, h7.go hW (fun _ _ _ => rfl)⟩
theorem zlg_len : ∀ vs : List Value, (lg_sl vs).length = (vs.map (fun v => v.category)).sum
  | [] => rfl
  | v :: vs => by
    have h := zlg_len vs
    unfold lg_sl at h ⊢
    rw [List.flatMap_cons, List.length_append, h, List.map_cons, List.sum_cons]
    congr 1
    cases v <;> rfl
section ZST
variable {p : Program} {l : Launch} {e : Env} {R : Room} {s : State} {m : MethodId} {args : Array Value} {below : List Frame} {meth : Method} {c : Code} {H : Heap} {locs : List Loc} {cells slots : Nat} {Q : State → Prop}
variable {pc : Nat} {lsA : Array Slot} {D : va_G} {cy : Nat → ClassId} {B sc tx n : Nat} {σ : zSt} {b : Option Nat}
/-- how it stands within such a method -/
def zSH (D : va_G) (cy : Nat → ClassId) (B sc tx : Nat) (σ : zSt) (s : State) (H : Heap) (locs : List Loc) : Prop := H.size = B + zN σ ∧ va_P D vwCl (zW (zad B sc tx) cy σ) H ∧ va_S (fun q => B ≤ q) s.heap H locs
theorem zSM_of {y : MethodName} {cc : ByteArray} {mx fr lo : Nat} {ret : Option FieldType} {av : List Value} {v : Option Value} (hy : plainFor y = true) (hlen : (av.map (fun v => v.category)).sum ≤ mx)
    (body : ∀ (p : Program) (e : Env) (s : State) (m : MethodId) (args : Array Value) (below : List Frame) (meth : Method) (c : Code) (lsA : Array Slot), CallFix p m c cc mx s args zWS y.cls → meth.sig.returnType = ret → meth.locks = false → zWd D cy B sc tx σ s → zPv B b s → zSH D cy B sc tx σ s s.heap [] → lv_has lsA mx (lv_args 0 av) →
      W p l e { frames := fr, cells := 0, slots := 0, locals := lo } s m args below meth c s.heap [] 0 0 (MQ below (fun _ st oc t => (oc = .returned v ∧ zWd D cy B sc tx σ t) ∧ va_F (fun q => B ≤ q) st t) args s 0 0 (fun q => B ≤ q)) (F0 m 0 lsA [])) : zSM l D cy B sc tx b σ y cc mx ret fr lo av v := by
  unfold zSM
  refine va_MetF (cc := cc) (maxL := mx) (ret := ret) hy rfl ?_
  intro p e s m args below meth c s₁ Bd hml hv
  obtain ⟨rfl, hWd, hPv⟩ := hv
  have hts0 := atoms_spec (ws := Cond.code y cc mx ret :: zWS) Bd.pre
  have hl := lv_entry av (n := mx) (by rw [zlg_len]; exact hlen)
  rw [lg_entry_eq]
  exact body p e s m av.toArray below meth c _ ⟨Bd.exec, Bd.bytes, hml, findClass_of_methodNamed Bd.named, fun w h => hts0 w (List.mem_cons_of_mem _ h)⟩ Bd.returns Bd.notSynchronized hWd hPv ⟨hWd.1, hWd.2.1, va_S.rf⟩ hl
theorem zSH.end' {v : Option Value} (hWd : zWd D cy B sc tx σ s) (h : zSH D cy B sc tx σ s H locs) : ∀ t : State, t.heap = H → s.WarmedH t.vm → ((Outcome.returned v = .returned v ∧ zWd D cy B sc tx σ t) ∧ va_F (fun q => B ≤ q) s t) := fun t ht hW => ⟨⟨rfl, hWd.go hW ht h.1 h.2.1 h.2.2 ⟨rfl, rfl⟩⟩, h.2.2.F ht⟩
theorem zSMpc {y : MethodName} (hWd : zWd D cy B sc tx σ s) (hPv : zPv B b s) (h : zSH D cy B sc tx σ s H locs) (av : List Value) : ∀ U : State, U.heap = H → s.WarmedH U.vm → va_Pc av (fun U => zWd D cy B sc tx σ U ∧ zPv B b U) av.toArray U := fun U hU hW => ⟨rfl, hWd.go hW hU h.1 h.2.1 h.2.2 ⟨rfl, rfl⟩, hPv.go hW (by rw [hU]; exact h.2.2.2.1)⟩
theorem zGoodS {w : Cond} (h : w ∈ zWS) : GoodIn zWS (w :: zWS) := fun x hx => by
  have h : x ∈ zWS := by
    rcases List.mem_cons.mp hx with rfl | h
    · exact h
    · exact h
  exact ⟨h, good_of_word (List.mem_filter.mp h).2⟩
/-- a static call -/
theorem zSMs {y : MethodName} {cc2 cc own : _} {mx2 nL fr lo t : Nat} {ret : Option FieldType} {av rest : List Value} {v : Option Value} (hM : zSM l D cy B sc tx b σ y cc2 mx2 ret fr lo av v) (hfix : CallFix p m c cc nL s args zWS own) (hcode : Cond.code y cc2 mx2 ret ∈ zWS) (hini : Cond.initialized y.cls ∈ zWS) (hlink : Cond.methodLink own t y ∈ zWS) (hstat : Cond.static y ∈ zWS) (hd : y.cls ≠ "java/lang/invoke/MethodHandle" ∧ y.cls ≠ "java/lang/invoke/VarHandle" ∧ (parseMethodDescriptor y.desc).map (fun d => d.parameters.length) = some av.length) (hR : fr + 1 ≤ R.frames ∧ 8 + (mx2 + 11) + lo ≤ R.locals) (hls : lsA.size = nL) (hsum : (rest.map fun v => v.category).sum ≤ 8) (hdg : decode cc pc = .ok (.invokestatic t, 3)) (hWd : zWd D cy B sc tx σ s) (hPv : zPv B b s) (h : zSH D cy B sc tx σ s H locs) (hfit : cells ≤ R.cells ∧ slots ≤ R.slots)
    (kk : ∀ H1 locs1, zSH D cy B sc tx σ s H1 locs1 → W p l e R s m args below meth c H1 locs1 cells slots Q (F0 m (pc + 3) lsA (v.toList ++ rest))) : W p l e R s m args below meth c H locs cells slots Q (F0 m pc lsA (av.reverse ++ rest)) := by
  have hts := hfix.2.2.2.2
  have hrun := va_runS (e := e) (meth := meth) (below := below) (g := F0 m pc lsA (av.reverse ++ rest)) (locs := locs) (cells := cells) (slots := slots) (As := av) hfix hM ⟨callB_of av.length hts (zGoodS hcode) rfl rfl rfl (hts _ hini) (hts _ hlink) hd hR, hts _ hstat⟩ ⟨zSM_blind, zSMpc (y := y) hWd hPv h av⟩ rfl rfl hls rfl (lv_room hsum) hdg ⟨hfit.1, hfit.2⟩
  exact zcall_ok (P := fun H1 => H1.size = B + zN σ ∧ va_P D vwCl (zW (zad B sc tx) cy σ) H1) hrun (fun st o t h => ⟨⟨h.1.1, h.1.2.1, h.1.2.2.1⟩, h.2⟩) h.2.2 (fun q h => h) fun H1 locs1 hP1 hS1 => kk H1 locs1 ⟨hP1.1, hP1.2, hS1⟩
/-- a call on the string -/
theorem zSMv {y : MethodName} {cc2 cc own : _} {mx2 nL fr lo t : Nat} {ret : Option FieldType} {As rest : List Value} {v : Option Value} (hM : zSM l D cy B sc tx b σ y cc2 mx2 ret fr lo (.ref tx :: As) v) (hfix : CallFix p m c cc nL s args zWS own) (hcode : Cond.code y cc2 mx2 ret ∈ zWS) (hini : Cond.initialized y.cls ∈ zWS) (hlink : Cond.methodLink own t y ∈ zWS) (hinst : Cond.instanceMethod y ∈ zWS) (hsel : Cond.selects "java/lang/String" y y ∈ zWS) (hd : y.cls ≠ "java/lang/invoke/MethodHandle" ∧ y.cls ≠ "java/lang/invoke/VarHandle" ∧ (parseMethodDescriptor y.desc).map (fun d => d.parameters.length) = some As.length) (hR : fr + 1 ≤ R.frames ∧ 8 + (mx2 + 11) + lo ≤ R.locals) (hls : lsA.size = nL) (hsum : (rest.map fun v => v.category).sum ≤ 8) (hdg : decode cc pc = .ok (.invokevirtual t, 3)) (hWd : zWd D cy B sc tx σ s) (hPv : zPv B b s) (h : zSH D cy B sc tx σ s H locs) (hfit : cells ≤ R.cells ∧ slots ≤ R.slots)
    (kk : ∀ H1 locs1, zSH D cy B sc tx σ s H1 locs1 → W p l e R s m args below meth c H1 locs1 cells slots Q (F0 m (pc + 3) lsA (v.toList ++ rest))) : W p l e R s m args below meth c H locs cells slots Q (F0 m pc lsA (As.reverse ++ .ref tx :: rest)) := by
  have hts := hfix.2.2.2.2
  obtain ⟨ad1, hE⟩ := hWd.2.2.2.1.2.1
  have hrec := vk_recv hE (i := 0) (by omega) h.2.2
  have hrun := va_runV (e := e) (meth := meth) (below := below) (g := F0 m pc lsA (As.reverse ++ .ref tx :: rest)) (locs := locs) (cells := cells) (slots := slots) (b := tx) (As := As) (C := "java/lang/String") hfix hM ⟨callB_of As.length hts (zGoodS hcode) rfl rfl rfl (hts _ hini) (hts _ hlink) hd hR, hts _ hinst, hts _ hsel⟩ ⟨zSM_blind, hrec, zSMpc (y := y) hWd hPv h (.ref tx :: As)⟩ rfl rfl hls rfl (lv_room hsum) hdg ⟨hfit.1, hfit.2⟩
  exact zcall_ok (P := fun H1 => H1.size = B + zN σ ∧ va_P D vwCl (zW (zad B sc tx) cy σ) H1) hrun (fun st o t h => ⟨⟨h.1.1, h.1.2.1, h.1.2.2.1⟩, h.2⟩) h.2.2 (fun q h => h) fun H1 locs1 hP1 hS1 => kk H1 locs1 ⟨hP1.1, hP1.2, hS1⟩
end ZST
section ZSB
variable {l : Launch} {D : va_G} {cy : Nat → ClassId} {B sc tx : Nat} {σ : zSt}
theorem zSM_coder {b : Option Nat} : zSM l D cy B sc tx b σ zyCod prog_20_method_152_code 1 (some .byte) 0 0 [.ref tx] (some (.int 0)) := by
  refine zSM_of (by decide +kernel) (Nat.le_of_ble_eq_true rfl) ?_
  intro p e s m args below meth c lsA hfix hr hlocks hWd hPv h hl
  obtain ⟨hx, hb, hml, hown, hts⟩ := id hfix
  obtain ⟨ad1, hE⟩ := hWd.2.2.2.1.2.1
  refine va_gets hx hb hWd.2.2.2.1.2.2.1 h.2.2 hown (hts _ (zsw 5 rfl rfl)) (fun x q => q) (by decide +kernel) ?_
  refine lv_if_eq hx hb (off := 10) (tgt := 13) (by decide +kernel) (by decide) (fun q => absurd q (by decide)) fun _ => ?_
  refine lv_aload_n hx hb (k := 0) (i := 0) (by decide +kernel) rfl (lv_at hl 0 rfl) ?_
  refine vk_getf hx hb (hE.1 0 (by omega)).2.1 h.2.2 hown (hts _ (zsw 4 rfl rfl)) (fun x q => q) (by decide +kernel) ?_
  refine lv_goto hx hb (off := 4) (tgt := 14) (by decide +kernel) (by decide) ?_
  exact W.zret (ty := .byte) hx hb hr (by decide) (zSH.end' hWd h) h.2.2.2.2 (by decide +kernel)
theorem zSM_lat {b : Option Nat} : zSM l D cy B sc tx b σ zyLat prog_20_method_154_code 1 (some .boolean) 0 0 [.ref tx] (some (.int 1)) := by
  refine zSM_of (by decide +kernel) (Nat.le_of_ble_eq_true rfl) ?_
  intro p e s m args below meth c lsA hfix hr hlocks hWd hPv h hl
  obtain ⟨hx, hb, hml, hown, hts⟩ := id hfix
  obtain ⟨ad1, hE⟩ := hWd.2.2.2.1.2.1
  refine va_gets hx hb hWd.2.2.2.1.2.2.1 h.2.2 hown (hts _ (zsw 5 rfl rfl)) (fun x q => q) (by decide +kernel) ?_
  refine lv_if_eq hx hb (off := 14) (tgt := 17) (by decide +kernel) (by decide) (fun q => absurd q (by decide)) fun _ => ?_
  refine lv_aload_n hx hb (k := 0) (i := 0) (by decide +kernel) rfl (lv_at hl 0 rfl) ?_
  refine vk_getf hx hb (hE.1 0 (by omega)).2.1 h.2.2 hown (hts _ (zsw 4 rfl rfl)) (fun x q => q) (by decide +kernel) ?_
  refine lv_if_ne hx hb (off := 7) (tgt := 17) (by decide +kernel) (by decide) (fun q => absurd rfl q) fun _ => ?_
  refine lv_iconst hx hb (n := 1) (by decide +kernel) rfl ?_
  refine lv_goto hx hb (off := 4) (tgt := 18) (by decide +kernel) (by decide) ?_
  exact W.zret (ty := .boolean) hx hb hr (by decide) (zSH.end' hWd h) h.2.2.2.2 (by decide +kernel)
theorem zSM_len : zSM l D cy B sc tx none σ zyLen prog_20_method_54_code 1 (some .int) 5 100 [.ref tx] (some (.int 87)) := by
  refine zSM_of (by decide +kernel) (Nat.le_of_ble_eq_true rfl) ?_
  intro p e s m args below meth c lsA hfix hr hlocks hWd hPv h hl
  obtain ⟨hx, hb, hml, hown, hts⟩ := id hfix
  obtain ⟨ad1, hE⟩ := hWd.2.2.2.1.2.1
  refine lv_aload_n hx hb (k := 0) (i := 0) (by decide +kernel) rfl (lv_at hl 0 rfl) ?_
  refine vk_getf hx hb (hE.1 0 (by omega)).2.2.1 h.2.2 hown (hts _ (zsw 3 rfl rfl)) (fun x q => q) (by decide +kernel) ?_
  refine va_tlen hx hb (hE.1 0 (by omega)).2.2.2 h.2.2 (v := 87) rfl (by decide +kernel) ?_
  refine lv_aload_n hx hb (k := 0) (i := 0) (by decide +kernel) rfl (lv_at hl 0 rfl) ?_
  refine zSMv (As := []) (rest := [.int 87]) (b := none) zSM_coder hfix zcCod_in (zsw 16 rfl rfl) (zsw 0 rfl rfl) (zsw 1 rfl rfl) (zsw 2 rfl rfl) (by decide +kernel) ⟨by decide, by decide⟩ hl.1 (by decide) (by decide +kernel) hWd hPv h ⟨by decide, by decide⟩ fun H1 locs1 h1 => ?_
  refine lv_ishr hx hb (x := 87) (y := 0) (by decide +kernel) ?_
  exact W.iret hx hb hr (zSH.end' hWd h1) h1.2.2.2.2 (by decide +kernel)
theorem zSM_pre {b : Option Nat} {k n : Int32} {v : Value} (hk : ¬ k < 0) (hn : k < n) (hv : v.category = 1) : zSM l D cy B sc tx b σ zyPre prog_25_method_11_code 3 (some .int) 0 0 [.int k, .int n, v] (some (.int k)) := by
  refine zSM_of (by decide +kernel) (by show 1 + (1 + (v.category + 0)) ≤ 3; omega) ?_
  intro p e s m args below meth c lsA hfix hr hlocks hWd hPv h hl
  obtain ⟨hx, hb, hml, hown, hts⟩ := id hfix
  refine lv_iload_n hx hb (k := 0) (i := 0) (by decide +kernel) rfl (lv_at hl 0 rfl) ?_
  refine lv_if_lt hx hb (off := 8) (tgt := 9) (by decide +kernel) (by decide) (fun q => absurd q hk) fun _ => ?_
  refine lv_iload_n hx hb (k := 0) (i := 0) (by decide +kernel) rfl (lv_at hl 0 rfl) ?_
  refine lv_iload_n hx hb (k := 1) (i := 1) (by decide +kernel) rfl (lv_at hl 1 rfl) ?_
  refine lv_icmp_lt hx hb (off := 10) (tgt := 16) (by decide +kernel) (by decide) (fun _ => ?_) (fun q => absurd hn q)
  refine lv_iload_n hx hb (k := 0) (i := 0) (by decide +kernel) rfl (lv_at hl 0 rfl) ?_
  exact W.iret hx hb hr (zSH.end' hWd h) h.2.2.2.2 (by decide +kernel)
theorem zSM_chk {b : Option Nat} {k n : Int32} (hk : ¬ k < 0) (hn : k < n) : zSM l D cy B sc tx b σ zyChk prog_20_method_155_code 2 none 1 22 [.int k, .int n] none := by
  refine zSM_of (by decide +kernel) (Nat.le_of_ble_eq_true rfl) ?_
  intro p e s m args below meth c lsA hfix hr hlocks hWd hPv h hl
  obtain ⟨hx, hb, hml, hown, hts⟩ := id hfix
  refine lv_iload_n hx hb (k := 0) (i := 0) (by decide +kernel) rfl (lv_at hl 0 rfl) ?_
  refine lv_iload_n hx hb (k := 1) (i := 1) (by decide +kernel) rfl (lv_at hl 1 rfl) ?_
  obtain ⟨v, hv, hZ⟩ : ∃ v : Value, v.category = 1 ∧ va_Z "jdk/internal/util/Preconditions" "SIOOBE_FORMATTER" "Ljava/util/function/BiFunction;" v (fun q => B ≤ q) s s.heap := by
    rcases hWd.2.2.2.1.2.2.2 with q | ⟨t, q⟩
    · exact ⟨.null, rfl, q⟩
    · exact ⟨.ref t, rfl, q⟩
  refine va_gets hx hb hZ h.2.2 hown (hts _ (zsw 13 rfl rfl)) (fun x q => q) (by decide +kernel) ?_
  refine zSMs (av := [.int k, .int n, v]) (rest := []) (b := b) (zSM_pre hk hn hv) hfix zcPre_in (zsw 18 rfl rfl) (zsw 14 rfl rfl) (zsw 15 rfl rfl) ⟨by decide +kernel, by decide +kernel, by show _ = some 3; decide +kernel⟩ ⟨by decide, by decide⟩ hl.1 (by decide) (by decide +kernel) hWd hPv h ⟨by decide, by decide⟩ fun H1 locs1 h1 => ?_
  refine lv_pop hx hb (va := .int k) (by decide +kernel) rfl ?_
  exact W.vret hx hb hr (zSH.end' hWd h1) h1.2.2.2.2 (by decide +kernel)
theorem zchar_all : ∀ j : Nat, j < 87 → ((zTX.getD j 0 &&& 255).toUInt32 % 65536).toInt32 = zTX.getD j 0 ∧ narrow .char (.int (zTX.getD j 0)) = .int (zTX.getD j 0) := by decide +kernel
theorem zSM_lch {ad : Nat} {k : Int32} (hk : zin k 87) : zSM l D cy B sc tx (some ad) σ zyLch prog_21_method_2_code 2 (some .char) 2 43 [.ref ad, .int k] (some (.int (zTX.getD k.toNatClampNeg 0))) := by
  refine zSM_of (by decide +kernel) (Nat.le_of_ble_eq_true rfl) ?_
  intro p e s m args below meth c lsA hfix hr hlocks hWd hPv h hl
  obtain ⟨hx, hb, hml, hown, hts⟩ := id hfix
  have hT := hPv ad rfl
  have hk0 : ¬ k < 0 := fun q => hk (Or.inl q)
  have hk1 : k.toNatClampNeg < 87 := Nat.not_le.mp fun q => hk (Or.inr q)
  have hk2 : k < 87 := by
    rw [Int32.lt_iff_toInt_lt]
    have h0 : k.toInt.toNat < 87 := hk1
    show k.toInt < 87
    omega
  obtain ⟨c1, c2⟩ := zchar_all _ hk1
  refine lv_iload_n hx hb (k := 1) (i := 1) (by decide +kernel) rfl (lv_at hl 1 rfl) ?_
  refine lv_aload_n hx hb (k := 0) (i := 0) (by decide +kernel) rfl (lv_at hl 0 rfl) ?_
  refine va_tlen hx hb hT h.2.2 (v := 87) rfl (by decide +kernel) ?_
  refine zSMs (av := [.int k, .int 87]) (rest := []) (b := some ad) (zSM_chk hk0 hk2) hfix zcChk_in (zsw 16 rfl rfl) (zsw 11 rfl rfl) (zsw 12 rfl rfl) ⟨by decide +kernel, by decide +kernel, by show _ = some 2; decide +kernel⟩ ⟨by decide, by decide⟩ hl.1 (by decide) (by decide +kernel) hWd hPv h ⟨by decide, by decide⟩ fun H1 locs1 h1 => ?_
  refine lv_aload_n hx hb (k := 0) (i := 0) (rest := []) (by decide +kernel) rfl (lv_at hl 0 rfl) ?_
  refine lv_iload_n hx hb (k := 1) (i := 1) (by decide +kernel) rfl (lv_at hl 1 rfl) ?_
  refine va_tb hx hb hT h1.2.2 hk rfl (by decide +kernel) ?_
  refine lv_sipush hx hb (n := 255) (by decide +kernel) rfl ?_
  refine lv_iand hx hb (by decide +kernel) ?_
  refine lv_i2c hx hb (by decide +kernel) c1 ?_
  exact W.zret (ty := .char) hx hb hr c2 (zSH.end' hWd h1) h1.2.2.2.2 (by decide +kernel)
theorem zSM_chr {k : Int32} (hk : zin k 87) : zSM l D cy B sc tx none σ zyChr prog_20_method_56_code 2 (some .char) 5 100 [.ref tx, .int k] (some (.int (zTX.getD k.toNatClampNeg 0))) := by
  refine zSM_of (by decide +kernel) (Nat.le_of_ble_eq_true rfl) ?_
  intro p e s m args below meth c lsA hfix hr hlocks hWd hPv h hl
  obtain ⟨hx, hb, hml, hown, hts⟩ := id hfix
  obtain ⟨ad1, hE⟩ := hWd.2.2.2.1.2.1
  have hT := (hE.1 0 (by omega)).2.2.2
  refine lv_aload_n hx hb (k := 0) (i := 0) (by decide +kernel) rfl (lv_at hl 0 rfl) ?_
  refine zSMv (As := []) (rest := []) (b := none) zSM_lat hfix zcLat_in (zsw 16 rfl rfl) (zsw 6 rfl rfl) (zsw 7 rfl rfl) (zsw 8 rfl rfl) (by decide +kernel) ⟨by decide, by decide⟩ hl.1 (by decide) (by decide +kernel) hWd hPv h ⟨by decide, by decide⟩ fun H1 locs1 h1 => ?_
  refine lv_if_eq hx hb (off := 12) (tgt := 16) (x := 1) (rest := []) (by decide +kernel) (by decide) (fun q => absurd q (by decide)) fun _ => ?_
  refine lv_aload_n hx hb (k := 0) (i := 0) (by decide +kernel) rfl (lv_at hl 0 rfl) ?_
  refine vk_getf hx hb (hE.1 0 (by omega)).2.2.1 h1.2.2 hown (hts _ (zsw 3 rfl rfl)) (fun x q => q) (by decide +kernel) ?_
  refine lv_iload_n hx hb (k := 1) (i := 1) (by decide +kernel) rfl (lv_at hl 1 rfl) ?_
  have hPv2 : zPv B (some ad1) s := fun ad q => by cases q; exact hT
  refine zSMs (av := [.ref ad1, .int k]) (rest := []) (b := some ad1) (zSM_lch hk) hfix zcLch_in (zsw 17 rfl rfl) (zsw 9 rfl rfl) (zsw 10 rfl rfl) ⟨by decide +kernel, by decide +kernel, by show _ = some 2; decide +kernel⟩ ⟨by decide, by decide⟩ hl.1 (by decide) (by decide +kernel) hWd hPv2 h1 ⟨by decide, by decide⟩ fun H2 locs2 h2 => ?_
  exact W.zret (ty := .char) hx hb hr (zchar_all _ (Nat.not_le.mp fun q => hk (Or.inr q))).2 (zSH.end' hWd h2) h2.2.2.2.2 (by decide +kernel)
end ZSB

