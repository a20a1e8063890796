/-! THE STRING: length() and charAt(int) of the one string, and the JDK's methods behind them. -/
set_option maxRecDepth 100000 in
theorem zj_1 : ∀ w ∈ ([Cond.code ⟨"java/lang/Object", "<init>", "()V"⟩ object_method_1_code 1 (Option.none : Option FieldType), Cond.code ⟨"java/lang/String", "length", "()I"⟩ prog_19_method_54_code 1 (Option.some FieldType.int), Cond.code ⟨"java/lang/String", "coder", "()B"⟩ prog_19_method_152_code 1 (Option.some FieldType.byte), Cond.code ⟨"java/lang/String", "charAt", "(I)C"⟩ prog_19_method_56_code 2 (Option.some FieldType.char), Cond.code ⟨"java/lang/String", "isLatin1", "()Z"⟩ prog_19_method_154_code 1 (Option.some FieldType.boolean), Cond.code ⟨"java/lang/StringLatin1", "charAt", "([BI)C"⟩ prog_20_method_2_code 2 (Option.some FieldType.char), Cond.code ⟨"java/lang/String", "checkIndex", "(II)V"⟩ prog_19_method_155_code 2 (Option.none : Option FieldType), Cond.code ⟨"jdk/internal/util/Preconditions", "checkIndex", "(IILjava/util/function/BiFunction;)I"⟩ prog_24_method_11_code 3 (Option.some FieldType.int), Cond.code ⟨"java/lang/StringUTF16", "charAt", "([BI)C"⟩ prog_21_method_83_code 2 (Option.some FieldType.char), Cond.code ⟨"java/lang/StringUTF16", "checkIndex", "(I[B)V"⟩ prog_21_method_91_code 2 (Option.none : Option FieldType), Cond.code ⟨"java/lang/StringUTF16", "length", "([B)I"⟩ prog_21_method_6_code 1 (Option.some FieldType.int), Cond.code ⟨"java/lang/StringUTF16", "getChar", "([BI)C"⟩ prog_21_method_5_code 2 (Option.some FieldType.char)] : List Cond), w ∈ zWS := by
  have e : tables_1_1.filter k2_isCode = [zwc 91, Cond.code ⟨"java/lang/Object", "<init>", "()V"⟩ object_method_1_code 1 (Option.none : Option FieldType), zwc 0, zwc 78, zwc 42, zwc 70, zwc 37, zwc 66, Cond.code ⟨"java/lang/String", "length", "()I"⟩ prog_19_method_54_code 1 (Option.some FieldType.int), Cond.code ⟨"java/lang/String", "coder", "()B"⟩ prog_19_method_152_code 1 (Option.some FieldType.byte), Cond.code ⟨"java/lang/String", "charAt", "(I)C"⟩ prog_19_method_56_code 2 (Option.some FieldType.char), Cond.code ⟨"java/lang/String", "isLatin1", "()Z"⟩ prog_19_method_154_code 1 (Option.some FieldType.boolean), Cond.code ⟨"java/lang/StringLatin1", "charAt", "([BI)C"⟩ prog_20_method_2_code 2 (Option.some FieldType.char), Cond.code ⟨"java/lang/String", "checkIndex", "(II)V"⟩ prog_19_method_155_code 2 (Option.none : Option FieldType), Cond.code ⟨"jdk/internal/util/Preconditions", "checkIndex", "(IILjava/util/function/BiFunction;)I"⟩ prog_24_method_11_code 3 (Option.some FieldType.int), Cond.code ⟨"java/lang/StringUTF16", "charAt", "([BI)C"⟩ prog_21_method_83_code 2 (Option.some FieldType.char), Cond.code ⟨"java/lang/StringUTF16", "checkIndex", "(I[B)V"⟩ prog_21_method_91_code 2 (Option.none : Option FieldType), Cond.code ⟨"java/lang/StringUTF16", "length", "([B)I"⟩ prog_21_method_6_code 1 (Option.some FieldType.int), Cond.code ⟨"java/lang/StringUTF16", "getChar", "([BI)C"⟩ prog_21_method_5_code 2 (Option.some FieldType.char), zwc 89] := rfl
  intro w hw
  have h : w ∈ tables_1_1.filter k2_isCode ∧ goodWord w = true := by
    rw [e]
    simp only [List.mem_cons, List.not_mem_nil, or_false] at hw
    rcases hw with rfl | rfl | rfl | rfl | rfl | rfl | rfl | rfl | rfl | rfl | rfl | rfl <;> exact ⟨by simp only [List.mem_cons, true_or, or_true], rfl⟩
  refine zWS_of (List.mem_append_right _ ?_) h.2
  unfold tables_1
  simp only [List.mem_append]
  exact Or.inl (List.mem_filter.mp h.1).1
def zyLen : MethodName := ⟨"java/lang/String", "length", "()I"⟩
def zyCod : MethodName := ⟨"java/lang/String", "coder", "()B"⟩
def zyChr : MethodName := ⟨"java/lang/String", "charAt", "(I)C"⟩
def zyLat : MethodName := ⟨"java/lang/String", "isLatin1", "()Z"⟩
def zyLch : MethodName := ⟨"java/lang/StringLatin1", "charAt", "([BI)C"⟩
def zyChk : MethodName := ⟨"java/lang/String", "checkIndex", "(II)V"⟩
def zyPre : MethodName := ⟨"jdk/internal/util/Preconditions", "checkIndex", "(IILjava/util/function/BiFunction;)I"⟩
theorem zcLen_in : Cond.code zyLen prog_19_method_54_code 1 (some .int) ∈ zWS := zj_1 _ (by unfold zyLen; simp only [List.mem_cons, true_or, or_true])
theorem zcCod_in : Cond.code zyCod prog_19_method_152_code 1 (some .byte) ∈ zWS := zj_1 _ (by unfold zyCod; simp only [List.mem_cons, true_or, or_true])
theorem zcChr_in : Cond.code zyChr prog_19_method_56_code 2 (some .char) ∈ zWS := zj_1 _ (by unfold zyChr; simp only [List.mem_cons, true_or, or_true])
theorem zcLat_in : Cond.code zyLat prog_19_method_154_code 1 (some .boolean) ∈ zWS := zj_1 _ (by unfold zyLat; simp only [List.mem_cons, true_or, or_true])
theorem zcLch_in : Cond.code zyLch prog_20_method_2_code 2 (some .char) ∈ zWS := zj_1 _ (by unfold zyLch; simp only [List.mem_cons, true_or, or_true])
theorem zcChk_in : Cond.code zyChk prog_19_method_155_code 2 none ∈ zWS := zj_1 _ (by unfold zyChk; simp only [List.mem_cons, true_or, or_true])
theorem zcPre_in : Cond.code zyPre prog_24_method_11_code 3 (some .int) ∈ zWS := zj_1 _ (by unfold zyPre; simp only [List.mem_cons, true_or, or_true])
theorem zObj_in : Cond.code Lib.objectInit ⟨#[0xb1]⟩ 1 none ∈ zWS := zj_1 _ (List.mem_cons.mpr (Or.inl rfl))
/-- further words of the tables -/
def zswL : List Cond := [.methodLink "java/lang/String" 335 zyCod, .instanceMethod zyCod, .selects "java/lang/String" zyCod zyCod, .fieldLink "java/lang/String" 9 "java/lang/String" "value" "[B", .fieldLink "java/lang/String" 15 "java/lang/String" "coder" "B", .fieldLink "java/lang/String" 38 "java/lang/String" "COMPACT_STRINGS" "Z", .methodLink "java/lang/String" 492 zyLat, .instanceMethod zyLat, .selects "java/lang/String" zyLat zyLat, .methodLink "java/lang/String" 495 zyLch, .static zyLch, .methodLink "java/lang/StringLatin1" 9 zyChk, .static zyChk, .fieldLink "java/lang/String" 1053 "jdk/internal/util/Preconditions" "SIOOBE_FORMATTER" "Ljava/util/function/BiFunction;", .methodLink "java/lang/String" 1059 zyPre, .static zyPre, .initialized "java/lang/String", .initialized "java/lang/StringLatin1", .initialized "jdk/internal/util/Preconditions"]
theorem zsw_all : zswL.all (fun w => zsub [w] lw_tbl) = true := by decide +kernel
theorem zsw (k : Nat) {w : Cond} (h : zswL[k]? = some w) (g : goodWord w = true) : w ∈ zWS := zWS_of (zsub_in _ _ (List.all_eq_true.mp zsw_all w (List.mem_of_getElem? h)) _ List.mem_cons_self) g
/-- the string's bytes, if they are an argument -/
theorem zlen_ok : ∀ i : Nat, i < 22 → (zTXl.map List.length).getD i 0 = (zTx i).length := by decide +kernel
theorem zshr_ok : ∀ i : Nat, i < 22 → Int32.ofNat (zTx i).length >>> (0 &&& 31) = Int32.ofNat (zTx i).length := by decide +kernel
theorem zlen_int : ∀ i : Nat, i < 22 → (Int32.ofNat (zTx i).length).toInt = ((zTx i).length : Int) := by decide +kernel
def zPv (B i : Nat) (b : Option Nat) (U : State) : Prop := ∀ ad : Nat, b = some ad → va_T .byte ad (zTx i).length (fun j => .int ((zTx i).getD j 0)) (fun q => B ≤ q) U U.heap
theorem zPv.go {B i : Nat} {b : Option Nat} {s t : State} (hW : s.WarmedH t.vm) (hk : ∀ a : Nat, a < s.heap.size → ¬ B ≤ a → t.heap[a]? = s.heap[a]?) (h : zPv B i b s) : zPv B i b t := fun ad e => (va_T.moved hW.alike (h ad e)).kept hk
/-- a contract of a method of the JDK's that changes nothing -/
def zSM (l : Launch) (D : va_G) (cy : Nat → ClassId) (B sc : Nat) (tx : Nat → Nat) (i : Nat) (b : Option Nat) (σ : zSt) (y : MethodName) (cc : ByteArray) (mx : Nat) (ret : Option FieldType) (fr lo : Nat) (av : List Value) (v : Option Value) : Prop :=
  Met l y (Cond.code y cc mx ret :: zWS) { frames := fr, cells := 0, slots := 0, locals := lo } (va_Pc av (fun U => zWd D cy B sc tx σ U ∧ zPv B i b U)) (fun _ st oc t => (oc = .returned v ∧ zWd D cy B sc tx σ t) ∧ va_F (fun q => B ≤ q) st t) 0 0 (fun q => B ≤ q)
theorem zSM_blind {D : va_G} {cy : Nat → ClassId} {B sc : Nat} {tx : Nat → Nat} {i : Nat} {b : Option Nat} {σ : zSt} {av : List Value} : FrameBlind (va_Pc av (fun U => zWd D cy B sc tx σ U ∧ zPv B i b U)) := by
  intro a U g mk h
  obtain ⟨h0, ⟨h1, h2, h3, h4, h5, h6⟩, h7⟩ := h
  have hW : U.WarmedH (U.calling g mk a).vm := State.WarmedH.refl U
  exact ⟨h0, ⟨h1, h2, h3.go hW, h4.go hW (fun _ _ _ => rfl), va_X.moved (Vm.Alike.refl U.vm) h5, h6⟩, h7.go hW (fun _ _ _ => rfl)⟩
theorem zlg_len : ∀ vs : List Value, (lg_sl vs).length = (vs.map (fun v => v.category)).sum
  | [] => rfl
  | v :: vs => by
    have h := zlg_len vs
    unfold lg_sl at h ⊢
    rw [List.flatMap_cons, List.length_append, h, List.map_cons, List.sum_cons]
    congr 1
    cases v <;> rfl
section ZST
variable {p : Program} {l : Launch} {e : Env} {R : Room} {s : State} {m : MethodId} {args : Array Value} {below : List Frame} {meth : Method} {c : Code} {H : Heap} {locs : List Loc} {cells slots : Nat} {Q : State → Prop}
variable {pc : Nat} {lsA : Array Slot} {D : va_G} {cy : Nat → ClassId} {B sc : Nat} {tx : Nat → Nat} {n : Nat} {σ : zSt} {b : Option Nat} {i : Nat}
/-- how it stands within such a method -/
def zSH (D : va_G) (cy : Nat → ClassId) (B sc : Nat) (tx : Nat → Nat) (σ : zSt) (s : State) (H : Heap) (locs : List Loc) : Prop := H.size = B + zN σ ∧ va_P D vwCl (zW (zad B sc tx) cy σ) H ∧ va_S (fun q => B ≤ q) s.heap H locs
theorem zSM_of {y : MethodName} {cc : ByteArray} {mx fr lo : Nat} {ret : Option FieldType} {av : List Value} {v : Option Value} (hy : plainFor y = true) (hlen : (av.map (fun v => v.category)).sum ≤ mx)
    (body : ∀ (p : Program) (e : Env) (s : State) (m : MethodId) (args : Array Value) (below : List Frame) (meth : Method) (c : Code) (lsA : Array Slot), CallFix p m c cc mx s args zWS y.cls → meth.sig.returnType = ret → meth.locks = false → zWd D cy B sc tx σ s → zPv B i b s → zSH D cy B sc tx σ s s.heap [] → lv_has lsA mx (lv_args 0 av) →
      W p l e { frames := fr, cells := 0, slots := 0, locals := lo } s m args below meth c s.heap [] 0 0 (MQ below (fun _ st oc t => (oc = .returned v ∧ zWd D cy B sc tx σ t) ∧ va_F (fun q => B ≤ q) st t) args s 0 0 (fun q => B ≤ q)) (F0 m 0 lsA [])) : zSM l D cy B sc tx i b σ y cc mx ret fr lo av v := by
  unfold zSM
  refine va_MetF (cc := cc) (maxL := mx) (ret := ret) hy rfl ?_
  intro p e s m args below meth c s₁ Bd hml hv
  obtain ⟨rfl, hWd, hPv⟩ := hv
  have hts0 := atoms_spec (ws := Cond.code y cc mx ret :: zWS) Bd.pre
  have hl := lv_entry av (n := mx) (by rw [zlg_len]; exact hlen)
  rw [lg_entry_eq]
  exact body p e s m av.toArray below meth c _ ⟨Bd.exec, Bd.bytes, hml, findClass_of_methodNamed Bd.named, fun w h => hts0 w (List.mem_cons_of_mem _ h)⟩ Bd.returns Bd.notSynchronized hWd hPv ⟨hWd.1, hWd.2.1, va_S.rf⟩ hl
theorem zSH.end' {v : Option Value} (hWd : zWd D cy B sc tx σ s) (h : zSH D cy B sc tx σ s H locs) : ∀ t : State, t.heap = H → s.WarmedH t.vm → ((Outcome.returned v = .returned v ∧ zWd D cy B sc tx σ t) ∧ va_F (fun q => B ≤ q) s t) := fun t ht hW => ⟨⟨rfl, hWd.go hW ht h.1 h.2.1 h.2.2 ⟨rfl, rfl⟩⟩, h.2.2.F ht⟩
theorem zSMpc {y : MethodName} (hWd : zWd D cy B sc tx σ s) (hPv : zPv B i b s) (h : zSH D cy B sc tx σ s H locs) (av : List Value) : ∀ U : State, U.heap = H → s.WarmedH U.vm → va_Pc av (fun U => zWd D cy B sc tx σ U ∧ zPv B i b U) av.toArray U := fun U hU hW => ⟨rfl, hWd.go hW hU h.1 h.2.1 h.2.2 ⟨rfl, rfl⟩, hPv.go hW (by rw [hU]; exact h.2.2.2.1)⟩
theorem zGoodS {w : Cond} (h : w ∈ zWS) : GoodIn zWS (w :: zWS) := fun x hx => by
  have h : x ∈ zWS := by
    rcases List.mem_cons.mp hx with rfl | h
    · exact h
    · exact h
  exact ⟨h, good_of_word (List.mem_filter.mp h).2⟩
/-- a static call -/
theorem zSMs {y : MethodName} {cc2 cc own : _} {mx2 nL fr lo t : Nat} {ret : Option FieldType} {av rest : List Value} {v : Option Value} (hM : zSM l D cy B sc tx i b σ y cc2 mx2 ret fr lo av v) (hfix : CallFix p m c cc nL s args zWS own) (hcode : Cond.code y cc2 mx2 ret ∈ zWS) (hini : Cond.initialized y.cls ∈ zWS) (hlink : Cond.methodLink own t y ∈ zWS) (hstat : Cond.static y ∈ zWS) (hd : y.cls ≠ "java/lang/invoke/MethodHandle" ∧ y.cls ≠ "java/lang/invoke/VarHandle" ∧ (parseMethodDescriptor y.desc).map (fun d => d.parameters.length) = some av.length) (hR : fr + 1 ≤ R.frames ∧ 8 + (mx2 + 11) + lo ≤ R.locals) (hls : lsA.size = nL) (hsum : (rest.map fun v => v.category).sum ≤ 8) (hdg : decode cc pc = .ok (.invokestatic t, 3)) (hWd : zWd D cy B sc tx σ s) (hPv : zPv B i b s) (h : zSH D cy B sc tx σ s H locs) (hfit : cells ≤ R.cells ∧ slots ≤ R.slots)
    (kk : ∀ H1 locs1, zSH D cy B sc tx σ s H1 locs1 → W p l e R s m args below meth c H1 locs1 cells slots Q (F0 m (pc + 3) lsA (v.toList ++ rest))) : W p l e R s m args below meth c H locs cells slots Q (F0 m pc lsA (av.reverse ++ rest)) := by
  have hts := hfix.2.2.2.2
  have hrun := va_runS (e := e) (meth := meth) (below := below) (g := F0 m pc lsA (av.reverse ++ rest)) (locs := locs) (cells := cells) (slots := slots) (As := av) hfix hM ⟨callB_of av.length hts (zGoodS hcode) rfl rfl rfl (hts _ hini) (hts _ hlink) hd hR, hts _ hstat⟩ ⟨zSM_blind, zSMpc (y := y) hWd hPv h av⟩ rfl rfl hls rfl (lv_room hsum) hdg ⟨hfit.1, hfit.2⟩
  exact zcall_ok (P := fun H1 => H1.size = B + zN σ ∧ va_P D vwCl (zW (zad B sc tx) cy σ) H1) hrun (fun st o t h => ⟨⟨h.1.1, h.1.2.1, h.1.2.2.1⟩, h.2⟩) h.2.2 (fun q h => h) fun H1 locs1 hP1 hS1 => kk H1 locs1 ⟨hP1.1, hP1.2, hS1⟩
/-- a call on the string -/
theorem zSMv (hi : i < 22) {y : MethodName} {cc2 cc own : _} {mx2 nL fr lo t : Nat} {ret : Option FieldType} {As rest : List Value} {v : Option Value} (hM : zSM l D cy B sc tx i b σ y cc2 mx2 ret fr lo (.ref (tx i) :: As) v) (hfix : CallFix p m c cc nL s args zWS own) (hcode : Cond.code y cc2 mx2 ret ∈ zWS) (hini : Cond.initialized y.cls ∈ zWS) (hlink : Cond.methodLink own t y ∈ zWS) (hinst : Cond.instanceMethod y ∈ zWS) (hsel : Cond.selects "java/lang/String" y y ∈ zWS) (hd : y.cls ≠ "java/lang/invoke/MethodHandle" ∧ y.cls ≠ "java/lang/invoke/VarHandle" ∧ (parseMethodDescriptor y.desc).map (fun d => d.parameters.length) = some As.length) (hR : fr + 1 ≤ R.frames ∧ 8 + (mx2 + 11) + lo ≤ R.locals) (hls : lsA.size = nL) (hsum : (rest.map fun v => v.category).sum ≤ 8) (hdg : decode cc pc = .ok (.invokevirtual t, 3)) (hWd : zWd D cy B sc tx σ s) (hPv : zPv B i b s) (h : zSH D cy B sc tx σ s H locs) (hfit : cells ≤ R.cells ∧ slots ≤ R.slots)
    (kk : ∀ H1 locs1, zSH D cy B sc tx σ s H1 locs1 → W p l e R s m args below meth c H1 locs1 cells slots Q (F0 m (pc + 3) lsA (v.toList ++ rest))) : W p l e R s m args below meth c H locs cells slots Q (F0 m pc lsA (As.reverse ++ .ref (tx i) :: rest)) := by
  have hts := hfix.2.2.2.2
  obtain ⟨ad1, hE⟩ := hWd.2.2.2.1.2.1
  have hrec := vk_recv hE (i := i) hi h.2.2
  have hrun := va_runV (e := e) (meth := meth) (below := below) (g := F0 m pc lsA (As.reverse ++ .ref (tx i) :: rest)) (locs := locs) (cells := cells) (slots := slots) (b := tx i) (As := As) (C := "java/lang/String") hfix hM ⟨callB_of As.length hts (zGoodS hcode) rfl rfl rfl (hts _ hini) (hts _ hlink) hd hR, hts _ hinst, hts _ hsel⟩ ⟨zSM_blind, hrec, zSMpc (y := y) hWd hPv h (.ref (tx i) :: As)⟩ rfl rfl hls rfl (lv_room hsum) hdg ⟨hfit.1, hfit.2⟩
  exact zcall_ok (P := fun H1 => H1.size = B + zN σ ∧ va_P D vwCl (zW (zad B sc tx) cy σ) H1) hrun (fun st o t h => ⟨⟨h.1.1, h.1.2.1, h.1.2.2.1⟩, h.2⟩) h.2.2 (fun q h => h) fun H1 locs1 hP1 hS1 => kk H1 locs1 ⟨hP1.1, hP1.2, hS1⟩
end ZST
section ZSB
variable {l : Launch} {D : va_G} {cy : Nat → ClassId} {B sc : Nat} {tx : Nat → Nat} {σ : zSt} {i : Nat}
theorem zSM_coder (hi : i < 22) {b : Option Nat} : zSM l D cy B sc tx i b σ zyCod prog_19_method_152_code 1 (some .byte) 0 0 [.ref (tx i)] (some (.int 0)) := by
  refine zSM_of (by decide +kernel) (Nat.le_of_ble_eq_true rfl) ?_
  intro p e s m args below meth c lsA hfix hr hlocks hWd hPv h hl
  obtain ⟨hx, hb, hml, hown, hts⟩ := id hfix
  obtain ⟨ad1, hE⟩ := hWd.2.2.2.1.2.1
  refine va_gets hx hb hWd.2.2.2.1.2.2.1 h.2.2 hown (hts _ (zsw 5 rfl rfl)) (fun x q => q) (by decide +kernel) ?_
  refine lv_if_eq hx hb (off := 10) (tgt := 13) (by decide +kernel) (by decide) (fun q => absurd q (by decide)) fun _ => ?_
  refine lv_aload_n hx hb (k := 0) (i := 0) (by decide +kernel) rfl (lv_at hl 0 rfl) ?_
  refine vk_getf hx hb (hE.1 i hi).2.1 h.2.2 hown (hts _ (zsw 4 rfl rfl)) (fun x q => q) (by decide +kernel) ?_
  refine lv_goto hx hb (off := 4) (tgt := 14) (by decide +kernel) (by decide) ?_
  exact W.zret (ty := .byte) hx hb hr (by decide) (zSH.end' hWd h) h.2.2.2.2 (by decide +kernel)
theorem zSM_lat (hi : i < 22) {b : Option Nat} : zSM l D cy B sc tx i b σ zyLat prog_19_method_154_code 1 (some .boolean) 0 0 [.ref (tx i)] (some (.int 1)) := by
  refine zSM_of (by decide +kernel) (Nat.le_of_ble_eq_true rfl) ?_
  intro p e s m args below meth c lsA hfix hr hlocks hWd hPv h hl
  obtain ⟨hx, hb, hml, hown, hts⟩ := id hfix
  obtain ⟨ad1, hE⟩ := hWd.2.2.2.1.2.1
  refine va_gets hx hb hWd.2.2.2.1.2.2.1 h.2.2 hown (hts _ (zsw 5 rfl rfl)) (fun x q => q) (by decide +kernel) ?_
  refine lv_if_eq hx hb (off := 14) (tgt := 17) (by decide +kernel) (by decide) (fun q => absurd q (by decide)) fun _ => ?_
  refine lv_aload_n hx hb (k := 0) (i := 0) (by decide +kernel) rfl (lv_at hl 0 rfl) ?_
  refine vk_getf hx hb (hE.1 i hi).2.1 h.2.2 hown (hts _ (zsw 4 rfl rfl)) (fun x q => q) (by decide +kernel) ?_
  refine lv_if_ne hx hb (off := 7) (tgt := 17) (by decide +kernel) (by decide) (fun q => absurd rfl q) fun _ => ?_
  refine lv_iconst hx hb (n := 1) (by decide +kernel) rfl ?_
  refine lv_goto hx hb (off := 4) (tgt := 18) (by decide +kernel) (by decide) ?_
  exact W.zret (ty := .boolean) hx hb hr (by decide) (zSH.end' hWd h) h.2.2.2.2 (by decide +kernel)
theorem zSM_len (hi : i < 22) : zSM l D cy B sc tx i none σ zyLen prog_19_method_54_code 1 (some .int) 5 100 [.ref (tx i)] (some (.int (Int32.ofNat (zTx i).length))) := by
  refine zSM_of (by decide +kernel) (Nat.le_of_ble_eq_true rfl) ?_
  intro p e s m args below meth c lsA hfix hr hlocks hWd hPv h hl
  obtain ⟨hx, hb, hml, hown, hts⟩ := id hfix
  obtain ⟨ad1, hE⟩ := hWd.2.2.2.1.2.1
  refine lv_aload_n hx hb (k := 0) (i := 0) (by decide +kernel) rfl (lv_at hl 0 rfl) ?_
  refine vk_getf hx hb (hE.1 i hi).2.2.1 h.2.2 hown (hts _ (zsw 3 rfl rfl)) (fun x q => q) (by decide +kernel) ?_
  have hT := (hE.1 i hi).2.2.2
  rw [zlen_ok i hi] at hT
  refine va_tlen hx hb hT h.2.2 (v := Int32.ofNat (zTx i).length) rfl (by decide +kernel) ?_
  refine lv_aload_n hx hb (k := 0) (i := 0) (by decide +kernel) rfl (lv_at hl 0 rfl) ?_
  refine zSMv hi (As := []) (rest := [.int (Int32.ofNat (zTx i).length)]) (b := none) (zSM_coder hi) hfix zcCod_in (zsw 16 rfl rfl) (zsw 0 rfl rfl) (zsw 1 rfl rfl) (zsw 2 rfl rfl) (by decide +kernel) ⟨by decide, by decide⟩ hl.1 (Nat.le_of_ble_eq_true rfl) (by decide +kernel) hWd hPv h ⟨by decide, by decide⟩ fun H1 locs1 h1 => ?_
  refine lv_ishr hx hb (x := Int32.ofNat (zTx i).length) (y := 0) (by decide +kernel) ?_
  rw [zshr_ok i hi]
  exact W.iret hx hb hr (zSH.end' hWd h1) h1.2.2.2.2 (by decide +kernel)
theorem zSM_pre {b : Option Nat} {k n : Int32} {v : Value} (hk : ¬ k < 0) (hn : k < n) (hv : v.category = 1) : zSM l D cy B sc tx i b σ zyPre prog_24_method_11_code 3 (some .int) 0 0 [.int k, .int n, v] (some (.int k)) := by
  refine zSM_of (by decide +kernel) (by show 1 + (1 + (v.category + 0)) ≤ 3; omega) ?_
  intro p e s m args below meth c lsA hfix hr hlocks hWd hPv h hl
  obtain ⟨hx, hb, hml, hown, hts⟩ := id hfix
  refine lv_iload_n hx hb (k := 0) (i := 0) (by decide +kernel) rfl (lv_at hl 0 rfl) ?_
  refine lv_if_lt hx hb (off := 8) (tgt := 9) (by decide +kernel) (by decide) (fun q => absurd q hk) fun _ => ?_
  refine lv_iload_n hx hb (k := 0) (i := 0) (by decide +kernel) rfl (lv_at hl 0 rfl) ?_
  refine lv_iload_n hx hb (k := 1) (i := 1) (by decide +kernel) rfl (lv_at hl 1 rfl) ?_
  refine lv_icmp_lt hx hb (off := 10) (tgt := 16) (by decide +kernel) (by decide) (fun _ => ?_) (fun q => absurd hn q)
  refine lv_iload_n hx hb (k := 0) (i := 0) (by decide +kernel) rfl (lv_at hl 0 rfl) ?_
  exact W.iret hx hb hr (zSH.end' hWd h) h.2.2.2.2 (by decide +kernel)
theorem zSM_chk {b : Option Nat} {k n : Int32} (hk : ¬ k < 0) (hn : k < n) : zSM l D cy B sc tx i b σ zyChk prog_19_method_155_code 2 none 1 22 [.int k, .int n] none := by
  refine zSM_of (by decide +kernel) (Nat.le_of_ble_eq_true rfl) ?_
  intro p e s m args below meth c lsA hfix hr hlocks hWd hPv h hl
  obtain ⟨hx, hb, hml, hown, hts⟩ := id hfix
  refine lv_iload_n hx hb (k := 0) (i := 0) (by decide +kernel) rfl (lv_at hl 0 rfl) ?_
  refine lv_iload_n hx hb (k := 1) (i := 1) (by decide +kernel) rfl (lv_at hl 1 rfl) ?_
  obtain ⟨v, hv, hZ⟩ : ∃ v : Value, v.category = 1 ∧ va_Z "jdk/internal/util/Preconditions" "SIOOBE_FORMATTER" "Ljava/util/function/BiFunction;" v (fun q => B ≤ q) s s.heap := by
    rcases hWd.2.2.2.1.2.2.2 with q | ⟨t, q⟩
    · exact ⟨.null, rfl, q⟩
    · exact ⟨.ref t, rfl, q⟩
  refine va_gets hx hb hZ h.2.2 hown (hts _ (zsw 13 rfl rfl)) (fun x q => q) (by decide +kernel) ?_
  refine zSMs (av := [.int k, .int n, v]) (rest := []) (b := b) (zSM_pre hk hn hv) hfix zcPre_in (zsw 18 rfl rfl) (zsw 14 rfl rfl) (zsw 15 rfl rfl) ⟨by decide +kernel, by decide +kernel, by show _ = some 3; decide +kernel⟩ ⟨by decide, by decide⟩ hl.1 (by decide) (by decide +kernel) hWd hPv h ⟨by decide, by decide⟩ fun H1 locs1 h1 => ?_
  refine lv_pop hx hb (va := .int k) (by decide +kernel) rfl ?_
  exact W.vret hx hb hr (zSH.end' hWd h1) h1.2.2.2.2 (by decide +kernel)
theorem zchar_all : ∀ i : Nat, i < 22 → ∀ j : Nat, j < (zTx i).length → (((zTx i).getD j 0 &&& 255).toUInt32 % 65536).toInt32 = (zTx i).getD j 0 ∧ narrow .char (.int ((zTx i).getD j 0)) = .int ((zTx i).getD j 0) := by decide +kernel
theorem zSM_lch (hi : i < 22) {ad : Nat} {k : Int32} (hk : zin k (zTx i).length) : zSM l D cy B sc tx i (some ad) σ zyLch prog_20_method_2_code 2 (some .char) 2 43 [.ref ad, .int k] (some (.int ((zTx i).getD k.toNatClampNeg 0))) := by
  refine zSM_of (by decide +kernel) (Nat.le_of_ble_eq_true rfl) ?_
  intro p e s m args below meth c lsA hfix hr hlocks hWd hPv h hl
  obtain ⟨hx, hb, hml, hown, hts⟩ := id hfix
  have hT := hPv ad rfl
  have hk0 : ¬ k < 0 := fun q => hk (Or.inl q)
  have hk1 : k.toNatClampNeg < (zTx i).length := Nat.not_le.mp fun q => hk (Or.inr q)
  have hk2 : k < Int32.ofNat (zTx i).length := by
    rw [Int32.lt_iff_toInt_lt, zlen_int i hi]
    have h0 : k.toInt.toNat < (zTx i).length := hk1
    omega
  obtain ⟨c1, c2⟩ := zchar_all i hi _ hk1
  refine lv_iload_n hx hb (k := 1) (i := 1) (by decide +kernel) rfl (lv_at hl 1 rfl) ?_
  refine lv_aload_n hx hb (k := 0) (i := 0) (by decide +kernel) rfl (lv_at hl 0 rfl) ?_
  refine va_tlen hx hb hT h.2.2 (v := Int32.ofNat (zTx i).length) rfl (by decide +kernel) ?_
  refine zSMs (av := [.int k, .int (Int32.ofNat (zTx i).length)]) (rest := []) (b := some ad) (zSM_chk hk0 hk2) hfix zcChk_in (zsw 16 rfl rfl) (zsw 11 rfl rfl) (zsw 12 rfl rfl) ⟨by decide +kernel, by decide +kernel, by show _ = some 2; decide +kernel⟩ ⟨by decide, by decide⟩ hl.1 (by decide) (by decide +kernel) hWd hPv h ⟨by decide, by decide⟩ fun H1 locs1 h1 => ?_
  refine lv_aload_n hx hb (k := 0) (i := 0) (rest := []) (by decide +kernel) rfl (lv_at hl 0 rfl) ?_
  refine lv_iload_n hx hb (k := 1) (i := 1) (by decide +kernel) rfl (lv_at hl 1 rfl) ?_
  refine va_tb hx hb hT h1.2.2 hk rfl (by decide +kernel) ?_
  refine lv_sipush hx hb (n := 255) (by decide +kernel) rfl ?_
  refine lv_iand hx hb (by decide +kernel) ?_
  refine lv_i2c hx hb (by decide +kernel) c1 ?_
  exact W.zret (ty := .char) hx hb hr c2 (zSH.end' hWd h1) h1.2.2.2.2 (by decide +kernel)
theorem zSM_chr (hi : i < 22) {k : Int32} (hk : zin k (zTx i).length) : zSM l D cy B sc tx i none σ zyChr prog_19_method_56_code 2 (some .char) 5 100 [.ref (tx i), .int k] (some (.int ((zTx i).getD k.toNatClampNeg 0))) := by
  refine zSM_of (by decide +kernel) (Nat.le_of_ble_eq_true rfl) ?_
  intro p e s m args below meth c lsA hfix hr hlocks hWd hPv h hl
  obtain ⟨hx, hb, hml, hown, hts⟩ := id hfix
  obtain ⟨ad1, hE⟩ := hWd.2.2.2.1.2.1
  have hT := (hE.1 i hi).2.2.2
  rw [zlen_ok i hi] at hT
  refine lv_aload_n hx hb (k := 0) (i := 0) (by decide +kernel) rfl (lv_at hl 0 rfl) ?_
  refine zSMv hi (As := []) (rest := []) (b := none) (zSM_lat hi) hfix zcLat_in (zsw 16 rfl rfl) (zsw 6 rfl rfl) (zsw 7 rfl rfl) (zsw 8 rfl rfl) (by decide +kernel) ⟨by decide, by decide⟩ hl.1 (by decide) (by decide +kernel) hWd hPv h ⟨by decide, by decide⟩ fun H1 locs1 h1 => ?_
  refine lv_if_eq hx hb (off := 12) (tgt := 16) (x := 1) (rest := []) (by decide +kernel) (by decide) (fun q => absurd q (by decide)) fun _ => ?_
  refine lv_aload_n hx hb (k := 0) (i := 0) (by decide +kernel) rfl (lv_at hl 0 rfl) ?_
  refine vk_getf hx hb (hE.1 i hi).2.2.1 h1.2.2 hown (hts _ (zsw 3 rfl rfl)) (fun x q => q) (by decide +kernel) ?_
  refine lv_iload_n hx hb (k := 1) (i := 1) (by decide +kernel) rfl (lv_at hl 1 rfl) ?_
  have hPv2 : zPv B i (some (ad1 i)) s := fun ad q => by cases q; exact hT
  refine zSMs (av := [.ref (ad1 i), .int k]) (rest := []) (b := some (ad1 i)) (zSM_lch hi hk) hfix zcLch_in (zsw 17 rfl rfl) (zsw 9 rfl rfl) (zsw 10 rfl rfl) ⟨by decide +kernel, by decide +kernel, by show _ = some 2; decide +kernel⟩ ⟨by decide, by decide⟩ hl.1 (by decide) (by decide +kernel) hWd hPv2 h1 ⟨by decide, by decide⟩ fun H2 locs2 h2 => ?_
  exact W.zret (ty := .char) hx hb hr (zchar_all i hi _ (Nat.not_le.mp fun q => hk (Or.inr q))).2 (zSH.end' hWd h2) h2.2.2.2.2 (by decide +kernel)
end ZSB

