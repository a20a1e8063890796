/-! THE WALK: a run of the small machine is a run of the claim's machine -/
theorem zroom_inv {n y : Nat} (h : zroom n y = true) (hy : y < 900) : (zMI y).2.2.2.2.2.1 + 1 ≤ (zMI n).2.2.2.2.2.1 ∧ 8 + ((zMI y).2.2.1 + 11) + (zMI y).2.2.2.2.2.2 ≤ (zMI n).2.2.2.2.2.2 := by
  unfold zroom at h
  rw [if_pos hy, Bool.and_eq_true, decide_eq_true_eq, decide_eq_true_eq] at h
  exact h
theorem zroom_invS {n y : Nat} (h : zroom n y = true) (hy : y = 905 ∨ y = 906) : 6 ≤ (zMI n).2.2.2.2.2.1 ∧ 140 ≤ (zMI n).2.2.2.2.2.2 := by
  unfold zroom at h
  rw [if_neg (by omega), if_pos hy, Bool.and_eq_true, decide_eq_true_eq, decide_eq_true_eq] at h
  exact h
theorem zroom_invN {n y : Nat} (h : zroom n y = true) (hy : 900 ≤ y) : 1 ≤ (zMI n).2.2.2.2.2.1 ∧ 40 ≤ (zMI n).2.2.2.2.2.2 := by
  unfold zroom at h
  rw [if_neg (by omega)] at h
  split at h <;> rw [Bool.and_eq_true, decide_eq_true_eq, decide_eq_true_eq] at h <;> omega
theorem zGood {y : Nat} (hy : y < 137) : GoodIn zWS (zwc y :: zWS) := fun w hw => by
  have h : w ∈ zWS := by
    rcases List.mem_cons.mp hw with rfl | h
    · exact zwc_in hy
    · exact h
  exact ⟨h, good_of_word (List.mem_filter.mp h).2⟩
theorem zoIn_ne : ∀ c ∈ zoIn, c ≠ "java/lang/invoke/MethodHandle" ∧ c ≠ "java/lang/invoke/VarHandle" := by decide +kernel
theorem zoI_T : ∀ y ∈ zoI, y ∉ zoT ∧ y ≠ 137 := by decide +kernel
theorem zrcv_inv {y : Nat} {a : List Value} {σ : zSt} (h : zrcv y a σ = true) : ∃ (o : Nat) (As : List Value), a = .ref o :: As ∧ o < zN σ ∧ (zLY o).1 = zCI y := by
  unfold zrcv at h
  split at h
  · rename_i o As
    simp only [Bool.and_eq_true, decide_eq_true_eq, beq_iff_eq] at h
    exact ⟨o, As, rfl, h.1, h.2⟩
  · cases h
theorem zto (ad : Nat → Nat) (v : Option Value) (r : List Value) : (v.map (zv ad)).toList ++ r.map (zv ad) = (v.toList ++ r).map (zv ad) := by cases v <;> rfl
section ZWK
variable {p : Program} {l : Launch} {e : Env} {R : Room} {s : State} {m : MethodId} {args : Array Value} {below : List Frame} {meth : Method} {c : Code} {H : Heap} {locs : List Loc} {cells slots : Nat} {Q : State → Prop}
variable {pc : Nat} {lsA : Array Slot} {D : va_G} {cy : Nat → ClassId} {B sc : Nat} {tx : Nat → Nat} {n : Nat} {σ σ' σ0 σ1 : zSt}
/-- the heap's size, out of what is made -/
theorem zszH {g : JFrame} {sl : Nat} (hs0 : s.heap.size = B + zN σ0) (hk : zKp σ0 σ) (hN : zN σ ≤ 900000) (hP : va_P D vwCl (zW (zad B sc tx) cy σ) H) (hS : va_S (fun q => B ≤ q) s.heap H locs)
    (kk : H.size = B + zN σ → W p l e R s m args below meth c H locs (zN σ - zN σ0) sl Q g) : W p l e R s m args below meth c H locs (zN σ - zN σ0) sl Q g := by
  have h1 := hk.1
  refine zW_sz (k := B + zN σ) (by omega) fun hz => kk ?_
  have h2 := hS.1
  rcases Nat.lt_or_ge (zN σ0) (zN σ) with h3 | h3
  · have h4 := (hP (zN σ - 1) _ (zW_at _ _ _ (by omega))).lt
    rw [zad_lt (by omega)] at h4
    omega
  · omega
/-- what stands at the end of a method -/
def zEnd (p : Program) (l : Launch) (e : Env) (R : Room) (s : State) (m : MethodId) (args : Array Value) (below : List Frame) (meth : Method) (c : Code) (D : va_G) (cy : Nat → ClassId) (B sc : Nat) (tx : Nat → Nat) (n : Nat) (σ0 σ' : zSt) (r : Option Value) (Q : State → Prop) : Prop :=
  ∀ (pc : Nat) (lsA : Array Slot) (st : List Value) (i : Instr) (t len : Nat) (H : Heap) (locs : List Loc), decode (zMI n).2.1 pc = .ok (zreal i t, len) → zlenOK i len = true → zlnk n i t = true → zret i t st = some r → va_P D vwCl (zW (zad B sc tx) cy σ') H → va_S (fun q => B ≤ q) s.heap H locs → H.size = B + zN σ' → zKp σ0 σ' →
    W p l e R s m args below meth c H locs (zN σ' - zN σ0) (zSl (zN σ') - zSl (zN σ0)) Q (F0 m pc lsA (st.map (zv (zad B sc tx))))
def zWalkP (l : Launch) (D : va_G) (cy : Nat → ClassId) (B sc : Nat) (tx : Nat → Nat) (k : Nat) : Prop :=
  ∀ (p : Program) (e : Env) (R : Room) (s : State) (m : MethodId) (args : Array Value) (below : List Frame) (meth : Method) (c : Code) (Q : State → Prop) (n : Nat) (σ0 σ' : zSt) (r : Option Value) (pc : Nat) (ls : zLv) (st : List Value) (σ : zSt) (lsA : Array Slot) (H : Heap) (locs : List Loc),
    zCtx p s m args meth c D cy B sc tx n σ0 → n < 138 → (zMI n).2.2.2.2.2.1 ≤ R.frames → (zMI n).2.2.2.2.2.2 ≤ R.locals → zN σ' ≤ 900000 → zN σ' - zN σ0 ≤ R.cells → zSl (zN σ') - zSl (zN σ0) ≤ R.slots →
    zEnd p l e R s m args below meth c D cy B sc tx n σ0 σ' r Q → zrun k (zcode n) pc ls st σ = some (σ', r) → zKp σ0 σ → lv_has lsA (zMI n).2.2.1 (ls.map (zq (zad B sc tx))) → va_P D vwCl (zW (zad B sc tx) cy σ) H → va_S (fun q => B ≤ q) s.heap H locs →
    W p l e R s m args below meth c H locs (zN σ - zN σ0) (zSl (zN σ) - zSl (zN σ0)) Q (F0 m pc lsA (st.map (zv (zad B sc tx))))
/-- out of a walk, a contract -/
theorem zmeth_of {k : Nat} (ih : zWalkP l D cy B sc tx k) {y : Nat} (hy : y < 137) {a : List Value} {v : Option Value} (hrun : zrun k (zcode y) 0 (lv_args 0 a) [] σ = some (σ1, v)) (hN : zN σ1 ≤ 900000) (hsum : (a.map (fun v => v.category)).sum ≤ zML y) : zCt l D cy B sc tx y a σ σ1 v := by
  obtain ⟨h1, h2, h3, h4, h5, h6, h7⟩ := zmth_inv (show y < 138 by omega)
  unfold zCt
  refine va_MetF (cc := (zMI y).2.1) (maxL := (zMI y).2.2.1) (ret := (zMI y).2.2.2.1) h4 rfl ?_
  intro p e s m args below meth c s₁ Bd hml hv
  obtain ⟨rfl, hWd⟩ := hv
  have hts0 := atoms_spec (ws := zwc y :: zWS) Bd.pre
  have hts : ∀ w ∈ zWS, w.before (a.map (zv (zad B sc tx))).toArray s = true := fun w h => hts0 w (List.mem_cons_of_mem _ h)
  have hl := lv_entry (a.map (zv (zad B sc tx))) (n := (zMI y).2.2.1) (by rw [zlg_len, zsum_map, h1]; exact hsum)
  rw [lg_entry_eq]
  rw [lv_args_map] at hl
  have C0 : zCtx p s m (a.map (zv (zad B sc tx))).toArray meth c D cy B sc tx y σ := ⟨Bd.exec, Bd.bytes, hml, by rw [← h6]; exact findClass_of_methodNamed Bd.named, hts, fun h => (name_of_methodNamed Bd.named Bd.method).1.trans h, hWd⟩
  have key := ih p e (headSpec (zwc y :: zWS) { frames := (zMI y).2.2.2.2.2.1, cells := zN σ1 - zN σ, slots := zSl (zN σ1) - zSl (zN σ), locals := (zMI y).2.2.2.2.2.2 }).room s m (a.map (zv (zad B sc tx))).toArray below meth c
    (MQ below (fun _ st oc t => (oc = .returned (v.map (zv (zad B sc tx))) ∧ zWd D cy B sc tx σ1 t) ∧ va_F (fun q => B ≤ q) st t) (a.map (zv (zad B sc tx))).toArray s (zN σ1 - zN σ) (zSl (zN σ1) - zSl (zN σ)) (fun q => B ≤ q))
    y σ σ1 v 0 (lv_args 0 a) [] σ _ s.heap [] C0 (by omega) (Nat.le_refl _) (Nat.le_refl _) hN (Nat.le_refl _) (Nat.le_refl _) ?_ hrun zKp.rfl' hl hWd.2.1 va_S.rf
  · rw [Nat.sub_self, Nat.sub_self] at key
    exact key
  · intro pc lsA st i t len H locs hd hlen hlk hret hP hS hz hk
    exact zret_ok Bd.exec Bd.bytes _ Bd.returns Bd.notSynchronized hd hlen hlk hret (fun t ht hW => ⟨⟨rfl, hWd.go hW ht hz hP hS (hk.2 hN)⟩, hS.F ht⟩) hS.2.2
/-- behind a call -/
theorem zfin {Qa : State → Outcome → State → Prop} {mc ms : Nat} {st0 rest : List Value} {v : Option Value} (hr : va_Run p l e R s m args below meth c H locs (zN σ - zN σ0) (zSl (zN σ) - zSl (zN σ0)) mc ms (F0 m pc lsA st0) (rest.map (zv (zad B sc tx))) Qa (fun q => B ≤ q)) (hmc : mc = zN σ1 - zN σ) (hms : ms = zSl (zN σ1) - zSl (zN σ))
    (hQ : ∀ st o t, Qa st o t → (o = .returned (v.map (zv (zad B sc tx))) ∧ zWd D cy B sc tx σ1 t) ∧ va_F (fun q => B ≤ q) st t) (hS : va_S (fun q => B ≤ q) s.heap H locs) (h0 : zN σ0 ≤ zN σ) (h1 : zN σ ≤ zN σ1)
    (kk : ∀ H1 locs1, va_P D vwCl (zW (zad B sc tx) cy σ1) H1 → va_S (fun q => B ≤ q) s.heap H1 locs1 → W p l e R s m args below meth c H1 locs1 (zN σ1 - zN σ0) (zSl (zN σ1) - zSl (zN σ0)) Q (F0 m (pc + 3) lsA ((v.toList ++ rest).map (zv (zad B sc tx))))) : W p l e R s m args below meth c H locs (zN σ - zN σ0) (zSl (zN σ) - zSl (zN σ0)) Q (F0 m pc lsA st0) := by
  have m0 := zSl_mono h0
  have m1 := zSl_mono h1
  refine zcall_ok (v := v.map (zv (zad B sc tx))) (P := fun H1 => va_P D vwCl (zW (zad B sc tx) cy σ1) H1) hr (fun st o t h => ?_) hS (fun q h => h) (fun H1 locs1 hP1 hS1 => ?_)
  · obtain ⟨⟨a1, a2⟩, a3⟩ := hQ st o t h
    exact ⟨⟨a1, a2.2.1⟩, a3⟩
  · rw [zto]
    exact W.cs (by omega) (by omega) (kk H1 locs1 hP1 hS1)
set_option maxHeartbeats 4000000 in
/-- a call -/
theorem zcstep {k : Nat} (ih : zWalkP l D cy B sc tx k) (C0 : zCtx p s m args meth c D cy B sc tx n σ0) (hn : n < 138) (hRf : (zMI n).2.2.2.2.2.1 ≤ R.frames) (hRl : (zMI n).2.2.2.2.2.2 ≤ R.locals) (hRc : zN σ1 - zN σ0 ≤ R.cells) (hRs : zSl (zN σ1) - zSl (zN σ0) ≤ R.slots)
    {i : Instr} {len t y : Nat} {vt : Bool} {st a rest : List Value} {v : Option Value} (hd : decode (zMI n).2.1 pc = .ok (zreal i t, len)) (hlen : zlenOK i len = true) (hlk : zlnk n i t = true) (hrm : zrmk n i = true) (hz : zcal i = some (y, vt)) (hpop : zpop (zNA y) st = some (a, rest))
    (hc : (rest.map (fun v => v.category)).sum ≤ 8 ∧ (900 ≤ y ∨ ((a.map (fun v => v.category)).sum ≤ zML y ∧ (vt = true → zrcv y a σ = true)))) (hr : (if 900 ≤ y then znat y a σ else zrun k (zcode y) 0 (lv_args 0 a) [] σ) = some (σ1, v)) (hN : zN σ1 ≤ 900000) (h0 : zKp σ0 σ)
    (hP : va_P D vwCl (zW (zad B sc tx) cy σ) H) (hS : va_S (fun q => B ≤ q) s.heap H locs) (hls : lsA.size = (zMI n).2.2.1)
    (kk : ∀ H1 locs1, va_P D vwCl (zW (zad B sc tx) cy σ1) H1 → va_S (fun q => B ≤ q) s.heap H1 locs1 → W p l e R s m args below meth c H1 locs1 (zN σ1 - zN σ0) (zSl (zN σ1) - zSl (zN σ0)) Q (F0 m (pc + 3) lsA ((v.toList ++ rest).map (zv (zad B sc tx))))) : W p l e R s m args below meth c H locs (zN σ - zN σ0) (zSl (zN σ) - zSl (zN σ0)) Q (F0 m pc lsA (st.map (zv (zad B sc tx)))) := by
  obtain ⟨hst, hna⟩ := zpop_inv hpop
  have hk1 : zKp σ σ1 := by
    split at hr
    · exact znat_kp hr
    · exact zrun_kp _ _ _ _ _ _ _ hr
  have m0 := zSl_mono h0.1
  have m1 := zSl_mono hk1.1
  have q0 := h0.1
  have q1 := hk1.1
  have hfit : zN σ - zN σ0 + (zN σ1 - zN σ) ≤ R.cells ∧ zSl (zN σ) - zSl (zN σ0) + (zSl (zN σ1) - zSl (zN σ)) ≤ R.slots := ⟨by omega, by omega⟩
  obtain ⟨hx, hb, hml, hown, hts, hin, hWd⟩ := id C0
  have hsum : 2 * (F0 m pc lsA (st.map (zv (zad B sc tx)))).monitorRoom + ((rest.map (zv (zad B sc tx))).map fun v => v.category).sum ≤ 8 := by
    refine lv_room ?_
    rw [zsum_map]; exact hc.1
  refine zszH hWd.1 h0 (by omega) hP hS fun hHz => ?_
  have hU : ∀ U : State, U.heap = H → s.WarmedH U.vm → zWd D cy B sc tx σ U := fun U hU hW => hWd.go hW hU hHz hP hS (h0.2 (by omega))
  subst hst
  have hfix : CallFix p m c (zMI n).2.1 (zMI n).2.2.1 s args zWS (zOw (zMI n).2.2.2.2.1) := ⟨hx, hb, hml, hown, hts⟩
  -- what every called method of the listed code gives
  have hB : ∀ (tt : Nat) (hy : y < 137), zroom n y = true → ((zMI n).2.2.2.2.1, tt, y) ∈ zLM → ∀ (np : Nat), (if y ∈ zoT ∨ y = 137 then zNA y else zNA y - 1) = np → CallB R s args (zOw (zMI n).2.2.2.2.1) tt (zMI y).1 (zMI y).2.1 (zMI y).2.2.1 (zMI y).2.2.2.1 (zwc y :: zWS) { frames := (zMI y).2.2.2.2.2.1, cells := zN σ1 - zN σ, slots := zSl (zN σ1) - zSl (zN σ), locals := (zMI y).2.2.2.2.2.2 } (zN σ1 - zN σ) (zSl (zN σ1) - zSl (zN σ)) np := by
    intro tt hy hro hm np hnp
    obtain ⟨g1, g2, g3, g4, g5, g6, g7⟩ := zmth_inv (show y < 138 by omega)
    obtain ⟨r1, r2⟩ := zroom_inv hro (by omega)
    refine callB_of np hts (zGood hy) rfl rfl rfl (hts _ (zwIn_in g5)) (hts _ (zwM_in hm)) ⟨(zoIn_ne _ g5).1, (zoIn_ne _ g5).2, ?_⟩ ⟨Nat.le_trans r1 hRf, Nat.le_trans r2 hRl⟩
    rw [g2, hnp]
  cases i <;> first | (cases hz; done) | skip
  case invokevirtual y' =>
    cases hz
    have hlen : 3 = len := eq_of_beq hlen
    subst hlen
    simp only [zlnk, Bool.and_eq_true, decide_eq_true_eq] at hlk
    obtain ⟨⟨hm, hI⟩, hSs⟩ := hlk
    have hro : zroom n y = true := hrm
    rcases zoS_ok y hSs with hy | hy
    · obtain ⟨g1, g2, g3, g4, g5, g6, g7⟩ := zmth_inv (show y < 138 by omega)
      rw [if_neg (by omega)] at hr
      obtain ⟨hsm, hrc⟩ := hc.2.resolve_left (by omega)
      have hrc := hrc rfl
      have hM := zmeth_of ih hy hr hN hsm
      obtain ⟨o, As, rfl, ho, hoc⟩ := zrcv_inv hrc
      · have hnT := zoI_T y hI
        obtain ⟨q, hq, hqn⟩ : ∃ q, vwCl[zCI y]? = some q ∧ q.1 = (zMI y).1.cls := by
          rcases g7 with h | h | h
          · exact absurd h hnT.1
          · exact absurd h hnT.2
          · cases hv : vwCl[zCI y]? with
            | none => rw [hv] at h; cases h
            | some q => rw [hv] at h; exact ⟨q, rfl, Option.some.inj h⟩
        have hle : (zLY o).1 ≤ 10 := by rw [hoc]; exact zvw_lt hq
        have hrec := va_recv hWd.2.2.1.1 hP hq (by rw [zW_at _ _ _ ho, zel_o hle, hoc])
        rw [hqn] at hrec
        have hn2 : (As.map (zv (zad B sc tx))).length = zNA y - 1 := by
          rw [List.length_map]
          simp only [List.length_cons] at hna
          omega
        have hstk : (((Value.ref o :: As).reverse ++ rest).map (zv (zad B sc tx))) = (As.map (zv (zad B sc tx))).reverse ++ .ref (zad B sc tx o) :: rest.map (zv (zad B sc tx)) := by
          simp [zv]
        have hrun := va_runV (e := e) (meth := meth) (below := below) (g := F0 m pc lsA (((Value.ref o :: As).reverse ++ rest).map (zv (zad B sc tx)))) (locs := locs) (cells := zN σ - zN σ0) (slots := zSl (zN σ) - zSl (zN σ0)) (b := zad B sc tx o) (As := As.map (zv (zad B sc tx))) (C := (zMI y).1.cls) hfix hM ⟨hB t hy hro hm (zNA y - 1) (by rw [if_neg (by simp [hnT.1, hnT.2])]), hts _ (zwI_in hI), hts _ (zwS_in hSs)⟩ ⟨zWd_blind, hrec, fun U h1 h2 => ⟨rfl, hU U h1 h2⟩⟩ rfl hn2 hls hstk hsum hd hfit
        exact zfin hrun rfl rfl (fun st o t h => h) hS q0 q1 kk
    · rw [if_pos (by omega)] at hr
      obtain ⟨r1, r2⟩ := zroom_invS hro hy
      obtain ⟨ad1, hE⟩ := hWd.2.2.2.1.2.1
      rcases hy with rfl | rfl
      · have eN : (zMI 905).1 = zyLen := by decide +kernel
        have hl1 := hts _ (zwM_in hm)
        have hl2 := hts _ (zwI_in hI)
        have hl3 := hts _ (zwS_in hSs)
        simp only [zwM] at hl1
        rw [eN] at hl1 hl2 hl3
        unfold znat at hr
        simp only at hr
        split at hr
        · split at hr
          · rename_i x hxe
            have hE9 : zSTE = zSTR + 22 := rfl
            obtain ⟨j, hj, rfl⟩ : ∃ j : Nat, j < 22 ∧ x = zSTR + j := by
              obtain ⟨j, hj⟩ := Nat.le.dest hxe.1
              exact ⟨j, by omega, hj.symm⟩
            have hsub : Nat.sub (zSTR + j) zSTR = j := Nat.add_sub_cancel_left _ _
            rw [hsub] at hr
            cases hr
            have hrec := vk_recv hE (i := j) hj hS
            have hstr1 : zad B sc tx (zSTR + j) = tx j := by unfold zad; rw [if_neg (by unfold zSTR zSCR; omega), if_pos (by omega), show zSTR + j - zSTR = j by omega]
            have hPv : ∀ U : State, zPv B j none U := fun U ad q => by cases q
            have hstk : (([Value.ref (zSTR + j)].reverse ++ rest).map (zv (zad B sc tx))) = ([] : List Value).reverse ++ .ref (tx j) :: rest.map (zv (zad B sc tx)) := by
              simp [zv, hstr1]
            have hrun := va_runV (e := e) (meth := meth) (below := below) (g := F0 m pc lsA (([Value.ref (zSTR + j)].reverse ++ rest).map (zv (zad B sc tx)))) (locs := locs) (cells := zN σ - zN σ0) (slots := zSl (zN σ) - zSl (zN σ0)) (b := tx j) (As := []) (C := "java/lang/String") hfix (zSM_len (l := l) (D := D) (cy := cy) (B := B) (sc := sc) (tx := tx) (σ := σ) hj) ⟨callB_of 0 hts (zGoodS zcLen_in) rfl rfl rfl (hts _ (zsw 16 rfl rfl)) hl1 ⟨by decide +kernel, by decide +kernel, by decide +kernel⟩ ⟨Nat.le_trans (by decide) (Nat.le_trans r1 hRf), Nat.le_trans (by decide) (Nat.le_trans r2 hRl)⟩, hl2, hl3⟩ ⟨zSM_blind, hrec, fun U h1 h2 => ⟨rfl, hU U h1 h2, hPv U⟩⟩ rfl rfl hls hstk hsum hd ⟨by omega, by omega⟩
            exact zfin (v := some (.int (Int32.ofNat (zTx j).length))) hrun (Nat.sub_self _).symm (Nat.sub_self _).symm (fun st o t h => h) hS q0 q1 kk
          · cases hr
        · cases hr
      · have eN : (zMI 906).1 = zyChr := by decide +kernel
        have hl1 := hts _ (zwM_in hm)
        have hl2 := hts _ (zwI_in hI)
        have hl3 := hts _ (zwS_in hSs)
        simp only [zwM] at hl1
        rw [eN] at hl1 hl2 hl3
        unfold znat at hr
        simp only at hr
        split at hr
        · split at hr
          · rename_i x k0 hxe
            obtain ⟨hxe, hin⟩ := hxe
            have hE9 : zSTE = zSTR + 22 := rfl
            obtain ⟨j, hj, rfl⟩ : ∃ j : Nat, j < 22 ∧ x = zSTR + j := by
              obtain ⟨j, hj⟩ := Nat.le.dest hxe.1
              exact ⟨j, by omega, hj.symm⟩
            have hsub : Nat.sub (zSTR + j) zSTR = j := Nat.add_sub_cancel_left _ _
            rw [hsub] at hr hin
            cases hr
            have hrec := vk_recv hE (i := j) hj hS
            have hstr1 : zad B sc tx (zSTR + j) = tx j := by unfold zad; rw [if_neg (by unfold zSTR zSCR; omega), if_pos (by omega), show zSTR + j - zSTR = j by omega]
            have hPv : ∀ U : State, zPv B j none U := fun U ad q => by cases q
            have hstk : (([Value.ref (zSTR + j), .int k0].reverse ++ rest).map (zv (zad B sc tx))) = [Value.int k0].reverse ++ .ref (tx j) :: rest.map (zv (zad B sc tx)) := by
              simp [zv, hstr1]
            have hrun := va_runV (e := e) (meth := meth) (below := below) (g := F0 m pc lsA (([Value.ref (zSTR + j), .int k0].reverse ++ rest).map (zv (zad B sc tx)))) (locs := locs) (cells := zN σ - zN σ0) (slots := zSl (zN σ) - zSl (zN σ0)) (b := tx j) (As := [.int k0]) (C := "java/lang/String") hfix (zSM_chr (l := l) (D := D) (cy := cy) (B := B) (sc := sc) (tx := tx) (σ := σ) hj hin) ⟨callB_of 1 hts (zGoodS zcChr_in) rfl rfl rfl (hts _ (zsw 16 rfl rfl)) hl1 ⟨by decide +kernel, by decide +kernel, by decide +kernel⟩ ⟨Nat.le_trans (by decide) (Nat.le_trans r1 hRf), Nat.le_trans (by decide) (Nat.le_trans r2 hRl)⟩, hl2, hl3⟩ ⟨zSM_blind, hrec, fun U h1 h2 => ⟨rfl, hU U h1 h2, hPv U⟩⟩ rfl rfl hls hstk hsum hd ⟨by omega, by omega⟩
            exact zfin (v := some (.int ((zTx j).getD k0.toNatClampNeg 0))) hrun (Nat.sub_self _).symm (Nat.sub_self _).symm (fun st o t h => h) hS q0 q1 kk
          · cases hr
        · cases hr
  case invokestatic y' =>
    cases hz
    have hlen : 3 = len := eq_of_beq hlen
    subst hlen
    simp only [zlnk, Bool.and_eq_true, decide_eq_true_eq] at hlk
    obtain ⟨hm, hT⟩ := hlk
    have hro : zroom n y = true := hrm
    rcases zoT_ok y hT with hy | hy
    · rw [if_neg (by omega)] at hr
      obtain ⟨hsm, -⟩ := hc.2.resolve_left (by omega)
      have hM := zmeth_of ih hy hr hN hsm
      have hstk : ((a.reverse ++ rest).map (zv (zad B sc tx))) = (a.map (zv (zad B sc tx))).reverse ++ rest.map (zv (zad B sc tx)) := by simp
      have hrun := va_runS (e := e) (meth := meth) (below := below) (g := F0 m pc lsA ((a.reverse ++ rest).map (zv (zad B sc tx)))) (locs := locs) (cells := zN σ - zN σ0) (slots := zSl (zN σ) - zSl (zN σ0)) (As := a.map (zv (zad B sc tx))) hfix hM ⟨hB t hy hro hm (zNA y) (by rw [if_pos (Or.inl hT)]), hts _ (zwT_in hT)⟩ ⟨zWd_blind, fun U h1 h2 => ⟨rfl, hU U h1 h2⟩⟩ rfl (by rw [List.length_map]; exact hna) hls hstk hsum hd hfit
      exact zfin hrun rfl rfl (fun st o t h => h) hS q0 q1 kk
    · rw [if_pos hy.1] at hr
      obtain ⟨r1, r2⟩ := zroom_invN hro hy.1
      have hNs : zN σ1 = zN σ := by
        unfold znat at hr
        split at hr
        all_goals (repeat' (first | (cases hr; done) | split at hr))
        all_goals (cases hr; rfl)
      refine znat_ok C0 (by omega) (by omega) (by omega) hd hm hy.1 hy.2 hr hP hS hc.1 hls fun H1 locs1 hP1 hS1 => ?_
      have := kk H1 locs1 hP1 hS1
      rw [hNs] at this
      exact this
  case invokespecial y' =>
    cases hz
    have hlen : 3 = len := eq_of_beq hlen
    subst hlen
    simp only [zlnk, Bool.and_eq_true, Bool.or_eq_true, decide_eq_true_eq, beq_iff_eq] at hlk
    obtain ⟨⟨⟨hm, hI⟩, hinit⟩, hy⟩ := hlk
    have hro : zroom n y = true := hrm
    have hnT := zoI_T y hI
    rcases hy with hy | hy
    · subst hy
      obtain ⟨r1, r2⟩ := zroom_invN hro (by omega)
      rw [if_pos (by omega)] at hr
      have hm : ((zMI n).2.2.2.2.1, t, 907) ∈ zLM := by
        rcases hm with h | h
        · exact h
        · exact absurd (show 907 < 137 from zLN_ok _ h) (by decide)
      unfold znat at hr
      simp only at hr
      split at hr
      · rename_i o
        cases hr
        have hstk : (([Value.ref o].reverse ++ rest).map (zv (zad B sc tx))) = .ref (zad B sc tx o) :: rest.map (zv (zad B sc tx)) := rfl
        rw [hstk] at hsum ⊢
        have eN : (zMI 907).1 = Lib.objectInit := by decide +kernel
        have hl1 := hts _ (zwM_in hm)
        have hl2 := hts _ (zwI_in hI)
        simp only [zwM] at hl1
        rw [eN] at hl1 hl2
        refine W.objInit hx hb hown (idx := t) hl1 hl2 (hts _ zObj_in) rfl (hls.trans hml.symm) rfl hd (by omega) (by omega) ?_
        exact kk H locs hP hS
      · cases hr
    · obtain ⟨g1, g2, g3, g4, g5, g6, g7⟩ := zmth_inv (show y < 138 by omega)
      rw [if_neg (by omega)] at hr
      obtain ⟨hsm, hrc⟩ := hc.2.resolve_left (by omega)
      have hrc := hrc rfl
      have hM := zmeth_of ih hy hr hN hsm
      obtain ⟨o, As, rfl, ho, hoc⟩ := zrcv_inv hrc
      · have hn2 : (As.map (zv (zad B sc tx))).length = zNA y - 1 := by
          rw [List.length_map]
          simp only [List.length_cons] at hna
          omega
        have hstk : (((Value.ref o :: As).reverse ++ rest).map (zv (zad B sc tx))) = (As.map (zv (zad B sc tx))).reverse ++ .ref (zad B sc tx o) :: rest.map (zv (zad B sc tx)) := by
          simp [zv]
        have hrt : (zMI y).2.2.2.1 = none := zinit_ret y (by omega) hinit
        rw [zCt] at hM
        rcases hm with hm | hm
        · have hB2 := hB t hy hro hm (zNA y - 1) (by rw [if_neg (by simp [hnT.1, hnT.2])])
          rw [hrt] at hB2
          have hrun := va_runI (e := e) (meth := meth) (below := below) (g := F0 m pc lsA (((Value.ref o :: As).reverse ++ rest).map (zv (zad B sc tx)))) (locs := locs) (cells := zN σ - zN σ0) (slots := zSl (zN σ) - zSl (zN σ0)) (b := zad B sc tx o) (As := As.map (zv (zad B sc tx))) hfix hM ⟨hB2, hinit, hts _ (zwI_in hI)⟩ ⟨zWd_blind, fun U h1 h2 => ⟨rfl, hU U h1 h2⟩⟩ rfl hn2 hls hstk hsum hd hfit
          exact zfin hrun rfl rfl (fun st o t h => h) hS q0 q1 kk
        · obtain ⟨r1, r2⟩ := zroom_inv hro (by omega)
          have hw := hWd.2.2.1.2.1 _ hm
          have hGd : GoodIn zWS (zwc y :: zWS) := zGood hy
          have hBN := va_cnB (R := R) (s := s) (args := args) (own := zOw (zMI n).2.2.2.2.1) (host := RX11) (index := t) (y := (zMI y).1) (bytes := (zMI y).2.1) (maxL := (zMI y).2.2.1) (ret := none) (mc := zN σ1 - zN σ) (ms := zSl (zN σ1) - zSl (zN σ)) (rm := { frames := (zMI y).2.2.2.2.2.1, cells := zN σ1 - zN σ, slots := zSl (zN σ1) - zSl (zN σ), locals := (zMI y).2.2.2.2.2.2 }) (zNA y - 1) hts hGd (by show zwc y :: zWS = _; unfold zwc; rw [hrt]) rfl rfl hw (hts _ (zwIn_in g5)) ⟨(zoIn_ne _ g5).1, (zoIn_ne _ g5).2, by rw [g2, if_neg (by simp [hnT.1, hnT.2])]⟩ ⟨Nat.le_trans r1 hRf, Nat.le_trans r2 hRl⟩
          have hrun := va_runIN (e := e) (meth := meth) (below := below) (g := F0 m pc lsA (((Value.ref o :: As).reverse ++ rest).map (zv (zad B sc tx)))) (locs := locs) (cells := zN σ - zN σ0) (slots := zSl (zN σ) - zSl (zN σ0)) (b := zad B sc tx o) (As := As.map (zv (zad B sc tx))) hfix hM ⟨hBN, hinit, hts _ (zwI_in hI)⟩ ⟨zWd_blind, fun U h1 h2 => ⟨rfl, hU U h1 h2⟩⟩ rfl hn2 hls hstk hsum hd hfit
          exact zfin hrun rfl rfl (fun st o t h => h) hS q0 q1 kk
set_option maxHeartbeats 4000000 in
theorem zwalk : ∀ k : Nat, zWalkP l D cy B sc tx k := by
  intro k
  induction k with
  | zero => intro p e R s m args below meth c Q n σ0 σ' r pc ls st σ lsA H locs _ _ _ _ _ _ _ _ h; cases h
  | succ k ih =>
    intro p e R s m args below meth c Q n σ0 σ' r pc ls st σ lsA H locs C0 hn hRf hRl hN hRc hRs hend hrun h0 hl hP hS
    have hke := (zrun_kp _ _ _ _ _ _ _ hrun)
    have hNs : zN σ ≤ 900000 := Nat.le_trans hke.1 hN
    obtain ⟨hx, hb, hml, hown, hts, hin, hWd⟩ := id C0
    have hBs : B ≤ s.heap.size := by have := hWd.1; omega
    rw [zrun] at hrun
    split at hrun
    · rename_i i len t hq
      obtain ⟨hd, hlen, hoff, hloc, hlk, hrm⟩ := zins_inv hn hq
      split at hrun
      · rename_i y vt hz
        split at hrun
        · rename_i a rest hpop
          split at hrun
          · rename_i hc
            split at hrun
            · rename_i σ1 v hr
              have hk1 : zKp σ σ1 := by
                split at hr
                · exact znat_kp hr
                · exact zrun_kp _ _ _ _ _ _ _ hr
              have hk2 := zrun_kp _ _ _ _ _ _ _ hrun
              have e1 := hk1.1
              have e2 := hk2.1
              have e0 := h0.1
              have e3 := zSl_mono e2
              refine zcstep ih C0 hn hRf hRl (by have : zN σ1 ≤ zN σ' := e2; omega) (by have : zSl (zN σ1) ≤ zSl (zN σ') := e3; omega) hd hlen hlk hrm hz hpop hc hr (by have : zN σ1 ≤ zN σ' := e2; omega) h0 hP hS hl.1 fun H1 locs1 hP1 hS1 => ?_
              exact ih p e R s m args below meth c Q n σ0 σ' r (pc + 3) ls _ σ1 lsA H1 locs1 C0 hn hRf hRl hN hRc hRs hend hrun (h0.trans hk1) hl hP1 hS1
            · cases hrun
          · cases hrun
        · cases hrun
      · split at hrun
        · rename_i pc' ls' st' σ1 hs
          have hk1 := zstp_kp hs
          have hk2 := zrun_kp _ _ _ _ _ _ _ hrun
          have e1 := hk1.1
          have e2 : zN σ1 ≤ zN σ' := hk2.1
          have e0 := h0.1
          have next : ∀ lsA' H1 locs1, lv_has lsA' (zMI n).2.2.1 (ls'.map (zq (zad B sc tx))) → va_P D vwCl (zW (zad B sc tx) cy σ1) H1 → va_S (fun q => B ≤ q) s.heap H1 locs1 → W p l e R s m args below meth c H1 locs1 (zN σ1 - zN σ0) (zSl (zN σ1) - zSl (zN σ0)) Q (F0 m pc' lsA' (st'.map (zv (zad B sc tx)))) := fun lsA' H1 locs1 hl1 hP1 hS1 => ih p e R s m args below meth c Q n σ0 σ' r pc' ls' st' σ1 lsA' H1 locs1 C0 hn hRf hRl hN hRc hRs hend hrun (h0.trans hk1) hl1 hP1 hS1
          unfold zstp zgo at hs
          split at hs
          · rename_i st2 hp
            cases hs
            rw [zreal_pst hp] at hd
            exact zpst_ok hx hb _ hd hlen hp (next lsA H locs hl hP hS)
          · split at hs
            · rename_i b off r2 hp
              cases hs
              rw [zreal_br hp] at hd
              exact zbr_ok hx hb _ hd hlen hoff hp (next lsA H locs hl hP hS)
            · split at hs
              · rename_i ls2 st2 hp
                cases hs
                rw [zreal_loc hp] at hd
                exact zloc_ok hx hb _ hd hlen hloc hl hp fun lsA' hl' => next lsA' H locs hl' hP hS
              · split at hs
                · rename_i st2 σ2 hp
                  cases hs
                  have hX := hWd.2.2.2.2.1
                  obtain ⟨s1, s2⟩ := h0.2 hNs
                  rw [← s1, ← s2] at hX
                  have hsame : zN σ1 = zN σ := zmem_N hp
                  refine zmem_ok hx hb hown hts hin hWd.2.2.1 hX hWd.2.2.2.2.2 hBs hd hlen hlk hp hP hS (by omega) fun H1 locs1 hP1 hS1 => ?_
                  have := next lsA H1 locs1 hl hP1 hS1
                  rw [hsame] at this
                  exact this
                · split at hs
                  · rename_i st2 σ2 hp
                    cases hs
                    have e3 := zSl_mono e1
                    have e4 := zSl_mono e0
                    have e5 := zSl_mono e2
                    have e6 := hWd.1
                    refine zmak_ok hx hb hown hts hWd.2.2.1 hBs hd hlen hlk hp hP hS (by omega) (by omega) (by omega) (by omega) fun H1 locs1 hP1 hS1 => ?_
                    exact W.cs (by omega) (by omega) (next lsA H1 locs1 hl hP1 hS1)
                  · split at hs
                    · rename_i st2 hp
                      cases hs
                      exact zcst_ok hx hb hown hts hWd.2.2.2.1 hd hlen hlk hp (next lsA H locs hl hP hS)
                    · split at hs <;> cases hs
        · rename_i q hs
          cases hrun
          unfold zstp zgo at hs
          split at hs
          · cases hs
          · split at hs
            · cases hs
            · split at hs
              · cases hs
              · split at hs
                · cases hs
                · split at hs
                  · cases hs
                  · split at hs
                    · cases hs
                    · split at hs
                      · rename_i r2 hret
                        cases hs
                        refine zszH hWd.1 h0 hNs hP hS fun hHz => ?_
                        exact hend pc lsA st i t len H locs hd hlen hlk hret hP hS hHz h0
                      · cases hs
        · cases hrun
    · cases hrun
end ZWK
