/-! THE READER: a rule is settled -/
theorem zO.fm {w : List Nat} {σ σ' : zSt} {o cl : Nat} (h : zO σ o cl) (f : zFm w σ σ') : zO σ' o cl := ⟨by rw [f.1]; exact h.1, h.2⟩
theorem zO.fk {w : List Nat} {σ σ' : zSt} {o cl : Nat} (h : zO σ o cl) (f : zFk w σ σ') : zO σ' o cl := ⟨by rw [f.1]; exact h.1, h.2⟩
theorem iZ_ex (v : Int32) : ∃ g : Int, v = iZ g ∧ -2147483648 ≤ g ∧ g ≤ 2147483647 := ⟨v.toInt, iZ_of v, by have := v.le_toInt; omega, by have := v.toInt_lt; omega⟩
theorem c_hasF3 {σ : zSt} (hF : zFx σ) {o : Nat} (hO : zIsS o) {nm : Int} {n : Nat} {K C : Nat → Int} (hS : zShp σ o nm n K C) (hn : n ≤ 6) {g : Int} (hg : -2147483648 ≤ g ∧ g ≤ 2147483647) {Q : zSt → Option Value → Prop} (k1 : 0 ≤ g ∧ g < n → Q σ (some (.int (iZ 1)))) (k0 : ¬ (0 ≤ g ∧ g < n) → Q σ (some (.int (iZ 0)))) : zCa 74 [.ref o, .int (iZ g)] σ Q := by
  refine w_enter (c := zk_X8_hasField) (ls2 := [(0, .ref o), (1, .int (iZ g))]) rfl ⟨rfl, rfl, trivial⟩ ?_
  refine w_iload_n (pc' := 1) ⟨rfl, rfl⟩ rfl ?_
  refine w_if_lt (pc' := 4) (pcT := 22) ⟨rfl, rfl⟩ rfl (by omega) (fun h1 => ?_) (fun h1 => ?_)
  · refine w_ic (pc' := 23) ⟨rfl, rfl⟩ ?_
    refine w_ireturn (pc' := 24) ⟨rfl, rfl⟩ (by decide) ?_
    first | exact k1 (by omega) | exact k0 (by omega)
  · refine w_iload_n (pc' := 5) ⟨rfl, rfl⟩ rfl ?_
    refine w_aload_n (pc' := 6) ⟨rfl, rfl⟩ rfl ?_
    refine w_getI (pc' := 9) (cl := 6) (q := 5) ⟨rfl, rfl⟩ ⟨rfl, by decide⟩ (hO.o hF) hS.2.1 ?_
    refine w_ic_ge (pc' := 12) (pcT := 22) ⟨rfl, rfl⟩ rfl (by omega) (by omega) (fun h2 => ?_) (fun h2 => ?_)
    · refine w_ic (pc' := 23) ⟨rfl, rfl⟩ ?_
      refine w_ireturn (pc' := 24) ⟨rfl, rfl⟩ (by decide) ?_
      first | exact k1 (by omega) | exact k0 (by omega)
    · refine w_iload_n (pc' := 13) ⟨rfl, rfl⟩ rfl ?_
      refine w_bi (pc' := 15) ⟨rfl, rfl⟩ (by decide) ?_
      refine w_ic_ge (pc' := 18) (pcT := 22) ⟨rfl, rfl⟩ rfl (by omega) (by omega) (fun h3 => ?_) (fun h3 => ?_)
      · refine w_ic (pc' := 23) ⟨rfl, rfl⟩ ?_
        refine w_ireturn (pc' := 24) ⟨rfl, rfl⟩ (by decide) ?_
        first | exact k1 (by omega) | exact k0 (by omega)
      · refine w_ic (pc' := 19) ⟨rfl, rfl⟩ ?_
        refine w_goto (pc' := 22) (pcT := 23) ⟨rfl, rfl⟩ rfl ?_
        refine w_ireturn (pc' := 24) ⟨rfl, rfl⟩ (by decide) ?_
        first | exact k1 (by omega) | exact k0 (by omega)
theorem l_set2 {σ : zSt} (hF0 : zFx σ) {r : Nat} (hR0 : zO σ r 5) (hr : 25 ≤ r) {o q : Nat} (hO : zIsS o) (hQ : zIsS q) (ho5 : 5 ≤ o ∧ o + 4 < 25) (hq5 : 5 ≤ q ∧ q + 4 < 25) {nm nm2 : Int} {n n2 : Nat} {K C K2 C2 : Nat → Int} (hS0 : zShp σ o nm n K C) (hT0 : zShp σ q nm2 n2 K2 C2) (hn : n ≤ 6) (hn2 : n2 ≤ 6) (hK : ∀ f : Nat, f < n → (0 ≤ K f ∧ K f ≤ 8) ∧ 1 ≤ C f ∧ C f ≤ 4) (hK2 : ∀ f : Nat, f < n2 → (0 ≤ K2 f ∧ K2 f ≤ 8) ∧ 1 ≤ C2 f ∧ C2 f ≤ 4) {f : Nat} (hf : f < n2) (h00 : zI σ r 0 = iZ (f : Int)) {fr : Int32} {Q : zSt → Option Value → Prop} : ∀ (j : Nat) (i : Nat) (σ1 : zSt), i + j = n → zFm [r] σ σ1 → (∀ k, k < 4 → zI σ1 r k = zI σ r k) → (∀ σ2, zFm [r] σ σ2 → (∀ k, k < 4 → zI σ2 r k = zI σ r k) → Q σ2 none) → zP zk_X7_settle 208 [(0, .ref r), (1, .ref o), (2, .ref q), (3, .int fr), (4, .int (iZ (i : Int)))] [] σ1 Q := by
  intro j
  induction j with
  | zero =>
    intro i σ1 hi m ho k
    have hF := m.fx hF0
    have hR := hR0.fm m
    have hS := hS0.fr m.q (by simp only [List.mem_cons, List.not_mem_nil, or_false, not_false_eq_true] <;> omega) (by simp only [List.mem_cons, List.not_mem_nil, or_false, not_false_eq_true] <;> omega) (by simp only [List.mem_cons, List.not_mem_nil, or_false, not_false_eq_true] <;> omega) (by simp only [List.mem_cons, List.not_mem_nil, or_false, not_false_eq_true] <;> omega) (by simp only [List.mem_cons, List.not_mem_nil, or_false, not_false_eq_true] <;> omega)
    have hT := hT0.fr m.q (by simp only [List.mem_cons, List.not_mem_nil, or_false, not_false_eq_true] <;> omega) (by simp only [List.mem_cons, List.not_mem_nil, or_false, not_false_eq_true] <;> omega) (by simp only [List.mem_cons, List.not_mem_nil, or_false, not_false_eq_true] <;> omega) (by simp only [List.mem_cons, List.not_mem_nil, or_false, not_false_eq_true] <;> omega) (by simp only [List.mem_cons, List.not_mem_nil, or_false, not_false_eq_true] <;> omega)
    have y0 : zI _ r 0 = iZ (f : Int) := (ho 0 (by omega)).trans h00
    refine w_iload (pc' := 210) ⟨rfl, rfl⟩ rfl ?_
    refine w_aload_n (pc' := 211) ⟨rfl, rfl⟩ rfl ?_
    refine w_getI (pc' := 214) (cl := 6) (q := 5) ⟨rfl, rfl⟩ ⟨rfl, by decide⟩ (hO.o hF) hS.2.1 ?_
    refine w_icT_ge (pc' := 217) (pcT := 266) ⟨rfl, rfl⟩ rfl (by omega) ?_
    refine w_return (pc' := 267) ⟨rfl, rfl⟩ ?_
    exact k _ m ho
  | succ j ih =>
    intro i σ1 hi m ho k
    have hF := m.fx hF0
    have hR := hR0.fm m
    have hS := hS0.fr m.q (by simp only [List.mem_cons, List.not_mem_nil, or_false, not_false_eq_true] <;> omega) (by simp only [List.mem_cons, List.not_mem_nil, or_false, not_false_eq_true] <;> omega) (by simp only [List.mem_cons, List.not_mem_nil, or_false, not_false_eq_true] <;> omega) (by simp only [List.mem_cons, List.not_mem_nil, or_false, not_false_eq_true] <;> omega) (by simp only [List.mem_cons, List.not_mem_nil, or_false, not_false_eq_true] <;> omega)
    have hT := hT0.fr m.q (by simp only [List.mem_cons, List.not_mem_nil, or_false, not_false_eq_true] <;> omega) (by simp only [List.mem_cons, List.not_mem_nil, or_false, not_false_eq_true] <;> omega) (by simp only [List.mem_cons, List.not_mem_nil, or_false, not_false_eq_true] <;> omega) (by simp only [List.mem_cons, List.not_mem_nil, or_false, not_false_eq_true] <;> omega) (by simp only [List.mem_cons, List.not_mem_nil, or_false, not_false_eq_true] <;> omega)
    have y0 : zI _ r 0 = iZ (f : Int) := (ho 0 (by omega)).trans h00
    refine w_iload (pc' := 210) ⟨rfl, rfl⟩ rfl ?_
    refine w_aload_n (pc' := 211) ⟨rfl, rfl⟩ rfl ?_
    refine w_getI (pc' := 214) (cl := 6) (q := 5) ⟨rfl, rfl⟩ ⟨rfl, by decide⟩ (hO.o hF) hS.2.1 ?_
    refine w_icF_ge (pc' := 217) ⟨rfl, rfl⟩ (by omega) ?_
    refine w_iload_n (pc' := 218) ⟨rfl, rfl⟩ rfl ?_
    refine w_iload (pc' := 220) ⟨rfl, rfl⟩ rfl ?_
    refine w_ishr (pc' := 221) ⟨rfl, rfl⟩ ?_
    refine w_ic (pc' := 222) ⟨rfl, rfl⟩ ?_
    refine w_iand (pc' := 223) ⟨rfl, rfl⟩ ?_
    refine w_ifI_eq (pc' := 226) (pcT := 260) ⟨rfl, rfl⟩ rfl (fun h1 => ?_) (fun h1 => ?_)
    · refine w_iincZ (pc' := 263) ⟨rfl, rfl⟩ rfl rfl ?_
      refine w_goto (pc' := 266) (pcT := 208) ⟨rfl, rfl⟩ rfl ?_
      refine w_at (ls2 := [(0, .ref r), (1, .ref o), (2, .ref q), (3, .int fr), (4, .int (iZ ((i + 1 : Nat) : Int)))]) ?_ (ih (i + 1) _ (by omega) m ho k)
      exact ⟨rfl, rfl, rfl, rfl, rfl, trivial⟩
    · refine w_aload_n (pc' := 227) ⟨rfl, rfl⟩ rfl ?_
      refine w_iload (pc' := 229) ⟨rfl, rfl⟩ rfl ?_
      refine w_cv2 (pc' := 232) ⟨rfl, rfl⟩ (by decide) (hO.o hF) (Nat.le_of_ble_eq_true rfl) (Nat.le_of_ble_eq_true rfl) (c_hasF2 hF hO hS hn (g := i) (by omega) ?_)
      refine w_ifF_eq (pc' := 235) ⟨rfl, rfl⟩ (by decide) ?_
      refine w_aload_n (pc' := 236) ⟨rfl, rfl⟩ rfl ?_
      refine w_dupR (pc' := 237) ⟨rfl, rfl⟩ ?_
      refine w_getI (pc' := 240) (cl := 5) (q := 6) ⟨rfl, rfl⟩ ⟨rfl, by decide⟩ hR rfl ?_
      refine w_ic (pc' := 241) ⟨rfl, rfl⟩ ?_
      refine w_aload_n (pc' := 242) ⟨rfl, rfl⟩ rfl ?_
      refine w_getI (pc' := 245) (cl := 5) (q := 5) ⟨rfl, rfl⟩ ⟨rfl, by decide⟩ hR rfl ?_
      refine w_ishl (pc' := 246) ⟨rfl, rfl⟩ ?_
      refine w_ic (pc' := 247) ⟨rfl, rfl⟩ ?_
      refine w_isub (pc' := 248) ⟨rfl, rfl⟩ ?_
      refine w_aload_n (pc' := 249) ⟨rfl, rfl⟩ rfl ?_
      refine w_getR (pc' := 252) (cl := 6) (q := 3) ⟨rfl, rfl⟩ ⟨rfl, by decide⟩ (hO.o hF) (hO.p hF).2.2.2 ?_
      refine w_iload (pc' := 254) ⟨rfl, rfl⟩ rfl ?_
      refine w_iald (pc' := 255) ⟨rfl, rfl⟩ (hO.a hF).2.2.2 (zixZ (by omega)) rfl ?_
      refine w_ishl (pc' := 256) ⟨rfl, rfl⟩ ?_
      refine w_ior (pc' := 257) ⟨rfl, rfl⟩ ?_
      refine w_putI (pc' := 260) (cl := 5) (q := 6) ⟨rfl, rfl⟩ ⟨rfl, by decide⟩ hR ?_
      refine w_gI (fun v1 w1 e1 o1 => ?_)
      have m := m.trans w1
      have ho := fun k hk => (o1 k (by omega)).trans (ho k hk)
      have hF := m.fx hF0
      have hR := hR0.fm m
      have hS := hS0.fr m.q (by simp only [List.mem_cons, List.not_mem_nil, or_false, not_false_eq_true] <;> omega) (by simp only [List.mem_cons, List.not_mem_nil, or_false, not_false_eq_true] <;> omega) (by simp only [List.mem_cons, List.not_mem_nil, or_false, not_false_eq_true] <;> omega) (by simp only [List.mem_cons, List.not_mem_nil, or_false, not_false_eq_true] <;> omega) (by simp only [List.mem_cons, List.not_mem_nil, or_false, not_false_eq_true] <;> omega)
      have hT := hT0.fr m.q (by simp only [List.mem_cons, List.not_mem_nil, or_false, not_false_eq_true] <;> omega) (by simp only [List.mem_cons, List.not_mem_nil, or_false, not_false_eq_true] <;> omega) (by simp only [List.mem_cons, List.not_mem_nil, or_false, not_false_eq_true] <;> omega) (by simp only [List.mem_cons, List.not_mem_nil, or_false, not_false_eq_true] <;> omega) (by simp only [List.mem_cons, List.not_mem_nil, or_false, not_false_eq_true] <;> omega)
      have y0 : zI _ r 0 = iZ (f : Int) := (ho 0 (by omega)).trans h00
      refine w_iincZ (pc' := 263) ⟨rfl, rfl⟩ rfl rfl ?_
      refine w_goto (pc' := 266) (pcT := 208) ⟨rfl, rfl⟩ rfl ?_
      refine w_at (ls2 := [(0, .ref r), (1, .ref o), (2, .ref q), (3, .int fr), (4, .int (iZ ((i + 1 : Nat) : Int)))]) ?_ (ih (i + 1) _ (by omega) m ho k)
      exact ⟨rfl, rfl, rfl, rfl, rfl, trivial⟩
theorem l_setC {σ : zSt} (hF0 : zFx σ) {r : Nat} (hR0 : zO σ r 5) (hr : 25 ≤ r) {o q : Nat} (hO : zIsS o) (hQ : zIsS q) (ho5 : 5 ≤ o ∧ o + 4 < 25) (hq5 : 5 ≤ q ∧ q + 4 < 25) {nm nm2 : Int} {n n2 : Nat} {K C K2 C2 : Nat → Int} (hS0 : zShp σ o nm n K C) (hT0 : zShp σ q nm2 n2 K2 C2) (hn : n ≤ 6) (hn2 : n2 ≤ 6) (hK : ∀ f : Nat, f < n → (0 ≤ K f ∧ K f ≤ 8) ∧ 1 ≤ C f ∧ C f ≤ 4) (hK2 : ∀ f : Nat, f < n2 → (0 ≤ K2 f ∧ K2 f ≤ 8) ∧ 1 ≤ C2 f ∧ C2 f ≤ 4) {f : Nat} (hf : f < n2) (h00 : zI σ r 0 = iZ (f : Int)) {fr i4 : Int32} {Q : zSt → Option Value → Prop} {σ1 : zSt} (m : zFm [r] σ σ1) (ho : ∀ k, k < 4 → zI σ1 r k = zI σ r k) {md : Int} (y4 : zI σ1 r 4 = iZ md) (hmd : 0 ≤ md ∧ md ≤ 8) (k : (∀ σ2, zFm [r] σ σ2 → (∀ k, k < 4 → zI σ2 r k = zI σ r k) → Q σ2 none)) : zP zk_X7_settle 161 [(0, .ref r), (1, .ref o), (2, .ref q), (3, .int fr), (4, .int i4)] [] σ1 Q := by
  have hF := m.fx hF0
  have hR := hR0.fm m
  have hS := hS0.fr m.q (by simp only [List.mem_cons, List.not_mem_nil, or_false, not_false_eq_true] <;> omega) (by simp only [List.mem_cons, List.not_mem_nil, or_false, not_false_eq_true] <;> omega) (by simp only [List.mem_cons, List.not_mem_nil, or_false, not_false_eq_true] <;> omega) (by simp only [List.mem_cons, List.not_mem_nil, or_false, not_false_eq_true] <;> omega) (by simp only [List.mem_cons, List.not_mem_nil, or_false, not_false_eq_true] <;> omega)
  have hT := hT0.fr m.q (by simp only [List.mem_cons, List.not_mem_nil, or_false, not_false_eq_true] <;> omega) (by simp only [List.mem_cons, List.not_mem_nil, or_false, not_false_eq_true] <;> omega) (by simp only [List.mem_cons, List.not_mem_nil, or_false, not_false_eq_true] <;> omega) (by simp only [List.mem_cons, List.not_mem_nil, or_false, not_false_eq_true] <;> omega) (by simp only [List.mem_cons, List.not_mem_nil, or_false, not_false_eq_true] <;> omega)
  have y0 : zI _ r 0 = iZ (f : Int) := (ho 0 (by omega)).trans h00
  have hk2 := hK2 f hf
  refine w_aload_n (pc' := 162) ⟨rfl, rfl⟩ rfl ?_
  refine w_aload_n (pc' := 163) ⟨rfl, rfl⟩ rfl ?_
  refine w_aload_n (pc' := 164) ⟨rfl, rfl⟩ rfl ?_
  refine w_getI (pc' := 167) (cl := 5) (q := 0) ⟨rfl, rfl⟩ ⟨rfl, by decide⟩ hR y0 ?_
  refine w_cv2 (pc' := 170) ⟨rfl, rfl⟩ (by decide) (hQ.o hF) (Nat.le_of_ble_eq_true rfl) (Nat.le_of_ble_eq_true rfl) (c_hasF2 hF hQ hT hn2 (g := f) hf ?_)
  refine w_ifF_eq (pc' := 173) ⟨rfl, rfl⟩ (by decide) ?_
  refine w_aload_n (pc' := 174) ⟨rfl, rfl⟩ rfl ?_
  refine w_getI (pc' := 177) (cl := 5) (q := 4) ⟨rfl, rfl⟩ ⟨rfl, by decide⟩ hR y4 ?_
  refine w_aload_n (pc' := 178) ⟨rfl, rfl⟩ rfl ?_
  refine w_getR (pc' := 181) (cl := 6) (q := 1) ⟨rfl, rfl⟩ ⟨rfl, by decide⟩ (hQ.o hF) (hQ.p hF).2.1 ?_
  refine w_aload_n (pc' := 182) ⟨rfl, rfl⟩ rfl ?_
  refine w_getI (pc' := 185) (cl := 5) (q := 0) ⟨rfl, rfl⟩ ⟨rfl, by decide⟩ hR y0 ?_
  refine w_iald (pc' := 186) ⟨rfl, rfl⟩ (hQ.a hF).2.1 (zixZ (by omega)) (hT.2.2.2 f hf).2.1 ?_
  refine w_cs2 (pc' := 189) ⟨rfl, rfl⟩ (by decide) (Nat.le_of_ble_eq_true rfl) (Nat.le_of_ble_eq_true rfl) (c_goesInto (by omega) (by omega) (fun hg => ?_) (fun hg => ?_))
  · refine w_ifF_eq (pc' := 192) ⟨rfl, rfl⟩ (by decide) ?_
    refine w_ic (pc' := 193) ⟨rfl, rfl⟩ ?_
    refine w_goto (pc' := 196) (pcT := 197) ⟨rfl, rfl⟩ rfl ?_
    refine w_putZ (pc' := 200) (cl := 5) (q := 7) ⟨rfl, rfl⟩ ⟨rfl, by decide⟩ hR (by decide) ?_
    refine w_gI (fun v8 w8 e8 o8 => ?_)
    have m := m.trans w8
    have ho := fun k hk => (o8 k (by omega)).trans (ho k hk)
    have hF := m.fx hF0
    have hR := hR0.fm m
    have hS := hS0.fr m.q (by simp only [List.mem_cons, List.not_mem_nil, or_false, not_false_eq_true] <;> omega) (by simp only [List.mem_cons, List.not_mem_nil, or_false, not_false_eq_true] <;> omega) (by simp only [List.mem_cons, List.not_mem_nil, or_false, not_false_eq_true] <;> omega) (by simp only [List.mem_cons, List.not_mem_nil, or_false, not_false_eq_true] <;> omega) (by simp only [List.mem_cons, List.not_mem_nil, or_false, not_false_eq_true] <;> omega)
    have hT := hT0.fr m.q (by simp only [List.mem_cons, List.not_mem_nil, or_false, not_false_eq_true] <;> omega) (by simp only [List.mem_cons, List.not_mem_nil, or_false, not_false_eq_true] <;> omega) (by simp only [List.mem_cons, List.not_mem_nil, or_false, not_false_eq_true] <;> omega) (by simp only [List.mem_cons, List.not_mem_nil, or_false, not_false_eq_true] <;> omega) (by simp only [List.mem_cons, List.not_mem_nil, or_false, not_false_eq_true] <;> omega)
    have y0 : zI _ r 0 = iZ (f : Int) := (ho 0 (by omega)).trans h00
    refine w_aload_n (pc' := 201) ⟨rfl, rfl⟩ rfl ?_
    refine w_ic (pc' := 202) ⟨rfl, rfl⟩ ?_
    refine w_putI (pc' := 205) (cl := 5) (q := 6) ⟨rfl, rfl⟩ ⟨rfl, by decide⟩ hR ?_
    refine w_gI (fun v1 w1 e1 o1 => ?_)
    have m := m.trans w1
    have ho := fun k hk => (o1 k (by omega)).trans (ho k hk)
    have hF := m.fx hF0
    have hR := hR0.fm m
    have hS := hS0.fr m.q (by simp only [List.mem_cons, List.not_mem_nil, or_false, not_false_eq_true] <;> omega) (by simp only [List.mem_cons, List.not_mem_nil, or_false, not_false_eq_true] <;> omega) (by simp only [List.mem_cons, List.not_mem_nil, or_false, not_false_eq_true] <;> omega) (by simp only [List.mem_cons, List.not_mem_nil, or_false, not_false_eq_true] <;> omega) (by simp only [List.mem_cons, List.not_mem_nil, or_false, not_false_eq_true] <;> omega)
    have hT := hT0.fr m.q (by simp only [List.mem_cons, List.not_mem_nil, or_false, not_false_eq_true] <;> omega) (by simp only [List.mem_cons, List.not_mem_nil, or_false, not_false_eq_true] <;> omega) (by simp only [List.mem_cons, List.not_mem_nil, or_false, not_false_eq_true] <;> omega) (by simp only [List.mem_cons, List.not_mem_nil, or_false, not_false_eq_true] <;> omega) (by simp only [List.mem_cons, List.not_mem_nil, or_false, not_false_eq_true] <;> omega)
    have y0 : zI _ r 0 = iZ (f : Int) := (ho 0 (by omega)).trans h00
    refine w_ic (pc' := 206) ⟨rfl, rfl⟩ ?_
    refine w_istore (pc' := 208) ⟨rfl, rfl⟩ rfl ?_
    refine w_at (ls2 := [(0, .ref r), (1, .ref o), (2, .ref q), (3, .int fr), (4, .int (iZ ((0 : Nat) : Int)))]) ?_ (l_set2 hF0 hR0 hr hO hQ ho5 hq5 hS0 hT0 hn hn2 hK hK2 hf h00 n 0 _ (by omega) m ho k)
    exact ⟨rfl, rfl, rfl, rfl, rfl, trivial⟩
  · refine w_ifT_eq (pc' := 192) (pcT := 196) ⟨rfl, rfl⟩ rfl (by decide) ?_
    refine w_ic (pc' := 197) ⟨rfl, rfl⟩ ?_
    refine w_putZ (pc' := 200) (cl := 5) (q := 7) ⟨rfl, rfl⟩ ⟨rfl, by decide⟩ hR (by decide) ?_
    refine w_gI (fun v8 w8 e8 o8 => ?_)
    have m := m.trans w8
    have ho := fun k hk => (o8 k (by omega)).trans (ho k hk)
    have hF := m.fx hF0
    have hR := hR0.fm m
    have hS := hS0.fr m.q (by simp only [List.mem_cons, List.not_mem_nil, or_false, not_false_eq_true] <;> omega) (by simp only [List.mem_cons, List.not_mem_nil, or_false, not_false_eq_true] <;> omega) (by simp only [List.mem_cons, List.not_mem_nil, or_false, not_false_eq_true] <;> omega) (by simp only [List.mem_cons, List.not_mem_nil, or_false, not_false_eq_true] <;> omega) (by simp only [List.mem_cons, List.not_mem_nil, or_false, not_false_eq_true] <;> omega)
    have hT := hT0.fr m.q (by simp only [List.mem_cons, List.not_mem_nil, or_false, not_false_eq_true] <;> omega) (by simp only [List.mem_cons, List.not_mem_nil, or_false, not_false_eq_true] <;> omega) (by simp only [List.mem_cons, List.not_mem_nil, or_false, not_false_eq_true] <;> omega) (by simp only [List.mem_cons, List.not_mem_nil, or_false, not_false_eq_true] <;> omega) (by simp only [List.mem_cons, List.not_mem_nil, or_false, not_false_eq_true] <;> omega)
    have y0 : zI _ r 0 = iZ (f : Int) := (ho 0 (by omega)).trans h00
    refine w_aload_n (pc' := 201) ⟨rfl, rfl⟩ rfl ?_
    refine w_ic (pc' := 202) ⟨rfl, rfl⟩ ?_
    refine w_putI (pc' := 205) (cl := 5) (q := 6) ⟨rfl, rfl⟩ ⟨rfl, by decide⟩ hR ?_
    refine w_gI (fun v1 w1 e1 o1 => ?_)
    have m := m.trans w1
    have ho := fun k hk => (o1 k (by omega)).trans (ho k hk)
    have hF := m.fx hF0
    have hR := hR0.fm m
    have hS := hS0.fr m.q (by simp only [List.mem_cons, List.not_mem_nil, or_false, not_false_eq_true] <;> omega) (by simp only [List.mem_cons, List.not_mem_nil, or_false, not_false_eq_true] <;> omega) (by simp only [List.mem_cons, List.not_mem_nil, or_false, not_false_eq_true] <;> omega) (by simp only [List.mem_cons, List.not_mem_nil, or_false, not_false_eq_true] <;> omega) (by simp only [List.mem_cons, List.not_mem_nil, or_false, not_false_eq_true] <;> omega)
    have hT := hT0.fr m.q (by simp only [List.mem_cons, List.not_mem_nil, or_false, not_false_eq_true] <;> omega) (by simp only [List.mem_cons, List.not_mem_nil, or_false, not_false_eq_true] <;> omega) (by simp only [List.mem_cons, List.not_mem_nil, or_false, not_false_eq_true] <;> omega) (by simp only [List.mem_cons, List.not_mem_nil, or_false, not_false_eq_true] <;> omega) (by simp only [List.mem_cons, List.not_mem_nil, or_false, not_false_eq_true] <;> omega)
    have y0 : zI _ r 0 = iZ (f : Int) := (ho 0 (by omega)).trans h00
    refine w_ic (pc' := 206) ⟨rfl, rfl⟩ ?_
    refine w_istore (pc' := 208) ⟨rfl, rfl⟩ rfl ?_
    refine w_at (ls2 := [(0, .ref r), (1, .ref o), (2, .ref q), (3, .int fr), (4, .int (iZ ((0 : Nat) : Int)))]) ?_ (l_set2 hF0 hR0 hr hO hQ ho5 hq5 hS0 hT0 hn hn2 hK hK2 hf h00 n 0 _ (by omega) m ho k)
    exact ⟨rfl, rfl, rfl, rfl, rfl, trivial⟩
theorem l_setB {σ : zSt} (hF0 : zFx σ) {r : Nat} (hR0 : zO σ r 5) (hr : 25 ≤ r) {o q : Nat} (hO : zIsS o) (hQ : zIsS q) (ho5 : 5 ≤ o ∧ o + 4 < 25) (hq5 : 5 ≤ q ∧ q + 4 < 25) {nm nm2 : Int} {n n2 : Nat} {K C K2 C2 : Nat → Int} (hS0 : zShp σ o nm n K C) (hT0 : zShp σ q nm2 n2 K2 C2) (hn : n ≤ 6) (hn2 : n2 ≤ 6) (hK : ∀ f : Nat, f < n → (0 ≤ K f ∧ K f ≤ 8) ∧ 1 ≤ C f ∧ C f ≤ 4) (hK2 : ∀ f : Nat, f < n2 → (0 ≤ K2 f ∧ K2 f ≤ 8) ∧ 1 ≤ C2 f ∧ C2 f ≤ 4) {f : Nat} (hf : f < n2) (h00 : zI σ r 0 = iZ (f : Int)) {fr i4 : Int32} {Q : zSt → Option Value → Prop} {σ1 : zSt} (m : zFm [r] σ σ1) (ho : ∀ k, k < 4 → zI σ1 r k = zI σ r k) {md : Int} (y4 : zI σ1 r 4 = iZ md) (hmd : 0 ≤ md ∧ md ≤ 8) (k : (∀ σ2, zFm [r] σ σ2 → (∀ k, k < 4 → zI σ2 r k = zI σ r k) → Q σ2 none)) : zP zk_X7_settle 130 [(0, .ref r), (1, .ref o), (2, .ref q), (3, .int fr), (4, .int i4)] [] σ1 Q := by
  have hF := m.fx hF0
  have hR := hR0.fm m
  have hS := hS0.fr m.q (by simp only [List.mem_cons, List.not_mem_nil, or_false, not_false_eq_true] <;> omega) (by simp only [List.mem_cons, List.not_mem_nil, or_false, not_false_eq_true] <;> omega) (by simp only [List.mem_cons, List.not_mem_nil, or_false, not_false_eq_true] <;> omega) (by simp only [List.mem_cons, List.not_mem_nil, or_false, not_false_eq_true] <;> omega) (by simp only [List.mem_cons, List.not_mem_nil, or_false, not_false_eq_true] <;> omega)
  have hT := hT0.fr m.q (by simp only [List.mem_cons, List.not_mem_nil, or_false, not_false_eq_true] <;> omega) (by simp only [List.mem_cons, List.not_mem_nil, or_false, not_false_eq_true] <;> omega) (by simp only [List.mem_cons, List.not_mem_nil, or_false, not_false_eq_true] <;> omega) (by simp only [List.mem_cons, List.not_mem_nil, or_false, not_false_eq_true] <;> omega) (by simp only [List.mem_cons, List.not_mem_nil, or_false, not_false_eq_true] <;> omega)
  have y0 : zI _ r 0 = iZ (f : Int) := (ho 0 (by omega)).trans h00
  obtain ⟨g, y2, hg⟩ := iZ_ex (zI σ1 r 2)
  refine w_aload_n (pc' := 131) ⟨rfl, rfl⟩ rfl ?_
  refine w_getI (pc' := 134) (cl := 5) (q := 1) ⟨rfl, rfl⟩ ⟨rfl, by decide⟩ hR rfl ?_
  refine w_ifI_ne (pc' := 137) (pcT := 161) ⟨rfl, rfl⟩ rfl (fun h1 => ?_) (fun h1 => ?_)
  · exact l_setC hF0 hR0 hr hO hQ ho5 hq5 hS0 hT0 hn hn2 hK hK2 hf h00 m ho y4 (by omega) k
  · refine w_aload_n (pc' := 138) ⟨rfl, rfl⟩ rfl ?_
    refine w_aload_n (pc' := 139) ⟨rfl, rfl⟩ rfl ?_
    refine w_getI (pc' := 142) (cl := 5) (q := 2) ⟨rfl, rfl⟩ ⟨rfl, by decide⟩ hR y2 ?_
    refine w_cv2 (pc' := 145) ⟨rfl, rfl⟩ (by decide) (hO.o hF) (Nat.le_of_ble_eq_true rfl) (Nat.le_of_ble_eq_true rfl) (c_hasF3 hF hO hS hn hg (fun hgn => ?_) (fun hgn => ?_))
    · have hkg := hK g.toNat (by omega)
      refine w_ifF_eq (pc' := 148) ⟨rfl, rfl⟩ (by decide) ?_
      refine w_aload_n (pc' := 149) ⟨rfl, rfl⟩ rfl ?_
      refine w_aload_n (pc' := 150) ⟨rfl, rfl⟩ rfl ?_
      refine w_getR (pc' := 153) (cl := 6) (q := 1) ⟨rfl, rfl⟩ ⟨rfl, by decide⟩ (hO.o hF) (hO.p hF).2.1 ?_
      refine w_aload_n (pc' := 154) ⟨rfl, rfl⟩ rfl ?_
      refine w_getI (pc' := 157) (cl := 5) (q := 2) ⟨rfl, rfl⟩ ⟨rfl, by decide⟩ hR y2 ?_
      refine w_iald (pc' := 158) ⟨rfl, rfl⟩ (hO.a hF).2.1 (zixA (j := g.toNat) (by omega)) (hS.2.2.2 g.toNat (by omega)).2.1 ?_
      refine w_putI (pc' := 161) (cl := 5) (q := 4) ⟨rfl, rfl⟩ ⟨rfl, by decide⟩ hR ?_
      refine w_gI (fun v1 w1 e1 o1 => ?_)
      have m := m.trans w1
      have ho := fun k hk => (o1 k (by omega)).trans (ho k hk)
      have hF := m.fx hF0
      have hR := hR0.fm m
      have hS := hS0.fr m.q (by simp only [List.mem_cons, List.not_mem_nil, or_false, not_false_eq_true] <;> omega) (by simp only [List.mem_cons, List.not_mem_nil, or_false, not_false_eq_true] <;> omega) (by simp only [List.mem_cons, List.not_mem_nil, or_false, not_false_eq_true] <;> omega) (by simp only [List.mem_cons, List.not_mem_nil, or_false, not_false_eq_true] <;> omega) (by simp only [List.mem_cons, List.not_mem_nil, or_false, not_false_eq_true] <;> omega)
      have hT := hT0.fr m.q (by simp only [List.mem_cons, List.not_mem_nil, or_false, not_false_eq_true] <;> omega) (by simp only [List.mem_cons, List.not_mem_nil, or_false, not_false_eq_true] <;> omega) (by simp only [List.mem_cons, List.not_mem_nil, or_false, not_false_eq_true] <;> omega) (by simp only [List.mem_cons, List.not_mem_nil, or_false, not_false_eq_true] <;> omega) (by simp only [List.mem_cons, List.not_mem_nil, or_false, not_false_eq_true] <;> omega)
      have y0 : zI _ r 0 = iZ (f : Int) := (ho 0 (by omega)).trans h00
      have y4 := e1
      exact l_setC hF0 hR0 hr hO hQ ho5 hq5 hS0 hT0 hn hn2 hK hK2 hf h00 m ho y4 (by omega) k
    · refine w_ifT_eq (pc' := 148) (pcT := 161) ⟨rfl, rfl⟩ rfl (by decide) ?_
      exact l_setC hF0 hR0 hr hO hQ ho5 hq5 hS0 hT0 hn hn2 hK hK2 hf h00 m ho y4 (by omega) k
theorem l_set1 {σ : zSt} (hF0 : zFx σ) {r : Nat} (hR0 : zO σ r 5) (hr : 25 ≤ r) {o q : Nat} (hO : zIsS o) (hQ : zIsS q) (ho5 : 5 ≤ o ∧ o + 4 < 25) (hq5 : 5 ≤ q ∧ q + 4 < 25) {nm nm2 : Int} {n n2 : Nat} {K C K2 C2 : Nat → Int} (hS0 : zShp σ o nm n K C) (hT0 : zShp σ q nm2 n2 K2 C2) (hn : n ≤ 6) (hn2 : n2 ≤ 6) (hK : ∀ f : Nat, f < n → (0 ≤ K f ∧ K f ≤ 8) ∧ 1 ≤ C f ∧ C f ≤ 4) (hK2 : ∀ f : Nat, f < n2 → (0 ≤ K2 f ∧ K2 f ≤ 8) ∧ 1 ≤ C2 f ∧ C2 f ≤ 4) {f : Nat} (hf : f < n2) (h00 : zI σ r 0 = iZ (f : Int)) {fr : Int32} {Q : zSt → Option Value → Prop} : ∀ (j : Nat) (i : Nat) (ce md : Int) (σ1 : zSt), i + j = n → zFm [r] σ σ1 → (∀ k, k < 4 → zI σ1 r k = zI σ r k) → zI σ1 r 5 = iZ ce → (0 ≤ ce ∧ ce ≤ 4) → zI σ1 r 4 = iZ md → (0 ≤ md ∧ md ≤ 8) → (∀ σ2, zFm [r] σ σ2 → (∀ k, k < 4 → zI σ2 r k = zI σ r k) → Q σ2 none) → zP zk_X7_settle 53 [(0, .ref r), (1, .ref o), (2, .ref q), (3, .int fr), (4, .int (iZ (i : Int)))] [] σ1 Q := by
  intro j
  induction j with
  | zero =>
    intro i ce md σ1 hi m ho y5 hce y4 hmd k
    have hF := m.fx hF0
    have hR := hR0.fm m
    have hS := hS0.fr m.q (by simp only [List.mem_cons, List.not_mem_nil, or_false, not_false_eq_true] <;> omega) (by simp only [List.mem_cons, List.not_mem_nil, or_false, not_false_eq_true] <;> omega) (by simp only [List.mem_cons, List.not_mem_nil, or_false, not_false_eq_true] <;> omega) (by simp only [List.mem_cons, List.not_mem_nil, or_false, not_false_eq_true] <;> omega) (by simp only [List.mem_cons, List.not_mem_nil, or_false, not_false_eq_true] <;> omega)
    have hT := hT0.fr m.q (by simp only [List.mem_cons, List.not_mem_nil, or_false, not_false_eq_true] <;> omega) (by simp only [List.mem_cons, List.not_mem_nil, or_false, not_false_eq_true] <;> omega) (by simp only [List.mem_cons, List.not_mem_nil, or_false, not_false_eq_true] <;> omega) (by simp only [List.mem_cons, List.not_mem_nil, or_false, not_false_eq_true] <;> omega) (by simp only [List.mem_cons, List.not_mem_nil, or_false, not_false_eq_true] <;> omega)
    have y0 : zI _ r 0 = iZ (f : Int) := (ho 0 (by omega)).trans h00
    refine w_iload (pc' := 55) ⟨rfl, rfl⟩ rfl ?_
    refine w_aload_n (pc' := 56) ⟨rfl, rfl⟩ rfl ?_
    refine w_getI (pc' := 59) (cl := 6) (q := 5) ⟨rfl, rfl⟩ ⟨rfl, by decide⟩ (hO.o hF) hS.2.1 ?_
    refine w_icT_ge (pc' := 62) (pcT := 130) ⟨rfl, rfl⟩ rfl (by omega) ?_
    exact l_setB hF0 hR0 hr hO hQ ho5 hq5 hS0 hT0 hn hn2 hK hK2 hf h00 m ho y4 hmd k
  | succ j ih =>
    intro i ce md σ1 hi m ho y5 hce y4 hmd k
    have hF := m.fx hF0
    have hR := hR0.fm m
    have hS := hS0.fr m.q (by simp only [List.mem_cons, List.not_mem_nil, or_false, not_false_eq_true] <;> omega) (by simp only [List.mem_cons, List.not_mem_nil, or_false, not_false_eq_true] <;> omega) (by simp only [List.mem_cons, List.not_mem_nil, or_false, not_false_eq_true] <;> omega) (by simp only [List.mem_cons, List.not_mem_nil, or_false, not_false_eq_true] <;> omega) (by simp only [List.mem_cons, List.not_mem_nil, or_false, not_false_eq_true] <;> omega)
    have hT := hT0.fr m.q (by simp only [List.mem_cons, List.not_mem_nil, or_false, not_false_eq_true] <;> omega) (by simp only [List.mem_cons, List.not_mem_nil, or_false, not_false_eq_true] <;> omega) (by simp only [List.mem_cons, List.not_mem_nil, or_false, not_false_eq_true] <;> omega) (by simp only [List.mem_cons, List.not_mem_nil, or_false, not_false_eq_true] <;> omega) (by simp only [List.mem_cons, List.not_mem_nil, or_false, not_false_eq_true] <;> omega)
    have y0 : zI _ r 0 = iZ (f : Int) := (ho 0 (by omega)).trans h00
    have hk := hK i (by omega)
    refine w_iload (pc' := 55) ⟨rfl, rfl⟩ rfl ?_
    refine w_aload_n (pc' := 56) ⟨rfl, rfl⟩ rfl ?_
    refine w_getI (pc' := 59) (cl := 6) (q := 5) ⟨rfl, rfl⟩ ⟨rfl, by decide⟩ (hO.o hF) hS.2.1 ?_
    refine w_icF_ge (pc' := 62) ⟨rfl, rfl⟩ (by omega) ?_
    refine w_iload_n (pc' := 63) ⟨rfl, rfl⟩ rfl ?_
    refine w_iload (pc' := 65) ⟨rfl, rfl⟩ rfl ?_
    refine w_ishr (pc' := 66) ⟨rfl, rfl⟩ ?_
    refine w_ic (pc' := 67) ⟨rfl, rfl⟩ ?_
    refine w_iand (pc' := 68) ⟨rfl, rfl⟩ ?_
    refine w_ifI_eq (pc' := 71) (pcT := 124) ⟨rfl, rfl⟩ rfl (fun h1 => ?_) (fun h1 => ?_)
    · refine w_iincZ (pc' := 127) ⟨rfl, rfl⟩ rfl rfl ?_
      refine w_goto (pc' := 130) (pcT := 53) ⟨rfl, rfl⟩ rfl ?_
      refine w_at (ls2 := [(0, .ref r), (1, .ref o), (2, .ref q), (3, .int fr), (4, .int (iZ ((i + 1 : Nat) : Int)))]) ?_ (ih (i + 1) _ _ _ (by omega) m ho y5 (by omega) y4 (by omega) k)
      exact ⟨rfl, rfl, rfl, rfl, rfl, trivial⟩
    · refine w_aload_n (pc' := 72) ⟨rfl, rfl⟩ rfl ?_
      refine w_iload (pc' := 74) ⟨rfl, rfl⟩ rfl ?_
      refine w_cv2 (pc' := 77) ⟨rfl, rfl⟩ (by decide) (hO.o hF) (Nat.le_of_ble_eq_true rfl) (Nat.le_of_ble_eq_true rfl) (c_hasF2 hF hO hS hn (g := i) (by omega) ?_)
      refine w_ifF_eq (pc' := 80) ⟨rfl, rfl⟩ (by decide) ?_
      refine w_aload_n (pc' := 81) ⟨rfl, rfl⟩ rfl ?_
      refine w_aload_n (pc' := 82) ⟨rfl, rfl⟩ rfl ?_
      refine w_getI (pc' := 85) (cl := 5) (q := 5) ⟨rfl, rfl⟩ ⟨rfl, by decide⟩ hR y5 ?_
      refine w_aload_n (pc' := 86) ⟨rfl, rfl⟩ rfl ?_
      refine w_getR (pc' := 89) (cl := 6) (q := 2) ⟨rfl, rfl⟩ ⟨rfl, by decide⟩ (hO.o hF) (hO.p hF).2.2.1 ?_
      refine w_iload (pc' := 91) ⟨rfl, rfl⟩ rfl ?_
      refine w_iald (pc' := 92) ⟨rfl, rfl⟩ (hO.a hF).2.2.1 (zixZ (by omega)) (hS.2.2.2 i (by omega)).2.2.1 ?_
      refine w_cs2 (pc' := 95) ⟨rfl, rfl⟩ (by decide) (Nat.le_of_ble_eq_true rfl) (Nat.le_of_ble_eq_true rfl) (j_min (by omega) (by omega) ?_)
      refine w_putI (pc' := 98) (cl := 5) (q := 5) ⟨rfl, rfl⟩ ⟨rfl, by decide⟩ hR ?_
      refine w_gI (fun v1 w1 e1 o1 => ?_)
      have m := m.trans w1
      have ho := fun k hk => (o1 k (by omega)).trans (ho k hk)
      have hF := m.fx hF0
      have hR := hR0.fm m
      have hS := hS0.fr m.q (by simp only [List.mem_cons, List.not_mem_nil, or_false, not_false_eq_true] <;> omega) (by simp only [List.mem_cons, List.not_mem_nil, or_false, not_false_eq_true] <;> omega) (by simp only [List.mem_cons, List.not_mem_nil, or_false, not_false_eq_true] <;> omega) (by simp only [List.mem_cons, List.not_mem_nil, or_false, not_false_eq_true] <;> omega) (by simp only [List.mem_cons, List.not_mem_nil, or_false, not_false_eq_true] <;> omega)
      have hT := hT0.fr m.q (by simp only [List.mem_cons, List.not_mem_nil, or_false, not_false_eq_true] <;> omega) (by simp only [List.mem_cons, List.not_mem_nil, or_false, not_false_eq_true] <;> omega) (by simp only [List.mem_cons, List.not_mem_nil, or_false, not_false_eq_true] <;> omega) (by simp only [List.mem_cons, List.not_mem_nil, or_false, not_false_eq_true] <;> omega) (by simp only [List.mem_cons, List.not_mem_nil, or_false, not_false_eq_true] <;> omega)
      have y0 : zI _ r 0 = iZ (f : Int) := (ho 0 (by omega)).trans h00
      have y4 := (o1 4 (by decide)).trans y4
      have y5 := e1
      refine w_aload_n (pc' := 99) ⟨rfl, rfl⟩ rfl ?_
      refine w_aload_n (pc' := 100) ⟨rfl, rfl⟩ rfl ?_
      refine w_getR (pc' := 103) (cl := 6) (q := 1) ⟨rfl, rfl⟩ ⟨rfl, by decide⟩ (hO.o hF) (hO.p hF).2.1 ?_
      refine w_iload (pc' := 105) ⟨rfl, rfl⟩ rfl ?_
      refine w_iald (pc' := 106) ⟨rfl, rfl⟩ (hO.a hF).2.1 (zixZ (by omega)) (hS.2.2.2 i (by omega)).2.1 ?_
      refine w_cs1 (pc' := 109) ⟨rfl, rfl⟩ (by decide) (Nat.le_of_ble_eq_true rfl) (Nat.le_of_ble_eq_true rfl) (c_isReal (by omega) (fun hg => ?_) (fun hg => ?_))
      · refine w_ifF_eq (pc' := 112) ⟨rfl, rfl⟩ (by decide) ?_
        refine w_bi (pc' := 114) ⟨rfl, rfl⟩ (by decide) ?_
        refine w_goto (pc' := 117) (pcT := 121) ⟨rfl, rfl⟩ rfl ?_
        refine w_putI (pc' := 124) (cl := 5) (q := 4) ⟨rfl, rfl⟩ ⟨rfl, by decide⟩ hR ?_
        refine w_gI (fun v2 w2 e2 o2 => ?_)
        have m := m.trans w2
        have ho := fun k hk => (o2 k (by omega)).trans (ho k hk)
        have hF := m.fx hF0
        have hR := hR0.fm m
        have hS := hS0.fr m.q (by simp only [List.mem_cons, List.not_mem_nil, or_false, not_false_eq_true] <;> omega) (by simp only [List.mem_cons, List.not_mem_nil, or_false, not_false_eq_true] <;> omega) (by simp only [List.mem_cons, List.not_mem_nil, or_false, not_false_eq_true] <;> omega) (by simp only [List.mem_cons, List.not_mem_nil, or_false, not_false_eq_true] <;> omega) (by simp only [List.mem_cons, List.not_mem_nil, or_false, not_false_eq_true] <;> omega)
        have hT := hT0.fr m.q (by simp only [List.mem_cons, List.not_mem_nil, or_false, not_false_eq_true] <;> omega) (by simp only [List.mem_cons, List.not_mem_nil, or_false, not_false_eq_true] <;> omega) (by simp only [List.mem_cons, List.not_mem_nil, or_false, not_false_eq_true] <;> omega) (by simp only [List.mem_cons, List.not_mem_nil, or_false, not_false_eq_true] <;> omega) (by simp only [List.mem_cons, List.not_mem_nil, or_false, not_false_eq_true] <;> omega)
        have y0 : zI _ r 0 = iZ (f : Int) := (ho 0 (by omega)).trans h00
        have y4 := e2
        have y5 := (o2 5 (by decide)).trans y5
        refine w_iincZ (pc' := 127) ⟨rfl, rfl⟩ rfl rfl ?_
        refine w_goto (pc' := 130) (pcT := 53) ⟨rfl, rfl⟩ rfl ?_
        refine w_at (ls2 := [(0, .ref r), (1, .ref o), (2, .ref q), (3, .int fr), (4, .int (iZ ((i + 1 : Nat) : Int)))]) ?_ (ih (i + 1) _ _ _ (by omega) m ho y5 (by omega) y4 (by omega) k)
        exact ⟨rfl, rfl, rfl, rfl, rfl, trivial⟩
      · refine w_ifT_eq (pc' := 112) (pcT := 117) ⟨rfl, rfl⟩ rfl (by decide) ?_
        refine w_aload_n (pc' := 118) ⟨rfl, rfl⟩ rfl ?_
        refine w_getI (pc' := 121) (cl := 5) (q := 4) ⟨rfl, rfl⟩ ⟨rfl, by decide⟩ hR y4 ?_
        refine w_putI (pc' := 124) (cl := 5) (q := 4) ⟨rfl, rfl⟩ ⟨rfl, by decide⟩ hR ?_
        refine w_gI (fun v3 w3 e3 o3 => ?_)
        have m := m.trans w3
        have ho := fun k hk => (o3 k (by omega)).trans (ho k hk)
        have hF := m.fx hF0
        have hR := hR0.fm m
        have hS := hS0.fr m.q (by simp only [List.mem_cons, List.not_mem_nil, or_false, not_false_eq_true] <;> omega) (by simp only [List.mem_cons, List.not_mem_nil, or_false, not_false_eq_true] <;> omega) (by simp only [List.mem_cons, List.not_mem_nil, or_false, not_false_eq_true] <;> omega) (by simp only [List.mem_cons, List.not_mem_nil, or_false, not_false_eq_true] <;> omega) (by simp only [List.mem_cons, List.not_mem_nil, or_false, not_false_eq_true] <;> omega)
        have hT := hT0.fr m.q (by simp only [List.mem_cons, List.not_mem_nil, or_false, not_false_eq_true] <;> omega) (by simp only [List.mem_cons, List.not_mem_nil, or_false, not_false_eq_true] <;> omega) (by simp only [List.mem_cons, List.not_mem_nil, or_false, not_false_eq_true] <;> omega) (by simp only [List.mem_cons, List.not_mem_nil, or_false, not_false_eq_true] <;> omega) (by simp only [List.mem_cons, List.not_mem_nil, or_false, not_false_eq_true] <;> omega)
        have y0 : zI _ r 0 = iZ (f : Int) := (ho 0 (by omega)).trans h00
        have y4 := e3
        have y5 := (o3 5 (by decide)).trans y5
        refine w_iincZ (pc' := 127) ⟨rfl, rfl⟩ rfl rfl ?_
        refine w_goto (pc' := 130) (pcT := 53) ⟨rfl, rfl⟩ rfl ?_
        refine w_at (ls2 := [(0, .ref r), (1, .ref o), (2, .ref q), (3, .int fr), (4, .int (iZ ((i + 1 : Nat) : Int)))]) ?_ (ih (i + 1) _ _ _ (by omega) m ho y5 (by omega) y4 (by omega) k)
        exact ⟨rfl, rfl, rfl, rfl, rfl, trivial⟩
theorem c_frd {σ : zSt} {r : Nat} (hR : zO σ r 5) {Q : zSt → Option Value → Prop} (k : ∀ v : Int32, Q σ (some (.int v))) : zCa 69 [.ref r] σ Q := by
  refine w_enter (c := zk_X7_fieldsRead) (ls2 := [(0, .ref r)]) rfl ⟨rfl, trivial⟩ ?_
  refine w_aload_n (pc' := 1) ⟨rfl, rfl⟩ rfl ?_
  refine w_getI (pc' := 4) (cl := 5) (q := 1) ⟨rfl, rfl⟩ ⟨rfl, by decide⟩ hR rfl ?_
  refine w_ic (pc' := 5) ⟨rfl, rfl⟩ ?_
  refine w_icI_ne (pc' := 8) (pcT := 10) ⟨rfl, rfl⟩ rfl (fun h1 => ?_) (fun h1 => ?_)
  · refine w_aload_n (pc' := 11) ⟨rfl, rfl⟩ rfl ?_
    refine w_getI (pc' := 14) (cl := 5) (q := 1) ⟨rfl, rfl⟩ ⟨rfl, by decide⟩ hR rfl ?_
    refine w_ic (pc' := 15) ⟨rfl, rfl⟩ ?_
    refine w_icI_ne (pc' := 18) (pcT := 34) ⟨rfl, rfl⟩ rfl (fun h2 => ?_) (fun h2 => ?_)
    · refine w_ic (pc' := 35) ⟨rfl, rfl⟩ ?_
      refine w_aload_n (pc' := 36) ⟨rfl, rfl⟩ rfl ?_
      refine w_getI (pc' := 39) (cl := 5) (q := 2) ⟨rfl, rfl⟩ ⟨rfl, by decide⟩ hR rfl ?_
      refine w_ishl (pc' := 40) ⟨rfl, rfl⟩ ?_
      refine w_ireturn (pc' := 41) ⟨rfl, rfl⟩ (Or.inl rfl) ?_
      exact k _
    · refine w_ic (pc' := 19) ⟨rfl, rfl⟩ ?_
      refine w_aload_n (pc' := 20) ⟨rfl, rfl⟩ rfl ?_
      refine w_getI (pc' := 23) (cl := 5) (q := 2) ⟨rfl, rfl⟩ ⟨rfl, by decide⟩ hR rfl ?_
      refine w_ishl (pc' := 24) ⟨rfl, rfl⟩ ?_
      refine w_ic (pc' := 25) ⟨rfl, rfl⟩ ?_
      refine w_aload_n (pc' := 26) ⟨rfl, rfl⟩ rfl ?_
      refine w_getI (pc' := 29) (cl := 5) (q := 3) ⟨rfl, rfl⟩ ⟨rfl, by decide⟩ hR rfl ?_
      refine w_ishl (pc' := 30) ⟨rfl, rfl⟩ ?_
      refine w_ior (pc' := 31) ⟨rfl, rfl⟩ ?_
      refine w_goto (pc' := 34) (pcT := 40) ⟨rfl, rfl⟩ rfl ?_
      refine w_ireturn (pc' := 41) ⟨rfl, rfl⟩ (Or.inl rfl) ?_
      exact k _
  · refine w_ic (pc' := 9) ⟨rfl, rfl⟩ ?_
    refine w_ireturn (pc' := 10) ⟨rfl, rfl⟩ (Or.inl rfl) ?_
    exact k _
theorem c_settle {σ : zSt} (hF0 : zFx σ) {r : Nat} (hR0 : zO σ r 5) (hr : 25 ≤ r) {o q : Nat} (hO : zIsS o) (hQ : zIsS q) (ho5 : 5 ≤ o ∧ o + 4 < 25) (hq5 : 5 ≤ q ∧ q + 4 < 25) {nm nm2 : Int} {n n2 : Nat} {K C K2 C2 : Nat → Int} (hS0 : zShp σ o nm n K C) (hT0 : zShp σ q nm2 n2 K2 C2) (hn : n ≤ 6) (hn2 : n2 ≤ 6) (hK : ∀ f : Nat, f < n → (0 ≤ K f ∧ K f ≤ 8) ∧ 1 ≤ C f ∧ C f ≤ 4) (hK2 : ∀ f : Nat, f < n2 → (0 ≤ K2 f ∧ K2 f ≤ 8) ∧ 1 ≤ C2 f ∧ C2 f ≤ 4) {f : Nat} (hf : f < n2) (h00 : zI σ r 0 = iZ (f : Int)) {Q : zSt → Option Value → Prop} (k : (∀ σ2, zFm [r] σ σ2 → (∀ k, k < 4 → zI σ2 r k = zI σ r k) → Q σ2 none)) : zCa 68 [.ref r, .ref o, .ref q] σ Q := by
  refine w_enter (c := zk_X7_settle) (ls2 := [(0, .ref r), (1, .ref o), (2, .ref q)]) rfl ⟨rfl, rfl, rfl, trivial⟩ ?_
  have m : zFm [r] σ σ := zFm.refl
  have ho : ∀ k, k < 4 → zI σ r k = zI σ r k := fun _ _ => rfl
  have hk2 := hK2 f hf
  have hF := m.fx hF0
  have hR := hR0.fm m
  have hS := hS0.fr m.q (by simp only [List.mem_cons, List.not_mem_nil, or_false, not_false_eq_true] <;> omega) (by simp only [List.mem_cons, List.not_mem_nil, or_false, not_false_eq_true] <;> omega) (by simp only [List.mem_cons, List.not_mem_nil, or_false, not_false_eq_true] <;> omega) (by simp only [List.mem_cons, List.not_mem_nil, or_false, not_false_eq_true] <;> omega) (by simp only [List.mem_cons, List.not_mem_nil, or_false, not_false_eq_true] <;> omega)
  have hT := hT0.fr m.q (by simp only [List.mem_cons, List.not_mem_nil, or_false, not_false_eq_true] <;> omega) (by simp only [List.mem_cons, List.not_mem_nil, or_false, not_false_eq_true] <;> omega) (by simp only [List.mem_cons, List.not_mem_nil, or_false, not_false_eq_true] <;> omega) (by simp only [List.mem_cons, List.not_mem_nil, or_false, not_false_eq_true] <;> omega) (by simp only [List.mem_cons, List.not_mem_nil, or_false, not_false_eq_true] <;> omega)
  have y0 : zI _ r 0 = iZ (f : Int) := (ho 0 (by omega)).trans h00
  refine w_aload_n (pc' := 1) ⟨rfl, rfl⟩ rfl ?_
  refine w_cv1 (pc' := 4) ⟨rfl, rfl⟩ (by decide) hR (Nat.le_of_ble_eq_true rfl) (Nat.le_of_ble_eq_true rfl) (c_frd hR (fun fr => ?_))
  refine w_istore_n (pc' := 5) ⟨rfl, rfl⟩ rfl ?_
  refine w_aload_n (pc' := 6) ⟨rfl, rfl⟩ rfl ?_
  refine w_aload_n (pc' := 7) ⟨rfl, rfl⟩ rfl ?_
  refine w_aload_n (pc' := 8) ⟨rfl, rfl⟩ rfl ?_
  refine w_getI (pc' := 11) (cl := 5) (q := 0) ⟨rfl, rfl⟩ ⟨rfl, by decide⟩ hR y0 ?_
  refine w_cv2 (pc' := 14) ⟨rfl, rfl⟩ (by decide) (hQ.o hF) (Nat.le_of_ble_eq_true rfl) (Nat.le_of_ble_eq_true rfl) (c_hasF2 hF hQ hT hn2 (g := f) hf ?_)
  refine w_ifF_eq (pc' := 17) ⟨rfl, rfl⟩ (by decide) ?_
  refine w_aload_n (pc' := 18) ⟨rfl, rfl⟩ rfl ?_
  refine w_getR (pc' := 21) (cl := 6) (q := 2) ⟨rfl, rfl⟩ ⟨rfl, by decide⟩ (hQ.o hF) (hQ.p hF).2.2.1 ?_
  refine w_aload_n (pc' := 22) ⟨rfl, rfl⟩ rfl ?_
  refine w_getI (pc' := 25) (cl := 5) (q := 0) ⟨rfl, rfl⟩ ⟨rfl, by decide⟩ hR y0 ?_
  refine w_iald (pc' := 26) ⟨rfl, rfl⟩ (hQ.a hF).2.2.1 (zixZ (by omega)) (hT.2.2.2 f hf).2.2.1 ?_
  refine w_goto (pc' := 29) (pcT := 30) ⟨rfl, rfl⟩ rfl ?_
  refine w_putI (pc' := 33) (cl := 5) (q := 5) ⟨rfl, rfl⟩ ⟨rfl, by decide⟩ hR ?_
  refine w_gI (fun v1 w1 e1 o1 => ?_)
  have m := m.trans w1
  have ho := fun k hk => (o1 k (by omega)).trans (ho k hk)
  have hF := m.fx hF0
  have hR := hR0.fm m
  have hS := hS0.fr m.q (by simp only [List.mem_cons, List.not_mem_nil, or_false, not_false_eq_true] <;> omega) (by simp only [List.mem_cons, List.not_mem_nil, or_false, not_false_eq_true] <;> omega) (by simp only [List.mem_cons, List.not_mem_nil, or_false, not_false_eq_true] <;> omega) (by simp only [List.mem_cons, List.not_mem_nil, or_false, not_false_eq_true] <;> omega) (by simp only [List.mem_cons, List.not_mem_nil, or_false, not_false_eq_true] <;> omega)
  have hT := hT0.fr m.q (by simp only [List.mem_cons, List.not_mem_nil, or_false, not_false_eq_true] <;> omega) (by simp only [List.mem_cons, List.not_mem_nil, or_false, not_false_eq_true] <;> omega) (by simp only [List.mem_cons, List.not_mem_nil, or_false, not_false_eq_true] <;> omega) (by simp only [List.mem_cons, List.not_mem_nil, or_false, not_false_eq_true] <;> omega) (by simp only [List.mem_cons, List.not_mem_nil, or_false, not_false_eq_true] <;> omega)
  have y0 : zI _ r 0 = iZ (f : Int) := (ho 0 (by omega)).trans h00
  have y5 := e1
  refine w_aload_n (pc' := 34) ⟨rfl, rfl⟩ rfl ?_
  refine w_aload_n (pc' := 35) ⟨rfl, rfl⟩ rfl ?_
  refine w_getI (pc' := 38) (cl := 5) (q := 1) ⟨rfl, rfl⟩ ⟨rfl, by decide⟩ hR rfl ?_
  refine w_ic (pc' := 39) ⟨rfl, rfl⟩ ?_
  refine w_icI_ne (pc' := 42) (pcT := 46) ⟨rfl, rfl⟩ rfl (fun h1 => ?_) (fun h1 => ?_)
  · refine w_ic (pc' := 47) ⟨rfl, rfl⟩ ?_
    refine w_putI (pc' := 50) (cl := 5) (q := 4) ⟨rfl, rfl⟩ ⟨rfl, by decide⟩ hR ?_
    refine w_gI (fun v2 w2 e2 o2 => ?_)
    have m := m.trans w2
    have ho := fun k hk => (o2 k (by omega)).trans (ho k hk)
    have hF := m.fx hF0
    have hR := hR0.fm m
    have hS := hS0.fr m.q (by simp only [List.mem_cons, List.not_mem_nil, or_false, not_false_eq_true] <;> omega) (by simp only [List.mem_cons, List.not_mem_nil, or_false, not_false_eq_true] <;> omega) (by simp only [List.mem_cons, List.not_mem_nil, or_false, not_false_eq_true] <;> omega) (by simp only [List.mem_cons, List.not_mem_nil, or_false, not_false_eq_true] <;> omega) (by simp only [List.mem_cons, List.not_mem_nil, or_false, not_false_eq_true] <;> omega)
    have hT := hT0.fr m.q (by simp only [List.mem_cons, List.not_mem_nil, or_false, not_false_eq_true] <;> omega) (by simp only [List.mem_cons, List.not_mem_nil, or_false, not_false_eq_true] <;> omega) (by simp only [List.mem_cons, List.not_mem_nil, or_false, not_false_eq_true] <;> omega) (by simp only [List.mem_cons, List.not_mem_nil, or_false, not_false_eq_true] <;> omega) (by simp only [List.mem_cons, List.not_mem_nil, or_false, not_false_eq_true] <;> omega)
    have y0 : zI _ r 0 = iZ (f : Int) := (ho 0 (by omega)).trans h00
    have y4 := e2
    have y5 := (o2 5 (by decide)).trans y5
    refine w_ic (pc' := 51) ⟨rfl, rfl⟩ ?_
    refine w_istore (pc' := 53) ⟨rfl, rfl⟩ rfl ?_
    refine w_at (ls2 := [(0, .ref r), (1, .ref o), (2, .ref q), (3, .int fr), (4, .int (iZ ((0 : Nat) : Int)))]) ?_ (l_set1 hF0 hR0 hr hO hQ ho5 hq5 hS0 hT0 hn hn2 hK hK2 hf h00 n 0 _ _ _ (by omega) m ho y5 (by omega) y4 (by omega) k)
    exact ⟨rfl, rfl, rfl, rfl, rfl, trivial⟩
  · refine w_ic (pc' := 43) ⟨rfl, rfl⟩ ?_
    refine w_goto (pc' := 46) (pcT := 47) ⟨rfl, rfl⟩ rfl ?_
    refine w_putI (pc' := 50) (cl := 5) (q := 4) ⟨rfl, rfl⟩ ⟨rfl, by decide⟩ hR ?_
    refine w_gI (fun v3 w3 e3 o3 => ?_)
    have m := m.trans w3
    have ho := fun k hk => (o3 k (by omega)).trans (ho k hk)
    have hF := m.fx hF0
    have hR := hR0.fm m
    have hS := hS0.fr m.q (by simp only [List.mem_cons, List.not_mem_nil, or_false, not_false_eq_true] <;> omega) (by simp only [List.mem_cons, List.not_mem_nil, or_false, not_false_eq_true] <;> omega) (by simp only [List.mem_cons, List.not_mem_nil, or_false, not_false_eq_true] <;> omega) (by simp only [List.mem_cons, List.not_mem_nil, or_false, not_false_eq_true] <;> omega) (by simp only [List.mem_cons, List.not_mem_nil, or_false, not_false_eq_true] <;> omega)
    have hT := hT0.fr m.q (by simp only [List.mem_cons, List.not_mem_nil, or_false, not_false_eq_true] <;> omega) (by simp only [List.mem_cons, List.not_mem_nil, or_false, not_false_eq_true] <;> omega) (by simp only [List.mem_cons, List.not_mem_nil, or_false, not_false_eq_true] <;> omega) (by simp only [List.mem_cons, List.not_mem_nil, or_false, not_false_eq_true] <;> omega) (by simp only [List.mem_cons, List.not_mem_nil, or_false, not_false_eq_true] <;> omega)
    have y0 : zI _ r 0 = iZ (f : Int) := (ho 0 (by omega)).trans h00
    have y4 := e3
    have y5 := (o3 5 (by decide)).trans y5
    refine w_ic (pc' := 51) ⟨rfl, rfl⟩ ?_
    refine w_istore (pc' := 53) ⟨rfl, rfl⟩ rfl ?_
    refine w_at (ls2 := [(0, .ref r), (1, .ref o), (2, .ref q), (3, .int fr), (4, .int (iZ ((0 : Nat) : Int)))]) ?_ (l_set1 hF0 hR0 hr hO hQ ho5 hq5 hS0 hT0 hn hn2 hK hK2 hf h00 n 0 _ _ _ (by omega) m ho y5 (by omega) y4 (by omega) k)
    exact ⟨rfl, rfl, rfl, rfl, rfl, trivial⟩
