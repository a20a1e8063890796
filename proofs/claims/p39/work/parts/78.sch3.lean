/-! THE READER: a scheme read -/
/-- the schemes that stand: a of them, X their numbers -/
def zCm (σ : zSt) (a : Nat) (X : Nat → Int) : Prop := ∀ s : Nat, s < a → zShp σ (5 + 3 + 5 * s) (zsN s) (zmy (X s)).toNat (zKx (X s)) (zCx (X s))
theorem zTs1 : zTs 1 = zow2 9 ++ [32, 115] := by decide
theorem zTs2 : zTs 2 = [32] := by decide
theorem zTs15 : zTs 15 = [59] := by decide
theorem rd_scheme {σ0 σ : zSt} {l : List Int} (h0 : zBas σ0 l) {p : Nat} (h : zAs σ0 σ p 0) {a : Nat} (ha : a < 3) {X : Nat → Int} (hC : zCm σ a X) (h52 : zI σ 5 2 = iZ (a : Int)) (h53 : zI σ 5 3 = iZ 0) {pre r : List Int} (hl : l = pre ++ (zScT (a : Int) (X a) ++ r)) (hp : pre.length = p) {Q : zSt → Option Value → Prop} (k : ∀ σ2, zAs σ0 σ2 (p + (zScT (a : Int) (X a)).length) 0 → zI σ2 5 2 = iZ (((a + 1 : Nat)) : Int) → zI σ2 5 3 = iZ 0 → zCm σ2 (a + 1) X → zGo σ2 (p + (zScT (a : Int) (X a)).length) Q) : zGo σ p Q := by
  have hmy : zmy (X a) = 2 + X a % 4 := rfl
  obtain ⟨m, hm⟩ : ∃ m : Nat, (zmy (X a)).toNat = m + 1 := ⟨(zmy (X a)).toNat - 1, by omega⟩
  have hl1 : zScT (a : Int) (X a) = zow2 9 ++ ([32] ++ (zsn a ++ ([32] ++ (zsB (X a) 0 ++ (zsL (X a) m (0 + 1) ++ [59]))))) := by
    unfold zScT
    rw [hm, zsL, zsF_0, zTs1, zTs2, zTs15]
    simp only [zsn, List.append_assoc, List.cons_append, List.nil_append]
  have hlen : (zScT (a : Int) (X a)).length = 6 + (3 + (1 + ((zsB (X a) 0).length + ((zsL (X a) m (0 + 1)).length + 1)))) := by
    rw [hl1]
    have e1 : (zow2 9).length = 6 := rfl
    have e2 : (zsn a).length = 2 := rfl
    simp only [List.length_append, List.length_singleton, e1, e2]
    omega
  have hnm : ∀ s : Nat, s < a → zI σ (5 + 3 + 5 * s) 4 = iZ (zsN s) := fun s hs => (hC s hs).1
  have hO := (zB5.s h0.1 ha).2
  have hla : l = pre ++ (zow2 9 ++ ([32] ++ (zsn a ++ ([32] ++ (zsB (X a) 0 ++ (zsL (X a) m (0 + 1) ++ (59 :: r))))))) := by
    rw [hl, hl1]; simp only [List.append_assoc, List.cons_append, List.nil_append]
  refine r_st h0 h hla hp (zStp_c (Or.inl rfl)) ha h52 h53 (fun σ1 f1 A1 => ?_)
  have e9 : (zow2 9).length = 6 := rfl
  have hlb : l = (pre ++ zow2 9) ++ ([32] ++ (zsn a ++ ([32] ++ (zsB (X a) 0 ++ (zsL (X a) m (0 + 1) ++ (59 :: r)))))) := by
    rw [hla]; simp only [List.append_assoc]
  refine r_nm h0 A1 ha hlb (by rw [List.length_append, e9, hp]) (zStp_c (Or.inl rfl)) (f1.i h52 (by simp only [List.mem_cons, List.not_mem_nil, or_false, not_false_eq_true] <;> omega)) (f1.i h53 (by simp only [List.mem_cons, List.not_mem_nil, or_false, not_false_eq_true] <;> omega)) (fun s hs => f1.i (hnm s hs) (by simp only [List.mem_cons, List.not_mem_nil, or_false, not_false_eq_true] <;> omega)) (fun σ2 f2 A2 r2 e52 e53 sh => ?_)
  have en : (zsn a).length = 2 := rfl
  have hlc : l = (pre ++ (zow2 9 ++ ([32] ++ zsn a))) ++ ([32] ++ (zsB (X a) 0 ++ (zsL (X a) m (0 + 1) ++ (59 :: r)))) := by
    rw [hla]; simp only [List.append_assoc]
  refine rd_fields h0 hO (by omega) (q := p + (zScT (a : Int) (X a)).length) m 0 (p + 6 + 3) _ [32] σ2 (by omega) A2 hlc (by simp only [List.length_append, List.length_singleton, e9, en]; omega) (Or.inr rfl) r2 (sh _ _) (by rw [hlen, List.length_singleton]; omega) (fun σ3 f3 A3 s3 => ?_)
  refine k σ3 A3 (f3.i e52 (by simp only [List.mem_cons, List.not_mem_nil, or_false, not_false_eq_true] <;> omega)) (f3.i e53 (by simp only [List.mem_cons, List.not_mem_nil, or_false, not_false_eq_true] <;> omega)) (fun s hs => ?_)
  rcases (show s < a ∨ s = a by omega) with h1 | rfl
  · exact (((hC s h1).fr f1.q (by simp only [List.mem_cons, List.not_mem_nil, or_false, not_false_eq_true] <;> omega) (by simp only [List.mem_cons, List.not_mem_nil, or_false, not_false_eq_true] <;> omega) (by simp only [List.mem_cons, List.not_mem_nil, or_false, not_false_eq_true] <;> omega) (by simp only [List.mem_cons, List.not_mem_nil, or_false, not_false_eq_true] <;> omega) (by simp only [List.mem_cons, List.not_mem_nil, or_false, not_false_eq_true] <;> omega)).fr f2 (by simp only [List.mem_cons, List.not_mem_nil, or_false, not_false_eq_true] <;> omega) (by simp only [List.mem_cons, List.not_mem_nil, or_false, not_false_eq_true] <;> omega) (by simp only [List.mem_cons, List.not_mem_nil, or_false, not_false_eq_true] <;> omega) (by simp only [List.mem_cons, List.not_mem_nil, or_false, not_false_eq_true] <;> omega) (by simp only [List.mem_cons, List.not_mem_nil, or_false, not_false_eq_true] <;> omega)).fr f3 (by simp only [List.mem_cons, List.not_mem_nil, or_false, not_false_eq_true] <;> omega) (by simp only [List.mem_cons, List.not_mem_nil, or_false, not_false_eq_true] <;> omega) (by simp only [List.mem_cons, List.not_mem_nil, or_false, not_false_eq_true] <;> omega) (by simp only [List.mem_cons, List.not_mem_nil, or_false, not_false_eq_true] <;> omega) (by simp only [List.mem_cons, List.not_mem_nil, or_false, not_false_eq_true] <;> omega)
  · rw [hm, show m + 1 = 0 + m + 1 by omega]; exact s3
