/-! THE READER: a scheme, a field -/
theorem r_st {σ0 σ : zSt} {l : List Int} (h0 : zBas σ0 l) {p : Nat} (h : zAs σ0 σ p 0) {pre r : List Int} (hl : l = pre ++ (zow2 9 ++ r)) (hp : pre.length = p) (hr : zStp r) {a : Nat} (ha : a < 3) (h52 : zI σ 5 2 = iZ (a : Int)) (h53 : zI σ 5 3 = iZ 0) {Q : zSt → Option Value → Prop} (k : ∀ σ2, zFm [1] σ σ2 → zAs σ0 σ2 (p + 6) 1 → zGo σ2 (p + 6) Q) : zGo σ p Q := by
  have w := zow2_ok (j := 9) (by decide)
  refine s_wordS h0 h (by decide) (bl := []) hl hp (Or.inl rfl) w.1 w.2.1 hr rfl w.2.2 (fun σ1 f1 B1 m1 t1 h3 o1 => ?_)
  exact t_tStS B1.1 B1.2.2.2 t1 ha (m1.i h52 (by simp only [List.mem_cons, List.not_mem_nil, or_false, not_false_eq_true] <;> omega)) (m1.i h53 (by simp only [List.mem_cons, List.not_mem_nil, or_false, not_false_eq_true] <;> omega)) h3 (fun σ2 h2 => ⟨rfl, p + 6, by simp, k σ2 (m1.trans h2.1) ⟨f1.trans h2.1.wp, h2.2.1, h2.2.2.1⟩⟩)
theorem r_nm {σ0 σ : zSt} {l : List Int} (h0 : zBas σ0 l) {p : Nat} (h : zAs σ0 σ p 1) {pre r : List Int} {a : Nat} (ha : a < 3) (hl : l = pre ++ ([32] ++ (zsn a ++ r))) (hp : pre.length = p) (hr : zStp r) (h52 : zI σ 5 2 = iZ (a : Int)) {b : Int32} (h53 : zI σ 5 3 = b) (hnm : ∀ s : Nat, s < a → zI σ (5 + 3 + 5 * s) 4 = iZ (zsN s)) {Q : zSt → Option Value → Prop} (k : ∀ σ2, zFk [1, 5, 5 + 3 + 5 * a] σ σ2 → zAs σ0 σ2 (p + 3) 2 → zR σ2 1 10 = some (5 + 3 + 5 * a) → zI σ2 5 2 = iZ ((a : Int) + 1) → zI σ2 5 3 = b → (∀ K C, zShp σ2 (5 + 3 + 5 * a) (zsN a) 0 K C) → zGo σ2 (p + 3) Q) : zGo σ p Q := by
  have w := zsn_ok (f := a) (by omega)
  have hlen : (zsn a).length = 2 := rfl
  refine s_wordS h0 h (by decide) hl hp (Or.inr rfl) w.1 ⟨by omega, by omega⟩ hr w.2.1 w.2.2 (fun σ1 f1 B1 m1 t1 h3 o1 => ?_)
  exact t_tNm B1.1 B1.2.2.2 t1 ha (m1.i h52 (by simp only [List.mem_cons, List.not_mem_nil, or_false, not_false_eq_true] <;> omega)) (m1.i h53 (by simp only [List.mem_cons, List.not_mem_nil, or_false, not_false_eq_true] <;> omega)) (fun s hs => m1.i (hnm s hs) (by simp only [List.mem_cons, List.not_mem_nil, or_false, not_false_eq_true] <;> omega)) h3 (fun σ2 f2 s2 a2 r2 e52 e53 sh => ⟨rfl, p + 3, by simp, k σ2 ((m1.q.mono (fun _ h => by simp only [List.mem_cons, List.not_mem_nil, or_false] at h ⊢ <;> omega)).trans f2) ⟨f1.trans (f2.mono (fun x hx => zWp_in (by simp only [List.mem_cons, List.not_mem_nil, or_false] at hx; omega))), s2, a2⟩ r2 e52 e53 sh⟩)
theorem zStp_c {c : Int} {r : List Int} (h : c = 32 ∨ c = 44 ∨ c = 59) : zStp (c :: r) := fun d hd => by
  have e : c = d := by simpa using hd
  subst e; exact h
theorem zShp.cg {σ : zSt} {o : Nat} {nm : Int} {n : Nat} {K K' C : Nat → Int} (h : zShp σ o nm n K C) (e : ∀ g, g < n → K' g = K g) : zShp σ o nm n K' C := ⟨h.1, h.2.1, h.2.2.1, fun f hf => by rw [e f hf]; exact h.2.2.2 f hf⟩
/-- a field: its kind, its name, perhaps its times; the sign behind it -/
theorem rd_field {σ0 σ : zSt} {l : List Int} (h0 : zBas σ0 l) {p : Nat} (h : zAs σ0 σ p 2) {pre bl tx r : List Int} {kd : Nat} (hk : kd < 9) {o : Nat} (hO : zIsS o) (hrr : zR σ 1 10 = some o) {nm : Int} {n : Nat} {K C : Nat → Int} (hS : zShp σ o nm n K C) (hn : n < 6) (ho : 5 ≤ o ∧ o < 50) {c : Int} (hl : l = pre ++ (bl ++ (zkw kd ++ ([32] ++ (zfn n ++ (tx ++ (c :: r))))))) (hp : pre.length = p) (hbl : bl = [] ∨ bl = [32]) (hc : c = 44 ∨ c = 59) {cv : Int} (htx : (tx = [] ∧ cv = 1) ∨ ((1 ≤ cv ∧ cv ≤ 4) ∧ tx = [32] ++ (zow2 10 ++ ([32] ++ [48 + cv])))) {q : Nat} (hq : q = p + bl.length + (zkw kd).length + 3 + tx.length + 1) {Q : zSt → Option Value → Prop} (k : ∀ σ2, zFk [1, o, o + 1, o + 2, o + 3, o + 4] σ σ2 → zAs σ0 σ2 q (if c = 44 then 2 else 0) → zR σ2 1 10 = some o → (∀ K' C' : Nat → Int, (∀ g, g < n → K' g = K g ∧ C' g = C g) → K' n = (kd : Int) → C' n = cv → zShp σ2 o nm (n + 1) K' C') → zGo σ2 q Q) : zGo σ p Q := by
  have hfl : (zfn (n : Int)).length = 2 := rfl
  refine r_kd h0 h hk hl hp hbl (zStp_c (Or.inl rfl)) hO hrr hS hn ho (fun σ1 f1 A1 k1 r1 => ?_)
  have hst : zStp (tx ++ (c :: r)) := by
    rcases htx with ⟨rfl, _⟩ | ⟨_, rfl⟩
    · exact zStp_c (Or.inr hc)
    · exact zStp_c (Or.inl rfl)
  have hl2 : l = (pre ++ (bl ++ zkw kd)) ++ ([32] ++ (zfn n ++ (tx ++ (c :: r)))) := by rw [hl]; simp only [List.append_assoc]
  have hp2 : (pre ++ (bl ++ zkw kd)).length = p + bl.length + (zkw kd).length := by simp only [List.length_append]; omega
  refine r_fn h0 A1 hl2 hp2 hst hO r1 (hS.f1 f1 ho.1) hn ho k1 (fun σ2 f2 A2 r2 s2 => ?_)
  have f12 : zFk [1, o, o + 1, o + 2, o + 3, o + 4] σ σ2 := (f1.mono (fun _ h => by simp only [List.mem_cons, List.not_mem_nil, or_false] at h ⊢ <;> omega)).trans f2
  rcases htx with ⟨rfl, rfl⟩ | ⟨hv, rfl⟩
  · have hl3 : l = (pre ++ (bl ++ (zkw kd ++ ([32] ++ zfn n)))) ++ (c :: r) := by rw [hl]; simp only [List.append_assoc, List.nil_append]
    have hp3 : (pre ++ (bl ++ (zkw kd ++ ([32] ++ zfn n)))).length = p + bl.length + (zkw kd).length + 3 := by simp only [List.length_append, hfl, List.length_singleton]; omega
    obtain rfl : q = p + bl.length + (zkw kd).length + 3 + 1 := hq
    rcases hc with rfl | rfl
    · exact r_sg4C h0 A2 hl3 hp3 (fun σ3 f3 A3 => k σ3 (f12.trans (f3.q.mono (fun _ h => by simp only [List.mem_cons, List.not_mem_nil, or_false] at h ⊢ <;> omega))) A3 (f3.r r2) (fun K' C' e1 e2 e3 => (s2 K' C' e1 e2 e3).f1 f3.q ho.1))
    · exact r_sg4S h0 A2 hl3 hp3 (fun σ3 f3 A3 => k σ3 (f12.trans (f3.q.mono (fun _ h => by simp only [List.mem_cons, List.not_mem_nil, or_false] at h ⊢ <;> omega))) A3 (f3.r r2) (fun K' C' e1 e2 e3 => (s2 K' C' e1 e2 e3).f1 f3.q ho.1))
  · have hw5 : (zow2 10).length = 5 := rfl
    have hl3 : l = (pre ++ (bl ++ (zkw kd ++ ([32] ++ zfn n)))) ++ ([32] ++ (zow2 10 ++ ([32] ++ ([48 + cv] ++ (c :: r))))) := by rw [hl]; simp only [List.append_assoc]
    have hp3 : (pre ++ (bl ++ (zkw kd ++ ([32] ++ zfn n)))).length = p + bl.length + (zkw kd).length + 3 := by simp only [List.length_append, hfl, List.length_singleton]; omega
    refine r_tm h0 A2 hl3 hp3 (zStp_c (Or.inl rfl)) (fun σ3 f3 A3 => ?_)
    have hl4 : l = (pre ++ (bl ++ (zkw kd ++ ([32] ++ (zfn n ++ ([32] ++ zow2 10)))))) ++ ([32] ++ ([48 + cv] ++ (c :: r))) := by rw [hl]; simp only [List.append_assoc]
    have hp4 : (pre ++ (bl ++ (zkw kd ++ ([32] ++ (zfn n ++ ([32] ++ zow2 10)))))).length = p + bl.length + (zkw kd).length + 3 + 6 := by simp only [List.length_append, hfl, hw5, List.length_singleton]; omega
    let K1 : Nat → Int := fun g => if g < n then K g else kd
    let C1 : Nat → Int := fun g => if g < n then C g else 1
    have hS3 : zShp σ3 o nm (n + 1) K1 C1 := (s2 K1 C1 (fun g hg => ⟨if_pos hg, if_pos hg⟩) (if_neg (by omega)) (if_neg (by omega))).f1 f3.q ho.1
    refine r_tn h0 A3 hv hl4 hp4 (zStp_c (Or.inr hc)) hO (f3.r r2) hS3 hn ho (fun σ4 f4 A4 r4 s4 => ?_)
    have hl5 : l = (pre ++ (bl ++ (zkw kd ++ ([32] ++ (zfn n ++ ([32] ++ (zow2 10 ++ ([32] ++ [48 + cv])))))))) ++ (c :: r) := by rw [hl]; simp only [List.append_assoc]
    have hp5 : (pre ++ (bl ++ (zkw kd ++ ([32] ++ (zfn n ++ ([32] ++ (zow2 10 ++ ([32] ++ [48 + cv])))))))).length = p + bl.length + (zkw kd).length + 3 + 6 + 2 := by simp only [List.length_append, hfl, hw5, List.length_singleton]; omega
    have hlt : ([32] ++ (zow2 10 ++ ([32] ++ [48 + cv]))).length = 8 := rfl
    obtain rfl : q = p + bl.length + (zkw kd).length + 3 + 6 + 2 + 1 := by omega
    have f14 : zFk [1, o, o + 1, o + 2, o + 3, o + 4] σ σ4 := (f12.trans (f3.q.mono (fun _ h => by simp only [List.mem_cons, List.not_mem_nil, or_false] at h ⊢ <;> omega))).trans (f4.mono (fun _ h => by simp only [List.mem_cons, List.not_mem_nil, or_false] at h ⊢ <;> omega))
    have hS4 : ∀ K' C' : Nat → Int, (∀ g, g < n → K' g = K g ∧ C' g = C g) → K' n = (kd : Int) → C' n = cv → zShp σ4 o nm (n + 1) K' C' := fun K' C' e1 e2 e3 => (s4 C' (fun g hg => (e1 g hg).2.trans (if_pos hg).symm) e3).cg (fun g hg => by
      rcases (show g < n ∨ g = n by omega) with h1 | rfl
      · exact (e1 g h1).1.trans (if_pos h1).symm
      · exact e2.trans (if_neg (by omega)).symm)
    rcases hc with rfl | rfl
    · exact r_sg6C h0 A4 hl5 hp5 (fun σ5 f5 A5 => k σ5 (f14.trans (f5.q.mono (fun _ h => by simp only [List.mem_cons, List.not_mem_nil, or_false] at h ⊢ <;> omega))) A5 (f5.r r4) (fun K' C' e1 e2 e3 => (hS4 K' C' e1 e2 e3).f1 f5.q ho.1))
    · exact r_sg6S h0 A4 hl5 hp5 (fun σ5 f5 A5 => k σ5 (f14.trans (f5.q.mono (fun _ h => by simp only [List.mem_cons, List.not_mem_nil, or_false] at h ⊢ <;> omega))) A5 (f5.r r4) (fun K' C' e1 e2 e3 => (hS4 K' C' e1 e2 e3).f1 f5.q ho.1))
