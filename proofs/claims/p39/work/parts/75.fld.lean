/-! THE READER: a scheme, token by token -/
theorem zShp.f1 {σ σ' : zSt} {o : Nat} {nm : Int} {n : Nat} {K C : Nat → Int} (h : zShp σ o nm n K C) (f : zFk [1] σ σ') (ho : 5 ≤ o) : zShp σ' o nm n K C := h.fr f (by simp only [List.mem_cons, List.not_mem_nil, or_false, not_false_eq_true] <;> omega) (by simp only [List.mem_cons, List.not_mem_nil, or_false, not_false_eq_true] <;> omega) (by simp only [List.mem_cons, List.not_mem_nil, or_false, not_false_eq_true] <;> omega) (by simp only [List.mem_cons, List.not_mem_nil, or_false, not_false_eq_true] <;> omega) (by simp only [List.mem_cons, List.not_mem_nil, or_false, not_false_eq_true] <;> omega)
/-- a kind's word -/
def zkw (k : Nat) : List Int := (zTs (zkj k)).dropLast
theorem zkw_ok {k : Nat} (h : k < 9) : (zTs (zkj k) = zkw k ++ [32] ∧ zLtr (zkw k)) ∧ (1 ≤ (zkw k).length ∧ (zkw k).length ≤ 6) ∧ zof (zpk (fun i => (zkw k).getD i 0) (zkw k).length) 17 = k := by
  have key : ∀ k : Nat, k < 9 → (zTs (zkj k) = zkw k ++ [32] ∧ ∀ i : Nat, i < (zkw k).length → 97 ≤ (zkw k).getD i 0 ∧ (zkw k).getD i 0 ≤ 122) ∧ (1 ≤ (zkw k).length ∧ (zkw k).length ≤ 6) ∧ zof (zpk (fun i => (zkw k).getD i 0) (zkw k).length) 17 = k := by decide +kernel
  exact key k h
theorem zfn_ok {f : Nat} (h : f < 6) : zLtr (zfn f) ∧ zpk (fun i => (zfn f).getD i 0) (zfn f).length = iZ (zfN f) ∧ zof (iZ (zfN f)) 17 = -1 := by
  have key : ∀ f : Nat, f < 6 → (∀ i : Nat, i < (zfn f).length → 97 ≤ (zfn f).getD i 0 ∧ (zfn f).getD i 0 ≤ 122) ∧ zpk (fun i => (zfn f).getD i 0) (zfn f).length = iZ (zfN f) ∧ zof (iZ (zfN f)) 17 = -1 := by decide +kernel
  exact key f h
/-- a scheme's name as text -/
def zsn (s : Nat) : List Int := [115, 97 + (s : Int)]
theorem zsn_ok {f : Nat} (h : f < 6) : zLtr (zsn f) ∧ zpk (fun i => (zsn f).getD i 0) (zsn f).length = iZ (zsN f) ∧ zof (iZ (zsN f)) 17 = -1 := by
  have key : ∀ f : Nat, f < 6 → (∀ i : Nat, i < (zsn f).length → 97 ≤ (zsn f).getD i 0 ∧ (zsn f).getD i 0 ≤ 122) ∧ zpk (fun i => (zsn f).getD i 0) (zsn f).length = iZ (zsN f) ∧ zof (iZ (zsN f)) 17 = -1 := by decide +kernel
  exact key f h
/-- the own words that aren't kinds -/
def zow2 (j : Nat) : List Int := [[115, 99, 104, 101, 109, 101], [116, 105, 109, 101, 115], [99, 114, 111, 115, 115], [116, 111], [102, 114, 111, 109], [98, 121], [111, 118, 101, 114], [112, 108, 117, 115]].getD (j - 9) []
theorem zow2_ok {j : Nat} (h : 9 ≤ j ∧ j < 17) : zLtr (zow2 j) ∧ (1 ≤ (zow2 j).length ∧ (zow2 j).length ≤ 6) ∧ zof (zpk (fun i => (zow2 j).getD i 0) (zow2 j).length) 17 = j := by
  have key : ∀ j : Nat, j < 17 → 9 ≤ j → (∀ i : Nat, i < (zow2 j).length → 97 ≤ (zow2 j).getD i 0 ∧ (zow2 j).getD i 0 ≤ 122) ∧ (1 ≤ (zow2 j).length ∧ (zow2 j).length ≤ 6) ∧ zof (zpk (fun i => (zow2 j).getD i 0) (zow2 j).length) 17 = j := by decide +kernel
  exact key j h.2 h.1
theorem r_kd {σ0 σ : zSt} {l : List Int} (h0 : zBas σ0 l) {p : Nat} (h : zAs σ0 σ p 2) {kd : Nat} (hk : kd < 9) {pre bl r : List Int} (hl : l = pre ++ (bl ++ (zkw kd ++ r))) (hp : pre.length = p) (hbl : bl = [] ∨ bl = [32]) (hr : zStp r) {o : Nat} (hO : zIsS o) (hrr : zR σ 1 10 = some o) {nm : Int} {n : Nat} {K C : Nat → Int} (hS : zShp σ o nm n K C) (hn : n < 6) (ho : 5 ≤ o ∧ o < 50) {Q : zSt → Option Value → Prop} (k : ∀ σ2, zFk [1] σ σ2 → zAs σ0 σ2 (p + bl.length + (zkw kd).length) 3 → zI σ2 1 11 = iZ (kd : Int) → zR σ2 1 10 = some o → zGo σ2 (p + bl.length + (zkw kd).length) Q) : zGo σ p Q := by
  have w := zkw_ok hk
  refine s_wordS h0 h (by decide) hl hp hbl w.1.2 w.2.1 hr rfl w.2.2 (fun σ1 f1 B1 m1 t1 h3 o1 => ?_)
  exact t_tKd B1.1 t1 (by have := w.2.1; omega) (d := (zkw kd).length) rfl (by omega) hO (m1.r hrr) (hS.f1 m1.q ho.1) hn h3 (fun σ2 m2 s2 a2 k2 => ⟨rfl, p + bl.length + (zkw kd).length, by have := w.2.1; omega, k σ2 (m1.trans m2).q ⟨f1.trans m2.wp, s2, a2⟩ k2 (m2.r (m1.r hrr))⟩)
theorem r_fn {σ0 σ : zSt} {l : List Int} (h0 : zBas σ0 l) {p : Nat} (h : zAs σ0 σ p 3) {n : Nat} {pre r : List Int} (hl : l = pre ++ ([32] ++ (zfn n ++ r))) (hp : pre.length = p) (hr : zStp r) {o : Nat} (hO : zIsS o) (hrr : zR σ 1 10 = some o) {nm : Int} {K C : Nat → Int} (hS : zShp σ o nm n K C) (hn : n < 6) (ho : 5 ≤ o ∧ o < 50) {kd : Int} (h11 : zI σ 1 11 = iZ kd) {Q : zSt → Option Value → Prop} (k : ∀ σ2, zFk [1, o, o + 1, o + 2, o + 3, o + 4] σ σ2 → zAs σ0 σ2 (p + 3) 4 → zR σ2 1 10 = some o → (∀ K' C' : Nat → Int, (∀ g, g < n → K' g = K g ∧ C' g = C g) → K' n = kd → C' n = 1 → zShp σ2 o nm (n + 1) K' C') → zGo σ2 (p + 3) Q) : zGo σ p Q := by
  have w := zfn_ok hn
  refine s_wordS h0 h (by decide) hl hp (Or.inr rfl) w.1 ⟨by rw [zfn_len]; decide, by rw [zfn_len]; decide⟩ hr w.2.1 w.2.2 (fun σ1 f1 B1 m1 t1 h3 o1 => ?_)
  refine t_tFn B1.1 hO (m1.r hrr) (hS.f1 m1.q ho.1) hn t1 ((o1 11 (by omega)).trans h11) ho.1 h3 (fun σ2 m2 s2 a2 k2 => ⟨rfl, p + 3, by simp, k σ2 ((m1.q.mono (fun _ h => by simp only [List.mem_cons, List.not_mem_nil, or_false] at h ⊢ <;> omega)).trans m2.q) ⟨f1.trans (m2.q.mono (fun x hx => zWp_in (by simp only [List.mem_cons, List.not_mem_nil, or_false] at hx; omega))), s2, a2⟩ (m2.r (m1.r hrr)) k2⟩)
theorem r_tm {σ0 σ : zSt} {l : List Int} (h0 : zBas σ0 l) {p : Nat} (h : zAs σ0 σ p 4) {pre r : List Int} (hl : l = pre ++ ([32] ++ (zow2 10 ++ r))) (hp : pre.length = p) (hr : zStp r) {Q : zSt → Option Value → Prop} (k : ∀ σ2, zFm [1] σ σ2 → zAs σ0 σ2 (p + 6) 5 → zGo σ2 (p + 6) Q) : zGo σ p Q := by
  have w := zow2_ok (j := 10) (by decide)
  refine s_wordS h0 h (by decide) hl hp (Or.inr rfl) w.1 w.2.1 hr rfl w.2.2 (fun σ1 f1 B1 m1 t1 h3 o1 => ?_)
  exact t_tTm B1.1 t1 h3 (fun σ2 h2 => ⟨rfl, p + 6, by simp, k σ2 (m1.trans h2.1) ⟨f1.trans h2.1.wp, h2.2.1, h2.2.2.1⟩⟩)
theorem r_tn {σ0 σ : zSt} {l : List Int} (h0 : zBas σ0 l) {p : Nat} (h : zAs σ0 σ p 5) {v : Int} (hv : 1 ≤ v ∧ v ≤ 4) {pre r : List Int} (hl : l = pre ++ ([32] ++ ([48 + v] ++ r))) (hp : pre.length = p) (hr : zStp r) {o : Nat} (hO : zIsS o) (hrr : zR σ 1 10 = some o) {nm : Int} {n : Nat} {K C : Nat → Int} (hS : zShp σ o nm (n + 1) K C) (hn : n < 6) (ho : 5 ≤ o ∧ o < 50) {Q : zSt → Option Value → Prop} (k : ∀ σ2, zFk [1, o, o + 3] σ σ2 → zAs σ0 σ2 (p + 2) 6 → zR σ2 1 10 = some o → (∀ C' : Nat → Int, (∀ g, g < n → C' g = C g) → C' n = v → zShp σ2 o nm (n + 1) K C') → zGo σ2 (p + 2) Q) : zGo σ p Q := by
  have hw : zDgt [48 + v] := fun i hi => by
    have : i = 0 := by simpa using hi
    subst this
    show 48 ≤ 48 + v ∧ 48 + v ≤ 57
    omega
  have hvz : znb (fun i => ([48 + v] : List Int).getD i 0) ([48 + v] : List Int).length = v := by
    show 10 * 0 + (48 + v) - 48 = v
    omega
  have hb : zby l.length (fun i => l.getD i 0) (p : Int) = 32 := by
    have h1 := zby_app (pre := pre) (d := ([32] : List Int) ++ ([48 + v] ++ r)) (i := 0)
    rw [show (pre.length : Int) + (0 : Nat) = p by omega, ← hl] at h1
    rw [h1]
    simp
  refine s_numS h0 h (by decide) hl hp (Or.inr rfl) hw ⟨by simp, by simp⟩ hr hvz (fun σ1 f1 B1 m1 t1 h3 o1 => ?_)
  have hlen := B1.2.1.2.1
  have hll : l.length = pre.length + (1 + (1 + r.length)) := by rw [hl]; simp only [List.length_append, List.length_singleton]
  refine t_tTn B1.1 B1.2.1 hO (m1.r hrr) (hS.f1 m1.q ho.1) hn t1 (by simp; omega) ?_ hv ho.1 h3 (fun σ2 m2 s2 a2 k2 => ⟨rfl, p + 2, by simp, k σ2 ((m1.q.mono (fun _ h => by simp only [List.mem_cons, List.not_mem_nil, or_false] at h ⊢ <;> omega)).trans m2.q) ⟨f1.trans (m2.q.mono (fun x hx => zWp_in (by simp only [List.mem_cons, List.not_mem_nil, or_false] at hx; omega))), s2, a2⟩ (m2.r (m1.r hrr)) k2⟩)
  rw [show (((p + ([32] : List Int).length : Nat) : Int)) - 1 = p by simp]
  unfold zlt
  omega
theorem r_sg4C {σ0 σ : zSt} {l : List Int} (h0 : zBas σ0 l) {p : Nat} (h : zAs σ0 σ p 4) {pre r : List Int} (hl : l = pre ++ (44 :: r)) (hp : pre.length = p) {Q : zSt → Option Value → Prop} (k : ∀ σ2, zFm [1] σ σ2 → zAs σ0 σ2 (p + 1) 2 → zGo σ2 (p + 1) Q) : zGo σ p Q := by
  refine s_signS h0 h (by decide) hl hp (by decide) (fun σ1 f1 B1 m1 t1 hc h3 o1 => ?_)
  have hlen := B1.2.1.2.1
  have hll : l.length = pre.length + (r.length + 1) := by rw [hl]; simp only [List.length_append, List.length_cons]
  exact t_tSg4C B1.1 B1.2.1 t1 (by omega) hc h3 (fun σ2 h2 => ⟨rfl, p + 1, by omega, k σ2 (m1.trans h2.1) ⟨f1.trans h2.1.wp, h2.2.1, h2.2.2.1⟩⟩)
theorem r_sg4S {σ0 σ : zSt} {l : List Int} (h0 : zBas σ0 l) {p : Nat} (h : zAs σ0 σ p 4) {pre r : List Int} (hl : l = pre ++ (59 :: r)) (hp : pre.length = p) {Q : zSt → Option Value → Prop} (k : ∀ σ2, zFm [1] σ σ2 → zAs σ0 σ2 (p + 1) 0 → zGo σ2 (p + 1) Q) : zGo σ p Q := by
  refine s_signS h0 h (by decide) hl hp (by decide) (fun σ1 f1 B1 m1 t1 hc h3 o1 => ?_)
  have hlen := B1.2.1.2.1
  have hll : l.length = pre.length + (r.length + 1) := by rw [hl]; simp only [List.length_append, List.length_cons]
  exact t_tSg4S B1.1 B1.2.1 t1 (by omega) hc h3 (fun σ2 h2 => ⟨rfl, p + 1, by omega, k σ2 (m1.trans h2.1) ⟨f1.trans h2.1.wp, h2.2.1, h2.2.2.1⟩⟩)
theorem r_sg6C {σ0 σ : zSt} {l : List Int} (h0 : zBas σ0 l) {p : Nat} (h : zAs σ0 σ p 6) {pre r : List Int} (hl : l = pre ++ (44 :: r)) (hp : pre.length = p) {Q : zSt → Option Value → Prop} (k : ∀ σ2, zFm [1] σ σ2 → zAs σ0 σ2 (p + 1) 2 → zGo σ2 (p + 1) Q) : zGo σ p Q := by
  refine s_signS h0 h (by decide) hl hp (by decide) (fun σ1 f1 B1 m1 t1 hc h3 o1 => ?_)
  have hlen := B1.2.1.2.1
  have hll : l.length = pre.length + (r.length + 1) := by rw [hl]; simp only [List.length_append, List.length_cons]
  exact t_tSg6C B1.1 B1.2.1 t1 (by omega) hc h3 (fun σ2 h2 => ⟨rfl, p + 1, by omega, k σ2 (m1.trans h2.1) ⟨f1.trans h2.1.wp, h2.2.1, h2.2.2.1⟩⟩)
theorem r_sg6S {σ0 σ : zSt} {l : List Int} (h0 : zBas σ0 l) {p : Nat} (h : zAs σ0 σ p 6) {pre r : List Int} (hl : l = pre ++ (59 :: r)) (hp : pre.length = p) {Q : zSt → Option Value → Prop} (k : ∀ σ2, zFm [1] σ σ2 → zAs σ0 σ2 (p + 1) 0 → zGo σ2 (p + 1) Q) : zGo σ p Q := by
  refine s_signS h0 h (by decide) hl hp (by decide) (fun σ1 f1 B1 m1 t1 hc h3 o1 => ?_)
  have hlen := B1.2.1.2.1
  have hll : l.length = pre.length + (r.length + 1) := by rw [hl]; simp only [List.length_append, List.length_cons]
  exact t_tSg6S B1.1 B1.2.1 t1 (by omega) hc h3 (fun σ2 h2 => ⟨rfl, p + 1, by omega, k σ2 (m1.trans h2.1) ⟨f1.trans h2.1.wp, h2.2.1, h2.2.2.1⟩⟩)
