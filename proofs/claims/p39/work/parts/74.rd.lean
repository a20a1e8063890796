/-! THE READER: a token read -/
/-- what the reader changes: itself, the plan 5 -/
def zWp : List Nat := 1 :: (List.range 50).map (fun o => o + 5)
theorem zWp_in {o : Nat} (h : o = 1 ∨ (5 ≤ o ∧ o < 55)) : o ∈ zWp := by
  unfold zWp
  rw [List.mem_cons, List.mem_map]
  rcases h with h | h
  · exact Or.inl h
  · exact Or.inr ⟨o - 5, List.mem_range.mpr (by omega), by omega⟩
/-- the reader stands at p in a state, since σ0 it has changed no more than it may -/
def zAs (σ0 σ : zSt) (p : Nat) (st : Int) : Prop := zFk zWp σ0 σ ∧ zI σ 1 3 = iZ st ∧ zI σ 1 4 = iZ (p : Int)
def zBas (σ0 : zSt) (l : List Int) : Prop := zFx σ0 ∧ zTL σ0 l ∧ zOwn σ0 ∧ zR σ0 1 2 = some 5
theorem zFk.tlW {σ σ' : zSt} {l : List Int} (f : zFk zWp σ σ') (h : zTL σ l) : zTL σ' l := f.tl h (by decide) (by decide)
theorem zFk.ownW {σ σ' : zSt} (f : zFk zWp σ σ') (h : zOwn σ) : zOwn σ' := f.own h (by decide)
theorem zFk.basW {σ σ' : zSt} {l : List Int} (f : zFk zWp σ σ') (h : zBas σ l) : zBas σ' l := ⟨f.fx h.1, f.tlW h.2.1, f.ownW h.2.2.1, f.r h.2.2.2 (Or.inr (by decide))⟩
theorem zFm.wp {σ σ' : zSt} (f : zFm [1] σ σ') : zFk zWp σ σ' := f.q.mono (fun o h => zWp_in (Or.inl (List.mem_singleton.mp h)))
theorem zLtr.hd {w r : List Int} (hw : zLtr w) (hn : 1 ≤ w.length) : w ++ r ≠ [] ∧ ∀ c : Int, (w ++ r).head? = some c → c ≠ 10 ∧ c ≠ 32 := by
  cases w with
  | nil => simp at hn
  | cons a t =>
    have h := hw 0 (by simp)
    refine ⟨by simp, fun c hc => ?_⟩
    have e : a = c := by simpa using hc
    subst e
    have h' : 97 ≤ a ∧ a ≤ 122 := h
    omega
theorem zDgt.hd {w r : List Int} (hw : zDgt w) (hn : 1 ≤ w.length) : w ++ r ≠ [] ∧ ∀ c : Int, (w ++ r).head? = some c → c ≠ 10 ∧ c ≠ 32 := by
  cases w with
  | nil => simp at hn
  | cons a t =>
    have h := hw 0 (by simp)
    refine ⟨by simp, fun c hc => ?_⟩
    have e : a = c := by simpa using hc
    subst e
    have h' : 48 ≤ a ∧ a ≤ 57 := h
    omega
theorem s_wordS {σ0 σ : zSt} {l : List Int} (h0 : zBas σ0 l) {p : Nat} {st : Int} (h : zAs σ0 σ p st) (hst : 0 ≤ st ∧ st < 7) {pre bl w r : List Int} (hl : l = pre ++ (bl ++ (w ++ r))) (hp : pre.length = p) (hbl : bl = [] ∨ bl = [32]) (hw : zLtr w) (hn : 1 ≤ w.length ∧ w.length ≤ 6) (hr : zStp r) {v : Int32} (hv : zpk (fun i => w.getD i 0) w.length = v) {ow : Int} (how : zof v 17 = ow) {Q : zSt → Option Value → Prop} (T : ∀ σ1, zFk zWp σ0 σ1 → zBas σ1 l → zFm [1] σ σ1 → zTok σ1 (p + bl.length) (w.length : Int) v ow 0 0 → zI σ1 1 3 = iZ st → (∀ k, k < 4 ∨ 9 < k → zI σ1 1 k = zI σ 1 k) → zCa 3 [.ref 1] σ1 (fun σ2 v => v = some (.int (iZ 1)) ∧ ∃ p2, p + bl.length < p2 ∧ zGo σ2 p2 Q)) : zGo σ p Q := by
  have hB := h.1.basW h0
  have hlen := hB.2.1.2.1
  have hll : l.length = pre.length + (bl.length + (w.length + r.length)) := by rw [hl]; simp only [List.length_append]
  have hl2 : l = (pre ++ bl) ++ (w ++ r) := by rw [hl, List.append_assoc]
  have hp2 : (pre ++ bl).length = p + bl.length := by rw [List.length_append, hp]
  have hb := tk_b hl hp hbl (hw.hd hn.1).1 (hw.hd hn.1).2
  have hA := zAt_word (pre := pre ++ bl) (w := w) (r := r) (by omega) hw hn hr
  rw [← hl2, hp2, hv] at hA
  refine p_stepS hB.1 hB.2.1 hB.2.2.1 (q := p + bl.length) (by omega) h.2.2 hb h.2.1 hst hA (by omega) (by omega) (fun σ1 m t o => ?_)
  have h3 := (o 3 (by omega)).trans h.2.1
  rw [if_neg (by omega), how] at t
  exact T σ1 (h.1.trans m.wp) (m.wp.basW hB) m t h3 o
theorem s_numS {σ0 σ : zSt} {l : List Int} (h0 : zBas σ0 l) {p : Nat} {st : Int} (h : zAs σ0 σ p st) (hst : 0 ≤ st ∧ st < 7) {pre bl w r : List Int} (hl : l = pre ++ (bl ++ (w ++ r))) (hp : pre.length = p) (hbl : bl = [] ∨ bl = [32]) (hw : zDgt w) (hn : 1 ≤ w.length ∧ w.length ≤ 3) (hr : zStp r) {v : Int} (hv : znb (fun i => w.getD i 0) w.length = v) {Q : zSt → Option Value → Prop} (T : ∀ σ1, zFk zWp σ0 σ1 → zBas σ1 l → zFm [1] σ σ1 → zTok σ1 (p + bl.length) 0 (iZ 0) (-1) (w.length : Int) v → zI σ1 1 3 = iZ st → (∀ k, k < 4 ∨ 9 < k → zI σ1 1 k = zI σ 1 k) → zCa 3 [.ref 1] σ1 (fun σ2 v => v = some (.int (iZ 1)) ∧ ∃ p2, p + bl.length < p2 ∧ zGo σ2 p2 Q)) : zGo σ p Q := by
  have hB := h.1.basW h0
  have hlen := hB.2.1.2.1
  have hll : l.length = pre.length + (bl.length + (w.length + r.length)) := by rw [hl]; simp only [List.length_append]
  have hl2 : l = (pre ++ bl) ++ (w ++ r) := by rw [hl, List.append_assoc]
  have hp2 : (pre ++ bl).length = p + bl.length := by rw [List.length_append, hp]
  have hb := tk_b hl hp hbl (hw.hd hn.1).1 (hw.hd hn.1).2
  have hA := zAt_num (pre := pre ++ bl) (w := w) (r := r) (by omega) hw hn hr
  rw [← hl2, hp2, hv] at hA
  refine p_stepS hB.1 hB.2.1 hB.2.2.1 (q := p + bl.length) (by omega) h.2.2 hb h.2.1 hst hA (by omega) (by omega) (fun σ1 m t o => ?_)
  have h3 := (o 3 (by omega)).trans h.2.1
  rw [if_pos rfl] at t
  exact T σ1 (h.1.trans m.wp) (m.wp.basW hB) m t h3 o
theorem s_signS {σ0 σ : zSt} {l : List Int} (h0 : zBas σ0 l) {p : Nat} {st : Int} (h : zAs σ0 σ p st) (hst : 0 ≤ st ∧ st < 7) {pre r : List Int} {c : Int} (hl : l = pre ++ (c :: r)) (hp : pre.length = p)  (hc : c = 44 ∨ c = 59) {Q : zSt → Option Value → Prop} (T : ∀ σ1, zFk zWp σ0 σ1 → zBas σ1 l → zFm [1] σ σ1 → zTok σ1 p 0 (iZ 0) (-1) 0 0 → zby l.length (fun i => l.getD i 0) p = c → zI σ1 1 3 = iZ st → (∀ k, k < 4 ∨ 9 < k → zI σ1 1 k = zI σ 1 k) → zCa 3 [.ref 1] σ1 (fun σ2 v => v = some (.int (iZ 1)) ∧ ∃ p2, p < p2 ∧ zGo σ2 p2 Q)) : zGo σ p Q := by
  have hB := h.1.basW h0
  have hlen := hB.2.1.2.1
  have hll : l.length = pre.length + (r.length + 1) := by rw [hl]; simp only [List.length_append, List.length_cons]
  have hz : zby l.length (fun i => l.getD i 0) (p : Int) = c := by
    have h1 := zby_app (pre := pre) (d := c :: r) (i := 0)
    rw [show (pre.length : Int) + (0 : Nat) = p by omega, ← hl] at h1
    rw [h1]
    simp
  have hA := zAt_no (l := l) (p := p) (by omega) (by unfold zlt; omega) (by unfold zdg; omega)
  refine p_stepS hB.1 hB.2.1 hB.2.2.1 (q := p) (by omega) h.2.2 (Or.inl ⟨rfl, by unfold zbl; omega⟩) h.2.1 hst hA (by omega) (by omega) (fun σ1 m t o => ?_)
  have h3 := (o 3 (by omega)).trans h.2.1
  rw [if_pos rfl] at t
  exact T σ1 (h.1.trans m.wp) (m.wp.basW hB) m t hz h3 o
theorem s_wordC {σ0 σ : zSt} {l : List Int} (h0 : zBas σ0 l) {p : Nat} {st : Int} (h : zAs σ0 σ p st) (hst : 7 ≤ st ∧ st ≤ 16) {pre bl w r : List Int} (hl : l = pre ++ (bl ++ (w ++ r))) (hp : pre.length = p) (hbl : bl = [] ∨ bl = [32]) (hw : zLtr w) (hn : 1 ≤ w.length ∧ w.length ≤ 6) (hr : zStp r) {v : Int32} (hv : zpk (fun i => w.getD i 0) w.length = v) {ow : Int} (how : zof v 17 = ow) {Q : zSt → Option Value → Prop} (T : ∀ σ1, zFk zWp σ0 σ1 → zBas σ1 l → zFm [1] σ σ1 → zTok σ1 (p + bl.length) (w.length : Int) v ow 0 0 → zI σ1 1 3 = iZ st → (∀ k, k < 4 ∨ 9 < k → zI σ1 1 k = zI σ 1 k) → zCa 4 [.ref 1] σ1 (fun σ2 v => v = some (.int (iZ 1)) ∧ ∃ p2, p + bl.length < p2 ∧ zGo σ2 p2 Q)) : zGo σ p Q := by
  have hB := h.1.basW h0
  have hlen := hB.2.1.2.1
  have hll : l.length = pre.length + (bl.length + (w.length + r.length)) := by rw [hl]; simp only [List.length_append]
  have hl2 : l = (pre ++ bl) ++ (w ++ r) := by rw [hl, List.append_assoc]
  have hp2 : (pre ++ bl).length = p + bl.length := by rw [List.length_append, hp]
  have hb := tk_b hl hp hbl (hw.hd hn.1).1 (hw.hd hn.1).2
  have hA := zAt_word (pre := pre ++ bl) (w := w) (r := r) (by omega) hw hn hr
  rw [← hl2, hp2, hv] at hA
  refine p_stepC hB.1 hB.2.1 hB.2.2.1 (q := p + bl.length) (by omega) h.2.2 hb h.2.1 hst hA (by omega) (by omega) (fun σ1 m t o => ?_)
  have h3 := (o 3 (by omega)).trans h.2.1
  rw [if_neg (by omega), how] at t
  exact T σ1 (h.1.trans m.wp) (m.wp.basW hB) m t h3 o
theorem s_numC {σ0 σ : zSt} {l : List Int} (h0 : zBas σ0 l) {p : Nat} {st : Int} (h : zAs σ0 σ p st) (hst : 7 ≤ st ∧ st ≤ 16) {pre bl w r : List Int} (hl : l = pre ++ (bl ++ (w ++ r))) (hp : pre.length = p) (hbl : bl = [] ∨ bl = [32]) (hw : zDgt w) (hn : 1 ≤ w.length ∧ w.length ≤ 3) (hr : zStp r) {v : Int} (hv : znb (fun i => w.getD i 0) w.length = v) {Q : zSt → Option Value → Prop} (T : ∀ σ1, zFk zWp σ0 σ1 → zBas σ1 l → zFm [1] σ σ1 → zTok σ1 (p + bl.length) 0 (iZ 0) (-1) (w.length : Int) v → zI σ1 1 3 = iZ st → (∀ k, k < 4 ∨ 9 < k → zI σ1 1 k = zI σ 1 k) → zCa 4 [.ref 1] σ1 (fun σ2 v => v = some (.int (iZ 1)) ∧ ∃ p2, p + bl.length < p2 ∧ zGo σ2 p2 Q)) : zGo σ p Q := by
  have hB := h.1.basW h0
  have hlen := hB.2.1.2.1
  have hll : l.length = pre.length + (bl.length + (w.length + r.length)) := by rw [hl]; simp only [List.length_append]
  have hl2 : l = (pre ++ bl) ++ (w ++ r) := by rw [hl, List.append_assoc]
  have hp2 : (pre ++ bl).length = p + bl.length := by rw [List.length_append, hp]
  have hb := tk_b hl hp hbl (hw.hd hn.1).1 (hw.hd hn.1).2
  have hA := zAt_num (pre := pre ++ bl) (w := w) (r := r) (by omega) hw hn hr
  rw [← hl2, hp2, hv] at hA
  refine p_stepC hB.1 hB.2.1 hB.2.2.1 (q := p + bl.length) (by omega) h.2.2 hb h.2.1 hst hA (by omega) (by omega) (fun σ1 m t o => ?_)
  have h3 := (o 3 (by omega)).trans h.2.1
  rw [if_pos rfl] at t
  exact T σ1 (h.1.trans m.wp) (m.wp.basW hB) m t h3 o
theorem s_signC {σ0 σ : zSt} {l : List Int} (h0 : zBas σ0 l) {p : Nat} {st : Int} (h : zAs σ0 σ p st) (hst : 7 ≤ st ∧ st ≤ 16) {pre r : List Int} {c : Int} (hl : l = pre ++ (c :: r)) (hp : pre.length = p)  (hc : c = 44 ∨ c = 59) {Q : zSt → Option Value → Prop} (T : ∀ σ1, zFk zWp σ0 σ1 → zBas σ1 l → zFm [1] σ σ1 → zTok σ1 p 0 (iZ 0) (-1) 0 0 → zby l.length (fun i => l.getD i 0) p = c → zI σ1 1 3 = iZ st → (∀ k, k < 4 ∨ 9 < k → zI σ1 1 k = zI σ 1 k) → zCa 4 [.ref 1] σ1 (fun σ2 v => v = some (.int (iZ 1)) ∧ ∃ p2, p < p2 ∧ zGo σ2 p2 Q)) : zGo σ p Q := by
  have hB := h.1.basW h0
  have hlen := hB.2.1.2.1
  have hll : l.length = pre.length + (r.length + 1) := by rw [hl]; simp only [List.length_append, List.length_cons]
  have hz : zby l.length (fun i => l.getD i 0) (p : Int) = c := by
    have h1 := zby_app (pre := pre) (d := c :: r) (i := 0)
    rw [show (pre.length : Int) + (0 : Nat) = p by omega, ← hl] at h1
    rw [h1]
    simp
  have hA := zAt_no (l := l) (p := p) (by omega) (by unfold zlt; omega) (by unfold zdg; omega)
  refine p_stepC hB.1 hB.2.1 hB.2.2.1 (q := p) (by omega) h.2.2 (Or.inl ⟨rfl, by unfold zbl; omega⟩) h.2.1 hst hA (by omega) (by omega) (fun σ1 m t o => ?_)
  have h3 := (o 3 (by omega)).trans h.2.1
  rw [if_pos rfl] at t
  exact T σ1 (h.1.trans m.wp) (m.wp.basW hB) m t hz h3 o
