/-! THE READER: a crossing, token by token -/
theorem znu_ok {v : Int} (h : 0 ≤ v ∧ v ≤ 99) : zDgt (znu v) ∧ (1 ≤ (znu v).length ∧ (znu v).length ≤ 3) ∧ znb (fun i => (znu v).getD i 0) (znu v).length = v := by
  have key : ∀ n : Nat, n < 100 → (∀ i : Nat, i < (znu (n : Int)).length → 48 ≤ (znu (n : Int)).getD i 0 ∧ (znu (n : Int)).getD i 0 ≤ 57) ∧ (1 ≤ (znu (n : Int)).length ∧ (znu (n : Int)).length ≤ 3) ∧ znb (fun i => (znu (n : Int)).getD i 0) (znu (n : Int)).length = n := by decide +kernel
  have := key v.toNat (by omega)
  rwa [Int.toNat_of_nonneg h.1] at this
theorem zb32 {l pre d : List Int} {p : Nat} (hl : l = pre ++ ([32] ++ d)) (hp : pre.length = p) : ¬ zlt l.length (fun i => l.getD i 0) (((p + ([32] : List Int).length : Nat) : Int) - 1) := by
  have hb : zby l.length (fun i => l.getD i 0) (p : Int) = 32 := by
    have h1 := zby_app (pre := pre) (d := ([32] : List Int) ++ d) (i := 0)
    rw [show (pre.length : Int) + (0 : Nat) = p by omega, ← hl] at h1
    rw [h1]
    simp
  rw [show (((p + ([32] : List Int).length : Nat) : Int)) - 1 = p by simp]
  unfold zlt
  omega
theorem zCm.fk {w : List Nat} {σ σ' : zSt} {a : Nat} {X : Nat → Int} (h : zCm σ a X) (ha : a ≤ 3) (f : zFk w σ σ') (hw : ∀ o, o ∈ w → o = 1 ∨ o = 5 ∨ 23 ≤ o) : zCm σ' a X := fun s hs => (h s hs).fr f (fun q => by have := hw _ q; omega) (fun q => by have := hw _ q; omega) (fun q => by have := hw _ q; omega) (fun q => by have := hw _ q; omega) (fun q => by have := hw _ q; omega)
/-- all that stands while a crossing is read -/
def zXr (σ : zSt) (a : Nat) (X : Nat → Int) (u v c f : Nat) : Prop := zCm σ a X ∧ zI σ 5 2 = iZ (a : Int) ∧ zI σ 5 3 = iZ ((c + 1 : Nat) : Int) ∧ zXg σ u v c f
theorem zXr.k {w : List Nat} {σ σ' : zSt} {a : Nat} {X : Nat → Int} {u v c f f' : Nat} (h : zXr σ a X u v c f) (ha : a ≤ 3) (m : zFk w σ σ') (hw : ∀ o, o ∈ w → o = 1 ∨ 23 ≤ o) (g : zXg σ' u v c f') : zXr σ' a X u v c f' := ⟨h.1.fk ha m (fun o q => by have := hw o q; omega), m.i h.2.1 (fun q => by have := hw _ q; omega), m.i h.2.2.1 (fun q => by have := hw _ q; omega), g⟩
theorem zXr.k1 {σ σ' : zSt} {a : Nat} {X : Nat → Int} {u v c f : Nat} (h : zXr σ a X u v c f) (ha : a ≤ 3) (m : zFm [1] σ σ') : zXr σ' a X u v c f := h.k ha m.q (fun o q => by rw [List.mem_singleton] at q; omega) (h.2.2.2.f1 m)
theorem zXr.kr {σ σ' : zSt} {a : Nat} {X : Nat → Int} {u v c f : Nat} (h : zXr σ a X u v c (f + 1)) (ha : a ≤ 3) (m : zFm [1, 5 + 18 + 8 * c + 2 + f] σ σ') (e : zI σ' (5 + 18 + 8 * c + 2 + f) 0 = zI σ (5 + 18 + 8 * c + 2 + f) 0) : zXr σ' a X u v c (f + 1) := h.k ha m.q (fun o q => by simp only [List.mem_cons, List.not_mem_nil, or_false] at q; omega) (h.2.2.2.rf m e)
/-- a scheme's numbers -/
abbrev znf (X : Nat → Int) (s : Nat) : Nat := (zmy (X s)).toNat
theorem znf_rng (X : Nat → Int) (s : Nat) : 2 ≤ znf X s ∧ znf X s ≤ 5 := by
  have : zmy (X s) = 2 + X s % 4 := rfl
  unfold znf
  omega
theorem znf6 (X : Nat → Int) (s : Nat) : (zmy (X s)).toNat ≤ 6 := by
  have := znf_rng X s
  unfold znf at this
  omega
theorem zKC (x : Int) (f : Nat) : (0 ≤ zKx x f ∧ zKx x f ≤ 8) ∧ 1 ≤ zCx x f ∧ zCx x f ≤ 4 := by
  refine ⟨zKx_rng x f, ?_⟩
  rcases ztx_ok x f with h | h
  · omega
  · exact h.1
theorem r_stC {σ0 σ : zSt} {l : List Int} (h0 : zBas σ0 l) {p : Nat} (h : zAs σ0 σ p 0) {pre r : List Int} (hl : l = pre ++ (zow2 11 ++ r)) (hp : pre.length = p) (hr : zStp r) {a b : Nat} (ha : 1 ≤ a ∧ a ≤ 3) (hb : b < 4) (h52 : zI σ 5 2 = iZ (a : Int)) (h53 : zI σ 5 3 = iZ (b : Int)) {Q : zSt → Option Value → Prop} (k : ∀ σ2, zFm [1] σ σ2 → zAs σ0 σ2 (p + 5) 7 → zGo σ2 (p + 5) Q) : zGo σ p Q := by
  have w := zow2_ok (j := 11) (by decide)
  refine s_wordS h0 h (by decide) (bl := []) hl hp (Or.inl rfl) w.1 w.2.1 hr rfl w.2.2 (fun σ1 f1 B1 m1 t1 h3 o1 => ?_)
  exact t_tStC B1.1 B1.2.2.2 t1 ha hb (m1.i h52 (by simp only [List.mem_cons, List.not_mem_nil, or_false, not_false_eq_true] <;> omega)) (m1.i h53 (by simp only [List.mem_cons, List.not_mem_nil, or_false, not_false_eq_true] <;> omega)) h3 (fun σ2 h2 => ⟨rfl, p + 5, by simp, k σ2 (m1.trans h2.1) ⟨f1.trans h2.1.wp, h2.2.1, h2.2.2.1⟩⟩)
theorem r_xF {σ0 σ : zSt} {l : List Int} {u : Nat} (h0 : zBas σ0 l) {p : Nat} (h : zAs σ0 σ p 7) {pre r : List Int} (hl : l = pre ++ ([32] ++ (zsn u ++ r))) (hp : pre.length = p) (hr : zStp r) {a : Nat} (ha : a ≤ 3) {X : Nat → Int} (hu : u < a) (hC : zCm σ a X) (h52 : zI σ 5 2 = iZ (a : Int)) {Q : zSt → Option Value → Prop} (k : ∀ σ2, zFm [1] σ σ2 → zAs σ0 σ2 (p + 3) 8 → zI σ2 1 13 = iZ (u : Int) → zGo σ2 (p + 3) Q) : zGo σ p Q := by
  have w := zsn_ok (f := u) (by omega)
  have hfl : (zsn u).length = 2 := rfl
  refine s_wordC h0 h (by decide) hl hp (Or.inr rfl) w.1 ⟨by omega, by omega⟩ hr w.2.1 w.2.2 (fun σ1 f1 B1 m1 t1 h3 o1 => ?_)
  exact t_tXF B1.1 B1.2.2.2 t1 ha (m1.i h52 (by simp only [List.mem_cons, List.not_mem_nil, or_false, not_false_eq_true] <;> omega)) (fun s hs => m1.i (hC s hs).1 (by simp only [List.mem_cons, List.not_mem_nil, or_false, not_false_eq_true] <;> omega)) hu h3 (fun σ2 m2 s2 a2 e2 => ⟨rfl, p + 3, by simp, k σ2 (m1.trans m2) ⟨f1.trans m2.wp, s2, a2⟩ e2⟩)
theorem r_xTo {σ0 σ : zSt} {l : List Int} (h0 : zBas σ0 l) {p : Nat} (h : zAs σ0 σ p 8) {pre r : List Int} (hl : l = pre ++ ([32] ++ (zow2 12 ++ r))) (hp : pre.length = p) (hr : zStp r) {Q : zSt → Option Value → Prop} (k : ∀ σ2, zFm [1] σ σ2 → zAs σ0 σ2 (p + 3) 9 → zI σ2 1 13 = zI σ 1 13 → zGo σ2 (p + 3) Q) : zGo σ p Q := by
  have w := zow2_ok (j := 12) (by decide)
  refine s_wordC h0 h (by decide) hl hp (Or.inr rfl) w.1 w.2.1 hr rfl w.2.2 (fun σ1 f1 B1 m1 t1 h3 o1 => ?_)
  exact t_tXTo B1.1 t1 h3 (fun σ2 h2 => ⟨rfl, p + 3, by simp, k σ2 (m1.trans h2.1) ⟨f1.trans h2.1.wp, h2.2.1, h2.2.2.1⟩ ((h2.2.2.2 13 (by decide) (by decide)).trans (o1 13 (by decide)))⟩)
theorem r_xS {σ0 σ : zSt} {l : List Int} {v : Nat} (h0 : zBas σ0 l) {p : Nat} (h : zAs σ0 σ p 9) {pre r : List Int} (hl : l = pre ++ ([32] ++ (zsn v ++ r))) (hp : pre.length = p) (hr : zStp r) {a : Nat} (ha : a ≤ 3) {X : Nat → Int} {u c : Nat} (hu : u < a) (hv : v < a) (huv : u ≠ v) (hc : c < 4) (hC : zCm σ a X) (h52 : zI σ 5 2 = iZ (a : Int)) (h53 : zI σ 5 3 = iZ (c : Int)) (h13 : zI σ 1 13 = iZ (u : Int)) {Q : zSt → Option Value → Prop} (k : ∀ σ2, zAs σ0 σ2 (p + 3) 10 → zXr σ2 a X u v c 0 → zGo σ2 (p + 3) Q) : zGo σ p Q := by
  have w := zsn_ok (f := v) (by omega)
  have hfl : (zsn v).length = 2 := rfl
  refine s_wordC h0 h (by decide) hl hp (Or.inr rfl) w.1 ⟨by omega, by omega⟩ hr w.2.1 w.2.2 (fun σ1 f1 B1 m1 t1 h3 o1 => ?_)
  exact t_tXS B1.1 B1.2.2.2 t1 ha (m1.i h52 (by simp only [List.mem_cons, List.not_mem_nil, or_false, not_false_eq_true] <;> omega)) (fun s hs => m1.i (hC s hs).1 (by simp only [List.mem_cons, List.not_mem_nil, or_false, not_false_eq_true] <;> omega)) hu hv huv hc (m1.i h53 (by simp only [List.mem_cons, List.not_mem_nil, or_false, not_false_eq_true] <;> omega)) ((o1 13 (by decide)).trans h13) h3 (fun σ2 f2 s2 a2 x2 e52 e53 => ⟨rfl, p + 3, by simp, k σ2 ⟨f1.trans (f2.mono (fun x hx => zWp_in (by simp only [List.mem_cons, List.not_mem_nil, or_false] at hx; omega))), s2, a2⟩ ⟨(hC.fk ha m1.q (fun o q => by rw [List.mem_singleton] at q; omega)).fk ha f2 (fun o h => by simp only [List.mem_cons, List.not_mem_nil, or_false] at h; omega), e52, e53, x2⟩⟩)
theorem r_xT {σ0 σ : zSt} {l : List Int} {f : Nat} (h0 : zBas σ0 l) {p : Nat} (h : zAs σ0 σ p 10) {pre bl r : List Int} (hl : l = pre ++ (bl ++ (zfn f ++ r))) (hp : pre.length = p) (hbl : bl = [] ∨ bl = [32]) (hr : zStp r) {a : Nat} (ha : a ≤ 3) {X : Nat → Int} {u v c : Nat} (hX : zXr σ a X u v c f) (hu : u < a) (hv : v < a) (hc : c < 4) (hf : f < 6) (hfn : f < znf X v) {Q : zSt → Option Value → Prop} (k : ∀ σ2, zAs σ0 σ2 (p + bl.length + 2) 11 → zXr σ2 a X u v c f → zI σ2 1 17 = iZ (f : Int) → zGo σ2 (p + bl.length + 2) Q) : zGo σ p Q := by
  have w := zfn_ok (f := f) (by omega)
  have hfl : (zfn (f : Nat)).length = 2 := rfl
  refine s_wordC h0 h (by decide) hl hp hbl w.1 ⟨by omega, by omega⟩ hr w.2.1 w.2.2 (fun σ1 f1 B1 m1 t1 h3 o1 => ?_)
  have hX1 := hX.k1 ha m1
  have hz := znf_rng X v
  exact t_tXT B1.1 hX1.2.2.2 (by omega) (by omega) hc hf (hX1.1 v hv) (znf6 X v) hfn t1 h3 (fun σ2 m2 s2 a2 e2 => ⟨rfl, p + bl.length + 2, by omega, k σ2 ⟨f1.trans m2.wp, s2, a2⟩ (hX1.k1 ha m2) e2⟩)
theorem r_xFr {σ0 σ : zSt} {l : List Int} (h0 : zBas σ0 l) {p : Nat} (h : zAs σ0 σ p 11) {pre r : List Int} (hl : l = pre ++ ([32] ++ (zow2 13 ++ r))) (hp : pre.length = p) (hr : zStp r) {a : Nat} (ha : a ≤ 3) {X : Nat → Int} {u v c f : Nat} (hX : zXr σ a X u v c f) (hu : u < a) (hv : v < a) (hc : c < 4) (hf : f < 6) (h17 : zI σ 1 17 = iZ (f : Int)) {Q : zSt → Option Value → Prop} (k : ∀ σ2, zAs σ0 σ2 (p + 5) 12 → zXr σ2 a X u v c f → zI σ2 1 17 = iZ (f : Int) → zGo σ2 (p + 5) Q) : zGo σ p Q := by
  have w := zow2_ok (j := 13) (by decide)
  refine s_wordC h0 h (by decide) hl hp (Or.inr rfl) w.1 w.2.1 hr rfl w.2.2 (fun σ1 f1 B1 m1 t1 h3 o1 => ?_)
  exact t_tXFr B1.1 t1 h3 (fun σ2 h2 => ⟨rfl, p + 5, by simp, k σ2 ⟨f1.trans h2.1.wp, h2.2.1, h2.2.2.1⟩ ((hX.k1 ha m1).k1 ha h2.1) ((h2.2.2.2 17 (by decide) (by decide)).trans ((o1 17 (by decide)).trans h17))⟩)
theorem r_xN {σ0 σ : zSt} {l : List Int} {n : Int} (h0 : zBas σ0 l) {p : Nat} (h : zAs σ0 σ p 12) {pre r : List Int} (hl : l = pre ++ ([32] ++ (znu n ++ r))) (hp : pre.length = p) (hr : zStp r) (hn : 0 ≤ n ∧ n ≤ 99) {a : Nat} (ha : a ≤ 3) {X : Nat → Int} {u v c f : Nat} (hX : zXr σ a X u v c f) (hu : u < a) (hv : v < a) (hc : c < 4) (hf : f < 6) (hfn : f < znf X v) (hk0 : zKx (X v) f ≠ 0) (h17 : zI σ 1 17 = iZ (f : Int)) {Q : zSt → Option Value → Prop} (k : ∀ σ2, zAs σ0 σ2 (p + 1 + (znu n).length) 16 → zXr σ2 a X u v c (f + 1) → zR σ2 1 16 = some (5 + 18 + 8 * c + 2 + f) → zGo σ2 (p + 1 + (znu n).length) Q) : zGo σ p Q := by
  have w := znu_ok (v := n) (by omega)
  refine s_numC h0 h (by decide) hl hp (Or.inr rfl) w.1 w.2.1 hr w.2.2 (fun σ1 f1 B1 m1 t1 h3 o1 => ?_)
  have hlen := B1.2.1.2.1
  have hll : l.length = pre.length + (1 + ((znu n).length + r.length)) := by rw [hl]; simp only [List.length_append, List.length_singleton]
  have hX1 := hX.k1 ha m1
  have hz := znf_rng X v
  exact t_tXN B1.1 B1.2.1 hX1.2.2.2 (by omega) (by omega) hc hf (hX1.1 v hv) (znf6 X v) hfn ⟨hk0, (zKx_rng _ _).1, (zKx_rng _ _).2⟩ ((o1 17 (by decide)).trans h17) t1 w.2.1 (by simp only [List.length_singleton]; omega) (zb32 hl hp) (by omega) h3 (fun σ2 f2 s2 a2 x2 r2 e2 => ⟨rfl, p + 1 + (znu n).length, (by simp only [List.length_singleton]; omega), k σ2 ⟨f1.trans (f2.mono (fun x hx => zWp_in (by simp only [List.mem_cons, List.not_mem_nil, or_false] at hx; omega))), s2, a2⟩ (hX1.k ha f2 (fun o h => by simp only [List.mem_cons, List.not_mem_nil, or_false] at h; omega) x2) r2⟩)
theorem r_xA {σ0 σ : zSt} {l : List Int} {g : Nat} (h0 : zBas σ0 l) {p : Nat} (h : zAs σ0 σ p 12) {pre r : List Int} (hl : l = pre ++ ([32] ++ (zfn g ++ r))) (hp : pre.length = p) (hr : zStp r) {a : Nat} (ha : a ≤ 3) {X : Nat → Int} {u v c f : Nat} (hX : zXr σ a X u v c f) (hu : u < a) (hv : v < a) (hc : c < 4) (hf : f < 6) (hgn : g < znf X u) (h17 : zI σ 1 17 = iZ (f : Int)) {Q : zSt → Option Value → Prop} (k : ∀ σ2, zAs σ0 σ2 (p + 3) 13 → zXr σ2 a X u v c (f + 1) → zR σ2 1 16 = some (5 + 18 + 8 * c + 2 + f) → zI σ2 (5 + 18 + 8 * c + 2 + f) 2 = iZ (g : Int) → zGo σ2 (p + 3) Q) : zGo σ p Q := by
  have hz := znf_rng X u
  have w := zfn_ok (f := g) (by omega)
  have hfl : (zfn (g : Nat)).length = 2 := rfl
  refine s_wordC h0 h (by decide) hl hp (Or.inr rfl) w.1 ⟨by omega, by omega⟩ hr w.2.1 w.2.2 (fun σ1 f1 B1 m1 t1 h3 o1 => ?_)
  have hX1 := hX.k1 ha m1
  exact t_tXA B1.1 hX1.2.2.2 (by omega) (by omega) hc hf (hX1.1 u hu) (znf6 X u) hgn ((o1 17 (by decide)).trans h17) t1 h3 (fun σ2 f2 s2 a2 x2 r2 e2 => ⟨rfl, p + 3, by simp, k σ2 ⟨f1.trans (f2.mono (fun x hx => zWp_in (by simp only [List.mem_cons, List.not_mem_nil, or_false] at hx; omega))), s2, a2⟩ (hX1.k ha f2 (fun o h => by simp only [List.mem_cons, List.not_mem_nil, or_false] at h; omega) x2) r2 e2⟩)
theorem r_xBy {σ0 σ : zSt} {l : List Int} (h0 : zBas σ0 l) {p : Nat} (h : zAs σ0 σ p 13) {pre r : List Int} (hl : l = pre ++ ([32] ++ (zow2 14 ++ r))) (hp : pre.length = p) (hr : zStp r) {a : Nat} (ha : a ≤ 3) {X : Nat → Int} {u v c f : Nat} (hX : zXr σ a X u v c (f + 1)) (hu : u < a) (hv : v < a) (hc : c < 4) (hf : f < 6) (h16 : zR σ 1 16 = some (5 + 18 + 8 * c + 2 + f)) {g : Nat} (hgn : g < znf X u) (hkg : zNk (zKx (X u) g)) (h2g : zI σ (5 + 18 + 8 * c + 2 + f) 2 = iZ (g : Int)) {Q : zSt → Option Value → Prop} (k : ∀ σ2, zAs σ0 σ2 (p + 3) 14 → zXr σ2 a X u v c (f + 1) → zR σ2 1 16 = some (5 + 18 + 8 * c + 2 + f) → zGo σ2 (p + 3) Q) : zGo σ p Q := by
  have w := zow2_ok (j := 14) (by decide)
  refine s_wordC h0 h (by decide) hl hp (Or.inr rfl) w.1 w.2.1 hr rfl w.2.2 (fun σ1 f1 B1 m1 t1 h3 o1 => ?_)
  have hX1 := hX.k1 ha m1
  have hz := znf_rng X u
  exact t_tXBy B1.1 hX1.2.2.2 (by omega) (by omega) hc hf (m1.r h16) (hX1.1 u hu) (znf6 X u) hgn (by have := hkg; omega) (m1.i h2g (by simp only [List.mem_cons, List.not_mem_nil, or_false, not_false_eq_true] <;> omega)) t1 h3 (fun σ2 m2 s2 a2 e2 => ⟨rfl, p + 3, by simp, k σ2 ⟨f1.trans (m2.q.mono (fun x hx => zWp_in (by simp only [List.mem_cons, List.not_mem_nil, or_false] at hx; omega))), s2, a2⟩ (hX1.kr ha m2 (e2 0 (by decide))) (m2.r (m1.r h16))⟩)
theorem r_xOv {σ0 σ : zSt} {l : List Int} (h0 : zBas σ0 l) {p : Nat} (h : zAs σ0 σ p 13) {pre r : List Int} (hl : l = pre ++ ([32] ++ (zow2 15 ++ r))) (hp : pre.length = p) (hr : zStp r) {a : Nat} (ha : a ≤ 3) {X : Nat → Int} {u v c f : Nat} (hX : zXr σ a X u v c (f + 1)) (hu : u < a) (hv : v < a) (hc : c < 4) (hf : f < 6) (h16 : zR σ 1 16 = some (5 + 18 + 8 * c + 2 + f)) {g : Nat} (hgn : g < znf X u) (hkg : zNk (zKx (X u) g)) (h2g : zI σ (5 + 18 + 8 * c + 2 + f) 2 = iZ (g : Int)) {Q : zSt → Option Value → Prop} (k : ∀ σ2, zAs σ0 σ2 (p + 5) 14 → zXr σ2 a X u v c (f + 1) → zR σ2 1 16 = some (5 + 18 + 8 * c + 2 + f) → zGo σ2 (p + 5) Q) : zGo σ p Q := by
  have w := zow2_ok (j := 15) (by decide)
  refine s_wordC h0 h (by decide) hl hp (Or.inr rfl) w.1 w.2.1 hr rfl w.2.2 (fun σ1 f1 B1 m1 t1 h3 o1 => ?_)
  have hX1 := hX.k1 ha m1
  have hz := znf_rng X u
  exact t_tXOv B1.1 hX1.2.2.2 (by omega) (by omega) hc hf (m1.r h16) (hX1.1 u hu) (znf6 X u) hgn (by have := hkg; omega) (m1.i h2g (by simp only [List.mem_cons, List.not_mem_nil, or_false, not_false_eq_true] <;> omega)) t1 h3 (fun σ2 m2 s2 a2 e2 => ⟨rfl, p + 5, by simp, k σ2 ⟨f1.trans (m2.q.mono (fun x hx => zWp_in (by simp only [List.mem_cons, List.not_mem_nil, or_false] at hx; omega))), s2, a2⟩ (hX1.kr ha m2 (e2 0 (by decide))) (m2.r (m1.r h16))⟩)
theorem r_xPl {σ0 σ : zSt} {l : List Int} (h0 : zBas σ0 l) {p : Nat} (h : zAs σ0 σ p 13) {pre r : List Int} (hl : l = pre ++ ([32] ++ (zow2 16 ++ r))) (hp : pre.length = p) (hr : zStp r) {a : Nat} (ha : a ≤ 3) {X : Nat → Int} {u v c f : Nat} (hX : zXr σ a X u v c (f + 1)) (hu : u < a) (hv : v < a) (hc : c < 4) (hf : f < 6) (h16 : zR σ 1 16 = some (5 + 18 + 8 * c + 2 + f)) {g : Nat} (hgn : g < znf X u) (hkg : zNk (zKx (X u) g)) (h2g : zI σ (5 + 18 + 8 * c + 2 + f) 2 = iZ (g : Int)) {Q : zSt → Option Value → Prop} (k : ∀ σ2, zAs σ0 σ2 (p + 5) 15 → zXr σ2 a X u v c (f + 1) → zR σ2 1 16 = some (5 + 18 + 8 * c + 2 + f) → zGo σ2 (p + 5) Q) : zGo σ p Q := by
  have w := zow2_ok (j := 16) (by decide)
  refine s_wordC h0 h (by decide) hl hp (Or.inr rfl) w.1 w.2.1 hr rfl w.2.2 (fun σ1 f1 B1 m1 t1 h3 o1 => ?_)
  have hX1 := hX.k1 ha m1
  have hz := znf_rng X u
  exact t_tXPl B1.1 hX1.2.2.2 (by omega) (by omega) hc hf (m1.r h16) (hX1.1 u hu) (znf6 X u) hgn (by have := hkg; omega) (m1.i h2g (by simp only [List.mem_cons, List.not_mem_nil, or_false, not_false_eq_true] <;> omega)) t1 h3 (fun σ2 m2 s2 a2 e2 => ⟨rfl, p + 5, by simp, k σ2 ⟨f1.trans (m2.q.mono (fun x hx => zWp_in (by simp only [List.mem_cons, List.not_mem_nil, or_false] at hx; omega))), s2, a2⟩ (hX1.kr ha m2 (e2 0 (by decide))) (m2.r (m1.r h16))⟩)
theorem r_xFac {σ0 σ : zSt} {l : List Int} {n : Int} (h0 : zBas σ0 l) {p : Nat} (h : zAs σ0 σ p 14) {pre r : List Int} (hl : l = pre ++ ([32] ++ (znu n ++ r))) (hp : pre.length = p) (hr : zStp r) (hn : 1 ≤ n ∧ n ≤ 99) {a : Nat} (ha : a ≤ 3) {X : Nat → Int} {u v c f : Nat} (hX : zXr σ a X u v c (f + 1)) (hu : u < a) (hv : v < a) (hc : c < 4) (hf : f < 6) (h16 : zR σ 1 16 = some (5 + 18 + 8 * c + 2 + f)) {Q : zSt → Option Value → Prop} (k : ∀ σ2, zAs σ0 σ2 (p + 1 + (znu n).length) 16 → zXr σ2 a X u v c (f + 1) → zR σ2 1 16 = some (5 + 18 + 8 * c + 2 + f) → zGo σ2 (p + 1 + (znu n).length) Q) : zGo σ p Q := by
  have w := znu_ok (v := n) (by omega)
  refine s_numC h0 h (by decide) hl hp (Or.inr rfl) w.1 w.2.1 hr w.2.2 (fun σ1 f1 B1 m1 t1 h3 o1 => ?_)
  have hlen := B1.2.1.2.1
  have hll : l.length = pre.length + (1 + ((znu n).length + r.length)) := by rw [hl]; simp only [List.length_append, List.length_singleton]
  have hX1 := hX.k1 ha m1
  exact t_tXFac B1.1 B1.2.1 hX1.2.2.2 (by omega) (by omega) hc hf (m1.r h16) t1 w.2.1 (by simp only [List.length_singleton]; omega) (zb32 hl hp) (by omega) h3 (fun σ2 m2 s2 a2 e2 => ⟨rfl, p + 1 + (znu n).length, (by simp only [List.length_singleton]; omega), k σ2 ⟨f1.trans (m2.q.mono (fun x hx => zWp_in (by simp only [List.mem_cons, List.not_mem_nil, or_false] at hx; omega))), s2, a2⟩ (hX1.kr ha m2 (e2 0 (by decide))) (m2.r (m1.r h16))⟩)
theorem r_x2 {σ0 σ : zSt} {l : List Int} {g : Nat} (h0 : zBas σ0 l) {p : Nat} (h : zAs σ0 σ p 15) {pre r : List Int} (hl : l = pre ++ ([32] ++ (zfn g ++ r))) (hp : pre.length = p) (hr : zStp r) {a : Nat} (ha : a ≤ 3) {X : Nat → Int} {u v c f : Nat} (hX : zXr σ a X u v c (f + 1)) (hu : u < a) (hv : v < a) (hc : c < 4) (hf : f < 6) (h16 : zR σ 1 16 = some (5 + 18 + 8 * c + 2 + f)) (hgn : g < znf X u) (hkg : zNk (zKx (X u) g)) {Q : zSt → Option Value → Prop} (k : ∀ σ2, zAs σ0 σ2 (p + 3) 16 → zXr σ2 a X u v c (f + 1) → zR σ2 1 16 = some (5 + 18 + 8 * c + 2 + f) → zGo σ2 (p + 3) Q) : zGo σ p Q := by
  have hz := znf_rng X u
  have w := zfn_ok (f := g) (by omega)
  have hfl : (zfn (g : Nat)).length = 2 := rfl
  refine s_wordC h0 h (by decide) hl hp (Or.inr rfl) w.1 ⟨by omega, by omega⟩ hr w.2.1 w.2.2 (fun σ1 f1 B1 m1 t1 h3 o1 => ?_)
  have hX1 := hX.k1 ha m1
  exact t_tX2 B1.1 hX1.2.2.2 (by omega) (by omega) hc hf (m1.r h16) (hX1.1 u hu) (znf6 X u) hgn (by have := hkg; omega) t1 h3 (fun σ2 m2 s2 a2 e2 => ⟨rfl, p + 3, by simp, k σ2 ⟨f1.trans (m2.q.mono (fun x hx => zWp_in (by simp only [List.mem_cons, List.not_mem_nil, or_false] at hx; omega))), s2, a2⟩ (hX1.kr ha m2 (e2 0 (by decide))) (m2.r (m1.r h16))⟩)
theorem r_xgC13 {σ0 σ : zSt} {l : List Int} (h0 : zBas σ0 l) {p : Nat} (h : zAs σ0 σ p 13) {pre r : List Int} (hl : l = pre ++ (44 :: r)) (hp : pre.length = p) {a : Nat} (ha : a ≤ 3) {X : Nat → Int} {u v c f : Nat} (hX : zXr σ a X u v c (f + 1)) (hu : u < a) (hv : v < a) (hc : c < 4) (hf : f < 6) (h16 : zR σ 1 16 = some (5 + 18 + 8 * c + 2 + f)) (hfn : f < znf X v) {Q : zSt → Option Value → Prop} (k : ∀ σ2, zAs σ0 σ2 (p + 1) 10 → zXr σ2 a X u v c (f + 1) → zGo σ2 (p + 1) Q) : zGo σ p Q := by
  refine s_signC h0 h (by decide) hl hp (by decide) (fun σ1 f1 B1 m1 t1 hc4 h3 o1 => ?_)
  have hlen := B1.2.1.2.1
  have hll : l.length = pre.length + (r.length + 1) := by rw [hl]; simp only [List.length_append, List.length_cons]
  have hX1 := hX.k1 ha m1
  have hz := znf_rng X u
  have hz2 := znf_rng X v
  exact t_tXgC13 B1.1 B1.2.1 hX1.2.2.2 (by omega) (by omega) hc hf (m1.r h16) (hX1.1 u hu) (hX1.1 v hv) (znf6 X u) (znf6 X v) (fun g _ => zKC _ g) (fun g _ => zKC _ g) hfn t1 (by omega) hc4 h3 (fun σ2 m2 s2 a2 e2 => ⟨rfl, p + 1, by omega, k σ2 ⟨f1.trans (m2.q.mono (fun x hx => zWp_in (by simp only [List.mem_cons, List.not_mem_nil, or_false] at hx; omega))), s2, a2⟩ (hX1.kr ha m2 (e2 0 (by decide)))⟩)
theorem r_xgC16 {σ0 σ : zSt} {l : List Int} (h0 : zBas σ0 l) {p : Nat} (h : zAs σ0 σ p 16) {pre r : List Int} (hl : l = pre ++ (44 :: r)) (hp : pre.length = p) {a : Nat} (ha : a ≤ 3) {X : Nat → Int} {u v c f : Nat} (hX : zXr σ a X u v c (f + 1)) (hu : u < a) (hv : v < a) (hc : c < 4) (hf : f < 6) (h16 : zR σ 1 16 = some (5 + 18 + 8 * c + 2 + f)) (hfn : f < znf X v) {Q : zSt → Option Value → Prop} (k : ∀ σ2, zAs σ0 σ2 (p + 1) 10 → zXr σ2 a X u v c (f + 1) → zGo σ2 (p + 1) Q) : zGo σ p Q := by
  refine s_signC h0 h (by decide) hl hp (by decide) (fun σ1 f1 B1 m1 t1 hc4 h3 o1 => ?_)
  have hlen := B1.2.1.2.1
  have hll : l.length = pre.length + (r.length + 1) := by rw [hl]; simp only [List.length_append, List.length_cons]
  have hX1 := hX.k1 ha m1
  have hz := znf_rng X u
  have hz2 := znf_rng X v
  exact t_tXgC16 B1.1 B1.2.1 hX1.2.2.2 (by omega) (by omega) hc hf (m1.r h16) (hX1.1 u hu) (hX1.1 v hv) (znf6 X u) (znf6 X v) (fun g _ => zKC _ g) (fun g _ => zKC _ g) hfn t1 (by omega) hc4 h3 (fun σ2 m2 s2 a2 e2 => ⟨rfl, p + 1, by omega, k σ2 ⟨f1.trans (m2.q.mono (fun x hx => zWp_in (by simp only [List.mem_cons, List.not_mem_nil, or_false] at hx; omega))), s2, a2⟩ (hX1.kr ha m2 (e2 0 (by decide)))⟩)
theorem r_xgS13 {σ0 σ : zSt} {l : List Int} (h0 : zBas σ0 l) {p : Nat} (h : zAs σ0 σ p 13) {pre r : List Int} (hl : l = pre ++ (59 :: r)) (hp : pre.length = p) {a : Nat} (ha : a ≤ 3) {X : Nat → Int} {u v c f : Nat} (hX : zXr σ a X u v c (f + 1)) (hu : u < a) (hv : v < a) (hc : c < 4) (hf : f < 6) (h16 : zR σ 1 16 = some (5 + 18 + 8 * c + 2 + f)) (hfn : f < znf X v) {Q : zSt → Option Value → Prop} (k : ∀ σ2, zAs σ0 σ2 (p + 1) 0 → zXr σ2 a X u v c (f + 1) → zGo σ2 (p + 1) Q) : zGo σ p Q := by
  refine s_signC h0 h (by decide) hl hp (by decide) (fun σ1 f1 B1 m1 t1 hc4 h3 o1 => ?_)
  have hlen := B1.2.1.2.1
  have hll : l.length = pre.length + (r.length + 1) := by rw [hl]; simp only [List.length_append, List.length_cons]
  have hX1 := hX.k1 ha m1
  have hz := znf_rng X u
  have hz2 := znf_rng X v
  exact t_tXgS13 B1.1 B1.2.1 hX1.2.2.2 (by omega) (by omega) hc hf (m1.r h16) (hX1.1 u hu) (hX1.1 v hv) (znf6 X u) (znf6 X v) (fun g _ => zKC _ g) (fun g _ => zKC _ g) hfn t1 (by omega) hc4 h3 (fun σ2 m2 s2 a2 e2 => ⟨rfl, p + 1, by omega, k σ2 ⟨f1.trans (m2.q.mono (fun x hx => zWp_in (by simp only [List.mem_cons, List.not_mem_nil, or_false] at hx; omega))), s2, a2⟩ (hX1.kr ha m2 (e2 0 (by decide)))⟩)
theorem r_xgS16 {σ0 σ : zSt} {l : List Int} (h0 : zBas σ0 l) {p : Nat} (h : zAs σ0 σ p 16) {pre r : List Int} (hl : l = pre ++ (59 :: r)) (hp : pre.length = p) {a : Nat} (ha : a ≤ 3) {X : Nat → Int} {u v c f : Nat} (hX : zXr σ a X u v c (f + 1)) (hu : u < a) (hv : v < a) (hc : c < 4) (hf : f < 6) (h16 : zR σ 1 16 = some (5 + 18 + 8 * c + 2 + f)) (hfn : f < znf X v) {Q : zSt → Option Value → Prop} (k : ∀ σ2, zAs σ0 σ2 (p + 1) 0 → zXr σ2 a X u v c (f + 1) → zGo σ2 (p + 1) Q) : zGo σ p Q := by
  refine s_signC h0 h (by decide) hl hp (by decide) (fun σ1 f1 B1 m1 t1 hc4 h3 o1 => ?_)
  have hlen := B1.2.1.2.1
  have hll : l.length = pre.length + (r.length + 1) := by rw [hl]; simp only [List.length_append, List.length_cons]
  have hX1 := hX.k1 ha m1
  have hz := znf_rng X u
  have hz2 := znf_rng X v
  exact t_tXgS16 B1.1 B1.2.1 hX1.2.2.2 (by omega) (by omega) hc hf (m1.r h16) (hX1.1 u hu) (hX1.1 v hv) (znf6 X u) (znf6 X v) (fun g _ => zKC _ g) (fun g _ => zKC _ g) hfn t1 (by omega) hc4 h3 (fun σ2 m2 s2 a2 e2 => ⟨rfl, p + 1, by omega, k σ2 ⟨f1.trans (m2.q.mono (fun x hx => zWp_in (by simp only [List.mem_cons, List.not_mem_nil, or_false] at hx; omega))), s2, a2⟩ (hX1.kr ha m2 (e2 0 (by decide)))⟩)
