/-! THE LAW: its book -/
theorem w_slenZ {c : zCode} {pc pc' t : Nat} {ls : zLv} {r : List Value} {σ : zSt} {Q : zSt → Option Value → Prop} {L : Nat} (hk : zat c pc .arraylength 1 t pc') (hL : zR σ zSCR 0 = some L) (kk : zP c pc' ls (.int (iZ (L : Int)) :: r) σ Q) : zP c pc ls (.ref zSCR :: r) σ Q := w_slen hk hL (iZ_n L ▸ kk)
/-- the book as numbers -/
def ztB (a c : Nat) (X : Nat → Int) : zBk := fun i => if i = 0 then (a : Int) else if i = 1 then (c : Int) else if (i - 2) % 20 = 1 then (znf X ((i - 2) / 20) : Int) else if ((i - 2) % 20 - 2) % 3 = 1 then zKx (X ((i - 2) / 20)) (((i - 2) % 20 - 2) / 3) else zCx (X ((i - 2) / 20)) (((i - 2) % 20 - 2) / 3)
theorem zqd5 {s f : Nat} (h : f < 6) : (5 + 20 * s + 3 * f - 2) / 20 = s := by omega
theorem zqd6 {s f : Nat} (h : f < 6) : (6 + 20 * s + 3 * f - 2) / 20 = s := by omega
theorem zqm5 {s f : Nat} (h : f < 6) : ((5 + 20 * s + 3 * f - 2) % 20 - 2) / 3 = f := by rcases zr6 h with rfl | rfl | rfl | rfl | rfl | rfl <;> omega
theorem zqm6 {s f : Nat} (h : f < 6) : ((6 + 20 * s + 3 * f - 2) % 20 - 2) / 3 = f := by rcases zr6 h with rfl | rfl | rfl | rfl | rfl | rfl <;> omega
theorem ztB_nf {a c : Nat} {X : Nat → Int} (s : Nat) : zNF (ztB a c X) s = (znf X s : Int) := by
  unfold zNF ztB
  rw [if_neg (by omega), if_neg (by omega), if_pos (by omega), show (3 + 20 * s - 2) / 20 = s by omega]
theorem ztB_kd {a c : Nat} {X : Nat → Int} {s f : Nat} (h : f < 6) : zKD (ztB a c X) s f = zKx (X s) f := by
  unfold zKD ztB
  rcases zr6 h with rfl | rfl | rfl | rfl | rfl | rfl <;> rw [if_neg (by omega), if_neg (by omega), if_neg (by omega), if_pos (by omega), zqd5 (by omega), zqm5 (by omega)]
theorem ztB_ce {a c : Nat} {X : Nat → Int} {s f : Nat} (h : f < 6) : zCE (ztB a c X) s f = zCx (X s) f := by
  unfold zCE ztB
  rcases zr6 h with rfl | rfl | rfl | rfl | rfl | rfl <;> rw [if_neg (by omega), if_neg (by omega), if_neg (by omega), if_neg (by omega), zqd6 (by omega), zqm6 (by omega)]
theorem ztB_st {a c : Nat} {X : Nat → Int} {s : Nat} : ∀ {n : Nat}, n ≤ 6 → zst (ztB a c X) s n = zsu (zCx (X s)) n
  | 0, _ => rfl
  | n + 1, h => by rw [zst, zsu, ztB_st (by omega), ztB_ce (by omega)]
theorem ztB_v {a c : Nat} {X : Nat → Int} (h : a ≤ 3 ∧ c ≤ 4) : zVt (ztB a c X) := by
  refine ⟨⟨Int.natCast_nonneg _, by show (a : Int) ≤ 3; omega⟩, ⟨Int.natCast_nonneg _, by show (c : Int) ≤ 4; omega⟩, fun s hs => ?_, trivial⟩
  have hz := znf_rng X s
  refine ⟨⟨by rw [ztB_nf]; omega, fun f hf => ?_⟩, by rw [ztB_nf]; omega⟩
  rw [ztB_nf] at hf
  rw [ztB_kd (by omega), ztB_ce (by omega)]
  exact zKC (X s) f
theorem ztB_pl {σ : zSt} {a c : Nat} {X : Nat → Int} (hC : zCm σ a X) (e2 : zI σ 5 2 = iZ (a : Int)) (e3 : zI σ 5 3 = iZ (c : Int)) : zPl σ 5 (ztB a c X) := by
  refine ⟨e2, e3, fun s hs => ?_, trivial⟩
  have hs' : s < a := by have : (s : Int) < (a : Int) := hs; omega
  have h := hC s hs'
  have hz := znf_rng X s
  refine ⟨by rw [ztB_nf]; exact h.2.1, by rw [ztB_nf, Int.toNat_natCast, ztB_st (by omega)]; exact h.2.2.1, fun f hf => ?_⟩
  rw [ztB_nf] at hf
  have hq := h.2.2.2 f (by show f < znf X s; omega)
  rw [ztB_kd (by omega), ztB_ce (by omega), ztB_st (by omega)]
  exact hq.2
/-- the rows: what may stand in them -/
def zRk (t : zBk) (R : zRw0) : Prop := (∀ s f r i : Nat, (s : Int) < t 0 → zClF t s f i → r < 8 → zcl (zKD t s f) (R (zpq t s f r i))) ∧ (∀ z : Nat, z < 4 → ∃ x : Int, R (3 + z) = lZ x ∧ 0 ≤ x ∧ x ≤ 10) ∧ ∀ s : Nat, s < 3 → R s = lZ 0
theorem zpq_rng {t : zBk} (hVt : zVt t) {s f r i : Nat} (hs : (s : Int) < t 0) (hc : zClF t s f i) (hr : r < 8) : 11 ≤ zpq t s f r i ∧ zpq t s f r i < 587 := by
  have h24 := zst_24 (hVt.2.2.1 s hs).1 hc.1
  have h3 := zu3 hVt hs
  have := hc.2
  unfold zpq
  omega
theorem zclr_far {R : zRw0} {j : Nat} (h1 : j < 3 ∨ 11 ≤ j) (h2 : j < 587) : zclr R j = lZ 0 := by
  unfold zclr va_up zfil
  rw [if_neg (by omega), if_neg (by omega), if_neg (by omega), if_neg (by omega), if_neg (by omega), if_neg (by omega), if_neg (by omega), if_neg (by omega), if_pos h2]
theorem zclr_rk {t : zBk} (hVt : zVt t) {R : zRw0} : zRk t (zclr R) := by
  refine ⟨fun s f r i hs hc hr => ?_, fun z hz => ?_, fun s hs => zclr_far (Or.inl hs) (by omega)⟩
  · have := zpq_rng hVt hs hc hr
    rw [zclr_far (Or.inr this.1) this.2]
    exact Or.inl (zok_0 _)
  · rcases (show z = 0 ∨ z = 1 ∨ z = 2 ∨ z = 3 by omega) with rfl | rfl | rfl | rfl
    · exact ⟨4, rfl, by decide, by decide⟩
    · exact ⟨8, rfl, by decide, by decide⟩
    · exact ⟨10, rfl, by decide, by decide⟩
    · exact ⟨0, rfl, by decide, by decide⟩
/-- the script -/
def zLx (σ : zSt) (L : Nat) (x : Nat → Int) : Prop := zR σ zSCR 0 = some L ∧ ∀ j, zI σ zSCR j = iZ (x j)
theorem zLx.fm {w : List Nat} {σ σ' : zSt} {L : Nat} {x : Nat → Int} (h : zLx σ L x) (m : zFm w σ σ') (hw : ∀ o, o ∈ w → o ≤ 200) : zLx σ' L x := ⟨m.r h.1, fun j => m.i (h.2 j) (fun q => by have := hw _ q; unfold zSCR at this; omega)⟩
def zpc (L : Nat) (x : Nat → Int) (k : Nat) : Int := if k < L then x k else 0
theorem zpc_rng {L : Nat} {x : Nat → Int} (h : ∀ j, -2147483648 ≤ x j ∧ x j ≤ 2147483647) (k : Nat) : -2147483648 ≤ zpc L x k ∧ zpc L x k ≤ 2147483647 := by
  unfold zpc
  split
  · exact h k
  · omega
/-- all that stands behind book() -/
def zLV (σ : zSt) (t : zBk) (L : Nat) (x : Nat → Int) (n : Nat) (y : Int) : Prop := (zFx σ ∧ zVt t ∧ zR σ 0 10 = some 5 ∧ zPl σ 5 t ∧ 1 ≤ t 0) ∧ (zI σ 79 2 = iZ (n : Int) ∧ n < 20 ∧ zI σ 79 3 = iZ y ∧ 0 ≤ y ∧ y ≤ 20) ∧ zRk t (zL σ 80) ∧ zN σ = 166 ∧ zLx σ L x
theorem zRk.cn {σ : zSt} {t : zBk} (h : zRk t (zL σ 80)) : zCn σ (fun _ => 0) := fun s hs => ⟨h.2.2 s hs, Int.le_refl 0, show (0 : Int) ≤ 8 by decide⟩
theorem f_pick {σ : zSt} {L : Nat} {x : Nat → Int} (hX : zLx σ L x) (hL : L ≤ 260) {j : Nat} (hj : j ≤ 1000) {Q : zSt → Option Value → Prop} (k : Q σ (some (.int (iZ (zpc L x j))))) : zCa 119 [.ref zSCR, .int (iZ (j : Int))] σ Q := by
  refine w_enter (c := zk_L_pick) (ls2 := [(0, .ref zSCR), (1, .int (iZ (j : Int)))]) rfl ⟨rfl, rfl, trivial⟩ ?_
  refine w_iload_n (pc' := 1) ⟨rfl, rfl⟩ rfl ?_
  refine w_ifF_lt (pc' := 4) ⟨rfl, rfl⟩ (by omega) ?_
  refine w_iload_n (pc' := 5) ⟨rfl, rfl⟩ rfl ?_
  refine w_aload_n (pc' := 6) ⟨rfl, rfl⟩ rfl ?_
  refine w_slenZ (pc' := 7) ⟨rfl, rfl⟩ hX.1 ?_
  refine w_ic_ge (pc' := 10) (pcT := 16) ⟨rfl, rfl⟩ rfl (by omega) (by omega) (fun h1 => ?_) (fun h1 => ?_)
  · refine w_ic (pc' := 17) ⟨rfl, rfl⟩ ?_
    refine w_ireturn (pc' := 18) ⟨rfl, rfl⟩ (Or.inl rfl) ?_
    first | exact zQi k (by unfold zpc; rw [if_pos (by omega)]) | exact zQi k (by unfold zpc; rw [if_neg (by omega)])
  · refine w_aload_n (pc' := 11) ⟨rfl, rfl⟩ rfl ?_
    refine w_iload_n (pc' := 12) ⟨rfl, rfl⟩ rfl ?_
    refine w_sald (pc' := 13) ⟨rfl, rfl⟩ hX.1 (zixA (j := j) (by omega)) ?_
    refine w_topI (hX.2 j) ?_
    refine w_goto (pc' := 16) (pcT := 17) ⟨rfl, rfl⟩ rfl ?_
    refine w_ireturn (pc' := 18) ⟨rfl, rfl⟩ (Or.inl rfl) ?_
    first | exact zQi k (by unfold zpc; rw [if_pos (by omega)]) | exact zQi k (by unfold zpc; rw [if_neg (by omega)])
/-- all that stands while the book is said -/
def zSy (σ : zSt) (L : Nat) (x : Nat → Int) (l : List Int) (n : Nat) : Prop := zBe σ l n ∧ (zR σ 0 10 = some 114 ∧ zR σ 1 2 = some 5 ∧ zOwn σ) ∧ zN σ = 166 ∧ zLx σ L x ∧ zA σ 165 12 3 ∧ ∀ i : Nat, i < 3 → zI σ 165 i = iZ (zpc L x i)
theorem zSy.fm {σ σ' : zSt} {L : Nat} {x : Nat → Int} {l l' : List Int} {n n' : Nat} (h : zSy σ L x l n) (m : zFm [3, 4, 164] σ σ') (hb : zBe σ' l' n') : zSy σ' L x l' n' := ⟨hb, ⟨m.r h.2.1.1, m.r h.2.1.2.1, zOwn.fr h.2.1.2.2 m (by decide)⟩, m.1.trans h.2.2.1, h.2.2.2.1.fm m (fun o q => by simp only [List.mem_cons, List.not_mem_nil, or_false] at q; omega), h.2.2.2.2.1.fm m, fun i hi => m.i (h.2.2.2.2.2 i hi) (by decide)⟩
theorem y_scheme {σ : zSt} {L : Nat} {x : Nat → Int} {l : List Int} {n : Nat} (h : zSy σ L x l n) (hn : n + 160 ≤ 1600) {s X : Int} (hs : 0 ≤ s ∧ s ≤ 2) (hX : -2147483648 ≤ X ∧ X ≤ 2147483647) {Q : zSt → Option Value → Prop} (k : ∀ σ1, zSy σ1 L x (l ++ zScT s X) (n + 111) → Q σ1 (some (.int (iZ 1)))) : zCa 125 [.ref 0, .int (iZ s), .int (iZ X), .ref 164] σ Q := f_scheme h.1 hn hs hX (fun σ1 m b => k σ1 (h.fm m b))
theorem y_cross {σ : zSt} {L : Nat} {x : Nat → Int} {l : List Int} {n : Nat} (h : zSy σ L x l n) (hn : n + 160 ≤ 1600) {u v a b X : Int} (hu : 0 ≤ u ∧ u ≤ 2) (hv : 0 ≤ v ∧ v ≤ 2) (ha : -2147483648 ≤ a ∧ a ≤ 2147483647) (hb : -2147483648 ≤ b ∧ b ≤ 2147483647) (hX : -2147483648 ≤ X ∧ X ≤ 2147483647) {Q : zSt → Option Value → Prop} (k : ∀ σ1, zSy σ1 L x (l ++ zcT u v a b X) (n + 116) → Q σ1 (some (.int (iZ 1)))) : zCa 129 [.ref 0, .int (iZ u), .int (iZ v), .int (iZ a), .int (iZ b), .int (iZ X), .ref 164] σ Q := f_cross h.1 hn hu hv ha hb hX (fun σ1 m b => k σ1 (h.fm m b))
theorem zfx_lt {o k a : Nat} (h : zfx o k = some a) : o < 164 := by
  rcases Nat.lt_or_ge o 164 with h1 | h1
  · exact h1
  · unfold zfx at h
    rw [List.getElem?_eq_none (by have : zfxl.length = 164 := by decide +kernel
                                  omega)] at h
    cases h
/-- one object more -/
def zFn (σ σ' : zSt) : Prop := zN σ' = zN σ + 1 ∧ ∀ o, o ≠ zN σ → (∀ k, zI σ' o k = zI σ o k) ∧ (∀ k, zL σ' o k = zL σ o k) ∧ ∀ k, zR σ' o k = zR σ o k
theorem zFn.mk (σ : zSt) : zFn σ (znew σ) := ⟨rfl, fun o h => ⟨fun k => by
    show va_up σ.1 (zN σ) (fun _ => 0) o k = _
    unfold va_up; rw [if_neg h]; rfl, fun k => by
    show va_up σ.2.1 (zN σ) (fun _ => 0) o k = _
    unfold va_up; rw [if_neg h]; rfl, fun k => by
    show va_up σ.2.2.1 (zN σ) (fun _ => none) o k = _
    unfold va_up; rw [if_neg h]; rfl⟩⟩
theorem w_gN {c : zCode} {pc : Nat} {ls : zLv} {st : List Value} {σ : zSt} {Q : zSt → Option Value → Prop} (h : ∀ σ1, zFn σ σ1 → zP c pc ls st σ1 Q) : zP c pc ls st (znew σ) Q := h _ (zFn.mk σ)
theorem zNew.fn {σ σ' : zSt} (h : zNew σ) (m : zFn σ σ') : zNew σ' := by
  have h164 := h.1.1
  have hk : ∀ o, o < 164 → o ≠ zN σ := fun o ho => by omega
  refine ⟨⟨by rw [m.1]; omega, fun o k a e => ((m.2 o (hk o (zfx_lt e))).2.2 k).trans (h.1.2 o k a e)⟩, ((m.2 0 (hk 0 (by decide))).2.2 10).trans h.2.1, ((m.2 1 (hk 1 (by decide))).2.2 2).trans h.2.2.1, ⟨((m.2 3 (hk 3 (by decide))).1 1).trans h.2.2.2.1.1, h.2.2.2.1.2.1, fun i hi => absurd hi (by simp)⟩, fun k hk2 => ((m.2 2 (hk 2 (by decide))).1 k).trans (h.2.2.2.2 k hk2)⟩
theorem zNew.fm {w : List Nat} {σ σ' : zSt} (h : zNew σ) (m : zFm w σ σ') (hw : ∀ o, o ∈ w → 164 ≤ o) : zNew σ' := ⟨m.fx h.1, m.r h.2.1, m.r h.2.2.1, zTL.fr h.2.2.2.1 m (fun q => by have := hw _ q; omega) (fun q => by have := hw _ q; omega), zOwn.fr h.2.2.2.2 m (fun q => by have := hw _ q; omega)⟩
theorem zLx.fn {σ σ' : zSt} {L : Nat} {x : Nat → Int} (h : zLx σ L x) (m : zFn σ σ') (hn : zN σ ≤ 200) : zLx σ' L x := ⟨((m.2 zSCR (by unfold zSCR; omega)).2.2 0).trans h.1, fun j => ((m.2 zSCR (by unfold zSCR; omega)).1 j).trans (h.2 j)⟩
theorem zBas.eq {σ : zSt} {l l' : List Int} (h : zBas σ l) (e : l = l') : zBas σ l' := e ▸ h
theorem zaH0 {t : zBk} {c : Nat → Int} {y : Int} : zaH t c y 0 = t 0 := by
  unfold zaH
  rw [if_neg (by omega), if_pos rfl]
theorem zaH1 {t : zBk} {c : Nat → Int} {y : Int} : zaH t c y 1 = t 1 := by
  unfold zaH
  rw [if_neg (by omega), if_neg (by omega), if_pos rfl]
theorem f_book {σ : zSt} {L : Nat} {x : Nat → Int} (hN : zNew σ) (hn : zN σ = 165) (hX : zLx σ L x) (hL : L ≤ 260) (hx : ∀ j, -2147483648 ≤ x j ∧ x j ≤ 2147483647) {Q : zSt → Option Value → Prop} (k : ∀ σ2 t, zLV σ2 t L x 0 0 → (∃ R : zRw0, zL σ2 80 = zclr R) → Q σ2 (some (.int (iZ 1)))) : zCa 130 [.ref 0, .ref zSCR, .ref 164] σ Q := by
  refine w_enter (c := zk_L_book) (ls2 := [(0, .ref 0), (1, .ref zSCR), (2, .ref 164)]) rfl ⟨rfl, rfl, rfl, trivial⟩ ?_
  have hA : zA σ 164 12 1 := ⟨by omega, rfl, by decide⟩
  refine w_aload_n (pc' := 1) ⟨rfl, rfl⟩ rfl ?_
  refine w_ic (pc' := 2) ⟨rfl, rfl⟩ ?_
  refine w_ic (pc' := 3) ⟨rfl, rfl⟩ ?_
  refine w_iast (pc' := 4) ⟨rfl, rfl⟩ hA (zixA (j := 0) (by decide)) ?_
  refine w_gI (fun σ1 m1 e1 o1 => ?_)
  have hN := hN.fm m1 (fun o q => by rw [List.mem_singleton] at q; omega)
  have hX := hX.fm m1 (fun o q => by rw [List.mem_singleton] at q; omega)
  have hn1 := m1.1.trans hn
  refine w_ic (pc' := 5) ⟨rfl, rfl⟩ ?_
  refine w_newa (pc' := 7) ⟨rfl, rfl⟩ ⟨by decide, by rw [hn1]; rfl⟩ ⟨by decide, rfl⟩ ?_
  rw [hn1]
  refine w_gN (fun σ2 n2 => ?_)
  have hN := hN.fn n2
  have hX := hX.fn n2 (by omega)
  have e1 := ((n2.2 164 (by omega)).1 0).trans e1
  have hn2 : zN σ2 = 166 := by rw [n2.1, hn1]
  have hA5 : zA σ2 165 12 3 := ⟨by omega, rfl, by decide⟩
  refine w_dupR (pc' := 8) ⟨rfl, rfl⟩ ?_
  refine w_ic (pc' := 9) ⟨rfl, rfl⟩ ?_
  refine w_aload_n (pc' := 10) ⟨rfl, rfl⟩ rfl ?_
  refine w_ic (pc' := 11) ⟨rfl, rfl⟩ ?_
  refine w_cs2 (pc' := 14) ⟨rfl, rfl⟩ (by decide) (Nat.le_of_ble_eq_true rfl) (Nat.le_of_ble_eq_true rfl) (f_pick hX hL (j := 0) (by decide) ?_)
  refine w_iast (pc' := 15) ⟨rfl, rfl⟩ hA5 (zixA (j := 0) (by decide)) ?_
  refine w_gI (fun σ3 m3 x0 o3 => ?_)
  have hN := hN.fm m3 (fun o q => by rw [List.mem_singleton] at q; omega)
  have hX := hX.fm m3 (fun o q => by rw [List.mem_singleton] at q; omega)
  have e1 := m3.i e1 (by decide)
  have hA5 := hA5.fm m3
  refine w_dupR (pc' := 16) ⟨rfl, rfl⟩ ?_
  refine w_ic (pc' := 17) ⟨rfl, rfl⟩ ?_
  refine w_aload_n (pc' := 18) ⟨rfl, rfl⟩ rfl ?_
  refine w_ic (pc' := 19) ⟨rfl, rfl⟩ ?_
  refine w_cs2 (pc' := 22) ⟨rfl, rfl⟩ (by decide) (Nat.le_of_ble_eq_true rfl) (Nat.le_of_ble_eq_true rfl) (f_pick hX hL (j := 1) (by decide) ?_)
  refine w_iast (pc' := 23) ⟨rfl, rfl⟩ hA5 (zixA (j := 1) (by decide)) ?_
  refine w_gI (fun σ4 m4 x1 o4 => ?_)
  have hN := hN.fm m4 (fun o q => by rw [List.mem_singleton] at q; omega)
  have hX := hX.fm m4 (fun o q => by rw [List.mem_singleton] at q; omega)
  have e1 := m4.i e1 (by decide)
  have hA5 := hA5.fm m4
  have x0 := (o4 0 (by decide)).trans x0
  refine w_dupR (pc' := 24) ⟨rfl, rfl⟩ ?_
  refine w_ic (pc' := 25) ⟨rfl, rfl⟩ ?_
  refine w_aload_n (pc' := 26) ⟨rfl, rfl⟩ rfl ?_
  refine w_ic (pc' := 27) ⟨rfl, rfl⟩ ?_
  refine w_cs2 (pc' := 30) ⟨rfl, rfl⟩ (by decide) (Nat.le_of_ble_eq_true rfl) (Nat.le_of_ble_eq_true rfl) (f_pick hX hL (j := 2) (by decide) ?_)
  refine w_iast (pc' := 31) ⟨rfl, rfl⟩ hA5 (zixA (j := 2) (by decide)) ?_
  refine w_gI (fun σ5 m5 x2 o5 => ?_)
  have hN := hN.fm m5 (fun o q => by rw [List.mem_singleton] at q; omega)
  have hX := hX.fm m5 (fun o q => by rw [List.mem_singleton] at q; omega)
  have e1 := m5.i e1 (by decide)
  have hA5 := hA5.fm m5
  have x0 := (o5 0 (by decide)).trans x0
  have x1 := (o5 1 (by decide)).trans x1
  have hn5 : zN σ5 = 166 := by rw [m5.1, m4.1, m3.1, hn2]
  have hY : zSy σ5 L x [] 0 := ⟨⟨hN.1, ⟨hN.2.2.2.1, ⟨by omega, rfl, by decide⟩, e1⟩, by decide⟩, ⟨hN.2.1, hN.2.2.1, hN.2.2.2.2⟩, hn5, hX, hA5, fun i hi => by
    rcases (show i = 0 ∨ i = 1 ∨ i = 2 by omega) with rfl | rfl | rfl
    · exact x0
    · exact x1
    · exact x2⟩
  refine w_astore_n (pc' := 32) ⟨rfl, rfl⟩ rfl ?_
  refine w_aload_n (pc' := 33) ⟨rfl, rfl⟩ rfl ?_
  refine w_ic (pc' := 34) ⟨rfl, rfl⟩ ?_
  refine w_cs2 (pc' := 37) ⟨rfl, rfl⟩ (by decide) (Nat.le_of_ble_eq_true rfl) (Nat.le_of_ble_eq_true rfl) (f_pick hX hL (j := 3) (by decide) ?_)
  refine w_ic (pc' := 38) ⟨rfl, rfl⟩ ?_
  refine w_iand (pc' := 39) ⟨rfl, rfl⟩ ?_
  refine w_topI (iZ_and1 _) ?_
  refine w_ic (pc' := 40) ⟨rfl, rfl⟩ ?_
  refine w_ic_ne (pc' := 43) (pcT := 47) ⟨rfl, rfl⟩ rfl (by omega) (by omega) (fun h1 => ?_) (fun h1 => ?_)
  · refine w_ic (pc' := 48) ⟨rfl, rfl⟩ ?_
    refine w_istore (pc' := 50) ⟨rfl, rfl⟩ rfl ?_
    refine w_ic (pc' := 51) ⟨rfl, rfl⟩ ?_
    refine w_istore (pc' := 53) ⟨rfl, rfl⟩ rfl ?_
    refine w_iload (pc' := 55) ⟨rfl, rfl⟩ rfl ?_
    refine w_iload (pc' := 57) ⟨rfl, rfl⟩ rfl ?_
    refine w_ifT_eq (pc' := 60) (pcT := 64) ⟨rfl, rfl⟩ rfl (by decide) ?_
    refine w_ic (pc' := 65) ⟨rfl, rfl⟩ ?_
    refine w_icF_ge (pc' := 68) ⟨rfl, rfl⟩ (by decide) ?_
    refine w_aload_n (pc' := 69) ⟨rfl, rfl⟩ rfl ?_
    refine w_iload (pc' := 71) ⟨rfl, rfl⟩ rfl ?_
    refine w_aload_n (pc' := 72) ⟨rfl, rfl⟩ rfl ?_
    refine w_iload (pc' := 74) ⟨rfl, rfl⟩ rfl ?_
    refine w_iald (pc' := 75) ⟨rfl, rfl⟩ hY.2.2.2.2.1 (zixA (j := 0) (by decide)) (hY.2.2.2.2.2 0 (by decide)) ?_
    refine w_aload_n (pc' := 76) ⟨rfl, rfl⟩ rfl ?_
    refine w_cs4 (pc' := 79) ⟨rfl, rfl⟩ (by decide) (Nat.le_of_ble_eq_true rfl) (Nat.le_of_ble_eq_true rfl) (y_scheme hY (by decide) (by decide) (zpc_rng hx _) (fun s0 hY => ?_))
    have hX := hY.2.2.2.1
    refine w_ifT_ne (pc' := 82) (pcT := 84) ⟨rfl, rfl⟩ rfl (by decide) ?_
    refine w_iincZ (pc' := 87) ⟨rfl, rfl⟩ rfl rfl ?_
    refine w_goto (pc' := 90) (pcT := 53) ⟨rfl, rfl⟩ rfl ?_
    refine w_iload (pc' := 55) ⟨rfl, rfl⟩ rfl ?_
    refine w_iload (pc' := 57) ⟨rfl, rfl⟩ rfl ?_
    refine w_ifT_eq (pc' := 60) (pcT := 64) ⟨rfl, rfl⟩ rfl (by decide) ?_
    refine w_ic (pc' := 65) ⟨rfl, rfl⟩ ?_
    refine w_icF_ge (pc' := 68) ⟨rfl, rfl⟩ (by decide) ?_
    refine w_aload_n (pc' := 69) ⟨rfl, rfl⟩ rfl ?_
    refine w_iload (pc' := 71) ⟨rfl, rfl⟩ rfl ?_
    refine w_aload_n (pc' := 72) ⟨rfl, rfl⟩ rfl ?_
    refine w_iload (pc' := 74) ⟨rfl, rfl⟩ rfl ?_
    refine w_iald (pc' := 75) ⟨rfl, rfl⟩ hY.2.2.2.2.1 (zixA (j := 1) (by decide)) (hY.2.2.2.2.2 1 (by decide)) ?_
    refine w_aload_n (pc' := 76) ⟨rfl, rfl⟩ rfl ?_
    refine w_cs4 (pc' := 79) ⟨rfl, rfl⟩ (by decide) (Nat.le_of_ble_eq_true rfl) (Nat.le_of_ble_eq_true rfl) (y_scheme hY (by decide) (by decide) (zpc_rng hx _) (fun s1 hY => ?_))
    have hX := hY.2.2.2.1
    refine w_ifT_ne (pc' := 82) (pcT := 84) ⟨rfl, rfl⟩ rfl (by decide) ?_
    refine w_iincZ (pc' := 87) ⟨rfl, rfl⟩ rfl rfl ?_
    refine w_goto (pc' := 90) (pcT := 53) ⟨rfl, rfl⟩ rfl ?_
    refine w_iload (pc' := 55) ⟨rfl, rfl⟩ rfl ?_
    refine w_iload (pc' := 57) ⟨rfl, rfl⟩ rfl ?_
    refine w_ifT_eq (pc' := 60) (pcT := 64) ⟨rfl, rfl⟩ rfl (by decide) ?_
    refine w_ic (pc' := 65) ⟨rfl, rfl⟩ ?_
    refine w_icT_ge (pc' := 68) (pcT := 90) ⟨rfl, rfl⟩ rfl (by decide) ?_
    refine w_aload_n (pc' := 91) ⟨rfl, rfl⟩ rfl ?_
    refine w_ic (pc' := 92) ⟨rfl, rfl⟩ ?_
    refine w_ic (pc' := 93) ⟨rfl, rfl⟩ ?_
    refine w_aload_n (pc' := 94) ⟨rfl, rfl⟩ rfl ?_
    refine w_ic (pc' := 95) ⟨rfl, rfl⟩ ?_
    refine w_iald (pc' := 96) ⟨rfl, rfl⟩ hY.2.2.2.2.1 (zixA (j := 0) (by decide)) (hY.2.2.2.2.2 0 (by decide)) ?_
    refine w_aload_n (pc' := 97) ⟨rfl, rfl⟩ rfl ?_
    refine w_ic (pc' := 98) ⟨rfl, rfl⟩ ?_
    refine w_iald (pc' := 99) ⟨rfl, rfl⟩ hY.2.2.2.2.1 (zixA (j := 1) (by decide)) (hY.2.2.2.2.2 1 (by decide)) ?_
    refine w_aload_n (pc' := 100) ⟨rfl, rfl⟩ rfl ?_
    refine w_ic (pc' := 101) ⟨rfl, rfl⟩ ?_
    refine w_cs2 (pc' := 104) ⟨rfl, rfl⟩ (by decide) (Nat.le_of_ble_eq_true rfl) (Nat.le_of_ble_eq_true rfl) (f_pick hX hL (j := 4) (by decide) ?_)
    refine w_aload_n (pc' := 105) ⟨rfl, rfl⟩ rfl ?_
    refine w_cs7 (pc' := 108) ⟨rfl, rfl⟩ (by decide) (Nat.le_of_ble_eq_true rfl) (Nat.le_of_ble_eq_true rfl) (y_cross hY (by decide) (by decide) (by decide) (zpc_rng hx _) (zpc_rng hx _) (zpc_rng hx _) (fun s105 hY => ?_))
    have hX := hY.2.2.2.1
    refine w_ifF_eq (pc' := 111) ⟨rfl, rfl⟩ (by decide) ?_
    refine w_aload_n (pc' := 112) ⟨rfl, rfl⟩ rfl ?_
    refine w_ic (pc' := 113) ⟨rfl, rfl⟩ ?_
    refine w_ic (pc' := 114) ⟨rfl, rfl⟩ ?_
    refine w_aload_n (pc' := 115) ⟨rfl, rfl⟩ rfl ?_
    refine w_ic (pc' := 116) ⟨rfl, rfl⟩ ?_
    refine w_iald (pc' := 117) ⟨rfl, rfl⟩ hY.2.2.2.2.1 (zixA (j := 1) (by decide)) (hY.2.2.2.2.2 1 (by decide)) ?_
    refine w_aload_n (pc' := 118) ⟨rfl, rfl⟩ rfl ?_
    refine w_ic (pc' := 119) ⟨rfl, rfl⟩ ?_
    refine w_iald (pc' := 120) ⟨rfl, rfl⟩ hY.2.2.2.2.1 (zixA (j := 0) (by decide)) (hY.2.2.2.2.2 0 (by decide)) ?_
    refine w_aload_n (pc' := 121) ⟨rfl, rfl⟩ rfl ?_
    refine w_ic (pc' := 122) ⟨rfl, rfl⟩ ?_
    refine w_cs2 (pc' := 125) ⟨rfl, rfl⟩ (by decide) (Nat.le_of_ble_eq_true rfl) (Nat.le_of_ble_eq_true rfl) (f_pick hX hL (j := 5) (by decide) ?_)
    refine w_aload_n (pc' := 126) ⟨rfl, rfl⟩ rfl ?_
    refine w_cs7 (pc' := 129) ⟨rfl, rfl⟩ (by decide) (Nat.le_of_ble_eq_true rfl) (Nat.le_of_ble_eq_true rfl) (y_cross hY (by decide) (by decide) (by decide) (zpc_rng hx _) (zpc_rng hx _) (zpc_rng hx _) (fun s126 hY => ?_))
    have hX := hY.2.2.2.1
    refine w_ifT_ne (pc' := 132) (pcT := 134) ⟨rfl, rfl⟩ rfl (by decide) ?_
    refine w_iload (pc' := 136) ⟨rfl, rfl⟩ rfl ?_
    refine w_ifT_eq (pc' := 139) (pcT := 185) ⟨rfl, rfl⟩ rfl (by decide) ?_
    refine w_aload_n (pc' := 186) ⟨rfl, rfl⟩ rfl ?_
    have hF := hY.1.1
    have hB0 : zBas _ _ := ⟨hY.1.1, hY.1.2.1.1, hY.2.1.2.2, hY.2.1.2.1⟩
    have hB := zBas.eq hB0 (l' := zB2 (zpc L x) (fun i => zpc L x (4 + i))) (by
      unfold zB2
      simp only [List.append_assoc, List.nil_append]
      rfl)
    refine w_cv1 (pc' := 189) ⟨rfl, rfl⟩ (by decide) (zOl hF rfl) (Nat.le_of_ble_eq_true rfl) (Nat.le_of_ble_eq_true rfl) (c_book hB hY.2.1.1 (a := 2) (c := 2) (by decide) (fun Q k => rd_B2 hB k) (fun σb hh => ?_))
    obtain ⟨gF, gp, gC, gs, gr, gR, gn, go⟩ := hh
    have hF := gF
    have hVt := ztB_v (a := 2) (c := 2) (X := zpc L x) (by decide)
    have hPl := ztB_pl gC gs.1 gs.2
    obtain ⟨R, gR⟩ := gR
    have hk : zRk (ztB 2 2 (zpc L x)) (zL σb 80) := by rw [gR]; exact zclr_rk hVt
    have hC := hk.cn
    have hV : zLV σb (ztB 2 2 (zpc L x)) L x 0 0 := ⟨⟨gF, hVt, gp, hPl, by show (1 : Int) ≤ ((2 : Nat) : Int); decide⟩, ⟨gr.1, by decide, gr.2, by decide, by decide⟩, hk, gn.trans hY.2.2.1, ((go zSCR (by decide)).2 0).trans hX.1, fun j => ((go zSCR (by decide)).1 j).trans (hX.2 j)⟩
    refine w_iload (pc' := 191) ⟨rfl, rfl⟩ rfl ?_
    refine w_ifT_eq (pc' := 194) (pcT := 199) ⟨rfl, rfl⟩ rfl (by decide) ?_
    refine w_ic (pc' := 200) ⟨rfl, rfl⟩ ?_
    refine w_icF_ne (pc' := 203) ⟨rfl, rfl⟩ (by omega) ?_
    refine w_aload_n (pc' := 204) ⟨rfl, rfl⟩ rfl ?_
    refine w_ic (pc' := 205) ⟨rfl, rfl⟩ ?_
    refine w_cv2 (pc' := 208) ⟨rfl, rfl⟩ (by decide) (zOl hF rfl) (Nat.le_of_ble_eq_true rfl) (Nat.le_of_ble_eq_true rfl) (c_has gF hVt gp zB5 hPl hC gr.2 (by decide) ?_)
    rw [zaH0, show ztB 2 2 (zpc L x) 0 = 2 from rfl]
    refine w_iload (pc' := 210) ⟨rfl, rfl⟩ rfl ?_
    refine w_ifT_eq (pc' := 213) (pcT := 217) ⟨rfl, rfl⟩ rfl (by decide) ?_
    refine w_ic (pc' := 218) ⟨rfl, rfl⟩ ?_
    refine w_icF_ne (pc' := 221) ⟨rfl, rfl⟩ (by decide) ?_
    refine w_aload_n (pc' := 222) ⟨rfl, rfl⟩ rfl ?_
    refine w_ic (pc' := 223) ⟨rfl, rfl⟩ ?_
    refine w_cv2 (pc' := 226) ⟨rfl, rfl⟩ (by decide) (zOl hF rfl) (Nat.le_of_ble_eq_true rfl) (Nat.le_of_ble_eq_true rfl) (c_has gF hVt gp zB5 hPl hC gr.2 (by decide) ?_)
    rw [zaH1, show ztB 2 2 (zpc L x) 1 = 2 from rfl]
    refine w_iload (pc' := 228) ⟨rfl, rfl⟩ rfl ?_
    refine w_ifT_eq (pc' := 231) (pcT := 235) ⟨rfl, rfl⟩ rfl (by decide) ?_
    refine w_ic (pc' := 236) ⟨rfl, rfl⟩ ?_
    refine w_icF_ne (pc' := 239) ⟨rfl, rfl⟩ (by decide) ?_
    refine w_ic (pc' := 240) ⟨rfl, rfl⟩ ?_
    refine w_goto (pc' := 243) (pcT := 244) ⟨rfl, rfl⟩ rfl ?_
    refine w_ireturn (pc' := 245) ⟨rfl, rfl⟩ (by decide) ?_
    exact k _ _ hV ⟨R, gR⟩
  · refine w_ic (pc' := 44) ⟨rfl, rfl⟩ ?_
    refine w_goto (pc' := 47) (pcT := 48) ⟨rfl, rfl⟩ rfl ?_
    refine w_istore (pc' := 50) ⟨rfl, rfl⟩ rfl ?_
    refine w_ic (pc' := 51) ⟨rfl, rfl⟩ ?_
    refine w_istore (pc' := 53) ⟨rfl, rfl⟩ rfl ?_
    refine w_iload (pc' := 55) ⟨rfl, rfl⟩ rfl ?_
    refine w_iload (pc' := 57) ⟨rfl, rfl⟩ rfl ?_
    refine w_ifF_eq (pc' := 60) ⟨rfl, rfl⟩ (by decide) ?_
    refine w_ic (pc' := 61) ⟨rfl, rfl⟩ ?_
    refine w_goto (pc' := 64) (pcT := 65) ⟨rfl, rfl⟩ rfl ?_
    refine w_icF_ge (pc' := 68) ⟨rfl, rfl⟩ (by decide) ?_
    refine w_aload_n (pc' := 69) ⟨rfl, rfl⟩ rfl ?_
    refine w_iload (pc' := 71) ⟨rfl, rfl⟩ rfl ?_
    refine w_aload_n (pc' := 72) ⟨rfl, rfl⟩ rfl ?_
    refine w_iload (pc' := 74) ⟨rfl, rfl⟩ rfl ?_
    refine w_iald (pc' := 75) ⟨rfl, rfl⟩ hY.2.2.2.2.1 (zixA (j := 0) (by decide)) (hY.2.2.2.2.2 0 (by decide)) ?_
    refine w_aload_n (pc' := 76) ⟨rfl, rfl⟩ rfl ?_
    refine w_cs4 (pc' := 79) ⟨rfl, rfl⟩ (by decide) (Nat.le_of_ble_eq_true rfl) (Nat.le_of_ble_eq_true rfl) (y_scheme hY (by decide) (by decide) (zpc_rng hx _) (fun s0 hY => ?_))
    have hX := hY.2.2.2.1
    refine w_ifT_ne (pc' := 82) (pcT := 84) ⟨rfl, rfl⟩ rfl (by decide) ?_
    refine w_iincZ (pc' := 87) ⟨rfl, rfl⟩ rfl rfl ?_
    refine w_goto (pc' := 90) (pcT := 53) ⟨rfl, rfl⟩ rfl ?_
    refine w_iload (pc' := 55) ⟨rfl, rfl⟩ rfl ?_
    refine w_iload (pc' := 57) ⟨rfl, rfl⟩ rfl ?_
    refine w_ifF_eq (pc' := 60) ⟨rfl, rfl⟩ (by decide) ?_
    refine w_ic (pc' := 61) ⟨rfl, rfl⟩ ?_
    refine w_goto (pc' := 64) (pcT := 65) ⟨rfl, rfl⟩ rfl ?_
    refine w_icF_ge (pc' := 68) ⟨rfl, rfl⟩ (by decide) ?_
    refine w_aload_n (pc' := 69) ⟨rfl, rfl⟩ rfl ?_
    refine w_iload (pc' := 71) ⟨rfl, rfl⟩ rfl ?_
    refine w_aload_n (pc' := 72) ⟨rfl, rfl⟩ rfl ?_
    refine w_iload (pc' := 74) ⟨rfl, rfl⟩ rfl ?_
    refine w_iald (pc' := 75) ⟨rfl, rfl⟩ hY.2.2.2.2.1 (zixA (j := 1) (by decide)) (hY.2.2.2.2.2 1 (by decide)) ?_
    refine w_aload_n (pc' := 76) ⟨rfl, rfl⟩ rfl ?_
    refine w_cs4 (pc' := 79) ⟨rfl, rfl⟩ (by decide) (Nat.le_of_ble_eq_true rfl) (Nat.le_of_ble_eq_true rfl) (y_scheme hY (by decide) (by decide) (zpc_rng hx _) (fun s1 hY => ?_))
    have hX := hY.2.2.2.1
    refine w_ifT_ne (pc' := 82) (pcT := 84) ⟨rfl, rfl⟩ rfl (by decide) ?_
    refine w_iincZ (pc' := 87) ⟨rfl, rfl⟩ rfl rfl ?_
    refine w_goto (pc' := 90) (pcT := 53) ⟨rfl, rfl⟩ rfl ?_
    refine w_iload (pc' := 55) ⟨rfl, rfl⟩ rfl ?_
    refine w_iload (pc' := 57) ⟨rfl, rfl⟩ rfl ?_
    refine w_ifF_eq (pc' := 60) ⟨rfl, rfl⟩ (by decide) ?_
    refine w_ic (pc' := 61) ⟨rfl, rfl⟩ ?_
    refine w_goto (pc' := 64) (pcT := 65) ⟨rfl, rfl⟩ rfl ?_
    refine w_icF_ge (pc' := 68) ⟨rfl, rfl⟩ (by decide) ?_
    refine w_aload_n (pc' := 69) ⟨rfl, rfl⟩ rfl ?_
    refine w_iload (pc' := 71) ⟨rfl, rfl⟩ rfl ?_
    refine w_aload_n (pc' := 72) ⟨rfl, rfl⟩ rfl ?_
    refine w_iload (pc' := 74) ⟨rfl, rfl⟩ rfl ?_
    refine w_iald (pc' := 75) ⟨rfl, rfl⟩ hY.2.2.2.2.1 (zixA (j := 2) (by decide)) (hY.2.2.2.2.2 2 (by decide)) ?_
    refine w_aload_n (pc' := 76) ⟨rfl, rfl⟩ rfl ?_
    refine w_cs4 (pc' := 79) ⟨rfl, rfl⟩ (by decide) (Nat.le_of_ble_eq_true rfl) (Nat.le_of_ble_eq_true rfl) (y_scheme hY (by decide) (by decide) (zpc_rng hx _) (fun s2 hY => ?_))
    have hX := hY.2.2.2.1
    refine w_ifT_ne (pc' := 82) (pcT := 84) ⟨rfl, rfl⟩ rfl (by decide) ?_
    refine w_iincZ (pc' := 87) ⟨rfl, rfl⟩ rfl rfl ?_
    refine w_goto (pc' := 90) (pcT := 53) ⟨rfl, rfl⟩ rfl ?_
    refine w_iload (pc' := 55) ⟨rfl, rfl⟩ rfl ?_
    refine w_iload (pc' := 57) ⟨rfl, rfl⟩ rfl ?_
    refine w_ifF_eq (pc' := 60) ⟨rfl, rfl⟩ (by decide) ?_
    refine w_ic (pc' := 61) ⟨rfl, rfl⟩ ?_
    refine w_goto (pc' := 64) (pcT := 65) ⟨rfl, rfl⟩ rfl ?_
    refine w_icT_ge (pc' := 68) (pcT := 90) ⟨rfl, rfl⟩ rfl (by decide) ?_
    refine w_aload_n (pc' := 91) ⟨rfl, rfl⟩ rfl ?_
    refine w_ic (pc' := 92) ⟨rfl, rfl⟩ ?_
    refine w_ic (pc' := 93) ⟨rfl, rfl⟩ ?_
    refine w_aload_n (pc' := 94) ⟨rfl, rfl⟩ rfl ?_
    refine w_ic (pc' := 95) ⟨rfl, rfl⟩ ?_
    refine w_iald (pc' := 96) ⟨rfl, rfl⟩ hY.2.2.2.2.1 (zixA (j := 0) (by decide)) (hY.2.2.2.2.2 0 (by decide)) ?_
    refine w_aload_n (pc' := 97) ⟨rfl, rfl⟩ rfl ?_
    refine w_ic (pc' := 98) ⟨rfl, rfl⟩ ?_
    refine w_iald (pc' := 99) ⟨rfl, rfl⟩ hY.2.2.2.2.1 (zixA (j := 1) (by decide)) (hY.2.2.2.2.2 1 (by decide)) ?_
    refine w_aload_n (pc' := 100) ⟨rfl, rfl⟩ rfl ?_
    refine w_ic (pc' := 101) ⟨rfl, rfl⟩ ?_
    refine w_cs2 (pc' := 104) ⟨rfl, rfl⟩ (by decide) (Nat.le_of_ble_eq_true rfl) (Nat.le_of_ble_eq_true rfl) (f_pick hX hL (j := 4) (by decide) ?_)
    refine w_aload_n (pc' := 105) ⟨rfl, rfl⟩ rfl ?_
    refine w_cs7 (pc' := 108) ⟨rfl, rfl⟩ (by decide) (Nat.le_of_ble_eq_true rfl) (Nat.le_of_ble_eq_true rfl) (y_cross hY (by decide) (by decide) (by decide) (zpc_rng hx _) (zpc_rng hx _) (zpc_rng hx _) (fun s105 hY => ?_))
    have hX := hY.2.2.2.1
    refine w_ifF_eq (pc' := 111) ⟨rfl, rfl⟩ (by decide) ?_
    refine w_aload_n (pc' := 112) ⟨rfl, rfl⟩ rfl ?_
    refine w_ic (pc' := 113) ⟨rfl, rfl⟩ ?_
    refine w_ic (pc' := 114) ⟨rfl, rfl⟩ ?_
    refine w_aload_n (pc' := 115) ⟨rfl, rfl⟩ rfl ?_
    refine w_ic (pc' := 116) ⟨rfl, rfl⟩ ?_
    refine w_iald (pc' := 117) ⟨rfl, rfl⟩ hY.2.2.2.2.1 (zixA (j := 1) (by decide)) (hY.2.2.2.2.2 1 (by decide)) ?_
    refine w_aload_n (pc' := 118) ⟨rfl, rfl⟩ rfl ?_
    refine w_ic (pc' := 119) ⟨rfl, rfl⟩ ?_
    refine w_iald (pc' := 120) ⟨rfl, rfl⟩ hY.2.2.2.2.1 (zixA (j := 0) (by decide)) (hY.2.2.2.2.2 0 (by decide)) ?_
    refine w_aload_n (pc' := 121) ⟨rfl, rfl⟩ rfl ?_
    refine w_ic (pc' := 122) ⟨rfl, rfl⟩ ?_
    refine w_cs2 (pc' := 125) ⟨rfl, rfl⟩ (by decide) (Nat.le_of_ble_eq_true rfl) (Nat.le_of_ble_eq_true rfl) (f_pick hX hL (j := 5) (by decide) ?_)
    refine w_aload_n (pc' := 126) ⟨rfl, rfl⟩ rfl ?_
    refine w_cs7 (pc' := 129) ⟨rfl, rfl⟩ (by decide) (Nat.le_of_ble_eq_true rfl) (Nat.le_of_ble_eq_true rfl) (y_cross hY (by decide) (by decide) (by decide) (zpc_rng hx _) (zpc_rng hx _) (zpc_rng hx _) (fun s126 hY => ?_))
    have hX := hY.2.2.2.1
    refine w_ifT_ne (pc' := 132) (pcT := 134) ⟨rfl, rfl⟩ rfl (by decide) ?_
    refine w_iload (pc' := 136) ⟨rfl, rfl⟩ rfl ?_
    refine w_ifF_eq (pc' := 139) ⟨rfl, rfl⟩ (by decide) ?_
    refine w_aload_n (pc' := 140) ⟨rfl, rfl⟩ rfl ?_
    refine w_ic (pc' := 141) ⟨rfl, rfl⟩ ?_
    refine w_ic (pc' := 142) ⟨rfl, rfl⟩ ?_
    refine w_aload_n (pc' := 143) ⟨rfl, rfl⟩ rfl ?_
    refine w_ic (pc' := 144) ⟨rfl, rfl⟩ ?_
    refine w_iald (pc' := 145) ⟨rfl, rfl⟩ hY.2.2.2.2.1 (zixA (j := 1) (by decide)) (hY.2.2.2.2.2 1 (by decide)) ?_
    refine w_aload_n (pc' := 146) ⟨rfl, rfl⟩ rfl ?_
    refine w_ic (pc' := 147) ⟨rfl, rfl⟩ ?_
    refine w_iald (pc' := 148) ⟨rfl, rfl⟩ hY.2.2.2.2.1 (zixA (j := 2) (by decide)) (hY.2.2.2.2.2 2 (by decide)) ?_
    refine w_aload_n (pc' := 149) ⟨rfl, rfl⟩ rfl ?_
    refine w_bi (pc' := 151) ⟨rfl, rfl⟩ (by decide) ?_
    refine w_cs2 (pc' := 154) ⟨rfl, rfl⟩ (by decide) (Nat.le_of_ble_eq_true rfl) (Nat.le_of_ble_eq_true rfl) (f_pick hX hL (j := 6) (by decide) ?_)
    refine w_aload_n (pc' := 155) ⟨rfl, rfl⟩ rfl ?_
    refine w_cs7 (pc' := 158) ⟨rfl, rfl⟩ (by decide) (Nat.le_of_ble_eq_true rfl) (Nat.le_of_ble_eq_true rfl) (y_cross hY (by decide) (by decide) (by decide) (zpc_rng hx _) (zpc_rng hx _) (zpc_rng hx _) (fun s155 hY => ?_))
    have hX := hY.2.2.2.1
    refine w_ifF_eq (pc' := 161) ⟨rfl, rfl⟩ (by decide) ?_
    refine w_aload_n (pc' := 162) ⟨rfl, rfl⟩ rfl ?_
    refine w_ic (pc' := 163) ⟨rfl, rfl⟩ ?_
    refine w_ic (pc' := 164) ⟨rfl, rfl⟩ ?_
    refine w_aload_n (pc' := 165) ⟨rfl, rfl⟩ rfl ?_
    refine w_ic (pc' := 166) ⟨rfl, rfl⟩ ?_
    refine w_iald (pc' := 167) ⟨rfl, rfl⟩ hY.2.2.2.2.1 (zixA (j := 0) (by decide)) (hY.2.2.2.2.2 0 (by decide)) ?_
    refine w_aload_n (pc' := 168) ⟨rfl, rfl⟩ rfl ?_
    refine w_ic (pc' := 169) ⟨rfl, rfl⟩ ?_
    refine w_iald (pc' := 170) ⟨rfl, rfl⟩ hY.2.2.2.2.1 (zixA (j := 2) (by decide)) (hY.2.2.2.2.2 2 (by decide)) ?_
    refine w_aload_n (pc' := 171) ⟨rfl, rfl⟩ rfl ?_
    refine w_bi (pc' := 173) ⟨rfl, rfl⟩ (by decide) ?_
    refine w_cs2 (pc' := 176) ⟨rfl, rfl⟩ (by decide) (Nat.le_of_ble_eq_true rfl) (Nat.le_of_ble_eq_true rfl) (f_pick hX hL (j := 7) (by decide) ?_)
    refine w_aload_n (pc' := 177) ⟨rfl, rfl⟩ rfl ?_
    refine w_cs7 (pc' := 180) ⟨rfl, rfl⟩ (by decide) (Nat.le_of_ble_eq_true rfl) (Nat.le_of_ble_eq_true rfl) (y_cross hY (by decide) (by decide) (by decide) (zpc_rng hx _) (zpc_rng hx _) (zpc_rng hx _) (fun s177 hY => ?_))
    have hX := hY.2.2.2.1
    refine w_ifT_ne (pc' := 183) (pcT := 185) ⟨rfl, rfl⟩ rfl (by decide) ?_
    refine w_aload_n (pc' := 186) ⟨rfl, rfl⟩ rfl ?_
    have hF := hY.1.1
    have hB0 : zBas _ _ := ⟨hY.1.1, hY.1.2.1.1, hY.2.1.2.2, hY.2.1.2.1⟩
    have hB := zBas.eq hB0 (l' := zB3 (zpc L x) (fun i => zpc L x (4 + i))) (by
      unfold zB3
      simp only [List.append_assoc, List.nil_append]
      rfl)
    refine w_cv1 (pc' := 189) ⟨rfl, rfl⟩ (by decide) (zOl hF rfl) (Nat.le_of_ble_eq_true rfl) (Nat.le_of_ble_eq_true rfl) (c_book hB hY.2.1.1 (a := 3) (c := 4) (by decide) (fun Q k => rd_B3 hB k) (fun σb hh => ?_))
    obtain ⟨gF, gp, gC, gs, gr, gR, gn, go⟩ := hh
    have hF := gF
    have hVt := ztB_v (a := 3) (c := 4) (X := zpc L x) (by decide)
    have hPl := ztB_pl gC gs.1 gs.2
    obtain ⟨R, gR⟩ := gR
    have hk : zRk (ztB 3 4 (zpc L x)) (zL σb 80) := by rw [gR]; exact zclr_rk hVt
    have hC := hk.cn
    have hV : zLV σb (ztB 3 4 (zpc L x)) L x 0 0 := ⟨⟨gF, hVt, gp, hPl, by show (1 : Int) ≤ ((3 : Nat) : Int); decide⟩, ⟨gr.1, by decide, gr.2, by decide, by decide⟩, hk, gn.trans hY.2.2.1, ((go zSCR (by decide)).2 0).trans hX.1, fun j => ((go zSCR (by decide)).1 j).trans (hX.2 j)⟩
    refine w_iload (pc' := 191) ⟨rfl, rfl⟩ rfl ?_
    refine w_ifF_eq (pc' := 194) ⟨rfl, rfl⟩ (by decide) ?_
    refine w_bi (pc' := 196) ⟨rfl, rfl⟩ (by decide) ?_
    refine w_goto (pc' := 199) (pcT := 200) ⟨rfl, rfl⟩ rfl ?_
    refine w_icF_ne (pc' := 203) ⟨rfl, rfl⟩ (by omega) ?_
    refine w_aload_n (pc' := 204) ⟨rfl, rfl⟩ rfl ?_
    refine w_ic (pc' := 205) ⟨rfl, rfl⟩ ?_
    refine w_cv2 (pc' := 208) ⟨rfl, rfl⟩ (by decide) (zOl hF rfl) (Nat.le_of_ble_eq_true rfl) (Nat.le_of_ble_eq_true rfl) (c_has gF hVt gp zB5 hPl hC gr.2 (by decide) ?_)
    rw [zaH0, show ztB 3 4 (zpc L x) 0 = 3 from rfl]
    refine w_iload (pc' := 210) ⟨rfl, rfl⟩ rfl ?_
    refine w_ifF_eq (pc' := 213) ⟨rfl, rfl⟩ (by decide) ?_
    refine w_ic (pc' := 214) ⟨rfl, rfl⟩ ?_
    refine w_goto (pc' := 217) (pcT := 218) ⟨rfl, rfl⟩ rfl ?_
    refine w_icF_ne (pc' := 221) ⟨rfl, rfl⟩ (by decide) ?_
    refine w_aload_n (pc' := 222) ⟨rfl, rfl⟩ rfl ?_
    refine w_ic (pc' := 223) ⟨rfl, rfl⟩ ?_
    refine w_cv2 (pc' := 226) ⟨rfl, rfl⟩ (by decide) (zOl hF rfl) (Nat.le_of_ble_eq_true rfl) (Nat.le_of_ble_eq_true rfl) (c_has gF hVt gp zB5 hPl hC gr.2 (by decide) ?_)
    rw [zaH1, show ztB 3 4 (zpc L x) 1 = 4 from rfl]
    refine w_iload (pc' := 228) ⟨rfl, rfl⟩ rfl ?_
    refine w_ifF_eq (pc' := 231) ⟨rfl, rfl⟩ (by decide) ?_
    refine w_ic (pc' := 232) ⟨rfl, rfl⟩ ?_
    refine w_goto (pc' := 235) (pcT := 236) ⟨rfl, rfl⟩ rfl ?_
    refine w_icF_ne (pc' := 239) ⟨rfl, rfl⟩ (by decide) ?_
    refine w_ic (pc' := 240) ⟨rfl, rfl⟩ ?_
    refine w_goto (pc' := 243) (pcT := 244) ⟨rfl, rfl⟩ rfl ?_
    refine w_ireturn (pc' := 245) ⟨rfl, rfl⟩ (by decide) ?_
    exact k _ _ hV ⟨R, gR⟩
