/-! THE CALLS behind book() -/
/-- nothing but why() is another -/
def zWy (σ σ' : zSt) : Prop := σ' = σ ∨ ∃ v, σ' = zwI σ 0 12 v
theorem zWy.refl {σ : zSt} : zWy σ σ := Or.inl rfl
theorem zWy.mk {σ : zSt} {v : Int32} : zWy σ (zwI σ 0 12 v) := Or.inr ⟨v, rfl⟩
theorem zWy.trans {σ σ1 σ2 : zSt} (a : zWy σ σ1) (b : zWy σ1 σ2) : zWy σ σ2 := by
  rcases a with rfl | ⟨v, rfl⟩
  · exact b
  · rcases b with rfl | ⟨w, rfl⟩
    · exact Or.inr ⟨v, rfl⟩
    · exact Or.inr ⟨w, zwI_wI⟩
theorem zWy.L {σ σ1 : zSt} (a : zWy σ σ1) : zL σ1 = zL σ := by
  rcases a with rfl | ⟨v, rfl⟩ <;> rfl
theorem zWy.V {σ σ1 : zSt} (a : zWy σ σ1) {t : zBk} {L : Nat} {x : Nat → Int} {n : Nat} {y : Int} (h : zLV σ t L x n y) : zLV σ1 t L x n y := by
  rcases a with rfl | ⟨v, rfl⟩
  · exact h
  · obtain ⟨⟨h1, h2, h3, h4, h5⟩, ⟨g1, g2, g3, g4⟩, hk, hn, hX⟩ := h
    exact ⟨⟨zFx_wI' h1, h2, h3, h4.eb zB5 h2 (zEb.refl.wI (by unfold zbO; decide)), h5⟩, ⟨(zI_wI_n (Or.inl (by decide))).trans g1, g2, (zI_wI_n (Or.inl (by decide))).trans g3, g4⟩, hk, hn, hX.1, fun j => (zI_wI_n (Or.inl (by decide))).trans (hX.2 j)⟩
def zgV (t : zBk) (R : zRw0) (row pl w : Int) : Int64 := if zgr t 0 row pl w = 0 then zgv t R 0 row pl w else lZ (-4611686018427387904)
section Y
variable {σ : zSt} {t : zBk} {L : Nat} {x : Nat → Int} {n : Nat} {y : Int} {Q : zSt → Option Value → Prop}
theorem y_get (h : zLV σ t L x n y) {row pl w : Int} (hr : (-2147483648 ≤ row ∧ row ≤ 2147483647)) (hp : (-2147483648 ≤ pl ∧ pl ≤ 2147483647)) (hw : (-2147483648 ≤ w ∧ w ≤ 2147483647)) (k : ∀ σ1, zWy σ σ1 → zI σ1 0 12 = iZ (zgr t 0 row pl w) → Q σ1 (some (.long (zgV t (zL σ 80) row pl w)))) : zCa 101 [.ref 0, .int (iZ 0), .int (iZ row), .int (iZ pl), .int (iZ w)] σ Q := c_get h.1.1 h.1.2.1 h.1.2.2.1 zB5 h.1.2.2.2.1 h.2.2.1.2.1 (by decide) hr hp hw (fun e => by
  have := k _ zWy.mk zI_wI_s
  unfold zgV at this
  rw [if_neg e] at this; exact this) (fun e => by
  have := k (zwI σ 0 12 (iZ 0)) zWy.mk (by rw [e]; exact zI_wI_s)
  unfold zgV at this
  rw [if_pos e] at this; exact this)
theorem zcl_of (h : zLV σ t L x n y) : ∀ s f r i : Nat, (s : Int) < t 0 → zClF t s f i → r < 8 → zcl (zKD t s f) (zL σ 80 (zpq t s f r i)) := h.2.2.1.1
theorem y_read (h : zLV σ t L x n y) {s row pl kd : Int} (hs : (-2147483648 ≤ s ∧ s ≤ 2147483647)) (hr : (-2147483648 ≤ row ∧ row ≤ 2147483647)) (hp : (-2147483648 ≤ pl ∧ pl ≤ 2147483647)) (hk : (-2147483648 ≤ kd ∧ kd ≤ 2147483647)) (k0 : zrr t s row pl kd ≠ 0 → ∀ σ1, zWy σ σ1 → zI σ1 0 12 = iZ (zrr t s row pl kd) → Q σ1 (some (.long (lZ (-4611686018427387904))))) (k1 : zrr t s row pl kd = 0 → ∀ σ1, zWy σ σ1 → zI σ1 0 12 = iZ 0 → Q σ1 (some (.long (zcar (zvq t (zgC t (zL σ 80)) s row pl) (zrk t s row) kd)))) : zCa 100 [.ref 0, .int (iZ s), .int (iZ row), .int (iZ pl), .int (iZ kd)] σ Q := c_read h.1.1 h.1.2.1 h.1.2.2.1 zB5 h.1.2.2.2.1 (zcl_of h) hs hr hp hk (fun e => k0 e _ zWy.mk zI_wI_s) (fun e => k1 e _ zWy.mk zI_wI_s)
theorem y_len (h : zLV σ t L x n y) {row : Int} (hr : (-2147483648 ≤ row ∧ row ≤ 2147483647)) (k : ∀ σ1, zWy σ σ1 → zI σ1 0 12 = iZ (if zrk t 0 row < 0 then zrk t 0 row else 0) → Q σ1 (some (.int (iZ (if zrk t 0 row < 0 then zrk t 0 row else zlo t 0 row))))) : zCa 99 [.ref 0, .int (iZ 0), .int (iZ row)] σ Q := c_length h.1.1 h.1.2.1 h.1.2.2.1 zB5 h.1.2.2.2.1 (by decide) hr (k _ zWy.mk zI_wI_s)
theorem y_has (h : zLV σ t L x n y) {w : Int} (hw : (-2147483648 ≤ w ∧ w ≤ 2147483647)) (k : Q σ (some (.int (iZ (zaH t (fun _ => 0) y w))))) : zCa 95 [.ref 0, .int (iZ w)] σ Q := c_has h.1.1 h.1.2.1 h.1.2.2.1 zB5 h.1.2.2.2.1 h.2.2.1.cn h.2.1.2.2.1 hw k
theorem y_field (h : zLV σ t L x n y) {s f w : Int} (hs : (-2147483648 ≤ s ∧ s ≤ 2147483647)) (hf : (-2147483648 ≤ f ∧ f ≤ 2147483647)) (hw : (-2147483648 ≤ w ∧ w ≤ 2147483647)) (k : Q σ (some (.int (iZ (zaF t s f w))))) : zCa 97 [.ref 0, .int (iZ s), .int (iZ f), .int (iZ w)] σ Q := c_field h.1.1 h.1.2.1 h.1.2.2.1 zB5 h.1.2.2.2.1 hs hf hw k
theorem y_rsn0 (h : zLV σ t L x n y) {row pl kd : Int} (hr : (-2147483648 ≤ row ∧ row ≤ 2147483647)) (hp : (-2147483648 ≤ pl ∧ pl ≤ 2147483647)) (hk : (-2147483648 ≤ kd ∧ kd ≤ 2147483647)) (k : Q σ (some (.int (iZ (zrr t 0 row pl kd))))) : zCa 135 [.ref 0, .int (iZ row), .int (iZ pl), .int (iZ kd), .int (iZ 0)] σ Q := f_reason0 h.1.1 h.1.2.1 h.1.2.2.1 zB5 h.1.2.2.2.1 h.1.2.2.2.2 h.2.2.1.cn h.2.1.2.2.1 hr hp hk k
theorem y_rsn1 (h : zLV σ t L x n y) {row pl kd : Int} (hr : (-2147483648 ≤ row ∧ row ≤ 2147483647)) (hp : (-2147483648 ≤ pl ∧ pl ≤ 2147483647)) (hk : (-2147483648 ≤ kd ∧ kd ≤ 2147483647)) (k : Q σ (some (.int (iZ (zwr t 0 row pl kd))))) : zCa 135 [.ref 0, .int (iZ row), .int (iZ pl), .int (iZ kd), .int (iZ 1)] σ Q := f_reason1 h.1.1 h.1.2.1 h.1.2.2.1 zB5 h.1.2.2.2.1 h.1.2.2.2.2 h.2.2.1.cn h.2.1.2.2.1 hr hp hk k
theorem y_rsn2 (h : zLV σ t L x n y) {row pl kd : Int} (hr : (-2147483648 ≤ row ∧ row ≤ 2147483647)) (hp : (-2147483648 ≤ pl ∧ pl ≤ 2147483647)) (hk : (-2147483648 ≤ kd ∧ kd ≤ 2147483647)) (k : Q σ (some (.int (iZ (ztr t 0 row pl kd))))) : zCa 135 [.ref 0, .int (iZ row), .int (iZ pl), .int (iZ kd), .int (iZ 2)] σ Q := f_reason2 h.1.1 h.1.2.1 h.1.2.2.1 zB5 h.1.2.2.2.1 h.1.2.2.2.2 h.2.2.1.cn h.2.1.2.2.1 hr hp hk k
/-- an act: the rows kept, then changed -/
def zAct (σ : zSt) (n : Nat) (y : Int) (R : zRw0) : zSt := zrL (zkC (zwI σ 0 12 (iZ 0)) n y) 80 R
theorem zAct.L80 {R : zRw0} : zL (zAct σ n y R) 80 = R := zL_rLs
theorem zAct.I {R : zRw0} {o k : Nat} : zI (zAct σ n y R) o k = zI (zwI (zwI (zwI σ 0 12 (iZ 0)) 79 2 (iZ (((n : Int) + 1) % 20))) 79 3 (iZ (min (y + 1) 20))) o k := rfl
theorem zAct.why {R : zRw0} : zI (zAct σ n y R) 0 12 = iZ 0 := by
  rw [zAct.I, zI_wI_n (Or.inl (by decide)), zI_wI_n (Or.inl (by decide))]
  exact zI_wI_s
theorem zAct.V (h : zLV σ t L x n y) {R : zRw0} (hR : zRk t R) : zLV (zAct σ n y R) t L x ((n + 1) % 20) (min (y + 1) 20) := by
  obtain ⟨⟨h1, h2, h3, h4, h5⟩, ⟨g1, g2, g3, g4⟩, hk, hn, hX⟩ := h
  refine ⟨⟨h1, h2, h3, ?_, h5⟩, ⟨?_, Nat.mod_lt _ (by decide), ?_, by omega, by omega⟩, by rw [zAct.L80]; exact hR, hn, hX.1, fun j => ?_⟩
  · exact h4.eb zB5 h2 (((zEb.refl.wI (by unfold zbO; decide)).kC).rL)
  · rw [zAct.I, zI_wI_n (Or.inr (by decide)), zI_wI_s]
    exact congrArg iZ (by omega)
  · rw [zAct.I]; exact zI_wI_s
  · rw [zAct.I, zI_wI_n (Or.inl (by decide)), zI_wI_n (Or.inl (by decide))]
    exact (zI_wI_n (Or.inl (by decide))).trans (hX.2 j)
theorem zL80_kC {σ : zSt} {n : Nat} {y : Int} (hn : n < 20) : zL (zkC σ n y) 80 = zL σ 80 := by
  show zL (zrL σ (82 + n) _) 80 = _
  funext j
  rw [zL_rL, if_neg (by omega)]
theorem zwL_e {σ : zSt} {o j : Nat} {v : Int64} : zwL σ o j v = zrL σ o (va_up (zL σ o) j v) := rfl
theorem y_put (h : zLV σ t L x n y) {row pl kd : Int} (hr : (-2147483648 ≤ row ∧ row ≤ 2147483647)) (hp : (-2147483648 ≤ pl ∧ pl ≤ 2147483647)) (hk : (-2147483648 ≤ kd ∧ kd ≤ 2147483647)) {v : Int64} (k0 : ztr t 0 row pl kd ≠ 0 → ∀ σ1, zWy σ σ1 → zI σ1 0 12 = iZ (ztr t 0 row pl kd) → Q σ1 (some (.int (iZ 0)))) (k1 : ∀ z : Nat, ztr t 0 row pl kd = 0 → row = 8 → pl = z → z < 4 → Q (zAct σ n y (va_up (va_up (zL σ 80) (3 + z) (lZ kd)) (7 + z) (zthg v kd))) (some (.int (iZ 1)))) (k2 : ztr t 0 row pl kd = 0 → row ≠ 8 → kd = 10 → Q (zAct σ n y (va_up (zL σ 80) (zjq t 0 row pl) (lZ (-1)))) (some (.int (iZ 1)))) (k3 : ztr t 0 row pl kd = 0 → row ≠ 8 → kd ≤ 8 → Q (zAct σ n y (va_up (zL σ 80) (zjq t 0 row pl) (zcar (ztold v kd) kd (zrk t 0 row)))) (some (.int (iZ 1)))) : zCa 103 [.ref 0, .int (iZ 0), .int (iZ row), .int (iZ pl), .int (iZ kd), .long v] σ Q := by
  have e8 : zL (zkC (zwI σ 0 12 (iZ 0)) n y) 80 = zL σ 80 := zL80_kC h.2.1.2.1
  refine c_put h.1.1 h.1.2.1 h.1.2.2.1 zB5 h.1.2.2.2.1 h.2.1.1 h.2.1.2.1 h.2.1.2.2.1 h.2.1.2.2.2 (by decide) hr hp hk (fun e => k0 e _ zWy.mk zI_wI_s) (fun z a b c d => ?_) (fun a b c => ?_) (fun a b c => ?_)
  · have q := k1 z a b c d
    rw [zwL_e (σ := zkC _ _ _), zwL_rL, e8]
    exact q
  · have q := k2 a b c
    rw [zwL_e, e8]
    exact q
  · have q := k3 a b c
    rw [zwL_e, e8]
    exact q
theorem y_write (h : zLV σ t L x n y) {row pl kd : Int} (hr : (-2147483648 ≤ row ∧ row ≤ 2147483647)) (hp : (-2147483648 ≤ pl ∧ pl ≤ 2147483647)) (hk : (-2147483648 ≤ kd ∧ kd ≤ 2147483647)) {v : Int64} (k0 : zwr t 0 row pl kd ≠ 0 → ∀ σ1, zWy σ σ1 → zI σ1 0 12 = iZ (zwr t 0 row pl kd) → Q σ1 (some (.int (iZ 0)))) (k1 : zwr t 0 row pl kd = 0 → Q (zAct σ n y (va_up (zL σ 80) (zjq t 0 row pl) (zcar (ztold v kd) kd (zrk t 0 row)))) (some (.int (iZ 1)))) : zCa 102 [.ref 0, .int (iZ 0), .int (iZ row), .int (iZ pl), .int (iZ kd), .long v] σ Q := by
  have e8 : zL (zkC (zwI σ 0 12 (iZ 0)) n y) 80 = zL σ 80 := zL80_kC h.2.1.2.1
  refine c_write h.1.1 h.1.2.1 h.1.2.2.1 zB5 h.1.2.2.2.1 h.2.1.1 h.2.1.2.1 h.2.1.2.2.1 h.2.1.2.2.2 (by decide) hr hp hk (fun e => k0 e _ zWy.mk zI_wI_s) (fun a => ?_)
  have q := k1 a
  rw [zwL_e, e8]
  exact q
end Y
/-- fields, cells by their places -/
theorem zpq_inj {t : zBk} (hVt : zVt t) {s f r i s' f' r' i' : Nat} (hs : (s : Int) < t 0) (h : zClF t s f i) (hr : r < 8) (hs' : (s' : Int) < t 0) (h' : zClF t s' f' i') (hr' : r' < 8) (e : zpq t s f r i = zpq t s' f' r' i') : s = s' ∧ f = f' := by
  have hV := (hVt.2.2.1 s hs).1
  have hV' := (hVt.2.2.1 s' hs').1
  have a := zst_24 hV h.1
  have a' := zst_24 hV' h'.1
  have b := h.2
  have b' := h'.2
  unfold zpq at e
  have e1 : s * 8 + r = s' * 8 + r' := by omega
  obtain rfl : s = s' := by omega
  refine ⟨rfl, ?_⟩
  rcases Nat.lt_trichotomy f f' with q | q | q
  · have := zst_mono hV f' q (by have := h'.1; omega); omega
  · exact q
  · have := zst_mono hV f q (by have := h.1; omega); omega
theorem zRk.cell {t : zBk} (hVt : zVt t) {R : zRw0} (h : zRk t R) {s f r i : Nat} (hs : (s : Int) < t 0) (hc : zClF t s f i) (hr : r < 8) {v : Int64} (hv : zcl (zKD t s f) v) : zRk t (va_up R (zpq t s f r i) v) := by
  have hq := zpq_rng hVt hs hc hr
  refine ⟨fun s' f' r' i' hs' hc' hr' => ?_, fun z hz => ?_, fun s' hs' => ?_⟩
  · unfold va_up
    by_cases e : zpq t s' f' r' i' = zpq t s f r i
    · rw [if_pos e]
      obtain ⟨rfl, rfl⟩ := zpq_inj hVt hs' hc' hr' hs hc hr e
      exact hv
    · rw [if_neg e]; exact h.1 s' f' r' i' hs' hc' hr'
  · unfold va_up
    rw [if_neg (by omega)]; exact h.2.1 z hz
  · unfold va_up
    rw [if_neg (by omega)]; exact h.2.2 s' hs'
theorem zRk.thing {t : zBk} (hVt : zVt t) {R : zRw0} (h : zRk t R) {z : Nat} (hz : z < 4) {kd : Int} (hk : 0 ≤ kd ∧ kd ≤ 10) {v : Int64} : zRk t (va_up (va_up R (3 + z) (lZ kd)) (7 + z) v) := by
  refine ⟨fun s' f' r' i' hs' hc' hr' => ?_, fun z' hz' => ?_, fun s' hs' => ?_⟩
  · have hq := zpq_rng hVt hs' hc' hr'
    unfold va_up
    rw [if_neg (by omega), if_neg (by omega)]; exact h.1 s' f' r' i' hs' hc' hr'
  · unfold va_up
    rw [if_neg (by omega)]
    by_cases e : 3 + z' = 3 + z
    · rw [if_pos e]; exact ⟨kd, rfl, hk⟩
    · rw [if_neg e]; exact h.2.1 z' hz'
  · unfold va_up
    rw [if_neg (by omega), if_neg (by omega)]; exact h.2.2 s' hs'
/-- what is told of a place rests on the rows' places alone -/
theorem zgV_cg {t : zBk} (hVt : zVt t) (h1 : 1 ≤ t 0) {R S : zRw0} (e : ∀ j, j < 587 → R j = S j) (row pl w : Int) : zgV t R row pl w = zgV t S row pl w := by
  unfold zgV
  by_cases h : zgr t 0 row pl w = 0
  · rw [if_pos h, if_pos h]
    have h0 := zgr_0 hVt h
    unfold zgv
    rcases h0.2 with ⟨u, z, hu, -, rfl, -, rfl, hz⟩ | ⟨u, f, hu, rfl, hu2, hf, -, hp⟩
    · rw [if_pos rfl, if_pos rfl, e _ (by omega), e _ (by omega)]
    · obtain rfl : u = 0 := by omega
      obtain ⟨r, i, hr, hi, hpl, hq1, hq2, -, -⟩ := zpl_in hVt hu2 hf hp
      have h6 := zf6 (hVt.2.2.1 0 hu2).1 hf
      have hj := (zpq_rng hVt hu2 ⟨hf, hi⟩ hr).2
      have ej : zjq t 0 (f : Int) pl = zpq t 0 f r i := zjq_e (u := 0) hq1 hq2
      rw [if_neg (show ¬ ((f : Int) = 8) by omega), if_neg (show ¬ ((f : Int) = 8) by omega), ej, e _ hj]
  · rw [if_neg h, if_neg h]
theorem zRk.cg {t : zBk} (hVt : zVt t) {R S : zRw0} (h : zRk t S) (e : ∀ j, j < 587 → R j = S j) : zRk t R := ⟨fun s f r i hs hc hr => by rw [e _ (zpq_rng hVt hs hc hr).2]; exact h.1 s f r i hs hc hr, fun z hz => by rw [e _ (by omega)]; exact h.2.1 z hz, fun s hs => by rw [e _ (by omega)]; exact h.2.2 s hs⟩
theorem y_undo {σ0 σ2 : zSt} {t : zBk} {L : Nat} {x : Nat → Int} {n : Nat} {y : Int} {Q : zSt → Option Value → Prop} (h : zLV σ0 t L x n y) {R : zRw0} (hR : zRk t R) (hy : y < 20) (w : zWy (zAct σ0 n y R) σ2) (k : ∀ σ3, zLV σ3 t L x n y → (∀ j, j < 587 → zL σ3 80 j = zL σ0 80 j) → Q σ3 (some (.int (iZ 1)))) : zCa 110 [.ref 0] σ2 Q := by
  have hV := w.V (zAct.V h hR)
  have hn := h.2.1.2.1
  have hy0 := h.2.1.2.2.2
  refine c_undo hV.1.1 hV.2.1.1 hV.2.1.2.1 hV.2.1.2.2.1 ⟨by omega, by omega⟩ (fun z hz => ?_)
  obtain rfl : z = n := by omega
  have e8 : zL σ2 (82 + z) = va_cpy (zL σ0 80) (zL σ0 (82 + z)) 0 0 587 := by
    rw [w.L]
    funext j
    show zL (zrL (zrL σ0 (82 + z) _) 80 R) (82 + z) j = _
    rw [zL_rL, if_neg (by omega), zL_rL, if_pos rfl]
    rfl
  have hc : ∀ j, j < 587 → va_cpy (zL σ2 (82 + z)) (zL σ2 80) 0 0 587 j = zL σ0 80 j := fun j hj => by
    rw [e8]
    unfold va_cpy
    rw [if_pos (by omega), if_pos (by omega)]
    congr 1
    omega
  refine k _ ⟨⟨hV.1.1, hV.1.2.1, hV.1.2.2.1, hV.1.2.2.2.1.eb zB5 hV.1.2.1 ((((zEb.refl.wI (by unfold zbO; decide)).wI (by unfold zbO; decide))).rL), hV.1.2.2.2.2⟩, ⟨?_, hn, ?_, hy0⟩, ?_, hV.2.2.2.1, hV.2.2.2.2.1, fun j => ?_⟩ (fun j hj => ?_)
  · show zI (zwI (zwI σ2 79 3 (iZ (min (y + 1) 20 - 1))) 79 2 (iZ (z : Int))) 79 2 = _
    exact zI_wI_s
  · show zI (zwI (zwI σ2 79 3 (iZ (min (y + 1) 20 - 1))) 79 2 (iZ (z : Int))) 79 3 = _
    rw [zI_wI_n (Or.inr (by decide)), zI_wI_s]
    exact congrArg iZ (by omega)
  · rw [zL_rLs]
    exact h.2.2.1.cg h.1.2.1 hc
  · show zI (zwI (zwI σ2 79 3 (iZ (min (y + 1) 20 - 1))) 79 2 (iZ (z : Int))) zSCR j = _
    rw [zI_wI_n (Or.inl (by decide)), zI_wI_n (Or.inl (by decide))]
    exact hV.2.2.2.2.2 j
  · rw [zL_rLs]
    exact hc j hj
