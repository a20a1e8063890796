/-! THE ROWS of the class, of the reference: the same things, the same cells -/
/-- a cell that is there -/
abbrev zClF (t : zBk) (s f i : Nat) : Prop := (f : Int) < zNF t s ∧ (i : Int) < zCE t s f
def zcu (s : Nat) (v : Int) (c : Nat → Int) : Nat → Int := fun q => if q = s then v else c q
theorem zcu_s {s : Nat} {v : Int} {c : Nat → Int} : zcu s v c s = v := by unfold zcu; rw [if_pos rfl]
theorem zcu_n {s q : Nat} {v : Int} {c : Nat → Int} (h : q ≠ s) : zcu s v c q = c q := by unfold zcu; rw [if_neg h]
def zRw (t : zBk) (c : Nat → Int) (R N : zRw0) : Prop := (∀ s, s < 3 → R s = lZ (c s) ∧ N s = lZ (c s) ∧ 0 ≤ c s ∧ c s ≤ 8) ∧ (∀ s f r i : Nat, (s : Int) < t 0 → zClF t s f i → r < 8 → R (zpq t s f r i) = N (zpr t s f r i) ∧ zcl (zKD t s f) (R (zpq t s f r i))) ∧ (0 < t 0 → ∀ z, z < 4 → R (3 + z) = N (3 + 2 * z) ∧ R (7 + z) = N (4 + 2 * z) ∧ ∃ k : Int, R (3 + z) = lZ k ∧ 0 ≤ k ∧ k ≤ 10)
theorem zpq_rng {t : zBk} {s f i : Nat} (hV : zVs t s) (h : zClF t s f i) (r : Nat) : 11 + (s * 8 + r) * 24 ≤ zpq t s f r i ∧ zpq t s f r i < 11 + (s * 8 + r) * 24 + 24 := by
  have := zst_24 hV h.1
  have := h.2
  unfold zpq
  omega
theorem zpr_rng {t : zBk} {s f i r : Nat} (hV : zVs t s) (hs : s < 3) (h : zClF t s f i) (hr : r < 8) : 11 ≤ zpr t s f r i ∧ zpr t s f r i < 587 := by
  have := zpr_b (hV.2 f h.1).2 hr h.2
  have := hV.1
  have := h.1
  unfold zpr
  omega
theorem zpq_587 {t : zBk} {s f i r : Nat} (hV : zVs t s) (hs : s < 3) (h : zClF t s f i) (hr : r < 8) : zpq t s f r i < 587 := by
  have := zpq_rng hV h r
  omega
theorem zpq_ne {t : zBk} {s f i r f' i' : Nat} (hV : zVs t s) (h : zClF t s f i) (h' : zClF t s f' i') (hn : ¬ (f = f' ∧ i = i')) : zpq t s f r i ≠ zpq t s f' r i' := by
  have a1 := zst_24 hV h.1
  have a2 := zst_24 hV h'.1
  have a3 := h.2
  have a4 := h'.2
  have a5 := h.1
  have a6 := h'.1
  unfold zpq
  rcases Nat.lt_trichotomy f f' with q | q | q
  · have := zst_mono hV f' q (by omega)
    omega
  · subst q; omega
  · have := zst_mono hV f q (by omega)
    omega
theorem zRw_cong {t : zBk} (hV : zVt t) {c : Nat → Int} {R N R' N' : zRw0} (h : zRw t c R N) (h1 : ∀ q, q < 587 → R' q = R q) (h2 : ∀ q, q < 587 → N' q = N q) : zRw t c R' N' := by
  refine ⟨fun s hs => ?_, fun s f r i hs hf hr => ?_, fun h0 z hz => ?_⟩
  · rw [h1 s (by omega), h2 s (by omega)]; exact h.1 s hs
  · have hs3 : s < 3 := by have := hV.1; omega
    rw [h1 _ (zpq_587 (hV.2.2.1 s hs).1 hs3 hf hr), h2 _ (zpr_rng (hV.2.2.1 s hs).1 hs3 hf hr).2]; exact h.2.1 s f r i hs hf hr
  · rw [h1 _ (by omega), h1 _ (by omega), h2 _ (by omega), h2 _ (by omega)]; exact h.2.2 h0 z hz
/-- one record is another one -/
theorem zRw_rec {t : zBk} (hV : zVt t) {c : Nat → Int} {R N R' N' : zRw0} (h : zRw t c R N) {s n : Nat} (hs : (s : Int) < t 0) (hn : n < 8) {c1 : Int} (hc : 0 ≤ c1 ∧ c1 ≤ 8) {g : Nat → Nat → Int64} (hg : ∀ f i, zClF t s f i → zcl (zKD t s f) (g f i))
    (hR1 : ∀ f i, zClF t s f i → R' (zpq t s f n i) = g f i) (hR2 : ∀ q, q ≠ s → ¬ (11 + (s * 8 + n) * 24 ≤ q ∧ q < 11 + (s * 8 + n) * 24 + 24) → R' q = R q) (hR3 : R' s = lZ c1)
    (hN1 : ∀ f i, zClF t s f i → N' (zpr t s f n i) = g f i) (hN2 : ∀ q, q ≠ s → (∀ f i, zClF t s f i → q ≠ zpr t s f n i) → N' q = N q) (hN3 : N' s = lZ c1) : zRw t (zcu s c1 c) R' N' := by
  have hs3 : s < 3 := by have := hV.1; omega
  have hVs := (hV.2.2.1 s hs).1
  refine ⟨fun s' hs' => ?_, fun s' f r i hs' hf hr => ?_, fun h0 z hz => ?_⟩
  · by_cases e : s' = s
    · subst e; rw [zcu_s]; exact ⟨hR3, hN3, hc⟩
    · rw [zcu_n e, hR2 s' e (by omega), hN2 s' e (fun f i hf => by have := zpr_rng hVs hs3 hf hn; omega)]; exact h.1 s' hs'
  · have hVs' := (hV.2.2.1 s' hs').1
    have hs3' : s' < 3 := by have := hV.1; omega
    have hq := zpq_rng hVs' hf r
    have hp := zpr_rng hVs' hs3' hf hr
    by_cases e : s' = s ∧ r = n
    · obtain ⟨rfl, rfl⟩ := e
      rw [hR1 f i hf, hN1 f i hf]; exact ⟨rfl, hg f i hf⟩
    · rw [hR2 _ (by omega) (by omega), hN2 _ (by omega) (fun f' i' hf' => zpr_ne (hVs'.2 f hf.1).2 (hVs.2 f' hf'.1).2 hr hn hf.2 hf'.2 (by have := hVs'.1; have := hf.1; omega) (by have := hVs.1; have := hf'.1; omega) (fun q => e ⟨q.1, q.2.2.1⟩))]
      exact h.2.1 s' f r i hs' hf hr
  · have hh : ∀ q, 3 ≤ q → q < 11 → N' q = N q := fun q q1 q2 => hN2 q (by omega) (fun f i hf => by have := zpr_rng hVs hs3 hf hn; omega)
    rw [hR2 _ (by omega) (by omega), hR2 _ (by omega) (by omega), hh _ (by omega) (by omega), hh _ (by omega) (by omega)]
    exact h.2.2 h0 z hz
theorem zRw_c {t : zBk} {c c' : Nat → Int} {R N : zRw0} (h : zRw t c R N) (e : ∀ s, s < 3 → c s = c' s) : zRw t c' R N := ⟨fun s hs => by rw [← e s hs]; exact h.1 s hs, h.2⟩
/-- one cell is another one -/
theorem zRw_cell {t : zBk} (hV : zVt t) {c : Nat → Int} {R N : zRw0} (h : zRw t c R N) {s f r i : Nat} (hs : (s : Int) < t 0) (hf : zClF t s f i) (hr : r < 8) {v : Int64} (hv : zcl (zKD t s f) v) : zRw t c (va_up R (zpq t s f r i) v) (va_up N (zpr t s f r i) v) := by
  have hs3 : s < 3 := by have := hV.1; omega
  have hVs := (hV.2.2.1 s hs).1
  have hq := zpq_rng hVs hf r
  have hp := zpr_rng hVs hs3 hf hr
  have h0 := h.1 s hs3
  refine zRw_c (c := zcu s (c s) c) (zRw_rec hV h hs hr h0.2.2 (g := fun f' i' => if f' = f ∧ i' = i then v else R (zpq t s f' r i')) (fun f' i' hf' => ?_) (fun f' i' hf' => ?_) (fun q h1 h2 => ?_) ?_ (fun f' i' hf' => ?_) (fun q h1 h2 => ?_) ?_) (fun q _ => ?_)
  · split
    · rename_i e; obtain ⟨rfl, rfl⟩ := e; exact hv
    · exact (h.2.1 s f' r i' hs hf' hr).2
  · by_cases e : f' = f ∧ i' = i
    · obtain ⟨rfl, rfl⟩ := e; rw [if_pos ⟨rfl, rfl⟩]; unfold va_up; rw [if_pos rfl]
    · rw [if_neg e]; unfold va_up; rw [if_neg (zpq_ne hVs hf' hf e)]
  · unfold va_up; rw [if_neg (by omega)]
  · unfold va_up; rw [if_neg (by omega)]; exact h0.1
  · by_cases e : f' = f ∧ i' = i
    · obtain ⟨rfl, rfl⟩ := e; rw [if_pos ⟨rfl, rfl⟩]; unfold va_up; rw [if_pos rfl]
    · rw [if_neg e]; unfold va_up
      rw [if_neg (zpr_ne (hVs.2 f' hf'.1).2 (hVs.2 f hf.1).2 hr hr hf'.2 hf.2 (by have := hVs.1; have := hf'.1; omega) (by have := hVs.1; have := hf.1; omega) (fun q => e ⟨q.2.1, q.2.2.2⟩))]
      exact (h.2.1 s f' r i' hs hf' hr).1.symm
  · unfold va_up; rw [if_neg (h2 f i hf)]
  · unfold va_up; rw [if_neg (by omega)]; exact h0.2.1
  · unfold zcu; split
    · rename_i e; rw [e]
    · rfl
/-- one thing is another one -/
theorem zRw_thing {t : zBk} (hV : zVt t) {c : Nat → Int} {R N : zRw0} (h : zRw t c R N) {z : Nat} (hz : z < 4) {k : Int} (hk : 0 ≤ k ∧ k ≤ 10) {v : Int64} : zRw t c (va_up (va_up R (3 + z) (lZ k)) (7 + z) v) (va_up (va_up N (3 + 2 * z) (lZ k)) (3 + 2 * z + 1) v) := by
  refine ⟨fun s hs => ?_, fun s f r i hs hf hr => ?_, fun h0 y hy => ?_⟩
  · unfold va_up
    rw [if_neg (by omega), if_neg (by omega), if_neg (by omega), if_neg (by omega)]; exact h.1 s hs
  · have hs3 : s < 3 := by have := hV.1; omega
    have hq := zpq_rng (hV.2.2.1 s hs).1 hf r
    have hp := zpr_rng (hV.2.2.1 s hs).1 hs3 hf hr
    unfold va_up
    rw [if_neg (by omega), if_neg (by omega), if_neg (by omega), if_neg (by omega)]; exact h.2.1 s f r i hs hf hr
  · by_cases e : y = z
    · subst e
      unfold va_up
      rw [if_neg (by omega), if_pos rfl, if_neg (by omega), if_pos rfl, if_pos rfl, if_pos (by omega)]
      exact ⟨rfl, rfl, k, rfl, hk⟩
    · unfold va_up
      rw [if_neg (by omega), if_neg (by omega), if_neg (by omega), if_neg (by omega), if_neg (by omega), if_neg (by omega), if_neg (by omega), if_neg (by omega)]
      exact h.2.2 h0 y hy
theorem zcl_0 (k : Int) : zcl k (lZ 0) := Or.inl (zok_0 k)
/-- a blank record more -/
theorem zRw_make {t : zBk} (hV : zVt t) {c : Nat → Int} {R N F : zRw0} (h : zRw t c R N) {s n : Nat} (hs : (s : Int) < t 0) (hn : n < 8) (hW : zWr t s n (fun _ _ => lZ 0) N F) : zRw t (zcu s ((n : Int) + 1) c) (va_up (zblk s n R) s (lZ (n + 1))) (va_up F s (lZ (n + 1))) := by
  have hs3 : s < 3 := by have := hV.1; omega
  have hVs := (hV.2.2.1 s hs).1
  refine zRw_rec hV h hs hn (by omega) (g := fun _ _ => lZ 0) (fun f i _ => zcl_0 _) (fun f i hf => ?_) (fun q h1 h2 => ?_) ?_ (fun f i hf => ?_) (fun q h1 h2 => ?_) ?_
  · have hq := zpq_rng hVs hf n
    unfold va_up zblk; rw [if_neg (by omega), if_pos hq]
  · unfold va_up zblk; rw [if_neg h1, if_neg h2]
  · unfold va_up; rw [if_pos rfl]
  · have hp := zpr_rng hVs hs3 hf hn
    unfold va_up; rw [if_neg (by omega)]
    exact hW.1 f i (Or.inl ⟨by have := hf.1; omega, hf.2⟩)
  · unfold va_up; rw [if_neg h1]
    exact hW.2 q (fun f i hh => h2 f i ⟨by omega, by omega⟩)
  · unfold va_up; rw [if_pos rfl]
/-- a record like another one more -/
theorem zRw_copy {t : zBk} (hV : zVt t) {c : Nat → Int} {R N F : zRw0} (h : zRw t c R N) {s n r : Nat} (hs : (s : Int) < t 0) (hn : n < 8) (hr : r < n) (hW : zWr t s n (fun f i => N (zpr t s f r i)) N F) : zRw t (zcu s ((n : Int) + 1) c) (zmov s r n (va_up (zblk s n R) s (lZ (n + 1)))) (va_up F s (lZ (n + 1))) := by
  have hs3 : s < 3 := by have := hV.1; omega
  have hVs := (hV.2.2.1 s hs).1
  refine zRw_rec hV h hs hn (by omega) (g := fun f i => R (zpq t s f r i)) (fun f i hf => (h.2.1 s f r i hs hf (by omega)).2) (fun f i hf => ?_) (fun q h1 h2 => ?_) ?_ (fun f i hf => ?_) (fun q h1 h2 => ?_) ?_
  · have hq := zpq_rng hVs hf n
    unfold zmov va_cpy
    rw [if_pos hq]
    unfold va_up zblk
    have e : 11 + (s * 8 + r) * 24 + (zpq t s f n i - (11 + (s * 8 + n) * 24)) = zpq t s f r i := by unfold zpq; omega
    rw [e]
    have hq2 := zpq_rng hVs hf r
    rw [if_neg (by omega), if_neg (by omega)]
  · unfold zmov va_cpy
    rw [if_neg h2]
    unfold va_up zblk
    rw [if_neg h1, if_neg h2]
  · unfold zmov va_cpy
    rw [if_neg (by omega)]
    unfold va_up
    rw [if_pos rfl]
  · have hp := zpr_rng hVs hs3 hf hn
    unfold va_up; rw [if_neg (by omega)]
    rw [hW.1 f i (Or.inl ⟨by have := hf.1; omega, hf.2⟩)]
    exact (h.2.1 s f r i hs hf (by omega)).1.symm
  · unfold va_up; rw [if_neg h1]
    exact hW.2 q (fun f i hh => h2 f i ⟨by omega, by omega⟩)
  · unfold va_up; rw [if_pos rfl]
/-- moved records -/
theorem zmvs_in (t : zBk) (s : Nat) (hV : zVs t s) : ∀ (k i : Nat) (m : zRw0), (∀ f j q, zClF t s f j → i ≤ q → q < i + k → zmvs s k i m (zpq t s f q j) = m (zpq t s f (q + 1) j)) ∧ ∀ x, ¬ (11 + (s * 8 + i) * 24 ≤ x ∧ x < 11 + (s * 8 + i + k) * 24) → zmvs s k i m x = m x
  | 0, i, m => ⟨fun f j q _ h1 h2 => by omega, fun x _ => rfl⟩
  | k + 1, i, m => by
    have ih := zmvs_in t s hV k (i + 1) (zmov s (i + 1) i m)
    refine ⟨fun f j q hf h1 h2 => ?_, fun x hx => ?_⟩
    · rw [zmvs]
      by_cases e : q = i
      · subst e
        have hq := zpq_rng hV hf q
        rw [ih.2 _ (by omega)]
        unfold zmov va_cpy
        rw [if_pos hq]
        congr 1
        unfold zpq; omega
      · rw [ih.1 f j q hf (by omega) (by omega)]
        have hq := zpq_rng hV hf (q + 1)
        unfold zmov va_cpy
        rw [if_neg (by omega)]
    · rw [zmvs, ih.2 x (by omega)]
      unfold zmov va_cpy
      rw [if_neg (by omega)]
/-- a record less -/
theorem zRw_drop {t : zBk} (hV : zVt t) {c : Nat → Int} {R N F G : zRw0} (h : zRw t c R N) {s n r : Nat} (hs : (s : Int) < t 0) (hn : n ≤ 8) (hr : r < n) (hcs : c s = n) (hD : zDk t s r N F (n - 1)) (hW : zWr t s (n - 1) (fun _ _ => lZ 0) (va_up F s (lZ ((n : Int) - 1))) G) : zRw t (zcu s ((n : Int) - 1) c) (va_up (zblk s (n - 1) (zmvs s (n - 1 - r) r R)) s (lZ ((n : Int) - 1))) G := by
  have hs3 : s < 3 := by have := hV.1; omega
  have hVs := (hV.2.2.1 s hs).1
  have hm := zmvs_in t s hVs (n - 1 - r) r R
  have hG : ∀ q, (∀ f i, zClF t s f i → q ≠ zpr t s f (n - 1) i) → G q = va_up F s (lZ ((n : Int) - 1)) q := fun q h2 => hW.2 q (fun f i hh => h2 f i ⟨by omega, by omega⟩)
  refine ⟨fun s' hs' => ?_, fun s' f q i hs' hf hq => ?_, fun h0 z hz => ?_⟩
  · rw [hG s' (fun f i hf => by have := zpr_rng (r := n - 1) hVs hs3 hf (by omega); omega)]
    by_cases e : s' = s
    · subst e; unfold va_up; rw [zcu_s, if_pos rfl, if_pos rfl]; exact ⟨rfl, rfl, by omega, by omega⟩
    · unfold va_up; rw [zcu_n e, if_neg e, if_neg e]
      rw [hD.2 s' (fun f i q hf hi _ _ => by have := zpr_rng (r := q) hVs hs3 ⟨hf, hi⟩ (by omega); omega)]
      unfold zblk
      rw [if_neg (by omega), hm.2 s' (by omega)]
      exact h.1 s' hs'
  · have hVs' := (hV.2.2.1 s' hs').1
    have hs3' : s' < 3 := by have := hV.1; omega
    have hpq := zpq_rng hVs' hf q
    have hpr := zpr_rng hVs' hs3' hf hq
    have hne : ∀ f' i' q', zClF t s f' i' → q' < 8 → ¬ (s' = s ∧ f = f' ∧ q = q' ∧ i = i') → zpr t s' f q i ≠ zpr t s f' q' i' := fun f' i' q' hf' hq' e => zpr_ne (hVs'.2 f hf.1).2 (hVs.2 f' hf'.1).2 hq hq' hf.2 hf'.2 (by have := hVs'.1; have := hf.1; omega) (by have := hVs.1; have := hf'.1; omega) e
    by_cases e : s' = s
    · subst e
      by_cases e2 : q = n - 1
      · subst e2
        rw [hW.1 f i (Or.inl ⟨by have := hf.1; omega, hf.2⟩)]
        unfold va_up zblk
        rw [if_neg (by omega), if_pos hpq]
        exact ⟨rfl, zcl_0 _⟩
      · rw [hG _ (fun f' i' hf' => hne f' i' (n - 1) hf' (by omega) (by omega))]
        unfold va_up
        rw [if_neg (by omega), if_neg (by omega)]
        unfold zblk
        rw [if_neg (by omega)]
        by_cases e3 : r ≤ q ∧ q < n - 1
        · rw [hD.1 f i q hf.1 hf.2 e3.1 e3.2, hm.1 f i q hf e3.1 (by omega)]
          exact h.2.1 s' f (q + 1) i hs' hf (by omega)
        · rw [hD.2 _ (fun f' i' q' h1 h2 h3 h4 => hne f' i' q' ⟨h1, h2⟩ (by omega) (by omega)), hm.2 _ (by omega)]
          exact h.2.1 s' f q i hs' hf hq
    · rw [hG _ (fun f' i' hf' => hne f' i' (n - 1) hf' (by omega) (fun q => e q.1))]
      unfold va_up
      rw [if_neg (by omega), if_neg (by omega)]
      unfold zblk
      rw [if_neg (by omega)]
      rw [hD.2 _ (fun f' i' q' h1 h2 h3 h4 => hne f' i' q' ⟨h1, h2⟩ (by omega) (fun q => e q.1)), hm.2 _ (by omega)]
      exact h.2.1 s' f q i hs' hf hq
  · have hh : ∀ q, 3 ≤ q → q < 11 → G q = N q := fun q q1 q2 => by
      rw [hG q (fun f i hf => by have := zpr_rng (r := n - 1) hVs hs3 hf (by omega); omega)]
      unfold va_up; rw [if_neg (by omega)]
      exact hD.2 q (fun f i q hf hi _ _ => by have := zpr_rng (r := q) hVs hs3 ⟨hf, hi⟩ (by omega); omega)
    have hk : ∀ q, 3 ≤ q → q < 11 → va_up (zblk s (n - 1) (zmvs s (n - 1 - r) r R)) s (lZ ((n : Int) - 1)) q = R q := fun q q1 q2 => by
      unfold va_up zblk; rw [if_neg (by omega), if_neg (by omega), hm.2 q (by omega)]
    rw [hk _ (by omega) (by omega), hk _ (by omega) (by omega), hh _ (by omega) (by omega), hh _ (by omega) (by omega)]
    exact h.2.2 h0 z hz
/-- a record that is carried more -/
theorem zRw_cross {t : zBk} (hV : zVt t) {c : Nat → Int} {R N F G V : zRw0} (h : zRw t c R N) {s n : Nat} (hs : (s : Int) < t 0) (hn : n < 8) {g : Nat → Nat → Int64} (hg : ∀ f i, zClF t s f i → zcl (zKD t s f) (g f i)) (hVa : zVa t s g V) (hW : zWr t s n (fun _ _ => lZ 0) N F) (hX : zWr t s n g (va_up F s (lZ (n + 1))) G) : zRw t (zcu s ((n : Int) + 1) c) (va_cpy V (va_up (zblk s n R) s (lZ (n + 1))) 0 (11 + (s * 8 + n) * 24) 24) G := by
  have hs3 : s < 3 := by have := hV.1; omega
  have hVs := (hV.2.2.1 s hs).1
  refine zRw_rec hV h hs hn (by omega) (g := g) hg (fun f i hf => ?_) (fun q h1 h2 => ?_) ?_ (fun f i hf => ?_) (fun q h1 h2 => ?_) ?_
  · have hq := zpq_rng hVs hf n
    unfold va_cpy
    rw [if_pos hq, show 0 + (zpq t s f n i - (11 + (s * 8 + n) * 24)) = (zst t s f).toNat + i by unfold zpq; omega]
    exact hVa.1 f i (Or.inl ⟨by have := hf.1; omega, hf.2⟩)
  · unfold va_cpy va_up zblk; rw [if_neg h2, if_neg h1, if_neg h2]
  · unfold va_cpy va_up; rw [if_neg (by omega), if_pos rfl]
  · exact hX.1 f i (Or.inl ⟨by have := hf.1; omega, hf.2⟩)
  · rw [hX.2 q (fun f i hh => h2 f i ⟨by omega, by omega⟩)]
    unfold va_up; rw [if_neg h1]
    exact hW.2 q (fun f i hh => h2 f i ⟨by omega, by omega⟩)
  · rw [hX.2 s (fun f i hh => by have := zpr_rng (r := n) (f := f) (i := i) hVs hs3 ⟨by omega, by omega⟩ hn; omega)]
    unfold va_up; rw [if_pos rfl]
/-- a new book -/
theorem zRw_new {t : zBk} (hV : zVt t) (R N : zRw0) : zRw t (fun _ => 0) (zclr R) (zbg N) := by
  refine ⟨fun s hs => ?_, fun s f r i hs hf hr => ?_, fun h0 z hz => ?_⟩
  · unfold zclr zbg zcpa va_up zfil
    rw [if_neg (by omega), if_neg (by omega), if_neg (by omega), if_neg (by omega), if_neg (by omega), if_neg (by omega), if_neg (by omega), if_neg (by omega), if_pos (by omega), if_neg (by omega), if_pos (by omega)]
    exact ⟨rfl, rfl, Int.le_refl _, by show (0 : Int) ≤ 8; decide⟩
  · have hs3 : s < 3 := by have := hV.1; omega
    have hq := zpq_rng (hV.2.2.1 s hs).1 hf r
    have hq2 := zpq_587 (hV.2.2.1 s hs).1 hs3 hf hr
    have hp := zpr_rng (hV.2.2.1 s hs).1 hs3 hf hr
    unfold zclr zbg zcpa va_up zfil
    rw [if_neg (by omega), if_neg (by omega), if_neg (by omega), if_neg (by omega), if_neg (by omega), if_neg (by omega), if_neg (by omega), if_neg (by omega), if_pos (by omega), if_neg (by omega), if_pos (by omega)]
    exact ⟨rfl, zcl_0 _⟩
  · rcases (show z = 0 ∨ z = 1 ∨ z = 2 ∨ z = 3 by omega) with rfl | rfl | rfl | rfl
    · exact ⟨rfl, rfl, 4, rfl, by omega, by omega⟩
    · exact ⟨rfl, rfl, 8, rfl, by omega, by omega⟩
    · exact ⟨rfl, rfl, 10, rfl, by omega, by omega⟩
    · exact ⟨rfl, rfl, 0, rfl, by omega, by omega⟩
/-! WHAT IS PAST: u acts, both -/
def zPt (t : zBk) (u x y : Nat) (P : Nat → zRw0) (A : zRw0) : Prop := u ≤ 20 ∧ x < 20 ∧ y < 20 ∧ ∀ i, i < u → ∃ c, zRw t c (P ((x + 19 - i) % 20)) (fun k => A (587 * ((y + 20 - i) % 20) + k))
theorem zPt_push {t : zBk} (hV : zVt t) {u x y : Nat} {P : Nat → zRw0} {A R N : zRw0} (h : zPt t u x y P A) {c : Nat → Int} (hR : zRw t c R N) {P' : Nat → zRw0} (h1 : ∀ q, q < 587 → P' x q = R q) (h2 : ∀ z, z ≠ x → P' z = P z) : zPt t (min (u + 1) 20) ((x + 1) % 20) ((y + 1) % 20) P' (zcpa (587 * ((y + 1) % 20)) 587 N A) := by
  obtain ⟨hu, hx, hy, hh⟩ := h
  refine ⟨by omega, by omega, by omega, fun i hi => ?_⟩
  by_cases e : i = 0
  · subst e
    refine ⟨c, zRw_cong hV hR (fun q hq => ?_) (fun q hq => ?_)⟩
    · rw [show ((x + 1) % 20 + 19 - 0) % 20 = x by omega]; exact h1 q hq
    · unfold zcpa
      rw [show ((y + 1) % 20 + 20 - 0) % 20 = (y + 1) % 20 by omega, if_pos (by omega)]
      congr 1; omega
  · obtain ⟨c', hc⟩ := hh (i - 1) (by omega)
    refine ⟨c', zRw_cong hV hc (fun q hq => ?_) (fun q hq => ?_)⟩
    · rw [h2 _ (by omega), show ((x + 1) % 20 + 19 - i) % 20 = (x + 19 - (i - 1)) % 20 by omega]
    · show zcpa _ _ _ _ _ = A _
      unfold zcpa
      rw [show ((y + 1) % 20 + 20 - i) % 20 = (y + 20 - (i - 1)) % 20 by omega, if_neg (by omega)]
theorem zPt_pop {t : zBk} (hV : zVt t) {u x y : Nat} {P : Nat → zRw0} {A : zRw0} (h : zPt t (u + 1) x y P A) (R N : zRw0) : zPt t u ((x + 19) % 20) ((y + 19) % 20) P A ∧ ∃ c, zRw t c (va_cpy (P ((x + 19) % 20)) R 0 0 587) (zcpb (587 * y) 587 A N) := by
  obtain ⟨hu, hx, hy, hh⟩ := h
  refine ⟨⟨by omega, by omega, by omega, fun i hi => ?_⟩, ?_⟩
  · obtain ⟨c, hc⟩ := hh (i + 1) (by omega)
    rw [show (x + 19 - (i + 1)) % 20 = ((x + 19) % 20 + 19 - i) % 20 by omega, show (y + 20 - (i + 1)) % 20 = ((y + 19) % 20 + 20 - i) % 20 by omega] at hc
    exact ⟨c, hc⟩
  · obtain ⟨c, hc⟩ := hh 0 (by omega)
    rw [show (x + 19 - 0) % 20 = (x + 19) % 20 by omega, show (y + 20 - 0) % 20 = y by omega] at hc
    refine ⟨c, zRw_cong hV hc (fun q hq => ?_) (fun q hq => ?_)⟩
    · unfold va_cpy; rw [if_pos (by omega)]; congr 1; omega
    · unfold zcpb; rw [if_pos hq]
theorem zPt_0 (t : zBk) {x y : Nat} (hx : x < 20) (hy : y < 20) (P : Nat → zRw0) (A : zRw0) : zPt t 0 x y P A := ⟨by omega, hx, hy, fun i hi => by omega⟩
