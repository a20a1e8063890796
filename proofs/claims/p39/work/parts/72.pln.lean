/-! THE READER: schemes of a plan -/
section ZGR
variable {c : zCode} {pc : Nat} {ls : zLv} {st : List Value} {σ : zSt} {Q : zSt → Option Value → Prop}
theorem zI_wR {o k : Nat} {v : Option Nat} {o' k' : Nat} : zI (zwR σ o k v) o' k' = zI σ o' k' := rfl
theorem zR_wR_s {o k : Nat} {v : Option Nat} : zR (zwR σ o k v) o k = v := by rw [zR_wR, if_pos ⟨rfl, rfl⟩]
theorem zR_wR_n {o k : Nat} {v : Option Nat} {o' k' : Nat} (h : o' ≠ o ∨ k' ≠ k) : zR (zwR σ o k v) o' k' = zR σ o' k' := by rw [zR_wR, if_neg (by omega)]
theorem zFk.wR {w : List Nat} {k : Nat} {v : Option Nat} (hk : 10 ≤ k) : zFk w σ (zwR σ 1 k v) := ⟨rfl, fun o' k' h => zR_wR_n (by omega), fun _ _ => ⟨fun _ => rfl, fun _ => rfl⟩⟩
/-- a reference of the reader is written: all ints stand -/
theorem w_gR {k : Nat} {v : Option Nat} (hk : 10 ≤ k) (h : ∀ σ1, zFk [] σ σ1 → zR σ1 1 k = v → (∀ k', k' ≠ k → zR σ1 1 k' = zR σ 1 k') → zP c pc ls st σ1 Q) : zP c pc ls st (zwR σ 1 k v) Q := h _ (zFk.wR hk) zR_wR_s (fun _ h => zR_wR_n (Or.inr h))
end ZGR
/-- words in a text: where they stand -/
theorem tk_b {l pre bl d : List Int} {p : Nat} (hl : l = pre ++ (bl ++ d)) (hp : pre.length = p) (hbl : bl = [] ∨ bl = [32]) (hd : d ≠ []) (h32 : ∀ c : Int, d.head? = some c → c ≠ 10 ∧ c ≠ 32) : (p + bl.length = p ∧ ¬ zbl l.length (fun i => l.getD i 0) p) ∨ (p + bl.length = p + 1 ∧ zbl l.length (fun i => l.getD i 0) p ∧ ¬ zbl l.length (fun i => l.getD i 0) ((p + 1 : Nat) : Int)) := by
  obtain ⟨c, t, rfl⟩ : ∃ c t, d = c :: t := by
    cases d with
    | nil => exact absurd rfl hd
    | cons c t => exact ⟨c, t, rfl⟩
  have hc := h32 c rfl
  subst hp
  subst hl
  rcases hbl with rfl | rfl
  · left
    have h0 := zby_app (pre := pre) (d := ([] : List Int) ++ c :: t) (i := 0)
    rw [show (pre.length : Int) + (0 : Nat) = pre.length by omega] at h0
    refine ⟨rfl, ?_⟩
    unfold zbl
    rw [h0]
    simpa using hc
  · right
    have h0 := zby_app (pre := pre) (d := ([32] : List Int) ++ c :: t) (i := 0)
    have h1 := zby_app (pre := pre) (d := ([32] : List Int) ++ c :: t) (i := 1)
    rw [show (pre.length : Int) + (0 : Nat) = pre.length by omega] at h0
    rw [show (pre.length : Int) + (1 : Nat) = ((pre.length + 1 : Nat) : Int) by omega] at h1
    refine ⟨rfl, ?_, ?_⟩
    · unfold zbl
      rw [h0]
      simp
    · unfold zbl
      rw [h1]
      simpa using hc
theorem zB5 : zIsB 5 := Or.inl rfl
theorem l_sonN {σ : zSt} (hF : zFx σ) {a : Nat} (ha : a ≤ 3) (h52 : zI σ 5 2 = iZ (a : Int)) (hnm : ∀ s : Nat, s < a → zI σ (5 + 3 + 5 * s) 4 = iZ (zsN s)) {v : Int} (hv : ∀ f : Nat, f < a → zsN f ≠ v) (hvr : -2147483648 ≤ v ∧ v ≤ 2147483647) {Q : zSt → Option Value → Prop} : ∀ (m : Nat) (i : Nat), i + m = a → (Q σ (some (.int (iZ (-1))))) → zP zk_X4_shapeOfName 2 [(0, .ref 5), (1, .int (iZ v)), (2, .int (iZ (i : Int)))] [] σ Q := by
  intro m
  induction m with
  | zero =>
    intro i hi k
    refine w_iload_n (pc' := 3) ⟨rfl, rfl⟩ rfl ?_
    refine w_aload_n (pc' := 4) ⟨rfl, rfl⟩ rfl ?_
    refine w_getI (pc' := 7) (cl := 3) (q := 2) ⟨rfl, rfl⟩ ⟨rfl, by decide⟩ (zOl hF rfl) h52 ?_
    refine w_icT_ge (pc' := 10) (pcT := 36) ⟨rfl, rfl⟩ rfl (by omega) ?_
    refine w_ic (pc' := 37) ⟨rfl, rfl⟩ ?_
    refine w_ireturn (pc' := 38) ⟨rfl, rfl⟩ (Or.inl rfl) ?_
    exact k
  | succ m ih =>
    intro i hi k
    have hne := hv i (by omega)
    have hr := zsN_rng (f := i) (by omega)
    refine w_iload_n (pc' := 3) ⟨rfl, rfl⟩ rfl ?_
    refine w_aload_n (pc' := 4) ⟨rfl, rfl⟩ rfl ?_
    refine w_getI (pc' := 7) (cl := 3) (q := 2) ⟨rfl, rfl⟩ ⟨rfl, by decide⟩ (zOl hF rfl) h52 ?_
    refine w_icF_ge (pc' := 10) ⟨rfl, rfl⟩ (by omega) ?_
    refine w_aload_n (pc' := 11) ⟨rfl, rfl⟩ rfl ?_
    refine w_iload_n (pc' := 12) ⟨rfl, rfl⟩ rfl ?_
    refine w_cv2 (pc' := 15) ⟨rfl, rfl⟩ (by decide) (zOl hF rfl) (Nat.le_of_ble_eq_true rfl) (Nat.le_of_ble_eq_true rfl) (c_shapeI hF zB5 h52 (by omega) (by omega) ?_)
    refine w_astore_n (pc' := 16) ⟨rfl, rfl⟩ rfl ?_
    refine w_aload_n (pc' := 17) ⟨rfl, rfl⟩ rfl ?_
    refine w_ifnullR (pc' := 20) (pcT := 30) ⟨rfl, rfl⟩ rfl  ?_
    refine w_aload_n (pc' := 21) ⟨rfl, rfl⟩ rfl ?_
    refine w_getI (pc' := 24) (cl := 6) (q := 4) ⟨rfl, rfl⟩ ⟨rfl, by decide⟩ ((zB5.s hF (by omega)).2.o hF) (hnm i (by omega)) ?_
    refine w_iload_n (pc' := 25) ⟨rfl, rfl⟩ rfl ?_
    refine w_icT_ne (pc' := 28) (pcT := 30) ⟨rfl, rfl⟩ rfl (by omega) ?_
    refine w_iincZ (pc' := 33) ⟨rfl, rfl⟩ rfl rfl ?_
    refine w_goto (pc' := 36) (pcT := 2) ⟨rfl, rfl⟩ rfl ?_
    refine w_at (ls2 := [(0, .ref 5), (1, .int (iZ v)), (2, .int (iZ ((i + 1 : Nat) : Int)))]) ?_ (ih (i + 1) (by omega) k)
    exact ⟨rfl, rfl, rfl, trivial⟩
theorem c_sonN {σ : zSt} (hF : zFx σ) {a : Nat} (ha : a ≤ 3) (h52 : zI σ 5 2 = iZ (a : Int)) (hnm : ∀ s : Nat, s < a → zI σ (5 + 3 + 5 * s) 4 = iZ (zsN s)) {v : Int} (hv : ∀ f : Nat, f < a → zsN f ≠ v) (hvr : -2147483648 ≤ v ∧ v ≤ 2147483647) {Q : zSt → Option Value → Prop} (k : Q σ (some (.int (iZ (-1))))) : zCa 48 [.ref 5, .int (iZ v)] σ Q := by
  refine w_enter (c := zk_X4_shapeOfName) (ls2 := [(0, .ref 5), (1, .int (iZ v))]) rfl ⟨rfl, rfl, trivial⟩ ?_
  refine w_ic (pc' := 1) ⟨rfl, rfl⟩ ?_
  refine w_istore_n (pc' := 2) ⟨rfl, rfl⟩ rfl ?_
  refine w_at (ls2 := [(0, .ref 5), (1, .int (iZ v)), (2, .int (iZ ((0 : Nat) : Int)))]) ?_ (l_sonN hF ha h52 hnm hv hvr a 0 (by omega) k)
  exact ⟨rfl, rfl, rfl, trivial⟩
theorem zsN_ne {f g : Nat} (hf : f ≤ 10) (hg : g ≤ 10) (h : f ≠ g) : zsN f ≠ zsN g := by unfold zsN; omega
theorem l_sonI {σ : zSt} (hF : zFx σ) {a : Nat} (ha : a ≤ 3) (h52 : zI σ 5 2 = iZ (a : Int)) (hnm : ∀ s : Nat, s < a → zI σ (5 + 3 + 5 * s) 4 = iZ (zsN s)) {g : Nat} (hg : g < a) {Q : zSt → Option Value → Prop} : ∀ (m : Nat) (i : Nat), i + m = a → i ≤ g → (Q σ (some (.int (iZ (g : Int))))) → zP zk_X4_shapeOfName 2 [(0, .ref 5), (1, .int (iZ (zsN g))), (2, .int (iZ (i : Int)))] [] σ Q := by
  intro m
  induction m with
  | zero =>
    intro i hi hig k
    exfalso; omega
  | succ m ih =>
    intro i hi hig k
    have hr := zsN_rng (f := i) (by omega)
    have hr2 := zsN_rng (f := g) (by omega)
    by_cases he : i = g
    · subst he
      refine w_iload_n (pc' := 3) ⟨rfl, rfl⟩ rfl ?_
      refine w_aload_n (pc' := 4) ⟨rfl, rfl⟩ rfl ?_
      refine w_getI (pc' := 7) (cl := 3) (q := 2) ⟨rfl, rfl⟩ ⟨rfl, by decide⟩ (zOl hF rfl) h52 ?_
      refine w_icF_ge (pc' := 10) ⟨rfl, rfl⟩ (by omega) ?_
      refine w_aload_n (pc' := 11) ⟨rfl, rfl⟩ rfl ?_
      refine w_iload_n (pc' := 12) ⟨rfl, rfl⟩ rfl ?_
      refine w_cv2 (pc' := 15) ⟨rfl, rfl⟩ (by decide) (zOl hF rfl) (Nat.le_of_ble_eq_true rfl) (Nat.le_of_ble_eq_true rfl) (c_shapeI hF zB5 h52 (by omega) (by omega) ?_)
      refine w_astore_n (pc' := 16) ⟨rfl, rfl⟩ rfl ?_
      refine w_aload_n (pc' := 17) ⟨rfl, rfl⟩ rfl ?_
      refine w_ifnullR (pc' := 20) (pcT := 30) ⟨rfl, rfl⟩ rfl  ?_
      refine w_aload_n (pc' := 21) ⟨rfl, rfl⟩ rfl ?_
      refine w_getI (pc' := 24) (cl := 6) (q := 4) ⟨rfl, rfl⟩ ⟨rfl, by decide⟩ ((zB5.s hF (by omega)).2.o hF) (hnm i (by omega)) ?_
      refine w_iload_n (pc' := 25) ⟨rfl, rfl⟩ rfl ?_
      refine w_icF_ne (pc' := 28) ⟨rfl, rfl⟩ (by omega) ?_
      refine w_iload_n (pc' := 29) ⟨rfl, rfl⟩ rfl ?_
      refine w_ireturn (pc' := 30) ⟨rfl, rfl⟩ (Or.inl rfl) ?_
      exact k
    · have hne := zsN_ne (f := i) (g := g) (by omega) (by omega) he
      refine w_iload_n (pc' := 3) ⟨rfl, rfl⟩ rfl ?_
      refine w_aload_n (pc' := 4) ⟨rfl, rfl⟩ rfl ?_
      refine w_getI (pc' := 7) (cl := 3) (q := 2) ⟨rfl, rfl⟩ ⟨rfl, by decide⟩ (zOl hF rfl) h52 ?_
      refine w_icF_ge (pc' := 10) ⟨rfl, rfl⟩ (by omega) ?_
      refine w_aload_n (pc' := 11) ⟨rfl, rfl⟩ rfl ?_
      refine w_iload_n (pc' := 12) ⟨rfl, rfl⟩ rfl ?_
      refine w_cv2 (pc' := 15) ⟨rfl, rfl⟩ (by decide) (zOl hF rfl) (Nat.le_of_ble_eq_true rfl) (Nat.le_of_ble_eq_true rfl) (c_shapeI hF zB5 h52 (by omega) (by omega) ?_)
      refine w_astore_n (pc' := 16) ⟨rfl, rfl⟩ rfl ?_
      refine w_aload_n (pc' := 17) ⟨rfl, rfl⟩ rfl ?_
      refine w_ifnullR (pc' := 20) (pcT := 30) ⟨rfl, rfl⟩ rfl  ?_
      refine w_aload_n (pc' := 21) ⟨rfl, rfl⟩ rfl ?_
      refine w_getI (pc' := 24) (cl := 6) (q := 4) ⟨rfl, rfl⟩ ⟨rfl, by decide⟩ ((zB5.s hF (by omega)).2.o hF) (hnm i (by omega)) ?_
      refine w_iload_n (pc' := 25) ⟨rfl, rfl⟩ rfl ?_
      refine w_icT_ne (pc' := 28) (pcT := 30) ⟨rfl, rfl⟩ rfl (by omega) ?_
      refine w_iincZ (pc' := 33) ⟨rfl, rfl⟩ rfl rfl ?_
      refine w_goto (pc' := 36) (pcT := 2) ⟨rfl, rfl⟩ rfl ?_
      refine w_at (ls2 := [(0, .ref 5), (1, .int (iZ (zsN g))), (2, .int (iZ ((i + 1 : Nat) : Int)))]) ?_ (ih (i + 1) (by omega) (by omega) k)
      exact ⟨rfl, rfl, rfl, trivial⟩
theorem c_sonI {σ : zSt} (hF : zFx σ) {a : Nat} (ha : a ≤ 3) (h52 : zI σ 5 2 = iZ (a : Int)) (hnm : ∀ s : Nat, s < a → zI σ (5 + 3 + 5 * s) 4 = iZ (zsN s)) {g : Nat} (hg : g < a) {Q : zSt → Option Value → Prop} (k : Q σ (some (.int (iZ (g : Int))))) : zCa 48 [.ref 5, .int (iZ (zsN g))] σ Q := by
  refine w_enter (c := zk_X4_shapeOfName) (ls2 := [(0, .ref 5), (1, .int (iZ (zsN g)))]) rfl ⟨rfl, rfl, trivial⟩ ?_
  refine w_ic (pc' := 1) ⟨rfl, rfl⟩ ?_
  refine w_istore_n (pc' := 2) ⟨rfl, rfl⟩ rfl ?_
  refine w_at (ls2 := [(0, .ref 5), (1, .int (iZ (zsN g))), (2, .int (iZ ((0 : Nat) : Int)))]) ?_ (l_sonI hF ha h52 hnm hg a 0 (by omega) (by omega) k)
  exact ⟨rfl, rfl, rfl, trivial⟩
theorem c_addShape {σ : zSt} (hF : zFx σ) {a : Nat} (ha : a < 3) (h52 : zI σ 5 2 = iZ (a : Int)) {b : Int32} (h53 : zI σ 5 3 = b) {nm : Int} {Q : zSt → Option Value → Prop} (k : ∀ σ2, zFm [5, 5 + 3 + 5 * a] σ σ2 → zI σ2 5 2 = iZ ((a : Int) + 1) → zI σ2 5 3 = b → (∀ K C, zShp σ2 (5 + 3 + 5 * a) nm 0 K C) → Q σ2 (some (.ref (5 + 3 + 5 * a)))) : zCa 46 [.ref 5, .int (iZ nm)] σ Q := by
  refine w_enter (c := zk_X4_addShape) (ls2 := [(0, .ref 5), (1, .int (iZ nm))]) rfl ⟨rfl, rfl, trivial⟩ ?_
  refine w_aload_n (pc' := 1) ⟨rfl, rfl⟩ rfl ?_
  refine w_getI (pc' := 4) (cl := 3) (q := 2) ⟨rfl, rfl⟩ ⟨rfl, by decide⟩ (zOl hF rfl) h52 ?_
  refine w_ic (pc' := 5) ⟨rfl, rfl⟩ ?_
  refine w_icT_lt (pc' := 8) (pcT := 10) ⟨rfl, rfl⟩ rfl (by omega) ?_
  refine w_aload_n (pc' := 11) ⟨rfl, rfl⟩ rfl ?_
  refine w_dupR (pc' := 12) ⟨rfl, rfl⟩ ?_
  refine w_getI (pc' := 15) (cl := 3) (q := 2) ⟨rfl, rfl⟩ ⟨rfl, by decide⟩ (zOl hF rfl) h52 ?_
  refine w_ic (pc' := 16) ⟨rfl, rfl⟩ ?_
  refine w_iaddZ (pc' := 17) ⟨rfl, rfl⟩ ?_
  refine w_putI (pc' := 20) (cl := 3) (q := 2) ⟨rfl, rfl⟩ ⟨rfl, by decide⟩ (zOl hF rfl) ?_
  refine w_gI (fun σ1 m1 e1 o1 => ?_)
  have hF1 := m1.fx hF
  refine w_aload_n (pc' := 21) ⟨rfl, rfl⟩ rfl ?_
  refine w_aload_n (pc' := 22) ⟨rfl, rfl⟩ rfl ?_
  refine w_getI (pc' := 25) (cl := 3) (q := 2) ⟨rfl, rfl⟩ ⟨rfl, by decide⟩ (zOl hF1 rfl) e1 ?_
  refine w_ic (pc' := 26) ⟨rfl, rfl⟩ ?_
  refine w_isubZ (pc' := 27) ⟨rfl, rfl⟩ ?_
  refine w_topI (show _ = iZ ((a : Nat) : Int) from congrArg iZ (by omega)) ?_
  refine w_cv2 (pc' := 30) ⟨rfl, rfl⟩ (by decide) (zOl hF1 rfl) (Nat.le_of_ble_eq_true rfl) (Nat.le_of_ble_eq_true rfl) (c_shapeI hF1 zB5 e1 (by omega) (by omega) ?_)
  refine w_astore_n (pc' := 31) ⟨rfl, rfl⟩ rfl ?_
  refine w_aload_n (pc' := 32) ⟨rfl, rfl⟩ rfl ?_
  refine w_ifnullR (pc' := 35) (pcT := 40) ⟨rfl, rfl⟩ rfl  ?_
  refine w_aload_n (pc' := 36) ⟨rfl, rfl⟩ rfl ?_
  refine w_iload_n (pc' := 37) ⟨rfl, rfl⟩ rfl ?_
  refine w_cv2 (pc' := 40) ⟨rfl, rfl⟩ (by decide) ((zB5.s hF1 (by omega)).2.o hF1) (Nat.le_of_ble_eq_true rfl) (Nat.le_of_ble_eq_true rfl) (c_sbegin hF1 (zB5.s hF1 (by omega)).2 (fun σ2 m2 s2 => ?_))
  refine w_aload_n (pc' := 41) ⟨rfl, rfl⟩ rfl ?_
  refine w_areturn (pc' := 42) ⟨rfl, rfl⟩ ?_
  exact k _ ((m1.mono (by simp)).trans (m2.mono (by simp))) (m2.i e1 (by simp; omega)) (m2.i ((o1 3 (by decide)).trans h53) (by simp; omega)) s2
