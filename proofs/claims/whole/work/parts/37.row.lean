/-! ROWS of the class -/
theorem w_acpyL {c : zCode} {pc pc' t : Nat} {ls : zLv} {r : List Value} {σ : zSt} {Q : zSt → Option Value → Prop} {x y nx ny : Nat} {i j k : Nat} (hk : zat c pc (.invokestatic 900) 3 t pc') (hx : zA σ x 13 nx) (hy : zA σ y 13 ny) (h : i + k ≤ nx ∧ j + k ≤ ny ∧ nx ≤ 1000000 ∧ ny ≤ 1000000) (hc : (r.map (fun v => v.category)).sum ≤ 8) (kk : zP c pc' ls r (zrL σ y (va_cpy (zL σ x) (zL σ y) i j k)) Q) : zP c pc ls (.int (iZ k) :: .int (iZ j) :: .ref y :: .int (iZ i) :: .ref x :: r) σ Q := by
  have ci := iZ_clamp (j := i) (by omega)
  have cj := iZ_clamp (j := j) (by omega)
  have ck := iZ_clamp (j := k) (by omega)
  have ni : ¬ iZ (i : Int) < 0 := fun q => by have := (iZ_lt (a := i) (b := 0) (by omega) (by omega)).mp q; omega
  have nj : ¬ iZ (j : Int) < 0 := fun q => by have := (iZ_lt (a := j) (b := 0) (by omega) (by omega)).mp q; omega
  have nk : ¬ iZ (k : Int) < 0 := fun q => by have := (iZ_lt (a := k) (b := 0) (by omega) (by omega)).mp q; omega
  refine w_natG (a := [.ref x, .int (iZ i), .ref y, .int (iZ j), .int (iZ k)]) (v1 := none) hk rfl rfl hc (by decide) ?_ kk
  simp only [znat, ci, cj, ck, hx.2.1, hy.2.1]
  rw [if_pos ⟨hx.1, hy.1, ni, nj, nk, h.1, h.2.1, trivial⟩, if_neg (by decide), if_pos trivial]
theorem w_acpyI {c : zCode} {pc pc' t : Nat} {ls : zLv} {r : List Value} {σ : zSt} {Q : zSt → Option Value → Prop} {x y nx ny : Nat} {i j k : Nat} (hk : zat c pc (.invokestatic 900) 3 t pc') (hx : zA σ x 12 nx) (hy : zA σ y 12 ny) (h : i + k ≤ nx ∧ j + k ≤ ny ∧ nx ≤ 1000000 ∧ ny ≤ 1000000) (hc : (r.map (fun v => v.category)).sum ≤ 8) (kk : zP c pc' ls r (zrI σ y (va_cpy (zI σ x) (zI σ y) i j k)) Q) : zP c pc ls (.int (iZ k) :: .int (iZ j) :: .ref y :: .int (iZ i) :: .ref x :: r) σ Q := by
  have ci := iZ_clamp (j := i) (by omega)
  have cj := iZ_clamp (j := j) (by omega)
  have ck := iZ_clamp (j := k) (by omega)
  have ni : ¬ iZ (i : Int) < 0 := fun q => by have := (iZ_lt (a := i) (b := 0) (by omega) (by omega)).mp q; omega
  have nj : ¬ iZ (j : Int) < 0 := fun q => by have := (iZ_lt (a := j) (b := 0) (by omega) (by omega)).mp q; omega
  have nk : ¬ iZ (k : Int) < 0 := fun q => by have := (iZ_lt (a := k) (b := 0) (by omega) (by omega)).mp q; omega
  refine w_natG (a := [.ref x, .int (iZ i), .ref y, .int (iZ j), .int (iZ k)]) (v1 := none) hk rfl rfl hc (by decide) ?_ kk
  simp only [znat, ci, cj, ck, hx.2.1, hy.2.1]
  rw [if_pos ⟨hx.1, hy.1, ni, nj, nk, h.1, h.2.1, trivial⟩, if_pos trivial]
theorem iZ_n (n : Nat) : Int32.ofNat n = iZ n := by
  apply Int32.toBitVec_inj.mp
  apply BitVec.eq_of_toNat_eq
  show (BitVec.ofNat 32 n).toNat = (BitVec.ofInt 32 (n : Int)).toNat
  rw [BitVec.toNat_ofInt, BitVec.toNat_ofNat]
  show n % 2 ^ 32 = ((n : Int) % (2 ^ 32 : Int)).toNat
  omega
theorem w_alenZ {c : zCode} {pc pc' t : Nat} {ls : zLv} {r : List Value} {σ : zSt} {Q : zSt → Option Value → Prop} {a kd n : Nat} (hk : zat c pc .arraylength 1 t pc') (ha : zA σ a kd n) (hkd : 11 ≤ kd ∧ kd ≤ 18) (kk : zP c pc' ls (.int (iZ n) :: r) σ Q) : zP c pc ls (.ref a :: r) σ Q := w_alen hk ha hkd (iZ_n n ▸ kk)
theorem w_slenZ {c : zCode} {pc pc' t : Nat} {ls : zLv} {r : List Value} {σ : zSt} {Q : zSt → Option Value → Prop} {L : Nat} (hk : zat c pc .arraylength 1 t pc') (hL : zR σ zSCR 0 = some L) (kk : zP c pc' ls (.int (iZ L) :: r) σ Q) : zP c pc ls (.ref zSCR :: r) σ Q := w_slen hk hL (iZ_n L ▸ kk)
theorem zrL_rL {σ : zSt} {o : Nat} {f g : Nat → Int64} : zrL (zrL σ o f) o g = zrL σ o g := by
  show (σ.1, va_up (va_up σ.2.1 o f) o g, σ.2.2) = (σ.1, va_up σ.2.1 o g, σ.2.2)
  congr 2
  funext i
  unfold va_up
  split <;> rfl
theorem zrI_rI {σ : zSt} {o : Nat} {f g : Nat → Int32} : zrI (zrI σ o f) o g = zrI σ o g := by
  show (va_up (va_up σ.1 o f) o g, σ.2) = (va_up σ.1 o g, σ.2)
  congr 1
  funext i
  unfold va_up
  split <;> rfl
theorem zrL_self {σ : zSt} {o : Nat} : zrL σ o (zL σ o) = σ := by
  show (σ.1, va_up σ.2.1 o (σ.2.1 o), σ.2.2) = σ
  have : va_up σ.2.1 o (σ.2.1 o) = σ.2.1 := by
    funext i
    unfold va_up
    split
    · rename_i h; rw [h]
    · rfl
  rw [this]
theorem zrI_self {σ : zSt} {o : Nat} : zrI σ o (zI σ o) = σ := by
  show (va_up σ.1 o (σ.1 o), σ.2) = σ
  have : va_up σ.1 o (σ.1 o) = σ.1 := by
    funext i
    unfold va_up
    split
    · rename_i h; rw [h]
    · rfl
  rw [this]
theorem zL_rLs {σ : zSt} {o : Nat} {f : Nat → Int64} : zL (zrL σ o f) o = f := by
  funext i; rw [zL_rL, if_pos rfl]
theorem zI_rIs {σ : zSt} {o : Nat} {f : Nat → Int32} : zI (zrI σ o f) o = f := by
  funext i; rw [zI_rI, if_pos rfl]
theorem zL_rLn {σ : zSt} {o o' : Nat} {f : Nat → Int64} (h : o' ≠ o) : zL (zrL σ o f) o' = zL σ o' := by
  funext i; rw [zL_rL, if_neg h]
theorem zwL_rL {σ : zSt} {o k : Nat} {f : Nat → Int64} {v : Int64} : zwL (zrL σ o f) o k v = zrL σ o (va_up f k v) := by
  have e : zwL (zrL σ o f) o k v = zrL (zrL σ o f) o (va_up (zL (zrL σ o f) o) k v) := rfl
  rw [e, zL_rLs, zrL_rL]
theorem zwI_rI {σ : zSt} {o k : Nat} {f : Nat → Int32} {v : Int32} : zwI (zrI σ o f) o k v = zrI σ o (va_up f k v) := by
  have e : zwI (zrI σ o f) o k v = zrI (zrI σ o f) o (va_up (zI (zrI σ o f) o) k v) := rfl
  rw [e, zI_rIs, zrI_rI]
theorem zwL_eq {σ : zSt} {o k : Nat} {v : Int64} : zwL σ o k v = zrL σ o (va_up (zL σ o) k v) := rfl
theorem zFx_rL {σ : zSt} {o : Nat} {f : Nat → Int64} (h : zFx σ) : zFx (zrL σ o f) := h
theorem zFx_rI {σ : zSt} {o : Nat} {f : Nat → Int32} (h : zFx σ) : zFx (zrI σ o f) := h
theorem zA_rL {σ : zSt} {o a k n : Nat} {f : Nat → Int64} (h : zA σ a k n) : zA (zrL σ o f) a k n := h
/-- rows of cells -/
abbrev zRw0 : Type := Nat → Int64
def zfil (n : Nat) (v : Int64) (m : zRw0) : zRw0 := fun i => if i < n then v else m i
def zblk (s r : Nat) (m : zRw0) : zRw0 := fun i => if 11 + (s * 8 + r) * 24 ≤ i ∧ i < 11 + (s * 8 + r) * 24 + 24 then lZ 0 else m i
def zmov (s r q : Nat) (m : zRw0) : zRw0 := va_cpy m m (11 + (s * 8 + r) * 24) (11 + (s * 8 + q) * 24) 24
def zmvs (s : Nat) : Nat → Nat → zRw0 → zRw0
  | 0, _, m => m
  | k + 1, i, m => zmvs s k (i + 1) (zmov s (i + 1) i m)
theorem zfil_s {n : Nat} {v : Int64} {m : zRw0} : va_up (zfil n v m) n v = zfil (n + 1) v m := by
  funext i
  unfold va_up zfil
  by_cases h : i = n
  · rw [if_pos h, if_pos (by omega)]
  · rw [if_neg h]
    by_cases h2 : i < n
    · rw [if_pos h2, if_pos (by omega)]
    · rw [if_neg h2, if_neg (by omega)]
theorem zfil_0 {v : Int64} {m : zRw0} : zfil 0 v m = m := by
  funext i; unfold zfil; rw [if_neg (by omega)]
def zblk' (b n : Nat) (m : zRw0) : zRw0 := fun i => if b ≤ i ∧ i < b + n then lZ 0 else m i
theorem zblk'_s {b n : Nat} {m : zRw0} : va_up (zblk' b n m) (b + n) (lZ 0) = zblk' b (n + 1) m := by
  funext i
  unfold va_up zblk'
  by_cases h : i = b + n
  · rw [if_pos h, if_pos (by omega)]
  · rw [if_neg h]
    by_cases h2 : b ≤ i ∧ i < b + n
    · rw [if_pos h2, if_pos (by omega)]
    · rw [if_neg h2, if_neg (by omega)]
theorem zblk'_0 {b : Nat} {m : zRw0} : zblk' b 0 m = m := by
  funext i; unfold zblk'; rw [if_neg (by omega)]
theorem l_fill {σ : zSt} {a N : Nat} {v : Int64} (hA : zA σ a 13 N) (hN : N ≤ 1000000) {Q : zSt → Option Value → Prop} : ∀ (j : Nat) (i : Nat), i + j = N → (Q (zrL σ a (zfil N v (zL σ a))) none) → zP zk_J7_fill_d0a16 6 [(0, .ref a), (1, .long v), (3, .int (iZ i)), (4, .int (iZ N))] [] (zrL σ a (zfil i v (zL σ a))) Q := by
  intro j
  induction j with
  | zero =>
    intro i hi k
    obtain rfl : i = N := by omega
    refine w_iload_n (pc' := 7) ⟨rfl, rfl⟩ rfl ?_
    refine w_iload (pc' := 9) ⟨rfl, rfl⟩ rfl ?_
    refine w_icT_ge (pc' := 12) (pcT := 22) ⟨rfl, rfl⟩ rfl (by omega) ?_
    refine w_return (pc' := 23) ⟨rfl, rfl⟩ ?_
    exact k
  | succ j ih =>
    intro i hi k
    refine w_iload_n (pc' := 7) ⟨rfl, rfl⟩ rfl ?_
    refine w_iload (pc' := 9) ⟨rfl, rfl⟩ rfl ?_
    refine w_icF_ge (pc' := 12) ⟨rfl, rfl⟩ (by omega) ?_
    refine w_aload_n (pc' := 13) ⟨rfl, rfl⟩ rfl ?_
    refine w_iload_n (pc' := 14) ⟨rfl, rfl⟩ rfl ?_
    refine w_lload_n (pc' := 15) ⟨rfl, rfl⟩ rfl ?_
    refine w_last (pc' := 16) ⟨rfl, rfl⟩ (zA_rL hA) (zixZ (by omega)) ?_
    refine w_iincZ (pc' := 19) ⟨rfl, rfl⟩ rfl rfl ?_
    refine w_goto (pc' := 22) (pcT := 6) ⟨rfl, rfl⟩ rfl ?_
    refine w_sto zwL_rL ?_
    rw [zfil_s]
    refine w_at ?_ (ih (i + 1) (by omega) k)
    exact ⟨rfl, rfl, rfl, rfl, trivial⟩
theorem j_fill {σ : zSt} {a N : Nat} {v : Int64} (hA : zA σ a 13 N) (hN : N ≤ 1000000) {Q : zSt → Option Value → Prop} (k : Q (zrL σ a (zfil N v (zL σ a))) none) : zCa 317 [.ref a, .long v] σ Q := by
  refine w_enter (c := zk_J7_fill_d0a16) (ls2 := [(0, .ref a), (1, .long v)]) rfl ⟨rfl, rfl, trivial⟩ ?_
  refine w_ic (pc' := 1) ⟨rfl, rfl⟩ ?_
  refine w_istore_n (pc' := 2) ⟨rfl, rfl⟩ rfl ?_
  refine w_aload_n (pc' := 3) ⟨rfl, rfl⟩ rfl ?_
  refine w_alenZ (pc' := 4) ⟨rfl, rfl⟩ hA (by decide) ?_
  refine w_istore (pc' := 6) ⟨rfl, rfl⟩ rfl ?_
  have h0 : σ = zrL σ a (zfil 0 v (zL σ a)) := by rw [zfil_0, zrL_self]
  refine w_sto h0 ?_
  refine w_at ?_ (l_fill hA hN N 0 (by omega) k)
  exact ⟨rfl, rfl, rfl, rfl, trivial⟩
theorem l_blank {σ : zSt} (hF : zFx σ) {b : Nat} (hb : b + 24 ≤ 587) {Q : zSt → Option Value → Prop} : ∀ (j : Nat) (i : Nat), i + j = 24 → (Q (zrL σ 80 (zblk' b 24 (zL σ 80))) none) → zP zk_X6_blank 17 [(0, .ref 79), (3, .int (iZ b)), (4, .int (iZ (b + i)))] [] (zrL σ 80 (zblk' b i (zL σ 80))) Q := by
  intro j
  induction j with
  | zero =>
    intro i hi k
    obtain rfl : i = 24 := by omega
    refine w_iload (pc' := 19) ⟨rfl, rfl⟩ rfl ?_
    refine w_iload_n (pc' := 20) ⟨rfl, rfl⟩ rfl ?_
    refine w_bi (pc' := 22) ⟨rfl, rfl⟩ (by decide) ?_
    refine w_iaddZ (pc' := 23) ⟨rfl, rfl⟩ ?_
    refine w_icT_ge (pc' := 26) (pcT := 48) ⟨rfl, rfl⟩ rfl (by omega) ?_
    refine w_return (pc' := 49) ⟨rfl, rfl⟩ ?_
    exact k
  | succ j ih =>
    intro i hi k
    refine w_iload (pc' := 19) ⟨rfl, rfl⟩ rfl ?_
    refine w_iload_n (pc' := 20) ⟨rfl, rfl⟩ rfl ?_
    refine w_bi (pc' := 22) ⟨rfl, rfl⟩ (by decide) ?_
    refine w_iaddZ (pc' := 23) ⟨rfl, rfl⟩ ?_
    refine w_icF_ge (pc' := 26) ⟨rfl, rfl⟩ (by omega) ?_
    refine w_iload (pc' := 28) ⟨rfl, rfl⟩ rfl ?_
    refine w_si (pc' := 31) ⟨rfl, rfl⟩ (by decide) ?_
    refine w_icF_ge (pc' := 34) ⟨rfl, rfl⟩ (by omega) ?_
    refine w_aload_n (pc' := 35) ⟨rfl, rfl⟩ rfl ?_
    refine w_getR (pc' := 38) (cl := 4) (q := 0) ⟨rfl, rfl⟩ ⟨rfl, by decide⟩ (zOl hF rfl) (hF.2 79 0 80 rfl) ?_
    refine w_iload (pc' := 40) ⟨rfl, rfl⟩ rfl ?_
    refine w_lc (pc' := 41) (z := 0) ⟨rfl, rfl⟩ rfl ?_
    refine w_last (pc' := 42) ⟨rfl, rfl⟩ (zAl hF rfl) (zixA (j := b + i) (by omega)) ?_
    refine w_iincZ (pc' := 45) ⟨rfl, rfl⟩ rfl rfl ?_
    refine w_goto (pc' := 48) (pcT := 17) ⟨rfl, rfl⟩ rfl ?_
    refine w_sto zwL_rL ?_
    rw [show lZ 0 = lZ 0 from rfl, zblk'_s]
    refine w_at ?_ (ih (i + 1) (by omega) k)
    exact ⟨rfl, rfl, rfl, trivial⟩
theorem c_blank {σ : zSt} (hF : zFx σ) {s r : Nat} (hs : s < 3) (hr : r < 8) {Q : zSt → Option Value → Prop} (k : Q (zrL σ 80 (zblk s r (zL σ 80))) none) : zCa 73 [.ref 79, .int (iZ s), .int (iZ r)] σ Q := by
  refine w_enter (c := zk_X6_blank) (ls2 := [(0, .ref 79), (1, .int (iZ s)), (2, .int (iZ r))]) rfl ⟨rfl, rfl, rfl, trivial⟩ ?_
  refine w_iload_n (pc' := 1) ⟨rfl, rfl⟩ rfl ?_
  refine w_iload_n (pc' := 2) ⟨rfl, rfl⟩ rfl ?_
  refine w_cs2 (pc' := 5) ⟨rfl, rfl⟩ (by decide) (Nat.le_of_ble_eq_true rfl) (Nat.le_of_ble_eq_true rfl) (c_isRecordPlace (by omega) (by omega) (fun h => ?_) (fun h => ?_))
  · refine w_ifF_eq (pc' := 8) ⟨rfl, rfl⟩ (by decide) ?_
    refine w_iload_n (pc' := 9) ⟨rfl, rfl⟩ rfl ?_
    refine w_iload_n (pc' := 10) ⟨rfl, rfl⟩ rfl ?_
    refine w_cs2 (pc' := 13) ⟨rfl, rfl⟩ (by decide) (Nat.le_of_ble_eq_true rfl) (Nat.le_of_ble_eq_true rfl) (c_recordStart ?_)
    refine w_istore_n (pc' := 14) ⟨rfl, rfl⟩ rfl ?_
    refine w_iload_n (pc' := 15) ⟨rfl, rfl⟩ rfl ?_
    refine w_istore (pc' := 17) ⟨rfl, rfl⟩ rfl ?_
    have h0 : σ = zrL σ 80 (zblk' (11 + (s * 8 + r) * 24) 0 (zL σ 80)) := by rw [zblk'_0, zrL_self]
    refine w_sto h0 ?_
    refine w_at (ls2 := [(0, .ref 79), (3, .int (iZ ((11 + (s * 8 + r) * 24 : Nat) : Int))), (4, .int (iZ (((11 + (s * 8 + r) * 24 : Nat) : Int) + (0 : Nat))))]) ⟨rfl, rfl, rfl, trivial⟩ (l_blank hF (by omega) 24 0 (by omega) k)
  · exfalso; omega
theorem c_move {σ : zSt} (hF : zFx σ) {s r q : Nat} (hs : s < 3) (hr : r < 8) (hq : q < 8) {Q : zSt → Option Value → Prop} (k : Q (zrL σ 80 (zmov s r q (zL σ 80))) none) : zCa 74 [.ref 79, .int (iZ s), .int (iZ r), .int (iZ q)] σ Q := by
  refine w_enter (c := zk_X6_move) (ls2 := [(0, .ref 79), (1, .int (iZ s)), (2, .int (iZ r)), (3, .int (iZ q))]) rfl ⟨rfl, rfl, rfl, rfl, trivial⟩ ?_
  refine w_iload_n (pc' := 1) ⟨rfl, rfl⟩ rfl ?_
  refine w_iload_n (pc' := 2) ⟨rfl, rfl⟩ rfl ?_
  refine w_cs2 (pc' := 5) ⟨rfl, rfl⟩ (by decide) (Nat.le_of_ble_eq_true rfl) (Nat.le_of_ble_eq_true rfl) (c_isRecordPlace (by omega) (by omega) (fun h => ?_) (fun h => ?_))
  · refine w_ifF_eq (pc' := 8) ⟨rfl, rfl⟩ (by decide) ?_
    refine w_iload_n (pc' := 9) ⟨rfl, rfl⟩ rfl ?_
    refine w_iload_n (pc' := 10) ⟨rfl, rfl⟩ rfl ?_
    refine w_cs2 (pc' := 13) ⟨rfl, rfl⟩ (by decide) (Nat.le_of_ble_eq_true rfl) (Nat.le_of_ble_eq_true rfl) (c_isRecordPlace (by omega) (by omega) (fun h => ?_) (fun h => ?_))
    · refine w_ifF_eq (pc' := 16) ⟨rfl, rfl⟩ (by decide) ?_
      refine w_aload_n (pc' := 17) ⟨rfl, rfl⟩ rfl ?_
      refine w_getR (pc' := 20) (cl := 4) (q := 0) ⟨rfl, rfl⟩ ⟨rfl, by decide⟩ (zOl hF rfl) (hF.2 79 0 80 rfl) ?_
      refine w_iload_n (pc' := 21) ⟨rfl, rfl⟩ rfl ?_
      refine w_iload_n (pc' := 22) ⟨rfl, rfl⟩ rfl ?_
      refine w_cs2 (pc' := 25) ⟨rfl, rfl⟩ (by decide) (Nat.le_of_ble_eq_true rfl) (Nat.le_of_ble_eq_true rfl) (c_recordStart ?_)
      refine w_aload_n (pc' := 26) ⟨rfl, rfl⟩ rfl ?_
      refine w_getR (pc' := 29) (cl := 4) (q := 0) ⟨rfl, rfl⟩ ⟨rfl, by decide⟩ (zOl hF rfl) (hF.2 79 0 80 rfl) ?_
      refine w_iload_n (pc' := 30) ⟨rfl, rfl⟩ rfl ?_
      refine w_iload_n (pc' := 31) ⟨rfl, rfl⟩ rfl ?_
      refine w_cs2 (pc' := 34) ⟨rfl, rfl⟩ (by decide) (Nat.le_of_ble_eq_true rfl) (Nat.le_of_ble_eq_true rfl) (c_recordStart ?_)
      refine w_bi (pc' := 36) ⟨rfl, rfl⟩ (by decide) ?_
      refine w_acpyL (pc' := 39) (i := (11 + (s * 8 + r) * 24)) (j := (11 + (s * 8 + q) * 24)) (k := 24) ⟨rfl, rfl⟩ (zAl hF rfl) (zAl hF rfl) (by omega) (Nat.le_of_ble_eq_true rfl) ?_
      refine w_return (pc' := 40) ⟨rfl, rfl⟩ ?_
      exact k
    · exfalso; omega
  · exfalso; omega
theorem c_addBlank {σ : zSt} (hF : zFx σ) {c : Nat → Int} (hC : zCn σ c) {s n : Nat} (hs : s < 3) (hcs : c s = n) (hn : n < 8) {Q : zSt → Option Value → Prop} (k : Q (zrL σ 80 (va_up (zblk s n (zL σ 80)) s (lZ (n + 1)))) (some (.int (iZ n)))) : zCa 75 [.ref 79, .int (iZ s)] σ Q := by
  refine w_enter (c := zk_X6_addBlank) (ls2 := [(0, .ref 79), (1, .int (iZ s))]) rfl ⟨rfl, rfl, trivial⟩ ?_
  refine w_aload_n (pc' := 1) ⟨rfl, rfl⟩ rfl ?_
  refine w_iload_n (pc' := 2) ⟨rfl, rfl⟩ rfl ?_
  refine w_cv2 (pc' := 5) ⟨rfl, rfl⟩ (by decide) (zOl hF rfl) (Nat.le_of_ble_eq_true rfl) (Nat.le_of_ble_eq_true rfl) (c_countOf hF hC (by omega) (fun h => ?_) (fun h => ?_))
  · rw [show c (s : Int).toNat = c s from rfl, hcs]
    refine w_istore_n (pc' := 6) ⟨rfl, rfl⟩ rfl ?_
    refine w_iload_n (pc' := 7) ⟨rfl, rfl⟩ rfl ?_
    refine w_iload_n (pc' := 8) ⟨rfl, rfl⟩ rfl ?_
    refine w_cs2 (pc' := 11) ⟨rfl, rfl⟩ (by decide) (Nat.le_of_ble_eq_true rfl) (Nat.le_of_ble_eq_true rfl) (c_isRecordPlace (by omega) (by omega) (fun h => ?_) (fun h => ?_))
    · refine w_ifT_ne (pc' := 14) (pcT := 16) ⟨rfl, rfl⟩ rfl (by decide) ?_
      refine w_aload_n (pc' := 17) ⟨rfl, rfl⟩ rfl ?_
      refine w_iload_n (pc' := 18) ⟨rfl, rfl⟩ rfl ?_
      refine w_iload_n (pc' := 19) ⟨rfl, rfl⟩ rfl ?_
      refine w_cv3 (pc' := 22) ⟨rfl, rfl⟩ (by decide) (zOl hF rfl) (Nat.le_of_ble_eq_true rfl) (Nat.le_of_ble_eq_true rfl) (c_blank hF (by omega) (by omega) ?_)
      refine w_aload_n (pc' := 23) ⟨rfl, rfl⟩ rfl ?_
      refine w_getR (pc' := 26) (cl := 4) (q := 0) ⟨rfl, rfl⟩ ⟨rfl, by decide⟩ (zOl hF rfl) (hF.2 79 0 80 rfl) ?_
      refine w_iload_n (pc' := 27) ⟨rfl, rfl⟩ rfl ?_
      refine w_dup2 (pc' := 28) ⟨rfl, rfl⟩ ?_
      refine w_lald (pc' := 29) ⟨rfl, rfl⟩ (zAl (zFx_rL hF) rfl) (zixZ (by omega)) (show zL (zrL σ 80 (zblk s n (zL σ 80))) 80 s = lZ n by rw [zL_rLs]; unfold zblk; rw [if_neg (by omega), (hC s hs).1, hcs]) ?_
      refine w_lc (pc' := 30) (z := 1) ⟨rfl, rfl⟩ rfl ?_
      refine w_laddY (pc' := 31) ⟨rfl, rfl⟩ ?_
      refine w_last (pc' := 32) ⟨rfl, rfl⟩ (zAl (zFx_rL hF) rfl) (zixZ (by omega)) ?_
      refine w_sto zwL_rL ?_
      refine w_iload_n (pc' := 33) ⟨rfl, rfl⟩ rfl ?_
      refine w_ireturn (pc' := 34) ⟨rfl, rfl⟩ (Or.inl rfl) ?_
      exact k
    · exfalso; omega
  · exfalso; omega
theorem c_addLike {σ : zSt} (hF : zFx σ) {c : Nat → Int} (hC : zCn σ c) {s n r : Nat} (hs : s < 3) (hcs : c s = n) (hn : n < 8) (hr : r < 8) {Q : zSt → Option Value → Prop} (k : Q (zrL σ 80 (zmov s r n (va_up (zblk s n (zL σ 80)) s (lZ (n + 1))))) (some (.int (iZ n)))) : zCa 76 [.ref 79, .int (iZ s), .int (iZ r)] σ Q := by
  refine w_enter (c := zk_X6_addLike) (ls2 := [(0, .ref 79), (1, .int (iZ s)), (2, .int (iZ r))]) rfl ⟨rfl, rfl, rfl, trivial⟩ ?_
  refine w_aload_n (pc' := 1) ⟨rfl, rfl⟩ rfl ?_
  refine w_iload_n (pc' := 2) ⟨rfl, rfl⟩ rfl ?_
  refine w_cv2 (pc' := 5) ⟨rfl, rfl⟩ (by decide) (zOl hF rfl) (Nat.le_of_ble_eq_true rfl) (Nat.le_of_ble_eq_true rfl) (c_addBlank hF hC hs hcs hn ?_)
  refine w_istore_n (pc' := 6) ⟨rfl, rfl⟩ rfl ?_
  refine w_aload_n (pc' := 7) ⟨rfl, rfl⟩ rfl ?_
  refine w_iload_n (pc' := 8) ⟨rfl, rfl⟩ rfl ?_
  refine w_iload_n (pc' := 9) ⟨rfl, rfl⟩ rfl ?_
  refine w_iload_n (pc' := 10) ⟨rfl, rfl⟩ rfl ?_
  refine w_cv4 (pc' := 13) ⟨rfl, rfl⟩ (by decide) (zOl hF rfl) (Nat.le_of_ble_eq_true rfl) (Nat.le_of_ble_eq_true rfl) (c_move (zFx_rL hF) (by omega) (by omega) (by omega) ?_)
  rw [zL_rLs, zrL_rL]
  refine w_iload_n (pc' := 14) ⟨rfl, rfl⟩ rfl ?_
  refine w_ireturn (pc' := 15) ⟨rfl, rfl⟩ (Or.inl rfl) ?_
  exact k
theorem l_remove {σ : zSt} (hF : zFx σ) {s la : Nat} (hs : s < 3) (hla : la < 8) {Q : zSt → Option Value → Prop} : ∀ (j : Nat) (i : Nat) (m : zRw0), i + j = la → (zP zk_X6_remove 44 [(0, .ref 79), (1, .int (iZ s)), (3, .int (iZ la))] [] (zrL σ 80 (zmvs s j i m)) Q) → zP zk_X6_remove 21 [(0, .ref 79), (1, .int (iZ s)), (3, .int (iZ la)), (4, .int (iZ i))] [] (zrL σ 80 m) Q := by
  intro j
  induction j with
  | zero =>
    intro i m hi k
    refine w_iload (pc' := 23) ⟨rfl, rfl⟩ rfl ?_
    refine w_iload_n (pc' := 24) ⟨rfl, rfl⟩ rfl ?_
    refine w_icT_ge (pc' := 27) (pcT := 44) ⟨rfl, rfl⟩ rfl (by omega) ?_
    refine w_at ?_ k
    exact ⟨rfl, rfl, rfl, trivial⟩
  | succ j ih =>
    intro i m hi k
    refine w_iload (pc' := 23) ⟨rfl, rfl⟩ rfl ?_
    refine w_iload_n (pc' := 24) ⟨rfl, rfl⟩ rfl ?_
    refine w_icF_ge (pc' := 27) ⟨rfl, rfl⟩ (by omega) ?_
    refine w_aload_n (pc' := 28) ⟨rfl, rfl⟩ rfl ?_
    refine w_iload_n (pc' := 29) ⟨rfl, rfl⟩ rfl ?_
    refine w_iload (pc' := 31) ⟨rfl, rfl⟩ rfl ?_
    refine w_ic (pc' := 32) ⟨rfl, rfl⟩ ?_
    refine w_iaddZ (pc' := 33) ⟨rfl, rfl⟩ ?_
    refine w_iload (pc' := 35) ⟨rfl, rfl⟩ rfl ?_
    refine w_cv4 (pc' := 38) ⟨rfl, rfl⟩ (by decide) (zOl hF rfl) (Nat.le_of_ble_eq_true rfl) (Nat.le_of_ble_eq_true rfl) (c_move (q := i) (r := i + 1) (zFx_rL hF) hs (by omega) (by omega) ?_)
    rw [zL_rLs, zrL_rL]
    refine w_iincZ (pc' := 41) ⟨rfl, rfl⟩ rfl rfl ?_
    refine w_goto (pc' := 44) (pcT := 21) ⟨rfl, rfl⟩ rfl ?_
    refine w_at ?_ (ih (i + 1) _ (by omega) k)
    exact ⟨rfl, rfl, rfl, rfl, trivial⟩
theorem zmvs_lo (s : Nat) : ∀ (k i : Nat) (m : zRw0) (q : Nat), q < 11 → zmvs s k i m q = m q
  | 0, i, m, q, h => rfl
  | k + 1, i, m, q, h => by
    rw [zmvs, zmvs_lo s k (i + 1) _ q h]
    unfold zmov va_cpy
    rw [if_neg (by omega)]
theorem c_remove {σ : zSt} (hF : zFx σ) {c : Nat → Int} (hC : zCn σ c) {s n r : Nat} (hs : s < 3) (hcs : c s = n) (hn : n ≤ 8) (hr : r < n) {Q : zSt → Option Value → Prop} (k : Q (zrL σ 80 (va_up (zblk s (n - 1) (zmvs s (n - 1 - r) r (zL σ 80))) s (lZ ((n : Int) - 1)))) none) : zCa 77 [.ref 79, .int (iZ s), .int (iZ r)] σ Q := by
  refine w_enter (c := zk_X6_remove) (ls2 := [(0, .ref 79), (1, .int (iZ s)), (2, .int (iZ r))]) rfl ⟨rfl, rfl, rfl, trivial⟩ ?_
  refine w_aload_n (pc' := 1) ⟨rfl, rfl⟩ rfl ?_
  refine w_iload_n (pc' := 2) ⟨rfl, rfl⟩ rfl ?_
  refine w_iload_n (pc' := 3) ⟨rfl, rfl⟩ rfl ?_
  refine w_cv3 (pc' := 6) ⟨rfl, rfl⟩ (by decide) (zOl hF rfl) (Nat.le_of_ble_eq_true rfl) (Nat.le_of_ble_eq_true rfl) (c_hasRecord hF hC (by omega) (by omega) (fun h => ?_) (fun h => ?_))
  · refine w_ifT_ne (pc' := 9) (pcT := 10) ⟨rfl, rfl⟩ rfl (by decide) ?_
    refine w_aload_n (pc' := 11) ⟨rfl, rfl⟩ rfl ?_
    refine w_iload_n (pc' := 12) ⟨rfl, rfl⟩ rfl ?_
    refine w_cv2 (pc' := 15) ⟨rfl, rfl⟩ (by decide) (zOl hF rfl) (Nat.le_of_ble_eq_true rfl) (Nat.le_of_ble_eq_true rfl) (c_countOf hF hC (by omega) (fun h => ?_) (fun h => ?_))
    · rw [show c (s : Int).toNat = c s from rfl, hcs]
      refine w_ic (pc' := 16) ⟨rfl, rfl⟩ ?_
      refine w_isubZ (pc' := 17) ⟨rfl, rfl⟩ ?_
      refine w_istore_n (pc' := 18) ⟨rfl, rfl⟩ rfl ?_
      refine w_iload_n (pc' := 19) ⟨rfl, rfl⟩ rfl ?_
      refine w_istore (pc' := 21) ⟨rfl, rfl⟩ rfl ?_
      have h0 : σ = zrL σ 80 (zL σ 80) := zrL_self.symm
      refine w_sto h0 ?_
      refine w_at (ls2 := [(0, .ref 79), (1, .int (iZ s)), (3, .int (iZ ((n - 1 : Nat) : Int))), (4, .int (iZ r))]) ⟨rfl, rfl, by rw [show ((n - 1 : Nat) : Int) = (n : Int) - 1 by omega]; rfl, rfl, trivial⟩ (l_remove hF hs (by omega) (n - 1 - r) r _ (by omega) ?_)
      refine w_aload_n (pc' := 45) ⟨rfl, rfl⟩ rfl ?_
      refine w_iload_n (pc' := 46) ⟨rfl, rfl⟩ rfl ?_
      refine w_iload_n (pc' := 47) ⟨rfl, rfl⟩ rfl ?_
      refine w_cv3 (pc' := 50) ⟨rfl, rfl⟩ (by decide) (zOl hF rfl) (Nat.le_of_ble_eq_true rfl) (Nat.le_of_ble_eq_true rfl) (c_blank (zFx_rL hF) hs (by omega) ?_)
      rw [zL_rLs, zrL_rL]
      refine w_aload_n (pc' := 51) ⟨rfl, rfl⟩ rfl ?_
      refine w_getR (pc' := 54) (cl := 4) (q := 0) ⟨rfl, rfl⟩ ⟨rfl, by decide⟩ (zOl hF rfl) (hF.2 79 0 80 rfl) ?_
      refine w_iload_n (pc' := 55) ⟨rfl, rfl⟩ rfl ?_
      refine w_dup2 (pc' := 56) ⟨rfl, rfl⟩ ?_
      refine w_lald (pc' := 57) ⟨rfl, rfl⟩ (zAl (zFx_rL hF) rfl) (zixZ (by omega)) (show zL (zrL σ 80 (zblk s (n - 1) (zmvs s (n - 1 - r) r (zL σ 80)))) 80 s = lZ n by rw [zL_rLs]; unfold zblk; rw [if_neg (by omega), zmvs_lo _ _ _ _ _ (by omega), (hC s hs).1, hcs]) ?_
      refine w_lc (pc' := 58) (z := 1) ⟨rfl, rfl⟩ rfl ?_
      refine w_lsubY (pc' := 59) ⟨rfl, rfl⟩ ?_
      refine w_last (pc' := 60) ⟨rfl, rfl⟩ (zAl (zFx_rL hF) rfl) (zixZ (by omega)) ?_
      refine w_sto zwL_rL ?_
      refine w_return (pc' := 61) ⟨rfl, rfl⟩ ?_
      exact k
    · exfalso; omega
  · exfalso; rw [show c (s : Int).toNat = c s from rfl] at h; omega
theorem c_setValues {σ : zSt} (hF : zFx σ) {s r a : Nat} (hs : s < 3) (hr : r < 8) (hA : zA σ a 13 24) {Q : zSt → Option Value → Prop} (k : Q (zrL σ 80 (va_cpy (zL σ a) (zL σ 80) 0 (11 + (s * 8 + r) * 24) 24)) none) : zCa 87 [.ref 79, .int (iZ s), .int (iZ r), .ref a] σ Q := by
  refine w_enter (c := zk_X6_setValues) (ls2 := [(0, .ref 79), (1, .int (iZ s)), (2, .int (iZ r)), (3, .ref a)]) rfl ⟨rfl, rfl, rfl, rfl, trivial⟩ ?_
  refine w_iload_n (pc' := 1) ⟨rfl, rfl⟩ rfl ?_
  refine w_iload_n (pc' := 2) ⟨rfl, rfl⟩ rfl ?_
  refine w_cs2 (pc' := 5) ⟨rfl, rfl⟩ (by decide) (Nat.le_of_ble_eq_true rfl) (Nat.le_of_ble_eq_true rfl) (c_isRecordPlace (by omega) (by omega) (fun h => ?_) (fun h => ?_))
  · refine w_ifF_eq (pc' := 8) ⟨rfl, rfl⟩ (by decide) ?_
    refine w_aload_n (pc' := 9) ⟨rfl, rfl⟩ rfl ?_
    refine w_alenZ (pc' := 10) ⟨rfl, rfl⟩ hA (by decide) ?_
    refine w_bi (pc' := 12) ⟨rfl, rfl⟩ (by decide) ?_
    refine w_icF_lt (pc' := 15) ⟨rfl, rfl⟩ (by omega) ?_
    refine w_aload_n (pc' := 16) ⟨rfl, rfl⟩ rfl ?_
    refine w_ic (pc' := 17) ⟨rfl, rfl⟩ ?_
    refine w_aload_n (pc' := 18) ⟨rfl, rfl⟩ rfl ?_
    refine w_getR (pc' := 21) (cl := 4) (q := 0) ⟨rfl, rfl⟩ ⟨rfl, by decide⟩ (zOl hF rfl) (hF.2 79 0 80 rfl) ?_
    refine w_iload_n (pc' := 22) ⟨rfl, rfl⟩ rfl ?_
    refine w_iload_n (pc' := 23) ⟨rfl, rfl⟩ rfl ?_
    refine w_cs2 (pc' := 26) ⟨rfl, rfl⟩ (by decide) (Nat.le_of_ble_eq_true rfl) (Nat.le_of_ble_eq_true rfl) (c_recordStart ?_)
    refine w_bi (pc' := 28) ⟨rfl, rfl⟩ (by decide) ?_
    refine w_acpyL (pc' := 31) (i := 0) (j := (11 + (s * 8 + r) * 24)) (k := 24) ⟨rfl, rfl⟩ hA (zAl hF rfl) (by omega) (Nat.le_of_ble_eq_true rfl) ?_
    refine w_return (pc' := 32) ⟨rfl, rfl⟩ ?_
    exact k
  · exfalso; omega
