/-! of whole, what this claim takes: 37.row.lean.txt -/
theorem w_acpyL {c : zCode} {pc pc' t : Nat} {ls : zLv} {r : List Value} {σ : zSt} {Q : zSt → Option Value → Prop} {x y nx ny : Nat} {i j k : Nat} (hk : zat c pc (.invokestatic 900) 3 t pc') (hx : zA σ x 13 nx) (hy : zA σ y 13 ny) (h : i + k ≤ nx ∧ j + k ≤ ny ∧ nx ≤ 1000000 ∧ ny ≤ 1000000) (hc : (r.map (fun v => v.category)).sum ≤ 8) (kk : zP c pc' ls r (zrL σ y (va_cpy (zL σ x) (zL σ y) i j k)) Q) : zP c pc ls (.int (iZ k) :: .int (iZ j) :: .ref y :: .int (iZ i) :: .ref x :: r) σ Q := by
  have ci := iZ_clamp (j := i) (by omega)
  have cj := iZ_clamp (j := j) (by omega)
  have ck := iZ_clamp (j := k) (by omega)
  have ni : ¬ iZ (i : Int) < 0 := fun q => by have := (iZ_lt (a := i) (b := 0) (by omega) (by omega)).mp q; omega
  have nj : ¬ iZ (j : Int) < 0 := fun q => by have := (iZ_lt (a := j) (b := 0) (by omega) (by omega)).mp q; omega
  have nk : ¬ iZ (k : Int) < 0 := fun q => by have := (iZ_lt (a := k) (b := 0) (by omega) (by omega)).mp q; omega
  refine w_natG (a := [.ref x, .int (iZ i), .ref y, .int (iZ j), .int (iZ k)]) (v1 := none) hk rfl rfl hc (by decide) ?_ kk
  simp only [znat, ci, cj, ck, hx.2.1, hy.2.1]
  rw [if_pos ⟨hx.1, hy.1, ni, nj, nk, h.1, h.2.1, trivial⟩, if_neg (by decide), if_pos trivial]
theorem iZ_n (n : Nat) : Int32.ofNat n = iZ n := by
  apply Int32.toBitVec_inj.mp
  apply BitVec.eq_of_toNat_eq
  show (BitVec.ofNat 32 n).toNat = (BitVec.ofInt 32 (n : Int)).toNat
  rw [BitVec.toNat_ofInt, BitVec.toNat_ofNat]
  show n % 2 ^ 32 = ((n : Int) % (2 ^ 32 : Int)).toNat
  omega
theorem w_alenZ {c : zCode} {pc pc' t : Nat} {ls : zLv} {r : List Value} {σ : zSt} {Q : zSt → Option Value → Prop} {a kd n : Nat} (hk : zat c pc .arraylength 1 t pc') (ha : zA σ a kd n) (hkd : 11 ≤ kd ∧ kd ≤ 18) (kk : zP c pc' ls (.int (iZ n) :: r) σ Q) : zP c pc ls (.ref a :: r) σ Q := w_alen hk ha hkd (iZ_n n ▸ kk)
theorem zrL_rL {σ : zSt} {o : Nat} {f g : Nat → Int64} : zrL (zrL σ o f) o g = zrL σ o g := by
  show (σ.1, va_up (va_up σ.2.1 o f) o g, σ.2.2) = (σ.1, va_up σ.2.1 o g, σ.2.2)
  congr 2
  funext i
  unfold va_up
  split <;> rfl
theorem zrL_self {σ : zSt} {o : Nat} : zrL σ o (zL σ o) = σ := by
  show (σ.1, va_up σ.2.1 o (σ.2.1 o), σ.2.2) = σ
  have : va_up σ.2.1 o (σ.2.1 o) = σ.2.1 := by
    funext i
    unfold va_up
    split
    · rename_i h; rw [h]
    · rfl
  rw [this]
theorem zL_rLs {σ : zSt} {o : Nat} {f : Nat → Int64} : zL (zrL σ o f) o = f := by
  funext i; rw [zL_rL, if_pos rfl]
theorem zwL_rL {σ : zSt} {o k : Nat} {f : Nat → Int64} {v : Int64} : zwL (zrL σ o f) o k v = zrL σ o (va_up f k v) := by
  have e : zwL (zrL σ o f) o k v = zrL (zrL σ o f) o (va_up (zL (zrL σ o f) o) k v) := rfl
  rw [e, zL_rLs, zrL_rL]
theorem zA_rL {σ : zSt} {o a k n : Nat} {f : Nat → Int64} (h : zA σ a k n) : zA (zrL σ o f) a k n := h
abbrev zRw0 : Type := Nat → Int64
def zfil (n : Nat) (v : Int64) (m : zRw0) : zRw0 := fun i => if i < n then v else m i
theorem zfil_s {n : Nat} {v : Int64} {m : zRw0} : va_up (zfil n v m) n v = zfil (n + 1) v m := by
  funext i
  unfold va_up zfil
  by_cases h : i = n
  · rw [if_pos h, if_pos (by omega)]
  · rw [if_neg h]
    by_cases h2 : i < n
    · rw [if_pos h2, if_pos (by omega)]
    · rw [if_neg h2, if_neg (by omega)]
theorem zfil_0 {v : Int64} {m : zRw0} : zfil 0 v m = m := by
  funext i; unfold zfil; rw [if_neg (by omega)]
theorem l_fill {σ : zSt} {a N : Nat} {v : Int64} (hA : zA σ a 13 N) (hN : N ≤ 1000000) {Q : zSt → Option Value → Prop} : ∀ (j : Nat) (i : Nat), i + j = N → (Q (zrL σ a (zfil N v (zL σ a))) none) → zP zk_J7_fill_d0a16 6 [(0, .ref a), (1, .long v), (3, .int (iZ i)), (4, .int (iZ N))] [] (zrL σ a (zfil i v (zL σ a))) Q := by
  intro j
  induction j with
  | zero =>
    intro i hi k
    obtain rfl : i = N := by omega
    refine w_iload_n (pc' := 7) ⟨rfl, rfl⟩ rfl ?_
    refine w_iload (pc' := 9) ⟨rfl, rfl⟩ rfl ?_
    refine w_icT_ge (pc' := 12) (pcT := 22) ⟨rfl, rfl⟩ rfl (by omega) ?_
    refine w_return (pc' := 23) ⟨rfl, rfl⟩ ?_
    exact k
  | succ j ih =>
    intro i hi k
    refine w_iload_n (pc' := 7) ⟨rfl, rfl⟩ rfl ?_
    refine w_iload (pc' := 9) ⟨rfl, rfl⟩ rfl ?_
    refine w_icF_ge (pc' := 12) ⟨rfl, rfl⟩ (by omega) ?_
    refine w_aload_n (pc' := 13) ⟨rfl, rfl⟩ rfl ?_
    refine w_iload_n (pc' := 14) ⟨rfl, rfl⟩ rfl ?_
    refine w_lload_n (pc' := 15) ⟨rfl, rfl⟩ rfl ?_
    refine w_last (pc' := 16) ⟨rfl, rfl⟩ (zA_rL hA) (zixZ (by omega)) ?_
    refine w_iincZ (pc' := 19) ⟨rfl, rfl⟩ rfl rfl ?_
    refine w_goto (pc' := 22) (pcT := 6) ⟨rfl, rfl⟩ rfl ?_
    refine w_sto zwL_rL ?_
    rw [zfil_s]
    refine w_at ?_ (ih (i + 1) (by omega) k)
    exact ⟨rfl, rfl, rfl, rfl, trivial⟩
theorem j_fill {σ : zSt} {a N : Nat} {v : Int64} (hA : zA σ a 13 N) (hN : N ≤ 1000000) {Q : zSt → Option Value → Prop} (k : Q (zrL σ a (zfil N v (zL σ a))) none) : zCa 118 [.ref a, .long v] σ Q := by
  refine w_enter (c := zk_J7_fill_d0a16) (ls2 := [(0, .ref a), (1, .long v)]) rfl ⟨rfl, rfl, trivial⟩ ?_
  refine w_ic (pc' := 1) ⟨rfl, rfl⟩ ?_
  refine w_istore_n (pc' := 2) ⟨rfl, rfl⟩ rfl ?_
  refine w_aload_n (pc' := 3) ⟨rfl, rfl⟩ rfl ?_
  refine w_alenZ (pc' := 4) ⟨rfl, rfl⟩ hA (by decide) ?_
  refine w_istore (pc' := 6) ⟨rfl, rfl⟩ rfl ?_
  have h0 : σ = zrL σ a (zfil 0 v (zL σ a)) := by rw [zfil_0, zrL_self]
  refine w_sto h0 ?_
  refine w_at ?_ (l_fill hA hN N 0 (by omega) k)
  exact ⟨rfl, rfl, rfl, rfl, trivial⟩
