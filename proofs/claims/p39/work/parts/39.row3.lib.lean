/-! of whole, what this claim takes: 39.row3.lean.txt -/
theorem zpast_l : ∀ x : Fin 20, zfx 81 x.val = some (82 + x.val) ∧ (Nat.ble (82 + x.val + 1) 164, zLY (82 + x.val)) = (true, 13, 587) := by decide +kernel
theorem zpast {σ : zSt} (hF : zFx σ) {x : Nat} (h : x < 20) : zR σ 81 x = some (82 + x) ∧ zA σ (82 + x) 13 587 := ⟨hF.2 _ _ _ (zpast_l ⟨x, h⟩).1, zAl hF (zpast_l ⟨x, h⟩).2⟩
theorem c_keepPast {σ : zSt} (hF : zFx σ) {x : Nat} {y : Int} (hx : zI σ 79 2 = iZ x) (hx2 : x < 20) (hy : zI σ 79 3 = iZ y) (hy2 : 0 ≤ y ∧ y ≤ 20) {Q : zSt → Option Value → Prop} (k : Q (zwI (zwI (zrL σ (82 + x) (va_cpy (zL σ 80) (zL σ (82 + x)) 0 0 587)) 79 2 (iZ (((x : Int) + 1) % 20))) 79 3 (iZ (min (y + 1) 20))) none) : zCa 53 [.ref 79] σ Q := by
  refine w_enter (c := zk_X6_keepPast) (ls2 := [(0, .ref 79)]) rfl ⟨rfl, trivial⟩ ?_
  refine w_aload_n (pc' := 1) ⟨rfl, rfl⟩ rfl ?_
  refine w_getI (pc' := 4) (cl := 4) (q := 2) ⟨rfl, rfl⟩ ⟨rfl, by decide⟩ (zOl hF rfl) hx ?_
  refine w_ifF_lt (pc' := 7) ⟨rfl, rfl⟩ (by omega) ?_
  refine w_aload_n (pc' := 8) ⟨rfl, rfl⟩ rfl ?_
  refine w_getI (pc' := 11) (cl := 4) (q := 2) ⟨rfl, rfl⟩ ⟨rfl, by decide⟩ (zOl hF rfl) hx ?_
  refine w_bi (pc' := 13) ⟨rfl, rfl⟩ (by decide) ?_
  refine w_icF_ge (pc' := 16) ⟨rfl, rfl⟩ (by omega) ?_
  refine w_aload_n (pc' := 17) ⟨rfl, rfl⟩ rfl ?_
  refine w_getR (pc' := 20) (cl := 4) (q := 0) ⟨rfl, rfl⟩ ⟨rfl, by decide⟩ (zOl hF rfl) (hF.2 79 0 80 rfl) ?_
  refine w_ic (pc' := 21) ⟨rfl, rfl⟩ ?_
  refine w_aload_n (pc' := 22) ⟨rfl, rfl⟩ rfl ?_
  refine w_getR (pc' := 25) (cl := 4) (q := 1) ⟨rfl, rfl⟩ ⟨rfl, by decide⟩ (zOl hF rfl) (hF.2 79 1 81 rfl) ?_
  refine w_aload_n (pc' := 26) ⟨rfl, rfl⟩ rfl ?_
  refine w_getI (pc' := 29) (cl := 4) (q := 2) ⟨rfl, rfl⟩ ⟨rfl, by decide⟩ (zOl hF rfl) hx ?_
  refine w_aald (pc' := 30) ⟨rfl, rfl⟩ (zAl hF rfl) (by decide) (zixZ (by omega)) (zpast hF hx2).1 ?_
  refine w_ic (pc' := 31) ⟨rfl, rfl⟩ ?_
  refine w_si (pc' := 34) ⟨rfl, rfl⟩ (by decide) ?_
  refine w_acpyL (pc' := 37) (i := 0) (j := 0) (k := 587) ⟨rfl, rfl⟩ (zAl hF rfl) (zpast hF hx2).2 (by omega) (Nat.le_of_ble_eq_true rfl) ?_
  refine w_aload_n (pc' := 38) ⟨rfl, rfl⟩ rfl ?_
  refine w_aload_n (pc' := 39) ⟨rfl, rfl⟩ rfl ?_
  refine w_getI (pc' := 42) (cl := 4) (q := 2) ⟨rfl, rfl⟩ ⟨rfl, by decide⟩ (zOl hF rfl) hx ?_
  refine w_ic (pc' := 43) ⟨rfl, rfl⟩ ?_
  refine w_iaddZ (pc' := 44) ⟨rfl, rfl⟩ ?_
  refine w_bi (pc' := 46) ⟨rfl, rfl⟩ (by decide) ?_
  refine w_iremZ (pc' := 47) ⟨rfl, rfl⟩ (by omega) ?_
  refine w_putI (pc' := 50) (cl := 4) (q := 2) ⟨rfl, rfl⟩ ⟨rfl, by decide⟩ (zOl hF rfl) ?_
  refine w_aload_n (pc' := 51) ⟨rfl, rfl⟩ rfl ?_
  refine w_aload_n (pc' := 52) ⟨rfl, rfl⟩ rfl ?_
  refine w_getI (pc' := 55) (cl := 4) (q := 3) ⟨rfl, rfl⟩ ⟨rfl, by decide⟩ (zOl hF rfl) hy ?_
  refine w_ic (pc' := 56) ⟨rfl, rfl⟩ ?_
  refine w_iaddZ (pc' := 57) ⟨rfl, rfl⟩ ?_
  refine w_bi (pc' := 59) ⟨rfl, rfl⟩ (by decide) ?_
  refine w_cs2 (pc' := 62) ⟨rfl, rfl⟩ (by decide) (Nat.le_of_ble_eq_true rfl) (Nat.le_of_ble_eq_true rfl) (j_min (by omega) (by omega) ?_)
  refine w_putI (pc' := 65) (cl := 4) (q := 3) ⟨rfl, rfl⟩ ⟨rfl, by decide⟩ (zOl hF rfl) ?_
  refine w_return (pc' := 66) ⟨rfl, rfl⟩ ?_
  exact k
