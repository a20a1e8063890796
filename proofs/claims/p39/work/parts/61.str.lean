/-! STRINGS, BITS -/
theorem zn905 {j : Nat} (hj : j < 22) {σ : zSt} : znat 905 [.ref (zSTR + j)] σ = some (σ, some (.int (Int32.ofNat (zTx j).length))) := by
  have h : zSTR ≤ zSTR + j ∧ ¬ zSTE ≤ zSTR + j := ⟨Nat.le_add_right _ _, by have : zSTE = zSTR + 22 := rfl; omega⟩
  have e : Nat.sub (zSTR + j) zSTR = j := Nat.add_sub_cancel_left _ _
  show (if zSTR ≤ zSTR + j ∧ ¬ zSTE ≤ zSTR + j then some (σ, some (Value.int (Int32.ofNat (zTx (Nat.sub (zSTR + j) zSTR)).length))) else none) = _
  rw [if_pos h, e]
theorem zn906 {j i : Nat} (hj : j < 22) (hi : i < (zTx j).length) {σ : zSt} : znat 906 [.ref (zSTR + j), .int (iZ (i : Int))] σ = some (σ, some (.int ((zTx j).getD i 0))) := by
  have hl : (zTx j).length ≤ 87 := (show ∀ j : Nat, j < 22 → (zTx j).length ≤ 87 by decide +kernel) j hj
  have hz := zixZ (n := (zTx j).length) (j := i) ⟨hi, by omega⟩
  have e : Nat.sub (zSTR + j) zSTR = j := Nat.add_sub_cancel_left _ _
  have h : (zSTR ≤ zSTR + j ∧ ¬ zSTE ≤ zSTR + j) ∧ zin (iZ (i : Int)) (zTx (Nat.sub (zSTR + j) zSTR)).length := ⟨⟨Nat.le_add_right _ _, by have : zSTE = zSTR + 22 := rfl; omega⟩, by rw [e]; exact hz.zin⟩
  show (if (zSTR ≤ zSTR + j ∧ ¬ zSTE ≤ zSTR + j) ∧ zin (iZ (i : Int)) (zTx (Nat.sub (zSTR + j) zSTR)).length then some (σ, some (Value.int ((zTx (Nat.sub (zSTR + j) zSTR)).getD (iZ (i : Int)).toNatClampNeg 0))) else none) = _
  rw [if_pos h, e, hz.2.1]
section ZSW
variable {c : zCode} {pc pc' t : Nat} {ls : zLv} {r : List Value} {σ : zSt} {Q : zSt → Option Value → Prop}
theorem w_sl {j : Nat} (hk : zat c pc (.invokevirtual 905) 3 t pc') (hj : j < 22) (hc : (r.map (fun v => v.category)).sum ≤ 8) (k : zP c pc' ls (.int (iZ ((zTx j).length : Int)) :: r) σ Q) : zP c pc ls (.ref (zSTR + j) :: r) σ Q := w_natG (a := [.ref (zSTR + j)]) (v1 := some (.int (Int32.ofNat (zTx j).length))) hk rfl rfl hc (by decide) (zn905 hj) (iZ_n _ ▸ k)
theorem w_sc {j i : Nat} (hk : zat c pc (.invokevirtual 906) 3 t pc') (hj : j < 22) (hi : i < (zTx j).length) (hc : (r.map (fun v => v.category)).sum ≤ 8) (k : zP c pc' ls (.int ((zTx j).getD i 0) :: r) σ Q) : zP c pc ls (.int (iZ (i : Int)) :: .ref (zSTR + j) :: r) σ Q := w_natG (a := [.ref (zSTR + j), .int (iZ (i : Int))]) (v1 := some (.int ((zTx j).getD i 0))) hk rfl rfl hc (by decide) (zn906 hj hi) k
end ZSW
theorem iZ_and7 (a : Int) : iZ a &&& iZ 7 = iZ (a % 8) := iZ_andB a (k := 3) (by decide) (by decide)
theorem iZ_and15 (a : Int) : iZ a &&& iZ 15 = iZ (a % 16) := iZ_andB a (k := 4) (by decide) (by decide)
theorem iZ_and63 (a : Int) : iZ a &&& iZ 63 = iZ (a % 64) := iZ_andB a (k := 6) (by decide) (by decide)
