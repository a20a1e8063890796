/-! TOKENS: numbers, names -/
theorem zcnt_k {p : Int → Prop} [DecidablePred p] : ∀ (k f : Nat) (z : Int), (∀ i : Nat, i < k → p (z + i)) → ¬ p (z + k) → k < f → zcnt p f z = k
  | 0, f, z, _, h, _ => zcnt_f (Or.inl (by simpa using h))
  | k + 1, f, z, h1, h2, hf => by
    rw [zcnt_t (by simpa using h1 0 (by omega)) (by omega), zcnt_k k (f - 1) (z + 1) (fun i hi => by have := h1 (i + 1) (by omega); rwa [show z + 1 + (i : Int) = z + ((i + 1 : Nat) : Int) by omega]) (by rwa [show z + 1 + (k : Int) = z + ((k + 1 : Nat) : Int) by omega]) (by omega)]
/-- the number that digits tell; the name that letters tell -/
def znb (c : Nat → Int) : Nat → Int
  | 0 => 0
  | k + 1 => 10 * znb c k + c k - 48
def zpk (c : Nat → Int) : Nat → Int32
  | 0 => iZ 0
  | k + 1 => zpk c k ||| (iZ (c k - 97 + 1) <<< (iZ (5 * (5 - (k : Int))) &&& 31))
theorem c_withLetter {σ : zSt} {v : Int32} {i : Nat} {c : Int} {Q : zSt → Option Value → Prop} (k : Q σ (some (.int (v ||| (iZ c <<< (iZ (5 * (5 - (i : Int))) &&& 31)))))) : zCa 89 [.int v, .int (iZ (i : Int)), .int (iZ c)] σ Q := by
  refine w_enter (c := zk_X9_withLetter) (ls2 := [(0, .int v), (1, .int (iZ (i : Int))), (2, .int (iZ c))]) rfl ⟨rfl, rfl, rfl, trivial⟩ ?_
  refine w_iload_n (pc' := 1) ⟨rfl, rfl⟩ rfl ?_
  refine w_iload_n (pc' := 2) ⟨rfl, rfl⟩ rfl ?_
  refine w_ic (pc' := 3) ⟨rfl, rfl⟩ ?_
  refine w_ic (pc' := 4) ⟨rfl, rfl⟩ ?_
  refine w_iload_n (pc' := 5) ⟨rfl, rfl⟩ rfl ?_
  refine w_isubZ (pc' := 6) ⟨rfl, rfl⟩ ?_
  refine w_imulZ (pc' := 7) ⟨rfl, rfl⟩ ?_
  refine w_ishl (pc' := 8) ⟨rfl, rfl⟩ ?_
  refine w_ior (pc' := 9) ⟨rfl, rfl⟩ ?_
  refine w_ireturn (pc' := 10) ⟨rfl, rfl⟩ (Or.inl rfl) ?_
  exact k
theorem l_numberFrom {σ : zSt} {n : Nat} {b : Nat → Int} (hF : zFx σ) (hT : zTp σ n b) {p : Nat} (hp : p ≤ 1600) {c : Nat → Int} {d : Nat} (hd : d ≤ 3) (hc : ∀ i : Nat, i < d → zby n b ((p : Int) + i) = c i ∧ 48 ≤ c i ∧ c i ≤ 57) {Q : zSt → Option Value → Prop} : ∀ (m : Nat) (i : Nat), i + m = d → (Q σ (some (.int (iZ (znb c d))))) → zP zk_X9_numberFrom 5 [(0, .ref 3), (1, .int (iZ (p : Int))), (2, .int (iZ (d : Int))), (3, .int (iZ (znb c i))), (4, .int (iZ (i : Int)))] [] σ Q := by
  intro m
  induction m with
  | zero =>
    intro i hi k
    refine w_iload (pc' := 7) ⟨rfl, rfl⟩ rfl ?_
    refine w_iload_n (pc' := 8) ⟨rfl, rfl⟩ rfl ?_
    refine w_icT_ge (pc' := 11) (pcT := 45) ⟨rfl, rfl⟩ rfl (by omega) ?_
    refine w_iload_n (pc' := 46) ⟨rfl, rfl⟩ rfl ?_
    refine w_ireturn (pc' := 47) ⟨rfl, rfl⟩ (Or.inl rfl) ?_
    obtain rfl : i = d := by omega
    exact k
  | succ m ih =>
    intro i hi k
    refine w_iload (pc' := 7) ⟨rfl, rfl⟩ rfl ?_
    refine w_iload_n (pc' := 8) ⟨rfl, rfl⟩ rfl ?_
    refine w_icF_ge (pc' := 11) ⟨rfl, rfl⟩ (by omega) ?_
    refine w_aload_n (pc' := 12) ⟨rfl, rfl⟩ rfl ?_
    refine w_iload_n (pc' := 13) ⟨rfl, rfl⟩ rfl ?_
    refine w_iload (pc' := 15) ⟨rfl, rfl⟩ rfl ?_
    refine w_iaddZ (pc' := 16) ⟨rfl, rfl⟩ ?_
    have hd := hc i (by omega)
    refine w_cv2 (pc' := 19) ⟨rfl, rfl⟩ (by decide) (zOl hF rfl) (Nat.le_of_ble_eq_true rfl) (Nat.le_of_ble_eq_true rfl) (c_isDigit hF hT (by omega) (fun h => ?_) (fun h => ?_))
    · refine w_ifF_eq (pc' := 22) ⟨rfl, rfl⟩ (by decide) ?_
      refine w_bi (pc' := 24) ⟨rfl, rfl⟩ (by decide) ?_
      refine w_iload_n (pc' := 25) ⟨rfl, rfl⟩ rfl ?_
      refine w_imulZ (pc' := 26) ⟨rfl, rfl⟩ ?_
      refine w_aload_n (pc' := 27) ⟨rfl, rfl⟩ rfl ?_
      refine w_iload_n (pc' := 28) ⟨rfl, rfl⟩ rfl ?_
      refine w_iload (pc' := 30) ⟨rfl, rfl⟩ rfl ?_
      refine w_iaddZ (pc' := 31) ⟨rfl, rfl⟩ ?_
      refine w_cv2 (pc' := 34) ⟨rfl, rfl⟩ (by decide) (zOl hF rfl) (Nat.le_of_ble_eq_true rfl) (Nat.le_of_ble_eq_true rfl) (c_byteAt hF hT (by omega) ?_)
      rw [hd.1]
      refine w_iaddZ (pc' := 35) ⟨rfl, rfl⟩ ?_
      refine w_bi (pc' := 37) ⟨rfl, rfl⟩ (by decide) ?_
      refine w_isubZ (pc' := 38) ⟨rfl, rfl⟩ ?_
      refine w_istore_n (pc' := 39) ⟨rfl, rfl⟩ rfl ?_
      refine w_iincZ (pc' := 42) ⟨rfl, rfl⟩ rfl rfl ?_
      refine w_goto (pc' := 45) (pcT := 5) ⟨rfl, rfl⟩ rfl ?_
      refine w_at (ls2 := [(0, .ref 3), (1, .int (iZ (p : Int))), (2, .int (iZ (d : Int))), (3, .int (iZ (znb c (i + 1)))), (4, .int (iZ ((i + 1 : Nat) : Int)))]) ?_ (ih (i + 1) (by omega) k)
      exact ⟨rfl, rfl, rfl, rfl, rfl, trivial⟩
    · exact absurd (by unfold zdg; rw [hd.1]; exact hd.2) h
theorem c_numberFrom {σ : zSt} {n : Nat} {b : Nat → Int} (hF : zFx σ) (hT : zTp σ n b) {p : Nat} (hp : p ≤ 1600) {c : Nat → Int} {d : Nat} (hd : d ≤ 3) (hc : ∀ i : Nat, i < d → zby n b ((p : Int) + i) = c i ∧ 48 ≤ c i ∧ c i ≤ 57) {Q : zSt → Option Value → Prop} (k : Q σ (some (.int (iZ (znb c d))))) : zCa 87 [.ref 3, .int (iZ (p : Int)), .int (iZ (d : Int))] σ Q := by
  refine w_enter (c := zk_X9_numberFrom) (ls2 := [(0, .ref 3), (1, .int (iZ (p : Int))), (2, .int (iZ (d : Int)))]) rfl ⟨rfl, rfl, rfl, trivial⟩ ?_
  refine w_ic (pc' := 1) ⟨rfl, rfl⟩ ?_
  refine w_istore_n (pc' := 2) ⟨rfl, rfl⟩ rfl ?_
  refine w_ic (pc' := 3) ⟨rfl, rfl⟩ ?_
  refine w_istore (pc' := 5) ⟨rfl, rfl⟩ rfl ?_
  refine w_at (ls2 := [(0, .ref 3), (1, .int (iZ (p : Int))), (2, .int (iZ (d : Int))), (3, .int (iZ (znb c 0))), (4, .int (iZ ((0 : Nat) : Int)))]) ?_ (l_numberFrom hF hT hp hd hc d 0 (by omega) k)
  exact ⟨rfl, rfl, rfl, rfl, rfl, trivial⟩
theorem l_nameFrom {σ : zSt} {n : Nat} {b : Nat → Int} (hF : zFx σ) (hT : zTp σ n b) {p : Nat} (hp : p ≤ 1600) {c : Nat → Int} {d : Nat} (hd : d ≤ 6) (hc : ∀ i : Nat, i < d → zby n b ((p : Int) + i) = c i ∧ 97 ≤ c i ∧ c i ≤ 122) (he : d = 6 ∨ ¬ zlt n b ((p : Int) + d)) {Q : zSt → Option Value → Prop} : ∀ (m : Nat) (i : Nat), i + m = d → (Q σ (some (.int (zpk c d)))) → zP zk_X9_nameFrom 4 [(0, .ref 3), (1, .int (iZ (p : Int))), (2, .int (zpk c i)), (3, .int (iZ (i : Int)))] [] σ Q := by
  intro m
  induction m with
  | zero =>
    intro i hi k
    obtain rfl : i = d := by omega
    refine w_iload_n (pc' := 5) ⟨rfl, rfl⟩ rfl ?_
    refine w_bi (pc' := 7) ⟨rfl, rfl⟩ (by decide) ?_
    refine w_ic_ge (pc' := 10) (pcT := 44) ⟨rfl, rfl⟩ rfl (by omega) (by omega) (fun h1 => ?_) (fun h1 => ?_)
    · refine w_iload_n (pc' := 45) ⟨rfl, rfl⟩ rfl ?_
      refine w_ireturn (pc' := 46) ⟨rfl, rfl⟩ (Or.inl rfl) ?_
      exact k
    · refine w_aload_n (pc' := 11) ⟨rfl, rfl⟩ rfl ?_
      refine w_iload_n (pc' := 12) ⟨rfl, rfl⟩ rfl ?_
      refine w_iload_n (pc' := 13) ⟨rfl, rfl⟩ rfl ?_
      refine w_iaddZ (pc' := 14) ⟨rfl, rfl⟩ ?_
      refine w_cv2 (pc' := 17) ⟨rfl, rfl⟩ (by decide) (zOl hF rfl) (Nat.le_of_ble_eq_true rfl) (Nat.le_of_ble_eq_true rfl) (c_isLetter hF hT (by omega) (fun h => ?_) (fun h => ?_))
      · exact absurd h (he.resolve_left (by omega))
      · refine w_ifT_eq (pc' := 20) (pcT := 44) ⟨rfl, rfl⟩ rfl (by decide) ?_
        refine w_iload_n (pc' := 45) ⟨rfl, rfl⟩ rfl ?_
        refine w_ireturn (pc' := 46) ⟨rfl, rfl⟩ (Or.inl rfl) ?_
        exact k
  | succ m ih =>
    intro i hi k
    refine w_iload_n (pc' := 5) ⟨rfl, rfl⟩ rfl ?_
    refine w_bi (pc' := 7) ⟨rfl, rfl⟩ (by decide) ?_
    refine w_icF_ge (pc' := 10) ⟨rfl, rfl⟩ (by omega) ?_
    refine w_aload_n (pc' := 11) ⟨rfl, rfl⟩ rfl ?_
    refine w_iload_n (pc' := 12) ⟨rfl, rfl⟩ rfl ?_
    refine w_iload_n (pc' := 13) ⟨rfl, rfl⟩ rfl ?_
    refine w_iaddZ (pc' := 14) ⟨rfl, rfl⟩ ?_
    have hd2 := hc i (by omega)
    refine w_cv2 (pc' := 17) ⟨rfl, rfl⟩ (by decide) (zOl hF rfl) (Nat.le_of_ble_eq_true rfl) (Nat.le_of_ble_eq_true rfl) (c_isLetter hF hT (by omega) (fun h => ?_) (fun h => ?_))
    · refine w_ifF_eq (pc' := 20) ⟨rfl, rfl⟩ (by decide) ?_
      refine w_iload_n (pc' := 21) ⟨rfl, rfl⟩ rfl ?_
      refine w_iload_n (pc' := 22) ⟨rfl, rfl⟩ rfl ?_
      refine w_aload_n (pc' := 23) ⟨rfl, rfl⟩ rfl ?_
      refine w_iload_n (pc' := 24) ⟨rfl, rfl⟩ rfl ?_
      refine w_iload_n (pc' := 25) ⟨rfl, rfl⟩ rfl ?_
      refine w_iaddZ (pc' := 26) ⟨rfl, rfl⟩ ?_
      refine w_cv2 (pc' := 29) ⟨rfl, rfl⟩ (by decide) (zOl hF rfl) (Nat.le_of_ble_eq_true rfl) (Nat.le_of_ble_eq_true rfl) (c_byteAt hF hT (by omega) ?_)
      rw [hd2.1]
      refine w_bi (pc' := 31) ⟨rfl, rfl⟩ (by decide) ?_
      refine w_isubZ (pc' := 32) ⟨rfl, rfl⟩ ?_
      refine w_ic (pc' := 33) ⟨rfl, rfl⟩ ?_
      refine w_iaddZ (pc' := 34) ⟨rfl, rfl⟩ ?_
      refine w_cs3 (pc' := 37) ⟨rfl, rfl⟩ (by decide) (Nat.le_of_ble_eq_true rfl) (Nat.le_of_ble_eq_true rfl) (c_withLetter ?_)
      refine w_istore_n (pc' := 38) ⟨rfl, rfl⟩ rfl ?_
      refine w_iincZ (pc' := 41) ⟨rfl, rfl⟩ rfl rfl ?_
      refine w_goto (pc' := 44) (pcT := 4) ⟨rfl, rfl⟩ rfl ?_
      refine w_at (ls2 := [(0, .ref 3), (1, .int (iZ (p : Int))), (2, .int (zpk c (i + 1))), (3, .int (iZ ((i + 1 : Nat) : Int)))]) ?_ (ih (i + 1) (by omega) k)
      exact ⟨rfl, rfl, rfl, rfl, trivial⟩
    · exact absurd (by unfold zlt; rw [hd2.1]; exact hd2.2) h
theorem c_nameFrom {σ : zSt} {n : Nat} {b : Nat → Int} (hF : zFx σ) (hT : zTp σ n b) {p : Nat} (hp : p ≤ 1600) {c : Nat → Int} {d : Nat} (hd : d ≤ 6) (hc : ∀ i : Nat, i < d → zby n b ((p : Int) + i) = c i ∧ 97 ≤ c i ∧ c i ≤ 122) (he : d = 6 ∨ ¬ zlt n b ((p : Int) + d)) {Q : zSt → Option Value → Prop} (k : Q σ (some (.int (zpk c d)))) : zCa 88 [.ref 3, .int (iZ (p : Int))] σ Q := by
  refine w_enter (c := zk_X9_nameFrom) (ls2 := [(0, .ref 3), (1, .int (iZ (p : Int)))]) rfl ⟨rfl, rfl, trivial⟩ ?_
  refine w_ic (pc' := 1) ⟨rfl, rfl⟩ ?_
  refine w_istore_n (pc' := 2) ⟨rfl, rfl⟩ rfl ?_
  refine w_ic (pc' := 3) ⟨rfl, rfl⟩ ?_
  refine w_istore_n (pc' := 4) ⟨rfl, rfl⟩ rfl ?_
  refine w_at (ls2 := [(0, .ref 3), (1, .int (iZ (p : Int))), (2, .int (zpk c 0)), (3, .int (iZ ((0 : Nat) : Int)))]) ?_ (l_nameFrom hF hT hp hd hc he d 0 (by omega) k)
  exact ⟨rfl, rfl, rfl, rfl, trivial⟩
