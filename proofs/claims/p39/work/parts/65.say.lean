/-! THE LAW SAYS a text -/
section ZG
variable {c : zCode} {pc : Nat} {ls : zLv} {st : List Value} {σ : zSt} {Q : zSt → Option Value → Prop}
/-- what was written is forgotten but for its frame -/
theorem w_gI {o k : Nat} {v : Int32} (h : ∀ σ1, zFm [o] σ σ1 → zI σ1 o k = v → (∀ k', k' ≠ k → zI σ1 o k' = zI σ o k') → zP c pc ls st σ1 Q) : zP c pc ls st (zwI σ o k v) Q := h _ (zFm.wI List.mem_cons_self) zI_wI_s (fun _ h => zI_wI_n (Or.inr h))
end ZG
/-- the text of a string -/
def zTs (j : Nat) : List Int := (zTx j).map Int32.toInt
/-- four letters as a number -/
def zfr (j : Nat) : Nat → Nat → Int32 → Int32
  | 0, _, v => v
  | m + 1, i, v => zfr j m (i + 1) ((v <<< (iZ 8 &&& 31)) ||| (if i < (zTx j).length then (zTx j).getD i 0 else iZ 0))
theorem zTx_len {j : Nat} (hj : j < 22) : (zTx j).length ≤ 87 := (show ∀ j : Nat, j < 22 → (zTx j).length ≤ 87 by decide +kernel) j hj
theorem zsay {j : Nat} (h : 1 ≤ j ∧ j < 22) : (zb4 (zfr j 4 0 (iZ 0)) ++ (zb4 (zfr j 4 4 (iZ 0)) ++ (zb4 (zfr j 4 8 (iZ 0)) ++ (zb4 (zfr j 4 12 (iZ 0)) ++ zb4 (zfr j 4 16 (iZ 0)))))).take (zTx j).length = zTs j ∧ (1 ≤ (zTx j).length ∧ (zTx j).length ≤ 20) ∧ (zTs j).length = (zTx j).length := by
  have key : ∀ j : Nat, j < 22 → 1 ≤ j → (zb4 (zfr j 4 0 (iZ 0)) ++ (zb4 (zfr j 4 4 (iZ 0)) ++ (zb4 (zfr j 4 8 (iZ 0)) ++ (zb4 (zfr j 4 12 (iZ 0)) ++ zb4 (zfr j 4 16 (iZ 0)))))).take (zTx j).length = zTs j ∧ (1 ≤ (zTx j).length ∧ (zTx j).length ≤ 20) ∧ (zTs j).length = (zTx j).length := by decide +kernel
  exact key j h.2 h.1
theorem zbZ_sign {c : Int} (h : 0 ≤ c ∧ c ≤ 255) : zbZ (iZ (c * 2 ^ 24)) 24 = c := by
  have key : ∀ n : Nat, n < 256 → zbZ (iZ ((n : Int) * 2 ^ 24)) 24 = n := by decide +kernel
  have := key c.toNat (by omega)
  rwa [Int.toNat_of_nonneg h.1] at this
/-- a text being said -/
def zBd (σ : zSt) (l : List Int) : Prop := zTL σ l ∧ zA σ 164 12 1 ∧ zI σ 164 0 = iZ (l.length : Int)
theorem zA.fm {w : List Nat} {σ σ' : zSt} {a kd n : Nat} (h : zA σ a kd n) (f : zFm w σ σ') : zA σ' a kd n := ⟨by rw [f.1]; exact h.1, h.2⟩
theorem l_four {σ : zSt} {j b : Nat} (hj : j < 22) (hb : b ≤ 100) {Q : zSt → Option Value → Prop} : ∀ (m : Nat) (i : Nat) (v : Int32), i + m = b + 4 → i ≤ 200 → (Q σ (some (.int (zfr j m i v)))) → zP zk_L_four 4 [(0, .ref (zSTR + j)), (1, .int (iZ (b : Int))), (2, .int v), (3, .int (iZ (i : Int)))] [] σ Q := by
  intro m
  induction m with
  | zero =>
    intro i v hi hi2 k
    refine w_iload_n (pc' := 5) ⟨rfl, rfl⟩ rfl ?_
    refine w_iload_n (pc' := 6) ⟨rfl, rfl⟩ rfl ?_
    refine w_ic (pc' := 7) ⟨rfl, rfl⟩ ?_
    refine w_iaddZ (pc' := 8) ⟨rfl, rfl⟩ ?_
    refine w_icT_ge (pc' := 11) (pcT := 40) ⟨rfl, rfl⟩ rfl (by omega) ?_
    refine w_iload_n (pc' := 41) ⟨rfl, rfl⟩ rfl ?_
    refine w_ireturn (pc' := 42) ⟨rfl, rfl⟩ (Or.inl rfl) ?_
    exact k
  | succ m ih =>
    intro i v hi hi2 k
    have hl := zTx_len hj
    refine w_iload_n (pc' := 5) ⟨rfl, rfl⟩ rfl ?_
    refine w_iload_n (pc' := 6) ⟨rfl, rfl⟩ rfl ?_
    refine w_ic (pc' := 7) ⟨rfl, rfl⟩ ?_
    refine w_iaddZ (pc' := 8) ⟨rfl, rfl⟩ ?_
    refine w_icF_ge (pc' := 11) ⟨rfl, rfl⟩ (by omega) ?_
    refine w_iload_n (pc' := 12) ⟨rfl, rfl⟩ rfl ?_
    refine w_bi (pc' := 14) ⟨rfl, rfl⟩ (by decide) ?_
    refine w_ishl (pc' := 15) ⟨rfl, rfl⟩ ?_
    refine w_iload_n (pc' := 16) ⟨rfl, rfl⟩ rfl ?_
    refine w_aload_n (pc' := 17) ⟨rfl, rfl⟩ rfl ?_
    refine w_sl (pc' := 20) ⟨rfl, rfl⟩ hj (Nat.le_of_ble_eq_true rfl) ?_
    refine w_ic_ge (pc' := 23) (pcT := 31) ⟨rfl, rfl⟩ rfl (by omega) (by omega) (fun h1 => ?_) (fun h1 => ?_)
    · refine w_ic (pc' := 32) ⟨rfl, rfl⟩ ?_
      refine w_ior (pc' := 33) ⟨rfl, rfl⟩ ?_
      refine w_istore_n (pc' := 34) ⟨rfl, rfl⟩ rfl ?_
      refine w_iincZ (pc' := 37) ⟨rfl, rfl⟩ rfl rfl ?_
      refine w_goto (pc' := 40) (pcT := 4) ⟨rfl, rfl⟩ rfl ?_
      have hk := k
      first | rw [zfr, if_pos (by omega)] at hk | rw [zfr, if_neg (by omega)] at hk
      refine w_at (ls2 := [(0, .ref (zSTR + j)), (1, .int (iZ (b : Int))), (2, _), (3, .int (iZ ((i + 1 : Nat) : Int)))]) ?_ (ih (i + 1) _ (by omega) (by omega) hk)
      exact ⟨rfl, rfl, rfl, rfl, trivial⟩
    · refine w_aload_n (pc' := 24) ⟨rfl, rfl⟩ rfl ?_
      refine w_iload_n (pc' := 25) ⟨rfl, rfl⟩ rfl ?_
      refine w_sc (pc' := 28) ⟨rfl, rfl⟩ hj (by omega) (Nat.le_of_ble_eq_true rfl) ?_
      refine w_goto (pc' := 31) (pcT := 32) ⟨rfl, rfl⟩ rfl ?_
      refine w_ior (pc' := 33) ⟨rfl, rfl⟩ ?_
      refine w_istore_n (pc' := 34) ⟨rfl, rfl⟩ rfl ?_
      refine w_iincZ (pc' := 37) ⟨rfl, rfl⟩ rfl rfl ?_
      refine w_goto (pc' := 40) (pcT := 4) ⟨rfl, rfl⟩ rfl ?_
      have hk := k
      first | rw [zfr, if_pos (by omega)] at hk | rw [zfr, if_neg (by omega)] at hk
      refine w_at (ls2 := [(0, .ref (zSTR + j)), (1, .int (iZ (b : Int))), (2, _), (3, .int (iZ ((i + 1 : Nat) : Int)))]) ?_ (ih (i + 1) _ (by omega) (by omega) hk)
      exact ⟨rfl, rfl, rfl, rfl, trivial⟩
theorem f_four {σ : zSt} {j b : Nat} (hj : j < 22) (hb : b ≤ 100) {Q : zSt → Option Value → Prop} (k : Q σ (some (.int (zfr j 4 b (iZ 0))))) : zCa 120 [.ref (zSTR + j), .int (iZ (b : Int))] σ Q := by
  refine w_enter (c := zk_L_four) (ls2 := [(0, .ref (zSTR + j)), (1, .int (iZ (b : Int)))]) rfl ⟨rfl, rfl, trivial⟩ ?_
  refine w_ic (pc' := 1) ⟨rfl, rfl⟩ ?_
  refine w_istore_n (pc' := 2) ⟨rfl, rfl⟩ rfl ?_
  refine w_iload_n (pc' := 3) ⟨rfl, rfl⟩ rfl ?_
  refine w_istore_n (pc' := 4) ⟨rfl, rfl⟩ rfl ?_
  refine w_at (ls2 := [(0, .ref (zSTR + j)), (1, .int (iZ (b : Int))), (2, .int (iZ 0)), (3, .int (iZ (b : Int)))]) ?_ (l_four hj hb 4 b (iZ 0) rfl (by omega) k)
  exact ⟨rfl, rfl, rfl, rfl, trivial⟩
theorem f_say {σ : zSt} (hF : zFx σ) {l : List Int} (hB : zBd σ l) (hn : l.length + 20 ≤ 1600) {j : Nat} (hj1 : 1 ≤ j ∧ j < 22) {Q : zSt → Option Value → Prop} (k : ∀ σ1, zFm [3, 4, 164] σ σ1 → zBd σ1 (l ++ zTs j) → Q σ1 (some (.int (iZ 1)))) : zCa 121 [.ref 0, .ref (zSTR + j), .ref 164] σ Q := by
  refine w_enter (c := zk_L_say) (ls2 := [(0, .ref 0), (1, .ref (zSTR + j)), (2, .ref 164)]) rfl ⟨rfl, rfl, rfl, trivial⟩ ?_
  obtain ⟨hz, hl, hzl⟩ := zsay hj1
  have hj := hj1.2
  refine w_ic (pc' := 1) ⟨rfl, rfl⟩ ?_
  refine w_istore_n (pc' := 2) ⟨rfl, rfl⟩ rfl ?_
  refine w_iload_n (pc' := 3) ⟨rfl, rfl⟩ rfl ?_
  refine w_aload_n (pc' := 4) ⟨rfl, rfl⟩ rfl ?_
  refine w_sl (pc' := 7) ⟨rfl, rfl⟩ hj (Nat.le_of_ble_eq_true rfl) ?_
  refine w_icF_ge (pc' := 10) ⟨rfl, rfl⟩ (by omega) ?_
  refine w_aload_n (pc' := 11) ⟨rfl, rfl⟩ rfl ?_
  refine w_ic (pc' := 12) ⟨rfl, rfl⟩ ?_
  refine w_dup2 (pc' := 13) ⟨rfl, rfl⟩ ?_
  refine w_iald (pc' := 14) ⟨rfl, rfl⟩ hB.2.1 (zixA (j := 0) (by decide)) hB.2.2 ?_
  refine w_bi (pc' := 16) ⟨rfl, rfl⟩ (by decide) ?_
  refine w_aload_n (pc' := 17) ⟨rfl, rfl⟩ rfl ?_
  refine w_sl (pc' := 20) ⟨rfl, rfl⟩ hj (Nat.le_of_ble_eq_true rfl) ?_
  refine w_iload_n (pc' := 21) ⟨rfl, rfl⟩ rfl ?_
  refine w_isubZ (pc' := 22) ⟨rfl, rfl⟩ ?_
  refine w_cs2 (pc' := 25) ⟨rfl, rfl⟩ (by decide) (Nat.le_of_ble_eq_true rfl) (Nat.le_of_ble_eq_true rfl) (j_min (by omega) (by omega) ?_)
  refine w_iaddZ (pc' := 26) ⟨rfl, rfl⟩ ?_
  refine w_iast (pc' := 27) ⟨rfl, rfl⟩ hB.2.1 (zixA (j := 0) (by decide)) ?_
  refine w_gI (fun σ1 m1 e1 _ => ?_)
  have hF1 := m1.fx hF
  have hT1 := zTL.fr hB.1 m1 (by decide) (by decide)
  refine w_aload_n (pc' := 28) ⟨rfl, rfl⟩ rfl ?_
  refine w_aload_n (pc' := 29) ⟨rfl, rfl⟩ rfl ?_
  refine w_iload_n (pc' := 30) ⟨rfl, rfl⟩ rfl ?_
  refine w_cs2 (pc' := 33) ⟨rfl, rfl⟩ (by decide) (Nat.le_of_ble_eq_true rfl) (Nat.le_of_ble_eq_true rfl) (f_four hj (b := 0) (by decide) ?_)
  refine w_aload_n (pc' := 34) ⟨rfl, rfl⟩ rfl ?_
  refine w_iload_n (pc' := 35) ⟨rfl, rfl⟩ rfl ?_
  refine w_ic (pc' := 36) ⟨rfl, rfl⟩ ?_
  refine w_iaddZ (pc' := 37) ⟨rfl, rfl⟩ ?_
  refine w_cs2 (pc' := 40) ⟨rfl, rfl⟩ (by decide) (Nat.le_of_ble_eq_true rfl) (Nat.le_of_ble_eq_true rfl) (f_four hj (b := 4) (by decide) ?_)
  refine w_aload_n (pc' := 41) ⟨rfl, rfl⟩ rfl ?_
  refine w_iload_n (pc' := 42) ⟨rfl, rfl⟩ rfl ?_
  refine w_bi (pc' := 44) ⟨rfl, rfl⟩ (by decide) ?_
  refine w_iaddZ (pc' := 45) ⟨rfl, rfl⟩ ?_
  refine w_cs2 (pc' := 48) ⟨rfl, rfl⟩ (by decide) (Nat.le_of_ble_eq_true rfl) (Nat.le_of_ble_eq_true rfl) (f_four hj (b := 8) (by decide) ?_)
  refine w_aload_n (pc' := 49) ⟨rfl, rfl⟩ rfl ?_
  refine w_iload_n (pc' := 50) ⟨rfl, rfl⟩ rfl ?_
  refine w_bi (pc' := 52) ⟨rfl, rfl⟩ (by decide) ?_
  refine w_iaddZ (pc' := 53) ⟨rfl, rfl⟩ ?_
  refine w_cs2 (pc' := 56) ⟨rfl, rfl⟩ (by decide) (Nat.le_of_ble_eq_true rfl) (Nat.le_of_ble_eq_true rfl) (f_four hj (b := 12) (by decide) ?_)
  refine w_aload_n (pc' := 57) ⟨rfl, rfl⟩ rfl ?_
  refine w_iload_n (pc' := 58) ⟨rfl, rfl⟩ rfl ?_
  refine w_bi (pc' := 60) ⟨rfl, rfl⟩ (by decide) ?_
  refine w_iaddZ (pc' := 61) ⟨rfl, rfl⟩ ?_
  refine w_cs2 (pc' := 64) ⟨rfl, rfl⟩ (by decide) (Nat.le_of_ble_eq_true rfl) (Nat.le_of_ble_eq_true rfl) (f_four hj (b := 16) (by decide) ?_)
  refine w_cv6 (pc' := 67) ⟨rfl, rfl⟩ (by decide) (zOl hF1 rfl) (Nat.le_of_ble_eq_true rfl) (Nat.le_of_ble_eq_true rfl) (f_feed hF1 hT1 (by omega) (fun σ2 m2 t2 => ?_))
  have hF2 := m2.fx hF1
  have hA2 := (hB.2.1.fm m1).fm m2
  have e2 := (((m2.2.2 164 (by decide)).1 0).trans e1)
  refine w_bi (pc' := 69) ⟨rfl, rfl⟩ (by decide) ?_
  refine w_icF_lt (pc' := 72) ⟨rfl, rfl⟩ (by omega) ?_
  refine w_aload_n (pc' := 73) ⟨rfl, rfl⟩ rfl ?_
  refine w_aload_n (pc' := 74) ⟨rfl, rfl⟩ rfl ?_
  refine w_ic (pc' := 75) ⟨rfl, rfl⟩ ?_
  refine w_iald (pc' := 76) ⟨rfl, rfl⟩ hA2 (zixA (j := 0) (by decide)) e2 ?_
  refine w_topI (show _ = iZ ((l.length + (zTx j).length : Nat) : Int) from congrArg iZ (by omega)) ?_
  refine w_cv2 (pc' := 79) ⟨rfl, rfl⟩ (by decide) (zOl hF2 rfl) (Nat.le_of_ble_eq_true rfl) (Nat.le_of_ble_eq_true rfl) (f_end hF2 t2 (n := l.length + (zTx j).length) (by simp only [List.length_append, zb4_len]; omega) (fun σ3 m3 t3 => ?_))
  refine w_ifT_ne (pc' := 82) (pcT := 84) ⟨rfl, rfl⟩ rfl (by decide) ?_
  refine w_iincZ (pc' := 87) ⟨rfl, rfl⟩ rfl rfl ?_
  refine w_goto (pc' := 90) (pcT := 2) ⟨rfl, rfl⟩ rfl ?_
  refine w_iload_n (pc' := 3) ⟨rfl, rfl⟩ rfl ?_
  refine w_aload_n (pc' := 4) ⟨rfl, rfl⟩ rfl ?_
  refine w_sl (pc' := 7) ⟨rfl, rfl⟩ hj (Nat.le_of_ble_eq_true rfl) ?_
  refine w_icT_ge (pc' := 10) (pcT := 90) ⟨rfl, rfl⟩ rfl (by omega) ?_
  refine w_ic (pc' := 91) ⟨rfl, rfl⟩ ?_
  refine w_ireturn (pc' := 92) ⟨rfl, rfl⟩ (by decide) ?_
  rw [List.take_append, List.take_of_length_le (by omega), Nat.add_sub_cancel_left, hz] at t3
  refine k _ (((m1.mono (by simp)).trans (m2.mono (by simp))).trans (m3.mono (by simp))) ⟨t3, hA2.fm m3, ?_⟩
  rw [(m3.2.2 164 (by decide)).1 0, e2, List.length_append, hzl]
  exact congrArg iZ (by omega)
theorem f_sign {σ : zSt} (hF : zFx σ) {l : List Int} (hB : zBd σ l) (hn : l.length + 20 ≤ 1600) {c : Int} (hc : 0 ≤ c ∧ c ≤ 255) {Q : zSt → Option Value → Prop} (k : ∀ σ1, zFm [3, 4, 164] σ σ1 → zBd σ1 (l ++ [c]) → Q σ1 (some (.int (iZ 1)))) : zCa 122 [.ref 0, .int (iZ c), .ref 164] σ Q := by
  refine w_enter (c := zk_L_sign) (ls2 := [(0, .ref 0), (1, .int (iZ c)), (2, .ref 164)]) rfl ⟨rfl, rfl, rfl, trivial⟩ ?_
  refine w_aload_n (pc' := 1) ⟨rfl, rfl⟩ rfl ?_
  refine w_ic (pc' := 2) ⟨rfl, rfl⟩ ?_
  refine w_dup2 (pc' := 3) ⟨rfl, rfl⟩ ?_
  refine w_iald (pc' := 4) ⟨rfl, rfl⟩ hB.2.1 (zixA (j := 0) (by decide)) hB.2.2 ?_
  refine w_ic (pc' := 5) ⟨rfl, rfl⟩ ?_
  refine w_iaddZ (pc' := 6) ⟨rfl, rfl⟩ ?_
  refine w_iast (pc' := 7) ⟨rfl, rfl⟩ hB.2.1 (zixA (j := 0) (by decide)) ?_
  refine w_gI (fun σ1 m1 e1 _ => ?_)
  have hF1 := m1.fx hF
  have hT1 := zTL.fr hB.1 m1 (by decide) (by decide)
  refine w_aload_n (pc' := 8) ⟨rfl, rfl⟩ rfl ?_
  refine w_iload_n (pc' := 9) ⟨rfl, rfl⟩ rfl ?_
  refine w_bi (pc' := 11) ⟨rfl, rfl⟩ (by decide) ?_
  refine w_ishl (pc' := 12) ⟨rfl, rfl⟩ ?_
  refine w_topI (iZ_shl _ (k := 24) (by decide)) ?_
  refine w_ic (pc' := 13) ⟨rfl, rfl⟩ ?_
  refine w_ic (pc' := 14) ⟨rfl, rfl⟩ ?_
  refine w_ic (pc' := 15) ⟨rfl, rfl⟩ ?_
  refine w_ic (pc' := 16) ⟨rfl, rfl⟩ ?_
  refine w_cv6 (pc' := 19) ⟨rfl, rfl⟩ (by decide) (zOl hF1 rfl) (Nat.le_of_ble_eq_true rfl) (Nat.le_of_ble_eq_true rfl) (f_feed hF1 hT1 (by omega) (fun σ2 m2 t2 => ?_))
  have hF2 := m2.fx hF1
  have hA2 := (hB.2.1.fm m1).fm m2
  have e2 := (((m2.2.2 164 (by decide)).1 0).trans e1)
  refine w_bi (pc' := 21) ⟨rfl, rfl⟩ (by decide) ?_
  refine w_icF_lt (pc' := 24) ⟨rfl, rfl⟩ (by omega) ?_
  refine w_aload_n (pc' := 25) ⟨rfl, rfl⟩ rfl ?_
  refine w_aload_n (pc' := 26) ⟨rfl, rfl⟩ rfl ?_
  refine w_ic (pc' := 27) ⟨rfl, rfl⟩ ?_
  refine w_iald (pc' := 28) ⟨rfl, rfl⟩ hA2 (zixA (j := 0) (by decide)) e2 ?_
  refine w_topI (show _ = iZ ((l.length + 1 : Nat) : Int) from rfl) ?_
  refine w_cv2 (pc' := 31) ⟨rfl, rfl⟩ (by decide) (zOl hF2 rfl) (Nat.le_of_ble_eq_true rfl) (Nat.le_of_ble_eq_true rfl) (f_end hF2 t2 (n := l.length + 1) (by simp only [List.length_append, zb4_len]; omega) (fun σ3 m3 t3 => ?_))
  refine w_ifF_eq (pc' := 34) ⟨rfl, rfl⟩ (by decide) ?_
  refine w_ic (pc' := 35) ⟨rfl, rfl⟩ ?_
  refine w_goto (pc' := 38) (pcT := 39) ⟨rfl, rfl⟩ rfl ?_
  refine w_ireturn (pc' := 40) ⟨rfl, rfl⟩ (by decide) ?_
  have ht : ∀ (v : Int32) (r : List Int), ((l ++ (zb4 v ++ r)).take (l.length + 1)) = l ++ [zbZ v 24] := fun v r => by
    rw [List.take_append, List.take_of_length_le (by omega), Nat.add_sub_cancel_left]; rfl
  rw [ht, zbZ_sign hc] at t3
  refine k _ (((m1.mono (by simp)).trans (m2.mono (by simp))).trans (m3.mono (by simp))) ⟨t3, hA2.fm m3, ?_⟩
  rw [(m3.2.2 164 (by decide)).1 0, e2, List.length_append]
  exact congrArg iZ (by simp)
/-- the digits of a number under 1000 -/
def znu (v : Int) : List Int := (if 100 ≤ v then [48 + v / 100 % 10] else []) ++ ((if 10 ≤ v then [48 + v / 10 % 10] else []) ++ [48 + v % 10])
theorem f_number {σ : zSt} (hF : zFx σ) {l : List Int} (hB : zBd σ l) (hn : l.length + 22 ≤ 1600) {v : Int} (hv : 0 ≤ v ∧ v ≤ 999) {Q : zSt → Option Value → Prop} (k : ∀ σ1, zFm [3, 4, 164] σ σ1 → zBd σ1 (l ++ znu v) → Q σ1 (some (.int (iZ 1)))) : zCa 123 [.ref 0, .int (iZ v), .ref 164] σ Q := by
  refine w_enter (c := zk_L_number) (ls2 := [(0, .ref 0), (1, .int (iZ v)), (2, .ref 164)]) rfl ⟨rfl, rfl, rfl, trivial⟩ ?_
  refine w_iload_n (pc' := 1) ⟨rfl, rfl⟩ rfl ?_
  refine w_si (pc' := 4) ⟨rfl, rfl⟩ (by decide) ?_
  refine w_icT_lt (pc' := 7) (pcT := 23) ⟨rfl, rfl⟩ rfl (by omega) ?_
  refine w_iload_n (pc' := 24) ⟨rfl, rfl⟩ rfl ?_
  refine w_bi (pc' := 26) ⟨rfl, rfl⟩ (by decide) ?_
  refine w_ic_lt (pc' := 29) (pcT := 47) ⟨rfl, rfl⟩ rfl (by omega) (by omega) (fun h1 => ?_) (fun h1 => ?_)
  · refine w_iload_n (pc' := 48) ⟨rfl, rfl⟩ rfl ?_
    refine w_bi (pc' := 50) ⟨rfl, rfl⟩ (by decide) ?_
    refine w_ic_lt (pc' := 53) (pcT := 71) ⟨rfl, rfl⟩ rfl (by omega) (by omega) (fun h2 => ?_) (fun h2 => ?_)
    · refine w_aload_n (pc' := 72) ⟨rfl, rfl⟩ rfl ?_
      refine w_bi (pc' := 74) ⟨rfl, rfl⟩ (by decide) ?_
      refine w_iload_n (pc' := 75) ⟨rfl, rfl⟩ rfl ?_
      refine w_bi (pc' := 77) ⟨rfl, rfl⟩ (by decide) ?_
      refine w_iremZ (pc' := 78) ⟨rfl, rfl⟩ (by omega) ?_
      refine w_iaddZ (pc' := 79) ⟨rfl, rfl⟩ ?_
      refine w_aload_n (pc' := 80) ⟨rfl, rfl⟩ rfl ?_
      refine w_cs3 (pc' := 83) ⟨rfl, rfl⟩ (by decide) (Nat.le_of_ble_eq_true rfl) (Nat.le_of_ble_eq_true rfl) (f_sign hF hB (by (try simp only [List.length_append, List.length_singleton]); omega) (by omega) (fun σ1 m1 b1 => ?_))
      have g1 := m1.fx hF
      refine w_ifF_eq (pc' := 86) ⟨rfl, rfl⟩ (by decide) ?_
      refine w_ic (pc' := 87) ⟨rfl, rfl⟩ ?_
      refine w_goto (pc' := 90) (pcT := 91) ⟨rfl, rfl⟩ rfl ?_
      refine w_ireturn (pc' := 92) ⟨rfl, rfl⟩ (by decide) ?_
      first
        | (exfalso; omega)
        | (refine k _ m1 ?_
           unfold znu
           repeat' (first | rw [if_pos (by omega)] | rw [if_neg (by omega)])
           simpa only [List.append_assoc, List.nil_append, List.cons_append] using b1)
    · refine w_aload_n (pc' := 54) ⟨rfl, rfl⟩ rfl ?_
      refine w_bi (pc' := 56) ⟨rfl, rfl⟩ (by decide) ?_
      refine w_iload_n (pc' := 57) ⟨rfl, rfl⟩ rfl ?_
      refine w_bi (pc' := 59) ⟨rfl, rfl⟩ (by decide) ?_
      refine w_idivZ (pc' := 60) ⟨rfl, rfl⟩ (by omega) ?_
      refine w_bi (pc' := 62) ⟨rfl, rfl⟩ (by decide) ?_
      refine w_iremZ (pc' := 63) ⟨rfl, rfl⟩ (by omega) ?_
      refine w_iaddZ (pc' := 64) ⟨rfl, rfl⟩ ?_
      refine w_aload_n (pc' := 65) ⟨rfl, rfl⟩ rfl ?_
      refine w_cs3 (pc' := 68) ⟨rfl, rfl⟩ (by decide) (Nat.le_of_ble_eq_true rfl) (Nat.le_of_ble_eq_true rfl) (f_sign hF hB (by (try simp only [List.length_append, List.length_singleton]); omega) (by omega) (fun σ1 m1 b1 => ?_))
      have g1 := m1.fx hF
      refine w_ifF_eq (pc' := 71) ⟨rfl, rfl⟩ (by decide) ?_
      refine w_aload_n (pc' := 72) ⟨rfl, rfl⟩ rfl ?_
      refine w_bi (pc' := 74) ⟨rfl, rfl⟩ (by decide) ?_
      refine w_iload_n (pc' := 75) ⟨rfl, rfl⟩ rfl ?_
      refine w_bi (pc' := 77) ⟨rfl, rfl⟩ (by decide) ?_
      refine w_iremZ (pc' := 78) ⟨rfl, rfl⟩ (by omega) ?_
      refine w_iaddZ (pc' := 79) ⟨rfl, rfl⟩ ?_
      refine w_aload_n (pc' := 80) ⟨rfl, rfl⟩ rfl ?_
      refine w_cs3 (pc' := 83) ⟨rfl, rfl⟩ (by decide) (Nat.le_of_ble_eq_true rfl) (Nat.le_of_ble_eq_true rfl) (f_sign g1 b1 (by (try simp only [List.length_append, List.length_singleton]); omega) (by omega) (fun σ2 m2 b2 => ?_))
      have g2 := m2.fx g1
      refine w_ifF_eq (pc' := 86) ⟨rfl, rfl⟩ (by decide) ?_
      refine w_ic (pc' := 87) ⟨rfl, rfl⟩ ?_
      refine w_goto (pc' := 90) (pcT := 91) ⟨rfl, rfl⟩ rfl ?_
      refine w_ireturn (pc' := 92) ⟨rfl, rfl⟩ (by decide) ?_
      first
        | (exfalso; omega)
        | (refine k _ (m1.trans m2) ?_
           unfold znu
           repeat' (first | rw [if_pos (by omega)] | rw [if_neg (by omega)])
           simpa only [List.append_assoc, List.nil_append, List.cons_append] using b2)
  · refine w_aload_n (pc' := 30) ⟨rfl, rfl⟩ rfl ?_
    refine w_bi (pc' := 32) ⟨rfl, rfl⟩ (by decide) ?_
    refine w_iload_n (pc' := 33) ⟨rfl, rfl⟩ rfl ?_
    refine w_bi (pc' := 35) ⟨rfl, rfl⟩ (by decide) ?_
    refine w_idivZ (pc' := 36) ⟨rfl, rfl⟩ (by omega) ?_
    refine w_bi (pc' := 38) ⟨rfl, rfl⟩ (by decide) ?_
    refine w_iremZ (pc' := 39) ⟨rfl, rfl⟩ (by omega) ?_
    refine w_iaddZ (pc' := 40) ⟨rfl, rfl⟩ ?_
    refine w_aload_n (pc' := 41) ⟨rfl, rfl⟩ rfl ?_
    refine w_cs3 (pc' := 44) ⟨rfl, rfl⟩ (by decide) (Nat.le_of_ble_eq_true rfl) (Nat.le_of_ble_eq_true rfl) (f_sign hF hB (by (try simp only [List.length_append, List.length_singleton]); omega) (by omega) (fun σ1 m1 b1 => ?_))
    have g1 := m1.fx hF
    refine w_ifF_eq (pc' := 47) ⟨rfl, rfl⟩ (by decide) ?_
    refine w_iload_n (pc' := 48) ⟨rfl, rfl⟩ rfl ?_
    refine w_bi (pc' := 50) ⟨rfl, rfl⟩ (by decide) ?_
    refine w_ic_lt (pc' := 53) (pcT := 71) ⟨rfl, rfl⟩ rfl (by omega) (by omega) (fun h2 => ?_) (fun h2 => ?_)
    · refine w_aload_n (pc' := 72) ⟨rfl, rfl⟩ rfl ?_
      refine w_bi (pc' := 74) ⟨rfl, rfl⟩ (by decide) ?_
      refine w_iload_n (pc' := 75) ⟨rfl, rfl⟩ rfl ?_
      refine w_bi (pc' := 77) ⟨rfl, rfl⟩ (by decide) ?_
      refine w_iremZ (pc' := 78) ⟨rfl, rfl⟩ (by omega) ?_
      refine w_iaddZ (pc' := 79) ⟨rfl, rfl⟩ ?_
      refine w_aload_n (pc' := 80) ⟨rfl, rfl⟩ rfl ?_
      refine w_cs3 (pc' := 83) ⟨rfl, rfl⟩ (by decide) (Nat.le_of_ble_eq_true rfl) (Nat.le_of_ble_eq_true rfl) (f_sign g1 b1 (by (try simp only [List.length_append, List.length_singleton]); omega) (by omega) (fun σ2 m2 b2 => ?_))
      have g2 := m2.fx g1
      refine w_ifF_eq (pc' := 86) ⟨rfl, rfl⟩ (by decide) ?_
      refine w_ic (pc' := 87) ⟨rfl, rfl⟩ ?_
      refine w_goto (pc' := 90) (pcT := 91) ⟨rfl, rfl⟩ rfl ?_
      refine w_ireturn (pc' := 92) ⟨rfl, rfl⟩ (by decide) ?_
      first
        | (exfalso; omega)
        | (refine k _ (m1.trans m2) ?_
           unfold znu
           repeat' (first | rw [if_pos (by omega)] | rw [if_neg (by omega)])
           simpa only [List.append_assoc, List.nil_append, List.cons_append] using b2)
    · refine w_aload_n (pc' := 54) ⟨rfl, rfl⟩ rfl ?_
      refine w_bi (pc' := 56) ⟨rfl, rfl⟩ (by decide) ?_
      refine w_iload_n (pc' := 57) ⟨rfl, rfl⟩ rfl ?_
      refine w_bi (pc' := 59) ⟨rfl, rfl⟩ (by decide) ?_
      refine w_idivZ (pc' := 60) ⟨rfl, rfl⟩ (by omega) ?_
      refine w_bi (pc' := 62) ⟨rfl, rfl⟩ (by decide) ?_
      refine w_iremZ (pc' := 63) ⟨rfl, rfl⟩ (by omega) ?_
      refine w_iaddZ (pc' := 64) ⟨rfl, rfl⟩ ?_
      refine w_aload_n (pc' := 65) ⟨rfl, rfl⟩ rfl ?_
      refine w_cs3 (pc' := 68) ⟨rfl, rfl⟩ (by decide) (Nat.le_of_ble_eq_true rfl) (Nat.le_of_ble_eq_true rfl) (f_sign g1 b1 (by (try simp only [List.length_append, List.length_singleton]); omega) (by omega) (fun σ2 m2 b2 => ?_))
      have g2 := m2.fx g1
      refine w_ifF_eq (pc' := 71) ⟨rfl, rfl⟩ (by decide) ?_
      refine w_aload_n (pc' := 72) ⟨rfl, rfl⟩ rfl ?_
      refine w_bi (pc' := 74) ⟨rfl, rfl⟩ (by decide) ?_
      refine w_iload_n (pc' := 75) ⟨rfl, rfl⟩ rfl ?_
      refine w_bi (pc' := 77) ⟨rfl, rfl⟩ (by decide) ?_
      refine w_iremZ (pc' := 78) ⟨rfl, rfl⟩ (by omega) ?_
      refine w_iaddZ (pc' := 79) ⟨rfl, rfl⟩ ?_
      refine w_aload_n (pc' := 80) ⟨rfl, rfl⟩ rfl ?_
      refine w_cs3 (pc' := 83) ⟨rfl, rfl⟩ (by decide) (Nat.le_of_ble_eq_true rfl) (Nat.le_of_ble_eq_true rfl) (f_sign g2 b2 (by (try simp only [List.length_append, List.length_singleton]); omega) (by omega) (fun σ3 m3 b3 => ?_))
      have g3 := m3.fx g2
      refine w_ifF_eq (pc' := 86) ⟨rfl, rfl⟩ (by decide) ?_
      refine w_ic (pc' := 87) ⟨rfl, rfl⟩ ?_
      refine w_goto (pc' := 90) (pcT := 91) ⟨rfl, rfl⟩ rfl ?_
      refine w_ireturn (pc' := 92) ⟨rfl, rfl⟩ (by decide) ?_
      first
        | (exfalso; omega)
        | (refine k _ ((m1.trans m2).trans m3) ?_
           unfold znu
           repeat' (first | rw [if_pos (by omega)] | rw [if_neg (by omega)])
           simpa only [List.append_assoc, List.nil_append, List.cons_append] using b3)
/-- the string of a kind -/
def zkj (k : Int) : Nat := if k = 8 then 12 else (4 + k).toNat
theorem f_kind {σ : zSt} (hF : zFx σ) {l : List Int} (hB : zBd σ l) (hn : l.length + 20 ≤ 1600) {kd : Int} (hk : 0 ≤ kd ∧ kd ≤ 8) {Q : zSt → Option Value → Prop} (k : ∀ σ1, zFm [3, 4, 164] σ σ1 → zBd σ1 (l ++ zTs (zkj kd)) → Q σ1 (some (.int (iZ 1)))) : zCa 124 [.ref 0, .int (iZ kd), .ref 164] σ Q := by
  refine w_enter (c := zk_L_kind) (ls2 := [(0, .ref 0), (1, .int (iZ kd)), (2, .ref 164)]) rfl ⟨rfl, rfl, rfl, trivial⟩ ?_
  refine w_iload_n (pc' := 1) ⟨rfl, rfl⟩ rfl ?_
  rcases Classical.em (kd < 0 ∨ 7 < kd) with hs | hs
  · refine w_tsOutZ (pc' := 48) (pcT := 112) ⟨rfl, rfl⟩ rfl (by omega) ?_
    refine w_aload_n (pc' := 113) ⟨rfl, rfl⟩ rfl ?_
    refine w_ldc (pc' := 115) (v := .ref (zSTR + 12)) ⟨rfl, rfl⟩ rfl ?_
    refine w_aload_n (pc' := 116) ⟨rfl, rfl⟩ rfl ?_
    refine w_cs3 (pc' := 119) ⟨rfl, rfl⟩ (by decide) (Nat.le_of_ble_eq_true rfl) (Nat.le_of_ble_eq_true rfl) (f_say hF hB hn (j := 12) (by decide) (fun σ1 m1 b1 => ?_))
    refine w_ireturn (pc' := 120) ⟨rfl, rfl⟩ (by decide) ?_
    first
      | (subst hj; exact k _ m1 b1)
      | (have e : kd = 8 := by omega
         subst e; exact k _ m1 b1)
  · rcases (show kd = 0 ∨ kd = 1 ∨ kd = 2 ∨ kd = 3 ∨ kd = 4 ∨ kd = 5 ∨ kd = 6 ∨ kd = 7 by omega) with hj | hj | hj | hj | hj | hj | hj | hj
    · refine w_tsInZ (pc' := 48) (pcT := 48) 0 ⟨rfl, rfl⟩ (by omega) (by decide) rfl rfl ?_
      refine w_aload_n (pc' := 49) ⟨rfl, rfl⟩ rfl ?_
      refine w_ldc (pc' := 51) (v := .ref (zSTR + 4)) ⟨rfl, rfl⟩ rfl ?_
      refine w_aload_n (pc' := 52) ⟨rfl, rfl⟩ rfl ?_
      refine w_cs3 (pc' := 55) ⟨rfl, rfl⟩ (by decide) (Nat.le_of_ble_eq_true rfl) (Nat.le_of_ble_eq_true rfl) (f_say hF hB hn (j := 4) (by decide) (fun σ1 m1 b1 => ?_))
      refine w_ireturn (pc' := 56) ⟨rfl, rfl⟩ (by decide) ?_
      first
        | (subst hj; exact k _ m1 b1)
        | (have e : kd = 8 := by omega
           subst e; exact k _ m1 b1)
    · refine w_tsInZ (pc' := 48) (pcT := 56) 1 ⟨rfl, rfl⟩ (by omega) (by decide) rfl rfl ?_
      refine w_aload_n (pc' := 57) ⟨rfl, rfl⟩ rfl ?_
      refine w_ldc (pc' := 59) (v := .ref (zSTR + 5)) ⟨rfl, rfl⟩ rfl ?_
      refine w_aload_n (pc' := 60) ⟨rfl, rfl⟩ rfl ?_
      refine w_cs3 (pc' := 63) ⟨rfl, rfl⟩ (by decide) (Nat.le_of_ble_eq_true rfl) (Nat.le_of_ble_eq_true rfl) (f_say hF hB hn (j := 5) (by decide) (fun σ1 m1 b1 => ?_))
      refine w_ireturn (pc' := 64) ⟨rfl, rfl⟩ (by decide) ?_
      first
        | (subst hj; exact k _ m1 b1)
        | (have e : kd = 8 := by omega
           subst e; exact k _ m1 b1)
    · refine w_tsInZ (pc' := 48) (pcT := 64) 2 ⟨rfl, rfl⟩ (by omega) (by decide) rfl rfl ?_
      refine w_aload_n (pc' := 65) ⟨rfl, rfl⟩ rfl ?_
      refine w_ldc (pc' := 67) (v := .ref (zSTR + 6)) ⟨rfl, rfl⟩ rfl ?_
      refine w_aload_n (pc' := 68) ⟨rfl, rfl⟩ rfl ?_
      refine w_cs3 (pc' := 71) ⟨rfl, rfl⟩ (by decide) (Nat.le_of_ble_eq_true rfl) (Nat.le_of_ble_eq_true rfl) (f_say hF hB hn (j := 6) (by decide) (fun σ1 m1 b1 => ?_))
      refine w_ireturn (pc' := 72) ⟨rfl, rfl⟩ (by decide) ?_
      first
        | (subst hj; exact k _ m1 b1)
        | (have e : kd = 8 := by omega
           subst e; exact k _ m1 b1)
    · refine w_tsInZ (pc' := 48) (pcT := 72) 3 ⟨rfl, rfl⟩ (by omega) (by decide) rfl rfl ?_
      refine w_aload_n (pc' := 73) ⟨rfl, rfl⟩ rfl ?_
      refine w_ldc (pc' := 75) (v := .ref (zSTR + 7)) ⟨rfl, rfl⟩ rfl ?_
      refine w_aload_n (pc' := 76) ⟨rfl, rfl⟩ rfl ?_
      refine w_cs3 (pc' := 79) ⟨rfl, rfl⟩ (by decide) (Nat.le_of_ble_eq_true rfl) (Nat.le_of_ble_eq_true rfl) (f_say hF hB hn (j := 7) (by decide) (fun σ1 m1 b1 => ?_))
      refine w_ireturn (pc' := 80) ⟨rfl, rfl⟩ (by decide) ?_
      first
        | (subst hj; exact k _ m1 b1)
        | (have e : kd = 8 := by omega
           subst e; exact k _ m1 b1)
    · refine w_tsInZ (pc' := 48) (pcT := 80) 4 ⟨rfl, rfl⟩ (by omega) (by decide) rfl rfl ?_
      refine w_aload_n (pc' := 81) ⟨rfl, rfl⟩ rfl ?_
      refine w_ldc (pc' := 83) (v := .ref (zSTR + 8)) ⟨rfl, rfl⟩ rfl ?_
      refine w_aload_n (pc' := 84) ⟨rfl, rfl⟩ rfl ?_
      refine w_cs3 (pc' := 87) ⟨rfl, rfl⟩ (by decide) (Nat.le_of_ble_eq_true rfl) (Nat.le_of_ble_eq_true rfl) (f_say hF hB hn (j := 8) (by decide) (fun σ1 m1 b1 => ?_))
      refine w_ireturn (pc' := 88) ⟨rfl, rfl⟩ (by decide) ?_
      first
        | (subst hj; exact k _ m1 b1)
        | (have e : kd = 8 := by omega
           subst e; exact k _ m1 b1)
    · refine w_tsInZ (pc' := 48) (pcT := 88) 5 ⟨rfl, rfl⟩ (by omega) (by decide) rfl rfl ?_
      refine w_aload_n (pc' := 89) ⟨rfl, rfl⟩ rfl ?_
      refine w_ldc (pc' := 91) (v := .ref (zSTR + 9)) ⟨rfl, rfl⟩ rfl ?_
      refine w_aload_n (pc' := 92) ⟨rfl, rfl⟩ rfl ?_
      refine w_cs3 (pc' := 95) ⟨rfl, rfl⟩ (by decide) (Nat.le_of_ble_eq_true rfl) (Nat.le_of_ble_eq_true rfl) (f_say hF hB hn (j := 9) (by decide) (fun σ1 m1 b1 => ?_))
      refine w_ireturn (pc' := 96) ⟨rfl, rfl⟩ (by decide) ?_
      first
        | (subst hj; exact k _ m1 b1)
        | (have e : kd = 8 := by omega
           subst e; exact k _ m1 b1)
    · refine w_tsInZ (pc' := 48) (pcT := 96) 6 ⟨rfl, rfl⟩ (by omega) (by decide) rfl rfl ?_
      refine w_aload_n (pc' := 97) ⟨rfl, rfl⟩ rfl ?_
      refine w_ldc (pc' := 99) (v := .ref (zSTR + 10)) ⟨rfl, rfl⟩ rfl ?_
      refine w_aload_n (pc' := 100) ⟨rfl, rfl⟩ rfl ?_
      refine w_cs3 (pc' := 103) ⟨rfl, rfl⟩ (by decide) (Nat.le_of_ble_eq_true rfl) (Nat.le_of_ble_eq_true rfl) (f_say hF hB hn (j := 10) (by decide) (fun σ1 m1 b1 => ?_))
      refine w_ireturn (pc' := 104) ⟨rfl, rfl⟩ (by decide) ?_
      first
        | (subst hj; exact k _ m1 b1)
        | (have e : kd = 8 := by omega
           subst e; exact k _ m1 b1)
    · refine w_tsInZ (pc' := 48) (pcT := 104) 7 ⟨rfl, rfl⟩ (by omega) (by decide) rfl rfl ?_
      refine w_aload_n (pc' := 105) ⟨rfl, rfl⟩ rfl ?_
      refine w_ldc (pc' := 107) (v := .ref (zSTR + 11)) ⟨rfl, rfl⟩ rfl ?_
      refine w_aload_n (pc' := 108) ⟨rfl, rfl⟩ rfl ?_
      refine w_cs3 (pc' := 111) ⟨rfl, rfl⟩ (by decide) (Nat.le_of_ble_eq_true rfl) (Nat.le_of_ble_eq_true rfl) (f_say hF hB hn (j := 11) (by decide) (fun σ1 m1 b1 => ?_))
      refine w_ireturn (pc' := 112) ⟨rfl, rfl⟩ (by decide) ?_
      first
        | (subst hj; exact k _ m1 b1)
        | (have e : kd = 8 := by omega
           subst e; exact k _ m1 b1)
/-- a field's name -/
def zfn (f : Int) : List Int := [102, 97 + f]
theorem zTs13 : zTs 13 = [102] := by decide
theorem f_lfield {σ : zSt} (hF : zFx σ) {l : List Int} (hB : zBd σ l) (hn : l.length + 22 ≤ 1600) {f : Int} (hf : 0 ≤ f ∧ f ≤ 5) {Q : zSt → Option Value → Prop} (k : ∀ σ1, zFm [3, 4, 164] σ σ1 → zBd σ1 (l ++ zfn f) → Q σ1 (some (.int (iZ 1)))) : zCa 128 [.ref 0, .int (iZ f), .ref 164] σ Q := by
  refine w_enter (c := zk_L_field) (ls2 := [(0, .ref 0), (1, .int (iZ f)), (2, .ref 164)]) rfl ⟨rfl, rfl, rfl, trivial⟩ ?_
  refine w_aload_n (pc' := 1) ⟨rfl, rfl⟩ rfl ?_
  refine w_ldc (pc' := 3) (v := .ref (zSTR + 13)) ⟨rfl, rfl⟩ rfl ?_
  refine w_aload_n (pc' := 4) ⟨rfl, rfl⟩ rfl ?_
  refine w_cs3 (pc' := 7) ⟨rfl, rfl⟩ (by decide) (Nat.le_of_ble_eq_true rfl) (Nat.le_of_ble_eq_true rfl) (f_say hF hB (by omega) (j := 13) (by decide) (fun σ1 m1 b1 => ?_))
  refine w_ifF_eq (pc' := 10) ⟨rfl, rfl⟩ (by decide) ?_
  refine w_aload_n (pc' := 11) ⟨rfl, rfl⟩ rfl ?_
  refine w_bi (pc' := 13) ⟨rfl, rfl⟩ (by decide) ?_
  refine w_iload_n (pc' := 14) ⟨rfl, rfl⟩ rfl ?_
  refine w_iaddZ (pc' := 15) ⟨rfl, rfl⟩ ?_
  refine w_aload_n (pc' := 16) ⟨rfl, rfl⟩ rfl ?_
  refine w_cs3 (pc' := 19) ⟨rfl, rfl⟩ (by decide) (Nat.le_of_ble_eq_true rfl) (Nat.le_of_ble_eq_true rfl) (f_sign (m1.fx hF) b1 (by rw [zTs13, List.length_append, List.length_singleton]; omega) (by omega) (fun σ2 m2 b2 => ?_))
  refine w_ifF_eq (pc' := 22) ⟨rfl, rfl⟩ (by decide) ?_
  refine w_ic (pc' := 23) ⟨rfl, rfl⟩ ?_
  refine w_goto (pc' := 26) (pcT := 27) ⟨rfl, rfl⟩ rfl ?_
  refine w_ireturn (pc' := 28) ⟨rfl, rfl⟩ (by decide) ?_
  refine k _ (m1.trans m2) ?_
  rw [zTs13, List.append_assoc] at b2
  exact b2
