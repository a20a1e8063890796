/-! HAS, CELL, small things, both -/
theorem zQl {Q : zSt → Option Value → Prop} {σ : zSt} {a b : Int64} (h : Q σ (some (.long a))) (e : b = a) : Q σ (some (.long b)) := e ▸ h
theorem c_hasRecordI {σ : zSt} {c : Nat → Int} (hF : zFx σ) (hC : zCn σ c) {u r : Nat} (hu : u < 3) (hr : (r : Int) < c u) {Q : zSt → Option Value → Prop} (k : Q σ (some (.int (iZ 1)))) : zCa 69 [.ref 79, .int (iZ u), .int (iZ r)] σ Q := c_hasRecord hF hC (by omega) (by have := (hC u hu).2; omega) (fun _ => k) (fun h => absurd ⟨by omega, by omega, by omega, hr⟩ h)
theorem c_hasRecordO {σ : zSt} {c : Nat → Int} (hF : zFx σ) (hC : zCn σ c) {u : Nat} {r : Int} (hu : u < 3) (hr0 : -2147483648 ≤ r ∧ r ≤ 2147483647) (hr : ¬ (0 ≤ r ∧ r < c u)) {Q : zSt → Option Value → Prop} (k : Q σ (some (.int (iZ 0)))) : zCa 69 [.ref 79, .int (iZ u), .int (iZ r)] σ Q := c_hasRecord hF hC (by omega) hr0 (fun h => absurd ⟨h.2.2.1, h.2.2.2⟩ hr) (fun _ => k)
theorem r_isRecordI {σ : zSt} {t : zBk} (hF : zFx σ) (hT : zTr σ t) (hVt : zVt t) {c : Nat → Int} (hC : zCm σ c) {u r : Nat} (hu : (u : Int) < t 0) (hr : (r : Int) < c u) {Q : zSt → Option Value → Prop} (k : Q σ (some (.int (iZ 1)))) : zCa 225 [.ref 164, .int (iZ u), .int (iZ r)] σ Q := r_isRecord hF hT (zV0 hVt) hC (by have := hVt.1; omega) (by have := (hC u (zu3 hVt hu)).2; omega) (fun _ => k) (fun h => absurd ⟨by omega, hu, by omega, hr⟩ h)
theorem r_isRecordO {σ : zSt} {t : zBk} (hF : zFx σ) (hT : zTr σ t) (hVt : zVt t) {c : Nat → Int} (hC : zCm σ c) {u : Nat} {r : Int} (hu : (u : Int) < t 0) (hr0 : -2147483648 ≤ r ∧ r ≤ 2147483647) (hr : ¬ (0 ≤ r ∧ r < c u)) {Q : zSt → Option Value → Prop} (k : Q σ (some (.int (iZ 0)))) : zCa 225 [.ref 164, .int (iZ u), .int (iZ r)] σ Q := r_isRecord hF hT (zV0 hVt) hC (by have := hVt.1; omega) hr0 (fun h => absurd ⟨h.2.2.1, h.2.2.2⟩ hr) (fun _ => k)
theorem r_isRecordS {σ : zSt} {t : zBk} (hF : zFx σ) (hT : zTr σ t) (hVt : zVt t) {c : Nat → Int} (hC : zCm σ c) {s r : Int} (hs : -2147483648 ≤ s ∧ s ≤ 2147483647) (hu : ¬ (0 ≤ s ∧ s < t 0)) (hr0 : -2147483648 ≤ r ∧ r ≤ 2147483647) {Q : zSt → Option Value → Prop} (k : Q σ (some (.int (iZ 0)))) : zCa 225 [.ref 164, .int (iZ s), .int (iZ r)] σ Q := r_isRecord hF hT (zV0 hVt) hC hs hr0 (fun h => absurd ⟨h.1, h.2.1⟩ hu) (fun _ => k)
def zaC (t : zBk) (c : Nat → Int) (g : Nat → Nat → Nat → Nat → Int64) (s f r i : Int) : Int64 := if s < 0 ∨ t 0 ≤ s ∨ f < 0 ∨ zNF t s.toNat ≤ f ∨ r < 0 ∨ c s.toNat ≤ r ∨ i < 0 ∨ zCE t s.toNat f.toNat ≤ i then lZ (-4611686018427387904) else g s.toNat f.toNat r.toNat i.toNat
def zgC (t : zBk) (R : zRw0) : Nat → Nat → Nat → Nat → Int64 := fun s f r i => zvl (zKD t s f) (R (zpq t s f r i))
def zgR (t : zBk) (N : zRw0) : Nat → Nat → Nat → Nat → Int64 := fun s f r i => zvl (zKD t s f) (N (zpr t s f r i))
theorem c_hasOfScheme {σ : zSt} {p : Nat} {t : zBk} (hF : zFx σ) (hVt : zVt t) (hPp : zR σ 0 10 = some p) (hP : zIsB p) (hPl : zPl σ p t) {c : Nat → Int} (hC : zCn σ c) {w : Int} (hw : (-2147483648 ≤ w ∧ w ≤ 2147483647)) (hw3 : w < 0 ∨ 3 < w) {y : Int} {Q : zSt → Option Value → Prop} (k : Q σ (some (.int (iZ (zaH t c y w))))) : zCa 130 [.ref 0, .int (iZ w)] σ Q := by
  refine w_enter (c := zk_X11_hasOfScheme) (ls2 := [(0, .ref 0), (1, .int (iZ w))]) rfl ⟨rfl, rfl, trivial⟩ ?_
  have ht0 := hVt.1
  refine w_iload_n (pc' := 1) ⟨rfl, rfl⟩ rfl ?_
  refine w_ic (pc' := 2) ⟨rfl, rfl⟩ ?_
  refine w_ic_lt (pc' := 5) (pcT := 11) ⟨rfl, rfl⟩ rfl (by omega) (by omega) (fun h1 => ?_) (fun h1 => ?_)
  · refine w_ic (pc' := 12) ⟨rfl, rfl⟩ ?_
    refine w_ireturn (pc' := 13) ⟨rfl, rfl⟩ (Or.inl rfl) ?_
    exact zQi k (by unfold zaH; (try simp only [Int.toNat_natCast]); first | (rw [if_pos (by omega)]; done) | ((repeat' split) <;> first | omega | exact absurd trivial (by assumption) | rfl))
  · refine w_iload_n (pc' := 6) ⟨rfl, rfl⟩ rfl ?_
    refine w_bi (pc' := 8) ⟨rfl, rfl⟩ (by decide) ?_
    refine w_ic_le (pc' := 11) (pcT := 13) ⟨rfl, rfl⟩ rfl (by omega) (by omega) (fun h2 => ?_) (fun h2 => ?_)
    · refine w_iload_n (pc' := 14) ⟨rfl, rfl⟩ rfl ?_
      refine w_bi (pc' := 16) ⟨rfl, rfl⟩ (by decide) ?_
      refine w_ic_ge (pc' := 19) (pcT := 25) ⟨rfl, rfl⟩ rfl (by omega) (by omega) (fun h3 => ?_) (fun h3 => ?_)
      · refine w_iload_n (pc' := 26) ⟨rfl, rfl⟩ rfl ?_
        refine w_bi (pc' := 28) ⟨rfl, rfl⟩ (by decide) ?_
        refine w_isubZ (pc' := 29) ⟨rfl, rfl⟩ ?_
        refine w_istore_n (pc' := 30) ⟨rfl, rfl⟩ rfl ?_
        refine w_aload_n (pc' := 31) ⟨rfl, rfl⟩ rfl ?_
        refine w_getR (pc' := 34) (cl := 9) (q := 10) ⟨rfl, rfl⟩ ⟨rfl, by decide⟩ (zOl hF rfl) hPp ?_
        refine w_iload_n (pc' := 35) ⟨rfl, rfl⟩ rfl ?_
        refine w_cv2 (pc' := 38) ⟨rfl, rfl⟩ (by decide) (hP.o hF).1 (Nat.le_of_ble_eq_true rfl) (Nat.le_of_ble_eq_true rfl) (c_shape hF hP hPl.1 hVt.1 (by omega) (fun h => ?_) (fun h => ?_))
        · have hO := (hP.s hF (show (w - 7).toNat < 3 by omega)).2
          have hS := hPl.2.2.1 (w - 7).toNat (by omega)
          refine w_astore_n (pc' := 39) ⟨rfl, rfl⟩ rfl ?_
          refine w_aload_n (pc' := 40) ⟨rfl, rfl⟩ rfl ?_
          refine w_ifnonnullR (pc' := 43) (pcT := 45) ⟨rfl, rfl⟩ rfl  ?_
          refine w_iload_n (pc' := 46) ⟨rfl, rfl⟩ rfl ?_
          refine w_bi (pc' := 48) ⟨rfl, rfl⟩ (by decide) ?_
          refine w_ic_ge (pc' := 51) (pcT := 62) ⟨rfl, rfl⟩ rfl (by omega) (by omega) (fun h4 => ?_) (fun h4 => ?_)
          · refine w_aload_n (pc' := 63) ⟨rfl, rfl⟩ rfl ?_
            refine w_getI (pc' := 66) (cl := 6) (q := 5) ⟨rfl, rfl⟩ ⟨rfl, by decide⟩ (hO.o hF) hS.1 ?_
            refine w_ireturn (pc' := 67) ⟨rfl, rfl⟩ (Or.inl rfl) ?_
            exact zQi k (by unfold zaH; (try simp only [Int.toNat_natCast]); first | (rw [if_pos (by omega)]; done) | ((repeat' split) <;> first | omega | exact absurd trivial (by assumption) | rfl))
          · refine w_aload_n (pc' := 52) ⟨rfl, rfl⟩ rfl ?_
            refine w_getR (pc' := 55) (cl := 9) (q := 2) ⟨rfl, rfl⟩ ⟨rfl, by decide⟩ (zOl hF rfl) (hF.2 0 2 79 rfl) ?_
            refine w_iload_n (pc' := 56) ⟨rfl, rfl⟩ rfl ?_
            refine w_cv2 (pc' := 59) ⟨rfl, rfl⟩ (by decide) (zOl hF rfl) (Nat.le_of_ble_eq_true rfl) (Nat.le_of_ble_eq_true rfl) (c_countOf hF hC (by omega) (fun h => ?_) (fun h => ?_))
            · refine w_goto (pc' := 62) (pcT := 66) ⟨rfl, rfl⟩ rfl ?_
              refine w_ireturn (pc' := 67) ⟨rfl, rfl⟩ (Or.inl rfl) ?_
              exact zQi k (by unfold zaH; (try simp only [Int.toNat_natCast]); first | (rw [if_pos (by omega)]; done) | ((repeat' split) <;> first | omega | exact absurd trivial (by assumption) | rfl))
            · exfalso; omega
        · refine w_astore_nN (pc' := 39) ⟨rfl, rfl⟩ rfl ?_
          refine w_aload_nN (pc' := 40) ⟨rfl, rfl⟩ rfl ?_
          refine w_ifnonnullN (pc' := 43) (pcT := 45) ⟨rfl, rfl⟩ rfl  ?_
          refine w_ic (pc' := 44) ⟨rfl, rfl⟩ ?_
          refine w_ireturn (pc' := 45) ⟨rfl, rfl⟩ (Or.inl rfl) ?_
          exact zQi k (by unfold zaH; (try simp only [Int.toNat_natCast]); first | (rw [if_pos (by omega)]; done) | ((repeat' split) <;> first | omega | exact absurd trivial (by assumption) | rfl))
      · refine w_iload_n (pc' := 20) ⟨rfl, rfl⟩ rfl ?_
        refine w_ic (pc' := 21) ⟨rfl, rfl⟩ ?_
        refine w_isubZ (pc' := 22) ⟨rfl, rfl⟩ ?_
        refine w_goto (pc' := 25) (pcT := 29) ⟨rfl, rfl⟩ rfl ?_
        refine w_istore_n (pc' := 30) ⟨rfl, rfl⟩ rfl ?_
        refine w_aload_n (pc' := 31) ⟨rfl, rfl⟩ rfl ?_
        refine w_getR (pc' := 34) (cl := 9) (q := 10) ⟨rfl, rfl⟩ ⟨rfl, by decide⟩ (zOl hF rfl) hPp ?_
        refine w_iload_n (pc' := 35) ⟨rfl, rfl⟩ rfl ?_
        refine w_cv2 (pc' := 38) ⟨rfl, rfl⟩ (by decide) (hP.o hF).1 (Nat.le_of_ble_eq_true rfl) (Nat.le_of_ble_eq_true rfl) (c_shape hF hP hPl.1 hVt.1 (by omega) (fun h => ?_) (fun h => ?_))
        · have hO := (hP.s hF (show (w - 4).toNat < 3 by omega)).2
          have hS := hPl.2.2.1 (w - 4).toNat (by omega)
          refine w_astore_n (pc' := 39) ⟨rfl, rfl⟩ rfl ?_
          refine w_aload_n (pc' := 40) ⟨rfl, rfl⟩ rfl ?_
          refine w_ifnonnullR (pc' := 43) (pcT := 45) ⟨rfl, rfl⟩ rfl  ?_
          refine w_iload_n (pc' := 46) ⟨rfl, rfl⟩ rfl ?_
          refine w_bi (pc' := 48) ⟨rfl, rfl⟩ (by decide) ?_
          refine w_ic_ge (pc' := 51) (pcT := 62) ⟨rfl, rfl⟩ rfl (by omega) (by omega) (fun h4 => ?_) (fun h4 => ?_)
          · refine w_aload_n (pc' := 63) ⟨rfl, rfl⟩ rfl ?_
            refine w_getI (pc' := 66) (cl := 6) (q := 5) ⟨rfl, rfl⟩ ⟨rfl, by decide⟩ (hO.o hF) hS.1 ?_
            refine w_ireturn (pc' := 67) ⟨rfl, rfl⟩ (Or.inl rfl) ?_
            exact zQi k (by unfold zaH; (try simp only [Int.toNat_natCast]); first | (rw [if_pos (by omega)]; done) | ((repeat' split) <;> first | omega | exact absurd trivial (by assumption) | rfl))
          · refine w_aload_n (pc' := 52) ⟨rfl, rfl⟩ rfl ?_
            refine w_getR (pc' := 55) (cl := 9) (q := 2) ⟨rfl, rfl⟩ ⟨rfl, by decide⟩ (zOl hF rfl) (hF.2 0 2 79 rfl) ?_
            refine w_iload_n (pc' := 56) ⟨rfl, rfl⟩ rfl ?_
            refine w_cv2 (pc' := 59) ⟨rfl, rfl⟩ (by decide) (zOl hF rfl) (Nat.le_of_ble_eq_true rfl) (Nat.le_of_ble_eq_true rfl) (c_countOf hF hC (by omega) (fun h => ?_) (fun h => ?_))
            · refine w_goto (pc' := 62) (pcT := 66) ⟨rfl, rfl⟩ rfl ?_
              refine w_ireturn (pc' := 67) ⟨rfl, rfl⟩ (Or.inl rfl) ?_
              exact zQi k (by unfold zaH; (try simp only [Int.toNat_natCast]); first | (rw [if_pos (by omega)]; done) | ((repeat' split) <;> first | omega | exact absurd trivial (by assumption) | rfl))
            · exfalso; omega
        · refine w_astore_nN (pc' := 39) ⟨rfl, rfl⟩ rfl ?_
          refine w_aload_nN (pc' := 40) ⟨rfl, rfl⟩ rfl ?_
          refine w_ifnonnullN (pc' := 43) (pcT := 45) ⟨rfl, rfl⟩ rfl  ?_
          refine w_ic (pc' := 44) ⟨rfl, rfl⟩ ?_
          refine w_ireturn (pc' := 45) ⟨rfl, rfl⟩ (Or.inl rfl) ?_
          exact zQi k (by unfold zaH; (try simp only [Int.toNat_natCast]); first | (rw [if_pos (by omega)]; done) | ((repeat' split) <;> first | omega | exact absurd trivial (by assumption) | rfl))
    · refine w_ic (pc' := 12) ⟨rfl, rfl⟩ ?_
      refine w_ireturn (pc' := 13) ⟨rfl, rfl⟩ (Or.inl rfl) ?_
      exact zQi k (by unfold zaH; (try simp only [Int.toNat_natCast]); first | (rw [if_pos (by omega)]; done) | ((repeat' split) <;> first | omega | exact absurd trivial (by assumption) | rfl))
theorem c_has {σ : zSt} {p : Nat} {t : zBk} (hF : zFx σ) (hVt : zVt t) (hPp : zR σ 0 10 = some p) (hP : zIsB p) (hPl : zPl σ p t) {c : Nat → Int} (hC : zCn σ c) {y : Int} (hy : zI σ 79 3 = iZ y) {w : Int} (hw : (-2147483648 ≤ w ∧ w ≤ 2147483647)) {Q : zSt → Option Value → Prop} (k : Q σ (some (.int (iZ (zaH t c y w))))) : zCa 129 [.ref 0, .int (iZ w)] σ Q := by
  refine w_enter (c := zk_X11_has) (ls2 := [(0, .ref 0), (1, .int (iZ w))]) rfl ⟨rfl, rfl, trivial⟩ ?_
  refine w_iload_n (pc' := 1) ⟨rfl, rfl⟩ rfl ?_
  rcases Classical.em (w < 0 ∨ 3 < w) with hs | hs
  · refine w_tsOutZ (pc' := 32) (pcT := 83) ⟨rfl, rfl⟩ rfl (by omega) ?_
    refine w_aload_n (pc' := 84) ⟨rfl, rfl⟩ rfl ?_
    refine w_iload_n (pc' := 85) ⟨rfl, rfl⟩ rfl ?_
    refine w_cv2 (pc' := 88) ⟨rfl, rfl⟩ (by decide) (zOl hF rfl) (Nat.le_of_ble_eq_true rfl) (Nat.le_of_ble_eq_true rfl) (c_hasOfScheme (y := y) hF hVt hPp hP hPl hC (by omega) (by omega) ?_)
    refine w_ireturn (pc' := 89) ⟨rfl, rfl⟩ (Or.inl rfl) ?_
    exact k
  · rcases (show w = 0 ∨ w = 1 ∨ w = 2 ∨ w = 3 by omega) with hj | hj | hj | hj
    · refine w_tsInZ (pc' := 32) (pcT := 32) 0 ⟨rfl, rfl⟩ (by omega) (by decide) rfl rfl ?_
      refine w_aload_n (pc' := 33) ⟨rfl, rfl⟩ rfl ?_
      refine w_getR (pc' := 36) (cl := 9) (q := 10) ⟨rfl, rfl⟩ ⟨rfl, by decide⟩ (zOl hF rfl) hPp ?_
      refine w_getI (pc' := 39) (cl := 3) (q := 2) ⟨rfl, rfl⟩ ⟨rfl, by decide⟩ (hP.o hF).1 hPl.1 ?_
      refine w_ireturn (pc' := 40) ⟨rfl, rfl⟩ (Or.inl rfl) ?_
      exact zQi k (by unfold zaH; (try simp only [Int.toNat_natCast]); first | (rw [if_pos (by omega)]; done) | ((repeat' split) <;> first | omega | exact absurd trivial (by assumption) | rfl))
    · refine w_tsInZ (pc' := 32) (pcT := 40) 1 ⟨rfl, rfl⟩ (by omega) (by decide) rfl rfl ?_
      refine w_aload_n (pc' := 41) ⟨rfl, rfl⟩ rfl ?_
      refine w_getR (pc' := 44) (cl := 9) (q := 10) ⟨rfl, rfl⟩ ⟨rfl, by decide⟩ (zOl hF rfl) hPp ?_
      refine w_getI (pc' := 47) (cl := 3) (q := 3) ⟨rfl, rfl⟩ ⟨rfl, by decide⟩ (hP.o hF).1 hPl.2.1 ?_
      refine w_ireturn (pc' := 48) ⟨rfl, rfl⟩ (Or.inl rfl) ?_
      exact zQi k (by unfold zaH; (try simp only [Int.toNat_natCast]); first | (rw [if_pos (by omega)]; done) | ((repeat' split) <;> first | omega | exact absurd trivial (by assumption) | rfl))
    · refine w_tsInZ (pc' := 32) (pcT := 48) 2 ⟨rfl, rfl⟩ (by omega) (by decide) rfl rfl ?_
      refine w_aload_n (pc' := 49) ⟨rfl, rfl⟩ rfl ?_
      refine w_getR (pc' := 52) (cl := 9) (q := 2) ⟨rfl, rfl⟩ ⟨rfl, by decide⟩ (zOl hF rfl) (hF.2 0 2 79 rfl) ?_
      refine w_ic (pc' := 53) ⟨rfl, rfl⟩ ?_
      refine w_cv2 (pc' := 56) ⟨rfl, rfl⟩ (by decide) (zOl hF rfl) (Nat.le_of_ble_eq_true rfl) (Nat.le_of_ble_eq_true rfl) (c_countOf hF hC (by omega) (fun h => ?_) (fun h => ?_))
      · refine w_aload_n (pc' := 57) ⟨rfl, rfl⟩ rfl ?_
        refine w_getR (pc' := 60) (cl := 9) (q := 2) ⟨rfl, rfl⟩ ⟨rfl, by decide⟩ (zOl hF rfl) (hF.2 0 2 79 rfl) ?_
        refine w_ic (pc' := 61) ⟨rfl, rfl⟩ ?_
        refine w_cv2 (pc' := 64) ⟨rfl, rfl⟩ (by decide) (zOl hF rfl) (Nat.le_of_ble_eq_true rfl) (Nat.le_of_ble_eq_true rfl) (c_countOf hF hC (by omega) (fun h => ?_) (fun h => ?_))
        · refine w_iaddZ (pc' := 65) ⟨rfl, rfl⟩ ?_
          refine w_aload_n (pc' := 66) ⟨rfl, rfl⟩ rfl ?_
          refine w_getR (pc' := 69) (cl := 9) (q := 2) ⟨rfl, rfl⟩ ⟨rfl, by decide⟩ (zOl hF rfl) (hF.2 0 2 79 rfl) ?_
          refine w_ic (pc' := 70) ⟨rfl, rfl⟩ ?_
          refine w_cv2 (pc' := 73) ⟨rfl, rfl⟩ (by decide) (zOl hF rfl) (Nat.le_of_ble_eq_true rfl) (Nat.le_of_ble_eq_true rfl) (c_countOf hF hC (by omega) (fun h => ?_) (fun h => ?_))
          · refine w_iaddZ (pc' := 74) ⟨rfl, rfl⟩ ?_
            refine w_ireturn (pc' := 75) ⟨rfl, rfl⟩ (Or.inl rfl) ?_
            exact zQi k (by unfold zaH; (try simp only [Int.toNat_natCast]); first | (rw [if_pos (by omega)]; done) | ((repeat' split) <;> first | omega | exact absurd trivial (by assumption) | rfl))
          · exfalso; omega
        · exfalso; omega
      · exfalso; omega
    · refine w_tsInZ (pc' := 32) (pcT := 75) 3 ⟨rfl, rfl⟩ (by omega) (by decide) rfl rfl ?_
      refine w_aload_n (pc' := 76) ⟨rfl, rfl⟩ rfl ?_
      refine w_getR (pc' := 79) (cl := 9) (q := 2) ⟨rfl, rfl⟩ ⟨rfl, by decide⟩ (zOl hF rfl) (hF.2 0 2 79 rfl) ?_
      refine w_getI (pc' := 82) (cl := 4) (q := 3) ⟨rfl, rfl⟩ ⟨rfl, by decide⟩ (zOl hF rfl) hy ?_
      refine w_ireturn (pc' := 83) ⟨rfl, rfl⟩ (Or.inl rfl) ?_
      exact zQi k (by unfold zaH; (try simp only [Int.toNat_natCast]); first | (rw [if_pos (by omega)]; done) | ((repeat' split) <;> first | omega | exact absurd trivial (by assumption) | rfl))
theorem r_has {σ : zSt} {t : zBk} (hF : zFx σ) (hVt : zVt t) (hT : zTr σ t) {c : Nat → Int} (hC : zCm σ c) {y : Int} (hy : zI σ 164 30 = iZ y) (hz : t 0 = 0 → c 0 = 0 ∧ c 1 = 0 ∧ c 2 = 0 ∧ y = 0) {w : Int} (hw : (-2147483648 ≤ w ∧ w ≤ 2147483647)) {Q : zSt → Option Value → Prop} (k : Q σ (some (.int (iZ (zaH t c y w))))) : zCa 242 [.ref 164, .int (iZ w)] σ Q := by
  refine w_enter (c := zk_X12_has) (ls2 := [(0, .ref 164), (1, .int (iZ w))]) rfl ⟨rfl, rfl, trivial⟩ ?_
  have ht0 := hVt.1
  have hz1 := hVt.z
  have hc0 := (hC 0 (by decide)).2
  have hc1 := (hC 1 (by decide)).2
  have hc2 := (hC 2 (by decide)).2
  rcases Classical.em (t 0 = 0) with h0 | h0
  · have hit : zI σ 164 14 = iZ 0 := by rw [hT.2, if_pos h0]
    try (have hz := hz h0)
    refine w_iload_n (pc' := 1) ⟨rfl, rfl⟩ rfl ?_
    refine w_i2lZ (pc' := 2) ⟨rfl, rfl⟩ (by omega) ?_
    refine w_lc (pc' := 3) (z := 0) ⟨rfl, rfl⟩ rfl ?_
    refine w_ldc2Y (pc' := 6) (z := 9) ⟨rfl, rfl⟩ rfl ?_
    refine w_cs3 (pc' := 9) ⟨rfl, rfl⟩ (by decide) (Nat.le_of_ble_eq_true rfl) (Nat.le_of_ble_eq_true rfl) (r_isIn (by omega) (by omega) (by omega) (fun h => ?_) (fun h => ?_))
    · refine w_ifF_eq (pc' := 12) ⟨rfl, rfl⟩ (by decide) ?_
      refine w_iload_n (pc' := 13) ⟨rfl, rfl⟩ rfl ?_
      refine w_ic (pc' := 14) ⟨rfl, rfl⟩ ?_
      refine w_ic_le (pc' := 17) (pcT := 38) ⟨rfl, rfl⟩ rfl (by omega) (by omega) (fun h1 => ?_) (fun h1 => ?_)
      · refine w_aload_n (pc' := 39) ⟨rfl, rfl⟩ rfl ?_
        refine w_getZ (pc' := 42) (cl := 10) (q := 14) ⟨rfl, rfl⟩ ⟨rfl, by decide⟩ (zOl hF rfl) hit ?_
        refine w_ifF_ne (pc' := 45) ⟨rfl, rfl⟩ (by decide) ?_
        refine w_iload_n (pc' := 46) ⟨rfl, rfl⟩ rfl ?_
        refine w_ic (pc' := 47) ⟨rfl, rfl⟩ ?_
        refine w_ic_le (pc' := 50) (pcT := 54) ⟨rfl, rfl⟩ rfl (by omega) (by omega) (fun h2 => ?_) (fun h2 => ?_)
        · refine w_ic (pc' := 55) ⟨rfl, rfl⟩ ?_
          refine w_ireturn (pc' := 56) ⟨rfl, rfl⟩ (Or.inl rfl) ?_
          exact zQi k (by unfold zaH; (try simp only [Int.toNat_natCast]); first | (rw [if_pos (by omega)]; done) | ((repeat' split) <;> first | omega | exact absurd trivial (by assumption) | rfl))
        · refine w_ic (pc' := 51) ⟨rfl, rfl⟩ ?_
          refine w_goto (pc' := 54) (pcT := 55) ⟨rfl, rfl⟩ rfl ?_
          refine w_ireturn (pc' := 56) ⟨rfl, rfl⟩ (Or.inl rfl) ?_
          exact zQi k (by unfold zaH; (try simp only [Int.toNat_natCast]); first | (rw [if_pos (by omega)]; done) | ((repeat' split) <;> first | omega | exact absurd trivial (by assumption) | rfl))
      · refine w_aload_n (pc' := 18) ⟨rfl, rfl⟩ rfl ?_
        refine w_getZ (pc' := 21) (cl := 10) (q := 14) ⟨rfl, rfl⟩ ⟨rfl, by decide⟩ (zOl hF rfl) hit ?_
        refine w_ifT_eq (pc' := 24) (pcT := 38) ⟨rfl, rfl⟩ rfl (by decide) ?_
        refine w_aload_n (pc' := 39) ⟨rfl, rfl⟩ rfl ?_
        refine w_getZ (pc' := 42) (cl := 10) (q := 14) ⟨rfl, rfl⟩ ⟨rfl, by decide⟩ (zOl hF rfl) hit ?_
        refine w_ifF_ne (pc' := 45) ⟨rfl, rfl⟩ (by decide) ?_
        refine w_iload_n (pc' := 46) ⟨rfl, rfl⟩ rfl ?_
        refine w_ic (pc' := 47) ⟨rfl, rfl⟩ ?_
        refine w_ic_le (pc' := 50) (pcT := 54) ⟨rfl, rfl⟩ rfl (by omega) (by omega) (fun h2 => ?_) (fun h2 => ?_)
        · refine w_ic (pc' := 55) ⟨rfl, rfl⟩ ?_
          refine w_ireturn (pc' := 56) ⟨rfl, rfl⟩ (Or.inl rfl) ?_
          exact zQi k (by unfold zaH; (try simp only [Int.toNat_natCast]); first | (rw [if_pos (by omega)]; done) | ((repeat' split) <;> first | omega | exact absurd trivial (by assumption) | rfl))
        · refine w_ic (pc' := 51) ⟨rfl, rfl⟩ ?_
          refine w_goto (pc' := 54) (pcT := 55) ⟨rfl, rfl⟩ rfl ?_
          refine w_ireturn (pc' := 56) ⟨rfl, rfl⟩ (Or.inl rfl) ?_
          exact zQi k (by unfold zaH; (try simp only [Int.toNat_natCast]); first | (rw [if_pos (by omega)]; done) | ((repeat' split) <;> first | omega | exact absurd trivial (by assumption) | rfl))
    · refine w_ifT_eq (pc' := 12) (pcT := 36) ⟨rfl, rfl⟩ rfl (by decide) ?_
      refine w_ic (pc' := 37) ⟨rfl, rfl⟩ ?_
      refine w_ireturn (pc' := 38) ⟨rfl, rfl⟩ (Or.inl rfl) ?_
      exact zQi k (by unfold zaH; (try simp only [Int.toNat_natCast]); first | (rw [if_pos (by omega)]; done) | ((repeat' split) <;> first | omega | exact absurd trivial (by assumption) | rfl))
  · have hit : zI σ 164 14 = iZ 1 := by rw [hT.2, if_neg h0]
    try (have hz := hz h0)
    refine w_iload_n (pc' := 1) ⟨rfl, rfl⟩ rfl ?_
    refine w_i2lZ (pc' := 2) ⟨rfl, rfl⟩ (by omega) ?_
    refine w_lc (pc' := 3) (z := 0) ⟨rfl, rfl⟩ rfl ?_
    refine w_ldc2Y (pc' := 6) (z := 9) ⟨rfl, rfl⟩ rfl ?_
    refine w_cs3 (pc' := 9) ⟨rfl, rfl⟩ (by decide) (Nat.le_of_ble_eq_true rfl) (Nat.le_of_ble_eq_true rfl) (r_isIn (by omega) (by omega) (by omega) (fun h => ?_) (fun h => ?_))
    · refine w_ifF_eq (pc' := 12) ⟨rfl, rfl⟩ (by decide) ?_
      refine w_iload_n (pc' := 13) ⟨rfl, rfl⟩ rfl ?_
      refine w_ic (pc' := 14) ⟨rfl, rfl⟩ ?_
      refine w_ic_le (pc' := 17) (pcT := 38) ⟨rfl, rfl⟩ rfl (by omega) (by omega) (fun h1 => ?_) (fun h1 => ?_)
      · refine w_aload_n (pc' := 39) ⟨rfl, rfl⟩ rfl ?_
        refine w_getZ (pc' := 42) (cl := 10) (q := 14) ⟨rfl, rfl⟩ ⟨rfl, by decide⟩ (zOl hF rfl) hit ?_
        refine w_ifT_ne (pc' := 45) (pcT := 56) ⟨rfl, rfl⟩ rfl (by decide) ?_
        refine w_iload_n (pc' := 57) ⟨rfl, rfl⟩ rfl ?_
        rcases Classical.em (w < 0 ∨ 3 < w) with hs | hs
        · refine w_tsOutZ (pc' := 88) (pcT := 129) ⟨rfl, rfl⟩ rfl (by omega) ?_
          refine w_iload_n (pc' := 130) ⟨rfl, rfl⟩ rfl ?_
          refine w_bi (pc' := 132) ⟨rfl, rfl⟩ (by decide) ?_
          refine w_ic_ge (pc' := 135) (pcT := 145) ⟨rfl, rfl⟩ rfl (by omega) (by omega) (fun h2 => ?_) (fun h2 => ?_)
          · refine w_aload_n (pc' := 146) ⟨rfl, rfl⟩ rfl ?_
            refine w_iload_n (pc' := 147) ⟨rfl, rfl⟩ rfl ?_
            refine w_bi (pc' := 149) ⟨rfl, rfl⟩ (by decide) ?_
            refine w_isubZ (pc' := 150) ⟨rfl, rfl⟩ ?_
            obtain ⟨x, hx⟩ : ∃ x : Nat, w - 7 = x := ⟨(w - 7).toNat, by omega⟩
            rw [hx]
            refine w_cv2 (pc' := 153) ⟨rfl, rfl⟩ (by decide) (zOl hF rfl) (Nat.le_of_ble_eq_true rfl) (Nat.le_of_ble_eq_true rfl) (r_fieldMany hF hT (by omega) ?_)
            refine w_ireturn (pc' := 154) ⟨rfl, rfl⟩ (Or.inl rfl) ?_
            exact zQi k (by unfold zaH; simp only [hx]; (try simp only [Int.toNat_natCast]); first | (rw [if_pos (by omega)]; done) | ((repeat' split) <;> first | omega | exact absurd trivial (by assumption) | rfl))
          · refine w_aload_n (pc' := 136) ⟨rfl, rfl⟩ rfl ?_
            refine w_iload_n (pc' := 137) ⟨rfl, rfl⟩ rfl ?_
            refine w_ic (pc' := 138) ⟨rfl, rfl⟩ ?_
            refine w_isubZ (pc' := 139) ⟨rfl, rfl⟩ ?_
            obtain ⟨x, hx⟩ : ∃ x : Nat, w - 4 = x := ⟨(w - 4).toNat, by omega⟩
            rw [hx]
            refine w_cv2 (pc' := 142) ⟨rfl, rfl⟩ (by decide) (zOl hF rfl) (Nat.le_of_ble_eq_true rfl) (Nat.le_of_ble_eq_true rfl) (r_recordMany hF hC (by omega) ?_)
            refine w_goto (pc' := 145) (pcT := 153) ⟨rfl, rfl⟩ rfl ?_
            refine w_ireturn (pc' := 154) ⟨rfl, rfl⟩ (Or.inl rfl) ?_
            exact zQi k (by unfold zaH; simp only [hx]; (try simp only [Int.toNat_natCast]); first | (rw [if_pos (by omega)]; done) | ((repeat' split) <;> first | omega | exact absurd trivial (by assumption) | rfl))
        · rcases (show w = 0 ∨ w = 1 ∨ w = 2 ∨ w = 3 by omega) with hj | hj | hj | hj
          · refine w_tsInZ (pc' := 88) (pcT := 88) 0 ⟨rfl, rfl⟩ (by omega) (by decide) rfl rfl ?_
            refine w_aload_n (pc' := 89) ⟨rfl, rfl⟩ rfl ?_
            refine w_getR (pc' := 92) (cl := 10) (q := 13) ⟨rfl, rfl⟩ ⟨rfl, by decide⟩ (zOl hF rfl) (hF.2 164 13 169 rfl) ?_
            refine w_ic (pc' := 93) ⟨rfl, rfl⟩ ?_
            refine w_iald (pc' := 94) ⟨rfl, rfl⟩ (zAl hF rfl) (zixA (a := 0) (j := 0) (by decide)) (hT.1 0 (by decide)) ?_
            refine w_ireturn (pc' := 95) ⟨rfl, rfl⟩ (Or.inl rfl) ?_
            exact zQi k (by unfold zaH; (try simp only [Int.toNat_natCast]); first | (rw [if_pos (by omega)]; done) | ((repeat' split) <;> first | omega | exact absurd trivial (by assumption) | rfl))
          · refine w_tsInZ (pc' := 88) (pcT := 95) 1 ⟨rfl, rfl⟩ (by omega) (by decide) rfl rfl ?_
            refine w_aload_n (pc' := 96) ⟨rfl, rfl⟩ rfl ?_
            refine w_getR (pc' := 99) (cl := 10) (q := 13) ⟨rfl, rfl⟩ ⟨rfl, by decide⟩ (zOl hF rfl) (hF.2 164 13 169 rfl) ?_
            refine w_ic (pc' := 100) ⟨rfl, rfl⟩ ?_
            refine w_iald (pc' := 101) ⟨rfl, rfl⟩ (zAl hF rfl) (zixA (a := 1) (j := 1) (by decide)) (hT.1 1 (by decide)) ?_
            refine w_ireturn (pc' := 102) ⟨rfl, rfl⟩ (Or.inl rfl) ?_
            exact zQi k (by unfold zaH; (try simp only [Int.toNat_natCast]); first | (rw [if_pos (by omega)]; done) | ((repeat' split) <;> first | omega | exact absurd trivial (by assumption) | rfl))
          · refine w_tsInZ (pc' := 88) (pcT := 102) 2 ⟨rfl, rfl⟩ (by omega) (by decide) rfl rfl ?_
            refine w_aload_n (pc' := 103) ⟨rfl, rfl⟩ rfl ?_
            refine w_getR (pc' := 106) (cl := 10) (q := 16) ⟨rfl, rfl⟩ ⟨rfl, by decide⟩ (zOl hF rfl) (hF.2 164 16 170 rfl) ?_
            refine w_ic (pc' := 107) ⟨rfl, rfl⟩ ?_
            refine w_lald (pc' := 108) ⟨rfl, rfl⟩ (zAl hF rfl) (zixA (a := 0) (j := 0) (by decide)) ((hC 0 (by decide)).1) ?_
            refine w_aload_n (pc' := 109) ⟨rfl, rfl⟩ rfl ?_
            refine w_getR (pc' := 112) (cl := 10) (q := 16) ⟨rfl, rfl⟩ ⟨rfl, by decide⟩ (zOl hF rfl) (hF.2 164 16 170 rfl) ?_
            refine w_ic (pc' := 113) ⟨rfl, rfl⟩ ?_
            refine w_lald (pc' := 114) ⟨rfl, rfl⟩ (zAl hF rfl) (zixA (a := 1) (j := 1) (by decide)) ((hC 1 (by decide)).1) ?_
            refine w_laddY (pc' := 115) ⟨rfl, rfl⟩ ?_
            refine w_aload_n (pc' := 116) ⟨rfl, rfl⟩ rfl ?_
            refine w_getR (pc' := 119) (cl := 10) (q := 16) ⟨rfl, rfl⟩ ⟨rfl, by decide⟩ (zOl hF rfl) (hF.2 164 16 170 rfl) ?_
            refine w_ic (pc' := 120) ⟨rfl, rfl⟩ ?_
            refine w_lald (pc' := 121) ⟨rfl, rfl⟩ (zAl hF rfl) (zixA (a := 2) (j := 2) (by decide)) ((hC 2 (by decide)).1) ?_
            refine w_laddY (pc' := 122) ⟨rfl, rfl⟩ ?_
            refine w_l2iY (pc' := 123) ⟨rfl, rfl⟩ ?_
            refine w_ireturn (pc' := 124) ⟨rfl, rfl⟩ (Or.inl rfl) ?_
            exact zQi k (by unfold zaH; (try simp only [Int.toNat_natCast]); first | (rw [if_pos (by omega)]; done) | ((repeat' split) <;> first | omega | exact absurd trivial (by assumption) | rfl))
          · refine w_tsInZ (pc' := 88) (pcT := 124) 3 ⟨rfl, rfl⟩ (by omega) (by decide) rfl rfl ?_
            refine w_aload_n (pc' := 125) ⟨rfl, rfl⟩ rfl ?_
            refine w_getI (pc' := 128) (cl := 10) (q := 30) ⟨rfl, rfl⟩ ⟨rfl, by decide⟩ (zOl hF rfl) hy ?_
            refine w_ireturn (pc' := 129) ⟨rfl, rfl⟩ (Or.inl rfl) ?_
            exact zQi k (by unfold zaH; (try simp only [Int.toNat_natCast]); first | (rw [if_pos (by omega)]; done) | ((repeat' split) <;> first | omega | exact absurd trivial (by assumption) | rfl))
      · refine w_aload_n (pc' := 18) ⟨rfl, rfl⟩ rfl ?_
        refine w_getZ (pc' := 21) (cl := 10) (q := 14) ⟨rfl, rfl⟩ ⟨rfl, by decide⟩ (zOl hF rfl) hit ?_
        refine w_ifF_eq (pc' := 24) ⟨rfl, rfl⟩ (by decide) ?_
        refine w_aload_n (pc' := 25) ⟨rfl, rfl⟩ rfl ?_
        refine w_iload_n (pc' := 26) ⟨rfl, rfl⟩ rfl ?_
        refine w_ic (pc' := 27) ⟨rfl, rfl⟩ ?_
        refine w_isubZ (pc' := 28) ⟨rfl, rfl⟩ ?_
        refine w_ic (pc' := 29) ⟨rfl, rfl⟩ ?_
        refine w_iremZ (pc' := 30) ⟨rfl, rfl⟩ (by omega) ?_
        refine w_cv2 (pc' := 33) ⟨rfl, rfl⟩ (by decide) (zOl hF rfl) (Nat.le_of_ble_eq_true rfl) (Nat.le_of_ble_eq_true rfl) (r_isScheme hF hT (zV0 hVt) (by omega) (fun h => ?_) (fun h => ?_))
        · refine w_ifT_ne (pc' := 36) (pcT := 38) ⟨rfl, rfl⟩ rfl (by decide) ?_
          refine w_aload_n (pc' := 39) ⟨rfl, rfl⟩ rfl ?_
          refine w_getZ (pc' := 42) (cl := 10) (q := 14) ⟨rfl, rfl⟩ ⟨rfl, by decide⟩ (zOl hF rfl) hit ?_
          refine w_ifT_ne (pc' := 45) (pcT := 56) ⟨rfl, rfl⟩ rfl (by decide) ?_
          refine w_iload_n (pc' := 57) ⟨rfl, rfl⟩ rfl ?_
          rcases Classical.em (w < 0 ∨ 3 < w) with hs | hs
          · refine w_tsOutZ (pc' := 88) (pcT := 129) ⟨rfl, rfl⟩ rfl (by omega) ?_
            refine w_iload_n (pc' := 130) ⟨rfl, rfl⟩ rfl ?_
            refine w_bi (pc' := 132) ⟨rfl, rfl⟩ (by decide) ?_
            refine w_ic_ge (pc' := 135) (pcT := 145) ⟨rfl, rfl⟩ rfl (by omega) (by omega) (fun h2 => ?_) (fun h2 => ?_)
            · refine w_aload_n (pc' := 146) ⟨rfl, rfl⟩ rfl ?_
              refine w_iload_n (pc' := 147) ⟨rfl, rfl⟩ rfl ?_
              refine w_bi (pc' := 149) ⟨rfl, rfl⟩ (by decide) ?_
              refine w_isubZ (pc' := 150) ⟨rfl, rfl⟩ ?_
              obtain ⟨x, hx⟩ : ∃ x : Nat, w - 7 = x := ⟨(w - 7).toNat, by omega⟩
              rw [hx]
              refine w_cv2 (pc' := 153) ⟨rfl, rfl⟩ (by decide) (zOl hF rfl) (Nat.le_of_ble_eq_true rfl) (Nat.le_of_ble_eq_true rfl) (r_fieldMany hF hT (by omega) ?_)
              refine w_ireturn (pc' := 154) ⟨rfl, rfl⟩ (Or.inl rfl) ?_
              exact zQi k (by unfold zaH; simp only [hx]; (try simp only [Int.toNat_natCast]); first | (rw [if_pos (by omega)]; done) | ((repeat' split) <;> first | omega | exact absurd trivial (by assumption) | rfl))
            · refine w_aload_n (pc' := 136) ⟨rfl, rfl⟩ rfl ?_
              refine w_iload_n (pc' := 137) ⟨rfl, rfl⟩ rfl ?_
              refine w_ic (pc' := 138) ⟨rfl, rfl⟩ ?_
              refine w_isubZ (pc' := 139) ⟨rfl, rfl⟩ ?_
              obtain ⟨x, hx⟩ : ∃ x : Nat, w - 4 = x := ⟨(w - 4).toNat, by omega⟩
              rw [hx]
              refine w_cv2 (pc' := 142) ⟨rfl, rfl⟩ (by decide) (zOl hF rfl) (Nat.le_of_ble_eq_true rfl) (Nat.le_of_ble_eq_true rfl) (r_recordMany hF hC (by omega) ?_)
              refine w_goto (pc' := 145) (pcT := 153) ⟨rfl, rfl⟩ rfl ?_
              refine w_ireturn (pc' := 154) ⟨rfl, rfl⟩ (Or.inl rfl) ?_
              exact zQi k (by unfold zaH; simp only [hx]; (try simp only [Int.toNat_natCast]); first | (rw [if_pos (by omega)]; done) | ((repeat' split) <;> first | omega | exact absurd trivial (by assumption) | rfl))
          · rcases (show w = 0 ∨ w = 1 ∨ w = 2 ∨ w = 3 by omega) with hj | hj | hj | hj
            · refine w_tsInZ (pc' := 88) (pcT := 88) 0 ⟨rfl, rfl⟩ (by omega) (by decide) rfl rfl ?_
              refine w_aload_n (pc' := 89) ⟨rfl, rfl⟩ rfl ?_
              refine w_getR (pc' := 92) (cl := 10) (q := 13) ⟨rfl, rfl⟩ ⟨rfl, by decide⟩ (zOl hF rfl) (hF.2 164 13 169 rfl) ?_
              refine w_ic (pc' := 93) ⟨rfl, rfl⟩ ?_
              refine w_iald (pc' := 94) ⟨rfl, rfl⟩ (zAl hF rfl) (zixA (a := 0) (j := 0) (by decide)) (hT.1 0 (by decide)) ?_
              refine w_ireturn (pc' := 95) ⟨rfl, rfl⟩ (Or.inl rfl) ?_
              exact zQi k (by unfold zaH; (try simp only [Int.toNat_natCast]); first | (rw [if_pos (by omega)]; done) | ((repeat' split) <;> first | omega | exact absurd trivial (by assumption) | rfl))
            · refine w_tsInZ (pc' := 88) (pcT := 95) 1 ⟨rfl, rfl⟩ (by omega) (by decide) rfl rfl ?_
              refine w_aload_n (pc' := 96) ⟨rfl, rfl⟩ rfl ?_
              refine w_getR (pc' := 99) (cl := 10) (q := 13) ⟨rfl, rfl⟩ ⟨rfl, by decide⟩ (zOl hF rfl) (hF.2 164 13 169 rfl) ?_
              refine w_ic (pc' := 100) ⟨rfl, rfl⟩ ?_
              refine w_iald (pc' := 101) ⟨rfl, rfl⟩ (zAl hF rfl) (zixA (a := 1) (j := 1) (by decide)) (hT.1 1 (by decide)) ?_
              refine w_ireturn (pc' := 102) ⟨rfl, rfl⟩ (Or.inl rfl) ?_
              exact zQi k (by unfold zaH; (try simp only [Int.toNat_natCast]); first | (rw [if_pos (by omega)]; done) | ((repeat' split) <;> first | omega | exact absurd trivial (by assumption) | rfl))
            · refine w_tsInZ (pc' := 88) (pcT := 102) 2 ⟨rfl, rfl⟩ (by omega) (by decide) rfl rfl ?_
              refine w_aload_n (pc' := 103) ⟨rfl, rfl⟩ rfl ?_
              refine w_getR (pc' := 106) (cl := 10) (q := 16) ⟨rfl, rfl⟩ ⟨rfl, by decide⟩ (zOl hF rfl) (hF.2 164 16 170 rfl) ?_
              refine w_ic (pc' := 107) ⟨rfl, rfl⟩ ?_
              refine w_lald (pc' := 108) ⟨rfl, rfl⟩ (zAl hF rfl) (zixA (a := 0) (j := 0) (by decide)) ((hC 0 (by decide)).1) ?_
              refine w_aload_n (pc' := 109) ⟨rfl, rfl⟩ rfl ?_
              refine w_getR (pc' := 112) (cl := 10) (q := 16) ⟨rfl, rfl⟩ ⟨rfl, by decide⟩ (zOl hF rfl) (hF.2 164 16 170 rfl) ?_
              refine w_ic (pc' := 113) ⟨rfl, rfl⟩ ?_
              refine w_lald (pc' := 114) ⟨rfl, rfl⟩ (zAl hF rfl) (zixA (a := 1) (j := 1) (by decide)) ((hC 1 (by decide)).1) ?_
              refine w_laddY (pc' := 115) ⟨rfl, rfl⟩ ?_
              refine w_aload_n (pc' := 116) ⟨rfl, rfl⟩ rfl ?_
              refine w_getR (pc' := 119) (cl := 10) (q := 16) ⟨rfl, rfl⟩ ⟨rfl, by decide⟩ (zOl hF rfl) (hF.2 164 16 170 rfl) ?_
              refine w_ic (pc' := 120) ⟨rfl, rfl⟩ ?_
              refine w_lald (pc' := 121) ⟨rfl, rfl⟩ (zAl hF rfl) (zixA (a := 2) (j := 2) (by decide)) ((hC 2 (by decide)).1) ?_
              refine w_laddY (pc' := 122) ⟨rfl, rfl⟩ ?_
              refine w_l2iY (pc' := 123) ⟨rfl, rfl⟩ ?_
              refine w_ireturn (pc' := 124) ⟨rfl, rfl⟩ (Or.inl rfl) ?_
              exact zQi k (by unfold zaH; (try simp only [Int.toNat_natCast]); first | (rw [if_pos (by omega)]; done) | ((repeat' split) <;> first | omega | exact absurd trivial (by assumption) | rfl))
            · refine w_tsInZ (pc' := 88) (pcT := 124) 3 ⟨rfl, rfl⟩ (by omega) (by decide) rfl rfl ?_
              refine w_aload_n (pc' := 125) ⟨rfl, rfl⟩ rfl ?_
              refine w_getI (pc' := 128) (cl := 10) (q := 30) ⟨rfl, rfl⟩ ⟨rfl, by decide⟩ (zOl hF rfl) hy ?_
              refine w_ireturn (pc' := 129) ⟨rfl, rfl⟩ (Or.inl rfl) ?_
              exact zQi k (by unfold zaH; (try simp only [Int.toNat_natCast]); first | (rw [if_pos (by omega)]; done) | ((repeat' split) <;> first | omega | exact absurd trivial (by assumption) | rfl))
        · refine w_ifF_ne (pc' := 36) ⟨rfl, rfl⟩ (by decide) ?_
          refine w_ic (pc' := 37) ⟨rfl, rfl⟩ ?_
          refine w_ireturn (pc' := 38) ⟨rfl, rfl⟩ (Or.inl rfl) ?_
          exact zQi k (by unfold zaH; (try simp only [Int.toNat_natCast]); first | (rw [if_pos (by omega)]; done) | ((repeat' split) <;> first | omega | exact absurd trivial (by assumption) | rfl))
    · refine w_ifT_eq (pc' := 12) (pcT := 36) ⟨rfl, rfl⟩ rfl (by decide) ?_
      refine w_ic (pc' := 37) ⟨rfl, rfl⟩ ?_
      refine w_ireturn (pc' := 38) ⟨rfl, rfl⟩ (Or.inl rfl) ?_
      exact zQi k (by unfold zaH; (try simp only [Int.toNat_natCast]); first | (rw [if_pos (by omega)]; done) | ((repeat' split) <;> first | omega | exact absurd trivial (by assumption) | rfl))
theorem c_fault {σ : zSt} (hF : zFx σ) {x y : Int32} (hx : zI σ 1 18 = x) (hy : zI σ 1 19 = y) {w : Int} (hw : (-2147483648 ≤ w ∧ w ≤ 2147483647)) {Q : zSt → Option Value → Prop} (k : Q σ (some (.int (if w = 0 then x else if w = 1 then y else iZ (-1))))) : zCa 128 [.ref 0, .int (iZ w)] σ Q := by
  refine w_enter (c := zk_X11_fault) (ls2 := [(0, .ref 0), (1, .int (iZ w))]) rfl ⟨rfl, rfl, trivial⟩ ?_
  refine w_iload_n (pc' := 1) ⟨rfl, rfl⟩ rfl ?_
  refine w_if_ne (pc' := 4) (pcT := 14) ⟨rfl, rfl⟩ rfl (by omega) (fun h1 => ?_) (fun h1 => ?_)
  · refine w_iload_n (pc' := 15) ⟨rfl, rfl⟩ rfl ?_
    refine w_ic (pc' := 16) ⟨rfl, rfl⟩ ?_
    refine w_ic_ne (pc' := 19) (pcT := 29) ⟨rfl, rfl⟩ rfl (by omega) (by omega) (fun h2 => ?_) (fun h2 => ?_)
    · refine w_ic (pc' := 30) ⟨rfl, rfl⟩ ?_
      refine w_ireturn (pc' := 31) ⟨rfl, rfl⟩ (Or.inl rfl) ?_
      exact zQx k (by (repeat' split) <;> first | rfl | exact absurd trivial (by assumption) | (exfalso; omega))
    · refine w_aload_n (pc' := 20) ⟨rfl, rfl⟩ rfl ?_
      refine w_getR (pc' := 23) (cl := 9) (q := 1) ⟨rfl, rfl⟩ ⟨rfl, by decide⟩ (zOl hF rfl) (hF.2 0 1 1 rfl) ?_
      refine w_getI (pc' := 26) (cl := 0) (q := 19) ⟨rfl, rfl⟩ ⟨rfl, by decide⟩ (zOl hF rfl) hy ?_
      refine w_goto (pc' := 29) (pcT := 30) ⟨rfl, rfl⟩ rfl ?_
      refine w_ireturn (pc' := 31) ⟨rfl, rfl⟩ (Or.inl rfl) ?_
      exact zQx k (by (repeat' split) <;> first | rfl | exact absurd trivial (by assumption) | (exfalso; omega))
  · refine w_aload_n (pc' := 5) ⟨rfl, rfl⟩ rfl ?_
    refine w_getR (pc' := 8) (cl := 9) (q := 1) ⟨rfl, rfl⟩ ⟨rfl, by decide⟩ (zOl hF rfl) (hF.2 0 1 1 rfl) ?_
    refine w_getI (pc' := 11) (cl := 0) (q := 18) ⟨rfl, rfl⟩ ⟨rfl, by decide⟩ (zOl hF rfl) hx ?_
    refine w_goto (pc' := 14) (pcT := 30) ⟨rfl, rfl⟩ rfl ?_
    refine w_ireturn (pc' := 31) ⟨rfl, rfl⟩ (Or.inl rfl) ?_
    exact zQx k (by (repeat' split) <;> first | rfl | exact absurd trivial (by assumption) | (exfalso; omega))
theorem r_fault {σ : zSt} (hF : zFx σ) {x y : Int32} (hx : zI σ 164 7 = x) (hy : zI σ 164 8 = y) {w : Int} (hw : (-2147483648 ≤ w ∧ w ≤ 2147483647)) {Q : zSt → Option Value → Prop} (k : Q σ (some (.int (if w = 0 then x else if w = 1 then y else iZ (-1))))) : zCa 180 [.ref 164, .int (iZ w)] σ Q := by
  refine w_enter (c := zk_X12_fault) (ls2 := [(0, .ref 164), (1, .int (iZ w))]) rfl ⟨rfl, rfl, trivial⟩ ?_
  refine w_iload_n (pc' := 1) ⟨rfl, rfl⟩ rfl ?_
  refine w_if_ne (pc' := 4) (pcT := 11) ⟨rfl, rfl⟩ rfl (by omega) (fun h1 => ?_) (fun h1 => ?_)
  · refine w_iload_n (pc' := 12) ⟨rfl, rfl⟩ rfl ?_
    refine w_ic (pc' := 13) ⟨rfl, rfl⟩ ?_
    refine w_ic_ne (pc' := 16) (pcT := 23) ⟨rfl, rfl⟩ rfl (by omega) (by omega) (fun h2 => ?_) (fun h2 => ?_)
    · refine w_ic (pc' := 24) ⟨rfl, rfl⟩ ?_
      refine w_ireturn (pc' := 25) ⟨rfl, rfl⟩ (Or.inl rfl) ?_
      exact zQx k (by (repeat' split) <;> first | rfl | exact absurd trivial (by assumption) | (exfalso; omega))
    · refine w_aload_n (pc' := 17) ⟨rfl, rfl⟩ rfl ?_
      refine w_getI (pc' := 20) (cl := 10) (q := 8) ⟨rfl, rfl⟩ ⟨rfl, by decide⟩ (zOl hF rfl) hy ?_
      refine w_goto (pc' := 23) (pcT := 24) ⟨rfl, rfl⟩ rfl ?_
      refine w_ireturn (pc' := 25) ⟨rfl, rfl⟩ (Or.inl rfl) ?_
      exact zQx k (by (repeat' split) <;> first | rfl | exact absurd trivial (by assumption) | (exfalso; omega))
  · refine w_aload_n (pc' := 5) ⟨rfl, rfl⟩ rfl ?_
    refine w_getI (pc' := 8) (cl := 10) (q := 7) ⟨rfl, rfl⟩ ⟨rfl, by decide⟩ (zOl hF rfl) hx ?_
    refine w_goto (pc' := 11) (pcT := 24) ⟨rfl, rfl⟩ rfl ?_
    refine w_ireturn (pc' := 25) ⟨rfl, rfl⟩ (Or.inl rfl) ?_
    exact zQx k (by (repeat' split) <;> first | rfl | exact absurd trivial (by assumption) | (exfalso; omega))
theorem c_why {σ : zSt} (hF : zFx σ) {Q : zSt → Option Value → Prop} (k : Q σ (some (.int (zI σ 0 12)))) : zCa 142 [.ref 0] σ Q := by
  refine w_enter (c := zk_X11_why) (ls2 := [(0, .ref 0)]) rfl ⟨rfl, trivial⟩ ?_
  refine w_aload_n (pc' := 1) ⟨rfl, rfl⟩ rfl ?_
  refine w_getI (pc' := 4) (cl := 9) (q := 12) ⟨rfl, rfl⟩ ⟨rfl, by decide⟩ (zOl hF rfl) rfl ?_
  refine w_ireturn (pc' := 5) ⟨rfl, rfl⟩ (Or.inl rfl) ?_
  exact k
theorem r_why {σ : zSt} (hF : zFx σ) {Q : zSt → Option Value → Prop} (k : Q σ (some (.int (zI σ 164 18)))) : zCa 263 [.ref 164] σ Q := by
  refine w_enter (c := zk_X12_why) (ls2 := [(0, .ref 164)]) rfl ⟨rfl, trivial⟩ ?_
  refine w_aload_n (pc' := 1) ⟨rfl, rfl⟩ rfl ?_
  refine w_getI (pc' := 4) (cl := 10) (q := 18) ⟨rfl, rfl⟩ ⟨rfl, by decide⟩ (zOl hF rfl) rfl ?_
  refine w_ireturn (pc' := 5) ⟨rfl, rfl⟩ (Or.inl rfl) ?_
  exact k
theorem c_status {σ : zSt} (hF : zFx σ) {w : Int} (hw : (-2147483648 ≤ w ∧ w ≤ 2147483647)) {Q : zSt → Option Value → Prop} (k : Q σ (some (.int (if 0 ≤ w ∧ w < 6 then zI σ 109 w.toNat else iZ (-1))))) : zCa 170 [.ref 0, .int (iZ w)] σ Q := by
  refine w_enter (c := zk_X11_status) (ls2 := [(0, .ref 0), (1, .int (iZ w))]) rfl ⟨rfl, rfl, trivial⟩ ?_
  refine w_iload_n (pc' := 1) ⟨rfl, rfl⟩ rfl ?_
  refine w_if_lt (pc' := 4) (pcT := 22) ⟨rfl, rfl⟩ rfl (by omega) (fun h1 => ?_) (fun h1 => ?_)
  · refine w_ic (pc' := 23) ⟨rfl, rfl⟩ ?_
    refine w_ireturn (pc' := 24) ⟨rfl, rfl⟩ (Or.inl rfl) ?_
    exact zQx k (by (try simp only [Int.toNat_natCast]); (repeat' split) <;> first | rfl | exact absurd trivial (by assumption) | (exfalso; omega))
  · refine w_iload_n (pc' := 5) ⟨rfl, rfl⟩ rfl ?_
    refine w_aload_n (pc' := 6) ⟨rfl, rfl⟩ rfl ?_
    refine w_getR (pc' := 9) (cl := 9) (q := 5) ⟨rfl, rfl⟩ ⟨rfl, by decide⟩ (zOl hF rfl) (hF.2 0 5 109 rfl) ?_
    refine w_alenZ (pc' := 10) ⟨rfl, rfl⟩ (zAl hF rfl) (by decide) ?_
    refine w_ic_ge (pc' := 13) (pcT := 22) ⟨rfl, rfl⟩ rfl (by omega) (by omega) (fun h2 => ?_) (fun h2 => ?_)
    · refine w_ic (pc' := 23) ⟨rfl, rfl⟩ ?_
      refine w_ireturn (pc' := 24) ⟨rfl, rfl⟩ (Or.inl rfl) ?_
      exact zQx k (by (try simp only [Int.toNat_natCast]); (repeat' split) <;> first | rfl | exact absurd trivial (by assumption) | (exfalso; omega))
    · refine w_aload_n (pc' := 14) ⟨rfl, rfl⟩ rfl ?_
      refine w_getR (pc' := 17) (cl := 9) (q := 5) ⟨rfl, rfl⟩ ⟨rfl, by decide⟩ (zOl hF rfl) (hF.2 0 5 109 rfl) ?_
      refine w_iload_n (pc' := 18) ⟨rfl, rfl⟩ rfl ?_
      obtain ⟨w, rfl⟩ : ∃ q : Nat, w = q := ⟨w.toNat, by omega⟩
      refine w_iald (pc' := 19) ⟨rfl, rfl⟩ (zAl hF rfl) (zixZ (by omega)) rfl ?_
      refine w_goto (pc' := 22) (pcT := 23) ⟨rfl, rfl⟩ rfl ?_
      refine w_ireturn (pc' := 24) ⟨rfl, rfl⟩ (Or.inl rfl) ?_
      exact zQx k (by (try simp only [Int.toNat_natCast]); (repeat' split) <;> first | rfl | exact absurd trivial (by assumption) | (exfalso; omega))
theorem r_status {σ : zSt} (hF : zFx σ) {w : Int} (hw : (-2147483648 ≤ w ∧ w ≤ 2147483647)) {Q : zSt → Option Value → Prop} (k : Q σ (some (.int (if 0 ≤ w ∧ w < 6 then zI σ 166 w.toNat else iZ (-1))))) : zCa 179 [.ref 164, .int (iZ w)] σ Q := by
  refine w_enter (c := zk_X12_status) (ls2 := [(0, .ref 164), (1, .int (iZ w))]) rfl ⟨rfl, rfl, trivial⟩ ?_
  refine w_iload_n (pc' := 1) ⟨rfl, rfl⟩ rfl ?_
  refine w_i2lZ (pc' := 2) ⟨rfl, rfl⟩ (by omega) ?_
  refine w_lc (pc' := 3) (z := 0) ⟨rfl, rfl⟩ rfl ?_
  refine w_ldc2Y (pc' := 6) (z := 5) ⟨rfl, rfl⟩ rfl ?_
  refine w_cs3 (pc' := 9) ⟨rfl, rfl⟩ (by decide) (Nat.le_of_ble_eq_true rfl) (Nat.le_of_ble_eq_true rfl) (r_isIn (by omega) (by omega) (by omega) (fun h => ?_) (fun h => ?_))
  · refine w_ifF_eq (pc' := 12) ⟨rfl, rfl⟩ (by decide) ?_
    refine w_aload_n (pc' := 13) ⟨rfl, rfl⟩ rfl ?_
    refine w_getR (pc' := 16) (cl := 10) (q := 9) ⟨rfl, rfl⟩ ⟨rfl, by decide⟩ (zOl hF rfl) (hF.2 164 9 166 rfl) ?_
    refine w_iload_n (pc' := 17) ⟨rfl, rfl⟩ rfl ?_
    obtain ⟨w, rfl⟩ : ∃ q : Nat, w = q := ⟨w.toNat, by omega⟩
    refine w_iald (pc' := 18) ⟨rfl, rfl⟩ (zAl hF rfl) (zixZ (by omega)) rfl ?_
    refine w_goto (pc' := 21) (pcT := 22) ⟨rfl, rfl⟩ rfl ?_
    refine w_ireturn (pc' := 23) ⟨rfl, rfl⟩ (Or.inl rfl) ?_
    exact zQx k (by (try simp only [Int.toNat_natCast]); (repeat' split) <;> first | rfl | exact absurd trivial (by assumption) | (exfalso; omega))
  · refine w_ifT_eq (pc' := 12) (pcT := 21) ⟨rfl, rfl⟩ rfl (by decide) ?_
    refine w_ic (pc' := 22) ⟨rfl, rfl⟩ ?_
    refine w_ireturn (pc' := 23) ⟨rfl, rfl⟩ (Or.inl rfl) ?_
    exact zQx k (by (try simp only [Int.toNat_natCast]); (repeat' split) <;> first | rfl | exact absurd trivial (by assumption) | (exfalso; omega))
theorem c_account {σ : zSt} (hF : zFx σ) {b : Int} (hb : zI σ 0 11 = iZ b) (hb1 : b = 0 ∨ b = 1) {w : Int} (hw : (-2147483648 ≤ w ∧ w ≤ 2147483647)) {Q : zSt → Option Value → Prop} (k : Q σ (some (.int (if b = 1 ∧ 0 ≤ w ∧ w < 6 then zI σ 110 w.toNat else iZ (-1))))) : zCa 158 [.ref 0, .int (iZ w)] σ Q := by
  refine w_enter (c := zk_X11_account) (ls2 := [(0, .ref 0), (1, .int (iZ w))]) rfl ⟨rfl, rfl, trivial⟩ ?_
  refine w_aload_n (pc' := 1) ⟨rfl, rfl⟩ rfl ?_
  refine w_getZ (pc' := 4) (cl := 9) (q := 11) ⟨rfl, rfl⟩ ⟨rfl, by decide⟩ (zOl hF rfl) hb ?_
  refine w_if_eq (pc' := 7) (pcT := 26) ⟨rfl, rfl⟩ rfl (by omega) (fun h1 => ?_) (fun h1 => ?_)
  · refine w_ic (pc' := 27) ⟨rfl, rfl⟩ ?_
    refine w_ireturn (pc' := 28) ⟨rfl, rfl⟩ (Or.inl rfl) ?_
    exact zQx k (by (try simp only [Int.toNat_natCast]); (repeat' split) <;> first | rfl | exact absurd trivial (by assumption) | (exfalso; omega))
  · refine w_iload_n (pc' := 8) ⟨rfl, rfl⟩ rfl ?_
    refine w_if_lt (pc' := 11) (pcT := 26) ⟨rfl, rfl⟩ rfl (by omega) (fun h2 => ?_) (fun h2 => ?_)
    · refine w_ic (pc' := 27) ⟨rfl, rfl⟩ ?_
      refine w_ireturn (pc' := 28) ⟨rfl, rfl⟩ (Or.inl rfl) ?_
      exact zQx k (by (try simp only [Int.toNat_natCast]); (repeat' split) <;> first | rfl | exact absurd trivial (by assumption) | (exfalso; omega))
    · refine w_iload_n (pc' := 12) ⟨rfl, rfl⟩ rfl ?_
      refine w_bi (pc' := 14) ⟨rfl, rfl⟩ (by decide) ?_
      refine w_ic_ge (pc' := 17) (pcT := 26) ⟨rfl, rfl⟩ rfl (by omega) (by omega) (fun h3 => ?_) (fun h3 => ?_)
      · refine w_ic (pc' := 27) ⟨rfl, rfl⟩ ?_
        refine w_ireturn (pc' := 28) ⟨rfl, rfl⟩ (Or.inl rfl) ?_
        exact zQx k (by (try simp only [Int.toNat_natCast]); (repeat' split) <;> first | rfl | exact absurd trivial (by assumption) | (exfalso; omega))
      · refine w_aload_n (pc' := 18) ⟨rfl, rfl⟩ rfl ?_
        refine w_getR (pc' := 21) (cl := 9) (q := 6) ⟨rfl, rfl⟩ ⟨rfl, by decide⟩ (zOl hF rfl) (hF.2 0 6 110 rfl) ?_
        refine w_iload_n (pc' := 22) ⟨rfl, rfl⟩ rfl ?_
        obtain ⟨w, rfl⟩ : ∃ q : Nat, w = q := ⟨w.toNat, by omega⟩
        refine w_iald (pc' := 23) ⟨rfl, rfl⟩ (zAl hF rfl) (zixZ (by omega)) rfl ?_
        refine w_goto (pc' := 26) (pcT := 27) ⟨rfl, rfl⟩ rfl ?_
        refine w_ireturn (pc' := 28) ⟨rfl, rfl⟩ (Or.inl rfl) ?_
        exact zQx k (by (try simp only [Int.toNat_natCast]); (repeat' split) <;> first | rfl | exact absurd trivial (by assumption) | (exfalso; omega))
theorem r_account {σ : zSt} (hF : zFx σ) {b : Int} (hb : zI σ 164 25 = iZ b) (hb1 : b = 0 ∨ b = 1) {w : Int} (hw : (-2147483648 ≤ w ∧ w ≤ 2147483647)) {Q : zSt → Option Value → Prop} (k : Q σ (some (.int (if b = 1 ∧ 0 ≤ w ∧ w < 6 then zI σ 177 w.toNat else iZ (-1))))) : zCa 287 [.ref 164, .int (iZ w)] σ Q := by
  refine w_enter (c := zk_X12_account) (ls2 := [(0, .ref 164), (1, .int (iZ w))]) rfl ⟨rfl, rfl, trivial⟩ ?_
  refine w_aload_n (pc' := 1) ⟨rfl, rfl⟩ rfl ?_
  refine w_getZ (pc' := 4) (cl := 10) (q := 25) ⟨rfl, rfl⟩ ⟨rfl, by decide⟩ (zOl hF rfl) hb ?_
  refine w_if_eq (pc' := 7) (pcT := 28) ⟨rfl, rfl⟩ rfl (by omega) (fun h1 => ?_) (fun h1 => ?_)
  · refine w_ic (pc' := 29) ⟨rfl, rfl⟩ ?_
    refine w_ireturn (pc' := 30) ⟨rfl, rfl⟩ (Or.inl rfl) ?_
    exact zQx k (by (try simp only [Int.toNat_natCast]); (repeat' split) <;> first | rfl | exact absurd trivial (by assumption) | (exfalso; omega))
  · refine w_iload_n (pc' := 8) ⟨rfl, rfl⟩ rfl ?_
    refine w_i2lZ (pc' := 9) ⟨rfl, rfl⟩ (by omega) ?_
    refine w_lc (pc' := 10) (z := 0) ⟨rfl, rfl⟩ rfl ?_
    refine w_ldc2Y (pc' := 13) (z := 5) ⟨rfl, rfl⟩ rfl ?_
    refine w_cs3 (pc' := 16) ⟨rfl, rfl⟩ (by decide) (Nat.le_of_ble_eq_true rfl) (Nat.le_of_ble_eq_true rfl) (r_isIn (by omega) (by omega) (by omega) (fun h => ?_) (fun h => ?_))
    · refine w_ifF_eq (pc' := 19) ⟨rfl, rfl⟩ (by decide) ?_
      refine w_aload_n (pc' := 20) ⟨rfl, rfl⟩ rfl ?_
      refine w_getR (pc' := 23) (cl := 10) (q := 26) ⟨rfl, rfl⟩ ⟨rfl, by decide⟩ (zOl hF rfl) (hF.2 164 26 177 rfl) ?_
      refine w_iload_n (pc' := 24) ⟨rfl, rfl⟩ rfl ?_
      obtain ⟨w, rfl⟩ : ∃ q : Nat, w = q := ⟨w.toNat, by omega⟩
      refine w_iald (pc' := 25) ⟨rfl, rfl⟩ (zAl hF rfl) (zixZ (by omega)) rfl ?_
      refine w_goto (pc' := 28) (pcT := 29) ⟨rfl, rfl⟩ rfl ?_
      refine w_ireturn (pc' := 30) ⟨rfl, rfl⟩ (Or.inl rfl) ?_
      exact zQx k (by (try simp only [Int.toNat_natCast]); (repeat' split) <;> first | rfl | exact absurd trivial (by assumption) | (exfalso; omega))
    · refine w_ifT_eq (pc' := 19) (pcT := 28) ⟨rfl, rfl⟩ rfl (by decide) ?_
      refine w_ic (pc' := 29) ⟨rfl, rfl⟩ ?_
      refine w_ireturn (pc' := 30) ⟨rfl, rfl⟩ (Or.inl rfl) ?_
      exact zQx k (by (try simp only [Int.toNat_natCast]); (repeat' split) <;> first | rfl | exact absurd trivial (by assumption) | (exfalso; omega))
theorem c_cell {σ : zSt} {p : Nat} {t : zBk} (hF : zFx σ) (hVt : zVt t) (hPp : zR σ 0 10 = some p) (hP : zIsB p) (hPl : zPl σ p t) {c : Nat → Int} (hC : zCn σ c) {s f r i : Int} (hs : (-2147483648 ≤ s ∧ s ≤ 2147483647)) (hf0 : (-2147483648 ≤ f ∧ f ≤ 2147483647)) (hr0 : (-2147483648 ≤ r ∧ r ≤ 2147483647)) (hi0 : (-2147483648 ≤ i ∧ i ≤ 2147483647)) {Q : zSt → Option Value → Prop} (k : Q σ (some (.long (zaC t c (zgC t (zL σ 80)) s f r i)))) : zCa 143 [.ref 0, .int (iZ s), .int (iZ f), .int (iZ r), .int (iZ i)] σ Q := by
  refine w_enter (c := zk_X11_cell) (ls2 := [(0, .ref 0), (1, .int (iZ s)), (2, .int (iZ f)), (3, .int (iZ r)), (4, .int (iZ i))]) rfl ⟨rfl, rfl, rfl, rfl, rfl, trivial⟩ ?_
  rcases zsc s (t 0) with ⟨u, rfl, hu⟩ | hu
  · have hO := (hP.s hF (zu3 hVt hu)).2
    have hS := hPl.2.2.1 u hu
    have hV := (hVt.2.2.1 u hu).1
    have hV1 := hV.1
    have ht0 := hVt.1
    rcases zsc f (zNF t u) with ⟨f, rfl, hf⟩ | hf
    · have hce := (hV.2 f hf).2
      have hcu := hC u (zu3 hVt hu)
      rcases zsc r (c u) with ⟨r, rfl, hr⟩ | hr
      · rcases zsc i (zCE t u f) with ⟨i, rfl, hi⟩ | hi
        · refine w_aload_n (pc' := 1) ⟨rfl, rfl⟩ rfl ?_
          refine w_getR (pc' := 4) (cl := 9) (q := 10) ⟨rfl, rfl⟩ ⟨rfl, by decide⟩ (zOl hF rfl) hPp ?_
          refine w_iload_n (pc' := 5) ⟨rfl, rfl⟩ rfl ?_
          refine w_cv2 (pc' := 8) ⟨rfl, rfl⟩ (by decide) (hP.o hF).1 (Nat.le_of_ble_eq_true rfl) (Nat.le_of_ble_eq_true rfl) (c_shapeI hF hP hPl.1 hVt.1 hu ?_)
          refine w_astore (pc' := 10) ⟨rfl, rfl⟩ rfl ?_
          refine w_aload (pc' := 12) ⟨rfl, rfl⟩ rfl ?_
          refine w_ifnullR (pc' := 15) (pcT := 36) ⟨rfl, rfl⟩ rfl  ?_
          refine w_aload (pc' := 17) ⟨rfl, rfl⟩ rfl ?_
          refine w_iload_n (pc' := 18) ⟨rfl, rfl⟩ rfl ?_
          refine w_cv2 (pc' := 21) ⟨rfl, rfl⟩ (by decide) (hO.o hF) (Nat.le_of_ble_eq_true rfl) (Nat.le_of_ble_eq_true rfl) (c_hasFieldI hF hO hS hV hf ?_)
          refine w_ifF_eq (pc' := 24) ⟨rfl, rfl⟩ (by decide) ?_
          refine w_aload_n (pc' := 25) ⟨rfl, rfl⟩ rfl ?_
          refine w_getR (pc' := 28) (cl := 9) (q := 2) ⟨rfl, rfl⟩ ⟨rfl, by decide⟩ (zOl hF rfl) (hF.2 0 2 79 rfl) ?_
          refine w_iload_n (pc' := 29) ⟨rfl, rfl⟩ rfl ?_
          refine w_iload_n (pc' := 30) ⟨rfl, rfl⟩ rfl ?_
          refine w_cv3 (pc' := 33) ⟨rfl, rfl⟩ (by decide) (zOl hF rfl) (Nat.le_of_ble_eq_true rfl) (Nat.le_of_ble_eq_true rfl) (c_hasRecordI hF hC (zu3 hVt hu) hr ?_)
          refine w_ifT_ne (pc' := 36) (pcT := 40) ⟨rfl, rfl⟩ rfl (by decide) ?_
          refine w_iload (pc' := 42) ⟨rfl, rfl⟩ rfl ?_
          refine w_if_lt (pc' := 45) (pcT := 57) ⟨rfl, rfl⟩ rfl (by omega) (fun h1 => ?_) (fun h1 => ?_)
          · refine w_ldc2Y (pc' := 60) (z := -4611686018427387904) ⟨rfl, rfl⟩ rfl ?_
            refine w_lreturn (pc' := 61) ⟨rfl, rfl⟩ ?_
            exact zQl k (by unfold zaC; (try simp only [Int.toNat_natCast]); first | (rw [if_pos (by omega)]; done) | ((repeat' split) <;> first | rfl | exact absurd trivial (by assumption) | (exfalso; omega)))
          · refine w_iload (pc' := 47) ⟨rfl, rfl⟩ rfl ?_
            refine w_aload (pc' := 49) ⟨rfl, rfl⟩ rfl ?_
            refine w_getR (pc' := 52) (cl := 6) (q := 2) ⟨rfl, rfl⟩ ⟨rfl, by decide⟩ (hO.o hF) (hO.p hF).2.2.1 ?_
            refine w_iload_n (pc' := 53) ⟨rfl, rfl⟩ rfl ?_
            refine w_iald (pc' := 54) ⟨rfl, rfl⟩ (hO.a hF).2.2.1 (zixZ (by omega)) (hS.2.2 f hf).2.1 ?_
            refine w_ic_lt (pc' := 57) (pcT := 61) ⟨rfl, rfl⟩ rfl (by omega) (by omega) (fun h2 => ?_) (fun h2 => ?_)
            · refine w_aload_n (pc' := 62) ⟨rfl, rfl⟩ rfl ?_
              refine w_getR (pc' := 65) (cl := 9) (q := 2) ⟨rfl, rfl⟩ ⟨rfl, by decide⟩ (zOl hF rfl) (hF.2 0 2 79 rfl) ?_
              refine w_iload_n (pc' := 66) ⟨rfl, rfl⟩ rfl ?_
              refine w_aload (pc' := 68) ⟨rfl, rfl⟩ rfl ?_
              refine w_iload_n (pc' := 69) ⟨rfl, rfl⟩ rfl ?_
              refine w_iload_n (pc' := 70) ⟨rfl, rfl⟩ rfl ?_
              refine w_aload (pc' := 72) ⟨rfl, rfl⟩ rfl ?_
              refine w_getR (pc' := 75) (cl := 6) (q := 2) ⟨rfl, rfl⟩ ⟨rfl, by decide⟩ (hO.o hF) (hO.p hF).2.2.1 ?_
              refine w_iload_n (pc' := 76) ⟨rfl, rfl⟩ rfl ?_
              refine w_iald (pc' := 77) ⟨rfl, rfl⟩ (hO.a hF).2.2.1 (zixZ (by omega)) (hS.2.2 f hf).2.1 ?_
              refine w_imulZ (pc' := 78) ⟨rfl, rfl⟩ ?_
              refine w_iload (pc' := 80) ⟨rfl, rfl⟩ rfl ?_
              refine w_iaddZ (pc' := 81) ⟨rfl, rfl⟩ ?_
              refine w_cv5 (pc' := 84) ⟨rfl, rfl⟩ (by decide) (zOl hF rfl) (Nat.le_of_ble_eq_true rfl) (Nat.le_of_ble_eq_true rfl) (c_valueAt hF hO hS hV (zu3 hVt hu) hf (by omega) hi rfl ?_)
              refine w_lreturn (pc' := 85) ⟨rfl, rfl⟩ ?_
              exact zQl k (by unfold zaC; (try simp only [Int.toNat_natCast]); first | (rw [if_pos (by omega)]; done) | ((repeat' split) <;> first | rfl | exact absurd trivial (by assumption) | (exfalso; omega)))
            · refine w_ldc2Y (pc' := 60) (z := -4611686018427387904) ⟨rfl, rfl⟩ rfl ?_
              refine w_lreturn (pc' := 61) ⟨rfl, rfl⟩ ?_
              exact zQl k (by unfold zaC; (try simp only [Int.toNat_natCast]); first | (rw [if_pos (by omega)]; done) | ((repeat' split) <;> first | rfl | exact absurd trivial (by assumption) | (exfalso; omega)))
        · refine w_aload_n (pc' := 1) ⟨rfl, rfl⟩ rfl ?_
          refine w_getR (pc' := 4) (cl := 9) (q := 10) ⟨rfl, rfl⟩ ⟨rfl, by decide⟩ (zOl hF rfl) hPp ?_
          refine w_iload_n (pc' := 5) ⟨rfl, rfl⟩ rfl ?_
          refine w_cv2 (pc' := 8) ⟨rfl, rfl⟩ (by decide) (hP.o hF).1 (Nat.le_of_ble_eq_true rfl) (Nat.le_of_ble_eq_true rfl) (c_shapeI hF hP hPl.1 hVt.1 hu ?_)
          refine w_astore (pc' := 10) ⟨rfl, rfl⟩ rfl ?_
          refine w_aload (pc' := 12) ⟨rfl, rfl⟩ rfl ?_
          refine w_ifnullR (pc' := 15) (pcT := 36) ⟨rfl, rfl⟩ rfl  ?_
          refine w_aload (pc' := 17) ⟨rfl, rfl⟩ rfl ?_
          refine w_iload_n (pc' := 18) ⟨rfl, rfl⟩ rfl ?_
          refine w_cv2 (pc' := 21) ⟨rfl, rfl⟩ (by decide) (hO.o hF) (Nat.le_of_ble_eq_true rfl) (Nat.le_of_ble_eq_true rfl) (c_hasFieldI hF hO hS hV hf ?_)
          refine w_ifF_eq (pc' := 24) ⟨rfl, rfl⟩ (by decide) ?_
          refine w_aload_n (pc' := 25) ⟨rfl, rfl⟩ rfl ?_
          refine w_getR (pc' := 28) (cl := 9) (q := 2) ⟨rfl, rfl⟩ ⟨rfl, by decide⟩ (zOl hF rfl) (hF.2 0 2 79 rfl) ?_
          refine w_iload_n (pc' := 29) ⟨rfl, rfl⟩ rfl ?_
          refine w_iload_n (pc' := 30) ⟨rfl, rfl⟩ rfl ?_
          refine w_cv3 (pc' := 33) ⟨rfl, rfl⟩ (by decide) (zOl hF rfl) (Nat.le_of_ble_eq_true rfl) (Nat.le_of_ble_eq_true rfl) (c_hasRecordI hF hC (zu3 hVt hu) hr ?_)
          refine w_ifT_ne (pc' := 36) (pcT := 40) ⟨rfl, rfl⟩ rfl (by decide) ?_
          refine w_iload (pc' := 42) ⟨rfl, rfl⟩ rfl ?_
          refine w_if_lt (pc' := 45) (pcT := 57) ⟨rfl, rfl⟩ rfl (by omega) (fun h1 => ?_) (fun h1 => ?_)
          · refine w_ldc2Y (pc' := 60) (z := -4611686018427387904) ⟨rfl, rfl⟩ rfl ?_
            refine w_lreturn (pc' := 61) ⟨rfl, rfl⟩ ?_
            exact zQl k (by unfold zaC; (try simp only [Int.toNat_natCast]); first | (rw [if_pos (by omega)]; done) | ((repeat' split) <;> first | rfl | exact absurd trivial (by assumption) | (exfalso; omega)))
          · refine w_iload (pc' := 47) ⟨rfl, rfl⟩ rfl ?_
            refine w_aload (pc' := 49) ⟨rfl, rfl⟩ rfl ?_
            refine w_getR (pc' := 52) (cl := 6) (q := 2) ⟨rfl, rfl⟩ ⟨rfl, by decide⟩ (hO.o hF) (hO.p hF).2.2.1 ?_
            refine w_iload_n (pc' := 53) ⟨rfl, rfl⟩ rfl ?_
            refine w_iald (pc' := 54) ⟨rfl, rfl⟩ (hO.a hF).2.2.1 (zixZ (by omega)) (hS.2.2 f hf).2.1 ?_
            refine w_ic_lt (pc' := 57) (pcT := 61) ⟨rfl, rfl⟩ rfl (by omega) (by omega) (fun h2 => ?_) (fun h2 => ?_)
            · refine w_aload_n (pc' := 62) ⟨rfl, rfl⟩ rfl ?_
              refine w_getR (pc' := 65) (cl := 9) (q := 2) ⟨rfl, rfl⟩ ⟨rfl, by decide⟩ (zOl hF rfl) (hF.2 0 2 79 rfl) ?_
              refine w_iload_n (pc' := 66) ⟨rfl, rfl⟩ rfl ?_
              refine w_aload (pc' := 68) ⟨rfl, rfl⟩ rfl ?_
              refine w_iload_n (pc' := 69) ⟨rfl, rfl⟩ rfl ?_
              refine w_iload_n (pc' := 70) ⟨rfl, rfl⟩ rfl ?_
              refine w_aload (pc' := 72) ⟨rfl, rfl⟩ rfl ?_
              refine w_getR (pc' := 75) (cl := 6) (q := 2) ⟨rfl, rfl⟩ ⟨rfl, by decide⟩ (hO.o hF) (hO.p hF).2.2.1 ?_
              refine w_iload_n (pc' := 76) ⟨rfl, rfl⟩ rfl ?_
              refine w_iald (pc' := 77) ⟨rfl, rfl⟩ (hO.a hF).2.2.1 (zixZ (by omega)) (hS.2.2 f hf).2.1 ?_
              refine w_imulZ (pc' := 78) ⟨rfl, rfl⟩ ?_
              refine w_iload (pc' := 80) ⟨rfl, rfl⟩ rfl ?_
              refine w_iaddZ (pc' := 81) ⟨rfl, rfl⟩ ?_
              exfalso; omega
            · refine w_ldc2Y (pc' := 60) (z := -4611686018427387904) ⟨rfl, rfl⟩ rfl ?_
              refine w_lreturn (pc' := 61) ⟨rfl, rfl⟩ ?_
              exact zQl k (by unfold zaC; (try simp only [Int.toNat_natCast]); first | (rw [if_pos (by omega)]; done) | ((repeat' split) <;> first | rfl | exact absurd trivial (by assumption) | (exfalso; omega)))
      · refine w_aload_n (pc' := 1) ⟨rfl, rfl⟩ rfl ?_
        refine w_getR (pc' := 4) (cl := 9) (q := 10) ⟨rfl, rfl⟩ ⟨rfl, by decide⟩ (zOl hF rfl) hPp ?_
        refine w_iload_n (pc' := 5) ⟨rfl, rfl⟩ rfl ?_
        refine w_cv2 (pc' := 8) ⟨rfl, rfl⟩ (by decide) (hP.o hF).1 (Nat.le_of_ble_eq_true rfl) (Nat.le_of_ble_eq_true rfl) (c_shapeI hF hP hPl.1 hVt.1 hu ?_)
        refine w_astore (pc' := 10) ⟨rfl, rfl⟩ rfl ?_
        refine w_aload (pc' := 12) ⟨rfl, rfl⟩ rfl ?_
        refine w_ifnullR (pc' := 15) (pcT := 36) ⟨rfl, rfl⟩ rfl  ?_
        refine w_aload (pc' := 17) ⟨rfl, rfl⟩ rfl ?_
        refine w_iload_n (pc' := 18) ⟨rfl, rfl⟩ rfl ?_
        refine w_cv2 (pc' := 21) ⟨rfl, rfl⟩ (by decide) (hO.o hF) (Nat.le_of_ble_eq_true rfl) (Nat.le_of_ble_eq_true rfl) (c_hasFieldI hF hO hS hV hf ?_)
        refine w_ifF_eq (pc' := 24) ⟨rfl, rfl⟩ (by decide) ?_
        refine w_aload_n (pc' := 25) ⟨rfl, rfl⟩ rfl ?_
        refine w_getR (pc' := 28) (cl := 9) (q := 2) ⟨rfl, rfl⟩ ⟨rfl, by decide⟩ (zOl hF rfl) (hF.2 0 2 79 rfl) ?_
        refine w_iload_n (pc' := 29) ⟨rfl, rfl⟩ rfl ?_
        refine w_iload_n (pc' := 30) ⟨rfl, rfl⟩ rfl ?_
        refine w_cv3 (pc' := 33) ⟨rfl, rfl⟩ (by decide) (zOl hF rfl) (Nat.le_of_ble_eq_true rfl) (Nat.le_of_ble_eq_true rfl) (c_hasRecordO hF hC (zu3 hVt hu) hr0 hr ?_)
        refine w_ifF_ne (pc' := 36) ⟨rfl, rfl⟩ (by decide) ?_
        refine w_ldc2Y (pc' := 39) (z := -4611686018427387904) ⟨rfl, rfl⟩ rfl ?_
        refine w_lreturn (pc' := 40) ⟨rfl, rfl⟩ ?_
        exact zQl k (by unfold zaC; (try simp only [Int.toNat_natCast]); first | (rw [if_pos (by omega)]; done) | ((repeat' split) <;> first | rfl | exact absurd trivial (by assumption) | (exfalso; omega)))
    · refine w_aload_n (pc' := 1) ⟨rfl, rfl⟩ rfl ?_
      refine w_getR (pc' := 4) (cl := 9) (q := 10) ⟨rfl, rfl⟩ ⟨rfl, by decide⟩ (zOl hF rfl) hPp ?_
      refine w_iload_n (pc' := 5) ⟨rfl, rfl⟩ rfl ?_
      refine w_cv2 (pc' := 8) ⟨rfl, rfl⟩ (by decide) (hP.o hF).1 (Nat.le_of_ble_eq_true rfl) (Nat.le_of_ble_eq_true rfl) (c_shapeI hF hP hPl.1 hVt.1 hu ?_)
      refine w_astore (pc' := 10) ⟨rfl, rfl⟩ rfl ?_
      refine w_aload (pc' := 12) ⟨rfl, rfl⟩ rfl ?_
      refine w_ifnullR (pc' := 15) (pcT := 36) ⟨rfl, rfl⟩ rfl  ?_
      refine w_aload (pc' := 17) ⟨rfl, rfl⟩ rfl ?_
      refine w_iload_n (pc' := 18) ⟨rfl, rfl⟩ rfl ?_
      refine w_cv2 (pc' := 21) ⟨rfl, rfl⟩ (by decide) (hO.o hF) (Nat.le_of_ble_eq_true rfl) (Nat.le_of_ble_eq_true rfl) (c_hasFieldO hF hO hS hV hf0 hf ?_)
      refine w_ifT_eq (pc' := 24) (pcT := 36) ⟨rfl, rfl⟩ rfl (by decide) ?_
      refine w_ldc2Y (pc' := 39) (z := -4611686018427387904) ⟨rfl, rfl⟩ rfl ?_
      refine w_lreturn (pc' := 40) ⟨rfl, rfl⟩ ?_
      exact zQl k (by unfold zaC; (try simp only [Int.toNat_natCast]); first | (rw [if_pos (by omega)]; done) | ((repeat' split) <;> first | rfl | exact absurd trivial (by assumption) | (exfalso; omega)))
  · refine w_aload_n (pc' := 1) ⟨rfl, rfl⟩ rfl ?_
    refine w_getR (pc' := 4) (cl := 9) (q := 10) ⟨rfl, rfl⟩ ⟨rfl, by decide⟩ (zOl hF rfl) hPp ?_
    refine w_iload_n (pc' := 5) ⟨rfl, rfl⟩ rfl ?_
    refine w_cv2 (pc' := 8) ⟨rfl, rfl⟩ (by decide) (hP.o hF).1 (Nat.le_of_ble_eq_true rfl) (Nat.le_of_ble_eq_true rfl) (c_shapeO hF hP hPl.1 hVt.1 hs hu ?_)
    refine w_astoreN (pc' := 10) ⟨rfl, rfl⟩ rfl ?_
    refine w_aloadN (pc' := 12) ⟨rfl, rfl⟩ rfl ?_
    refine w_ifnullN (pc' := 15) (pcT := 36) ⟨rfl, rfl⟩ rfl  ?_
    refine w_ldc2Y (pc' := 39) (z := -4611686018427387904) ⟨rfl, rfl⟩ rfl ?_
    refine w_lreturn (pc' := 40) ⟨rfl, rfl⟩ ?_
    exact zQl k (by unfold zaC; (try simp only [Int.toNat_natCast]); first | (rw [if_pos (by omega)]; done) | ((repeat' split) <;> first | rfl | exact absurd trivial (by assumption) | (exfalso; omega)))
theorem r_cell {σ : zSt} {t : zBk} (hF : zFx σ) (hVt : zVt t) (hT : zTr σ t) {c : Nat → Int} (hC : zCm σ c) {s f r i : Int} (hs : (-2147483648 ≤ s ∧ s ≤ 2147483647)) (hf0 : (-2147483648 ≤ f ∧ f ≤ 2147483647)) (hr0 : (-2147483648 ≤ r ∧ r ≤ 2147483647)) (hi0 : (-2147483648 ≤ i ∧ i ≤ 2147483647)) {Q : zSt → Option Value → Prop} (k : Q σ (some (.long (zaC t c (zgR t (zL σ 170)) s f r i)))) : zCa 266 [.ref 164, .int (iZ s), .int (iZ f), .int (iZ r), .int (iZ i)] σ Q := by
  refine w_enter (c := zk_X12_cell) (ls2 := [(0, .ref 164), (1, .int (iZ s)), (2, .int (iZ f)), (3, .int (iZ r)), (4, .int (iZ i))]) rfl ⟨rfl, rfl, rfl, rfl, rfl, trivial⟩ ?_
  rcases zsc s (t 0) with ⟨u, rfl, hu⟩ | hu
  · have hV := (hVt.2.2.1 u hu).1
    have hV1 := hV.1
    have ht0 := hVt.1
    have hu3 := zu3 hVt hu
    rcases zsc f (zNF t u) with ⟨f, rfl, hf⟩ | hf
    · have hce := (hV.2 f hf).2
      have hcu := hC u (zu3 hVt hu)
      rcases zsc r (c u) with ⟨r, rfl, hr⟩ | hr
      · rcases zsc i (zCE t u f) with ⟨i, rfl, hi⟩ | hi
        · refine w_aload_n (pc' := 1) ⟨rfl, rfl⟩ rfl ?_
          refine w_iload_n (pc' := 2) ⟨rfl, rfl⟩ rfl ?_
          refine w_iload_n (pc' := 3) ⟨rfl, rfl⟩ rfl ?_
          refine w_cv3 (pc' := 6) ⟨rfl, rfl⟩ (by decide) (zOl hF rfl) (Nat.le_of_ble_eq_true rfl) (Nat.le_of_ble_eq_true rfl) (r_isFieldI hF hT hVt hu hf ?_)
          refine w_ifF_eq (pc' := 9) ⟨rfl, rfl⟩ (by decide) ?_
          refine w_aload_n (pc' := 10) ⟨rfl, rfl⟩ rfl ?_
          refine w_iload_n (pc' := 11) ⟨rfl, rfl⟩ rfl ?_
          refine w_iload_n (pc' := 12) ⟨rfl, rfl⟩ rfl ?_
          refine w_cv3 (pc' := 15) ⟨rfl, rfl⟩ (by decide) (zOl hF rfl) (Nat.le_of_ble_eq_true rfl) (Nat.le_of_ble_eq_true rfl) (r_isRecordI hF hT hVt hC hu hr ?_)
          refine w_ifF_eq (pc' := 18) ⟨rfl, rfl⟩ (by decide) ?_
          refine w_iload (pc' := 20) ⟨rfl, rfl⟩ rfl ?_
          refine w_i2lZ (pc' := 21) ⟨rfl, rfl⟩ (by omega) ?_
          refine w_lc (pc' := 22) (z := 0) ⟨rfl, rfl⟩ rfl ?_
          refine w_aload_n (pc' := 23) ⟨rfl, rfl⟩ rfl ?_
          refine w_iload_n (pc' := 24) ⟨rfl, rfl⟩ rfl ?_
          refine w_iload_n (pc' := 25) ⟨rfl, rfl⟩ rfl ?_
          refine w_cv3 (pc' := 28) ⟨rfl, rfl⟩ (by decide) (zOl hF rfl) (Nat.le_of_ble_eq_true rfl) (Nat.le_of_ble_eq_true rfl) (r_cellsOf hF hT hu3 (zf6 hV hf) ?_)
          refine w_ic (pc' := 29) ⟨rfl, rfl⟩ ?_
          refine w_isubZ (pc' := 30) ⟨rfl, rfl⟩ ?_
          refine w_i2lZ (pc' := 31) ⟨rfl, rfl⟩ (by omega) ?_
          refine w_cs3 (pc' := 34) ⟨rfl, rfl⟩ (by decide) (Nat.le_of_ble_eq_true rfl) (Nat.le_of_ble_eq_true rfl) (r_isIn (by omega) (by omega) (by omega) (fun h => ?_) (fun h => ?_))
          · refine w_ifF_eq (pc' := 37) ⟨rfl, rfl⟩ (by decide) ?_
            refine w_aload_n (pc' := 38) ⟨rfl, rfl⟩ rfl ?_
            refine w_iload_n (pc' := 39) ⟨rfl, rfl⟩ rfl ?_
            refine w_iload_n (pc' := 40) ⟨rfl, rfl⟩ rfl ?_
            refine w_iload_n (pc' := 41) ⟨rfl, rfl⟩ rfl ?_
            refine w_iload (pc' := 43) ⟨rfl, rfl⟩ rfl ?_
            refine w_cv5 (pc' := 46) ⟨rfl, rfl⟩ (by decide) (zOl hF rfl) (Nat.le_of_ble_eq_true rfl) (Nat.le_of_ble_eq_true rfl) (r_valueAt hF hT hu3 (zf6 hV hf) (by omega) hce hi (hV.2 f hf).1 ?_)
            refine w_goto (pc' := 49) (pcT := 52) ⟨rfl, rfl⟩ rfl ?_
            refine w_lreturn (pc' := 53) ⟨rfl, rfl⟩ ?_
            exact zQl k (by unfold zaC; (try simp only [Int.toNat_natCast]); first | (rw [if_pos (by omega)]; done) | ((repeat' split) <;> first | rfl | exact absurd trivial (by assumption) | (exfalso; omega)))
          · exfalso; omega
        · refine w_aload_n (pc' := 1) ⟨rfl, rfl⟩ rfl ?_
          refine w_iload_n (pc' := 2) ⟨rfl, rfl⟩ rfl ?_
          refine w_iload_n (pc' := 3) ⟨rfl, rfl⟩ rfl ?_
          refine w_cv3 (pc' := 6) ⟨rfl, rfl⟩ (by decide) (zOl hF rfl) (Nat.le_of_ble_eq_true rfl) (Nat.le_of_ble_eq_true rfl) (r_isFieldI hF hT hVt hu hf ?_)
          refine w_ifF_eq (pc' := 9) ⟨rfl, rfl⟩ (by decide) ?_
          refine w_aload_n (pc' := 10) ⟨rfl, rfl⟩ rfl ?_
          refine w_iload_n (pc' := 11) ⟨rfl, rfl⟩ rfl ?_
          refine w_iload_n (pc' := 12) ⟨rfl, rfl⟩ rfl ?_
          refine w_cv3 (pc' := 15) ⟨rfl, rfl⟩ (by decide) (zOl hF rfl) (Nat.le_of_ble_eq_true rfl) (Nat.le_of_ble_eq_true rfl) (r_isRecordI hF hT hVt hC hu hr ?_)
          refine w_ifF_eq (pc' := 18) ⟨rfl, rfl⟩ (by decide) ?_
          refine w_iload (pc' := 20) ⟨rfl, rfl⟩ rfl ?_
          refine w_i2lZ (pc' := 21) ⟨rfl, rfl⟩ (by omega) ?_
          refine w_lc (pc' := 22) (z := 0) ⟨rfl, rfl⟩ rfl ?_
          refine w_aload_n (pc' := 23) ⟨rfl, rfl⟩ rfl ?_
          refine w_iload_n (pc' := 24) ⟨rfl, rfl⟩ rfl ?_
          refine w_iload_n (pc' := 25) ⟨rfl, rfl⟩ rfl ?_
          refine w_cv3 (pc' := 28) ⟨rfl, rfl⟩ (by decide) (zOl hF rfl) (Nat.le_of_ble_eq_true rfl) (Nat.le_of_ble_eq_true rfl) (r_cellsOf hF hT hu3 (zf6 hV hf) ?_)
          refine w_ic (pc' := 29) ⟨rfl, rfl⟩ ?_
          refine w_isubZ (pc' := 30) ⟨rfl, rfl⟩ ?_
          refine w_i2lZ (pc' := 31) ⟨rfl, rfl⟩ (by omega) ?_
          refine w_cs3 (pc' := 34) ⟨rfl, rfl⟩ (by decide) (Nat.le_of_ble_eq_true rfl) (Nat.le_of_ble_eq_true rfl) (r_isIn (by omega) (by omega) (by omega) (fun h => ?_) (fun h => ?_))
          · exfalso; omega
          · refine w_ifT_eq (pc' := 37) (pcT := 49) ⟨rfl, rfl⟩ rfl (by decide) ?_
            refine w_ldc2Y (pc' := 52) (z := -4611686018427387904) ⟨rfl, rfl⟩ rfl ?_
            refine w_lreturn (pc' := 53) ⟨rfl, rfl⟩ ?_
            exact zQl k (by unfold zaC; (try simp only [Int.toNat_natCast]); first | (rw [if_pos (by omega)]; done) | ((repeat' split) <;> first | rfl | exact absurd trivial (by assumption) | (exfalso; omega)))
      · refine w_aload_n (pc' := 1) ⟨rfl, rfl⟩ rfl ?_
        refine w_iload_n (pc' := 2) ⟨rfl, rfl⟩ rfl ?_
        refine w_iload_n (pc' := 3) ⟨rfl, rfl⟩ rfl ?_
        refine w_cv3 (pc' := 6) ⟨rfl, rfl⟩ (by decide) (zOl hF rfl) (Nat.le_of_ble_eq_true rfl) (Nat.le_of_ble_eq_true rfl) (r_isFieldI hF hT hVt hu hf ?_)
        refine w_ifF_eq (pc' := 9) ⟨rfl, rfl⟩ (by decide) ?_
        refine w_aload_n (pc' := 10) ⟨rfl, rfl⟩ rfl ?_
        refine w_iload_n (pc' := 11) ⟨rfl, rfl⟩ rfl ?_
        refine w_iload_n (pc' := 12) ⟨rfl, rfl⟩ rfl ?_
        refine w_cv3 (pc' := 15) ⟨rfl, rfl⟩ (by decide) (zOl hF rfl) (Nat.le_of_ble_eq_true rfl) (Nat.le_of_ble_eq_true rfl) (r_isRecordO hF hT hVt hC hu hr0 hr ?_)
        refine w_ifT_eq (pc' := 18) (pcT := 49) ⟨rfl, rfl⟩ rfl (by decide) ?_
        refine w_ldc2Y (pc' := 52) (z := -4611686018427387904) ⟨rfl, rfl⟩ rfl ?_
        refine w_lreturn (pc' := 53) ⟨rfl, rfl⟩ ?_
        exact zQl k (by unfold zaC; (try simp only [Int.toNat_natCast]); first | (rw [if_pos (by omega)]; done) | ((repeat' split) <;> first | rfl | exact absurd trivial (by assumption) | (exfalso; omega)))
    · refine w_aload_n (pc' := 1) ⟨rfl, rfl⟩ rfl ?_
      refine w_iload_n (pc' := 2) ⟨rfl, rfl⟩ rfl ?_
      refine w_iload_n (pc' := 3) ⟨rfl, rfl⟩ rfl ?_
      refine w_cv3 (pc' := 6) ⟨rfl, rfl⟩ (by decide) (zOl hF rfl) (Nat.le_of_ble_eq_true rfl) (Nat.le_of_ble_eq_true rfl) (r_isFieldO hF hT hVt hs hf0 (by rw [Int.toNat_natCast]; omega) ?_)
      refine w_ifT_eq (pc' := 9) (pcT := 49) ⟨rfl, rfl⟩ rfl (by decide) ?_
      refine w_ldc2Y (pc' := 52) (z := -4611686018427387904) ⟨rfl, rfl⟩ rfl ?_
      refine w_lreturn (pc' := 53) ⟨rfl, rfl⟩ ?_
      exact zQl k (by unfold zaC; (try simp only [Int.toNat_natCast]); first | (rw [if_pos (by omega)]; done) | ((repeat' split) <;> first | rfl | exact absurd trivial (by assumption) | (exfalso; omega)))
  · refine w_aload_n (pc' := 1) ⟨rfl, rfl⟩ rfl ?_
    refine w_iload_n (pc' := 2) ⟨rfl, rfl⟩ rfl ?_
    refine w_iload_n (pc' := 3) ⟨rfl, rfl⟩ rfl ?_
    refine w_cv3 (pc' := 6) ⟨rfl, rfl⟩ (by decide) (zOl hF rfl) (Nat.le_of_ble_eq_true rfl) (Nat.le_of_ble_eq_true rfl) (r_isFieldO hF hT hVt hs hf0 (by omega) ?_)
    refine w_ifT_eq (pc' := 9) (pcT := 49) ⟨rfl, rfl⟩ rfl (by decide) ?_
    refine w_ldc2Y (pc' := 52) (z := -4611686018427387904) ⟨rfl, rfl⟩ rfl ?_
    refine w_lreturn (pc' := 53) ⟨rfl, rfl⟩ ?_
    exact zQl k (by unfold zaC; (try simp only [Int.toNat_natCast]); first | (rw [if_pos (by omega)]; done) | ((repeat' split) <;> first | rfl | exact absurd trivial (by assumption) | (exfalso; omega)))
