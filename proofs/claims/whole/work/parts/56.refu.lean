/-! PLACES: by what they are refused, both -/
theorem zsc (s n : Int) : (∃ u : Nat, s = u ∧ (u : Int) < n) ∨ ¬ (0 ≤ s ∧ s < n) := by
  rcases Classical.em (0 ≤ s ∧ s < n) with h | h
  · exact Or.inl ⟨s.toNat, by omega, by omega⟩
  · exact Or.inr h
theorem zu3 {t : zBk} (hVt : zVt t) {u : Nat} (h : (u : Int) < t 0) : u < 3 := by have := hVt.1; omega
theorem zf6 {t : zBk} {u f : Nat} (hV : zVs t u) (h : (f : Int) < zNF t u) : f < 6 := by have := hV.1; omega
theorem c_shapeI {σ : zSt} {p : Nat} {n : Int} (hF : zFx σ) (hP : zIsB p) (hn : zI σ p 2 = iZ n) (hn3 : 0 ≤ n ∧ n ≤ 3) {u : Nat} (hu : (u : Int) < n) {Q : zSt → Option Value → Prop} (k : Q σ (some (.ref (p + 3 + 5 * u)))) : zCa 57 [.ref p, .int (iZ u)] σ Q := c_shape hF hP hn hn3 (by omega) (fun _ => k) (fun h => absurd ⟨by omega, hu⟩ h)
theorem c_shapeO {σ : zSt} {p : Nat} {n : Int} (hF : zFx σ) (hP : zIsB p) (hn : zI σ p 2 = iZ n) (hn3 : 0 ≤ n ∧ n ≤ 3) {z : Int} (hz : -2147483648 ≤ z ∧ z ≤ 2147483647) (hu : ¬ (0 ≤ z ∧ z < n)) {Q : zSt → Option Value → Prop} (k : Q σ (some .null)) : zCa 57 [.ref p, .int (iZ z)] σ Q := c_shape hF hP hn hn3 hz (fun h => absurd h hu) (fun _ => k)
theorem c_passageI {σ : zSt} {p : Nat} {n : Int} (hF : zFx σ) (hP : zIsB p) (hn : zI σ p 3 = iZ n) (hn3 : 0 ≤ n ∧ n ≤ 4) {u : Nat} (hu : (u : Int) < n) {Q : zSt → Option Value → Prop} (k : Q σ (some (.ref (p + 18 + 8 * u)))) : zCa 58 [.ref p, .int (iZ u)] σ Q := c_passage hF hP hn hn3 (by omega) (fun _ => k) (fun h => absurd ⟨by omega, hu⟩ h)
theorem c_passageO {σ : zSt} {p : Nat} {n : Int} (hF : zFx σ) (hP : zIsB p) (hn : zI σ p 3 = iZ n) (hn3 : 0 ≤ n ∧ n ≤ 4) {z : Int} (hz : -2147483648 ≤ z ∧ z ≤ 2147483647) (hu : ¬ (0 ≤ z ∧ z < n)) {Q : zSt → Option Value → Prop} (k : Q σ (some .null)) : zCa 58 [.ref p, .int (iZ z)] σ Q := c_passage hF hP hn hn3 hz (fun h => absurd h hu) (fun _ => k)
theorem c_hasFieldI {σ : zSt} {o s : Nat} {t : zBk} (hF : zFx σ) (hO : zIsS o) (hS : zSh σ o t s) (hV : zVs t s) {f : Nat} (hf : (f : Int) < zNF t s) {Q : zSt → Option Value → Prop} (k : Q σ (some (.int (iZ 1)))) : zCa 99 [.ref o, .int (iZ f)] σ Q := c_hasField hF hO hS hV (by have := hV.1; omega) (fun _ => k) (fun h => absurd ⟨by omega, hf⟩ h)
theorem c_hasFieldO {σ : zSt} {o s : Nat} {t : zBk} (hF : zFx σ) (hO : zIsS o) (hS : zSh σ o t s) (hV : zVs t s) {f : Int} (hf : -2147483648 ≤ f ∧ f ≤ 2147483647) (h : ¬ (0 ≤ f ∧ f < zNF t s)) {Q : zSt → Option Value → Prop} (k : Q σ (some (.int (iZ 0)))) : zCa 99 [.ref o, .int (iZ f)] σ Q := c_hasField hF hO hS hV hf (fun q => absurd q h) (fun _ => k)
theorem zV0 {t : zBk} (h : zVt t) : (0 ≤ t 0 ∧ t 0 ≤ 3) ∧ (0 ≤ t 1 ∧ t 1 ≤ 4) ∧ (t 0 = 0 → t 1 = 0) := ⟨h.1, h.2.1, h.z⟩
theorem r_isSchemeI {σ : zSt} {t : zBk} (hF : zFx σ) (hT : zTr σ t) (hVt : zVt t) {u : Nat} (hu : (u : Int) < t 0) {Q : zSt → Option Value → Prop} (k : Q σ (some (.int (iZ 1)))) : zCa 213 [.ref 164, .int (iZ u)] σ Q := r_isScheme hF hT (zV0 hVt) (by have := hVt.1; omega) (fun _ => k) (fun h => absurd ⟨by omega, hu⟩ h)
theorem r_isSchemeO {σ : zSt} {t : zBk} (hF : zFx σ) (hT : zTr σ t) (hVt : zVt t) {z : Int} (hz : -2147483648 ≤ z ∧ z ≤ 2147483647) (hu : ¬ (0 ≤ z ∧ z < t 0)) {Q : zSt → Option Value → Prop} (k : Q σ (some (.int (iZ 0)))) : zCa 213 [.ref 164, .int (iZ z)] σ Q := r_isScheme hF hT (zV0 hVt) hz (fun h => absurd h hu) (fun _ => k)
theorem r_isCrossingI {σ : zSt} {t : zBk} (hF : zFx σ) (hT : zTr σ t) (hVt : zVt t) {u : Nat} (hu : (u : Int) < t 1) {Q : zSt → Option Value → Prop} (k : Q σ (some (.int (iZ 1)))) : zCa 218 [.ref 164, .int (iZ u)] σ Q := r_isCrossing hF hT (zV0 hVt) (by have := hVt.2.1; omega) (fun _ => k) (fun h => absurd ⟨by omega, hu⟩ h)
theorem r_isCrossingO {σ : zSt} {t : zBk} (hF : zFx σ) (hT : zTr σ t) (hVt : zVt t) {z : Int} (hz : -2147483648 ≤ z ∧ z ≤ 2147483647) (hu : ¬ (0 ≤ z ∧ z < t 1)) {Q : zSt → Option Value → Prop} (k : Q σ (some (.int (iZ 0)))) : zCa 218 [.ref 164, .int (iZ z)] σ Q := r_isCrossing hF hT (zV0 hVt) hz (fun h => absurd h hu) (fun _ => k)
/-- what a row is -/
def zrk (t : zBk) (s row : Int) : Int := if s < 0 ∨ t 0 ≤ s ∨ row < 0 ∨ 8 < row then -4 else if row = 8 then 9 else if row = 7 then -2 else if row < zNF t s.toNat then zKD t s.toNat row.toNat else -3
theorem zrk_cases {t : zBk} (hV : zVt t) (s row : Int) : (zrk t s row < 0 ∧ -4 ≤ zrk t s row) ∨ (∃ u : Nat, s = u ∧ (u : Int) < t 0 ∧ row = 8 ∧ zrk t s row = 9) ∨ ∃ u f : Nat, s = u ∧ row = f ∧ (u : Int) < t 0 ∧ (f : Int) < zNF t u ∧ zrk t s row = zKD t u f := by
  unfold zrk
  split
  · exact Or.inl (by omega)
  · split
    · exact Or.inr (Or.inl ⟨s.toNat, by omega, by omega, by assumption, rfl⟩)
    · split
      · exact Or.inl (by omega)
      · split
        · exact Or.inr (Or.inr ⟨s.toNat, row.toNat, by omega, by omega, by omega, by omega, rfl⟩)
        · exact Or.inl (by omega)
theorem c_rowSort {σ : zSt} {p : Nat} {t : zBk} (hF : zFx σ) (hVt : zVt t) (hPp : zR σ 0 10 = some p) (hP : zIsB p) (hPl : zPl σ p t) {s row : Int} (hs : (-2147483648 ≤ s ∧ s ≤ 2147483647)) (hr : (-2147483648 ≤ row ∧ row ≤ 2147483647)) {Q : zSt → Option Value → Prop} (k : Q σ (some (.int (iZ (zrk t s row))))) : zCa 145 [.ref 0, .int (iZ s), .int (iZ row)] σ Q := by
  refine w_enter (c := zk_X11_rowSort) (ls2 := [(0, .ref 0), (1, .int (iZ s)), (2, .int (iZ row))]) rfl ⟨rfl, rfl, rfl, trivial⟩ ?_
  rcases zsc s (t 0) with ⟨u, rfl, hu⟩ | hu
  · have hO := (hP.s hF (zu3 hVt hu)).2
    have hS := hPl.2.2.1 u hu
    have hV := (hVt.2.2.1 u hu).1
    have hV1 := hV.1
    have ht0 := hVt.1
    rcases zsc row (zNF t u) with ⟨f, rfl, hf⟩ | hf
    · refine w_aload_n (pc' := 1) ⟨rfl, rfl⟩ rfl ?_
      refine w_getR (pc' := 4) (cl := 9) (q := 10) ⟨rfl, rfl⟩ ⟨rfl, by decide⟩ (zOl hF rfl) hPp ?_
      refine w_iload_n (pc' := 5) ⟨rfl, rfl⟩ rfl ?_
      refine w_cv2 (pc' := 8) ⟨rfl, rfl⟩ (by decide) (hP.o hF).1 (Nat.le_of_ble_eq_true rfl) (Nat.le_of_ble_eq_true rfl) (c_shapeI hF hP hPl.1 hVt.1 hu ?_)
      refine w_astore_n (pc' := 9) ⟨rfl, rfl⟩ rfl ?_
      refine w_aload_n (pc' := 10) ⟨rfl, rfl⟩ rfl ?_
      refine w_ifnullR (pc' := 13) (pcT := 23) ⟨rfl, rfl⟩ rfl  ?_
      refine w_iload_n (pc' := 14) ⟨rfl, rfl⟩ rfl ?_
      refine w_ifF_lt (pc' := 17) ⟨rfl, rfl⟩ (by omega) ?_
      refine w_iload_n (pc' := 18) ⟨rfl, rfl⟩ rfl ?_
      refine w_bi (pc' := 20) ⟨rfl, rfl⟩ (by decide) ?_
      refine w_icT_le (pc' := 23) (pcT := 26) ⟨rfl, rfl⟩ rfl (by omega) ?_
      refine w_iload_n (pc' := 27) ⟨rfl, rfl⟩ rfl ?_
      refine w_bi (pc' := 29) ⟨rfl, rfl⟩ (by decide) ?_
      refine w_icT_ne (pc' := 32) (pcT := 35) ⟨rfl, rfl⟩ rfl (by omega) ?_
      refine w_iload_n (pc' := 36) ⟨rfl, rfl⟩ rfl ?_
      refine w_bi (pc' := 38) ⟨rfl, rfl⟩ (by decide) ?_
      refine w_icT_ne (pc' := 41) (pcT := 44) ⟨rfl, rfl⟩ rfl (by omega) ?_
      refine w_aload_n (pc' := 45) ⟨rfl, rfl⟩ rfl ?_
      refine w_iload_n (pc' := 46) ⟨rfl, rfl⟩ rfl ?_
      refine w_cv2 (pc' := 49) ⟨rfl, rfl⟩ (by decide) (hO.o hF) (Nat.le_of_ble_eq_true rfl) (Nat.le_of_ble_eq_true rfl) (c_hasFieldI hF hO hS hV hf ?_)
      refine w_ifF_eq (pc' := 52) ⟨rfl, rfl⟩ (by decide) ?_
      refine w_aload_n (pc' := 53) ⟨rfl, rfl⟩ rfl ?_
      refine w_getR (pc' := 56) (cl := 6) (q := 1) ⟨rfl, rfl⟩ ⟨rfl, by decide⟩ (hO.o hF) (hO.p hF).2.1 ?_
      refine w_iload_n (pc' := 57) ⟨rfl, rfl⟩ rfl ?_
      refine w_iald (pc' := 58) ⟨rfl, rfl⟩ (hO.a hF).2.1 (zixZ (by omega)) (hS.2.2 f hf).1 ?_
      refine w_goto (pc' := 61) (pcT := 63) ⟨rfl, rfl⟩ rfl ?_
      refine w_ireturn (pc' := 64) ⟨rfl, rfl⟩ (Or.inl rfl) ?_
      exact zQi k (by unfold zrk; (try simp only [Int.toNat_natCast]); first | (rw [if_pos (by omega)]; done) | ((repeat' split) <;> first | omega | rfl))
    · refine w_aload_n (pc' := 1) ⟨rfl, rfl⟩ rfl ?_
      refine w_getR (pc' := 4) (cl := 9) (q := 10) ⟨rfl, rfl⟩ ⟨rfl, by decide⟩ (zOl hF rfl) hPp ?_
      refine w_iload_n (pc' := 5) ⟨rfl, rfl⟩ rfl ?_
      refine w_cv2 (pc' := 8) ⟨rfl, rfl⟩ (by decide) (hP.o hF).1 (Nat.le_of_ble_eq_true rfl) (Nat.le_of_ble_eq_true rfl) (c_shapeI hF hP hPl.1 hVt.1 hu ?_)
      refine w_astore_n (pc' := 9) ⟨rfl, rfl⟩ rfl ?_
      refine w_aload_n (pc' := 10) ⟨rfl, rfl⟩ rfl ?_
      refine w_ifnullR (pc' := 13) (pcT := 23) ⟨rfl, rfl⟩ rfl  ?_
      refine w_iload_n (pc' := 14) ⟨rfl, rfl⟩ rfl ?_
      refine w_if_lt (pc' := 17) (pcT := 23) ⟨rfl, rfl⟩ rfl (by omega) (fun h1 => ?_) (fun h1 => ?_)
      · refine w_bi (pc' := 25) ⟨rfl, rfl⟩ (by decide) ?_
        refine w_ireturn (pc' := 26) ⟨rfl, rfl⟩ (Or.inl rfl) ?_
        exact zQi k (by unfold zrk; (try simp only [Int.toNat_natCast]); first | (rw [if_pos (by omega)]; done) | ((repeat' split) <;> first | omega | rfl))
      · refine w_iload_n (pc' := 18) ⟨rfl, rfl⟩ rfl ?_
        refine w_bi (pc' := 20) ⟨rfl, rfl⟩ (by decide) ?_
        refine w_ic_le (pc' := 23) (pcT := 26) ⟨rfl, rfl⟩ rfl (by omega) (by omega) (fun h2 => ?_) (fun h2 => ?_)
        · refine w_iload_n (pc' := 27) ⟨rfl, rfl⟩ rfl ?_
          refine w_bi (pc' := 29) ⟨rfl, rfl⟩ (by decide) ?_
          refine w_ic_ne (pc' := 32) (pcT := 35) ⟨rfl, rfl⟩ rfl (by omega) (by omega) (fun h3 => ?_) (fun h3 => ?_)
          · refine w_iload_n (pc' := 36) ⟨rfl, rfl⟩ rfl ?_
            refine w_bi (pc' := 38) ⟨rfl, rfl⟩ (by decide) ?_
            refine w_ic_ne (pc' := 41) (pcT := 44) ⟨rfl, rfl⟩ rfl (by omega) (by omega) (fun h4 => ?_) (fun h4 => ?_)
            · refine w_aload_n (pc' := 45) ⟨rfl, rfl⟩ rfl ?_
              refine w_iload_n (pc' := 46) ⟨rfl, rfl⟩ rfl ?_
              refine w_cv2 (pc' := 49) ⟨rfl, rfl⟩ (by decide) (hO.o hF) (Nat.le_of_ble_eq_true rfl) (Nat.le_of_ble_eq_true rfl) (c_hasFieldO hF hO hS hV hr hf ?_)
              refine w_ifT_eq (pc' := 52) (pcT := 61) ⟨rfl, rfl⟩ rfl (by decide) ?_
              refine w_bi (pc' := 63) ⟨rfl, rfl⟩ (by decide) ?_
              refine w_ireturn (pc' := 64) ⟨rfl, rfl⟩ (Or.inl rfl) ?_
              exact zQi k (by unfold zrk; (try simp only [Int.toNat_natCast]); first | (rw [if_pos (by omega)]; done) | ((repeat' split) <;> first | omega | rfl))
            · refine w_bi (pc' := 43) ⟨rfl, rfl⟩ (by decide) ?_
              refine w_ireturn (pc' := 44) ⟨rfl, rfl⟩ (Or.inl rfl) ?_
              exact zQi k (by unfold zrk; (try simp only [Int.toNat_natCast]); first | (rw [if_pos (by omega)]; done) | ((repeat' split) <;> first | omega | rfl))
          · refine w_bi (pc' := 34) ⟨rfl, rfl⟩ (by decide) ?_
            refine w_ireturn (pc' := 35) ⟨rfl, rfl⟩ (Or.inl rfl) ?_
            exact zQi k (by unfold zrk; (try simp only [Int.toNat_natCast]); first | (rw [if_pos (by omega)]; done) | ((repeat' split) <;> first | omega | rfl))
        · refine w_bi (pc' := 25) ⟨rfl, rfl⟩ (by decide) ?_
          refine w_ireturn (pc' := 26) ⟨rfl, rfl⟩ (Or.inl rfl) ?_
          exact zQi k (by unfold zrk; (try simp only [Int.toNat_natCast]); first | (rw [if_pos (by omega)]; done) | ((repeat' split) <;> first | omega | rfl))
  · refine w_aload_n (pc' := 1) ⟨rfl, rfl⟩ rfl ?_
    refine w_getR (pc' := 4) (cl := 9) (q := 10) ⟨rfl, rfl⟩ ⟨rfl, by decide⟩ (zOl hF rfl) hPp ?_
    refine w_iload_n (pc' := 5) ⟨rfl, rfl⟩ rfl ?_
    refine w_cv2 (pc' := 8) ⟨rfl, rfl⟩ (by decide) (hP.o hF).1 (Nat.le_of_ble_eq_true rfl) (Nat.le_of_ble_eq_true rfl) (c_shapeO hF hP hPl.1 hVt.1 hs hu ?_)
    refine w_astore_nN (pc' := 9) ⟨rfl, rfl⟩ rfl ?_
    refine w_aload_nN (pc' := 10) ⟨rfl, rfl⟩ rfl ?_
    refine w_ifnullN (pc' := 13) (pcT := 23) ⟨rfl, rfl⟩ rfl  ?_
    refine w_bi (pc' := 25) ⟨rfl, rfl⟩ (by decide) ?_
    refine w_ireturn (pc' := 26) ⟨rfl, rfl⟩ (Or.inl rfl) ?_
    exact zQi k (by unfold zrk; (try simp only [Int.toNat_natCast]); first | (rw [if_pos (by omega)]; done) | ((repeat' split) <;> first | omega | rfl))
theorem r_rowKind {σ : zSt} {t : zBk} (hF : zFx σ) (hVt : zVt t) (hT : zTr σ t) {s row : Int} (hs : (-2147483648 ≤ s ∧ s ≤ 2147483647)) (hr : (-2147483648 ≤ row ∧ row ≤ 2147483647)) {Q : zSt → Option Value → Prop} (k : Q σ (some (.int (iZ (zrk t s row))))) : zCa 253 [.ref 164, .int (iZ s), .int (iZ row)] σ Q := by
  refine w_enter (c := zk_X12_rowKind) (ls2 := [(0, .ref 164), (1, .int (iZ s)), (2, .int (iZ row))]) rfl ⟨rfl, rfl, rfl, trivial⟩ ?_
  rcases zsc s (t 0) with ⟨u, rfl, hu⟩ | hu
  · have hV := (hVt.2.2.1 u hu).1
    have hV1 := hV.1
    have ht0 := hVt.1
    have hu3 := zu3 hVt hu
    rcases zsc row (zNF t u) with ⟨f, rfl, hf⟩ | hf
    · refine w_aload_n (pc' := 1) ⟨rfl, rfl⟩ rfl ?_
      refine w_iload_n (pc' := 2) ⟨rfl, rfl⟩ rfl ?_
      refine w_cv2 (pc' := 5) ⟨rfl, rfl⟩ (by decide) (zOl hF rfl) (Nat.le_of_ble_eq_true rfl) (Nat.le_of_ble_eq_true rfl) (r_isSchemeI hF hT hVt hu ?_)
      refine w_ifF_eq (pc' := 8) ⟨rfl, rfl⟩ (by decide) ?_
      refine w_iload_n (pc' := 9) ⟨rfl, rfl⟩ rfl ?_
      refine w_i2lZ (pc' := 10) ⟨rfl, rfl⟩ (by omega) ?_
      refine w_lc (pc' := 11) (z := 0) ⟨rfl, rfl⟩ rfl ?_
      refine w_ldc2Y (pc' := 14) (z := 8) ⟨rfl, rfl⟩ rfl ?_
      refine w_cs3 (pc' := 17) ⟨rfl, rfl⟩ (by decide) (Nat.le_of_ble_eq_true rfl) (Nat.le_of_ble_eq_true rfl) (r_isIn (by omega) (by omega) (by omega) (fun h => ?_) (fun h => ?_))
      · refine w_ifT_ne (pc' := 20) (pcT := 23) ⟨rfl, rfl⟩ rfl (by decide) ?_
        refine w_iload_n (pc' := 24) ⟨rfl, rfl⟩ rfl ?_
        refine w_bi (pc' := 26) ⟨rfl, rfl⟩ (by decide) ?_
        refine w_icT_ne (pc' := 29) (pcT := 32) ⟨rfl, rfl⟩ rfl (by omega) ?_
        refine w_iload_n (pc' := 33) ⟨rfl, rfl⟩ rfl ?_
        refine w_bi (pc' := 35) ⟨rfl, rfl⟩ (by decide) ?_
        refine w_icT_ne (pc' := 38) (pcT := 41) ⟨rfl, rfl⟩ rfl (by omega) ?_
        refine w_iload_n (pc' := 42) ⟨rfl, rfl⟩ rfl ?_
        refine w_bi (pc' := 44) ⟨rfl, rfl⟩ (by decide) ?_
        refine w_icF_eq (pc' := 47) ⟨rfl, rfl⟩ (by omega) ?_
        refine w_iload_n (pc' := 48) ⟨rfl, rfl⟩ rfl ?_
        refine w_aload_n (pc' := 49) ⟨rfl, rfl⟩ rfl ?_
        refine w_iload_n (pc' := 50) ⟨rfl, rfl⟩ rfl ?_
        refine w_cv2 (pc' := 53) ⟨rfl, rfl⟩ (by decide) (zOl hF rfl) (Nat.le_of_ble_eq_true rfl) (Nat.le_of_ble_eq_true rfl) (r_fieldMany hF hT hu3 ?_)
        refine w_icT_lt (pc' := 56) (pcT := 61) ⟨rfl, rfl⟩ rfl (by omega) ?_
        refine w_aload_n (pc' := 62) ⟨rfl, rfl⟩ rfl ?_
        refine w_iload_n (pc' := 63) ⟨rfl, rfl⟩ rfl ?_
        refine w_iload_n (pc' := 64) ⟨rfl, rfl⟩ rfl ?_
        refine w_cv3 (pc' := 67) ⟨rfl, rfl⟩ (by decide) (zOl hF rfl) (Nat.le_of_ble_eq_true rfl) (Nat.le_of_ble_eq_true rfl) (r_kindOf hF hT hu3 (zf6 hV hf) ?_)
        refine w_ireturn (pc' := 68) ⟨rfl, rfl⟩ (Or.inl rfl) ?_
        exact zQi k (by unfold zrk; (try simp only [Int.toNat_natCast]); first | (rw [if_pos (by omega)]; done) | ((repeat' split) <;> first | omega | rfl))
      · exfalso; omega
    · refine w_aload_n (pc' := 1) ⟨rfl, rfl⟩ rfl ?_
      refine w_iload_n (pc' := 2) ⟨rfl, rfl⟩ rfl ?_
      refine w_cv2 (pc' := 5) ⟨rfl, rfl⟩ (by decide) (zOl hF rfl) (Nat.le_of_ble_eq_true rfl) (Nat.le_of_ble_eq_true rfl) (r_isSchemeI hF hT hVt hu ?_)
      refine w_ifF_eq (pc' := 8) ⟨rfl, rfl⟩ (by decide) ?_
      refine w_iload_n (pc' := 9) ⟨rfl, rfl⟩ rfl ?_
      refine w_i2lZ (pc' := 10) ⟨rfl, rfl⟩ (by omega) ?_
      refine w_lc (pc' := 11) (z := 0) ⟨rfl, rfl⟩ rfl ?_
      refine w_ldc2Y (pc' := 14) (z := 8) ⟨rfl, rfl⟩ rfl ?_
      refine w_cs3 (pc' := 17) ⟨rfl, rfl⟩ (by decide) (Nat.le_of_ble_eq_true rfl) (Nat.le_of_ble_eq_true rfl) (r_isIn (by omega) (by omega) (by omega) (fun h => ?_) (fun h => ?_))
      · refine w_ifT_ne (pc' := 20) (pcT := 23) ⟨rfl, rfl⟩ rfl (by decide) ?_
        refine w_iload_n (pc' := 24) ⟨rfl, rfl⟩ rfl ?_
        refine w_bi (pc' := 26) ⟨rfl, rfl⟩ (by decide) ?_
        refine w_ic_ne (pc' := 29) (pcT := 32) ⟨rfl, rfl⟩ rfl (by omega) (by omega) (fun h1 => ?_) (fun h1 => ?_)
        · refine w_iload_n (pc' := 33) ⟨rfl, rfl⟩ rfl ?_
          refine w_bi (pc' := 35) ⟨rfl, rfl⟩ (by decide) ?_
          refine w_ic_ne (pc' := 38) (pcT := 41) ⟨rfl, rfl⟩ rfl (by omega) (by omega) (fun h2 => ?_) (fun h2 => ?_)
          · refine w_iload_n (pc' := 42) ⟨rfl, rfl⟩ rfl ?_
            refine w_bi (pc' := 44) ⟨rfl, rfl⟩ (by decide) ?_
            refine w_ic_eq (pc' := 47) (pcT := 56) ⟨rfl, rfl⟩ rfl (by omega) (by omega) (fun h3 => ?_) (fun h3 => ?_)
            · refine w_bi (pc' := 58) ⟨rfl, rfl⟩ (by decide) ?_
              refine w_goto (pc' := 61) (pcT := 67) ⟨rfl, rfl⟩ rfl ?_
              refine w_ireturn (pc' := 68) ⟨rfl, rfl⟩ (Or.inl rfl) ?_
              exact zQi k (by unfold zrk; (try simp only [Int.toNat_natCast]); first | (rw [if_pos (by omega)]; done) | ((repeat' split) <;> first | omega | rfl))
            · refine w_iload_n (pc' := 48) ⟨rfl, rfl⟩ rfl ?_
              refine w_aload_n (pc' := 49) ⟨rfl, rfl⟩ rfl ?_
              refine w_iload_n (pc' := 50) ⟨rfl, rfl⟩ rfl ?_
              refine w_cv2 (pc' := 53) ⟨rfl, rfl⟩ (by decide) (zOl hF rfl) (Nat.le_of_ble_eq_true rfl) (Nat.le_of_ble_eq_true rfl) (r_fieldMany hF hT hu3 ?_)
              refine w_ic_lt (pc' := 56) (pcT := 61) ⟨rfl, rfl⟩ rfl (by omega) (by omega) (fun h4 => ?_) (fun h4 => ?_)
              · refine w_aload_n (pc' := 62) ⟨rfl, rfl⟩ rfl ?_
                refine w_iload_n (pc' := 63) ⟨rfl, rfl⟩ rfl ?_
                refine w_iload_n (pc' := 64) ⟨rfl, rfl⟩ rfl ?_
                exfalso; omega
              · refine w_bi (pc' := 58) ⟨rfl, rfl⟩ (by decide) ?_
                refine w_goto (pc' := 61) (pcT := 67) ⟨rfl, rfl⟩ rfl ?_
                refine w_ireturn (pc' := 68) ⟨rfl, rfl⟩ (Or.inl rfl) ?_
                exact zQi k (by unfold zrk; (try simp only [Int.toNat_natCast]); first | (rw [if_pos (by omega)]; done) | ((repeat' split) <;> first | omega | rfl))
          · refine w_bi (pc' := 40) ⟨rfl, rfl⟩ (by decide) ?_
            refine w_ireturn (pc' := 41) ⟨rfl, rfl⟩ (Or.inl rfl) ?_
            exact zQi k (by unfold zrk; (try simp only [Int.toNat_natCast]); first | (rw [if_pos (by omega)]; done) | ((repeat' split) <;> first | omega | rfl))
        · refine w_bi (pc' := 31) ⟨rfl, rfl⟩ (by decide) ?_
          refine w_ireturn (pc' := 32) ⟨rfl, rfl⟩ (Or.inl rfl) ?_
          exact zQi k (by unfold zrk; (try simp only [Int.toNat_natCast]); first | (rw [if_pos (by omega)]; done) | ((repeat' split) <;> first | omega | rfl))
      · refine w_ifF_ne (pc' := 20) ⟨rfl, rfl⟩ (by decide) ?_
        refine w_bi (pc' := 22) ⟨rfl, rfl⟩ (by decide) ?_
        refine w_ireturn (pc' := 23) ⟨rfl, rfl⟩ (Or.inl rfl) ?_
        exact zQi k (by unfold zrk; (try simp only [Int.toNat_natCast]); first | (rw [if_pos (by omega)]; done) | ((repeat' split) <;> first | omega | rfl))
  · refine w_aload_n (pc' := 1) ⟨rfl, rfl⟩ rfl ?_
    refine w_iload_n (pc' := 2) ⟨rfl, rfl⟩ rfl ?_
    refine w_cv2 (pc' := 5) ⟨rfl, rfl⟩ (by decide) (zOl hF rfl) (Nat.le_of_ble_eq_true rfl) (Nat.le_of_ble_eq_true rfl) (r_isSchemeO hF hT hVt hs hu ?_)
    refine w_ifT_eq (pc' := 8) (pcT := 20) ⟨rfl, rfl⟩ rfl (by decide) ?_
    refine w_bi (pc' := 22) ⟨rfl, rfl⟩ (by decide) ?_
    refine w_ireturn (pc' := 23) ⟨rfl, rfl⟩ (Or.inl rfl) ?_
    exact zQi k (by unfold zrk; (try simp only [Int.toNat_natCast]); first | (rw [if_pos (by omega)]; done) | ((repeat' split) <;> first | omega | rfl))
/-- how many places a row has; by what a place is refused, where a kind is told, where a thing is put -/
def zlo (t : zBk) (s row : Int) : Int := if row = 8 then 4 else 8 * zCE t s.toNat row.toNat
def zkr (t : zBk) (s row pl kd : Int) : Int := if kd < 0 ∨ 7 < kd then -4 else if zrk t s row < 0 then zrk t s row else if 7 < zrk t s row then -2 else if pl < 0 ∨ zlo t s row ≤ pl then -1 else 0
abbrev ztt (so kd : Int) : Prop := so = 9 ∨ (so = 8 ∧ (kd = 8 ∨ kd = 10)) ∨ (so ≠ 9 ∧ so ≠ 8 ∧ zgi kd so)
def ztr (t : zBk) (s row pl kd : Int) : Int := if kd < 0 ∨ 10 < kd then -4 else if zrk t s row < 0 then zrk t s row else if zrk t s row ≤ 7 ∧ kd = 10 then -2 else if pl < 0 ∨ zlo t s row ≤ pl then -1 else if ztt (zrk t s row) kd then 0 else -2
def zrr (t : zBk) (s row pl kd : Int) : Int := if zkr t s row pl kd ≠ 0 then zkr t s row pl kd else if zgi (zrk t s row) kd then 0 else -2
def zwr (t : zBk) (s row pl kd : Int) : Int := if zkr t s row pl kd ≠ 0 then zkr t s row pl kd else if zgi kd (zrk t s row) then 0 else -2
theorem r_doesWidenZ {σ : zSt} (hF : zFx σ) (hW : zWid σ) {a b : Int} (ha : 0 ≤ a ∧ a ≤ 8) (hb : 0 ≤ b ∧ b ≤ 8) {Q : zSt → Option Value → Prop} (k1 : zgi a b → Q σ (some (.int (iZ 1)))) (k0 : ¬ zgi a b → Q σ (some (.int (iZ 0)))) : zCa 232 [.ref 164, .int (iZ a), .int (iZ b)] σ Q := by
  obtain ⟨x, rfl⟩ : ∃ x : Nat, a = x := ⟨a.toNat, by omega⟩
  obtain ⟨y, rfl⟩ : ∃ y : Nat, b = y := ⟨b.toNat, by omega⟩
  exact r_doesWiden hF hW (by omega) (by omega) k1 k0
theorem c_placesT {σ : zSt} {p : Nat} {t : zBk} (hF : zFx σ) (hVt : zVt t) (hPp : zR σ 0 10 = some p) (hP : zIsB p) (hPl : zPl σ p t) {s row so : Int} (hso : so = 9) {Q : zSt → Option Value → Prop} (k : Q σ (some (.int (iZ 4)))) : zCa 146 [.ref 0, .int (iZ s), .int (iZ row), .int (iZ so)] σ Q := by
  refine w_enter (c := zk_X11_placesOf) (ls2 := [(0, .ref 0), (1, .int (iZ s)), (2, .int (iZ row)), (3, .int (iZ so))]) rfl ⟨rfl, rfl, rfl, rfl, trivial⟩ ?_
  refine w_iload_n (pc' := 1) ⟨rfl, rfl⟩ rfl ?_
  refine w_bi (pc' := 3) ⟨rfl, rfl⟩ (by decide) ?_
  refine w_icF_ne (pc' := 6) ⟨rfl, rfl⟩ (by omega) ?_
  refine w_ic (pc' := 7) ⟨rfl, rfl⟩ ?_
  refine w_ireturn (pc' := 8) ⟨rfl, rfl⟩ (Or.inl rfl) ?_
  exact k
theorem c_placesF {σ : zSt} {p : Nat} {t : zBk} (hF : zFx σ) (hVt : zVt t) (hPp : zR σ 0 10 = some p) (hP : zIsB p) (hPl : zPl σ p t) {u f : Nat} (hu : (u : Int) < t 0) (hf : (f : Int) < zNF t u) {so : Int} (hso : 0 ≤ so ∧ so ≤ 8) {Q : zSt → Option Value → Prop} (k : Q σ (some (.int (iZ (8 * zCE t u f))))) : zCa 146 [.ref 0, .int (iZ u), .int (iZ f), .int (iZ so)] σ Q := by
  refine w_enter (c := zk_X11_placesOf) (ls2 := [(0, .ref 0), (1, .int (iZ u)), (2, .int (iZ f)), (3, .int (iZ so))]) rfl ⟨rfl, rfl, rfl, rfl, trivial⟩ ?_
  have hO := (hP.s hF (zu3 hVt hu)).2
  have hS := hPl.2.2.1 u hu
  have hV := (hVt.2.2.1 u hu).1
  have hV1 := hV.1
  have ht0 := hVt.1
  refine w_iload_n (pc' := 1) ⟨rfl, rfl⟩ rfl ?_
  refine w_bi (pc' := 3) ⟨rfl, rfl⟩ (by decide) ?_
  refine w_icT_ne (pc' := 6) (pcT := 8) ⟨rfl, rfl⟩ rfl (by omega) ?_
  refine w_aload_n (pc' := 9) ⟨rfl, rfl⟩ rfl ?_
  refine w_getR (pc' := 12) (cl := 9) (q := 10) ⟨rfl, rfl⟩ ⟨rfl, by decide⟩ (zOl hF rfl) hPp ?_
  refine w_iload_n (pc' := 13) ⟨rfl, rfl⟩ rfl ?_
  refine w_cv2 (pc' := 16) ⟨rfl, rfl⟩ (by decide) (hP.o hF).1 (Nat.le_of_ble_eq_true rfl) (Nat.le_of_ble_eq_true rfl) (c_shapeI hF hP hPl.1 hVt.1 hu ?_)
  refine w_astore (pc' := 18) ⟨rfl, rfl⟩ rfl ?_
  refine w_aload (pc' := 20) ⟨rfl, rfl⟩ rfl ?_
  refine w_ifnullR (pc' := 23) (pcT := 45) ⟨rfl, rfl⟩ rfl  ?_
  refine w_aload (pc' := 25) ⟨rfl, rfl⟩ rfl ?_
  refine w_iload_n (pc' := 26) ⟨rfl, rfl⟩ rfl ?_
  refine w_cv2 (pc' := 29) ⟨rfl, rfl⟩ (by decide) (hO.o hF) (Nat.le_of_ble_eq_true rfl) (Nat.le_of_ble_eq_true rfl) (c_hasFieldI hF hO hS hV hf ?_)
  refine w_ifF_eq (pc' := 32) ⟨rfl, rfl⟩ (by decide) ?_
  refine w_bi (pc' := 34) ⟨rfl, rfl⟩ (by decide) ?_
  refine w_aload (pc' := 36) ⟨rfl, rfl⟩ rfl ?_
  refine w_getR (pc' := 39) (cl := 6) (q := 2) ⟨rfl, rfl⟩ ⟨rfl, by decide⟩ (hO.o hF) (hO.p hF).2.2.1 ?_
  refine w_iload_n (pc' := 40) ⟨rfl, rfl⟩ rfl ?_
  refine w_iald (pc' := 41) ⟨rfl, rfl⟩ (hO.a hF).2.2.1 (zixZ (by omega)) (hS.2.2 f hf).2.1 ?_
  refine w_imulZ (pc' := 42) ⟨rfl, rfl⟩ ?_
  refine w_goto (pc' := 45) (pcT := 46) ⟨rfl, rfl⟩ rfl ?_
  refine w_ireturn (pc' := 47) ⟨rfl, rfl⟩ (Or.inl rfl) ?_
  exact k
theorem r_longOfT {σ : zSt} {t : zBk} (hF : zFx σ) (hVt : zVt t) (hT : zTr σ t) {s : Int} {Q : zSt → Option Value → Prop} (k : Q σ (some (.int (iZ 4)))) : zCa 254 [.ref 164, .int (iZ s), .int (iZ 8)] σ Q := by
  refine w_enter (c := zk_X12_longOf) (ls2 := [(0, .ref 164), (1, .int (iZ s)), (2, .int (iZ 8))]) rfl ⟨rfl, rfl, rfl, trivial⟩ ?_
  refine w_iload_n (pc' := 1) ⟨rfl, rfl⟩ rfl ?_
  refine w_bi (pc' := 3) ⟨rfl, rfl⟩ (by decide) ?_
  refine w_icF_ne (pc' := 6) ⟨rfl, rfl⟩ (by omega) ?_
  refine w_ic (pc' := 7) ⟨rfl, rfl⟩ ?_
  refine w_goto (pc' := 10) (pcT := 19) ⟨rfl, rfl⟩ rfl ?_
  refine w_ireturn (pc' := 20) ⟨rfl, rfl⟩ (Or.inl rfl) ?_
  exact k
theorem r_longOfF {σ : zSt} {t : zBk} (hF : zFx σ) (hVt : zVt t) (hT : zTr σ t) {u f : Nat} (hu : (u : Int) < t 0) (hf : (f : Int) < zNF t u) {Q : zSt → Option Value → Prop} (k : Q σ (some (.int (iZ (8 * zCE t u f))))) : zCa 254 [.ref 164, .int (iZ u), .int (iZ f)] σ Q := by
  refine w_enter (c := zk_X12_longOf) (ls2 := [(0, .ref 164), (1, .int (iZ u)), (2, .int (iZ f))]) rfl ⟨rfl, rfl, rfl, trivial⟩ ?_
  have hV := (hVt.2.2.1 u hu).1
  have hV1 := hV.1
  have ht0 := hVt.1
  have hu3 := zu3 hVt hu
  refine w_iload_n (pc' := 1) ⟨rfl, rfl⟩ rfl ?_
  refine w_bi (pc' := 3) ⟨rfl, rfl⟩ (by decide) ?_
  refine w_icT_ne (pc' := 6) (pcT := 10) ⟨rfl, rfl⟩ rfl (by omega) ?_
  refine w_bi (pc' := 12) ⟨rfl, rfl⟩ (by decide) ?_
  refine w_aload_n (pc' := 13) ⟨rfl, rfl⟩ rfl ?_
  refine w_iload_n (pc' := 14) ⟨rfl, rfl⟩ rfl ?_
  refine w_iload_n (pc' := 15) ⟨rfl, rfl⟩ rfl ?_
  refine w_cv3 (pc' := 18) ⟨rfl, rfl⟩ (by decide) (zOl hF rfl) (Nat.le_of_ble_eq_true rfl) (Nat.le_of_ble_eq_true rfl) (r_cellsOf hF hT hu3 (zf6 hV hf) ?_)
  refine w_imulZ (pc' := 19) ⟨rfl, rfl⟩ ?_
  refine w_ireturn (pc' := 20) ⟨rfl, rfl⟩ (Or.inl rfl) ?_
  exact k
theorem c_kindRefusal {σ : zSt} {p : Nat} {t : zBk} (hF : zFx σ) (hVt : zVt t) (hPp : zR σ 0 10 = some p) (hP : zIsB p) (hPl : zPl σ p t) {s row pl kd : Int} (hs : (-2147483648 ≤ s ∧ s ≤ 2147483647)) (hr : (-2147483648 ≤ row ∧ row ≤ 2147483647)) (hpl : (-2147483648 ≤ pl ∧ pl ≤ 2147483647)) (hkd0 : (-2147483648 ≤ kd ∧ kd ≤ 2147483647)) {Q : zSt → Option Value → Prop} (k : Q σ (some (.int (iZ (zkr t s row pl kd))))) : zCa 147 [.ref 0, .int (iZ s), .int (iZ row), .int (iZ pl), .int (iZ kd)] σ Q := by
  refine w_enter (c := zk_X11_kindRefusal) (ls2 := [(0, .ref 0), (1, .int (iZ s)), (2, .int (iZ row)), (3, .int (iZ pl)), (4, .int (iZ kd))]) rfl ⟨rfl, rfl, rfl, rfl, rfl, trivial⟩ ?_
  rcases zrk_cases hVt s row with hk | ⟨u, rfl, hu, rfl, hk⟩ | ⟨u, f, rfl, rfl, hu, hf, hk⟩
  · have ht0 := hVt.1
    refine w_iload (pc' := 2) ⟨rfl, rfl⟩ rfl ?_
    refine w_if_lt (pc' := 5) (pcT := 12) ⟨rfl, rfl⟩ rfl (by omega) (fun h1 => ?_) (fun h1 => ?_)
    · refine w_bi (pc' := 14) ⟨rfl, rfl⟩ (by decide) ?_
      refine w_ireturn (pc' := 15) ⟨rfl, rfl⟩ (Or.inl rfl) ?_
      exact zQi k (by unfold zkr zlo; (try simp only [Int.toNat_natCast]); (repeat' split) <;> first | omega | exact absurd trivial (by assumption) | rfl)
    · refine w_iload (pc' := 7) ⟨rfl, rfl⟩ rfl ?_
      refine w_bi (pc' := 9) ⟨rfl, rfl⟩ (by decide) ?_
      refine w_ic_le (pc' := 12) (pcT := 15) ⟨rfl, rfl⟩ rfl (by omega) (by omega) (fun h2 => ?_) (fun h2 => ?_)
      · refine w_aload_n (pc' := 16) ⟨rfl, rfl⟩ rfl ?_
        refine w_iload_n (pc' := 17) ⟨rfl, rfl⟩ rfl ?_
        refine w_iload_n (pc' := 18) ⟨rfl, rfl⟩ rfl ?_
        refine w_cv3 (pc' := 21) ⟨rfl, rfl⟩ (by decide) (zOl hF rfl) (Nat.le_of_ble_eq_true rfl) (Nat.le_of_ble_eq_true rfl) (c_rowSort hF hVt hPp hP hPl (by omega) (by omega) ?_)
        refine w_istore (pc' := 23) ⟨rfl, rfl⟩ rfl ?_
        refine w_iload (pc' := 25) ⟨rfl, rfl⟩ rfl ?_
        refine w_ifF_ge (pc' := 28) ⟨rfl, rfl⟩ (by omega) ?_
        refine w_iload (pc' := 30) ⟨rfl, rfl⟩ rfl ?_
        refine w_ireturn (pc' := 31) ⟨rfl, rfl⟩ (Or.inl rfl) ?_
        exact zQi k (by unfold zkr zlo; (try simp only [Int.toNat_natCast]); (repeat' split) <;> first | omega | exact absurd trivial (by assumption) | rfl)
      · refine w_bi (pc' := 14) ⟨rfl, rfl⟩ (by decide) ?_
        refine w_ireturn (pc' := 15) ⟨rfl, rfl⟩ (Or.inl rfl) ?_
        exact zQi k (by unfold zkr zlo; (try simp only [Int.toNat_natCast]); (repeat' split) <;> first | omega | exact absurd trivial (by assumption) | rfl)
  · have ht0 := hVt.1
    refine w_iload (pc' := 2) ⟨rfl, rfl⟩ rfl ?_
    refine w_if_lt (pc' := 5) (pcT := 12) ⟨rfl, rfl⟩ rfl (by omega) (fun h1 => ?_) (fun h1 => ?_)
    · refine w_bi (pc' := 14) ⟨rfl, rfl⟩ (by decide) ?_
      refine w_ireturn (pc' := 15) ⟨rfl, rfl⟩ (Or.inl rfl) ?_
      exact zQi k (by unfold zkr zlo; (try simp only [Int.toNat_natCast]); (repeat' split) <;> first | omega | exact absurd trivial (by assumption) | rfl)
    · refine w_iload (pc' := 7) ⟨rfl, rfl⟩ rfl ?_
      refine w_bi (pc' := 9) ⟨rfl, rfl⟩ (by decide) ?_
      refine w_ic_le (pc' := 12) (pcT := 15) ⟨rfl, rfl⟩ rfl (by omega) (by omega) (fun h2 => ?_) (fun h2 => ?_)
      · refine w_aload_n (pc' := 16) ⟨rfl, rfl⟩ rfl ?_
        refine w_iload_n (pc' := 17) ⟨rfl, rfl⟩ rfl ?_
        refine w_iload_n (pc' := 18) ⟨rfl, rfl⟩ rfl ?_
        refine w_cv3 (pc' := 21) ⟨rfl, rfl⟩ (by decide) (zOl hF rfl) (Nat.le_of_ble_eq_true rfl) (Nat.le_of_ble_eq_true rfl) (c_rowSort hF hVt hPp hP hPl (by omega) (by omega) ?_)
        refine w_istore (pc' := 23) ⟨rfl, rfl⟩ rfl ?_
        refine w_iload (pc' := 25) ⟨rfl, rfl⟩ rfl ?_
        refine w_ifT_ge (pc' := 28) (pcT := 31) ⟨rfl, rfl⟩ rfl (by omega) ?_
        refine w_iload (pc' := 33) ⟨rfl, rfl⟩ rfl ?_
        refine w_bi (pc' := 35) ⟨rfl, rfl⟩ (by decide) ?_
        refine w_icF_le (pc' := 38) ⟨rfl, rfl⟩ (by omega) ?_
        refine w_bi (pc' := 40) ⟨rfl, rfl⟩ (by decide) ?_
        refine w_ireturn (pc' := 41) ⟨rfl, rfl⟩ (Or.inl rfl) ?_
        exact zQi k (by unfold zkr zlo; (try simp only [Int.toNat_natCast]); (repeat' split) <;> first | omega | exact absurd trivial (by assumption) | rfl)
      · refine w_bi (pc' := 14) ⟨rfl, rfl⟩ (by decide) ?_
        refine w_ireturn (pc' := 15) ⟨rfl, rfl⟩ (Or.inl rfl) ?_
        exact zQi k (by unfold zkr zlo; (try simp only [Int.toNat_natCast]); (repeat' split) <;> first | omega | exact absurd trivial (by assumption) | rfl)
  · have hV := (hVt.2.2.1 u hu).1
    have hV1 := hV.1
    have ht0 := hVt.1
    have hkd := (hV.2 f hf)
    refine w_iload (pc' := 2) ⟨rfl, rfl⟩ rfl ?_
    refine w_if_lt (pc' := 5) (pcT := 12) ⟨rfl, rfl⟩ rfl (by omega) (fun h1 => ?_) (fun h1 => ?_)
    · refine w_bi (pc' := 14) ⟨rfl, rfl⟩ (by decide) ?_
      refine w_ireturn (pc' := 15) ⟨rfl, rfl⟩ (Or.inl rfl) ?_
      exact zQi k (by unfold zkr zlo; (try simp only [Int.toNat_natCast]); (repeat' split) <;> first | omega | exact absurd trivial (by assumption) | rfl)
    · refine w_iload (pc' := 7) ⟨rfl, rfl⟩ rfl ?_
      refine w_bi (pc' := 9) ⟨rfl, rfl⟩ (by decide) ?_
      refine w_ic_le (pc' := 12) (pcT := 15) ⟨rfl, rfl⟩ rfl (by omega) (by omega) (fun h2 => ?_) (fun h2 => ?_)
      · refine w_aload_n (pc' := 16) ⟨rfl, rfl⟩ rfl ?_
        refine w_iload_n (pc' := 17) ⟨rfl, rfl⟩ rfl ?_
        refine w_iload_n (pc' := 18) ⟨rfl, rfl⟩ rfl ?_
        refine w_cv3 (pc' := 21) ⟨rfl, rfl⟩ (by decide) (zOl hF rfl) (Nat.le_of_ble_eq_true rfl) (Nat.le_of_ble_eq_true rfl) (c_rowSort hF hVt hPp hP hPl (by omega) (by omega) ?_)
        refine w_istore (pc' := 23) ⟨rfl, rfl⟩ rfl ?_
        refine w_iload (pc' := 25) ⟨rfl, rfl⟩ rfl ?_
        refine w_ifT_ge (pc' := 28) (pcT := 31) ⟨rfl, rfl⟩ rfl (by omega) ?_
        refine w_iload (pc' := 33) ⟨rfl, rfl⟩ rfl ?_
        refine w_bi (pc' := 35) ⟨rfl, rfl⟩ (by decide) ?_
        refine w_ic_le (pc' := 38) (pcT := 41) ⟨rfl, rfl⟩ rfl (by omega) (by omega) (fun h3 => ?_) (fun h3 => ?_)
        · refine w_iload_n (pc' := 42) ⟨rfl, rfl⟩ rfl ?_
          refine w_if_lt (pc' := 45) (pcT := 57) ⟨rfl, rfl⟩ rfl (by omega) (fun h4 => ?_) (fun h4 => ?_)
          · refine w_ic (pc' := 58) ⟨rfl, rfl⟩ ?_
            refine w_goto (pc' := 61) (pcT := 62) ⟨rfl, rfl⟩ rfl ?_
            refine w_ireturn (pc' := 63) ⟨rfl, rfl⟩ (Or.inl rfl) ?_
            exact zQi k (by unfold zkr zlo; (try simp only [Int.toNat_natCast]); (repeat' split) <;> first | omega | exact absurd trivial (by assumption) | rfl)
          · refine w_iload_n (pc' := 46) ⟨rfl, rfl⟩ rfl ?_
            refine w_aload_n (pc' := 47) ⟨rfl, rfl⟩ rfl ?_
            refine w_iload_n (pc' := 48) ⟨rfl, rfl⟩ rfl ?_
            refine w_iload_n (pc' := 49) ⟨rfl, rfl⟩ rfl ?_
            refine w_iload (pc' := 51) ⟨rfl, rfl⟩ rfl ?_
            refine w_cv4 (pc' := 54) ⟨rfl, rfl⟩ (by decide) (zOl hF rfl) (Nat.le_of_ble_eq_true rfl) (Nat.le_of_ble_eq_true rfl) (c_placesF hF hVt hPp hP hPl hu hf (by omega) ?_)
            refine w_ic_lt (pc' := 57) (pcT := 61) ⟨rfl, rfl⟩ rfl (by omega) (by omega) (fun h5 => ?_) (fun h5 => ?_)
            · refine w_ic (pc' := 62) ⟨rfl, rfl⟩ ?_
              refine w_ireturn (pc' := 63) ⟨rfl, rfl⟩ (Or.inl rfl) ?_
              exact zQi k (by unfold zkr zlo; (try simp only [Int.toNat_natCast]); (repeat' split) <;> first | omega | exact absurd trivial (by assumption) | rfl)
            · refine w_ic (pc' := 58) ⟨rfl, rfl⟩ ?_
              refine w_goto (pc' := 61) (pcT := 62) ⟨rfl, rfl⟩ rfl ?_
              refine w_ireturn (pc' := 63) ⟨rfl, rfl⟩ (Or.inl rfl) ?_
              exact zQi k (by unfold zkr zlo; (try simp only [Int.toNat_natCast]); (repeat' split) <;> first | omega | exact absurd trivial (by assumption) | rfl)
        · refine w_bi (pc' := 40) ⟨rfl, rfl⟩ (by decide) ?_
          refine w_ireturn (pc' := 41) ⟨rfl, rfl⟩ (Or.inl rfl) ?_
          exact zQi k (by unfold zkr zlo; (try simp only [Int.toNat_natCast]); (repeat' split) <;> first | omega | exact absurd trivial (by assumption) | rfl)
      · refine w_bi (pc' := 14) ⟨rfl, rfl⟩ (by decide) ?_
        refine w_ireturn (pc' := 15) ⟨rfl, rfl⟩ (Or.inl rfl) ?_
        exact zQi k (by unfold zkr zlo; (try simp only [Int.toNat_natCast]); (repeat' split) <;> first | omega | exact absurd trivial (by assumption) | rfl)
theorem c_takesThing {σ : zSt} {so kd : Int} (hso : 0 ≤ so ∧ so ≤ 9) (hkd : 0 ≤ kd ∧ kd ≤ 10) {Q : zSt → Option Value → Prop} (k1 : ztt so kd → Q σ (some (.int (iZ 1)))) (k0 : ¬ ztt so kd → Q σ (some (.int (iZ 0)))) : zCa 149 [.int (iZ so), .int (iZ kd)] σ Q := by
  refine w_enter (c := zk_X11_takesThing) (ls2 := [(0, .int (iZ so)), (1, .int (iZ kd))]) rfl ⟨rfl, rfl, trivial⟩ ?_
  refine w_iload_n (pc' := 1) ⟨rfl, rfl⟩ rfl ?_
  refine w_bi (pc' := 3) ⟨rfl, rfl⟩ (by decide) ?_
  refine w_ic_ne (pc' := 6) (pcT := 8) ⟨rfl, rfl⟩ rfl (by omega) (by omega) (fun h1 => ?_) (fun h1 => ?_)
  · refine w_iload_n (pc' := 9) ⟨rfl, rfl⟩ rfl ?_
    refine w_bi (pc' := 11) ⟨rfl, rfl⟩ (by decide) ?_
    refine w_ic_ne (pc' := 14) (pcT := 32) ⟨rfl, rfl⟩ rfl (by omega) (by omega) (fun h2 => ?_) (fun h2 => ?_)
    · refine w_iload_n (pc' := 33) ⟨rfl, rfl⟩ rfl ?_
      refine w_iload_n (pc' := 34) ⟨rfl, rfl⟩ rfl ?_
      refine w_cs2 (pc' := 37) ⟨rfl, rfl⟩ (by decide) (Nat.le_of_ble_eq_true rfl) (Nat.le_of_ble_eq_true rfl) (c_goesInto (by omega) (by omega) (fun h => ?_) (fun h => ?_))
      · refine w_ireturn (pc' := 38) ⟨rfl, rfl⟩ (by decide) ?_
        first | exact k1 (by unfold ztt; omega) | exact k0 (by unfold ztt; omega)
      · refine w_ireturn (pc' := 38) ⟨rfl, rfl⟩ (by decide) ?_
        first | exact k1 (by unfold ztt; omega) | exact k0 (by unfold ztt; omega)
    · refine w_iload_n (pc' := 15) ⟨rfl, rfl⟩ rfl ?_
      refine w_bi (pc' := 17) ⟨rfl, rfl⟩ (by decide) ?_
      refine w_ic_eq (pc' := 20) (pcT := 26) ⟨rfl, rfl⟩ rfl (by omega) (by omega) (fun h3 => ?_) (fun h3 => ?_)
      · refine w_ic (pc' := 27) ⟨rfl, rfl⟩ ?_
        refine w_goto (pc' := 30) (pcT := 31) ⟨rfl, rfl⟩ rfl ?_
        refine w_ireturn (pc' := 32) ⟨rfl, rfl⟩ (by decide) ?_
        first | exact k1 (by unfold ztt; omega) | exact k0 (by unfold ztt; omega)
      · refine w_iload_n (pc' := 21) ⟨rfl, rfl⟩ rfl ?_
        refine w_bi (pc' := 23) ⟨rfl, rfl⟩ (by decide) ?_
        refine w_ic_ne (pc' := 26) (pcT := 30) ⟨rfl, rfl⟩ rfl (by omega) (by omega) (fun h4 => ?_) (fun h4 => ?_)
        · refine w_ic (pc' := 31) ⟨rfl, rfl⟩ ?_
          refine w_ireturn (pc' := 32) ⟨rfl, rfl⟩ (by decide) ?_
          first | exact k1 (by unfold ztt; omega) | exact k0 (by unfold ztt; omega)
        · refine w_ic (pc' := 27) ⟨rfl, rfl⟩ ?_
          refine w_goto (pc' := 30) (pcT := 31) ⟨rfl, rfl⟩ rfl ?_
          refine w_ireturn (pc' := 32) ⟨rfl, rfl⟩ (by decide) ?_
          first | exact k1 (by unfold ztt; omega) | exact k0 (by unfold ztt; omega)
  · refine w_ic (pc' := 7) ⟨rfl, rfl⟩ ?_
    refine w_ireturn (pc' := 8) ⟨rfl, rfl⟩ (by decide) ?_
    first | exact k1 (by unfold ztt; omega) | exact k0 (by unfold ztt; omega)
theorem c_thingRefusal {σ : zSt} {p : Nat} {t : zBk} (hF : zFx σ) (hVt : zVt t) (hPp : zR σ 0 10 = some p) (hP : zIsB p) (hPl : zPl σ p t) {s row pl kd : Int} (hs : (-2147483648 ≤ s ∧ s ≤ 2147483647)) (hr : (-2147483648 ≤ row ∧ row ≤ 2147483647)) (hpl : (-2147483648 ≤ pl ∧ pl ≤ 2147483647)) (hkd0 : (-2147483648 ≤ kd ∧ kd ≤ 2147483647)) {Q : zSt → Option Value → Prop} (k : Q σ (some (.int (iZ (ztr t s row pl kd))))) : zCa 148 [.ref 0, .int (iZ s), .int (iZ row), .int (iZ pl), .int (iZ kd)] σ Q := by
  refine w_enter (c := zk_X11_thingRefusal) (ls2 := [(0, .ref 0), (1, .int (iZ s)), (2, .int (iZ row)), (3, .int (iZ pl)), (4, .int (iZ kd))]) rfl ⟨rfl, rfl, rfl, rfl, rfl, trivial⟩ ?_
  rcases zrk_cases hVt s row with hk | ⟨u, rfl, hu, rfl, hk⟩ | ⟨u, f, rfl, rfl, hu, hf, hk⟩
  · have ht0 := hVt.1
    refine w_iload (pc' := 2) ⟨rfl, rfl⟩ rfl ?_
    refine w_if_lt (pc' := 5) (pcT := 12) ⟨rfl, rfl⟩ rfl (by omega) (fun h1 => ?_) (fun h1 => ?_)
    · refine w_bi (pc' := 14) ⟨rfl, rfl⟩ (by decide) ?_
      refine w_ireturn (pc' := 15) ⟨rfl, rfl⟩ (Or.inl rfl) ?_
      exact zQi k (by unfold ztr zlo; (try simp only [Int.toNat_natCast]); (repeat' split) <;> first | omega | exact absurd trivial (by assumption) | rfl)
    · refine w_iload (pc' := 7) ⟨rfl, rfl⟩ rfl ?_
      refine w_bi (pc' := 9) ⟨rfl, rfl⟩ (by decide) ?_
      refine w_ic_le (pc' := 12) (pcT := 15) ⟨rfl, rfl⟩ rfl (by omega) (by omega) (fun h2 => ?_) (fun h2 => ?_)
      · refine w_aload_n (pc' := 16) ⟨rfl, rfl⟩ rfl ?_
        refine w_iload_n (pc' := 17) ⟨rfl, rfl⟩ rfl ?_
        refine w_iload_n (pc' := 18) ⟨rfl, rfl⟩ rfl ?_
        refine w_cv3 (pc' := 21) ⟨rfl, rfl⟩ (by decide) (zOl hF rfl) (Nat.le_of_ble_eq_true rfl) (Nat.le_of_ble_eq_true rfl) (c_rowSort hF hVt hPp hP hPl (by omega) (by omega) ?_)
        refine w_istore (pc' := 23) ⟨rfl, rfl⟩ rfl ?_
        refine w_iload (pc' := 25) ⟨rfl, rfl⟩ rfl ?_
        refine w_ifF_ge (pc' := 28) ⟨rfl, rfl⟩ (by omega) ?_
        refine w_iload (pc' := 30) ⟨rfl, rfl⟩ rfl ?_
        refine w_ireturn (pc' := 31) ⟨rfl, rfl⟩ (Or.inl rfl) ?_
        exact zQi k (by unfold ztr zlo; (try simp only [Int.toNat_natCast]); (repeat' split) <;> first | omega | exact absurd trivial (by assumption) | rfl)
      · refine w_bi (pc' := 14) ⟨rfl, rfl⟩ (by decide) ?_
        refine w_ireturn (pc' := 15) ⟨rfl, rfl⟩ (Or.inl rfl) ?_
        exact zQi k (by unfold ztr zlo; (try simp only [Int.toNat_natCast]); (repeat' split) <;> first | omega | exact absurd trivial (by assumption) | rfl)
  · have ht0 := hVt.1
    refine w_iload (pc' := 2) ⟨rfl, rfl⟩ rfl ?_
    refine w_if_lt (pc' := 5) (pcT := 12) ⟨rfl, rfl⟩ rfl (by omega) (fun h1 => ?_) (fun h1 => ?_)
    · refine w_bi (pc' := 14) ⟨rfl, rfl⟩ (by decide) ?_
      refine w_ireturn (pc' := 15) ⟨rfl, rfl⟩ (Or.inl rfl) ?_
      exact zQi k (by unfold ztr zlo; (try simp only [Int.toNat_natCast]); (repeat' split) <;> first | omega | exact absurd trivial (by assumption) | rfl)
    · refine w_iload (pc' := 7) ⟨rfl, rfl⟩ rfl ?_
      refine w_bi (pc' := 9) ⟨rfl, rfl⟩ (by decide) ?_
      refine w_ic_le (pc' := 12) (pcT := 15) ⟨rfl, rfl⟩ rfl (by omega) (by omega) (fun h2 => ?_) (fun h2 => ?_)
      · refine w_aload_n (pc' := 16) ⟨rfl, rfl⟩ rfl ?_
        refine w_iload_n (pc' := 17) ⟨rfl, rfl⟩ rfl ?_
        refine w_iload_n (pc' := 18) ⟨rfl, rfl⟩ rfl ?_
        refine w_cv3 (pc' := 21) ⟨rfl, rfl⟩ (by decide) (zOl hF rfl) (Nat.le_of_ble_eq_true rfl) (Nat.le_of_ble_eq_true rfl) (c_rowSort hF hVt hPp hP hPl (by omega) (by omega) ?_)
        refine w_istore (pc' := 23) ⟨rfl, rfl⟩ rfl ?_
        refine w_iload (pc' := 25) ⟨rfl, rfl⟩ rfl ?_
        refine w_ifT_ge (pc' := 28) (pcT := 31) ⟨rfl, rfl⟩ rfl (by omega) ?_
        refine w_iload (pc' := 33) ⟨rfl, rfl⟩ rfl ?_
        refine w_bi (pc' := 35) ⟨rfl, rfl⟩ (by decide) ?_
        refine w_icT_gt (pc' := 38) (pcT := 48) ⟨rfl, rfl⟩ rfl (by omega) ?_
        refine w_iload_n (pc' := 49) ⟨rfl, rfl⟩ rfl ?_
        refine w_if_lt (pc' := 52) (pcT := 64) ⟨rfl, rfl⟩ rfl (by omega) (fun h3 => ?_) (fun h3 => ?_)
        · refine w_ic (pc' := 65) ⟨rfl, rfl⟩ ?_
          refine w_ireturn (pc' := 66) ⟨rfl, rfl⟩ (Or.inl rfl) ?_
          exact zQi k (by unfold ztr zlo; (try simp only [Int.toNat_natCast]); (repeat' split) <;> first | omega | exact absurd trivial (by assumption) | rfl)
        · refine w_iload_n (pc' := 53) ⟨rfl, rfl⟩ rfl ?_
          refine w_aload_n (pc' := 54) ⟨rfl, rfl⟩ rfl ?_
          refine w_iload_n (pc' := 55) ⟨rfl, rfl⟩ rfl ?_
          refine w_iload_n (pc' := 56) ⟨rfl, rfl⟩ rfl ?_
          refine w_iload (pc' := 58) ⟨rfl, rfl⟩ rfl ?_
          refine w_cv4 (pc' := 61) ⟨rfl, rfl⟩ (by decide) (zOl hF rfl) (Nat.le_of_ble_eq_true rfl) (Nat.le_of_ble_eq_true rfl) (c_placesT hF hVt hPp hP hPl (by omega) ?_)
          refine w_ic_lt (pc' := 64) (pcT := 66) ⟨rfl, rfl⟩ rfl (by omega) (by omega) (fun h4 => ?_) (fun h4 => ?_)
          · refine w_iload (pc' := 68) ⟨rfl, rfl⟩ rfl ?_
            refine w_iload (pc' := 70) ⟨rfl, rfl⟩ rfl ?_
            refine w_cs2 (pc' := 73) ⟨rfl, rfl⟩ (by decide) (Nat.le_of_ble_eq_true rfl) (Nat.le_of_ble_eq_true rfl) (c_takesThing (by omega) (by omega) (fun h => ?_) (fun h => ?_))
            · refine w_ifF_eq (pc' := 76) ⟨rfl, rfl⟩ (by decide) ?_
              refine w_ic (pc' := 77) ⟨rfl, rfl⟩ ?_
              refine w_goto (pc' := 80) (pcT := 82) ⟨rfl, rfl⟩ rfl ?_
              refine w_ireturn (pc' := 83) ⟨rfl, rfl⟩ (Or.inl rfl) ?_
              exact zQi k (by unfold ztr zlo; (try simp only [Int.toNat_natCast]); (repeat' split) <;> first | omega | exact absurd trivial (by assumption) | rfl)
            · refine w_ifT_eq (pc' := 76) (pcT := 80) ⟨rfl, rfl⟩ rfl (by decide) ?_
              refine w_bi (pc' := 82) ⟨rfl, rfl⟩ (by decide) ?_
              refine w_ireturn (pc' := 83) ⟨rfl, rfl⟩ (Or.inl rfl) ?_
              exact zQi k (by unfold ztr zlo; (try simp only [Int.toNat_natCast]); (repeat' split) <;> first | omega | exact absurd trivial (by assumption) | rfl)
          · refine w_ic (pc' := 65) ⟨rfl, rfl⟩ ?_
            refine w_ireturn (pc' := 66) ⟨rfl, rfl⟩ (Or.inl rfl) ?_
            exact zQi k (by unfold ztr zlo; (try simp only [Int.toNat_natCast]); (repeat' split) <;> first | omega | exact absurd trivial (by assumption) | rfl)
      · refine w_bi (pc' := 14) ⟨rfl, rfl⟩ (by decide) ?_
        refine w_ireturn (pc' := 15) ⟨rfl, rfl⟩ (Or.inl rfl) ?_
        exact zQi k (by unfold ztr zlo; (try simp only [Int.toNat_natCast]); (repeat' split) <;> first | omega | exact absurd trivial (by assumption) | rfl)
  · have hV := (hVt.2.2.1 u hu).1
    have hV1 := hV.1
    have ht0 := hVt.1
    have hkd := (hV.2 f hf)
    refine w_iload (pc' := 2) ⟨rfl, rfl⟩ rfl ?_
    refine w_if_lt (pc' := 5) (pcT := 12) ⟨rfl, rfl⟩ rfl (by omega) (fun h1 => ?_) (fun h1 => ?_)
    · refine w_bi (pc' := 14) ⟨rfl, rfl⟩ (by decide) ?_
      refine w_ireturn (pc' := 15) ⟨rfl, rfl⟩ (Or.inl rfl) ?_
      exact zQi k (by unfold ztr zlo; (try simp only [Int.toNat_natCast]); (repeat' split) <;> first | omega | exact absurd trivial (by assumption) | rfl)
    · refine w_iload (pc' := 7) ⟨rfl, rfl⟩ rfl ?_
      refine w_bi (pc' := 9) ⟨rfl, rfl⟩ (by decide) ?_
      refine w_ic_le (pc' := 12) (pcT := 15) ⟨rfl, rfl⟩ rfl (by omega) (by omega) (fun h2 => ?_) (fun h2 => ?_)
      · refine w_aload_n (pc' := 16) ⟨rfl, rfl⟩ rfl ?_
        refine w_iload_n (pc' := 17) ⟨rfl, rfl⟩ rfl ?_
        refine w_iload_n (pc' := 18) ⟨rfl, rfl⟩ rfl ?_
        refine w_cv3 (pc' := 21) ⟨rfl, rfl⟩ (by decide) (zOl hF rfl) (Nat.le_of_ble_eq_true rfl) (Nat.le_of_ble_eq_true rfl) (c_rowSort hF hVt hPp hP hPl (by omega) (by omega) ?_)
        refine w_istore (pc' := 23) ⟨rfl, rfl⟩ rfl ?_
        refine w_iload (pc' := 25) ⟨rfl, rfl⟩ rfl ?_
        refine w_ifT_ge (pc' := 28) (pcT := 31) ⟨rfl, rfl⟩ rfl (by omega) ?_
        refine w_iload (pc' := 33) ⟨rfl, rfl⟩ rfl ?_
        refine w_bi (pc' := 35) ⟨rfl, rfl⟩ (by decide) ?_
        refine w_ic_gt (pc' := 38) (pcT := 48) ⟨rfl, rfl⟩ rfl (by omega) (by omega) (fun h3 => ?_) (fun h3 => ?_)
        · refine w_iload_n (pc' := 49) ⟨rfl, rfl⟩ rfl ?_
          refine w_if_lt (pc' := 52) (pcT := 64) ⟨rfl, rfl⟩ rfl (by omega) (fun h4 => ?_) (fun h4 => ?_)
          · refine w_ic (pc' := 65) ⟨rfl, rfl⟩ ?_
            refine w_ireturn (pc' := 66) ⟨rfl, rfl⟩ (Or.inl rfl) ?_
            exact zQi k (by unfold ztr zlo; (try simp only [Int.toNat_natCast]); (repeat' split) <;> first | omega | exact absurd trivial (by assumption) | rfl)
          · refine w_iload_n (pc' := 53) ⟨rfl, rfl⟩ rfl ?_
            refine w_aload_n (pc' := 54) ⟨rfl, rfl⟩ rfl ?_
            refine w_iload_n (pc' := 55) ⟨rfl, rfl⟩ rfl ?_
            refine w_iload_n (pc' := 56) ⟨rfl, rfl⟩ rfl ?_
            refine w_iload (pc' := 58) ⟨rfl, rfl⟩ rfl ?_
            refine w_cv4 (pc' := 61) ⟨rfl, rfl⟩ (by decide) (zOl hF rfl) (Nat.le_of_ble_eq_true rfl) (Nat.le_of_ble_eq_true rfl) (c_placesF hF hVt hPp hP hPl hu hf (by omega) ?_)
            refine w_ic_lt (pc' := 64) (pcT := 66) ⟨rfl, rfl⟩ rfl (by omega) (by omega) (fun h5 => ?_) (fun h5 => ?_)
            · refine w_iload (pc' := 68) ⟨rfl, rfl⟩ rfl ?_
              refine w_iload (pc' := 70) ⟨rfl, rfl⟩ rfl ?_
              refine w_cs2 (pc' := 73) ⟨rfl, rfl⟩ (by decide) (Nat.le_of_ble_eq_true rfl) (Nat.le_of_ble_eq_true rfl) (c_takesThing (by omega) (by omega) (fun h => ?_) (fun h => ?_))
              · refine w_ifF_eq (pc' := 76) ⟨rfl, rfl⟩ (by decide) ?_
                refine w_ic (pc' := 77) ⟨rfl, rfl⟩ ?_
                refine w_goto (pc' := 80) (pcT := 82) ⟨rfl, rfl⟩ rfl ?_
                refine w_ireturn (pc' := 83) ⟨rfl, rfl⟩ (Or.inl rfl) ?_
                exact zQi k (by unfold ztr zlo; (try simp only [Int.toNat_natCast]); (repeat' split) <;> first | omega | exact absurd trivial (by assumption) | rfl)
              · refine w_ifT_eq (pc' := 76) (pcT := 80) ⟨rfl, rfl⟩ rfl (by decide) ?_
                refine w_bi (pc' := 82) ⟨rfl, rfl⟩ (by decide) ?_
                refine w_ireturn (pc' := 83) ⟨rfl, rfl⟩ (Or.inl rfl) ?_
                exact zQi k (by unfold ztr zlo; (try simp only [Int.toNat_natCast]); (repeat' split) <;> first | omega | exact absurd trivial (by assumption) | rfl)
            · refine w_ic (pc' := 65) ⟨rfl, rfl⟩ ?_
              refine w_ireturn (pc' := 66) ⟨rfl, rfl⟩ (Or.inl rfl) ?_
              exact zQi k (by unfold ztr zlo; (try simp only [Int.toNat_natCast]); (repeat' split) <;> first | omega | exact absurd trivial (by assumption) | rfl)
        · refine w_iload (pc' := 40) ⟨rfl, rfl⟩ rfl ?_
          refine w_bi (pc' := 42) ⟨rfl, rfl⟩ (by decide) ?_
          refine w_ic_ne (pc' := 45) (pcT := 48) ⟨rfl, rfl⟩ rfl (by omega) (by omega) (fun h4 => ?_) (fun h4 => ?_)
          · refine w_iload_n (pc' := 49) ⟨rfl, rfl⟩ rfl ?_
            refine w_if_lt (pc' := 52) (pcT := 64) ⟨rfl, rfl⟩ rfl (by omega) (fun h5 => ?_) (fun h5 => ?_)
            · refine w_ic (pc' := 65) ⟨rfl, rfl⟩ ?_
              refine w_ireturn (pc' := 66) ⟨rfl, rfl⟩ (Or.inl rfl) ?_
              exact zQi k (by unfold ztr zlo; (try simp only [Int.toNat_natCast]); (repeat' split) <;> first | omega | exact absurd trivial (by assumption) | rfl)
            · refine w_iload_n (pc' := 53) ⟨rfl, rfl⟩ rfl ?_
              refine w_aload_n (pc' := 54) ⟨rfl, rfl⟩ rfl ?_
              refine w_iload_n (pc' := 55) ⟨rfl, rfl⟩ rfl ?_
              refine w_iload_n (pc' := 56) ⟨rfl, rfl⟩ rfl ?_
              refine w_iload (pc' := 58) ⟨rfl, rfl⟩ rfl ?_
              refine w_cv4 (pc' := 61) ⟨rfl, rfl⟩ (by decide) (zOl hF rfl) (Nat.le_of_ble_eq_true rfl) (Nat.le_of_ble_eq_true rfl) (c_placesF hF hVt hPp hP hPl hu hf (by omega) ?_)
              refine w_ic_lt (pc' := 64) (pcT := 66) ⟨rfl, rfl⟩ rfl (by omega) (by omega) (fun h6 => ?_) (fun h6 => ?_)
              · refine w_iload (pc' := 68) ⟨rfl, rfl⟩ rfl ?_
                refine w_iload (pc' := 70) ⟨rfl, rfl⟩ rfl ?_
                refine w_cs2 (pc' := 73) ⟨rfl, rfl⟩ (by decide) (Nat.le_of_ble_eq_true rfl) (Nat.le_of_ble_eq_true rfl) (c_takesThing (by omega) (by omega) (fun h => ?_) (fun h => ?_))
                · refine w_ifF_eq (pc' := 76) ⟨rfl, rfl⟩ (by decide) ?_
                  refine w_ic (pc' := 77) ⟨rfl, rfl⟩ ?_
                  refine w_goto (pc' := 80) (pcT := 82) ⟨rfl, rfl⟩ rfl ?_
                  refine w_ireturn (pc' := 83) ⟨rfl, rfl⟩ (Or.inl rfl) ?_
                  exact zQi k (by unfold ztr zlo; (try simp only [Int.toNat_natCast]); (repeat' split) <;> first | omega | exact absurd trivial (by assumption) | rfl)
                · refine w_ifT_eq (pc' := 76) (pcT := 80) ⟨rfl, rfl⟩ rfl (by decide) ?_
                  refine w_bi (pc' := 82) ⟨rfl, rfl⟩ (by decide) ?_
                  refine w_ireturn (pc' := 83) ⟨rfl, rfl⟩ (Or.inl rfl) ?_
                  exact zQi k (by unfold ztr zlo; (try simp only [Int.toNat_natCast]); (repeat' split) <;> first | omega | exact absurd trivial (by assumption) | rfl)
              · refine w_ic (pc' := 65) ⟨rfl, rfl⟩ ?_
                refine w_ireturn (pc' := 66) ⟨rfl, rfl⟩ (Or.inl rfl) ?_
                exact zQi k (by unfold ztr zlo; (try simp only [Int.toNat_natCast]); (repeat' split) <;> first | omega | exact absurd trivial (by assumption) | rfl)
          · refine w_bi (pc' := 47) ⟨rfl, rfl⟩ (by decide) ?_
            refine w_ireturn (pc' := 48) ⟨rfl, rfl⟩ (Or.inl rfl) ?_
            exact zQi k (by unfold ztr zlo; (try simp only [Int.toNat_natCast]); (repeat' split) <;> first | omega | exact absurd trivial (by assumption) | rfl)
      · refine w_bi (pc' := 14) ⟨rfl, rfl⟩ (by decide) ?_
        refine w_ireturn (pc' := 15) ⟨rfl, rfl⟩ (Or.inl rfl) ?_
        exact zQi k (by unfold ztr zlo; (try simp only [Int.toNat_natCast]); (repeat' split) <;> first | omega | exact absurd trivial (by assumption) | rfl)
theorem r_reasonR {σ : zSt} {t : zBk} (hF : zFx σ) (hVt : zVt t) (hT : zTr σ t) (hW : zWid σ) {s row pl kd : Int} (hs : (-2147483648 ≤ s ∧ s ≤ 2147483647)) (hr : (-2147483648 ≤ row ∧ row ≤ 2147483647)) (hpl : (-2147483648 ≤ pl ∧ pl ≤ 2147483647)) (hkd0 : (-2147483648 ≤ kd ∧ kd ≤ 2147483647)) {Q : zSt → Option Value → Prop} (k : Q σ (some (.int (iZ (zrr t s row pl kd))))) : zCa 257 [.ref 164, .int (iZ s), .int (iZ row), .int (iZ pl), .int (iZ kd), .int (iZ 1)] σ Q := by
  refine w_enter (c := zk_X12_reasonOf) (ls2 := [(0, .ref 164), (1, .int (iZ s)), (2, .int (iZ row)), (3, .int (iZ pl)), (4, .int (iZ kd)), (5, .int (iZ 1))]) rfl ⟨rfl, rfl, rfl, rfl, rfl, rfl, trivial⟩ ?_
  rcases zrk_cases hVt s row with hk | ⟨u, rfl, hu, rfl, hk⟩ | ⟨u, f, rfl, rfl, hu, hf, hk⟩
  · have ht0 := hVt.1
    refine w_aload_n (pc' := 1) ⟨rfl, rfl⟩ rfl ?_
    refine w_iload_n (pc' := 2) ⟨rfl, rfl⟩ rfl ?_
    refine w_iload_n (pc' := 3) ⟨rfl, rfl⟩ rfl ?_
    refine w_cv3 (pc' := 6) ⟨rfl, rfl⟩ (by decide) (zOl hF rfl) (Nat.le_of_ble_eq_true rfl) (Nat.le_of_ble_eq_true rfl) (r_rowKind hF hVt hT (by omega) (by omega) ?_)
    refine w_istore (pc' := 8) ⟨rfl, rfl⟩ rfl ?_
    refine w_iload (pc' := 10) ⟨rfl, rfl⟩ rfl ?_
    refine w_bi (pc' := 12) ⟨rfl, rfl⟩ (by decide) ?_
    refine w_ic_eq (pc' := 15) (pcT := 28) ⟨rfl, rfl⟩ rfl (by omega) (by omega) (fun h1 => ?_) (fun h1 => ?_)
    · refine w_bi (pc' := 30) ⟨rfl, rfl⟩ (by decide) ?_
      refine w_ireturn (pc' := 31) ⟨rfl, rfl⟩ (Or.inl rfl) ?_
      exact zQi k (by unfold zrr; unfold zkr zlo; (try simp only [Int.toNat_natCast]); (repeat' split) <;> first | omega | exact absurd trivial (by assumption) | rfl)
    · refine w_iload (pc' := 17) ⟨rfl, rfl⟩ rfl ?_
      refine w_i2lZ (pc' := 18) ⟨rfl, rfl⟩ (by omega) ?_
      refine w_lc (pc' := 19) (z := 0) ⟨rfl, rfl⟩ rfl ?_
      refine w_ldc2Y (pc' := 22) (z := 7) ⟨rfl, rfl⟩ rfl ?_
      refine w_cs3 (pc' := 25) ⟨rfl, rfl⟩ (by decide) (Nat.le_of_ble_eq_true rfl) (Nat.le_of_ble_eq_true rfl) (r_isIn (by omega) (by omega) (by omega) (fun h => ?_) (fun h => ?_))
      · refine w_ifT_ne (pc' := 28) (pcT := 31) ⟨rfl, rfl⟩ rfl (by decide) ?_
        refine w_iload (pc' := 33) ⟨rfl, rfl⟩ rfl ?_
        refine w_ifF_ge (pc' := 36) ⟨rfl, rfl⟩ (by omega) ?_
        refine w_iload (pc' := 38) ⟨rfl, rfl⟩ rfl ?_
        refine w_ireturn (pc' := 39) ⟨rfl, rfl⟩ (Or.inl rfl) ?_
        exact zQi k (by unfold zrr; unfold zkr zlo; (try simp only [Int.toNat_natCast]); (repeat' split) <;> first | omega | exact absurd trivial (by assumption) | rfl)
      · refine w_ifF_ne (pc' := 28) ⟨rfl, rfl⟩ (by decide) ?_
        refine w_bi (pc' := 30) ⟨rfl, rfl⟩ (by decide) ?_
        refine w_ireturn (pc' := 31) ⟨rfl, rfl⟩ (Or.inl rfl) ?_
        exact zQi k (by unfold zrr; unfold zkr zlo; (try simp only [Int.toNat_natCast]); (repeat' split) <;> first | omega | exact absurd trivial (by assumption) | rfl)
  · have ht0 := hVt.1
    refine w_aload_n (pc' := 1) ⟨rfl, rfl⟩ rfl ?_
    refine w_iload_n (pc' := 2) ⟨rfl, rfl⟩ rfl ?_
    refine w_iload_n (pc' := 3) ⟨rfl, rfl⟩ rfl ?_
    refine w_cv3 (pc' := 6) ⟨rfl, rfl⟩ (by decide) (zOl hF rfl) (Nat.le_of_ble_eq_true rfl) (Nat.le_of_ble_eq_true rfl) (r_rowKind hF hVt hT (by omega) (by omega) ?_)
    refine w_istore (pc' := 8) ⟨rfl, rfl⟩ rfl ?_
    refine w_iload (pc' := 10) ⟨rfl, rfl⟩ rfl ?_
    refine w_bi (pc' := 12) ⟨rfl, rfl⟩ (by decide) ?_
    refine w_icF_eq (pc' := 15) ⟨rfl, rfl⟩ (by omega) ?_
    refine w_iload (pc' := 17) ⟨rfl, rfl⟩ rfl ?_
    refine w_i2lZ (pc' := 18) ⟨rfl, rfl⟩ (by omega) ?_
    refine w_lc (pc' := 19) (z := 0) ⟨rfl, rfl⟩ rfl ?_
    refine w_ldc2Y (pc' := 22) (z := 7) ⟨rfl, rfl⟩ rfl ?_
    refine w_cs3 (pc' := 25) ⟨rfl, rfl⟩ (by decide) (Nat.le_of_ble_eq_true rfl) (Nat.le_of_ble_eq_true rfl) (r_isIn (by omega) (by omega) (by omega) (fun h => ?_) (fun h => ?_))
    · refine w_ifT_ne (pc' := 28) (pcT := 31) ⟨rfl, rfl⟩ rfl (by decide) ?_
      refine w_iload (pc' := 33) ⟨rfl, rfl⟩ rfl ?_
      refine w_ifT_ge (pc' := 36) (pcT := 39) ⟨rfl, rfl⟩ rfl (by omega) ?_
      refine w_iload (pc' := 41) ⟨rfl, rfl⟩ rfl ?_
      refine w_bi (pc' := 43) ⟨rfl, rfl⟩ (by decide) ?_
      refine w_icF_lt (pc' := 46) ⟨rfl, rfl⟩ (by omega) ?_
      refine w_bi (pc' := 48) ⟨rfl, rfl⟩ (by decide) ?_
      refine w_ireturn (pc' := 49) ⟨rfl, rfl⟩ (Or.inl rfl) ?_
      exact zQi k (by unfold zrr; unfold zkr zlo; (try simp only [Int.toNat_natCast]); (repeat' split) <;> first | omega | exact absurd trivial (by assumption) | rfl)
    · refine w_ifF_ne (pc' := 28) ⟨rfl, rfl⟩ (by decide) ?_
      refine w_bi (pc' := 30) ⟨rfl, rfl⟩ (by decide) ?_
      refine w_ireturn (pc' := 31) ⟨rfl, rfl⟩ (Or.inl rfl) ?_
      exact zQi k (by unfold zrr; unfold zkr zlo; (try simp only [Int.toNat_natCast]); (repeat' split) <;> first | omega | exact absurd trivial (by assumption) | rfl)
  · have hV := (hVt.2.2.1 u hu).1
    have hV1 := hV.1
    have ht0 := hVt.1
    have hkd := (hV.2 f hf)
    refine w_aload_n (pc' := 1) ⟨rfl, rfl⟩ rfl ?_
    refine w_iload_n (pc' := 2) ⟨rfl, rfl⟩ rfl ?_
    refine w_iload_n (pc' := 3) ⟨rfl, rfl⟩ rfl ?_
    refine w_cv3 (pc' := 6) ⟨rfl, rfl⟩ (by decide) (zOl hF rfl) (Nat.le_of_ble_eq_true rfl) (Nat.le_of_ble_eq_true rfl) (r_rowKind hF hVt hT (by omega) (by omega) ?_)
    refine w_istore (pc' := 8) ⟨rfl, rfl⟩ rfl ?_
    refine w_iload (pc' := 10) ⟨rfl, rfl⟩ rfl ?_
    refine w_bi (pc' := 12) ⟨rfl, rfl⟩ (by decide) ?_
    refine w_icF_eq (pc' := 15) ⟨rfl, rfl⟩ (by omega) ?_
    refine w_iload (pc' := 17) ⟨rfl, rfl⟩ rfl ?_
    refine w_i2lZ (pc' := 18) ⟨rfl, rfl⟩ (by omega) ?_
    refine w_lc (pc' := 19) (z := 0) ⟨rfl, rfl⟩ rfl ?_
    refine w_ldc2Y (pc' := 22) (z := 7) ⟨rfl, rfl⟩ rfl ?_
    refine w_cs3 (pc' := 25) ⟨rfl, rfl⟩ (by decide) (Nat.le_of_ble_eq_true rfl) (Nat.le_of_ble_eq_true rfl) (r_isIn (by omega) (by omega) (by omega) (fun h => ?_) (fun h => ?_))
    · refine w_ifT_ne (pc' := 28) (pcT := 31) ⟨rfl, rfl⟩ rfl (by decide) ?_
      refine w_iload (pc' := 33) ⟨rfl, rfl⟩ rfl ?_
      refine w_ifT_ge (pc' := 36) (pcT := 39) ⟨rfl, rfl⟩ rfl (by omega) ?_
      refine w_iload (pc' := 41) ⟨rfl, rfl⟩ rfl ?_
      refine w_bi (pc' := 43) ⟨rfl, rfl⟩ (by decide) ?_
      refine w_ic_lt (pc' := 46) (pcT := 49) ⟨rfl, rfl⟩ rfl (by omega) (by omega) (fun h1 => ?_) (fun h1 => ?_)
      · refine w_iload_n (pc' := 50) ⟨rfl, rfl⟩ rfl ?_
        refine w_i2lZ (pc' := 51) ⟨rfl, rfl⟩ (by omega) ?_
        refine w_lc (pc' := 52) (z := 0) ⟨rfl, rfl⟩ rfl ?_
        refine w_aload_n (pc' := 53) ⟨rfl, rfl⟩ rfl ?_
        refine w_iload_n (pc' := 54) ⟨rfl, rfl⟩ rfl ?_
        refine w_iload_n (pc' := 55) ⟨rfl, rfl⟩ rfl ?_
        refine w_cv3 (pc' := 58) ⟨rfl, rfl⟩ (by decide) (zOl hF rfl) (Nat.le_of_ble_eq_true rfl) (Nat.le_of_ble_eq_true rfl) (r_longOfF hF hVt hT hu hf ?_)
        refine w_ic (pc' := 59) ⟨rfl, rfl⟩ ?_
        refine w_isubZ (pc' := 60) ⟨rfl, rfl⟩ ?_
        refine w_i2lZ (pc' := 61) ⟨rfl, rfl⟩ (by omega) ?_
        refine w_cs3 (pc' := 64) ⟨rfl, rfl⟩ (by decide) (Nat.le_of_ble_eq_true rfl) (Nat.le_of_ble_eq_true rfl) (r_isIn (by omega) (by omega) (by omega) (fun h => ?_) (fun h => ?_))
        · refine w_ifT_ne (pc' := 67) (pcT := 69) ⟨rfl, rfl⟩ rfl (by decide) ?_
          refine w_iload (pc' := 71) ⟨rfl, rfl⟩ rfl ?_
          refine w_ifF_eq (pc' := 74) ⟨rfl, rfl⟩ (by decide) ?_
          refine w_aload_n (pc' := 75) ⟨rfl, rfl⟩ rfl ?_
          refine w_iload (pc' := 77) ⟨rfl, rfl⟩ rfl ?_
          refine w_iload (pc' := 79) ⟨rfl, rfl⟩ rfl ?_
          refine w_cv3 (pc' := 82) ⟨rfl, rfl⟩ (by decide) (zOl hF rfl) (Nat.le_of_ble_eq_true rfl) (Nat.le_of_ble_eq_true rfl) (r_doesWidenZ hF hW (by omega) (by omega) (fun h => ?_) (fun h => ?_))
          · refine w_ifF_eq (pc' := 85) ⟨rfl, rfl⟩ (by decide) ?_
            refine w_goto (pc' := 88) (pcT := 99) ⟨rfl, rfl⟩ rfl ?_
            refine w_ic (pc' := 100) ⟨rfl, rfl⟩ ?_
            refine w_goto (pc' := 103) (pcT := 105) ⟨rfl, rfl⟩ rfl ?_
            refine w_ireturn (pc' := 106) ⟨rfl, rfl⟩ (Or.inl rfl) ?_
            exact zQi k (by unfold zrr; unfold zkr zlo; (try simp only [Int.toNat_natCast]); (repeat' split) <;> first | omega | exact absurd trivial (by assumption) | rfl)
          · refine w_ifT_eq (pc' := 85) (pcT := 103) ⟨rfl, rfl⟩ rfl (by decide) ?_
            refine w_bi (pc' := 105) ⟨rfl, rfl⟩ (by decide) ?_
            refine w_ireturn (pc' := 106) ⟨rfl, rfl⟩ (Or.inl rfl) ?_
            exact zQi k (by unfold zrr; unfold zkr zlo; (try simp only [Int.toNat_natCast]); (repeat' split) <;> first | omega | exact absurd trivial (by assumption) | rfl)
        · refine w_ifF_ne (pc' := 67) ⟨rfl, rfl⟩ (by decide) ?_
          refine w_ic (pc' := 68) ⟨rfl, rfl⟩ ?_
          refine w_ireturn (pc' := 69) ⟨rfl, rfl⟩ (Or.inl rfl) ?_
          exact zQi k (by unfold zrr; unfold zkr zlo; (try simp only [Int.toNat_natCast]); (repeat' split) <;> first | omega | exact absurd trivial (by assumption) | rfl)
      · refine w_bi (pc' := 48) ⟨rfl, rfl⟩ (by decide) ?_
        refine w_ireturn (pc' := 49) ⟨rfl, rfl⟩ (Or.inl rfl) ?_
        exact zQi k (by unfold zrr; unfold zkr zlo; (try simp only [Int.toNat_natCast]); (repeat' split) <;> first | omega | exact absurd trivial (by assumption) | rfl)
    · refine w_ifF_ne (pc' := 28) ⟨rfl, rfl⟩ (by decide) ?_
      refine w_bi (pc' := 30) ⟨rfl, rfl⟩ (by decide) ?_
      refine w_ireturn (pc' := 31) ⟨rfl, rfl⟩ (Or.inl rfl) ?_
      exact zQi k (by unfold zrr; unfold zkr zlo; (try simp only [Int.toNat_natCast]); (repeat' split) <;> first | omega | exact absurd trivial (by assumption) | rfl)
theorem r_reasonW {σ : zSt} {t : zBk} (hF : zFx σ) (hVt : zVt t) (hT : zTr σ t) (hW : zWid σ) {s row pl kd : Int} (hs : (-2147483648 ≤ s ∧ s ≤ 2147483647)) (hr : (-2147483648 ≤ row ∧ row ≤ 2147483647)) (hpl : (-2147483648 ≤ pl ∧ pl ≤ 2147483647)) (hkd0 : (-2147483648 ≤ kd ∧ kd ≤ 2147483647)) {Q : zSt → Option Value → Prop} (k : Q σ (some (.int (iZ (zwr t s row pl kd))))) : zCa 257 [.ref 164, .int (iZ s), .int (iZ row), .int (iZ pl), .int (iZ kd), .int (iZ 0)] σ Q := by
  refine w_enter (c := zk_X12_reasonOf) (ls2 := [(0, .ref 164), (1, .int (iZ s)), (2, .int (iZ row)), (3, .int (iZ pl)), (4, .int (iZ kd)), (5, .int (iZ 0))]) rfl ⟨rfl, rfl, rfl, rfl, rfl, rfl, trivial⟩ ?_
  rcases zrk_cases hVt s row with hk | ⟨u, rfl, hu, rfl, hk⟩ | ⟨u, f, rfl, rfl, hu, hf, hk⟩
  · have ht0 := hVt.1
    refine w_aload_n (pc' := 1) ⟨rfl, rfl⟩ rfl ?_
    refine w_iload_n (pc' := 2) ⟨rfl, rfl⟩ rfl ?_
    refine w_iload_n (pc' := 3) ⟨rfl, rfl⟩ rfl ?_
    refine w_cv3 (pc' := 6) ⟨rfl, rfl⟩ (by decide) (zOl hF rfl) (Nat.le_of_ble_eq_true rfl) (Nat.le_of_ble_eq_true rfl) (r_rowKind hF hVt hT (by omega) (by omega) ?_)
    refine w_istore (pc' := 8) ⟨rfl, rfl⟩ rfl ?_
    refine w_iload (pc' := 10) ⟨rfl, rfl⟩ rfl ?_
    refine w_bi (pc' := 12) ⟨rfl, rfl⟩ (by decide) ?_
    refine w_ic_eq (pc' := 15) (pcT := 28) ⟨rfl, rfl⟩ rfl (by omega) (by omega) (fun h1 => ?_) (fun h1 => ?_)
    · refine w_bi (pc' := 30) ⟨rfl, rfl⟩ (by decide) ?_
      refine w_ireturn (pc' := 31) ⟨rfl, rfl⟩ (Or.inl rfl) ?_
      exact zQi k (by unfold zwr; unfold zkr zlo; (try simp only [Int.toNat_natCast]); (repeat' split) <;> first | omega | exact absurd trivial (by assumption) | rfl)
    · refine w_iload (pc' := 17) ⟨rfl, rfl⟩ rfl ?_
      refine w_i2lZ (pc' := 18) ⟨rfl, rfl⟩ (by omega) ?_
      refine w_lc (pc' := 19) (z := 0) ⟨rfl, rfl⟩ rfl ?_
      refine w_ldc2Y (pc' := 22) (z := 7) ⟨rfl, rfl⟩ rfl ?_
      refine w_cs3 (pc' := 25) ⟨rfl, rfl⟩ (by decide) (Nat.le_of_ble_eq_true rfl) (Nat.le_of_ble_eq_true rfl) (r_isIn (by omega) (by omega) (by omega) (fun h => ?_) (fun h => ?_))
      · refine w_ifT_ne (pc' := 28) (pcT := 31) ⟨rfl, rfl⟩ rfl (by decide) ?_
        refine w_iload (pc' := 33) ⟨rfl, rfl⟩ rfl ?_
        refine w_ifF_ge (pc' := 36) ⟨rfl, rfl⟩ (by omega) ?_
        refine w_iload (pc' := 38) ⟨rfl, rfl⟩ rfl ?_
        refine w_ireturn (pc' := 39) ⟨rfl, rfl⟩ (Or.inl rfl) ?_
        exact zQi k (by unfold zwr; unfold zkr zlo; (try simp only [Int.toNat_natCast]); (repeat' split) <;> first | omega | exact absurd trivial (by assumption) | rfl)
      · refine w_ifF_ne (pc' := 28) ⟨rfl, rfl⟩ (by decide) ?_
        refine w_bi (pc' := 30) ⟨rfl, rfl⟩ (by decide) ?_
        refine w_ireturn (pc' := 31) ⟨rfl, rfl⟩ (Or.inl rfl) ?_
        exact zQi k (by unfold zwr; unfold zkr zlo; (try simp only [Int.toNat_natCast]); (repeat' split) <;> first | omega | exact absurd trivial (by assumption) | rfl)
  · have ht0 := hVt.1
    refine w_aload_n (pc' := 1) ⟨rfl, rfl⟩ rfl ?_
    refine w_iload_n (pc' := 2) ⟨rfl, rfl⟩ rfl ?_
    refine w_iload_n (pc' := 3) ⟨rfl, rfl⟩ rfl ?_
    refine w_cv3 (pc' := 6) ⟨rfl, rfl⟩ (by decide) (zOl hF rfl) (Nat.le_of_ble_eq_true rfl) (Nat.le_of_ble_eq_true rfl) (r_rowKind hF hVt hT (by omega) (by omega) ?_)
    refine w_istore (pc' := 8) ⟨rfl, rfl⟩ rfl ?_
    refine w_iload (pc' := 10) ⟨rfl, rfl⟩ rfl ?_
    refine w_bi (pc' := 12) ⟨rfl, rfl⟩ (by decide) ?_
    refine w_icF_eq (pc' := 15) ⟨rfl, rfl⟩ (by omega) ?_
    refine w_iload (pc' := 17) ⟨rfl, rfl⟩ rfl ?_
    refine w_i2lZ (pc' := 18) ⟨rfl, rfl⟩ (by omega) ?_
    refine w_lc (pc' := 19) (z := 0) ⟨rfl, rfl⟩ rfl ?_
    refine w_ldc2Y (pc' := 22) (z := 7) ⟨rfl, rfl⟩ rfl ?_
    refine w_cs3 (pc' := 25) ⟨rfl, rfl⟩ (by decide) (Nat.le_of_ble_eq_true rfl) (Nat.le_of_ble_eq_true rfl) (r_isIn (by omega) (by omega) (by omega) (fun h => ?_) (fun h => ?_))
    · refine w_ifT_ne (pc' := 28) (pcT := 31) ⟨rfl, rfl⟩ rfl (by decide) ?_
      refine w_iload (pc' := 33) ⟨rfl, rfl⟩ rfl ?_
      refine w_ifT_ge (pc' := 36) (pcT := 39) ⟨rfl, rfl⟩ rfl (by omega) ?_
      refine w_iload (pc' := 41) ⟨rfl, rfl⟩ rfl ?_
      refine w_bi (pc' := 43) ⟨rfl, rfl⟩ (by decide) ?_
      refine w_icF_lt (pc' := 46) ⟨rfl, rfl⟩ (by omega) ?_
      refine w_bi (pc' := 48) ⟨rfl, rfl⟩ (by decide) ?_
      refine w_ireturn (pc' := 49) ⟨rfl, rfl⟩ (Or.inl rfl) ?_
      exact zQi k (by unfold zwr; unfold zkr zlo; (try simp only [Int.toNat_natCast]); (repeat' split) <;> first | omega | exact absurd trivial (by assumption) | rfl)
    · refine w_ifF_ne (pc' := 28) ⟨rfl, rfl⟩ (by decide) ?_
      refine w_bi (pc' := 30) ⟨rfl, rfl⟩ (by decide) ?_
      refine w_ireturn (pc' := 31) ⟨rfl, rfl⟩ (Or.inl rfl) ?_
      exact zQi k (by unfold zwr; unfold zkr zlo; (try simp only [Int.toNat_natCast]); (repeat' split) <;> first | omega | exact absurd trivial (by assumption) | rfl)
  · have hV := (hVt.2.2.1 u hu).1
    have hV1 := hV.1
    have ht0 := hVt.1
    have hkd := (hV.2 f hf)
    refine w_aload_n (pc' := 1) ⟨rfl, rfl⟩ rfl ?_
    refine w_iload_n (pc' := 2) ⟨rfl, rfl⟩ rfl ?_
    refine w_iload_n (pc' := 3) ⟨rfl, rfl⟩ rfl ?_
    refine w_cv3 (pc' := 6) ⟨rfl, rfl⟩ (by decide) (zOl hF rfl) (Nat.le_of_ble_eq_true rfl) (Nat.le_of_ble_eq_true rfl) (r_rowKind hF hVt hT (by omega) (by omega) ?_)
    refine w_istore (pc' := 8) ⟨rfl, rfl⟩ rfl ?_
    refine w_iload (pc' := 10) ⟨rfl, rfl⟩ rfl ?_
    refine w_bi (pc' := 12) ⟨rfl, rfl⟩ (by decide) ?_
    refine w_icF_eq (pc' := 15) ⟨rfl, rfl⟩ (by omega) ?_
    refine w_iload (pc' := 17) ⟨rfl, rfl⟩ rfl ?_
    refine w_i2lZ (pc' := 18) ⟨rfl, rfl⟩ (by omega) ?_
    refine w_lc (pc' := 19) (z := 0) ⟨rfl, rfl⟩ rfl ?_
    refine w_ldc2Y (pc' := 22) (z := 7) ⟨rfl, rfl⟩ rfl ?_
    refine w_cs3 (pc' := 25) ⟨rfl, rfl⟩ (by decide) (Nat.le_of_ble_eq_true rfl) (Nat.le_of_ble_eq_true rfl) (r_isIn (by omega) (by omega) (by omega) (fun h => ?_) (fun h => ?_))
    · refine w_ifT_ne (pc' := 28) (pcT := 31) ⟨rfl, rfl⟩ rfl (by decide) ?_
      refine w_iload (pc' := 33) ⟨rfl, rfl⟩ rfl ?_
      refine w_ifT_ge (pc' := 36) (pcT := 39) ⟨rfl, rfl⟩ rfl (by omega) ?_
      refine w_iload (pc' := 41) ⟨rfl, rfl⟩ rfl ?_
      refine w_bi (pc' := 43) ⟨rfl, rfl⟩ (by decide) ?_
      refine w_ic_lt (pc' := 46) (pcT := 49) ⟨rfl, rfl⟩ rfl (by omega) (by omega) (fun h1 => ?_) (fun h1 => ?_)
      · refine w_iload_n (pc' := 50) ⟨rfl, rfl⟩ rfl ?_
        refine w_i2lZ (pc' := 51) ⟨rfl, rfl⟩ (by omega) ?_
        refine w_lc (pc' := 52) (z := 0) ⟨rfl, rfl⟩ rfl ?_
        refine w_aload_n (pc' := 53) ⟨rfl, rfl⟩ rfl ?_
        refine w_iload_n (pc' := 54) ⟨rfl, rfl⟩ rfl ?_
        refine w_iload_n (pc' := 55) ⟨rfl, rfl⟩ rfl ?_
        refine w_cv3 (pc' := 58) ⟨rfl, rfl⟩ (by decide) (zOl hF rfl) (Nat.le_of_ble_eq_true rfl) (Nat.le_of_ble_eq_true rfl) (r_longOfF hF hVt hT hu hf ?_)
        refine w_ic (pc' := 59) ⟨rfl, rfl⟩ ?_
        refine w_isubZ (pc' := 60) ⟨rfl, rfl⟩ ?_
        refine w_i2lZ (pc' := 61) ⟨rfl, rfl⟩ (by omega) ?_
        refine w_cs3 (pc' := 64) ⟨rfl, rfl⟩ (by decide) (Nat.le_of_ble_eq_true rfl) (Nat.le_of_ble_eq_true rfl) (r_isIn (by omega) (by omega) (by omega) (fun h => ?_) (fun h => ?_))
        · refine w_ifT_ne (pc' := 67) (pcT := 69) ⟨rfl, rfl⟩ rfl (by decide) ?_
          refine w_iload (pc' := 71) ⟨rfl, rfl⟩ rfl ?_
          refine w_ifT_eq (pc' := 74) (pcT := 88) ⟨rfl, rfl⟩ rfl (by decide) ?_
          refine w_aload_n (pc' := 89) ⟨rfl, rfl⟩ rfl ?_
          refine w_iload (pc' := 91) ⟨rfl, rfl⟩ rfl ?_
          refine w_iload (pc' := 93) ⟨rfl, rfl⟩ rfl ?_
          refine w_cv3 (pc' := 96) ⟨rfl, rfl⟩ (by decide) (zOl hF rfl) (Nat.le_of_ble_eq_true rfl) (Nat.le_of_ble_eq_true rfl) (r_doesWidenZ hF hW (by omega) (by omega) (fun h => ?_) (fun h => ?_))
          · refine w_ifF_eq (pc' := 99) ⟨rfl, rfl⟩ (by decide) ?_
            refine w_ic (pc' := 100) ⟨rfl, rfl⟩ ?_
            refine w_goto (pc' := 103) (pcT := 105) ⟨rfl, rfl⟩ rfl ?_
            refine w_ireturn (pc' := 106) ⟨rfl, rfl⟩ (Or.inl rfl) ?_
            exact zQi k (by unfold zwr; unfold zkr zlo; (try simp only [Int.toNat_natCast]); (repeat' split) <;> first | omega | exact absurd trivial (by assumption) | rfl)
          · refine w_ifT_eq (pc' := 99) (pcT := 103) ⟨rfl, rfl⟩ rfl (by decide) ?_
            refine w_bi (pc' := 105) ⟨rfl, rfl⟩ (by decide) ?_
            refine w_ireturn (pc' := 106) ⟨rfl, rfl⟩ (Or.inl rfl) ?_
            exact zQi k (by unfold zwr; unfold zkr zlo; (try simp only [Int.toNat_natCast]); (repeat' split) <;> first | omega | exact absurd trivial (by assumption) | rfl)
        · refine w_ifF_ne (pc' := 67) ⟨rfl, rfl⟩ (by decide) ?_
          refine w_ic (pc' := 68) ⟨rfl, rfl⟩ ?_
          refine w_ireturn (pc' := 69) ⟨rfl, rfl⟩ (Or.inl rfl) ?_
          exact zQi k (by unfold zwr; unfold zkr zlo; (try simp only [Int.toNat_natCast]); (repeat' split) <;> first | omega | exact absurd trivial (by assumption) | rfl)
      · refine w_bi (pc' := 48) ⟨rfl, rfl⟩ (by decide) ?_
        refine w_ireturn (pc' := 49) ⟨rfl, rfl⟩ (Or.inl rfl) ?_
        exact zQi k (by unfold zwr; unfold zkr zlo; (try simp only [Int.toNat_natCast]); (repeat' split) <;> first | omega | exact absurd trivial (by assumption) | rfl)
    · refine w_ifF_ne (pc' := 28) ⟨rfl, rfl⟩ (by decide) ?_
      refine w_bi (pc' := 30) ⟨rfl, rfl⟩ (by decide) ?_
      refine w_ireturn (pc' := 31) ⟨rfl, rfl⟩ (Or.inl rfl) ?_
      exact zQi k (by unfold zwr; unfold zkr zlo; (try simp only [Int.toNat_natCast]); (repeat' split) <;> first | omega | exact absurd trivial (by assumption) | rfl)
theorem r_reasonPut {σ : zSt} {t : zBk} (hF : zFx σ) (hVt : zVt t) (hT : zTr σ t) (hW : zWid σ) {s row pl kd : Int} (hs : (-2147483648 ≤ s ∧ s ≤ 2147483647)) (hr : (-2147483648 ≤ row ∧ row ≤ 2147483647)) (hpl : (-2147483648 ≤ pl ∧ pl ≤ 2147483647)) (hkd0 : (-2147483648 ≤ kd ∧ kd ≤ 2147483647)) {Q : zSt → Option Value → Prop} (k : Q σ (some (.int (iZ (ztr t s row pl kd))))) : zCa 261 [.ref 164, .int (iZ s), .int (iZ row), .int (iZ pl), .int (iZ kd)] σ Q := by
  refine w_enter (c := zk_X12_reasonPut) (ls2 := [(0, .ref 164), (1, .int (iZ s)), (2, .int (iZ row)), (3, .int (iZ pl)), (4, .int (iZ kd))]) rfl ⟨rfl, rfl, rfl, rfl, rfl, trivial⟩ ?_
  rcases zrk_cases hVt s row with hk | ⟨u, rfl, hu, rfl, hk⟩ | ⟨u, f, rfl, rfl, hu, hf, hk⟩
  · have ht0 := hVt.1
    refine w_aload_n (pc' := 1) ⟨rfl, rfl⟩ rfl ?_
    refine w_iload_n (pc' := 2) ⟨rfl, rfl⟩ rfl ?_
    refine w_iload_n (pc' := 3) ⟨rfl, rfl⟩ rfl ?_
    refine w_cv3 (pc' := 6) ⟨rfl, rfl⟩ (by decide) (zOl hF rfl) (Nat.le_of_ble_eq_true rfl) (Nat.le_of_ble_eq_true rfl) (r_rowKind hF hVt hT (by omega) (by omega) ?_)
    refine w_istore (pc' := 8) ⟨rfl, rfl⟩ rfl ?_
    refine w_iload (pc' := 10) ⟨rfl, rfl⟩ rfl ?_
    refine w_bi (pc' := 12) ⟨rfl, rfl⟩ (by decide) ?_
    refine w_ic_eq (pc' := 15) (pcT := 28) ⟨rfl, rfl⟩ rfl (by omega) (by omega) (fun h1 => ?_) (fun h1 => ?_)
    · refine w_bi (pc' := 30) ⟨rfl, rfl⟩ (by decide) ?_
      refine w_ireturn (pc' := 31) ⟨rfl, rfl⟩ (Or.inl rfl) ?_
      exact zQi k (by unfold ztr zlo; (try simp only [Int.toNat_natCast]); (repeat' split) <;> first | omega | exact absurd trivial (by assumption) | rfl)
    · refine w_iload (pc' := 17) ⟨rfl, rfl⟩ rfl ?_
      refine w_i2lZ (pc' := 18) ⟨rfl, rfl⟩ (by omega) ?_
      refine w_lc (pc' := 19) (z := 0) ⟨rfl, rfl⟩ rfl ?_
      refine w_ldc2Y (pc' := 22) (z := 10) ⟨rfl, rfl⟩ rfl ?_
      refine w_cs3 (pc' := 25) ⟨rfl, rfl⟩ (by decide) (Nat.le_of_ble_eq_true rfl) (Nat.le_of_ble_eq_true rfl) (r_isIn (by omega) (by omega) (by omega) (fun h => ?_) (fun h => ?_))
      · refine w_ifT_ne (pc' := 28) (pcT := 31) ⟨rfl, rfl⟩ rfl (by decide) ?_
        refine w_iload (pc' := 33) ⟨rfl, rfl⟩ rfl ?_
        refine w_ifF_ge (pc' := 36) ⟨rfl, rfl⟩ (by omega) ?_
        refine w_iload (pc' := 38) ⟨rfl, rfl⟩ rfl ?_
        refine w_ireturn (pc' := 39) ⟨rfl, rfl⟩ (Or.inl rfl) ?_
        exact zQi k (by unfold ztr zlo; (try simp only [Int.toNat_natCast]); (repeat' split) <;> first | omega | exact absurd trivial (by assumption) | rfl)
      · refine w_ifF_ne (pc' := 28) ⟨rfl, rfl⟩ (by decide) ?_
        refine w_bi (pc' := 30) ⟨rfl, rfl⟩ (by decide) ?_
        refine w_ireturn (pc' := 31) ⟨rfl, rfl⟩ (Or.inl rfl) ?_
        exact zQi k (by unfold ztr zlo; (try simp only [Int.toNat_natCast]); (repeat' split) <;> first | omega | exact absurd trivial (by assumption) | rfl)
  · have ht0 := hVt.1
    refine w_aload_n (pc' := 1) ⟨rfl, rfl⟩ rfl ?_
    refine w_iload_n (pc' := 2) ⟨rfl, rfl⟩ rfl ?_
    refine w_iload_n (pc' := 3) ⟨rfl, rfl⟩ rfl ?_
    refine w_cv3 (pc' := 6) ⟨rfl, rfl⟩ (by decide) (zOl hF rfl) (Nat.le_of_ble_eq_true rfl) (Nat.le_of_ble_eq_true rfl) (r_rowKind hF hVt hT (by omega) (by omega) ?_)
    refine w_istore (pc' := 8) ⟨rfl, rfl⟩ rfl ?_
    refine w_iload (pc' := 10) ⟨rfl, rfl⟩ rfl ?_
    refine w_bi (pc' := 12) ⟨rfl, rfl⟩ (by decide) ?_
    refine w_icF_eq (pc' := 15) ⟨rfl, rfl⟩ (by omega) ?_
    refine w_iload (pc' := 17) ⟨rfl, rfl⟩ rfl ?_
    refine w_i2lZ (pc' := 18) ⟨rfl, rfl⟩ (by omega) ?_
    refine w_lc (pc' := 19) (z := 0) ⟨rfl, rfl⟩ rfl ?_
    refine w_ldc2Y (pc' := 22) (z := 10) ⟨rfl, rfl⟩ rfl ?_
    refine w_cs3 (pc' := 25) ⟨rfl, rfl⟩ (by decide) (Nat.le_of_ble_eq_true rfl) (Nat.le_of_ble_eq_true rfl) (r_isIn (by omega) (by omega) (by omega) (fun h => ?_) (fun h => ?_))
    · refine w_ifT_ne (pc' := 28) (pcT := 31) ⟨rfl, rfl⟩ rfl (by decide) ?_
      refine w_iload (pc' := 33) ⟨rfl, rfl⟩ rfl ?_
      refine w_ifT_ge (pc' := 36) (pcT := 39) ⟨rfl, rfl⟩ rfl (by omega) ?_
      refine w_iload (pc' := 41) ⟨rfl, rfl⟩ rfl ?_
      refine w_bi (pc' := 43) ⟨rfl, rfl⟩ (by decide) ?_
      refine w_icT_ge (pc' := 46) (pcT := 56) ⟨rfl, rfl⟩ rfl (by omega) ?_
      refine w_iload_n (pc' := 57) ⟨rfl, rfl⟩ rfl ?_
      refine w_i2lZ (pc' := 58) ⟨rfl, rfl⟩ (by omega) ?_
      refine w_lc (pc' := 59) (z := 0) ⟨rfl, rfl⟩ rfl ?_
      refine w_aload_n (pc' := 60) ⟨rfl, rfl⟩ rfl ?_
      refine w_iload_n (pc' := 61) ⟨rfl, rfl⟩ rfl ?_
      refine w_iload_n (pc' := 62) ⟨rfl, rfl⟩ rfl ?_
      refine w_cv3 (pc' := 65) ⟨rfl, rfl⟩ (by decide) (zOl hF rfl) (Nat.le_of_ble_eq_true rfl) (Nat.le_of_ble_eq_true rfl) (r_longOfT hF hVt hT ?_)
      refine w_ic (pc' := 66) ⟨rfl, rfl⟩ ?_
      refine w_isubZ (pc' := 67) ⟨rfl, rfl⟩ ?_
      refine w_i2lZ (pc' := 68) ⟨rfl, rfl⟩ (by omega) ?_
      refine w_cs3 (pc' := 71) ⟨rfl, rfl⟩ (by decide) (Nat.le_of_ble_eq_true rfl) (Nat.le_of_ble_eq_true rfl) (r_isIn (by omega) (by omega) (by omega) (fun h => ?_) (fun h => ?_))
      · refine w_ifT_ne (pc' := 74) (pcT := 76) ⟨rfl, rfl⟩ rfl (by decide) ?_
        refine w_iload (pc' := 78) ⟨rfl, rfl⟩ rfl ?_
        refine w_bi (pc' := 80) ⟨rfl, rfl⟩ (by decide) ?_
        refine w_icF_ne (pc' := 83) ⟨rfl, rfl⟩ (by omega) ?_
        refine w_ic (pc' := 84) ⟨rfl, rfl⟩ ?_
        refine w_ireturn (pc' := 85) ⟨rfl, rfl⟩ (Or.inl rfl) ?_
        exact zQi k (by unfold ztr zlo; (try simp only [Int.toNat_natCast]); (repeat' split) <;> first | omega | exact absurd trivial (by assumption) | rfl)
      · refine w_ifF_ne (pc' := 74) ⟨rfl, rfl⟩ (by decide) ?_
        refine w_ic (pc' := 75) ⟨rfl, rfl⟩ ?_
        refine w_ireturn (pc' := 76) ⟨rfl, rfl⟩ (Or.inl rfl) ?_
        exact zQi k (by unfold ztr zlo; (try simp only [Int.toNat_natCast]); (repeat' split) <;> first | omega | exact absurd trivial (by assumption) | rfl)
    · refine w_ifF_ne (pc' := 28) ⟨rfl, rfl⟩ (by decide) ?_
      refine w_bi (pc' := 30) ⟨rfl, rfl⟩ (by decide) ?_
      refine w_ireturn (pc' := 31) ⟨rfl, rfl⟩ (Or.inl rfl) ?_
      exact zQi k (by unfold ztr zlo; (try simp only [Int.toNat_natCast]); (repeat' split) <;> first | omega | exact absurd trivial (by assumption) | rfl)
  · have hV := (hVt.2.2.1 u hu).1
    have hV1 := hV.1
    have ht0 := hVt.1
    have hkd := (hV.2 f hf)
    refine w_aload_n (pc' := 1) ⟨rfl, rfl⟩ rfl ?_
    refine w_iload_n (pc' := 2) ⟨rfl, rfl⟩ rfl ?_
    refine w_iload_n (pc' := 3) ⟨rfl, rfl⟩ rfl ?_
    refine w_cv3 (pc' := 6) ⟨rfl, rfl⟩ (by decide) (zOl hF rfl) (Nat.le_of_ble_eq_true rfl) (Nat.le_of_ble_eq_true rfl) (r_rowKind hF hVt hT (by omega) (by omega) ?_)
    refine w_istore (pc' := 8) ⟨rfl, rfl⟩ rfl ?_
    refine w_iload (pc' := 10) ⟨rfl, rfl⟩ rfl ?_
    refine w_bi (pc' := 12) ⟨rfl, rfl⟩ (by decide) ?_
    refine w_icF_eq (pc' := 15) ⟨rfl, rfl⟩ (by omega) ?_
    refine w_iload (pc' := 17) ⟨rfl, rfl⟩ rfl ?_
    refine w_i2lZ (pc' := 18) ⟨rfl, rfl⟩ (by omega) ?_
    refine w_lc (pc' := 19) (z := 0) ⟨rfl, rfl⟩ rfl ?_
    refine w_ldc2Y (pc' := 22) (z := 10) ⟨rfl, rfl⟩ rfl ?_
    refine w_cs3 (pc' := 25) ⟨rfl, rfl⟩ (by decide) (Nat.le_of_ble_eq_true rfl) (Nat.le_of_ble_eq_true rfl) (r_isIn (by omega) (by omega) (by omega) (fun h => ?_) (fun h => ?_))
    · refine w_ifT_ne (pc' := 28) (pcT := 31) ⟨rfl, rfl⟩ rfl (by decide) ?_
      refine w_iload (pc' := 33) ⟨rfl, rfl⟩ rfl ?_
      refine w_ifT_ge (pc' := 36) (pcT := 39) ⟨rfl, rfl⟩ rfl (by omega) ?_
      refine w_iload (pc' := 41) ⟨rfl, rfl⟩ rfl ?_
      refine w_bi (pc' := 43) ⟨rfl, rfl⟩ (by decide) ?_
      refine w_ic_ge (pc' := 46) (pcT := 56) ⟨rfl, rfl⟩ rfl (by omega) (by omega) (fun h1 => ?_) (fun h1 => ?_)
      · refine w_iload_n (pc' := 57) ⟨rfl, rfl⟩ rfl ?_
        refine w_i2lZ (pc' := 58) ⟨rfl, rfl⟩ (by omega) ?_
        refine w_lc (pc' := 59) (z := 0) ⟨rfl, rfl⟩ rfl ?_
        refine w_aload_n (pc' := 60) ⟨rfl, rfl⟩ rfl ?_
        refine w_iload_n (pc' := 61) ⟨rfl, rfl⟩ rfl ?_
        refine w_iload_n (pc' := 62) ⟨rfl, rfl⟩ rfl ?_
        refine w_cv3 (pc' := 65) ⟨rfl, rfl⟩ (by decide) (zOl hF rfl) (Nat.le_of_ble_eq_true rfl) (Nat.le_of_ble_eq_true rfl) (r_longOfF hF hVt hT hu hf ?_)
        refine w_ic (pc' := 66) ⟨rfl, rfl⟩ ?_
        refine w_isubZ (pc' := 67) ⟨rfl, rfl⟩ ?_
        refine w_i2lZ (pc' := 68) ⟨rfl, rfl⟩ (by omega) ?_
        refine w_cs3 (pc' := 71) ⟨rfl, rfl⟩ (by decide) (Nat.le_of_ble_eq_true rfl) (Nat.le_of_ble_eq_true rfl) (r_isIn (by omega) (by omega) (by omega) (fun h => ?_) (fun h => ?_))
        · refine w_ifT_ne (pc' := 74) (pcT := 76) ⟨rfl, rfl⟩ rfl (by decide) ?_
          refine w_iload (pc' := 78) ⟨rfl, rfl⟩ rfl ?_
          refine w_bi (pc' := 80) ⟨rfl, rfl⟩ (by decide) ?_
          refine w_icT_ne (pc' := 83) (pcT := 85) ⟨rfl, rfl⟩ rfl (by omega) ?_
          refine w_iload (pc' := 87) ⟨rfl, rfl⟩ rfl ?_
          refine w_bi (pc' := 89) ⟨rfl, rfl⟩ (by decide) ?_
          refine w_ic_ne (pc' := 92) (pcT := 115) ⟨rfl, rfl⟩ rfl (by omega) (by omega) (fun h2 => ?_) (fun h2 => ?_)
          · refine w_iload (pc' := 117) ⟨rfl, rfl⟩ rfl ?_
            refine w_bi (pc' := 119) ⟨rfl, rfl⟩ (by decide) ?_
            refine w_ic_ge (pc' := 122) (pcT := 137) ⟨rfl, rfl⟩ rfl (by omega) (by omega) (fun h3 => ?_) (fun h3 => ?_)
            · refine w_bi (pc' := 139) ⟨rfl, rfl⟩ (by decide) ?_
              refine w_ireturn (pc' := 140) ⟨rfl, rfl⟩ (Or.inl rfl) ?_
              exact zQi k (by unfold ztr zlo; (try simp only [Int.toNat_natCast]); (repeat' split) <;> first | omega | exact absurd trivial (by assumption) | rfl)
            · refine w_aload_n (pc' := 123) ⟨rfl, rfl⟩ rfl ?_
              refine w_iload (pc' := 125) ⟨rfl, rfl⟩ rfl ?_
              refine w_iload (pc' := 127) ⟨rfl, rfl⟩ rfl ?_
              refine w_cv3 (pc' := 130) ⟨rfl, rfl⟩ (by decide) (zOl hF rfl) (Nat.le_of_ble_eq_true rfl) (Nat.le_of_ble_eq_true rfl) (r_doesWidenZ hF hW (by omega) (by omega) (fun h => ?_) (fun h => ?_))
              · refine w_ifF_eq (pc' := 133) ⟨rfl, rfl⟩ (by decide) ?_
                refine w_ic (pc' := 134) ⟨rfl, rfl⟩ ?_
                refine w_goto (pc' := 137) (pcT := 139) ⟨rfl, rfl⟩ rfl ?_
                refine w_ireturn (pc' := 140) ⟨rfl, rfl⟩ (Or.inl rfl) ?_
                exact zQi k (by unfold ztr zlo; (try simp only [Int.toNat_natCast]); (repeat' split) <;> first | omega | exact absurd trivial (by assumption) | rfl)
              · refine w_ifT_eq (pc' := 133) (pcT := 137) ⟨rfl, rfl⟩ rfl (by decide) ?_
                refine w_bi (pc' := 139) ⟨rfl, rfl⟩ (by decide) ?_
                refine w_ireturn (pc' := 140) ⟨rfl, rfl⟩ (Or.inl rfl) ?_
                exact zQi k (by unfold ztr zlo; (try simp only [Int.toNat_natCast]); (repeat' split) <;> first | omega | exact absurd trivial (by assumption) | rfl)
          · refine w_iload (pc' := 94) ⟨rfl, rfl⟩ rfl ?_
            refine w_bi (pc' := 96) ⟨rfl, rfl⟩ (by decide) ?_
            refine w_ic_eq (pc' := 99) (pcT := 106) ⟨rfl, rfl⟩ rfl (by omega) (by omega) (fun h3 => ?_) (fun h3 => ?_)
            · refine w_ic (pc' := 107) ⟨rfl, rfl⟩ ?_
              refine w_goto (pc' := 110) (pcT := 139) ⟨rfl, rfl⟩ rfl ?_
              refine w_ireturn (pc' := 140) ⟨rfl, rfl⟩ (Or.inl rfl) ?_
              exact zQi k (by unfold ztr zlo; (try simp only [Int.toNat_natCast]); (repeat' split) <;> first | omega | exact absurd trivial (by assumption) | rfl)
            · refine w_iload (pc' := 101) ⟨rfl, rfl⟩ rfl ?_
              refine w_bi (pc' := 103) ⟨rfl, rfl⟩ (by decide) ?_
              refine w_ic_ne (pc' := 106) (pcT := 110) ⟨rfl, rfl⟩ rfl (by omega) (by omega) (fun h4 => ?_) (fun h4 => ?_)
              · refine w_bi (pc' := 112) ⟨rfl, rfl⟩ (by decide) ?_
                refine w_goto (pc' := 115) (pcT := 139) ⟨rfl, rfl⟩ rfl ?_
                refine w_ireturn (pc' := 140) ⟨rfl, rfl⟩ (Or.inl rfl) ?_
                exact zQi k (by unfold ztr zlo; (try simp only [Int.toNat_natCast]); (repeat' split) <;> first | omega | exact absurd trivial (by assumption) | rfl)
              · refine w_ic (pc' := 107) ⟨rfl, rfl⟩ ?_
                refine w_goto (pc' := 110) (pcT := 139) ⟨rfl, rfl⟩ rfl ?_
                refine w_ireturn (pc' := 140) ⟨rfl, rfl⟩ (Or.inl rfl) ?_
                exact zQi k (by unfold ztr zlo; (try simp only [Int.toNat_natCast]); (repeat' split) <;> first | omega | exact absurd trivial (by assumption) | rfl)
        · refine w_ifF_ne (pc' := 74) ⟨rfl, rfl⟩ (by decide) ?_
          refine w_ic (pc' := 75) ⟨rfl, rfl⟩ ?_
          refine w_ireturn (pc' := 76) ⟨rfl, rfl⟩ (Or.inl rfl) ?_
          exact zQi k (by unfold ztr zlo; (try simp only [Int.toNat_natCast]); (repeat' split) <;> first | omega | exact absurd trivial (by assumption) | rfl)
      · refine w_iload (pc' := 48) ⟨rfl, rfl⟩ rfl ?_
        refine w_bi (pc' := 50) ⟨rfl, rfl⟩ (by decide) ?_
        refine w_ic_ne (pc' := 53) (pcT := 56) ⟨rfl, rfl⟩ rfl (by omega) (by omega) (fun h2 => ?_) (fun h2 => ?_)
        · refine w_iload_n (pc' := 57) ⟨rfl, rfl⟩ rfl ?_
          refine w_i2lZ (pc' := 58) ⟨rfl, rfl⟩ (by omega) ?_
          refine w_lc (pc' := 59) (z := 0) ⟨rfl, rfl⟩ rfl ?_
          refine w_aload_n (pc' := 60) ⟨rfl, rfl⟩ rfl ?_
          refine w_iload_n (pc' := 61) ⟨rfl, rfl⟩ rfl ?_
          refine w_iload_n (pc' := 62) ⟨rfl, rfl⟩ rfl ?_
          refine w_cv3 (pc' := 65) ⟨rfl, rfl⟩ (by decide) (zOl hF rfl) (Nat.le_of_ble_eq_true rfl) (Nat.le_of_ble_eq_true rfl) (r_longOfF hF hVt hT hu hf ?_)
          refine w_ic (pc' := 66) ⟨rfl, rfl⟩ ?_
          refine w_isubZ (pc' := 67) ⟨rfl, rfl⟩ ?_
          refine w_i2lZ (pc' := 68) ⟨rfl, rfl⟩ (by omega) ?_
          refine w_cs3 (pc' := 71) ⟨rfl, rfl⟩ (by decide) (Nat.le_of_ble_eq_true rfl) (Nat.le_of_ble_eq_true rfl) (r_isIn (by omega) (by omega) (by omega) (fun h => ?_) (fun h => ?_))
          · refine w_ifT_ne (pc' := 74) (pcT := 76) ⟨rfl, rfl⟩ rfl (by decide) ?_
            refine w_iload (pc' := 78) ⟨rfl, rfl⟩ rfl ?_
            refine w_bi (pc' := 80) ⟨rfl, rfl⟩ (by decide) ?_
            refine w_icT_ne (pc' := 83) (pcT := 85) ⟨rfl, rfl⟩ rfl (by omega) ?_
            refine w_iload (pc' := 87) ⟨rfl, rfl⟩ rfl ?_
            refine w_bi (pc' := 89) ⟨rfl, rfl⟩ (by decide) ?_
            refine w_ic_ne (pc' := 92) (pcT := 115) ⟨rfl, rfl⟩ rfl (by omega) (by omega) (fun h3 => ?_) (fun h3 => ?_)
            · refine w_iload (pc' := 117) ⟨rfl, rfl⟩ rfl ?_
              refine w_bi (pc' := 119) ⟨rfl, rfl⟩ (by decide) ?_
              refine w_ic_ge (pc' := 122) (pcT := 137) ⟨rfl, rfl⟩ rfl (by omega) (by omega) (fun h4 => ?_) (fun h4 => ?_)
              · refine w_bi (pc' := 139) ⟨rfl, rfl⟩ (by decide) ?_
                refine w_ireturn (pc' := 140) ⟨rfl, rfl⟩ (Or.inl rfl) ?_
                exact zQi k (by unfold ztr zlo; (try simp only [Int.toNat_natCast]); (repeat' split) <;> first | omega | exact absurd trivial (by assumption) | rfl)
              · refine w_aload_n (pc' := 123) ⟨rfl, rfl⟩ rfl ?_
                refine w_iload (pc' := 125) ⟨rfl, rfl⟩ rfl ?_
                refine w_iload (pc' := 127) ⟨rfl, rfl⟩ rfl ?_
                refine w_cv3 (pc' := 130) ⟨rfl, rfl⟩ (by decide) (zOl hF rfl) (Nat.le_of_ble_eq_true rfl) (Nat.le_of_ble_eq_true rfl) (r_doesWidenZ hF hW (by omega) (by omega) (fun h => ?_) (fun h => ?_))
                · refine w_ifF_eq (pc' := 133) ⟨rfl, rfl⟩ (by decide) ?_
                  refine w_ic (pc' := 134) ⟨rfl, rfl⟩ ?_
                  refine w_goto (pc' := 137) (pcT := 139) ⟨rfl, rfl⟩ rfl ?_
                  refine w_ireturn (pc' := 140) ⟨rfl, rfl⟩ (Or.inl rfl) ?_
                  exact zQi k (by unfold ztr zlo; (try simp only [Int.toNat_natCast]); (repeat' split) <;> first | omega | exact absurd trivial (by assumption) | rfl)
                · refine w_ifT_eq (pc' := 133) (pcT := 137) ⟨rfl, rfl⟩ rfl (by decide) ?_
                  refine w_bi (pc' := 139) ⟨rfl, rfl⟩ (by decide) ?_
                  refine w_ireturn (pc' := 140) ⟨rfl, rfl⟩ (Or.inl rfl) ?_
                  exact zQi k (by unfold ztr zlo; (try simp only [Int.toNat_natCast]); (repeat' split) <;> first | omega | exact absurd trivial (by assumption) | rfl)
            · refine w_iload (pc' := 94) ⟨rfl, rfl⟩ rfl ?_
              refine w_bi (pc' := 96) ⟨rfl, rfl⟩ (by decide) ?_
              refine w_ic_eq (pc' := 99) (pcT := 106) ⟨rfl, rfl⟩ rfl (by omega) (by omega) (fun h4 => ?_) (fun h4 => ?_)
              · refine w_ic (pc' := 107) ⟨rfl, rfl⟩ ?_
                refine w_goto (pc' := 110) (pcT := 139) ⟨rfl, rfl⟩ rfl ?_
                refine w_ireturn (pc' := 140) ⟨rfl, rfl⟩ (Or.inl rfl) ?_
                exact zQi k (by unfold ztr zlo; (try simp only [Int.toNat_natCast]); (repeat' split) <;> first | omega | exact absurd trivial (by assumption) | rfl)
              · refine w_iload (pc' := 101) ⟨rfl, rfl⟩ rfl ?_
                refine w_bi (pc' := 103) ⟨rfl, rfl⟩ (by decide) ?_
                refine w_ic_ne (pc' := 106) (pcT := 110) ⟨rfl, rfl⟩ rfl (by omega) (by omega) (fun h5 => ?_) (fun h5 => ?_)
                · refine w_bi (pc' := 112) ⟨rfl, rfl⟩ (by decide) ?_
                  refine w_goto (pc' := 115) (pcT := 139) ⟨rfl, rfl⟩ rfl ?_
                  refine w_ireturn (pc' := 140) ⟨rfl, rfl⟩ (Or.inl rfl) ?_
                  exact zQi k (by unfold ztr zlo; (try simp only [Int.toNat_natCast]); (repeat' split) <;> first | omega | exact absurd trivial (by assumption) | rfl)
                · refine w_ic (pc' := 107) ⟨rfl, rfl⟩ ?_
                  refine w_goto (pc' := 110) (pcT := 139) ⟨rfl, rfl⟩ rfl ?_
                  refine w_ireturn (pc' := 140) ⟨rfl, rfl⟩ (Or.inl rfl) ?_
                  exact zQi k (by unfold ztr zlo; (try simp only [Int.toNat_natCast]); (repeat' split) <;> first | omega | exact absurd trivial (by assumption) | rfl)
          · refine w_ifF_ne (pc' := 74) ⟨rfl, rfl⟩ (by decide) ?_
            refine w_ic (pc' := 75) ⟨rfl, rfl⟩ ?_
            refine w_ireturn (pc' := 76) ⟨rfl, rfl⟩ (Or.inl rfl) ?_
            exact zQi k (by unfold ztr zlo; (try simp only [Int.toNat_natCast]); (repeat' split) <;> first | omega | exact absurd trivial (by assumption) | rfl)
        · refine w_bi (pc' := 55) ⟨rfl, rfl⟩ (by decide) ?_
          refine w_ireturn (pc' := 56) ⟨rfl, rfl⟩ (Or.inl rfl) ?_
          exact zQi k (by unfold ztr zlo; (try simp only [Int.toNat_natCast]); (repeat' split) <;> first | omega | exact absurd trivial (by assumption) | rfl)
    · refine w_ifF_ne (pc' := 28) ⟨rfl, rfl⟩ (by decide) ?_
      refine w_bi (pc' := 30) ⟨rfl, rfl⟩ (by decide) ?_
      refine w_ireturn (pc' := 31) ⟨rfl, rfl⟩ (Or.inl rfl) ?_
      exact zQi k (by unfold ztr zlo; (try simp only [Int.toNat_natCast]); (repeat' split) <;> first | omega | exact absurd trivial (by assumption) | rfl)
