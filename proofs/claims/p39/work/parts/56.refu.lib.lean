/-! of whole, what this claim takes: 56.refu.lean.txt -/
theorem zsc (s n : Int) : (∃ u : Nat, s = u ∧ (u : Int) < n) ∨ ¬ (0 ≤ s ∧ s < n) := by
  rcases Classical.em (0 ≤ s ∧ s < n) with h | h
  · exact Or.inl ⟨s.toNat, by omega, by omega⟩
  · exact Or.inr h
theorem zu3 {t : zBk} (hVt : zVt t) {u : Nat} (h : (u : Int) < t 0) : u < 3 := by have := hVt.1; omega
theorem zf6 {t : zBk} {u f : Nat} (hV : zVs t u) (h : (f : Int) < zNF t u) : f < 6 := by have := hV.1; omega
theorem c_shapeI {σ : zSt} {p : Nat} {n : Int} (hF : zFx σ) (hP : zIsB p) (hn : zI σ p 2 = iZ n) (hn3 : 0 ≤ n ∧ n ≤ 3) {u : Nat} (hu : (u : Int) < n) {Q : zSt → Option Value → Prop} (k : Q σ (some (.ref (p + 3 + 5 * u)))) : zCa 44 [.ref p, .int (iZ u)] σ Q := c_shape hF hP hn hn3 (by omega) (fun _ => k) (fun h => absurd ⟨by omega, hu⟩ h)
theorem c_shapeO {σ : zSt} {p : Nat} {n : Int} (hF : zFx σ) (hP : zIsB p) (hn : zI σ p 2 = iZ n) (hn3 : 0 ≤ n ∧ n ≤ 3) {z : Int} (hz : -2147483648 ≤ z ∧ z ≤ 2147483647) (hu : ¬ (0 ≤ z ∧ z < n)) {Q : zSt → Option Value → Prop} (k : Q σ (some .null)) : zCa 44 [.ref p, .int (iZ z)] σ Q := c_shape hF hP hn hn3 hz (fun h => absurd h hu) (fun _ => k)
theorem c_hasFieldI {σ : zSt} {o s : Nat} {t : zBk} (hF : zFx σ) (hO : zIsS o) (hS : zSh σ o t s) (hV : zVs t s) {f : Nat} (hf : (f : Int) < zNF t s) {Q : zSt → Option Value → Prop} (k : Q σ (some (.int (iZ 1)))) : zCa 74 [.ref o, .int (iZ f)] σ Q := c_hasField hF hO hS hV (by have := hV.1; omega) (fun _ => k) (fun h => absurd ⟨by omega, hf⟩ h)
theorem c_hasFieldO {σ : zSt} {o s : Nat} {t : zBk} (hF : zFx σ) (hO : zIsS o) (hS : zSh σ o t s) (hV : zVs t s) {f : Int} (hf : -2147483648 ≤ f ∧ f ≤ 2147483647) (h : ¬ (0 ≤ f ∧ f < zNF t s)) {Q : zSt → Option Value → Prop} (k : Q σ (some (.int (iZ 0)))) : zCa 74 [.ref o, .int (iZ f)] σ Q := c_hasField hF hO hS hV hf (fun q => absurd q h) (fun _ => k)
def zrk (t : zBk) (s row : Int) : Int := if s < 0 ∨ t 0 ≤ s ∨ row < 0 ∨ 8 < row then -4 else if row = 8 then 9 else if row = 7 then -2 else if row < zNF t s.toNat then zKD t s.toNat row.toNat else -3
theorem zrk_cases {t : zBk} (hV : zVt t) (s row : Int) : (zrk t s row < 0 ∧ -4 ≤ zrk t s row) ∨ (∃ u : Nat, s = u ∧ (u : Int) < t 0 ∧ row = 8 ∧ zrk t s row = 9) ∨ ∃ u f : Nat, s = u ∧ row = f ∧ (u : Int) < t 0 ∧ (f : Int) < zNF t u ∧ zrk t s row = zKD t u f := by
  unfold zrk
  split
  · exact Or.inl (by omega)
  · split
    · exact Or.inr (Or.inl ⟨s.toNat, by omega, by omega, by assumption, rfl⟩)
    · split
      · exact Or.inl (by omega)
      · split
        · exact Or.inr (Or.inr ⟨s.toNat, row.toNat, by omega, by omega, by omega, by omega, rfl⟩)
        · exact Or.inl (by omega)
theorem c_rowSort {σ : zSt} {p : Nat} {t : zBk} (hF : zFx σ) (hVt : zVt t) (hPp : zR σ 0 10 = some p) (hP : zIsB p) (hPl : zPl σ p t) {s row : Int} (hs : (-2147483648 ≤ s ∧ s ≤ 2147483647)) (hr : (-2147483648 ≤ row ∧ row ≤ 2147483647)) {Q : zSt → Option Value → Prop} (k : Q σ (some (.int (iZ (zrk t s row))))) : zCa 105 [.ref 0, .int (iZ s), .int (iZ row)] σ Q := by
  refine w_enter (c := zk_X11_rowSort) (ls2 := [(0, .ref 0), (1, .int (iZ s)), (2, .int (iZ row))]) rfl ⟨rfl, rfl, rfl, trivial⟩ ?_
  rcases zsc s (t 0) with ⟨u, rfl, hu⟩ | hu
  · have hO := (hP.s hF (zu3 hVt hu)).2
    have hS := hPl.2.2.1 u hu
    have hV := (hVt.2.2.1 u hu).1
    have hV1 := hV.1
    have ht0 := hVt.1
    rcases zsc row (zNF t u) with ⟨f, rfl, hf⟩ | hf
    · refine w_aload_n (pc' := 1) ⟨rfl, rfl⟩ rfl ?_
      refine w_getR (pc' := 4) (cl := 9) (q := 10) ⟨rfl, rfl⟩ ⟨rfl, by decide⟩ (zOl hF rfl) hPp ?_
      refine w_iload_n (pc' := 5) ⟨rfl, rfl⟩ rfl ?_
      refine w_cv2 (pc' := 8) ⟨rfl, rfl⟩ (by decide) (hP.o hF).1 (Nat.le_of_ble_eq_true rfl) (Nat.le_of_ble_eq_true rfl) (c_shapeI hF hP hPl.1 hVt.1 hu ?_)
      refine w_astore_n (pc' := 9) ⟨rfl, rfl⟩ rfl ?_
      refine w_aload_n (pc' := 10) ⟨rfl, rfl⟩ rfl ?_
      refine w_ifnullR (pc' := 13) (pcT := 23) ⟨rfl, rfl⟩ rfl  ?_
      refine w_iload_n (pc' := 14) ⟨rfl, rfl⟩ rfl ?_
      refine w_ifF_lt (pc' := 17) ⟨rfl, rfl⟩ (by omega) ?_
      refine w_iload_n (pc' := 18) ⟨rfl, rfl⟩ rfl ?_
      refine w_bi (pc' := 20) ⟨rfl, rfl⟩ (by decide) ?_
      refine w_icT_le (pc' := 23) (pcT := 26) ⟨rfl, rfl⟩ rfl (by omega) ?_
      refine w_iload_n (pc' := 27) ⟨rfl, rfl⟩ rfl ?_
      refine w_bi (pc' := 29) ⟨rfl, rfl⟩ (by decide) ?_
      refine w_icT_ne (pc' := 32) (pcT := 35) ⟨rfl, rfl⟩ rfl (by omega) ?_
      refine w_iload_n (pc' := 36) ⟨rfl, rfl⟩ rfl ?_
      refine w_bi (pc' := 38) ⟨rfl, rfl⟩ (by decide) ?_
      refine w_icT_ne (pc' := 41) (pcT := 44) ⟨rfl, rfl⟩ rfl (by omega) ?_
      refine w_aload_n (pc' := 45) ⟨rfl, rfl⟩ rfl ?_
      refine w_iload_n (pc' := 46) ⟨rfl, rfl⟩ rfl ?_
      refine w_cv2 (pc' := 49) ⟨rfl, rfl⟩ (by decide) (hO.o hF) (Nat.le_of_ble_eq_true rfl) (Nat.le_of_ble_eq_true rfl) (c_hasFieldI hF hO hS hV hf ?_)
      refine w_ifF_eq (pc' := 52) ⟨rfl, rfl⟩ (by decide) ?_
      refine w_aload_n (pc' := 53) ⟨rfl, rfl⟩ rfl ?_
      refine w_getR (pc' := 56) (cl := 6) (q := 1) ⟨rfl, rfl⟩ ⟨rfl, by decide⟩ (hO.o hF) (hO.p hF).2.1 ?_
      refine w_iload_n (pc' := 57) ⟨rfl, rfl⟩ rfl ?_
      refine w_iald (pc' := 58) ⟨rfl, rfl⟩ (hO.a hF).2.1 (zixZ (by omega)) (hS.2.2 f hf).1 ?_
      refine w_goto (pc' := 61) (pcT := 63) ⟨rfl, rfl⟩ rfl ?_
      refine w_ireturn (pc' := 64) ⟨rfl, rfl⟩ (Or.inl rfl) ?_
      exact zQi k (by unfold zrk; (try simp only [Int.toNat_natCast]); first | (rw [if_pos (by omega)]; done) | ((repeat' split) <;> first | omega | rfl))
    · refine w_aload_n (pc' := 1) ⟨rfl, rfl⟩ rfl ?_
      refine w_getR (pc' := 4) (cl := 9) (q := 10) ⟨rfl, rfl⟩ ⟨rfl, by decide⟩ (zOl hF rfl) hPp ?_
      refine w_iload_n (pc' := 5) ⟨rfl, rfl⟩ rfl ?_
      refine w_cv2 (pc' := 8) ⟨rfl, rfl⟩ (by decide) (hP.o hF).1 (Nat.le_of_ble_eq_true rfl) (Nat.le_of_ble_eq_true rfl) (c_shapeI hF hP hPl.1 hVt.1 hu ?_)
      refine w_astore_n (pc' := 9) ⟨rfl, rfl⟩ rfl ?_
      refine w_aload_n (pc' := 10) ⟨rfl, rfl⟩ rfl ?_
      refine w_ifnullR (pc' := 13) (pcT := 23) ⟨rfl, rfl⟩ rfl  ?_
      refine w_iload_n (pc' := 14) ⟨rfl, rfl⟩ rfl ?_
      refine w_if_lt (pc' := 17) (pcT := 23) ⟨rfl, rfl⟩ rfl (by omega) (fun h1 => ?_) (fun h1 => ?_)
      · refine w_bi (pc' := 25) ⟨rfl, rfl⟩ (by decide) ?_
        refine w_ireturn (pc' := 26) ⟨rfl, rfl⟩ (Or.inl rfl) ?_
        exact zQi k (by unfold zrk; (try simp only [Int.toNat_natCast]); first | (rw [if_pos (by omega)]; done) | ((repeat' split) <;> first | omega | rfl))
      · refine w_iload_n (pc' := 18) ⟨rfl, rfl⟩ rfl ?_
        refine w_bi (pc' := 20) ⟨rfl, rfl⟩ (by decide) ?_
        refine w_ic_le (pc' := 23) (pcT := 26) ⟨rfl, rfl⟩ rfl (by omega) (by omega) (fun h2 => ?_) (fun h2 => ?_)
        · refine w_iload_n (pc' := 27) ⟨rfl, rfl⟩ rfl ?_
          refine w_bi (pc' := 29) ⟨rfl, rfl⟩ (by decide) ?_
          refine w_ic_ne (pc' := 32) (pcT := 35) ⟨rfl, rfl⟩ rfl (by omega) (by omega) (fun h3 => ?_) (fun h3 => ?_)
          · refine w_iload_n (pc' := 36) ⟨rfl, rfl⟩ rfl ?_
            refine w_bi (pc' := 38) ⟨rfl, rfl⟩ (by decide) ?_
            refine w_ic_ne (pc' := 41) (pcT := 44) ⟨rfl, rfl⟩ rfl (by omega) (by omega) (fun h4 => ?_) (fun h4 => ?_)
            · refine w_aload_n (pc' := 45) ⟨rfl, rfl⟩ rfl ?_
              refine w_iload_n (pc' := 46) ⟨rfl, rfl⟩ rfl ?_
              refine w_cv2 (pc' := 49) ⟨rfl, rfl⟩ (by decide) (hO.o hF) (Nat.le_of_ble_eq_true rfl) (Nat.le_of_ble_eq_true rfl) (c_hasFieldO hF hO hS hV hr hf ?_)
              refine w_ifT_eq (pc' := 52) (pcT := 61) ⟨rfl, rfl⟩ rfl (by decide) ?_
              refine w_bi (pc' := 63) ⟨rfl, rfl⟩ (by decide) ?_
              refine w_ireturn (pc' := 64) ⟨rfl, rfl⟩ (Or.inl rfl) ?_
              exact zQi k (by unfold zrk; (try simp only [Int.toNat_natCast]); first | (rw [if_pos (by omega)]; done) | ((repeat' split) <;> first | omega | rfl))
            · refine w_bi (pc' := 43) ⟨rfl, rfl⟩ (by decide) ?_
              refine w_ireturn (pc' := 44) ⟨rfl, rfl⟩ (Or.inl rfl) ?_
              exact zQi k (by unfold zrk; (try simp only [Int.toNat_natCast]); first | (rw [if_pos (by omega)]; done) | ((repeat' split) <;> first | omega | rfl))
          · refine w_bi (pc' := 34) ⟨rfl, rfl⟩ (by decide) ?_
            refine w_ireturn (pc' := 35) ⟨rfl, rfl⟩ (Or.inl rfl) ?_
            exact zQi k (by unfold zrk; (try simp only [Int.toNat_natCast]); first | (rw [if_pos (by omega)]; done) | ((repeat' split) <;> first | omega | rfl))
        · refine w_bi (pc' := 25) ⟨rfl, rfl⟩ (by decide) ?_
          refine w_ireturn (pc' := 26) ⟨rfl, rfl⟩ (Or.inl rfl) ?_
          exact zQi k (by unfold zrk; (try simp only [Int.toNat_natCast]); first | (rw [if_pos (by omega)]; done) | ((repeat' split) <;> first | omega | rfl))
  · refine w_aload_n (pc' := 1) ⟨rfl, rfl⟩ rfl ?_
    refine w_getR (pc' := 4) (cl := 9) (q := 10) ⟨rfl, rfl⟩ ⟨rfl, by decide⟩ (zOl hF rfl) hPp ?_
    refine w_iload_n (pc' := 5) ⟨rfl, rfl⟩ rfl ?_
    refine w_cv2 (pc' := 8) ⟨rfl, rfl⟩ (by decide) (hP.o hF).1 (Nat.le_of_ble_eq_true rfl) (Nat.le_of_ble_eq_true rfl) (c_shapeO hF hP hPl.1 hVt.1 hs hu ?_)
    refine w_astore_nN (pc' := 9) ⟨rfl, rfl⟩ rfl ?_
    refine w_aload_nN (pc' := 10) ⟨rfl, rfl⟩ rfl ?_
    refine w_ifnullN (pc' := 13) (pcT := 23) ⟨rfl, rfl⟩ rfl  ?_
    refine w_bi (pc' := 25) ⟨rfl, rfl⟩ (by decide) ?_
    refine w_ireturn (pc' := 26) ⟨rfl, rfl⟩ (Or.inl rfl) ?_
    exact zQi k (by unfold zrk; (try simp only [Int.toNat_natCast]); first | (rw [if_pos (by omega)]; done) | ((repeat' split) <;> first | omega | rfl))
def zlo (t : zBk) (s row : Int) : Int := if row = 8 then 4 else 8 * zCE t s.toNat row.toNat
def zkr (t : zBk) (s row pl kd : Int) : Int := if kd < 0 ∨ 7 < kd then -4 else if zrk t s row < 0 then zrk t s row else if 7 < zrk t s row then -2 else if pl < 0 ∨ zlo t s row ≤ pl then -1 else 0
abbrev ztt (so kd : Int) : Prop := so = 9 ∨ (so = 8 ∧ (kd = 8 ∨ kd = 10)) ∨ (so ≠ 9 ∧ so ≠ 8 ∧ zgi kd so)
def ztr (t : zBk) (s row pl kd : Int) : Int := if kd < 0 ∨ 10 < kd then -4 else if zrk t s row < 0 then zrk t s row else if zrk t s row ≤ 7 ∧ kd = 10 then -2 else if pl < 0 ∨ zlo t s row ≤ pl then -1 else if ztt (zrk t s row) kd then 0 else -2
def zrr (t : zBk) (s row pl kd : Int) : Int := if zkr t s row pl kd ≠ 0 then zkr t s row pl kd else if zgi (zrk t s row) kd then 0 else -2
def zwr (t : zBk) (s row pl kd : Int) : Int := if zkr t s row pl kd ≠ 0 then zkr t s row pl kd else if zgi kd (zrk t s row) then 0 else -2
theorem c_placesT {σ : zSt} {p : Nat} {t : zBk} (hF : zFx σ) (hVt : zVt t) (hPp : zR σ 0 10 = some p) (hP : zIsB p) (hPl : zPl σ p t) {s row so : Int} (hso : so = 9) {Q : zSt → Option Value → Prop} (k : Q σ (some (.int (iZ 4)))) : zCa 106 [.ref 0, .int (iZ s), .int (iZ row), .int (iZ so)] σ Q := by
  refine w_enter (c := zk_X11_placesOf) (ls2 := [(0, .ref 0), (1, .int (iZ s)), (2, .int (iZ row)), (3, .int (iZ so))]) rfl ⟨rfl, rfl, rfl, rfl, trivial⟩ ?_
  refine w_iload_n (pc' := 1) ⟨rfl, rfl⟩ rfl ?_
  refine w_bi (pc' := 3) ⟨rfl, rfl⟩ (by decide) ?_
  refine w_icF_ne (pc' := 6) ⟨rfl, rfl⟩ (by omega) ?_
  refine w_ic (pc' := 7) ⟨rfl, rfl⟩ ?_
  refine w_ireturn (pc' := 8) ⟨rfl, rfl⟩ (Or.inl rfl) ?_
  exact k
theorem c_placesF {σ : zSt} {p : Nat} {t : zBk} (hF : zFx σ) (hVt : zVt t) (hPp : zR σ 0 10 = some p) (hP : zIsB p) (hPl : zPl σ p t) {u f : Nat} (hu : (u : Int) < t 0) (hf : (f : Int) < zNF t u) {so : Int} (hso : 0 ≤ so ∧ so ≤ 8) {Q : zSt → Option Value → Prop} (k : Q σ (some (.int (iZ (8 * zCE t u f))))) : zCa 106 [.ref 0, .int (iZ u), .int (iZ f), .int (iZ so)] σ Q := by
  refine w_enter (c := zk_X11_placesOf) (ls2 := [(0, .ref 0), (1, .int (iZ u)), (2, .int (iZ f)), (3, .int (iZ so))]) rfl ⟨rfl, rfl, rfl, rfl, trivial⟩ ?_
  have hO := (hP.s hF (zu3 hVt hu)).2
  have hS := hPl.2.2.1 u hu
  have hV := (hVt.2.2.1 u hu).1
  have hV1 := hV.1
  have ht0 := hVt.1
  refine w_iload_n (pc' := 1) ⟨rfl, rfl⟩ rfl ?_
  refine w_bi (pc' := 3) ⟨rfl, rfl⟩ (by decide) ?_
  refine w_icT_ne (pc' := 6) (pcT := 8) ⟨rfl, rfl⟩ rfl (by omega) ?_
  refine w_aload_n (pc' := 9) ⟨rfl, rfl⟩ rfl ?_
  refine w_getR (pc' := 12) (cl := 9) (q := 10) ⟨rfl, rfl⟩ ⟨rfl, by decide⟩ (zOl hF rfl) hPp ?_
  refine w_iload_n (pc' := 13) ⟨rfl, rfl⟩ rfl ?_
  refine w_cv2 (pc' := 16) ⟨rfl, rfl⟩ (by decide) (hP.o hF).1 (Nat.le_of_ble_eq_true rfl) (Nat.le_of_ble_eq_true rfl) (c_shapeI hF hP hPl.1 hVt.1 hu ?_)
  refine w_astore (pc' := 18) ⟨rfl, rfl⟩ rfl ?_
  refine w_aload (pc' := 20) ⟨rfl, rfl⟩ rfl ?_
  refine w_ifnullR (pc' := 23) (pcT := 45) ⟨rfl, rfl⟩ rfl  ?_
  refine w_aload (pc' := 25) ⟨rfl, rfl⟩ rfl ?_
  refine w_iload_n (pc' := 26) ⟨rfl, rfl⟩ rfl ?_
  refine w_cv2 (pc' := 29) ⟨rfl, rfl⟩ (by decide) (hO.o hF) (Nat.le_of_ble_eq_true rfl) (Nat.le_of_ble_eq_true rfl) (c_hasFieldI hF hO hS hV hf ?_)
  refine w_ifF_eq (pc' := 32) ⟨rfl, rfl⟩ (by decide) ?_
  refine w_bi (pc' := 34) ⟨rfl, rfl⟩ (by decide) ?_
  refine w_aload (pc' := 36) ⟨rfl, rfl⟩ rfl ?_
  refine w_getR (pc' := 39) (cl := 6) (q := 2) ⟨rfl, rfl⟩ ⟨rfl, by decide⟩ (hO.o hF) (hO.p hF).2.2.1 ?_
  refine w_iload_n (pc' := 40) ⟨rfl, rfl⟩ rfl ?_
  refine w_iald (pc' := 41) ⟨rfl, rfl⟩ (hO.a hF).2.2.1 (zixZ (by omega)) (hS.2.2 f hf).2.1 ?_
  refine w_imulZ (pc' := 42) ⟨rfl, rfl⟩ ?_
  refine w_goto (pc' := 45) (pcT := 46) ⟨rfl, rfl⟩ rfl ?_
  refine w_ireturn (pc' := 47) ⟨rfl, rfl⟩ (Or.inl rfl) ?_
  exact k
theorem c_kindRefusal {σ : zSt} {p : Nat} {t : zBk} (hF : zFx σ) (hVt : zVt t) (hPp : zR σ 0 10 = some p) (hP : zIsB p) (hPl : zPl σ p t) {s row pl kd : Int} (hs : (-2147483648 ≤ s ∧ s ≤ 2147483647)) (hr : (-2147483648 ≤ row ∧ row ≤ 2147483647)) (hpl : (-2147483648 ≤ pl ∧ pl ≤ 2147483647)) (hkd0 : (-2147483648 ≤ kd ∧ kd ≤ 2147483647)) {Q : zSt → Option Value → Prop} (k : Q σ (some (.int (iZ (zkr t s row pl kd))))) : zCa 107 [.ref 0, .int (iZ s), .int (iZ row), .int (iZ pl), .int (iZ kd)] σ Q := by
  refine w_enter (c := zk_X11_kindRefusal) (ls2 := [(0, .ref 0), (1, .int (iZ s)), (2, .int (iZ row)), (3, .int (iZ pl)), (4, .int (iZ kd))]) rfl ⟨rfl, rfl, rfl, rfl, rfl, trivial⟩ ?_
  rcases zrk_cases hVt s row with hk | ⟨u, rfl, hu, rfl, hk⟩ | ⟨u, f, rfl, rfl, hu, hf, hk⟩
  · have ht0 := hVt.1
    refine w_iload (pc' := 2) ⟨rfl, rfl⟩ rfl ?_
    refine w_if_lt (pc' := 5) (pcT := 12) ⟨rfl, rfl⟩ rfl (by omega) (fun h1 => ?_) (fun h1 => ?_)
    · refine w_bi (pc' := 14) ⟨rfl, rfl⟩ (by decide) ?_
      refine w_ireturn (pc' := 15) ⟨rfl, rfl⟩ (Or.inl rfl) ?_
      exact zQi k (by unfold zkr zlo; (try simp only [Int.toNat_natCast]); (repeat' split) <;> first | omega | exact absurd trivial (by assumption) | rfl)
    · refine w_iload (pc' := 7) ⟨rfl, rfl⟩ rfl ?_
      refine w_bi (pc' := 9) ⟨rfl, rfl⟩ (by decide) ?_
      refine w_ic_le (pc' := 12) (pcT := 15) ⟨rfl, rfl⟩ rfl (by omega) (by omega) (fun h2 => ?_) (fun h2 => ?_)
      · refine w_aload_n (pc' := 16) ⟨rfl, rfl⟩ rfl ?_
        refine w_iload_n (pc' := 17) ⟨rfl, rfl⟩ rfl ?_
        refine w_iload_n (pc' := 18) ⟨rfl, rfl⟩ rfl ?_
        refine w_cv3 (pc' := 21) ⟨rfl, rfl⟩ (by decide) (zOl hF rfl) (Nat.le_of_ble_eq_true rfl) (Nat.le_of_ble_eq_true rfl) (c_rowSort hF hVt hPp hP hPl (by omega) (by omega) ?_)
        refine w_istore (pc' := 23) ⟨rfl, rfl⟩ rfl ?_
        refine w_iload (pc' := 25) ⟨rfl, rfl⟩ rfl ?_
        refine w_ifF_ge (pc' := 28) ⟨rfl, rfl⟩ (by omega) ?_
        refine w_iload (pc' := 30) ⟨rfl, rfl⟩ rfl ?_
        refine w_ireturn (pc' := 31) ⟨rfl, rfl⟩ (Or.inl rfl) ?_
        exact zQi k (by unfold zkr zlo; (try simp only [Int.toNat_natCast]); (repeat' split) <;> first | omega | exact absurd trivial (by assumption) | rfl)
      · refine w_bi (pc' := 14) ⟨rfl, rfl⟩ (by decide) ?_
        refine w_ireturn (pc' := 15) ⟨rfl, rfl⟩ (Or.inl rfl) ?_
        exact zQi k (by unfold zkr zlo; (try simp only [Int.toNat_natCast]); (repeat' split) <;> first | omega | exact absurd trivial (by assumption) | rfl)
  · have ht0 := hVt.1
    refine w_iload (pc' := 2) ⟨rfl, rfl⟩ rfl ?_
    refine w_if_lt (pc' := 5) (pcT := 12) ⟨rfl, rfl⟩ rfl (by omega) (fun h1 => ?_) (fun h1 => ?_)
    · refine w_bi (pc' := 14) ⟨rfl, rfl⟩ (by decide) ?_
      refine w_ireturn (pc' := 15) ⟨rfl, rfl⟩ (Or.inl rfl) ?_
      exact zQi k (by unfold zkr zlo; (try simp only [Int.toNat_natCast]); (repeat' split) <;> first | omega | exact absurd trivial (by assumption) | rfl)
    · refine w_iload (pc' := 7) ⟨rfl, rfl⟩ rfl ?_
      refine w_bi (pc' := 9) ⟨rfl, rfl⟩ (by decide) ?_
      refine w_ic_le (pc' := 12) (pcT := 15) ⟨rfl, rfl⟩ rfl (by omega) (by omega) (fun h2 => ?_) (fun h2 => ?_)
      · refine w_aload_n (pc' := 16) ⟨rfl, rfl⟩ rfl ?_
        refine w_iload_n (pc' := 17) ⟨rfl, rfl⟩ rfl ?_
        refine w_iload_n (pc' := 18) ⟨rfl, rfl⟩ rfl ?_
        refine w_cv3 (pc' := 21) ⟨rfl, rfl⟩ (by decide) (zOl hF rfl) (Nat.le_of_ble_eq_true rfl) (Nat.le_of_ble_eq_true rfl) (c_rowSort hF hVt hPp hP hPl (by omega) (by omega) ?_)
        refine w_istore (pc' := 23) ⟨rfl, rfl⟩ rfl ?_
        refine w_iload (pc' := 25) ⟨rfl, rfl⟩ rfl ?_
        refine w_ifT_ge (pc' := 28) (pcT := 31) ⟨rfl, rfl⟩ rfl (by omega) ?_
        refine w_iload (pc' := 33) ⟨rfl, rfl⟩ rfl ?_
        refine w_bi (pc' := 35) ⟨rfl, rfl⟩ (by decide) ?_
        refine w_icF_le (pc' := 38) ⟨rfl, rfl⟩ (by omega) ?_
        refine w_bi (pc' := 40) ⟨rfl, rfl⟩ (by decide) ?_
        refine w_ireturn (pc' := 41) ⟨rfl, rfl⟩ (Or.inl rfl) ?_
        exact zQi k (by unfold zkr zlo; (try simp only [Int.toNat_natCast]); (repeat' split) <;> first | omega | exact absurd trivial (by assumption) | rfl)
      · refine w_bi (pc' := 14) ⟨rfl, rfl⟩ (by decide) ?_
        refine w_ireturn (pc' := 15) ⟨rfl, rfl⟩ (Or.inl rfl) ?_
        exact zQi k (by unfold zkr zlo; (try simp only [Int.toNat_natCast]); (repeat' split) <;> first | omega | exact absurd trivial (by assumption) | rfl)
  · have hV := (hVt.2.2.1 u hu).1
    have hV1 := hV.1
    have ht0 := hVt.1
    have hkd := (hV.2 f hf)
    refine w_iload (pc' := 2) ⟨rfl, rfl⟩ rfl ?_
    refine w_if_lt (pc' := 5) (pcT := 12) ⟨rfl, rfl⟩ rfl (by omega) (fun h1 => ?_) (fun h1 => ?_)
    · refine w_bi (pc' := 14) ⟨rfl, rfl⟩ (by decide) ?_
      refine w_ireturn (pc' := 15) ⟨rfl, rfl⟩ (Or.inl rfl) ?_
      exact zQi k (by unfold zkr zlo; (try simp only [Int.toNat_natCast]); (repeat' split) <;> first | omega | exact absurd trivial (by assumption) | rfl)
    · refine w_iload (pc' := 7) ⟨rfl, rfl⟩ rfl ?_
      refine w_bi (pc' := 9) ⟨rfl, rfl⟩ (by decide) ?_
      refine w_ic_le (pc' := 12) (pcT := 15) ⟨rfl, rfl⟩ rfl (by omega) (by omega) (fun h2 => ?_) (fun h2 => ?_)
      · refine w_aload_n (pc' := 16) ⟨rfl, rfl⟩ rfl ?_
        refine w_iload_n (pc' := 17) ⟨rfl, rfl⟩ rfl ?_
        refine w_iload_n (pc' := 18) ⟨rfl, rfl⟩ rfl ?_
        refine w_cv3 (pc' := 21) ⟨rfl, rfl⟩ (by decide) (zOl hF rfl) (Nat.le_of_ble_eq_true rfl) (Nat.le_of_ble_eq_true rfl) (c_rowSort hF hVt hPp hP hPl (by omega) (by omega) ?_)
        refine w_istore (pc' := 23) ⟨rfl, rfl⟩ rfl ?_
        refine w_iload (pc' := 25) ⟨rfl, rfl⟩ rfl ?_
        refine w_ifT_ge (pc' := 28) (pcT := 31) ⟨rfl, rfl⟩ rfl (by omega) ?_
        refine w_iload (pc' := 33) ⟨rfl, rfl⟩ rfl ?_
        refine w_bi (pc' := 35) ⟨rfl, rfl⟩ (by decide) ?_
        refine w_ic_le (pc' := 38) (pcT := 41) ⟨rfl, rfl⟩ rfl (by omega) (by omega) (fun h3 => ?_) (fun h3 => ?_)
        · refine w_iload_n (pc' := 42) ⟨rfl, rfl⟩ rfl ?_
          refine w_if_lt (pc' := 45) (pcT := 57) ⟨rfl, rfl⟩ rfl (by omega) (fun h4 => ?_) (fun h4 => ?_)
          · refine w_ic (pc' := 58) ⟨rfl, rfl⟩ ?_
            refine w_goto (pc' := 61) (pcT := 62) ⟨rfl, rfl⟩ rfl ?_
            refine w_ireturn (pc' := 63) ⟨rfl, rfl⟩ (Or.inl rfl) ?_
            exact zQi k (by unfold zkr zlo; (try simp only [Int.toNat_natCast]); (repeat' split) <;> first | omega | exact absurd trivial (by assumption) | rfl)
          · refine w_iload_n (pc' := 46) ⟨rfl, rfl⟩ rfl ?_
            refine w_aload_n (pc' := 47) ⟨rfl, rfl⟩ rfl ?_
            refine w_iload_n (pc' := 48) ⟨rfl, rfl⟩ rfl ?_
            refine w_iload_n (pc' := 49) ⟨rfl, rfl⟩ rfl ?_
            refine w_iload (pc' := 51) ⟨rfl, rfl⟩ rfl ?_
            refine w_cv4 (pc' := 54) ⟨rfl, rfl⟩ (by decide) (zOl hF rfl) (Nat.le_of_ble_eq_true rfl) (Nat.le_of_ble_eq_true rfl) (c_placesF hF hVt hPp hP hPl hu hf (by omega) ?_)
            refine w_ic_lt (pc' := 57) (pcT := 61) ⟨rfl, rfl⟩ rfl (by omega) (by omega) (fun h5 => ?_) (fun h5 => ?_)
            · refine w_ic (pc' := 62) ⟨rfl, rfl⟩ ?_
              refine w_ireturn (pc' := 63) ⟨rfl, rfl⟩ (Or.inl rfl) ?_
              exact zQi k (by unfold zkr zlo; (try simp only [Int.toNat_natCast]); (repeat' split) <;> first | omega | exact absurd trivial (by assumption) | rfl)
            · refine w_ic (pc' := 58) ⟨rfl, rfl⟩ ?_
              refine w_goto (pc' := 61) (pcT := 62) ⟨rfl, rfl⟩ rfl ?_
              refine w_ireturn (pc' := 63) ⟨rfl, rfl⟩ (Or.inl rfl) ?_
              exact zQi k (by unfold zkr zlo; (try simp only [Int.toNat_natCast]); (repeat' split) <;> first | omega | exact absurd trivial (by assumption) | rfl)
        · refine w_bi (pc' := 40) ⟨rfl, rfl⟩ (by decide) ?_
          refine w_ireturn (pc' := 41) ⟨rfl, rfl⟩ (Or.inl rfl) ?_
          exact zQi k (by unfold zkr zlo; (try simp only [Int.toNat_natCast]); (repeat' split) <;> first | omega | exact absurd trivial (by assumption) | rfl)
      · refine w_bi (pc' := 14) ⟨rfl, rfl⟩ (by decide) ?_
        refine w_ireturn (pc' := 15) ⟨rfl, rfl⟩ (Or.inl rfl) ?_
        exact zQi k (by unfold zkr zlo; (try simp only [Int.toNat_natCast]); (repeat' split) <;> first | omega | exact absurd trivial (by assumption) | rfl)
theorem c_takesThing {σ : zSt} {so kd : Int} (hso : 0 ≤ so ∧ so ≤ 9) (hkd : 0 ≤ kd ∧ kd ≤ 10) {Q : zSt → Option Value → Prop} (k1 : ztt so kd → Q σ (some (.int (iZ 1)))) (k0 : ¬ ztt so kd → Q σ (some (.int (iZ 0)))) : zCa 109 [.int (iZ so), .int (iZ kd)] σ Q := by
  refine w_enter (c := zk_X11_takesThing) (ls2 := [(0, .int (iZ so)), (1, .int (iZ kd))]) rfl ⟨rfl, rfl, trivial⟩ ?_
  refine w_iload_n (pc' := 1) ⟨rfl, rfl⟩ rfl ?_
  refine w_bi (pc' := 3) ⟨rfl, rfl⟩ (by decide) ?_
  refine w_ic_ne (pc' := 6) (pcT := 8) ⟨rfl, rfl⟩ rfl (by omega) (by omega) (fun h1 => ?_) (fun h1 => ?_)
  · refine w_iload_n (pc' := 9) ⟨rfl, rfl⟩ rfl ?_
    refine w_bi (pc' := 11) ⟨rfl, rfl⟩ (by decide) ?_
    refine w_ic_ne (pc' := 14) (pcT := 32) ⟨rfl, rfl⟩ rfl (by omega) (by omega) (fun h2 => ?_) (fun h2 => ?_)
    · refine w_iload_n (pc' := 33) ⟨rfl, rfl⟩ rfl ?_
      refine w_iload_n (pc' := 34) ⟨rfl, rfl⟩ rfl ?_
      refine w_cs2 (pc' := 37) ⟨rfl, rfl⟩ (by decide) (Nat.le_of_ble_eq_true rfl) (Nat.le_of_ble_eq_true rfl) (c_goesInto (by omega) (by omega) (fun h => ?_) (fun h => ?_))
      · refine w_ireturn (pc' := 38) ⟨rfl, rfl⟩ (by decide) ?_
        first | exact k1 (by unfold ztt; omega) | exact k0 (by unfold ztt; omega)
      · refine w_ireturn (pc' := 38) ⟨rfl, rfl⟩ (by decide) ?_
        first | exact k1 (by unfold ztt; omega) | exact k0 (by unfold ztt; omega)
    · refine w_iload_n (pc' := 15) ⟨rfl, rfl⟩ rfl ?_
      refine w_bi (pc' := 17) ⟨rfl, rfl⟩ (by decide) ?_
      refine w_ic_eq (pc' := 20) (pcT := 26) ⟨rfl, rfl⟩ rfl (by omega) (by omega) (fun h3 => ?_) (fun h3 => ?_)
      · refine w_ic (pc' := 27) ⟨rfl, rfl⟩ ?_
        refine w_goto (pc' := 30) (pcT := 31) ⟨rfl, rfl⟩ rfl ?_
        refine w_ireturn (pc' := 32) ⟨rfl, rfl⟩ (by decide) ?_
        first | exact k1 (by unfold ztt; omega) | exact k0 (by unfold ztt; omega)
      · refine w_iload_n (pc' := 21) ⟨rfl, rfl⟩ rfl ?_
        refine w_bi (pc' := 23) ⟨rfl, rfl⟩ (by decide) ?_
        refine w_ic_ne (pc' := 26) (pcT := 30) ⟨rfl, rfl⟩ rfl (by omega) (by omega) (fun h4 => ?_) (fun h4 => ?_)
        · refine w_ic (pc' := 31) ⟨rfl, rfl⟩ ?_
          refine w_ireturn (pc' := 32) ⟨rfl, rfl⟩ (by decide) ?_
          first | exact k1 (by unfold ztt; omega) | exact k0 (by unfold ztt; omega)
        · refine w_ic (pc' := 27) ⟨rfl, rfl⟩ ?_
          refine w_goto (pc' := 30) (pcT := 31) ⟨rfl, rfl⟩ rfl ?_
          refine w_ireturn (pc' := 32) ⟨rfl, rfl⟩ (by decide) ?_
          first | exact k1 (by unfold ztt; omega) | exact k0 (by unfold ztt; omega)
  · refine w_ic (pc' := 7) ⟨rfl, rfl⟩ ?_
    refine w_ireturn (pc' := 8) ⟨rfl, rfl⟩ (by decide) ?_
    first | exact k1 (by unfold ztt; omega) | exact k0 (by unfold ztt; omega)
theorem c_thingRefusal {σ : zSt} {p : Nat} {t : zBk} (hF : zFx σ) (hVt : zVt t) (hPp : zR σ 0 10 = some p) (hP : zIsB p) (hPl : zPl σ p t) {s row pl kd : Int} (hs : (-2147483648 ≤ s ∧ s ≤ 2147483647)) (hr : (-2147483648 ≤ row ∧ row ≤ 2147483647)) (hpl : (-2147483648 ≤ pl ∧ pl ≤ 2147483647)) (hkd0 : (-2147483648 ≤ kd ∧ kd ≤ 2147483647)) {Q : zSt → Option Value → Prop} (k : Q σ (some (.int (iZ (ztr t s row pl kd))))) : zCa 108 [.ref 0, .int (iZ s), .int (iZ row), .int (iZ pl), .int (iZ kd)] σ Q := by
  refine w_enter (c := zk_X11_thingRefusal) (ls2 := [(0, .ref 0), (1, .int (iZ s)), (2, .int (iZ row)), (3, .int (iZ pl)), (4, .int (iZ kd))]) rfl ⟨rfl, rfl, rfl, rfl, rfl, trivial⟩ ?_
  rcases zrk_cases hVt s row with hk | ⟨u, rfl, hu, rfl, hk⟩ | ⟨u, f, rfl, rfl, hu, hf, hk⟩
  · have ht0 := hVt.1
    refine w_iload (pc' := 2) ⟨rfl, rfl⟩ rfl ?_
    refine w_if_lt (pc' := 5) (pcT := 12) ⟨rfl, rfl⟩ rfl (by omega) (fun h1 => ?_) (fun h1 => ?_)
    · refine w_bi (pc' := 14) ⟨rfl, rfl⟩ (by decide) ?_
      refine w_ireturn (pc' := 15) ⟨rfl, rfl⟩ (Or.inl rfl) ?_
      exact zQi k (by unfold ztr zlo; (try simp only [Int.toNat_natCast]); (repeat' split) <;> first | omega | exact absurd trivial (by assumption) | rfl)
    · refine w_iload (pc' := 7) ⟨rfl, rfl⟩ rfl ?_
      refine w_bi (pc' := 9) ⟨rfl, rfl⟩ (by decide) ?_
      refine w_ic_le (pc' := 12) (pcT := 15) ⟨rfl, rfl⟩ rfl (by omega) (by omega) (fun h2 => ?_) (fun h2 => ?_)
      · refine w_aload_n (pc' := 16) ⟨rfl, rfl⟩ rfl ?_
        refine w_iload_n (pc' := 17) ⟨rfl, rfl⟩ rfl ?_
        refine w_iload_n (pc' := 18) ⟨rfl, rfl⟩ rfl ?_
        refine w_cv3 (pc' := 21) ⟨rfl, rfl⟩ (by decide) (zOl hF rfl) (Nat.le_of_ble_eq_true rfl) (Nat.le_of_ble_eq_true rfl) (c_rowSort hF hVt hPp hP hPl (by omega) (by omega) ?_)
        refine w_istore (pc' := 23) ⟨rfl, rfl⟩ rfl ?_
        refine w_iload (pc' := 25) ⟨rfl, rfl⟩ rfl ?_
        refine w_ifF_ge (pc' := 28) ⟨rfl, rfl⟩ (by omega) ?_
        refine w_iload (pc' := 30) ⟨rfl, rfl⟩ rfl ?_
        refine w_ireturn (pc' := 31) ⟨rfl, rfl⟩ (Or.inl rfl) ?_
        exact zQi k (by unfold ztr zlo; (try simp only [Int.toNat_natCast]); (repeat' split) <;> first | omega | exact absurd trivial (by assumption) | rfl)
      · refine w_bi (pc' := 14) ⟨rfl, rfl⟩ (by decide) ?_
        refine w_ireturn (pc' := 15) ⟨rfl, rfl⟩ (Or.inl rfl) ?_
        exact zQi k (by unfold ztr zlo; (try simp only [Int.toNat_natCast]); (repeat' split) <;> first | omega | exact absurd trivial (by assumption) | rfl)
  · have ht0 := hVt.1
    refine w_iload (pc' := 2) ⟨rfl, rfl⟩ rfl ?_
    refine w_if_lt (pc' := 5) (pcT := 12) ⟨rfl, rfl⟩ rfl (by omega) (fun h1 => ?_) (fun h1 => ?_)
    · refine w_bi (pc' := 14) ⟨rfl, rfl⟩ (by decide) ?_
      refine w_ireturn (pc' := 15) ⟨rfl, rfl⟩ (Or.inl rfl) ?_
      exact zQi k (by unfold ztr zlo; (try simp only [Int.toNat_natCast]); (repeat' split) <;> first | omega | exact absurd trivial (by assumption) | rfl)
    · refine w_iload (pc' := 7) ⟨rfl, rfl⟩ rfl ?_
      refine w_bi (pc' := 9) ⟨rfl, rfl⟩ (by decide) ?_
      refine w_ic_le (pc' := 12) (pcT := 15) ⟨rfl, rfl⟩ rfl (by omega) (by omega) (fun h2 => ?_) (fun h2 => ?_)
      · refine w_aload_n (pc' := 16) ⟨rfl, rfl⟩ rfl ?_
        refine w_iload_n (pc' := 17) ⟨rfl, rfl⟩ rfl ?_
        refine w_iload_n (pc' := 18) ⟨rfl, rfl⟩ rfl ?_
        refine w_cv3 (pc' := 21) ⟨rfl, rfl⟩ (by decide) (zOl hF rfl) (Nat.le_of_ble_eq_true rfl) (Nat.le_of_ble_eq_true rfl) (c_rowSort hF hVt hPp hP hPl (by omega) (by omega) ?_)
        refine w_istore (pc' := 23) ⟨rfl, rfl⟩ rfl ?_
        refine w_iload (pc' := 25) ⟨rfl, rfl⟩ rfl ?_
        refine w_ifT_ge (pc' := 28) (pcT := 31) ⟨rfl, rfl⟩ rfl (by omega) ?_
        refine w_iload (pc' := 33) ⟨rfl, rfl⟩ rfl ?_
        refine w_bi (pc' := 35) ⟨rfl, rfl⟩ (by decide) ?_
        refine w_icT_gt (pc' := 38) (pcT := 48) ⟨rfl, rfl⟩ rfl (by omega) ?_
        refine w_iload_n (pc' := 49) ⟨rfl, rfl⟩ rfl ?_
        refine w_if_lt (pc' := 52) (pcT := 64) ⟨rfl, rfl⟩ rfl (by omega) (fun h3 => ?_) (fun h3 => ?_)
        · refine w_ic (pc' := 65) ⟨rfl, rfl⟩ ?_
          refine w_ireturn (pc' := 66) ⟨rfl, rfl⟩ (Or.inl rfl) ?_
          exact zQi k (by unfold ztr zlo; (try simp only [Int.toNat_natCast]); (repeat' split) <;> first | omega | exact absurd trivial (by assumption) | rfl)
        · refine w_iload_n (pc' := 53) ⟨rfl, rfl⟩ rfl ?_
          refine w_aload_n (pc' := 54) ⟨rfl, rfl⟩ rfl ?_
          refine w_iload_n (pc' := 55) ⟨rfl, rfl⟩ rfl ?_
          refine w_iload_n (pc' := 56) ⟨rfl, rfl⟩ rfl ?_
          refine w_iload (pc' := 58) ⟨rfl, rfl⟩ rfl ?_
          refine w_cv4 (pc' := 61) ⟨rfl, rfl⟩ (by decide) (zOl hF rfl) (Nat.le_of_ble_eq_true rfl) (Nat.le_of_ble_eq_true rfl) (c_placesT hF hVt hPp hP hPl (by omega) ?_)
          refine w_ic_lt (pc' := 64) (pcT := 66) ⟨rfl, rfl⟩ rfl (by omega) (by omega) (fun h4 => ?_) (fun h4 => ?_)
          · refine w_iload (pc' := 68) ⟨rfl, rfl⟩ rfl ?_
            refine w_iload (pc' := 70) ⟨rfl, rfl⟩ rfl ?_
            refine w_cs2 (pc' := 73) ⟨rfl, rfl⟩ (by decide) (Nat.le_of_ble_eq_true rfl) (Nat.le_of_ble_eq_true rfl) (c_takesThing (by omega) (by omega) (fun h => ?_) (fun h => ?_))
            · refine w_ifF_eq (pc' := 76) ⟨rfl, rfl⟩ (by decide) ?_
              refine w_ic (pc' := 77) ⟨rfl, rfl⟩ ?_
              refine w_goto (pc' := 80) (pcT := 82) ⟨rfl, rfl⟩ rfl ?_
              refine w_ireturn (pc' := 83) ⟨rfl, rfl⟩ (Or.inl rfl) ?_
              exact zQi k (by unfold ztr zlo; (try simp only [Int.toNat_natCast]); (repeat' split) <;> first | omega | exact absurd trivial (by assumption) | rfl)
            · refine w_ifT_eq (pc' := 76) (pcT := 80) ⟨rfl, rfl⟩ rfl (by decide) ?_
              refine w_bi (pc' := 82) ⟨rfl, rfl⟩ (by decide) ?_
              refine w_ireturn (pc' := 83) ⟨rfl, rfl⟩ (Or.inl rfl) ?_
              exact zQi k (by unfold ztr zlo; (try simp only [Int.toNat_natCast]); (repeat' split) <;> first | omega | exact absurd trivial (by assumption) | rfl)
          · refine w_ic (pc' := 65) ⟨rfl, rfl⟩ ?_
            refine w_ireturn (pc' := 66) ⟨rfl, rfl⟩ (Or.inl rfl) ?_
            exact zQi k (by unfold ztr zlo; (try simp only [Int.toNat_natCast]); (repeat' split) <;> first | omega | exact absurd trivial (by assumption) | rfl)
      · refine w_bi (pc' := 14) ⟨rfl, rfl⟩ (by decide) ?_
        refine w_ireturn (pc' := 15) ⟨rfl, rfl⟩ (Or.inl rfl) ?_
        exact zQi k (by unfold ztr zlo; (try simp only [Int.toNat_natCast]); (repeat' split) <;> first | omega | exact absurd trivial (by assumption) | rfl)
  · have hV := (hVt.2.2.1 u hu).1
    have hV1 := hV.1
    have ht0 := hVt.1
    have hkd := (hV.2 f hf)
    refine w_iload (pc' := 2) ⟨rfl, rfl⟩ rfl ?_
    refine w_if_lt (pc' := 5) (pcT := 12) ⟨rfl, rfl⟩ rfl (by omega) (fun h1 => ?_) (fun h1 => ?_)
    · refine w_bi (pc' := 14) ⟨rfl, rfl⟩ (by decide) ?_
      refine w_ireturn (pc' := 15) ⟨rfl, rfl⟩ (Or.inl rfl) ?_
      exact zQi k (by unfold ztr zlo; (try simp only [Int.toNat_natCast]); (repeat' split) <;> first | omega | exact absurd trivial (by assumption) | rfl)
    · refine w_iload (pc' := 7) ⟨rfl, rfl⟩ rfl ?_
      refine w_bi (pc' := 9) ⟨rfl, rfl⟩ (by decide) ?_
      refine w_ic_le (pc' := 12) (pcT := 15) ⟨rfl, rfl⟩ rfl (by omega) (by omega) (fun h2 => ?_) (fun h2 => ?_)
      · refine w_aload_n (pc' := 16) ⟨rfl, rfl⟩ rfl ?_
        refine w_iload_n (pc' := 17) ⟨rfl, rfl⟩ rfl ?_
        refine w_iload_n (pc' := 18) ⟨rfl, rfl⟩ rfl ?_
        refine w_cv3 (pc' := 21) ⟨rfl, rfl⟩ (by decide) (zOl hF rfl) (Nat.le_of_ble_eq_true rfl) (Nat.le_of_ble_eq_true rfl) (c_rowSort hF hVt hPp hP hPl (by omega) (by omega) ?_)
        refine w_istore (pc' := 23) ⟨rfl, rfl⟩ rfl ?_
        refine w_iload (pc' := 25) ⟨rfl, rfl⟩ rfl ?_
        refine w_ifT_ge (pc' := 28) (pcT := 31) ⟨rfl, rfl⟩ rfl (by omega) ?_
        refine w_iload (pc' := 33) ⟨rfl, rfl⟩ rfl ?_
        refine w_bi (pc' := 35) ⟨rfl, rfl⟩ (by decide) ?_
        refine w_ic_gt (pc' := 38) (pcT := 48) ⟨rfl, rfl⟩ rfl (by omega) (by omega) (fun h3 => ?_) (fun h3 => ?_)
        · refine w_iload_n (pc' := 49) ⟨rfl, rfl⟩ rfl ?_
          refine w_if_lt (pc' := 52) (pcT := 64) ⟨rfl, rfl⟩ rfl (by omega) (fun h4 => ?_) (fun h4 => ?_)
          · refine w_ic (pc' := 65) ⟨rfl, rfl⟩ ?_
            refine w_ireturn (pc' := 66) ⟨rfl, rfl⟩ (Or.inl rfl) ?_
            exact zQi k (by unfold ztr zlo; (try simp only [Int.toNat_natCast]); (repeat' split) <;> first | omega | exact absurd trivial (by assumption) | rfl)
          · refine w_iload_n (pc' := 53) ⟨rfl, rfl⟩ rfl ?_
            refine w_aload_n (pc' := 54) ⟨rfl, rfl⟩ rfl ?_
            refine w_iload_n (pc' := 55) ⟨rfl, rfl⟩ rfl ?_
            refine w_iload_n (pc' := 56) ⟨rfl, rfl⟩ rfl ?_
            refine w_iload (pc' := 58) ⟨rfl, rfl⟩ rfl ?_
            refine w_cv4 (pc' := 61) ⟨rfl, rfl⟩ (by decide) (zOl hF rfl) (Nat.le_of_ble_eq_true rfl) (Nat.le_of_ble_eq_true rfl) (c_placesF hF hVt hPp hP hPl hu hf (by omega) ?_)
            refine w_ic_lt (pc' := 64) (pcT := 66) ⟨rfl, rfl⟩ rfl (by omega) (by omega) (fun h5 => ?_) (fun h5 => ?_)
            · refine w_iload (pc' := 68) ⟨rfl, rfl⟩ rfl ?_
              refine w_iload (pc' := 70) ⟨rfl, rfl⟩ rfl ?_
              refine w_cs2 (pc' := 73) ⟨rfl, rfl⟩ (by decide) (Nat.le_of_ble_eq_true rfl) (Nat.le_of_ble_eq_true rfl) (c_takesThing (by omega) (by omega) (fun h => ?_) (fun h => ?_))
              · refine w_ifF_eq (pc' := 76) ⟨rfl, rfl⟩ (by decide) ?_
                refine w_ic (pc' := 77) ⟨rfl, rfl⟩ ?_
                refine w_goto (pc' := 80) (pcT := 82) ⟨rfl, rfl⟩ rfl ?_
                refine w_ireturn (pc' := 83) ⟨rfl, rfl⟩ (Or.inl rfl) ?_
                exact zQi k (by unfold ztr zlo; (try simp only [Int.toNat_natCast]); (repeat' split) <;> first | omega | exact absurd trivial (by assumption) | rfl)
              · refine w_ifT_eq (pc' := 76) (pcT := 80) ⟨rfl, rfl⟩ rfl (by decide) ?_
                refine w_bi (pc' := 82) ⟨rfl, rfl⟩ (by decide) ?_
                refine w_ireturn (pc' := 83) ⟨rfl, rfl⟩ (Or.inl rfl) ?_
                exact zQi k (by unfold ztr zlo; (try simp only [Int.toNat_natCast]); (repeat' split) <;> first | omega | exact absurd trivial (by assumption) | rfl)
            · refine w_ic (pc' := 65) ⟨rfl, rfl⟩ ?_
              refine w_ireturn (pc' := 66) ⟨rfl, rfl⟩ (Or.inl rfl) ?_
              exact zQi k (by unfold ztr zlo; (try simp only [Int.toNat_natCast]); (repeat' split) <;> first | omega | exact absurd trivial (by assumption) | rfl)
        · refine w_iload (pc' := 40) ⟨rfl, rfl⟩ rfl ?_
          refine w_bi (pc' := 42) ⟨rfl, rfl⟩ (by decide) ?_
          refine w_ic_ne (pc' := 45) (pcT := 48) ⟨rfl, rfl⟩ rfl (by omega) (by omega) (fun h4 => ?_) (fun h4 => ?_)
          · refine w_iload_n (pc' := 49) ⟨rfl, rfl⟩ rfl ?_
            refine w_if_lt (pc' := 52) (pcT := 64) ⟨rfl, rfl⟩ rfl (by omega) (fun h5 => ?_) (fun h5 => ?_)
            · refine w_ic (pc' := 65) ⟨rfl, rfl⟩ ?_
              refine w_ireturn (pc' := 66) ⟨rfl, rfl⟩ (Or.inl rfl) ?_
              exact zQi k (by unfold ztr zlo; (try simp only [Int.toNat_natCast]); (repeat' split) <;> first | omega | exact absurd trivial (by assumption) | rfl)
            · refine w_iload_n (pc' := 53) ⟨rfl, rfl⟩ rfl ?_
              refine w_aload_n (pc' := 54) ⟨rfl, rfl⟩ rfl ?_
              refine w_iload_n (pc' := 55) ⟨rfl, rfl⟩ rfl ?_
              refine w_iload_n (pc' := 56) ⟨rfl, rfl⟩ rfl ?_
              refine w_iload (pc' := 58) ⟨rfl, rfl⟩ rfl ?_
              refine w_cv4 (pc' := 61) ⟨rfl, rfl⟩ (by decide) (zOl hF rfl) (Nat.le_of_ble_eq_true rfl) (Nat.le_of_ble_eq_true rfl) (c_placesF hF hVt hPp hP hPl hu hf (by omega) ?_)
              refine w_ic_lt (pc' := 64) (pcT := 66) ⟨rfl, rfl⟩ rfl (by omega) (by omega) (fun h6 => ?_) (fun h6 => ?_)
              · refine w_iload (pc' := 68) ⟨rfl, rfl⟩ rfl ?_
                refine w_iload (pc' := 70) ⟨rfl, rfl⟩ rfl ?_
                refine w_cs2 (pc' := 73) ⟨rfl, rfl⟩ (by decide) (Nat.le_of_ble_eq_true rfl) (Nat.le_of_ble_eq_true rfl) (c_takesThing (by omega) (by omega) (fun h => ?_) (fun h => ?_))
                · refine w_ifF_eq (pc' := 76) ⟨rfl, rfl⟩ (by decide) ?_
                  refine w_ic (pc' := 77) ⟨rfl, rfl⟩ ?_
                  refine w_goto (pc' := 80) (pcT := 82) ⟨rfl, rfl⟩ rfl ?_
                  refine w_ireturn (pc' := 83) ⟨rfl, rfl⟩ (Or.inl rfl) ?_
                  exact zQi k (by unfold ztr zlo; (try simp only [Int.toNat_natCast]); (repeat' split) <;> first | omega | exact absurd trivial (by assumption) | rfl)
                · refine w_ifT_eq (pc' := 76) (pcT := 80) ⟨rfl, rfl⟩ rfl (by decide) ?_
                  refine w_bi (pc' := 82) ⟨rfl, rfl⟩ (by decide) ?_
                  refine w_ireturn (pc' := 83) ⟨rfl, rfl⟩ (Or.inl rfl) ?_
                  exact zQi k (by unfold ztr zlo; (try simp only [Int.toNat_natCast]); (repeat' split) <;> first | omega | exact absurd trivial (by assumption) | rfl)
              · refine w_ic (pc' := 65) ⟨rfl, rfl⟩ ?_
                refine w_ireturn (pc' := 66) ⟨rfl, rfl⟩ (Or.inl rfl) ?_
                exact zQi k (by unfold ztr zlo; (try simp only [Int.toNat_natCast]); (repeat' split) <;> first | omega | exact absurd trivial (by assumption) | rfl)
          · refine w_bi (pc' := 47) ⟨rfl, rfl⟩ (by decide) ?_
            refine w_ireturn (pc' := 48) ⟨rfl, rfl⟩ (Or.inl rfl) ?_
            exact zQi k (by unfold ztr zlo; (try simp only [Int.toNat_natCast]); (repeat' split) <;> first | omega | exact absurd trivial (by assumption) | rfl)
      · refine w_bi (pc' := 14) ⟨rfl, rfl⟩ (by decide) ?_
        refine w_ireturn (pc' := 15) ⟨rfl, rfl⟩ (Or.inl rfl) ?_
        exact zQi k (by unfold ztr zlo; (try simp only [Int.toNat_natCast]); (repeat' split) <;> first | omega | exact absurd trivial (by assumption) | rfl)
