/-! WHAT IS ASKED of a book, both -/
theorem zQx {Q : zSt → Option Value → Prop} {σ : zSt} {a b : Int32} (h : Q σ (some (.int a))) (e : b = a) : Q σ (some (.int b)) := e ▸ h
theorem r_isFieldI {σ : zSt} {t : zBk} (hF : zFx σ) (hT : zTr σ t) (hVt : zVt t) {u f : Nat} (hu : (u : Int) < t 0) (hf : (f : Int) < zNF t u) {Q : zSt → Option Value → Prop} (k : Q σ (some (.int (iZ 1)))) : zCa 215 [.ref 164, .int (iZ u), .int (iZ f)] σ Q := r_isField hF hT (zV0 hVt) (fun s hs => (hVt.2.2.1 s hs).1.1) (by have := hVt.1; omega) (by have := (hVt.2.2.1 u hu).1.1; omega) (fun _ => k) (fun h => absurd ⟨by omega, hu, by omega, hf⟩ h)
theorem r_isFieldO {σ : zSt} {t : zBk} (hF : zFx σ) (hT : zTr σ t) (hVt : zVt t) {s f : Int} (hs : -2147483648 ≤ s ∧ s ≤ 2147483647) (hf : -2147483648 ≤ f ∧ f ≤ 2147483647) (hu : ¬ (0 ≤ s ∧ s < t 0 ∧ 0 ≤ f ∧ f < zNF t s.toNat)) {Q : zSt → Option Value → Prop} (k : Q σ (some (.int (iZ 0)))) : zCa 215 [.ref 164, .int (iZ s), .int (iZ f)] σ Q := r_isField hF hT (zV0 hVt) (fun s hs => (hVt.2.2.1 s hs).1.1) hs hf (fun h => absurd h hu) (fun _ => k)
theorem c_ruleAtI {σ : zSt} {o : Nat} {n : Int} (hF : zFx σ) (hG : zIsG o) (hn : zI σ o 3 = iZ n) (hn6 : 0 ≤ n ∧ n ≤ 6) {r : Nat} (hr : (r : Int) < n) {Q : zSt → Option Value → Prop} (k : Q σ (some (.ref (o + 2 + r)))) : zCa 47 [.ref o, .int (iZ r)] σ Q := c_ruleAt hF hG hn hn6 (by omega) (fun _ => k) (fun h => absurd ⟨by omega, hr⟩ h)
theorem c_ruleAtO {σ : zSt} {o : Nat} {n : Int} (hF : zFx σ) (hG : zIsG o) (hn : zI σ o 3 = iZ n) (hn6 : 0 ≤ n ∧ n ≤ 6) {z : Int} (hz : -2147483648 ≤ z ∧ z ≤ 2147483647) (hr : ¬ (0 ≤ z ∧ z < n)) {Q : zSt → Option Value → Prop} (k : Q σ (some .null)) : zCa 47 [.ref o, .int (iZ z)] σ Q := c_ruleAt hF hG hn hn6 hz (fun h => absurd h hr) (fun _ => k)
def zaF (t : zBk) (s f w : Int) : Int := if s < 0 ∨ t 0 ≤ s ∨ f < 0 ∨ zNF t s.toNat ≤ f then -1 else if w = 0 then zKD t s.toNat f.toNat else if w = 1 then zCE t s.toNat f.toNat else -1
def zaX (t : zBk) (c w : Int) : Int32 := if c < 0 ∨ t 1 ≤ c then iZ (-1) else if w = 0 then iZ (zFO t c.toNat) else if w = 1 then iZ (zTO t c.toNat) else if w = 2 then iZ (zNU t c.toNat) else if w = 3 then zFR t c.toNat (zNU t c.toNat).toNat else if w = 4 then zFF t c.toNat (zNU t c.toNat).toNat else iZ (-1)
def zaR (t : zBk) (c r w : Int) : Int32 := if c < 0 ∨ t 1 ≤ c ∨ r < 0 ∨ zNU t c.toNat ≤ r then iZ (-1) else if w = 0 then iZ (zRT t c.toNat r.toNat) else if w = 1 then iZ (zRS t c.toNat r.toNat) else if w = 2 then iZ (zR1 t c.toNat r.toNat) else if w = 3 then iZ (zR2 t c.toNat r.toNat) else if w = 4 then (if zgi (zMK t c.toNat r.toNat) (zTK t c.toNat r.toNat) then iZ 1 else iZ 0) else iZ (-1)
def zaW (a b : Int) : Int := if a < 0 ∨ 8 < a ∨ b < 0 ∨ 8 < b then -1 else if zgi a b then 1 else 0
def zaH (t : zBk) (c : Nat → Int) (u w : Int) : Int := if w < 0 ∨ 9 < w then -1 else if w = 0 then t 0 else if w = 1 then t 1 else if w = 2 then c 0 + c 1 + c 2 else if w = 3 then u else if t 0 ≤ (w - 4) % 3 then -1 else if w < 7 then c (w - 4).toNat else zNF t (w - 7).toNat
theorem c_field {σ : zSt} {p : Nat} {t : zBk} (hF : zFx σ) (hVt : zVt t) (hPp : zR σ 0 10 = some p) (hP : zIsB p) (hPl : zPl σ p t) {s f w : Int} (hs : (-2147483648 ≤ s ∧ s ≤ 2147483647)) (hf0 : (-2147483648 ≤ f ∧ f ≤ 2147483647)) (hw : (-2147483648 ≤ w ∧ w ≤ 2147483647)) {Q : zSt → Option Value → Prop} (k : Q σ (some (.int (iZ (zaF t s f w))))) : zCa 133 [.ref 0, .int (iZ s), .int (iZ f), .int (iZ w)] σ Q := by
  refine w_enter (c := zk_X11_field) (ls2 := [(0, .ref 0), (1, .int (iZ s)), (2, .int (iZ f)), (3, .int (iZ w))]) rfl ⟨rfl, rfl, rfl, rfl, trivial⟩ ?_
  rcases zsc s (t 0) with ⟨u, rfl, hu⟩ | hu
  · have hO := (hP.s hF (zu3 hVt hu)).2
    have hS := hPl.2.2.1 u hu
    have hV := (hVt.2.2.1 u hu).1
    have hV1 := hV.1
    have ht0 := hVt.1
    rcases zsc f (zNF t u) with ⟨f, rfl, hf⟩ | hf
    · refine w_aload_n (pc' := 1) ⟨rfl, rfl⟩ rfl ?_
      refine w_getR (pc' := 4) (cl := 9) (q := 10) ⟨rfl, rfl⟩ ⟨rfl, by decide⟩ (zOl hF rfl) hPp ?_
      refine w_iload_n (pc' := 5) ⟨rfl, rfl⟩ rfl ?_
      refine w_cv2 (pc' := 8) ⟨rfl, rfl⟩ (by decide) (hP.o hF).1 (Nat.le_of_ble_eq_true rfl) (Nat.le_of_ble_eq_true rfl) (c_shapeI hF hP hPl.1 hVt.1 hu ?_)
      refine w_astore (pc' := 10) ⟨rfl, rfl⟩ rfl ?_
      refine w_aload (pc' := 12) ⟨rfl, rfl⟩ rfl ?_
      refine w_ifnullR (pc' := 15) (pcT := 24) ⟨rfl, rfl⟩ rfl  ?_
      refine w_aload (pc' := 17) ⟨rfl, rfl⟩ rfl ?_
      refine w_iload_n (pc' := 18) ⟨rfl, rfl⟩ rfl ?_
      refine w_cv2 (pc' := 21) ⟨rfl, rfl⟩ (by decide) (hO.o hF) (Nat.le_of_ble_eq_true rfl) (Nat.le_of_ble_eq_true rfl) (c_hasFieldI hF hO hS hV hf ?_)
      refine w_ifT_ne (pc' := 24) (pcT := 26) ⟨rfl, rfl⟩ rfl (by decide) ?_
      refine w_iload_n (pc' := 27) ⟨rfl, rfl⟩ rfl ?_
      refine w_if_ne (pc' := 30) (pcT := 40) ⟨rfl, rfl⟩ rfl (by omega) (fun h1 => ?_) (fun h1 => ?_)
      · refine w_iload_n (pc' := 41) ⟨rfl, rfl⟩ rfl ?_
        refine w_ic (pc' := 42) ⟨rfl, rfl⟩ ?_
        refine w_ic_ne (pc' := 45) (pcT := 55) ⟨rfl, rfl⟩ rfl (by omega) (by omega) (fun h2 => ?_) (fun h2 => ?_)
        · refine w_ic (pc' := 56) ⟨rfl, rfl⟩ ?_
          refine w_ireturn (pc' := 57) ⟨rfl, rfl⟩ (Or.inl rfl) ?_
          exact zQi k (by unfold zaF; (try simp only [Int.toNat_natCast]); first | (rw [if_pos (by omega)]; done) | ((repeat' split) <;> first | omega | exact absurd trivial (by assumption) | rfl))
        · refine w_aload (pc' := 47) ⟨rfl, rfl⟩ rfl ?_
          refine w_getR (pc' := 50) (cl := 6) (q := 2) ⟨rfl, rfl⟩ ⟨rfl, by decide⟩ (hO.o hF) (hO.p hF).2.2.1 ?_
          refine w_iload_n (pc' := 51) ⟨rfl, rfl⟩ rfl ?_
          refine w_iald (pc' := 52) ⟨rfl, rfl⟩ (hO.a hF).2.2.1 (zixZ (by omega)) (hS.2.2 f hf).2.1 ?_
          refine w_goto (pc' := 55) (pcT := 56) ⟨rfl, rfl⟩ rfl ?_
          refine w_ireturn (pc' := 57) ⟨rfl, rfl⟩ (Or.inl rfl) ?_
          exact zQi k (by unfold zaF; (try simp only [Int.toNat_natCast]); first | (rw [if_pos (by omega)]; done) | ((repeat' split) <;> first | omega | exact absurd trivial (by assumption) | rfl))
      · refine w_aload (pc' := 32) ⟨rfl, rfl⟩ rfl ?_
        refine w_getR (pc' := 35) (cl := 6) (q := 1) ⟨rfl, rfl⟩ ⟨rfl, by decide⟩ (hO.o hF) (hO.p hF).2.1 ?_
        refine w_iload_n (pc' := 36) ⟨rfl, rfl⟩ rfl ?_
        refine w_iald (pc' := 37) ⟨rfl, rfl⟩ (hO.a hF).2.1 (zixZ (by omega)) (hS.2.2 f hf).1 ?_
        refine w_goto (pc' := 40) (pcT := 56) ⟨rfl, rfl⟩ rfl ?_
        refine w_ireturn (pc' := 57) ⟨rfl, rfl⟩ (Or.inl rfl) ?_
        exact zQi k (by unfold zaF; (try simp only [Int.toNat_natCast]); first | (rw [if_pos (by omega)]; done) | ((repeat' split) <;> first | omega | exact absurd trivial (by assumption) | rfl))
    · refine w_aload_n (pc' := 1) ⟨rfl, rfl⟩ rfl ?_
      refine w_getR (pc' := 4) (cl := 9) (q := 10) ⟨rfl, rfl⟩ ⟨rfl, by decide⟩ (zOl hF rfl) hPp ?_
      refine w_iload_n (pc' := 5) ⟨rfl, rfl⟩ rfl ?_
      refine w_cv2 (pc' := 8) ⟨rfl, rfl⟩ (by decide) (hP.o hF).1 (Nat.le_of_ble_eq_true rfl) (Nat.le_of_ble_eq_true rfl) (c_shapeI hF hP hPl.1 hVt.1 hu ?_)
      refine w_astore (pc' := 10) ⟨rfl, rfl⟩ rfl ?_
      refine w_aload (pc' := 12) ⟨rfl, rfl⟩ rfl ?_
      refine w_ifnullR (pc' := 15) (pcT := 24) ⟨rfl, rfl⟩ rfl  ?_
      refine w_aload (pc' := 17) ⟨rfl, rfl⟩ rfl ?_
      refine w_iload_n (pc' := 18) ⟨rfl, rfl⟩ rfl ?_
      refine w_cv2 (pc' := 21) ⟨rfl, rfl⟩ (by decide) (hO.o hF) (Nat.le_of_ble_eq_true rfl) (Nat.le_of_ble_eq_true rfl) (c_hasFieldO hF hO hS hV hf0 hf ?_)
      refine w_ifF_ne (pc' := 24) ⟨rfl, rfl⟩ (by decide) ?_
      refine w_ic (pc' := 25) ⟨rfl, rfl⟩ ?_
      refine w_ireturn (pc' := 26) ⟨rfl, rfl⟩ (Or.inl rfl) ?_
      exact zQi k (by unfold zaF; (try simp only [Int.toNat_natCast]); first | (rw [if_pos (by omega)]; done) | ((repeat' split) <;> first | omega | exact absurd trivial (by assumption) | rfl))
  · refine w_aload_n (pc' := 1) ⟨rfl, rfl⟩ rfl ?_
    refine w_getR (pc' := 4) (cl := 9) (q := 10) ⟨rfl, rfl⟩ ⟨rfl, by decide⟩ (zOl hF rfl) hPp ?_
    refine w_iload_n (pc' := 5) ⟨rfl, rfl⟩ rfl ?_
    refine w_cv2 (pc' := 8) ⟨rfl, rfl⟩ (by decide) (hP.o hF).1 (Nat.le_of_ble_eq_true rfl) (Nat.le_of_ble_eq_true rfl) (c_shapeO hF hP hPl.1 hVt.1 hs hu ?_)
    refine w_astoreN (pc' := 10) ⟨rfl, rfl⟩ rfl ?_
    refine w_aloadN (pc' := 12) ⟨rfl, rfl⟩ rfl ?_
    refine w_ifnullN (pc' := 15) (pcT := 24) ⟨rfl, rfl⟩ rfl  ?_
    refine w_ic (pc' := 25) ⟨rfl, rfl⟩ ?_
    refine w_ireturn (pc' := 26) ⟨rfl, rfl⟩ (Or.inl rfl) ?_
    exact zQi k (by unfold zaF; (try simp only [Int.toNat_natCast]); first | (rw [if_pos (by omega)]; done) | ((repeat' split) <;> first | omega | exact absurd trivial (by assumption) | rfl))
theorem r_field {σ : zSt} {t : zBk} (hF : zFx σ) (hVt : zVt t) (hT : zTr σ t) {s f w : Int} (hs : (-2147483648 ≤ s ∧ s ≤ 2147483647)) (hf0 : (-2147483648 ≤ f ∧ f ≤ 2147483647)) (hw : (-2147483648 ≤ w ∧ w ≤ 2147483647)) {Q : zSt → Option Value → Prop} (k : Q σ (some (.int (iZ (zaF t s f w))))) : zCa 245 [.ref 164, .int (iZ s), .int (iZ f), .int (iZ w)] σ Q := by
  refine w_enter (c := zk_X12_field) (ls2 := [(0, .ref 164), (1, .int (iZ s)), (2, .int (iZ f)), (3, .int (iZ w))]) rfl ⟨rfl, rfl, rfl, rfl, trivial⟩ ?_
  rcases zsc s (t 0) with ⟨u, rfl, hu⟩ | hu
  · have hV := (hVt.2.2.1 u hu).1
    have hV1 := hV.1
    have ht0 := hVt.1
    have hu3 := zu3 hVt hu
    rcases zsc f (zNF t u) with ⟨f, rfl, hf⟩ | hf
    · refine w_aload_n (pc' := 1) ⟨rfl, rfl⟩ rfl ?_
      refine w_iload_n (pc' := 2) ⟨rfl, rfl⟩ rfl ?_
      refine w_iload_n (pc' := 3) ⟨rfl, rfl⟩ rfl ?_
      refine w_cv3 (pc' := 6) ⟨rfl, rfl⟩ (by decide) (zOl hF rfl) (Nat.le_of_ble_eq_true rfl) (Nat.le_of_ble_eq_true rfl) (r_isFieldI hF hT hVt hu hf ?_)
      refine w_ifT_ne (pc' := 9) (pcT := 11) ⟨rfl, rfl⟩ rfl (by decide) ?_
      refine w_iload_n (pc' := 12) ⟨rfl, rfl⟩ rfl ?_
      refine w_if_ne (pc' := 15) (pcT := 24) ⟨rfl, rfl⟩ rfl (by omega) (fun h1 => ?_) (fun h1 => ?_)
      · refine w_iload_n (pc' := 25) ⟨rfl, rfl⟩ rfl ?_
        refine w_ic (pc' := 26) ⟨rfl, rfl⟩ ?_
        refine w_ic_ne (pc' := 29) (pcT := 38) ⟨rfl, rfl⟩ rfl (by omega) (by omega) (fun h2 => ?_) (fun h2 => ?_)
        · refine w_ic (pc' := 39) ⟨rfl, rfl⟩ ?_
          refine w_ireturn (pc' := 40) ⟨rfl, rfl⟩ (Or.inl rfl) ?_
          exact zQi k (by unfold zaF; (try simp only [Int.toNat_natCast]); first | (rw [if_pos (by omega)]; done) | ((repeat' split) <;> first | omega | exact absurd trivial (by assumption) | rfl))
        · refine w_aload_n (pc' := 30) ⟨rfl, rfl⟩ rfl ?_
          refine w_iload_n (pc' := 31) ⟨rfl, rfl⟩ rfl ?_
          refine w_iload_n (pc' := 32) ⟨rfl, rfl⟩ rfl ?_
          refine w_cv3 (pc' := 35) ⟨rfl, rfl⟩ (by decide) (zOl hF rfl) (Nat.le_of_ble_eq_true rfl) (Nat.le_of_ble_eq_true rfl) (r_cellsOf hF hT hu3 (zf6 hV hf) ?_)
          refine w_goto (pc' := 38) (pcT := 39) ⟨rfl, rfl⟩ rfl ?_
          refine w_ireturn (pc' := 40) ⟨rfl, rfl⟩ (Or.inl rfl) ?_
          exact zQi k (by unfold zaF; (try simp only [Int.toNat_natCast]); first | (rw [if_pos (by omega)]; done) | ((repeat' split) <;> first | omega | exact absurd trivial (by assumption) | rfl))
      · refine w_aload_n (pc' := 16) ⟨rfl, rfl⟩ rfl ?_
        refine w_iload_n (pc' := 17) ⟨rfl, rfl⟩ rfl ?_
        refine w_iload_n (pc' := 18) ⟨rfl, rfl⟩ rfl ?_
        refine w_cv3 (pc' := 21) ⟨rfl, rfl⟩ (by decide) (zOl hF rfl) (Nat.le_of_ble_eq_true rfl) (Nat.le_of_ble_eq_true rfl) (r_kindOf hF hT hu3 (zf6 hV hf) ?_)
        refine w_goto (pc' := 24) (pcT := 39) ⟨rfl, rfl⟩ rfl ?_
        refine w_ireturn (pc' := 40) ⟨rfl, rfl⟩ (Or.inl rfl) ?_
        exact zQi k (by unfold zaF; (try simp only [Int.toNat_natCast]); first | (rw [if_pos (by omega)]; done) | ((repeat' split) <;> first | omega | exact absurd trivial (by assumption) | rfl))
    · refine w_aload_n (pc' := 1) ⟨rfl, rfl⟩ rfl ?_
      refine w_iload_n (pc' := 2) ⟨rfl, rfl⟩ rfl ?_
      refine w_iload_n (pc' := 3) ⟨rfl, rfl⟩ rfl ?_
      refine w_cv3 (pc' := 6) ⟨rfl, rfl⟩ (by decide) (zOl hF rfl) (Nat.le_of_ble_eq_true rfl) (Nat.le_of_ble_eq_true rfl) (r_isFieldO hF hT hVt hs hf0 (by rw [Int.toNat_natCast]; omega) ?_)
      refine w_ifF_ne (pc' := 9) ⟨rfl, rfl⟩ (by decide) ?_
      refine w_ic (pc' := 10) ⟨rfl, rfl⟩ ?_
      refine w_ireturn (pc' := 11) ⟨rfl, rfl⟩ (Or.inl rfl) ?_
      exact zQi k (by unfold zaF; (try simp only [Int.toNat_natCast]); first | (rw [if_pos (by omega)]; done) | ((repeat' split) <;> first | omega | exact absurd trivial (by assumption) | rfl))
  · refine w_aload_n (pc' := 1) ⟨rfl, rfl⟩ rfl ?_
    refine w_iload_n (pc' := 2) ⟨rfl, rfl⟩ rfl ?_
    refine w_iload_n (pc' := 3) ⟨rfl, rfl⟩ rfl ?_
    refine w_cv3 (pc' := 6) ⟨rfl, rfl⟩ (by decide) (zOl hF rfl) (Nat.le_of_ble_eq_true rfl) (Nat.le_of_ble_eq_true rfl) (r_isFieldO hF hT hVt hs hf0 (by omega) ?_)
    refine w_ifF_ne (pc' := 9) ⟨rfl, rfl⟩ (by decide) ?_
    refine w_ic (pc' := 10) ⟨rfl, rfl⟩ ?_
    refine w_ireturn (pc' := 11) ⟨rfl, rfl⟩ (Or.inl rfl) ?_
    exact zQi k (by unfold zaF; (try simp only [Int.toNat_natCast]); first | (rw [if_pos (by omega)]; done) | ((repeat' split) <;> first | omega | exact absurd trivial (by assumption) | rfl))
theorem c_crossing {σ : zSt} {p : Nat} {t : zBk} (hF : zFx σ) (hVt : zVt t) (hPp : zR σ 0 10 = some p) (hP : zIsB p) (hPl : zPl σ p t) {c w : Int} (hc0 : (-2147483648 ≤ c ∧ c ≤ 2147483647)) (hw : (-2147483648 ≤ w ∧ w ≤ 2147483647)) {Q : zSt → Option Value → Prop} (k : Q σ (some (.int (zaX t c w)))) : zCa 134 [.ref 0, .int (iZ c), .int (iZ w)] σ Q := by
  refine w_enter (c := zk_X11_crossing) (ls2 := [(0, .ref 0), (1, .int (iZ c)), (2, .int (iZ w))]) rfl ⟨rfl, rfl, rfl, trivial⟩ ?_
  rcases zsc c (t 1) with ⟨c, rfl, hc⟩ | hc
  · have hG := (hP.g hF (show c < 4 by have := hVt.2.1; omega)).2
    have hPg := hPl.2.2.2 c hc
    have hvc := hVt.2.2.2 c hc
    have hnu := hvc.2.2.2.1
    have ht1 := hVt.2.1
    refine w_aload_n (pc' := 1) ⟨rfl, rfl⟩ rfl ?_
    refine w_getR (pc' := 4) (cl := 9) (q := 10) ⟨rfl, rfl⟩ ⟨rfl, by decide⟩ (zOl hF rfl) hPp ?_
    refine w_iload_n (pc' := 5) ⟨rfl, rfl⟩ rfl ?_
    refine w_cv2 (pc' := 8) ⟨rfl, rfl⟩ (by decide) (hP.o hF).1 (Nat.le_of_ble_eq_true rfl) (Nat.le_of_ble_eq_true rfl) (c_passageI hF hP hPl.2.1 hVt.2.1 hc ?_)
    refine w_astore_n (pc' := 9) ⟨rfl, rfl⟩ rfl ?_
    refine w_aload_n (pc' := 10) ⟨rfl, rfl⟩ rfl ?_
    refine w_ifnonnullR (pc' := 13) (pcT := 15) ⟨rfl, rfl⟩ rfl  ?_
    refine w_iload_n (pc' := 16) ⟨rfl, rfl⟩ rfl ?_
    rcases Classical.em (w < 0 ∨ 4 < w) with hs | hs
    · refine w_tsOutZ (pc' := 52) (pcT := 77) ⟨rfl, rfl⟩ rfl (by omega) ?_
      refine w_ic (pc' := 78) ⟨rfl, rfl⟩ ?_
      refine w_ireturn (pc' := 79) ⟨rfl, rfl⟩ (Or.inl rfl) ?_
      exact zQx k (by unfold zaX; (try simp only [Int.toNat_natCast]); first | (rw [if_pos (by omega)]; done) | ((repeat' split) <;> first | rfl | exact absurd trivial (by assumption) | (exfalso; omega)))
    · rcases (show w = 0 ∨ w = 1 ∨ w = 2 ∨ w = 3 ∨ w = 4 by omega) with hj | hj | hj | hj | hj
      · refine w_tsInZ (pc' := 52) (pcT := 52) 0 ⟨rfl, rfl⟩ (by omega) (by decide) rfl rfl ?_
        refine w_aload_n (pc' := 53) ⟨rfl, rfl⟩ rfl ?_
        refine w_getI (pc' := 56) (cl := 2) (q := 1) ⟨rfl, rfl⟩ ⟨rfl, by decide⟩ (hG.o hF) hPg.1 ?_
        refine w_ireturn (pc' := 57) ⟨rfl, rfl⟩ (Or.inl rfl) ?_
        exact zQx k (by unfold zaX; (try simp only [Int.toNat_natCast]); first | (rw [if_pos (by omega)]; done) | ((repeat' split) <;> first | rfl | exact absurd trivial (by assumption) | (exfalso; omega)))
      · refine w_tsInZ (pc' := 52) (pcT := 57) 1 ⟨rfl, rfl⟩ (by omega) (by decide) rfl rfl ?_
        refine w_aload_n (pc' := 58) ⟨rfl, rfl⟩ rfl ?_
        refine w_getI (pc' := 61) (cl := 2) (q := 2) ⟨rfl, rfl⟩ ⟨rfl, by decide⟩ (hG.o hF) hPg.2.1 ?_
        refine w_ireturn (pc' := 62) ⟨rfl, rfl⟩ (Or.inl rfl) ?_
        exact zQx k (by unfold zaX; (try simp only [Int.toNat_natCast]); first | (rw [if_pos (by omega)]; done) | ((repeat' split) <;> first | rfl | exact absurd trivial (by assumption) | (exfalso; omega)))
      · refine w_tsInZ (pc' := 52) (pcT := 62) 2 ⟨rfl, rfl⟩ (by omega) (by decide) rfl rfl ?_
        refine w_aload_n (pc' := 63) ⟨rfl, rfl⟩ rfl ?_
        refine w_getI (pc' := 66) (cl := 2) (q := 3) ⟨rfl, rfl⟩ ⟨rfl, by decide⟩ (hG.o hF) hPg.2.2.1 ?_
        refine w_ireturn (pc' := 67) ⟨rfl, rfl⟩ (Or.inl rfl) ?_
        exact zQx k (by unfold zaX; (try simp only [Int.toNat_natCast]); first | (rw [if_pos (by omega)]; done) | ((repeat' split) <;> first | rfl | exact absurd trivial (by assumption) | (exfalso; omega)))
      · refine w_tsInZ (pc' := 52) (pcT := 67) 3 ⟨rfl, rfl⟩ (by omega) (by decide) rfl rfl ?_
        refine w_aload_n (pc' := 68) ⟨rfl, rfl⟩ rfl ?_
        refine w_cv1 (pc' := 71) ⟨rfl, rfl⟩ (by decide) (hG.o hF) (Nat.le_of_ble_eq_true rfl) (Nat.le_of_ble_eq_true rfl) (c_fieldsRead hF hVt hc hG hPg ?_)
        refine w_ireturn (pc' := 72) ⟨rfl, rfl⟩ (Or.inl rfl) ?_
        exact zQx k (by unfold zaX; (try simp only [Int.toNat_natCast]); first | (rw [if_pos (by omega)]; done) | ((repeat' split) <;> first | rfl | exact absurd trivial (by assumption) | (exfalso; omega)))
      · refine w_tsInZ (pc' := 52) (pcT := 72) 4 ⟨rfl, rfl⟩ (by omega) (by decide) rfl rfl ?_
        refine w_aload_n (pc' := 73) ⟨rfl, rfl⟩ rfl ?_
        refine w_cv1 (pc' := 76) ⟨rfl, rfl⟩ (by decide) (hG.o hF) (Nat.le_of_ble_eq_true rfl) (Nat.le_of_ble_eq_true rfl) (c_fieldsFilled hF hVt hc hG hPg ?_)
        refine w_ireturn (pc' := 77) ⟨rfl, rfl⟩ (Or.inl rfl) ?_
        exact zQx k (by unfold zaX; (try simp only [Int.toNat_natCast]); first | (rw [if_pos (by omega)]; done) | ((repeat' split) <;> first | rfl | exact absurd trivial (by assumption) | (exfalso; omega)))
  · refine w_aload_n (pc' := 1) ⟨rfl, rfl⟩ rfl ?_
    refine w_getR (pc' := 4) (cl := 9) (q := 10) ⟨rfl, rfl⟩ ⟨rfl, by decide⟩ (zOl hF rfl) hPp ?_
    refine w_iload_n (pc' := 5) ⟨rfl, rfl⟩ rfl ?_
    refine w_cv2 (pc' := 8) ⟨rfl, rfl⟩ (by decide) (hP.o hF).1 (Nat.le_of_ble_eq_true rfl) (Nat.le_of_ble_eq_true rfl) (c_passageO hF hP hPl.2.1 hVt.2.1 hc0 hc ?_)
    refine w_astore_nN (pc' := 9) ⟨rfl, rfl⟩ rfl ?_
    refine w_aload_nN (pc' := 10) ⟨rfl, rfl⟩ rfl ?_
    refine w_ifnonnullN (pc' := 13) (pcT := 15) ⟨rfl, rfl⟩ rfl  ?_
    refine w_ic (pc' := 14) ⟨rfl, rfl⟩ ?_
    refine w_ireturn (pc' := 15) ⟨rfl, rfl⟩ (Or.inl rfl) ?_
    exact zQx k (by unfold zaX; (try simp only [Int.toNat_natCast]); first | (rw [if_pos (by omega)]; done) | ((repeat' split) <;> first | rfl | exact absurd trivial (by assumption) | (exfalso; omega)))
theorem r_crossing {σ : zSt} {t : zBk} (hF : zFx σ) (hVt : zVt t) (hT : zTr σ t) {c w : Int} (hc0 : (-2147483648 ≤ c ∧ c ≤ 2147483647)) (hw : (-2147483648 ≤ w ∧ w ≤ 2147483647)) {Q : zSt → Option Value → Prop} (k : Q σ (some (.int (zaX t c w)))) : zCa 248 [.ref 164, .int (iZ c), .int (iZ w)] σ Q := by
  refine w_enter (c := zk_X12_crossing) (ls2 := [(0, .ref 164), (1, .int (iZ c)), (2, .int (iZ w))]) rfl ⟨rfl, rfl, rfl, trivial⟩ ?_
  rcases zsc c (t 1) with ⟨c, rfl, hc⟩ | hc
  · have hvc := hVt.2.2.2 c hc
    have hnu := hvc.2.2.2.1
    have ht1 := hVt.2.1
    have hc4 : c < 4 := by omega
    refine w_aload_n (pc' := 1) ⟨rfl, rfl⟩ rfl ?_
    refine w_iload_n (pc' := 2) ⟨rfl, rfl⟩ rfl ?_
    refine w_cv2 (pc' := 5) ⟨rfl, rfl⟩ (by decide) (zOl hF rfl) (Nat.le_of_ble_eq_true rfl) (Nat.le_of_ble_eq_true rfl) (r_isCrossingI hF hT hVt hc ?_)
    refine w_ifT_ne (pc' := 8) (pcT := 10) ⟨rfl, rfl⟩ rfl (by decide) ?_
    refine w_iload_n (pc' := 11) ⟨rfl, rfl⟩ rfl ?_
    rcases Classical.em (w < 0 ∨ 4 < w) with hs | hs
    · refine w_tsOutZ (pc' := 44) (pcT := 74) ⟨rfl, rfl⟩ rfl (by omega) ?_
      refine w_ic (pc' := 75) ⟨rfl, rfl⟩ ?_
      refine w_ireturn (pc' := 76) ⟨rfl, rfl⟩ (Or.inl rfl) ?_
      exact zQx k (by unfold zaX; (try simp only [Int.toNat_natCast]); first | (rw [if_pos (by omega)]; done) | ((repeat' split) <;> first | rfl | exact absurd trivial (by assumption) | (exfalso; omega)))
    · rcases (show w = 0 ∨ w = 1 ∨ w = 2 ∨ w = 3 ∨ w = 4 by omega) with hj | hj | hj | hj | hj
      · refine w_tsInZ (pc' := 44) (pcT := 44) 0 ⟨rfl, rfl⟩ (by omega) (by decide) rfl rfl ?_
        refine w_aload_n (pc' := 45) ⟨rfl, rfl⟩ rfl ?_
        refine w_iload_n (pc' := 46) ⟨rfl, rfl⟩ rfl ?_
        refine w_cv2 (pc' := 49) ⟨rfl, rfl⟩ (by decide) (zOl hF rfl) (Nat.le_of_ble_eq_true rfl) (Nat.le_of_ble_eq_true rfl) (r_fromOf hF hT hc4 ?_)
        refine w_ireturn (pc' := 50) ⟨rfl, rfl⟩ (Or.inl rfl) ?_
        exact zQx k (by unfold zaX; (try simp only [Int.toNat_natCast]); first | (rw [if_pos (by omega)]; done) | ((repeat' split) <;> first | rfl | exact absurd trivial (by assumption) | (exfalso; omega)))
      · refine w_tsInZ (pc' := 44) (pcT := 50) 1 ⟨rfl, rfl⟩ (by omega) (by decide) rfl rfl ?_
        refine w_aload_n (pc' := 51) ⟨rfl, rfl⟩ rfl ?_
        refine w_iload_n (pc' := 52) ⟨rfl, rfl⟩ rfl ?_
        refine w_cv2 (pc' := 55) ⟨rfl, rfl⟩ (by decide) (zOl hF rfl) (Nat.le_of_ble_eq_true rfl) (Nat.le_of_ble_eq_true rfl) (r_toOf hF hT hc4 ?_)
        refine w_ireturn (pc' := 56) ⟨rfl, rfl⟩ (Or.inl rfl) ?_
        exact zQx k (by unfold zaX; (try simp only [Int.toNat_natCast]); first | (rw [if_pos (by omega)]; done) | ((repeat' split) <;> first | rfl | exact absurd trivial (by assumption) | (exfalso; omega)))
      · refine w_tsInZ (pc' := 44) (pcT := 56) 2 ⟨rfl, rfl⟩ (by omega) (by decide) rfl rfl ?_
        refine w_aload_n (pc' := 57) ⟨rfl, rfl⟩ rfl ?_
        refine w_iload_n (pc' := 58) ⟨rfl, rfl⟩ rfl ?_
        refine w_cv2 (pc' := 61) ⟨rfl, rfl⟩ (by decide) (zOl hF rfl) (Nat.le_of_ble_eq_true rfl) (Nat.le_of_ble_eq_true rfl) (r_ruleMany hF hT hc4 ?_)
        refine w_ireturn (pc' := 62) ⟨rfl, rfl⟩ (Or.inl rfl) ?_
        exact zQx k (by unfold zaX; (try simp only [Int.toNat_natCast]); first | (rw [if_pos (by omega)]; done) | ((repeat' split) <;> first | rfl | exact absurd trivial (by assumption) | (exfalso; omega)))
      · refine w_tsInZ (pc' := 44) (pcT := 62) 3 ⟨rfl, rfl⟩ (by omega) (by decide) rfl rfl ?_
        refine w_aload_n (pc' := 63) ⟨rfl, rfl⟩ rfl ?_
        refine w_iload_n (pc' := 64) ⟨rfl, rfl⟩ rfl ?_
        refine w_cv2 (pc' := 67) ⟨rfl, rfl⟩ (by decide) (zOl hF rfl) (Nat.le_of_ble_eq_true rfl) (Nat.le_of_ble_eq_true rfl) (r_readBits hF hT hVt hc ?_)
        refine w_ireturn (pc' := 68) ⟨rfl, rfl⟩ (Or.inl rfl) ?_
        exact zQx k (by unfold zaX; (try simp only [Int.toNat_natCast]); first | (rw [if_pos (by omega)]; done) | ((repeat' split) <;> first | rfl | exact absurd trivial (by assumption) | (exfalso; omega)))
      · refine w_tsInZ (pc' := 44) (pcT := 68) 4 ⟨rfl, rfl⟩ (by omega) (by decide) rfl rfl ?_
        refine w_aload_n (pc' := 69) ⟨rfl, rfl⟩ rfl ?_
        refine w_iload_n (pc' := 70) ⟨rfl, rfl⟩ rfl ?_
        refine w_cv2 (pc' := 73) ⟨rfl, rfl⟩ (by decide) (zOl hF rfl) (Nat.le_of_ble_eq_true rfl) (Nat.le_of_ble_eq_true rfl) (r_filledBits hF hT hVt hc ?_)
        refine w_ireturn (pc' := 74) ⟨rfl, rfl⟩ (Or.inl rfl) ?_
        exact zQx k (by unfold zaX; (try simp only [Int.toNat_natCast]); first | (rw [if_pos (by omega)]; done) | ((repeat' split) <;> first | rfl | exact absurd trivial (by assumption) | (exfalso; omega)))
  · refine w_aload_n (pc' := 1) ⟨rfl, rfl⟩ rfl ?_
    refine w_iload_n (pc' := 2) ⟨rfl, rfl⟩ rfl ?_
    refine w_cv2 (pc' := 5) ⟨rfl, rfl⟩ (by decide) (zOl hF rfl) (Nat.le_of_ble_eq_true rfl) (Nat.le_of_ble_eq_true rfl) (r_isCrossingO hF hT hVt hc0 hc ?_)
    refine w_ifF_ne (pc' := 8) ⟨rfl, rfl⟩ (by decide) ?_
    refine w_ic (pc' := 9) ⟨rfl, rfl⟩ ?_
    refine w_ireturn (pc' := 10) ⟨rfl, rfl⟩ (Or.inl rfl) ?_
    exact zQx k (by unfold zaX; (try simp only [Int.toNat_natCast]); first | (rw [if_pos (by omega)]; done) | ((repeat' split) <;> first | rfl | exact absurd trivial (by assumption) | (exfalso; omega)))
theorem c_rule {σ : zSt} {p : Nat} {t : zBk} (hF : zFx σ) (hVt : zVt t) (hPp : zR σ 0 10 = some p) (hP : zIsB p) (hPl : zPl σ p t) {c r w : Int} (hc0 : (-2147483648 ≤ c ∧ c ≤ 2147483647)) (hr0 : (-2147483648 ≤ r ∧ r ≤ 2147483647)) (hw : (-2147483648 ≤ w ∧ w ≤ 2147483647)) {Q : zSt → Option Value → Prop} (k : Q σ (some (.int (zaR t c r w)))) : zCa 135 [.ref 0, .int (iZ c), .int (iZ r), .int (iZ w)] σ Q := by
  refine w_enter (c := zk_X11_rule) (ls2 := [(0, .ref 0), (1, .int (iZ c)), (2, .int (iZ r)), (3, .int (iZ w))]) rfl ⟨rfl, rfl, rfl, rfl, trivial⟩ ?_
  rcases zsc c (t 1) with ⟨c, rfl, hc⟩ | hc
  · have hG := (hP.g hF (show c < 4 by have := hVt.2.1; omega)).2
    have hPg := hPl.2.2.2 c hc
    have hvc := hVt.2.2.2 c hc
    have hnu := hvc.2.2.2.1
    have ht1 := hVt.2.1
    rcases zsc r (zNU t c) with ⟨r, rfl, hr⟩ | hr
    · have hRu := hPg.2.2.2 r hr
      have hr6 : r < 6 := by omega
      refine w_aload_n (pc' := 1) ⟨rfl, rfl⟩ rfl ?_
      refine w_getR (pc' := 4) (cl := 9) (q := 10) ⟨rfl, rfl⟩ ⟨rfl, by decide⟩ (zOl hF rfl) hPp ?_
      refine w_iload_n (pc' := 5) ⟨rfl, rfl⟩ rfl ?_
      refine w_cv2 (pc' := 8) ⟨rfl, rfl⟩ (by decide) (hP.o hF).1 (Nat.le_of_ble_eq_true rfl) (Nat.le_of_ble_eq_true rfl) (c_passageI hF hP hPl.2.1 hVt.2.1 hc ?_)
      refine w_astore (pc' := 10) ⟨rfl, rfl⟩ rfl ?_
      refine w_aload (pc' := 12) ⟨rfl, rfl⟩ rfl ?_
      refine w_ifnonnullR (pc' := 15) (pcT := 19) ⟨rfl, rfl⟩ rfl  ?_
      refine w_aload (pc' := 21) ⟨rfl, rfl⟩ rfl ?_
      refine w_iload_n (pc' := 22) ⟨rfl, rfl⟩ rfl ?_
      refine w_cv2 (pc' := 25) ⟨rfl, rfl⟩ (by decide) (hG.o hF) (Nat.le_of_ble_eq_true rfl) (Nat.le_of_ble_eq_true rfl) (c_ruleAtI hF hG hPg.2.2.1 (by omega) hr ?_)
      refine w_astore (pc' := 27) ⟨rfl, rfl⟩ rfl ?_
      refine w_aload (pc' := 29) ⟨rfl, rfl⟩ rfl ?_
      refine w_ifnonnullR (pc' := 32) (pcT := 34) ⟨rfl, rfl⟩ rfl  ?_
      refine w_iload_n (pc' := 35) ⟨rfl, rfl⟩ rfl ?_
      rcases Classical.em (w < 0 ∨ 4 < w) with hs | hs
      · refine w_tsOutZ (pc' := 68) (pcT := 106) ⟨rfl, rfl⟩ rfl (by omega) ?_
        refine w_ic (pc' := 107) ⟨rfl, rfl⟩ ?_
        refine w_ireturn (pc' := 108) ⟨rfl, rfl⟩ (Or.inl rfl) ?_
        exact zQx k (by unfold zaR; (try simp only [Int.toNat_natCast]); first | (rw [if_pos (by omega)]; done) | ((repeat' split) <;> first | rfl | exact absurd trivial (by assumption) | (exfalso; omega)))
      · rcases (show w = 0 ∨ w = 1 ∨ w = 2 ∨ w = 3 ∨ w = 4 by omega) with hj | hj | hj | hj | hj
        · refine w_tsInZ (pc' := 68) (pcT := 68) 0 ⟨rfl, rfl⟩ (by omega) (by decide) rfl rfl ?_
          refine w_aload (pc' := 70) ⟨rfl, rfl⟩ rfl ?_
          refine w_getI (pc' := 73) (cl := 5) (q := 0) ⟨rfl, rfl⟩ ⟨rfl, by decide⟩ ((hG.r hF (by omega)).2) hRu.1 ?_
          refine w_ireturn (pc' := 74) ⟨rfl, rfl⟩ (Or.inl rfl) ?_
          exact zQx k (by unfold zaR; (try simp only [Int.toNat_natCast]); first | (rw [if_pos (by omega)]; done) | ((repeat' split) <;> first | rfl | exact absurd trivial (by assumption) | (exfalso; omega)))
        · refine w_tsInZ (pc' := 68) (pcT := 74) 1 ⟨rfl, rfl⟩ (by omega) (by decide) rfl rfl ?_
          refine w_aload (pc' := 76) ⟨rfl, rfl⟩ rfl ?_
          refine w_getI (pc' := 79) (cl := 5) (q := 1) ⟨rfl, rfl⟩ ⟨rfl, by decide⟩ ((hG.r hF (by omega)).2) hRu.2.1 ?_
          refine w_ireturn (pc' := 80) ⟨rfl, rfl⟩ (Or.inl rfl) ?_
          exact zQx k (by unfold zaR; (try simp only [Int.toNat_natCast]); first | (rw [if_pos (by omega)]; done) | ((repeat' split) <;> first | rfl | exact absurd trivial (by assumption) | (exfalso; omega)))
        · refine w_tsInZ (pc' := 68) (pcT := 80) 2 ⟨rfl, rfl⟩ (by omega) (by decide) rfl rfl ?_
          refine w_aload (pc' := 82) ⟨rfl, rfl⟩ rfl ?_
          refine w_getI (pc' := 85) (cl := 5) (q := 2) ⟨rfl, rfl⟩ ⟨rfl, by decide⟩ ((hG.r hF (by omega)).2) hRu.2.2.1 ?_
          refine w_ireturn (pc' := 86) ⟨rfl, rfl⟩ (Or.inl rfl) ?_
          exact zQx k (by unfold zaR; (try simp only [Int.toNat_natCast]); first | (rw [if_pos (by omega)]; done) | ((repeat' split) <;> first | rfl | exact absurd trivial (by assumption) | (exfalso; omega)))
        · refine w_tsInZ (pc' := 68) (pcT := 86) 3 ⟨rfl, rfl⟩ (by omega) (by decide) rfl rfl ?_
          refine w_aload (pc' := 88) ⟨rfl, rfl⟩ rfl ?_
          refine w_getI (pc' := 91) (cl := 5) (q := 3) ⟨rfl, rfl⟩ ⟨rfl, by decide⟩ ((hG.r hF (by omega)).2) hRu.2.2.2.1 ?_
          refine w_ireturn (pc' := 92) ⟨rfl, rfl⟩ (Or.inl rfl) ?_
          exact zQx k (by unfold zaR; (try simp only [Int.toNat_natCast]); first | (rw [if_pos (by omega)]; done) | ((repeat' split) <;> first | rfl | exact absurd trivial (by assumption) | (exfalso; omega)))
        · refine w_tsInZ (pc' := 68) (pcT := 92) 4 ⟨rfl, rfl⟩ (by omega) (by decide) rfl rfl ?_
          refine w_aload (pc' := 94) ⟨rfl, rfl⟩ rfl ?_
          refine w_getZ (pc' := 97) (cl := 5) (q := 7) ⟨rfl, rfl⟩ ⟨rfl, by decide⟩ ((hG.r hF (by omega)).2) hRu.2.2.2.2.2.2.2 ?_
          refine w_if_eq (pc' := 100) (pcT := 104) ⟨rfl, rfl⟩ rfl (by omega) (fun h1 => ?_) (fun h1 => ?_)
          · refine w_ic (pc' := 105) ⟨rfl, rfl⟩ ?_
            refine w_ireturn (pc' := 106) ⟨rfl, rfl⟩ (Or.inl rfl) ?_
            exact zQx k (by unfold zaR; (try simp only [Int.toNat_natCast]); first | (rw [if_pos (by omega)]; done) | ((repeat' split) <;> first | rfl | exact absurd trivial (by assumption) | (exfalso; omega)))
          · refine w_ic (pc' := 101) ⟨rfl, rfl⟩ ?_
            refine w_goto (pc' := 104) (pcT := 105) ⟨rfl, rfl⟩ rfl ?_
            refine w_ireturn (pc' := 106) ⟨rfl, rfl⟩ (Or.inl rfl) ?_
            exact zQx k (by unfold zaR; (try simp only [Int.toNat_natCast]); first | (rw [if_pos (by omega)]; done) | ((repeat' split) <;> first | rfl | exact absurd trivial (by assumption) | (exfalso; omega)))
    · refine w_aload_n (pc' := 1) ⟨rfl, rfl⟩ rfl ?_
      refine w_getR (pc' := 4) (cl := 9) (q := 10) ⟨rfl, rfl⟩ ⟨rfl, by decide⟩ (zOl hF rfl) hPp ?_
      refine w_iload_n (pc' := 5) ⟨rfl, rfl⟩ rfl ?_
      refine w_cv2 (pc' := 8) ⟨rfl, rfl⟩ (by decide) (hP.o hF).1 (Nat.le_of_ble_eq_true rfl) (Nat.le_of_ble_eq_true rfl) (c_passageI hF hP hPl.2.1 hVt.2.1 hc ?_)
      refine w_astore (pc' := 10) ⟨rfl, rfl⟩ rfl ?_
      refine w_aload (pc' := 12) ⟨rfl, rfl⟩ rfl ?_
      refine w_ifnonnullR (pc' := 15) (pcT := 19) ⟨rfl, rfl⟩ rfl  ?_
      refine w_aload (pc' := 21) ⟨rfl, rfl⟩ rfl ?_
      refine w_iload_n (pc' := 22) ⟨rfl, rfl⟩ rfl ?_
      refine w_cv2 (pc' := 25) ⟨rfl, rfl⟩ (by decide) (hG.o hF) (Nat.le_of_ble_eq_true rfl) (Nat.le_of_ble_eq_true rfl) (c_ruleAtO hF hG hPg.2.2.1 (by omega) hr0 hr ?_)
      refine w_astoreN (pc' := 27) ⟨rfl, rfl⟩ rfl ?_
      refine w_aloadN (pc' := 29) ⟨rfl, rfl⟩ rfl ?_
      refine w_ifnonnullN (pc' := 32) (pcT := 34) ⟨rfl, rfl⟩ rfl  ?_
      refine w_ic (pc' := 33) ⟨rfl, rfl⟩ ?_
      refine w_ireturn (pc' := 34) ⟨rfl, rfl⟩ (Or.inl rfl) ?_
      exact zQx k (by unfold zaR; (try simp only [Int.toNat_natCast]); first | (rw [if_pos (by omega)]; done) | ((repeat' split) <;> first | rfl | exact absurd trivial (by assumption) | (exfalso; omega)))
  · refine w_aload_n (pc' := 1) ⟨rfl, rfl⟩ rfl ?_
    refine w_getR (pc' := 4) (cl := 9) (q := 10) ⟨rfl, rfl⟩ ⟨rfl, by decide⟩ (zOl hF rfl) hPp ?_
    refine w_iload_n (pc' := 5) ⟨rfl, rfl⟩ rfl ?_
    refine w_cv2 (pc' := 8) ⟨rfl, rfl⟩ (by decide) (hP.o hF).1 (Nat.le_of_ble_eq_true rfl) (Nat.le_of_ble_eq_true rfl) (c_passageO hF hP hPl.2.1 hVt.2.1 hc0 hc ?_)
    refine w_astoreN (pc' := 10) ⟨rfl, rfl⟩ rfl ?_
    refine w_aloadN (pc' := 12) ⟨rfl, rfl⟩ rfl ?_
    refine w_ifnonnullN (pc' := 15) (pcT := 19) ⟨rfl, rfl⟩ rfl  ?_
    refine w_null (pc' := 16) ⟨rfl, rfl⟩ ?_
    refine w_goto (pc' := 19) (pcT := 25) ⟨rfl, rfl⟩ rfl ?_
    refine w_astoreN (pc' := 27) ⟨rfl, rfl⟩ rfl ?_
    refine w_aloadN (pc' := 29) ⟨rfl, rfl⟩ rfl ?_
    refine w_ifnonnullN (pc' := 32) (pcT := 34) ⟨rfl, rfl⟩ rfl  ?_
    refine w_ic (pc' := 33) ⟨rfl, rfl⟩ ?_
    refine w_ireturn (pc' := 34) ⟨rfl, rfl⟩ (Or.inl rfl) ?_
    exact zQx k (by unfold zaR; (try simp only [Int.toNat_natCast]); first | (rw [if_pos (by omega)]; done) | ((repeat' split) <;> first | rfl | exact absurd trivial (by assumption) | (exfalso; omega)))
theorem r_rule {σ : zSt} {t : zBk} (hF : zFx σ) (hVt : zVt t) (hT : zTr σ t) (hW : zWid σ) {c r w : Int} (hc0 : (-2147483648 ≤ c ∧ c ≤ 2147483647)) (hr0 : (-2147483648 ≤ r ∧ r ≤ 2147483647)) (hw : (-2147483648 ≤ w ∧ w ≤ 2147483647)) {Q : zSt → Option Value → Prop} (k : Q σ (some (.int (zaR t c r w)))) : zCa 251 [.ref 164, .int (iZ c), .int (iZ r), .int (iZ w)] σ Q := by
  refine w_enter (c := zk_X12_rule_) (ls2 := [(0, .ref 164), (1, .int (iZ c)), (2, .int (iZ r)), (3, .int (iZ w))]) rfl ⟨rfl, rfl, rfl, rfl, trivial⟩ ?_
  rcases zsc c (t 1) with ⟨c, rfl, hc⟩ | hc
  · have hvc := hVt.2.2.2 c hc
    have hnu := hvc.2.2.2.1
    have ht1 := hVt.2.1
    have hc4 : c < 4 := by omega
    rcases zsc r (zNU t c) with ⟨r, rfl, hr⟩ | hr
    · have hr6 : r < 6 := by omega
      refine w_aload_n (pc' := 1) ⟨rfl, rfl⟩ rfl ?_
      refine w_iload_n (pc' := 2) ⟨rfl, rfl⟩ rfl ?_
      refine w_cv2 (pc' := 5) ⟨rfl, rfl⟩ (by decide) (zOl hF rfl) (Nat.le_of_ble_eq_true rfl) (Nat.le_of_ble_eq_true rfl) (r_isCrossingI hF hT hVt hc ?_)
      refine w_ifF_eq (pc' := 8) ⟨rfl, rfl⟩ (by decide) ?_
      refine w_iload_n (pc' := 9) ⟨rfl, rfl⟩ rfl ?_
      refine w_i2lZ (pc' := 10) ⟨rfl, rfl⟩ (by omega) ?_
      refine w_lc (pc' := 11) (z := 0) ⟨rfl, rfl⟩ rfl ?_
      refine w_aload_n (pc' := 12) ⟨rfl, rfl⟩ rfl ?_
      refine w_iload_n (pc' := 13) ⟨rfl, rfl⟩ rfl ?_
      refine w_cv2 (pc' := 16) ⟨rfl, rfl⟩ (by decide) (zOl hF rfl) (Nat.le_of_ble_eq_true rfl) (Nat.le_of_ble_eq_true rfl) (r_ruleMany hF hT hc4 ?_)
      refine w_ic (pc' := 17) ⟨rfl, rfl⟩ ?_
      refine w_isubZ (pc' := 18) ⟨rfl, rfl⟩ ?_
      refine w_i2lZ (pc' := 19) ⟨rfl, rfl⟩ (by omega) ?_
      refine w_cs3 (pc' := 22) ⟨rfl, rfl⟩ (by decide) (Nat.le_of_ble_eq_true rfl) (Nat.le_of_ble_eq_true rfl) (r_isIn (by omega) (by omega) (by omega) (fun h => ?_) (fun h => ?_))
      · refine w_ifF_eq (pc' := 25) ⟨rfl, rfl⟩ (by decide) ?_
        refine w_iload_n (pc' := 26) ⟨rfl, rfl⟩ rfl ?_
        refine w_i2lZ (pc' := 27) ⟨rfl, rfl⟩ (by omega) ?_
        refine w_lc (pc' := 28) (z := 0) ⟨rfl, rfl⟩ rfl ?_
        refine w_ldc2Y (pc' := 31) (z := 4) ⟨rfl, rfl⟩ rfl ?_
        refine w_cs3 (pc' := 34) ⟨rfl, rfl⟩ (by decide) (Nat.le_of_ble_eq_true rfl) (Nat.le_of_ble_eq_true rfl) (r_isIn (by omega) (by omega) (by omega) (fun h => ?_) (fun h => ?_))
        · refine w_ifT_ne (pc' := 37) (pcT := 39) ⟨rfl, rfl⟩ rfl (by decide) ?_
          refine w_iload_n (pc' := 40) ⟨rfl, rfl⟩ rfl ?_
          refine w_ic (pc' := 41) ⟨rfl, rfl⟩ ?_
          refine w_ic_ne (pc' := 44) (pcT := 66) ⟨rfl, rfl⟩ rfl (by omega) (by omega) (fun h1 => ?_) (fun h1 => ?_)
          · refine w_aload_n (pc' := 67) ⟨rfl, rfl⟩ rfl ?_
            refine w_iload_n (pc' := 68) ⟨rfl, rfl⟩ rfl ?_
            refine w_iload_n (pc' := 69) ⟨rfl, rfl⟩ rfl ?_
            refine w_iload_n (pc' := 70) ⟨rfl, rfl⟩ rfl ?_
            rcases (show w = 0 ∨ w = 1 ∨ w = 2 ∨ w = 3 by omega) with rfl | rfl | rfl | rfl
            · refine w_cv4 (pc' := 73) ⟨rfl, rfl⟩ (by decide) (zOl hF rfl) (Nat.le_of_ble_eq_true rfl) (Nat.le_of_ble_eq_true rfl) (r_ruleHas0 hF hT hc4 hr6 ?_)
              refine w_ireturn (pc' := 74) ⟨rfl, rfl⟩ (Or.inl rfl) ?_
              exact zQx k (by unfold zaR; (try simp only [Int.toNat_natCast]); first | (rw [if_pos (by omega)]; done) | ((repeat' split) <;> first | rfl | exact absurd trivial (by assumption) | (exfalso; omega)))
            · refine w_cv4 (pc' := 73) ⟨rfl, rfl⟩ (by decide) (zOl hF rfl) (Nat.le_of_ble_eq_true rfl) (Nat.le_of_ble_eq_true rfl) (r_ruleHas1 hF hT hc4 hr6 ?_)
              refine w_ireturn (pc' := 74) ⟨rfl, rfl⟩ (Or.inl rfl) ?_
              exact zQx k (by unfold zaR; (try simp only [Int.toNat_natCast]); first | (rw [if_pos (by omega)]; done) | ((repeat' split) <;> first | rfl | exact absurd trivial (by assumption) | (exfalso; omega)))
            · refine w_cv4 (pc' := 73) ⟨rfl, rfl⟩ (by decide) (zOl hF rfl) (Nat.le_of_ble_eq_true rfl) (Nat.le_of_ble_eq_true rfl) (r_ruleHas2 hF hT hc4 hr6 ?_)
              refine w_ireturn (pc' := 74) ⟨rfl, rfl⟩ (Or.inl rfl) ?_
              exact zQx k (by unfold zaR; (try simp only [Int.toNat_natCast]); first | (rw [if_pos (by omega)]; done) | ((repeat' split) <;> first | rfl | exact absurd trivial (by assumption) | (exfalso; omega)))
            · refine w_cv4 (pc' := 73) ⟨rfl, rfl⟩ (by decide) (zOl hF rfl) (Nat.le_of_ble_eq_true rfl) (Nat.le_of_ble_eq_true rfl) (r_ruleHas3 hF hT hc4 hr6 ?_)
              refine w_ireturn (pc' := 74) ⟨rfl, rfl⟩ (Or.inl rfl) ?_
              exact zQx k (by unfold zaR; (try simp only [Int.toNat_natCast]); first | (rw [if_pos (by omega)]; done) | ((repeat' split) <;> first | rfl | exact absurd trivial (by assumption) | (exfalso; omega)))
          · refine w_aload_n (pc' := 45) ⟨rfl, rfl⟩ rfl ?_
            refine w_aload_n (pc' := 46) ⟨rfl, rfl⟩ rfl ?_
            refine w_iload_n (pc' := 47) ⟨rfl, rfl⟩ rfl ?_
            refine w_iload_n (pc' := 48) ⟨rfl, rfl⟩ rfl ?_
            refine w_cv3 (pc' := 51) ⟨rfl, rfl⟩ (by decide) (zOl hF rfl) (Nat.le_of_ble_eq_true rfl) (Nat.le_of_ble_eq_true rfl) (r_madeKind hF hT hVt hc hr ?_)
            refine w_aload_n (pc' := 52) ⟨rfl, rfl⟩ rfl ?_
            refine w_iload_n (pc' := 53) ⟨rfl, rfl⟩ rfl ?_
            refine w_iload_n (pc' := 54) ⟨rfl, rfl⟩ rfl ?_
            refine w_cv3 (pc' := 57) ⟨rfl, rfl⟩ (by decide) (zOl hF rfl) (Nat.le_of_ble_eq_true rfl) (Nat.le_of_ble_eq_true rfl) (r_targetKind hF hT hVt hc hr ?_)
            refine w_cv3 (pc' := 60) ⟨rfl, rfl⟩ (by decide) (zOl hF rfl) (Nat.le_of_ble_eq_true rfl) (Nat.le_of_ble_eq_true rfl) (r_doesWidenZ hF hW (zMK_rng hVt hc hr).1 (zMK_rng hVt hc hr).2.1 (fun h => ?_) (fun h => ?_))
            · refine w_cs1 (pc' := 63) ⟨rfl, rfl⟩ (by decide) (Nat.le_of_ble_eq_true rfl) (Nat.le_of_ble_eq_true rfl) (r_flag (by omega) ?_)
              refine w_goto (pc' := 66) (pcT := 73) ⟨rfl, rfl⟩ rfl ?_
              refine w_ireturn (pc' := 74) ⟨rfl, rfl⟩ (Or.inl rfl) ?_
              exact zQx k (by unfold zaR; (try simp only [Int.toNat_natCast]); first | (rw [if_pos (by omega)]; done) | ((repeat' split) <;> first | rfl | exact absurd trivial (by assumption) | (exfalso; omega)))
            · refine w_cs1 (pc' := 63) ⟨rfl, rfl⟩ (by decide) (Nat.le_of_ble_eq_true rfl) (Nat.le_of_ble_eq_true rfl) (r_flag (by omega) ?_)
              refine w_goto (pc' := 66) (pcT := 73) ⟨rfl, rfl⟩ rfl ?_
              refine w_ireturn (pc' := 74) ⟨rfl, rfl⟩ (Or.inl rfl) ?_
              exact zQx k (by unfold zaR; (try simp only [Int.toNat_natCast]); first | (rw [if_pos (by omega)]; done) | ((repeat' split) <;> first | rfl | exact absurd trivial (by assumption) | (exfalso; omega)))
        · refine w_ifF_ne (pc' := 37) ⟨rfl, rfl⟩ (by decide) ?_
          refine w_ic (pc' := 38) ⟨rfl, rfl⟩ ?_
          refine w_ireturn (pc' := 39) ⟨rfl, rfl⟩ (Or.inl rfl) ?_
          exact zQx k (by unfold zaR; (try simp only [Int.toNat_natCast]); first | (rw [if_pos (by omega)]; done) | ((repeat' split) <;> first | rfl | exact absurd trivial (by assumption) | (exfalso; omega)))
      · exfalso; omega
    · refine w_aload_n (pc' := 1) ⟨rfl, rfl⟩ rfl ?_
      refine w_iload_n (pc' := 2) ⟨rfl, rfl⟩ rfl ?_
      refine w_cv2 (pc' := 5) ⟨rfl, rfl⟩ (by decide) (zOl hF rfl) (Nat.le_of_ble_eq_true rfl) (Nat.le_of_ble_eq_true rfl) (r_isCrossingI hF hT hVt hc ?_)
      refine w_ifF_eq (pc' := 8) ⟨rfl, rfl⟩ (by decide) ?_
      refine w_iload_n (pc' := 9) ⟨rfl, rfl⟩ rfl ?_
      refine w_i2lZ (pc' := 10) ⟨rfl, rfl⟩ (by omega) ?_
      refine w_lc (pc' := 11) (z := 0) ⟨rfl, rfl⟩ rfl ?_
      refine w_aload_n (pc' := 12) ⟨rfl, rfl⟩ rfl ?_
      refine w_iload_n (pc' := 13) ⟨rfl, rfl⟩ rfl ?_
      refine w_cv2 (pc' := 16) ⟨rfl, rfl⟩ (by decide) (zOl hF rfl) (Nat.le_of_ble_eq_true rfl) (Nat.le_of_ble_eq_true rfl) (r_ruleMany hF hT hc4 ?_)
      refine w_ic (pc' := 17) ⟨rfl, rfl⟩ ?_
      refine w_isubZ (pc' := 18) ⟨rfl, rfl⟩ ?_
      refine w_i2lZ (pc' := 19) ⟨rfl, rfl⟩ (by omega) ?_
      refine w_cs3 (pc' := 22) ⟨rfl, rfl⟩ (by decide) (Nat.le_of_ble_eq_true rfl) (Nat.le_of_ble_eq_true rfl) (r_isIn (by omega) (by omega) (by omega) (fun h => ?_) (fun h => ?_))
      · exfalso; omega
      · refine w_ifT_eq (pc' := 25) (pcT := 37) ⟨rfl, rfl⟩ rfl (by decide) ?_
        refine w_ic (pc' := 38) ⟨rfl, rfl⟩ ?_
        refine w_ireturn (pc' := 39) ⟨rfl, rfl⟩ (Or.inl rfl) ?_
        exact zQx k (by unfold zaR; (try simp only [Int.toNat_natCast]); first | (rw [if_pos (by omega)]; done) | ((repeat' split) <;> first | rfl | exact absurd trivial (by assumption) | (exfalso; omega)))
  · refine w_aload_n (pc' := 1) ⟨rfl, rfl⟩ rfl ?_
    refine w_iload_n (pc' := 2) ⟨rfl, rfl⟩ rfl ?_
    refine w_cv2 (pc' := 5) ⟨rfl, rfl⟩ (by decide) (zOl hF rfl) (Nat.le_of_ble_eq_true rfl) (Nat.le_of_ble_eq_true rfl) (r_isCrossingO hF hT hVt hc0 hc ?_)
    refine w_ifT_eq (pc' := 8) (pcT := 37) ⟨rfl, rfl⟩ rfl (by decide) ?_
    refine w_ic (pc' := 38) ⟨rfl, rfl⟩ ?_
    refine w_ireturn (pc' := 39) ⟨rfl, rfl⟩ (Or.inl rfl) ?_
    exact zQx k (by unfold zaR; (try simp only [Int.toNat_natCast]); first | (rw [if_pos (by omega)]; done) | ((repeat' split) <;> first | rfl | exact absurd trivial (by assumption) | (exfalso; omega)))
theorem c_widens {σ : zSt} {a b : Int} (ha : (-2147483648 ≤ a ∧ a ≤ 2147483647)) (hb : (-2147483648 ≤ b ∧ b ≤ 2147483647)) {Q : zSt → Option Value → Prop} (k : Q σ (some (.int (iZ (zaW a b))))) : zCa 136 [.ref 0, .int (iZ a), .int (iZ b)] σ Q := by
  refine w_enter (c := zk_X11_widens) (ls2 := [(0, .ref 0), (1, .int (iZ a)), (2, .int (iZ b))]) rfl ⟨rfl, rfl, rfl, trivial⟩ ?_
  refine w_iload_n (pc' := 1) ⟨rfl, rfl⟩ rfl ?_
  refine w_if_lt (pc' := 4) (pcT := 20) ⟨rfl, rfl⟩ rfl (by omega) (fun h1 => ?_) (fun h1 => ?_)
  · refine w_ic (pc' := 21) ⟨rfl, rfl⟩ ?_
    refine w_ireturn (pc' := 22) ⟨rfl, rfl⟩ (Or.inl rfl) ?_
    exact zQi k (by unfold zaW; (try simp only [Int.toNat_natCast]); first | (rw [if_pos (by omega)]; done) | ((repeat' split) <;> first | omega | exact absurd trivial (by assumption) | rfl))
  · refine w_iload_n (pc' := 5) ⟨rfl, rfl⟩ rfl ?_
    refine w_bi (pc' := 7) ⟨rfl, rfl⟩ (by decide) ?_
    refine w_ic_gt (pc' := 10) (pcT := 20) ⟨rfl, rfl⟩ rfl (by omega) (by omega) (fun h2 => ?_) (fun h2 => ?_)
    · refine w_ic (pc' := 21) ⟨rfl, rfl⟩ ?_
      refine w_ireturn (pc' := 22) ⟨rfl, rfl⟩ (Or.inl rfl) ?_
      exact zQi k (by unfold zaW; (try simp only [Int.toNat_natCast]); first | (rw [if_pos (by omega)]; done) | ((repeat' split) <;> first | omega | exact absurd trivial (by assumption) | rfl))
    · refine w_iload_n (pc' := 11) ⟨rfl, rfl⟩ rfl ?_
      refine w_if_lt (pc' := 14) (pcT := 20) ⟨rfl, rfl⟩ rfl (by omega) (fun h3 => ?_) (fun h3 => ?_)
      · refine w_ic (pc' := 21) ⟨rfl, rfl⟩ ?_
        refine w_ireturn (pc' := 22) ⟨rfl, rfl⟩ (Or.inl rfl) ?_
        exact zQi k (by unfold zaW; (try simp only [Int.toNat_natCast]); first | (rw [if_pos (by omega)]; done) | ((repeat' split) <;> first | omega | exact absurd trivial (by assumption) | rfl))
      · refine w_iload_n (pc' := 15) ⟨rfl, rfl⟩ rfl ?_
        refine w_bi (pc' := 17) ⟨rfl, rfl⟩ (by decide) ?_
        refine w_ic_le (pc' := 20) (pcT := 22) ⟨rfl, rfl⟩ rfl (by omega) (by omega) (fun h4 => ?_) (fun h4 => ?_)
        · refine w_iload_n (pc' := 23) ⟨rfl, rfl⟩ rfl ?_
          refine w_iload_n (pc' := 24) ⟨rfl, rfl⟩ rfl ?_
          refine w_cs2 (pc' := 27) ⟨rfl, rfl⟩ (by decide) (Nat.le_of_ble_eq_true rfl) (Nat.le_of_ble_eq_true rfl) (c_goesInto (by omega) (by omega) (fun h => ?_) (fun h => ?_))
          · refine w_ifF_eq (pc' := 30) ⟨rfl, rfl⟩ (by decide) ?_
            refine w_ic (pc' := 31) ⟨rfl, rfl⟩ ?_
            refine w_goto (pc' := 34) (pcT := 35) ⟨rfl, rfl⟩ rfl ?_
            refine w_ireturn (pc' := 36) ⟨rfl, rfl⟩ (Or.inl rfl) ?_
            exact zQi k (by unfold zaW; (try simp only [Int.toNat_natCast]); first | (rw [if_pos (by omega)]; done) | ((repeat' split) <;> first | omega | exact absurd trivial (by assumption) | rfl))
          · refine w_ifT_eq (pc' := 30) (pcT := 34) ⟨rfl, rfl⟩ rfl (by decide) ?_
            refine w_ic (pc' := 35) ⟨rfl, rfl⟩ ?_
            refine w_ireturn (pc' := 36) ⟨rfl, rfl⟩ (Or.inl rfl) ?_
            exact zQi k (by unfold zaW; (try simp only [Int.toNat_natCast]); first | (rw [if_pos (by omega)]; done) | ((repeat' split) <;> first | omega | exact absurd trivial (by assumption) | rfl))
        · refine w_ic (pc' := 21) ⟨rfl, rfl⟩ ?_
          refine w_ireturn (pc' := 22) ⟨rfl, rfl⟩ (Or.inl rfl) ?_
          exact zQi k (by unfold zaW; (try simp only [Int.toNat_natCast]); first | (rw [if_pos (by omega)]; done) | ((repeat' split) <;> first | omega | exact absurd trivial (by assumption) | rfl))
theorem r_widens {σ : zSt} (hF : zFx σ) (hW : zWid σ) {a b : Int} (ha : (-2147483648 ≤ a ∧ a ≤ 2147483647)) (hb : (-2147483648 ≤ b ∧ b ≤ 2147483647)) {Q : zSt → Option Value → Prop} (k : Q σ (some (.int (iZ (zaW a b))))) : zCa 252 [.ref 164, .int (iZ a), .int (iZ b)] σ Q := by
  refine w_enter (c := zk_X12_widens) (ls2 := [(0, .ref 164), (1, .int (iZ a)), (2, .int (iZ b))]) rfl ⟨rfl, rfl, rfl, trivial⟩ ?_
  refine w_iload_n (pc' := 1) ⟨rfl, rfl⟩ rfl ?_
  refine w_i2lZ (pc' := 2) ⟨rfl, rfl⟩ (by omega) ?_
  refine w_lc (pc' := 3) (z := 0) ⟨rfl, rfl⟩ rfl ?_
  refine w_ldc2Y (pc' := 6) (z := 8) ⟨rfl, rfl⟩ rfl ?_
  refine w_cs3 (pc' := 9) ⟨rfl, rfl⟩ (by decide) (Nat.le_of_ble_eq_true rfl) (Nat.le_of_ble_eq_true rfl) (r_isIn (by omega) (by omega) (by omega) (fun h => ?_) (fun h => ?_))
  · refine w_ifF_eq (pc' := 12) ⟨rfl, rfl⟩ (by decide) ?_
    refine w_iload_n (pc' := 13) ⟨rfl, rfl⟩ rfl ?_
    refine w_i2lZ (pc' := 14) ⟨rfl, rfl⟩ (by omega) ?_
    refine w_lc (pc' := 15) (z := 0) ⟨rfl, rfl⟩ rfl ?_
    refine w_ldc2Y (pc' := 18) (z := 8) ⟨rfl, rfl⟩ rfl ?_
    refine w_cs3 (pc' := 21) ⟨rfl, rfl⟩ (by decide) (Nat.le_of_ble_eq_true rfl) (Nat.le_of_ble_eq_true rfl) (r_isIn (by omega) (by omega) (by omega) (fun h => ?_) (fun h => ?_))
    · refine w_ifF_eq (pc' := 24) ⟨rfl, rfl⟩ (by decide) ?_
      refine w_aload_n (pc' := 25) ⟨rfl, rfl⟩ rfl ?_
      refine w_iload_n (pc' := 26) ⟨rfl, rfl⟩ rfl ?_
      refine w_iload_n (pc' := 27) ⟨rfl, rfl⟩ rfl ?_
      refine w_cv3 (pc' := 30) ⟨rfl, rfl⟩ (by decide) (zOl hF rfl) (Nat.le_of_ble_eq_true rfl) (Nat.le_of_ble_eq_true rfl) (r_doesWidenZ hF hW (by omega) (by omega) (fun h => ?_) (fun h => ?_))
      · refine w_cs1 (pc' := 33) ⟨rfl, rfl⟩ (by decide) (Nat.le_of_ble_eq_true rfl) (Nat.le_of_ble_eq_true rfl) (r_flag (by omega) ?_)
        refine w_goto (pc' := 36) (pcT := 37) ⟨rfl, rfl⟩ rfl ?_
        refine w_ireturn (pc' := 38) ⟨rfl, rfl⟩ (Or.inl rfl) ?_
        exact zQi k (by unfold zaW; (try simp only [Int.toNat_natCast]); first | (rw [if_pos (by omega)]; done) | ((repeat' split) <;> first | omega | exact absurd trivial (by assumption) | rfl))
      · refine w_cs1 (pc' := 33) ⟨rfl, rfl⟩ (by decide) (Nat.le_of_ble_eq_true rfl) (Nat.le_of_ble_eq_true rfl) (r_flag (by omega) ?_)
        refine w_goto (pc' := 36) (pcT := 37) ⟨rfl, rfl⟩ rfl ?_
        refine w_ireturn (pc' := 38) ⟨rfl, rfl⟩ (Or.inl rfl) ?_
        exact zQi k (by unfold zaW; (try simp only [Int.toNat_natCast]); first | (rw [if_pos (by omega)]; done) | ((repeat' split) <;> first | omega | exact absurd trivial (by assumption) | rfl))
    · refine w_ifT_eq (pc' := 24) (pcT := 36) ⟨rfl, rfl⟩ rfl (by decide) ?_
      refine w_ic (pc' := 37) ⟨rfl, rfl⟩ ?_
      refine w_ireturn (pc' := 38) ⟨rfl, rfl⟩ (Or.inl rfl) ?_
      exact zQi k (by unfold zaW; (try simp only [Int.toNat_natCast]); first | (rw [if_pos (by omega)]; done) | ((repeat' split) <;> first | omega | exact absurd trivial (by assumption) | rfl))
  · refine w_ifT_eq (pc' := 12) (pcT := 36) ⟨rfl, rfl⟩ rfl (by decide) ?_
    refine w_ic (pc' := 37) ⟨rfl, rfl⟩ ?_
    refine w_ireturn (pc' := 38) ⟨rfl, rfl⟩ (Or.inl rfl) ?_
    exact zQi k (by unfold zaW; (try simp only [Int.toNat_natCast]); first | (rw [if_pos (by omega)]; done) | ((repeat' split) <;> first | omega | exact absurd trivial (by assumption) | rfl))
