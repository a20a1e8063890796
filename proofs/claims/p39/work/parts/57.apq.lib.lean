/-! of whole, what this claim takes: 57.apq.lean.txt -/
def zaF (t : zBk) (s f w : Int) : Int := if s < 0 ∨ t 0 ≤ s ∨ f < 0 ∨ zNF t s.toNat ≤ f then -1 else if w = 0 then zKD t s.toNat f.toNat else if w = 1 then zCE t s.toNat f.toNat else -1
def zaW (a b : Int) : Int := if a < 0 ∨ 8 < a ∨ b < 0 ∨ 8 < b then -1 else if zgi a b then 1 else 0
def zaH (t : zBk) (c : Nat → Int) (u w : Int) : Int := if w < 0 ∨ 9 < w then -1 else if w = 0 then t 0 else if w = 1 then t 1 else if w = 2 then c 0 + c 1 + c 2 else if w = 3 then u else if t 0 ≤ (w - 4) % 3 then -1 else if w < 7 then c (w - 4).toNat else zNF t (w - 7).toNat
theorem c_field {σ : zSt} {p : Nat} {t : zBk} (hF : zFx σ) (hVt : zVt t) (hPp : zR σ 0 10 = some p) (hP : zIsB p) (hPl : zPl σ p t) {s f w : Int} (hs : (-2147483648 ≤ s ∧ s ≤ 2147483647)) (hf0 : (-2147483648 ≤ f ∧ f ≤ 2147483647)) (hw : (-2147483648 ≤ w ∧ w ≤ 2147483647)) {Q : zSt → Option Value → Prop} (k : Q σ (some (.int (iZ (zaF t s f w))))) : zCa 97 [.ref 0, .int (iZ s), .int (iZ f), .int (iZ w)] σ Q := by
  refine w_enter (c := zk_X11_field) (ls2 := [(0, .ref 0), (1, .int (iZ s)), (2, .int (iZ f)), (3, .int (iZ w))]) rfl ⟨rfl, rfl, rfl, rfl, trivial⟩ ?_
  rcases zsc s (t 0) with ⟨u, rfl, hu⟩ | hu
  · have hO := (hP.s hF (zu3 hVt hu)).2
    have hS := hPl.2.2.1 u hu
    have hV := (hVt.2.2.1 u hu).1
    have hV1 := hV.1
    have ht0 := hVt.1
    rcases zsc f (zNF t u) with ⟨f, rfl, hf⟩ | hf
    · refine w_aload_n (pc' := 1) ⟨rfl, rfl⟩ rfl ?_
      refine w_getR (pc' := 4) (cl := 9) (q := 10) ⟨rfl, rfl⟩ ⟨rfl, by decide⟩ (zOl hF rfl) hPp ?_
      refine w_iload_n (pc' := 5) ⟨rfl, rfl⟩ rfl ?_
      refine w_cv2 (pc' := 8) ⟨rfl, rfl⟩ (by decide) (hP.o hF).1 (Nat.le_of_ble_eq_true rfl) (Nat.le_of_ble_eq_true rfl) (c_shapeI hF hP hPl.1 hVt.1 hu ?_)
      refine w_astore (pc' := 10) ⟨rfl, rfl⟩ rfl ?_
      refine w_aload (pc' := 12) ⟨rfl, rfl⟩ rfl ?_
      refine w_ifnullR (pc' := 15) (pcT := 24) ⟨rfl, rfl⟩ rfl  ?_
      refine w_aload (pc' := 17) ⟨rfl, rfl⟩ rfl ?_
      refine w_iload_n (pc' := 18) ⟨rfl, rfl⟩ rfl ?_
      refine w_cv2 (pc' := 21) ⟨rfl, rfl⟩ (by decide) (hO.o hF) (Nat.le_of_ble_eq_true rfl) (Nat.le_of_ble_eq_true rfl) (c_hasFieldI hF hO hS hV hf ?_)
      refine w_ifT_ne (pc' := 24) (pcT := 26) ⟨rfl, rfl⟩ rfl (by decide) ?_
      refine w_iload_n (pc' := 27) ⟨rfl, rfl⟩ rfl ?_
      refine w_if_ne (pc' := 30) (pcT := 40) ⟨rfl, rfl⟩ rfl (by omega) (fun h1 => ?_) (fun h1 => ?_)
      · refine w_iload_n (pc' := 41) ⟨rfl, rfl⟩ rfl ?_
        refine w_ic (pc' := 42) ⟨rfl, rfl⟩ ?_
        refine w_ic_ne (pc' := 45) (pcT := 55) ⟨rfl, rfl⟩ rfl (by omega) (by omega) (fun h2 => ?_) (fun h2 => ?_)
        · refine w_ic (pc' := 56) ⟨rfl, rfl⟩ ?_
          refine w_ireturn (pc' := 57) ⟨rfl, rfl⟩ (Or.inl rfl) ?_
          exact zQi k (by unfold zaF; (try simp only [Int.toNat_natCast]); first | (rw [if_pos (by omega)]; done) | ((repeat' split) <;> first | omega | exact absurd trivial (by assumption) | rfl))
        · refine w_aload (pc' := 47) ⟨rfl, rfl⟩ rfl ?_
          refine w_getR (pc' := 50) (cl := 6) (q := 2) ⟨rfl, rfl⟩ ⟨rfl, by decide⟩ (hO.o hF) (hO.p hF).2.2.1 ?_
          refine w_iload_n (pc' := 51) ⟨rfl, rfl⟩ rfl ?_
          refine w_iald (pc' := 52) ⟨rfl, rfl⟩ (hO.a hF).2.2.1 (zixZ (by omega)) (hS.2.2 f hf).2.1 ?_
          refine w_goto (pc' := 55) (pcT := 56) ⟨rfl, rfl⟩ rfl ?_
          refine w_ireturn (pc' := 57) ⟨rfl, rfl⟩ (Or.inl rfl) ?_
          exact zQi k (by unfold zaF; (try simp only [Int.toNat_natCast]); first | (rw [if_pos (by omega)]; done) | ((repeat' split) <;> first | omega | exact absurd trivial (by assumption) | rfl))
      · refine w_aload (pc' := 32) ⟨rfl, rfl⟩ rfl ?_
        refine w_getR (pc' := 35) (cl := 6) (q := 1) ⟨rfl, rfl⟩ ⟨rfl, by decide⟩ (hO.o hF) (hO.p hF).2.1 ?_
        refine w_iload_n (pc' := 36) ⟨rfl, rfl⟩ rfl ?_
        refine w_iald (pc' := 37) ⟨rfl, rfl⟩ (hO.a hF).2.1 (zixZ (by omega)) (hS.2.2 f hf).1 ?_
        refine w_goto (pc' := 40) (pcT := 56) ⟨rfl, rfl⟩ rfl ?_
        refine w_ireturn (pc' := 57) ⟨rfl, rfl⟩ (Or.inl rfl) ?_
        exact zQi k (by unfold zaF; (try simp only [Int.toNat_natCast]); first | (rw [if_pos (by omega)]; done) | ((repeat' split) <;> first | omega | exact absurd trivial (by assumption) | rfl))
    · refine w_aload_n (pc' := 1) ⟨rfl, rfl⟩ rfl ?_
      refine w_getR (pc' := 4) (cl := 9) (q := 10) ⟨rfl, rfl⟩ ⟨rfl, by decide⟩ (zOl hF rfl) hPp ?_
      refine w_iload_n (pc' := 5) ⟨rfl, rfl⟩ rfl ?_
      refine w_cv2 (pc' := 8) ⟨rfl, rfl⟩ (by decide) (hP.o hF).1 (Nat.le_of_ble_eq_true rfl) (Nat.le_of_ble_eq_true rfl) (c_shapeI hF hP hPl.1 hVt.1 hu ?_)
      refine w_astore (pc' := 10) ⟨rfl, rfl⟩ rfl ?_
      refine w_aload (pc' := 12) ⟨rfl, rfl⟩ rfl ?_
      refine w_ifnullR (pc' := 15) (pcT := 24) ⟨rfl, rfl⟩ rfl  ?_
      refine w_aload (pc' := 17) ⟨rfl, rfl⟩ rfl ?_
      refine w_iload_n (pc' := 18) ⟨rfl, rfl⟩ rfl ?_
      refine w_cv2 (pc' := 21) ⟨rfl, rfl⟩ (by decide) (hO.o hF) (Nat.le_of_ble_eq_true rfl) (Nat.le_of_ble_eq_true rfl) (c_hasFieldO hF hO hS hV hf0 hf ?_)
      refine w_ifF_ne (pc' := 24) ⟨rfl, rfl⟩ (by decide) ?_
      refine w_ic (pc' := 25) ⟨rfl, rfl⟩ ?_
      refine w_ireturn (pc' := 26) ⟨rfl, rfl⟩ (Or.inl rfl) ?_
      exact zQi k (by unfold zaF; (try simp only [Int.toNat_natCast]); first | (rw [if_pos (by omega)]; done) | ((repeat' split) <;> first | omega | exact absurd trivial (by assumption) | rfl))
  · refine w_aload_n (pc' := 1) ⟨rfl, rfl⟩ rfl ?_
    refine w_getR (pc' := 4) (cl := 9) (q := 10) ⟨rfl, rfl⟩ ⟨rfl, by decide⟩ (zOl hF rfl) hPp ?_
    refine w_iload_n (pc' := 5) ⟨rfl, rfl⟩ rfl ?_
    refine w_cv2 (pc' := 8) ⟨rfl, rfl⟩ (by decide) (hP.o hF).1 (Nat.le_of_ble_eq_true rfl) (Nat.le_of_ble_eq_true rfl) (c_shapeO hF hP hPl.1 hVt.1 hs hu ?_)
    refine w_astoreN (pc' := 10) ⟨rfl, rfl⟩ rfl ?_
    refine w_aloadN (pc' := 12) ⟨rfl, rfl⟩ rfl ?_
    refine w_ifnullN (pc' := 15) (pcT := 24) ⟨rfl, rfl⟩ rfl  ?_
    refine w_ic (pc' := 25) ⟨rfl, rfl⟩ ?_
    refine w_ireturn (pc' := 26) ⟨rfl, rfl⟩ (Or.inl rfl) ?_
    exact zQi k (by unfold zaF; (try simp only [Int.toNat_natCast]); first | (rw [if_pos (by omega)]; done) | ((repeat' split) <;> first | omega | exact absurd trivial (by assumption) | rfl))
theorem c_widens {σ : zSt} {a b : Int} (ha : (-2147483648 ≤ a ∧ a ≤ 2147483647)) (hb : (-2147483648 ≤ b ∧ b ≤ 2147483647)) {Q : zSt → Option Value → Prop} (k : Q σ (some (.int (iZ (zaW a b))))) : zCa 98 [.ref 0, .int (iZ a), .int (iZ b)] σ Q := by
  refine w_enter (c := zk_X11_widens) (ls2 := [(0, .ref 0), (1, .int (iZ a)), (2, .int (iZ b))]) rfl ⟨rfl, rfl, rfl, trivial⟩ ?_
  refine w_iload_n (pc' := 1) ⟨rfl, rfl⟩ rfl ?_
  refine w_if_lt (pc' := 4) (pcT := 20) ⟨rfl, rfl⟩ rfl (by omega) (fun h1 => ?_) (fun h1 => ?_)
  · refine w_ic (pc' := 21) ⟨rfl, rfl⟩ ?_
    refine w_ireturn (pc' := 22) ⟨rfl, rfl⟩ (Or.inl rfl) ?_
    exact zQi k (by unfold zaW; (try simp only [Int.toNat_natCast]); first | (rw [if_pos (by omega)]; done) | ((repeat' split) <;> first | omega | exact absurd trivial (by assumption) | rfl))
  · refine w_iload_n (pc' := 5) ⟨rfl, rfl⟩ rfl ?_
    refine w_bi (pc' := 7) ⟨rfl, rfl⟩ (by decide) ?_
    refine w_ic_gt (pc' := 10) (pcT := 20) ⟨rfl, rfl⟩ rfl (by omega) (by omega) (fun h2 => ?_) (fun h2 => ?_)
    · refine w_ic (pc' := 21) ⟨rfl, rfl⟩ ?_
      refine w_ireturn (pc' := 22) ⟨rfl, rfl⟩ (Or.inl rfl) ?_
      exact zQi k (by unfold zaW; (try simp only [Int.toNat_natCast]); first | (rw [if_pos (by omega)]; done) | ((repeat' split) <;> first | omega | exact absurd trivial (by assumption) | rfl))
    · refine w_iload_n (pc' := 11) ⟨rfl, rfl⟩ rfl ?_
      refine w_if_lt (pc' := 14) (pcT := 20) ⟨rfl, rfl⟩ rfl (by omega) (fun h3 => ?_) (fun h3 => ?_)
      · refine w_ic (pc' := 21) ⟨rfl, rfl⟩ ?_
        refine w_ireturn (pc' := 22) ⟨rfl, rfl⟩ (Or.inl rfl) ?_
        exact zQi k (by unfold zaW; (try simp only [Int.toNat_natCast]); first | (rw [if_pos (by omega)]; done) | ((repeat' split) <;> first | omega | exact absurd trivial (by assumption) | rfl))
      · refine w_iload_n (pc' := 15) ⟨rfl, rfl⟩ rfl ?_
        refine w_bi (pc' := 17) ⟨rfl, rfl⟩ (by decide) ?_
        refine w_ic_le (pc' := 20) (pcT := 22) ⟨rfl, rfl⟩ rfl (by omega) (by omega) (fun h4 => ?_) (fun h4 => ?_)
        · refine w_iload_n (pc' := 23) ⟨rfl, rfl⟩ rfl ?_
          refine w_iload_n (pc' := 24) ⟨rfl, rfl⟩ rfl ?_
          refine w_cs2 (pc' := 27) ⟨rfl, rfl⟩ (by decide) (Nat.le_of_ble_eq_true rfl) (Nat.le_of_ble_eq_true rfl) (c_goesInto (by omega) (by omega) (fun h => ?_) (fun h => ?_))
          · refine w_ifF_eq (pc' := 30) ⟨rfl, rfl⟩ (by decide) ?_
            refine w_ic (pc' := 31) ⟨rfl, rfl⟩ ?_
            refine w_goto (pc' := 34) (pcT := 35) ⟨rfl, rfl⟩ rfl ?_
            refine w_ireturn (pc' := 36) ⟨rfl, rfl⟩ (Or.inl rfl) ?_
            exact zQi k (by unfold zaW; (try simp only [Int.toNat_natCast]); first | (rw [if_pos (by omega)]; done) | ((repeat' split) <;> first | omega | exact absurd trivial (by assumption) | rfl))
          · refine w_ifT_eq (pc' := 30) (pcT := 34) ⟨rfl, rfl⟩ rfl (by decide) ?_
            refine w_ic (pc' := 35) ⟨rfl, rfl⟩ ?_
            refine w_ireturn (pc' := 36) ⟨rfl, rfl⟩ (Or.inl rfl) ?_
            exact zQi k (by unfold zaW; (try simp only [Int.toNat_natCast]); first | (rw [if_pos (by omega)]; done) | ((repeat' split) <;> first | omega | exact absurd trivial (by assumption) | rfl))
        · refine w_ic (pc' := 21) ⟨rfl, rfl⟩ ?_
          refine w_ireturn (pc' := 22) ⟨rfl, rfl⟩ (Or.inl rfl) ?_
          exact zQi k (by unfold zaW; (try simp only [Int.toNat_natCast]); first | (rw [if_pos (by omega)]; done) | ((repeat' split) <;> first | omega | exact absurd trivial (by assumption) | rfl))
