/-! THE READER: a token -/
theorem zby_app {pre d : List Int} {i : Nat} : zby (pre ++ d).length (fun i => (pre ++ d).getD i 0) ((pre.length : Int) + i) = if i < d.length then d.getD i 0 else -1 := by
  unfold zby
  rw [show ((pre.length : Int) + i).toNat = pre.length + i by omega, List.length_append]
  by_cases h : i < d.length
  · rw [if_pos (by omega), if_pos h]
    simp only [List.getD_eq_getElem?_getD]
    rw [List.getElem?_append_right (by omega), Nat.add_sub_cancel_left]
  · rw [if_neg (by omega), if_neg h]
/-- what may stand behind a word or a number -/
def zStp (r : List Int) : Prop := ∀ c : Int, r.head? = some c → c = 32 ∨ c = 44 ∨ c = 59
theorem zby_hd {pre w r : List Int} (hr : zStp r) : zby (pre ++ (w ++ r)).length (fun i => (pre ++ (w ++ r)).getD i 0) ((pre.length : Int) + w.length) = -1 ∨ zby (pre ++ (w ++ r)).length (fun i => (pre ++ (w ++ r)).getD i 0) ((pre.length : Int) + w.length) = 32 ∨ zby (pre ++ (w ++ r)).length (fun i => (pre ++ (w ++ r)).getD i 0) ((pre.length : Int) + w.length) = 44 ∨ zby (pre ++ (w ++ r)).length (fun i => (pre ++ (w ++ r)).getD i 0) ((pre.length : Int) + w.length) = 59 := by
  rw [zby_app]
  cases r with
  | nil => left; rw [List.append_nil, if_neg (by omega)]
  | cons c t =>
    right
    have e : (w ++ c :: t).getD w.length 0 = c := by simp
    rw [if_pos (by simp), e]
    exact hr c rfl
theorem zby_w {pre w r : List Int} {i : Nat} (hi : i < w.length) : zby (pre ++ (w ++ r)).length (fun i => (pre ++ (w ++ r)).getD i 0) ((pre.length : Int) + i) = w.getD i 0 := by
  rw [zby_app, if_pos (by rw [List.length_append]; omega)]
  simp only [List.getD_eq_getElem?_getD]
  rw [List.getElem?_append_left hi]
def zLtr (w : List Int) : Prop := ∀ i : Nat, i < w.length → 97 ≤ w.getD i 0 ∧ w.getD i 0 ≤ 122
def zDgt (w : List Int) : Prop := ∀ i : Nat, i < w.length → 48 ≤ w.getD i 0 ∧ w.getD i 0 ≤ 57
theorem zAt_no {l : List Int} {p : Nat} (hp : p ≤ 1600) (h1 : ¬ zlt l.length (fun i => l.getD i 0) p) (h2 : ¬ zdg l.length (fun i => l.getD i 0) p) : zAt l p 0 (iZ 0) 0 0 := by
  refine ⟨by rw [zcnt_f (Or.inl h1)]; rfl, by rw [zcnt_f (Or.inl h2)]; rfl, fun σ hF hT Q k => ?_, fun σ hF hT Q k => ?_⟩
  · exact c_numberFrom hF hT hp (c := fun _ => 0) (d := 0) (by omega) (fun i hi => absurd hi (by omega)) k
  · exact c_nameFrom hF hT hp (c := fun _ => 0) (d := 0) (by omega) (fun i hi => absurd hi (by omega)) (Or.inr (by simpa using h1)) k
theorem zAt_word {pre w r : List Int} (hp : pre.length ≤ 1600) (hw : zLtr w) (hn : 1 ≤ w.length ∧ w.length ≤ 6) (hr : zStp r) : zAt (pre ++ (w ++ r)) pre.length w.length (zpk (fun i => w.getD i 0) w.length) 0 0 := by
  have hs := zby_hd (pre := pre) (w := w) hr
  have h0 := zby_w (pre := pre) (w := w) (r := r) (i := 0) (by omega)
  have hw0 := hw 0 (by omega)
  have hst : ¬ zlt (pre ++ (w ++ r)).length (fun i => (pre ++ (w ++ r)).getD i 0) ((pre.length : Int) + w.length) := by unfold zlt; omega
  rw [show (pre.length : Int) + (0 : Nat) = pre.length by omega] at h0
  have hnd : ¬ zdg (pre ++ (w ++ r)).length (fun i => (pre ++ (w ++ r)).getD i 0) (pre.length : Int) := by unfold zdg; omega
  refine ⟨by rw [zcnt_k w.length 1600 _ (fun i hi => by unfold zlt; rw [zby_w hi]; exact hw i hi) hst (by omega)], by rw [zcnt_f (Or.inl hnd)]; rfl, fun σ hF hT Q k => ?_, fun σ hF hT Q k => ?_⟩
  · exact c_numberFrom hF hT hp (c := fun _ => 0) (d := 0) (by omega) (fun i hi => absurd hi (by omega)) k
  · exact c_nameFrom hF hT hp (d := w.length) hn.2 (fun i hi => ⟨zby_w hi, hw i hi⟩) (Or.inr hst) k
theorem zAt_num {pre w r : List Int} (hp : pre.length ≤ 1600) (hw : zDgt w) (hn : 1 ≤ w.length ∧ w.length ≤ 3) (hr : zStp r) : zAt (pre ++ (w ++ r)) pre.length 0 (iZ 0) w.length (znb (fun i => w.getD i 0) w.length) := by
  have hs := zby_hd (pre := pre) (w := w) hr
  have h0 := zby_w (pre := pre) (w := w) (r := r) (i := 0) (by omega)
  have hw0 := hw 0 (by omega)
  have hst : ¬ zdg (pre ++ (w ++ r)).length (fun i => (pre ++ (w ++ r)).getD i 0) ((pre.length : Int) + w.length) := by unfold zdg; omega
  rw [show (pre.length : Int) + (0 : Nat) = pre.length by omega] at h0
  have hnd : ¬ zlt (pre ++ (w ++ r)).length (fun i => (pre ++ (w ++ r)).getD i 0) (pre.length : Int) := by unfold zlt; omega
  refine ⟨by rw [zcnt_f (Or.inl hnd)]; rfl, by rw [zcnt_k w.length 1600 _ (fun i hi => by unfold zdg; rw [zby_w hi]; exact hw i hi) hst (by omega)], fun σ hF hT Q k => ?_, fun σ hF hT Q k => ?_⟩
  · rw [show min (w.length : Int) 3 = w.length by omega]
    exact c_numberFrom hF hT hp (d := w.length) hn.2 (fun i hi => ⟨zby_w hi, hw i hi⟩) k
  · exact c_nameFrom hF hT hp (c := fun _ => 0) (d := 0) (by omega) (fun i hi => absurd hi (by omega)) (Or.inr (by simpa using hnd)) k
theorem zCa.imp {y : Nat} {a : List Value} {σ : zSt} {P Q : zSt → Option Value → Prop} (h : zCa y a σ P) (k : ∀ σ' v, P σ' v → Q σ' v) : zCa y a σ Q := fun ls' hr => by
  obtain ⟨f, σ', r, h1, h2⟩ := h ls' hr
  exact ⟨f, σ', r, h1, k σ' r h2⟩
/-- frames: the references of the reader may be others -/
def zFk (w : List Nat) (σ σ' : zSt) : Prop := zN σ' = zN σ ∧ (∀ o k, o ≠ 1 ∨ k < 10 → zR σ' o k = zR σ o k) ∧ ∀ o, o ∉ w → (∀ k, zI σ' o k = zI σ o k) ∧ ∀ k, zL σ' o k = zL σ o k
theorem zFm.q {w : List Nat} {σ σ' : zSt} (h : zFm w σ σ') : zFk w σ σ' := ⟨h.1, fun o k _ => h.2.1 o k, h.2.2⟩
theorem zFk.refl {w : List Nat} {σ : zSt} : zFk w σ σ := zFm.refl.q
theorem zFk.trans {w : List Nat} {σ σ1 σ2 : zSt} (a : zFk w σ σ1) (b : zFk w σ1 σ2) : zFk w σ σ2 := ⟨b.1.trans a.1, fun o k h => (b.2.1 o k h).trans (a.2.1 o k h), fun o h => ⟨fun k => ((b.2.2 o h).1 k).trans ((a.2.2 o h).1 k), fun k => ((b.2.2 o h).2 k).trans ((a.2.2 o h).2 k)⟩⟩
theorem zFk.mono {w v : List Nat} {σ σ1 : zSt} (a : zFk w σ σ1) (h : ∀ o, o ∈ w → o ∈ v) : zFk v σ σ1 := ⟨a.1, a.2.1, fun o ho => a.2.2 o (fun q => ho (h o q))⟩
set_option maxRecDepth 100000 in
theorem zfx_1 {k a : Nat} (h : zfx 1 k = some a) : k < 10 := by
  have h2 : zfx 1 k = (([(0, 2), (1, 3)] : List (Nat × Nat)).find? (fun q => q.1 == k)).map (fun q => q.2) := rfl
  rw [h2] at h
  rcases (show k = 0 ∨ k = 1 ∨ 2 ≤ k by omega) with rfl | rfl | h3
  · omega
  · omega
  · have e0 : ((0 : Nat) == k) = false := by simp; omega
    have e1 : ((1 : Nat) == k) = false := by simp; omega
    simp [List.find?, e0, e1] at h
theorem zFk.fx {w : List Nat} {σ σ' : zSt} (h : zFk w σ σ') (f : zFx σ) : zFx σ' := ⟨by rw [h.1]; exact f.1, fun o k a e => by
  rw [h.2.1 o k (by
    by_cases ho : o = 1
    · subst ho; exact Or.inr (zfx_1 e)
    · exact Or.inl ho)]
  exact f.2 o k a e⟩
theorem zFk.tl {w : List Nat} {σ σ' : zSt} {l : List Int} (f : zFk w σ σ') (h : zTL σ l) (h3 : 3 ∉ w) (h4 : 4 ∉ w) : zTL σ' l := ⟨((f.2.2 3 h3).1 1).trans h.1, h.2.1, fun i hi => ⟨((f.2.2 4 h4).1 i).trans (h.2.2 i hi).1, (h.2.2 i hi).2⟩⟩
theorem zFk.own {w : List Nat} {σ σ' : zSt} (f : zFk w σ σ') (h : zOwn σ) (h2 : 2 ∉ w) : zOwn σ' := fun k hk => ((f.2.2 2 h2).1 k).trans (h k hk)
theorem zFk.i {w : List Nat} {σ σ' : zSt} {o k : Nat} {v : Int32} (f : zFk w σ σ') (h : zI σ o k = v) (ho : o ∉ w) : zI σ' o k = v := ((f.2.2 o ho).1 k).trans h
theorem zFm.i {w : List Nat} {σ σ' : zSt} {o k : Nat} {v : Int32} (f : zFm w σ σ') (h : zI σ o k = v) (ho : o ∉ w) : zI σ' o k = v := ((f.2.2 o ho).1 k).trans h
theorem zFk.r {w : List Nat} {σ σ' : zSt} {o k : Nat} {v : Option Nat} (f : zFk w σ σ') (h : zR σ o k = v) (hk : o ≠ 1 ∨ k < 10) : zR σ' o k = v := (f.2.1 o k hk).trans h
theorem zFm.r {w : List Nat} {σ σ' : zSt} {o k : Nat} {v : Option Nat} (f : zFm w σ σ') (h : zR σ o k = v) : zR σ' o k = v := (f.2.1 o k).trans h
/-- passed: the state is s, the place p -/
def zWnt (σ σ' : zSt) (s : Int) (p : Nat) : Prop := zFm [1] σ σ' ∧ zI σ' 1 3 = iZ s ∧ zI σ' 1 4 = iZ (p : Int) ∧ ∀ k, k ≠ 3 → k ≠ 4 → zI σ' 1 k = zI σ 1 k
theorem j_max {σ : zSt} {a b : Int} (ha : -2147483648 ≤ a ∧ a ≤ 2147483647) (hb : -2147483648 ≤ b ∧ b ≤ 2147483647) {Q : zSt → Option Value → Prop} (k : Q σ (some (.int (iZ (max a b))))) : zCa 116 [.int (iZ a), .int (iZ b)] σ Q := by
  refine w_enter (c := zk_J9_max_7cf53) (ls2 := [(0, .int (iZ a)), (1, .int (iZ b))]) rfl ⟨rfl, rfl, trivial⟩ ?_
  refine w_iload_n (pc' := 1) ⟨rfl, rfl⟩ rfl ?_
  refine w_iload_n (pc' := 2) ⟨rfl, rfl⟩ rfl ?_
  refine w_ic_lt (pc' := 5) (pcT := 9) ⟨rfl, rfl⟩ rfl (by omega) (by omega) (fun h1 => ?_) (fun h1 => ?_)
  · refine w_iload_n (pc' := 10) ⟨rfl, rfl⟩ rfl ?_
    refine w_ireturn (pc' := 11) ⟨rfl, rfl⟩ (Or.inl rfl) ?_
    exact zQi k (by omega)
  · refine w_iload_n (pc' := 6) ⟨rfl, rfl⟩ rfl ?_
    refine w_goto (pc' := 9) (pcT := 10) ⟨rfl, rfl⟩ rfl ?_
    refine w_ireturn (pc' := 11) ⟨rfl, rfl⟩ (Or.inl rfl) ?_
    exact zQi k (by omega)
theorem c_goOn {σ : zSt} (hF : zFx σ) {p : Nat} {le dg nm ow : Int} {wd : Int32} (ht : zTok σ p le wd ow dg nm) {d : Nat} (hd : max (max le dg) 1 = d) (hle : 0 ≤ le ∧ le ≤ 1600) (hdg : 0 ≤ dg ∧ dg ≤ 1600) {s : Int} {Q : zSt → Option Value → Prop} (k : ∀ σ2, zWnt σ σ2 s (p + d) → Q σ2 (some (.int (iZ 1)))) : zCa 6 [.ref 1, .int (iZ s)] σ Q := by
  refine w_enter (c := zk_X0_goOn) (ls2 := [(0, .ref 1), (1, .int (iZ s))]) rfl ⟨rfl, rfl, trivial⟩ ?_
  obtain ⟨i4, i5, i6, i7, i8, i9⟩ := ht
  refine w_aload_n (pc' := 1) ⟨rfl, rfl⟩ rfl ?_
  refine w_dupR (pc' := 2) ⟨rfl, rfl⟩ ?_
  refine w_getI (pc' := 5) (cl := 0) (q := 4) ⟨rfl, rfl⟩ ⟨rfl, by decide⟩ (zOl hF rfl) i4 ?_
  refine w_aload_n (pc' := 6) ⟨rfl, rfl⟩ rfl ?_
  refine w_getI (pc' := 9) (cl := 0) (q := 5) ⟨rfl, rfl⟩ ⟨rfl, by decide⟩ (zOl hF rfl) i5 ?_
  refine w_aload_n (pc' := 10) ⟨rfl, rfl⟩ rfl ?_
  refine w_getI (pc' := 13) (cl := 0) (q := 8) ⟨rfl, rfl⟩ ⟨rfl, by decide⟩ (zOl hF rfl) i8 ?_
  refine w_cs2 (pc' := 16) ⟨rfl, rfl⟩ (by decide) (Nat.le_of_ble_eq_true rfl) (Nat.le_of_ble_eq_true rfl) (j_max (by omega) (by omega) ?_)
  refine w_ic (pc' := 17) ⟨rfl, rfl⟩ ?_
  refine w_cs2 (pc' := 20) ⟨rfl, rfl⟩ (by decide) (Nat.le_of_ble_eq_true rfl) (Nat.le_of_ble_eq_true rfl) (j_max (by omega) (by omega) ?_)
  refine w_iaddZ (pc' := 21) ⟨rfl, rfl⟩ ?_
  refine w_putI (pc' := 24) (cl := 0) (q := 4) ⟨rfl, rfl⟩ ⟨rfl, by decide⟩ (zOl hF rfl) ?_
  refine w_gI (fun v1 w1 e1 o1 => ?_)
  have hF := w1.fx hF
  have i5 := (o1 5 (by decide)).trans i5
  have i6 := (o1 6 (by decide)).trans i6
  have i7 := (o1 7 (by decide)).trans i7
  have i8 := (o1 8 (by decide)).trans i8
  have i9 := (o1 9 (by decide)).trans i9
  have i4 := e1
  refine w_aload_n (pc' := 25) ⟨rfl, rfl⟩ rfl ?_
  refine w_iload_n (pc' := 26) ⟨rfl, rfl⟩ rfl ?_
  refine w_putI (pc' := 29) (cl := 0) (q := 3) ⟨rfl, rfl⟩ ⟨rfl, by decide⟩ (zOl hF rfl) ?_
  refine w_gI (fun v2 w2 e2 o2 => ?_)
  have hF := w2.fx hF
  have i4 := (o2 4 (by decide)).trans i4
  have i5 := (o2 5 (by decide)).trans i5
  have i6 := (o2 6 (by decide)).trans i6
  have i7 := (o2 7 (by decide)).trans i7
  have i8 := (o2 8 (by decide)).trans i8
  have i9 := (o2 9 (by decide)).trans i9
  have i3 := e2
  refine w_ic (pc' := 30) ⟨rfl, rfl⟩ ?_
  refine w_ireturn (pc' := 31) ⟨rfl, rfl⟩ (by decide) ?_
  exact k _ ⟨(w1.trans w2), i3, by rw [i4]; exact congrArg iZ (by omega), fun k h3 h4 => (o2 k h3).trans (o1 k h4)⟩
theorem c_nameStands {σ : zSt} (hF : zFx σ) {p : Nat} {le dg nm : Int} {wd : Int32} (ht : zTok σ p le wd (-1) dg nm) (hle : 1 ≤ le ∧ le ≤ 6) {Q : zSt → Option Value → Prop} (k : Q σ (some (.int (iZ 1)))) : zCa 7 [.ref 1] σ Q := by
  refine w_enter (c := zk_X0_nameStands) (ls2 := [(0, .ref 1)]) rfl ⟨rfl, trivial⟩ ?_
  obtain ⟨i4, i5, i6, i7, i8, i9⟩ := ht
  refine w_aload_n (pc' := 1) ⟨rfl, rfl⟩ rfl ?_
  refine w_getI (pc' := 4) (cl := 0) (q := 5) ⟨rfl, rfl⟩ ⟨rfl, by decide⟩ (zOl hF rfl) i5 ?_
  refine w_bi (pc' := 6) ⟨rfl, rfl⟩ (by decide) ?_
  refine w_icT_le (pc' := 9) (pcT := 22) ⟨rfl, rfl⟩ rfl (by omega) ?_
  refine w_aload_n (pc' := 23) ⟨rfl, rfl⟩ rfl ?_
  refine w_getI (pc' := 26) (cl := 0) (q := 5) ⟨rfl, rfl⟩ ⟨rfl, by decide⟩ (zOl hF rfl) i5 ?_
  refine w_ifF_le (pc' := 29) ⟨rfl, rfl⟩ (by omega) ?_
  refine w_aload_n (pc' := 30) ⟨rfl, rfl⟩ rfl ?_
  refine w_getI (pc' := 33) (cl := 0) (q := 7) ⟨rfl, rfl⟩ ⟨rfl, by decide⟩ (zOl hF rfl) i7 ?_
  refine w_ic (pc' := 34) ⟨rfl, rfl⟩ ?_
  refine w_icT_eq (pc' := 37) (pcT := 49) ⟨rfl, rfl⟩ rfl (by omega) ?_
  refine w_ic (pc' := 50) ⟨rfl, rfl⟩ ?_
  refine w_goto (pc' := 53) (pcT := 54) ⟨rfl, rfl⟩ rfl ?_
  refine w_ireturn (pc' := 55) ⟨rfl, rfl⟩ (by decide) ?_
  exact k
theorem c_numberStands {σ : zSt} {l : List Int} (hT : zTL σ l) (hF : zFx σ) {p : Nat} {le dg nm ow : Int} {wd : Int32} (ht : zTok σ p le wd ow dg nm) (hp : p ≤ 1600) (hbl : ¬ zlt l.length (fun i => l.getD i 0) ((p : Int) - 1)) (hdg : 1 ≤ dg ∧ dg ≤ 3) {lo hi : Int} (hnm : lo ≤ nm ∧ nm ≤ hi) (hlo : -1000000 ≤ lo ∧ hi ≤ 1000000) {Q : zSt → Option Value → Prop} (k : Q σ (some (.int (iZ 1)))) : zCa 8 [.ref 1, .int (iZ lo), .int (iZ hi)] σ Q := by
  refine w_enter (c := zk_X0_numberStands) (ls2 := [(0, .ref 1), (1, .int (iZ lo)), (2, .int (iZ hi))]) rfl ⟨rfl, rfl, rfl, trivial⟩ ?_
  obtain ⟨i4, i5, i6, i7, i8, i9⟩ := ht
  refine w_aload_n (pc' := 1) ⟨rfl, rfl⟩ rfl ?_
  refine w_getI (pc' := 4) (cl := 0) (q := 8) ⟨rfl, rfl⟩ ⟨rfl, by decide⟩ (zOl hF rfl) i8 ?_
  refine w_ifF_eq (pc' := 7) ⟨rfl, rfl⟩ (by omega) ?_
  refine w_aload_n (pc' := 8) ⟨rfl, rfl⟩ rfl ?_
  refine w_getR (pc' := 11) (cl := 0) (q := 1) ⟨rfl, rfl⟩ ⟨rfl, by decide⟩ (zOl hF rfl) (hF.2 1 1 3 rfl) ?_
  refine w_aload_n (pc' := 12) ⟨rfl, rfl⟩ rfl ?_
  refine w_getI (pc' := 15) (cl := 0) (q := 4) ⟨rfl, rfl⟩ ⟨rfl, by decide⟩ (zOl hF rfl) i4 ?_
  refine w_ic (pc' := 16) ⟨rfl, rfl⟩ ?_
  refine w_isubZ (pc' := 17) ⟨rfl, rfl⟩ ?_
  refine w_cv2 (pc' := 20) ⟨rfl, rfl⟩ (by decide) (zOl hF rfl) (Nat.le_of_ble_eq_true rfl) (Nat.le_of_ble_eq_true rfl) (c_isLetter hF hT (by omega) (fun h => ?_) (fun h => ?_))
  · exact absurd h hbl
  · refine w_ifT_eq (pc' := 23) (pcT := 33) ⟨rfl, rfl⟩ rfl (by decide) ?_
    refine w_aload_n (pc' := 34) ⟨rfl, rfl⟩ rfl ?_
    refine w_getI (pc' := 37) (cl := 0) (q := 8) ⟨rfl, rfl⟩ ⟨rfl, by decide⟩ (zOl hF rfl) i8 ?_
    refine w_ic (pc' := 38) ⟨rfl, rfl⟩ ?_
    refine w_icT_le (pc' := 41) (pcT := 53) ⟨rfl, rfl⟩ rfl (by omega) ?_
    refine w_aload_n (pc' := 54) ⟨rfl, rfl⟩ rfl ?_
    refine w_getI (pc' := 57) (cl := 0) (q := 9) ⟨rfl, rfl⟩ ⟨rfl, by decide⟩ (zOl hF rfl) i9 ?_
    refine w_iload_n (pc' := 58) ⟨rfl, rfl⟩ rfl ?_
    refine w_icF_lt (pc' := 61) ⟨rfl, rfl⟩ (by omega) ?_
    refine w_aload_n (pc' := 62) ⟨rfl, rfl⟩ rfl ?_
    refine w_getI (pc' := 65) (cl := 0) (q := 9) ⟨rfl, rfl⟩ ⟨rfl, by decide⟩ (zOl hF rfl) i9 ?_
    refine w_iload_n (pc' := 66) ⟨rfl, rfl⟩ rfl ?_
    refine w_icT_le (pc' := 69) (pcT := 81) ⟨rfl, rfl⟩ rfl (by omega) ?_
    refine w_ic (pc' := 82) ⟨rfl, rfl⟩ ?_
    refine w_goto (pc' := 85) (pcT := 86) ⟨rfl, rfl⟩ rfl ?_
    refine w_ireturn (pc' := 87) ⟨rfl, rfl⟩ (by decide) ?_
    exact k
theorem c_takeSignC {σ : zSt} {l : List Int} (hT : zTL σ l) (hF : zFx σ) {p : Nat} {nm ow : Int} {wd : Int32} (ht : zTok σ p 0 wd ow 0 nm) (hp : p ≤ 1600) (hc : zby l.length (fun i => l.getD i 0) p = 44) {s : Int} {Q : zSt → Option Value → Prop} (k : ∀ σ2, zWnt σ σ2 s (p + 1) → Q σ2 (some (.int (iZ 1)))) : zCa 10 [.ref 1, .int (iZ s)] σ Q := by
  refine w_enter (c := zk_X0_takeSign) (ls2 := [(0, .ref 1), (1, .int (iZ s))]) rfl ⟨rfl, rfl, trivial⟩ ?_
  obtain ⟨i4, i5, i6, i7, i8, i9⟩ := ht
  refine w_aload_n (pc' := 1) ⟨rfl, rfl⟩ rfl ?_
  refine w_getR (pc' := 4) (cl := 0) (q := 1) ⟨rfl, rfl⟩ ⟨rfl, by decide⟩ (zOl hF rfl) (hF.2 1 1 3 rfl) ?_
  refine w_aload_n (pc' := 5) ⟨rfl, rfl⟩ rfl ?_
  refine w_getI (pc' := 8) (cl := 0) (q := 4) ⟨rfl, rfl⟩ ⟨rfl, by decide⟩ (zOl hF rfl) i4 ?_
  refine w_cv2 (pc' := 11) ⟨rfl, rfl⟩ (by decide) (zOl hF rfl) (Nat.le_of_ble_eq_true rfl) (Nat.le_of_ble_eq_true rfl) (c_byteAt hF hT (by omega) ?_)
  rw [hc]
  refine w_istore_n (pc' := 12) ⟨rfl, rfl⟩ rfl ?_
  refine w_iload_n (pc' := 13) ⟨rfl, rfl⟩ rfl ?_
  refine w_bi (pc' := 15) ⟨rfl, rfl⟩ (by decide) ?_
  refine w_icF_ne (pc' := 18) ⟨rfl, rfl⟩ (by decide) ?_
  refine w_aload_n (pc' := 19) ⟨rfl, rfl⟩ rfl ?_
  refine w_iload_n (pc' := 20) ⟨rfl, rfl⟩ rfl ?_
  refine w_cv2 (pc' := 23) ⟨rfl, rfl⟩ (by decide) (zOl hF rfl) (Nat.le_of_ble_eq_true rfl) (Nat.le_of_ble_eq_true rfl) (c_goOn hF ⟨i4, i5, i6, i7, i8, i9⟩ (d := 1) (by decide) (by decide) (by decide) (fun σ2 h2 => ?_))
  refine w_ireturn (pc' := 24) ⟨rfl, rfl⟩ (by decide) ?_
  exact k _ h2
theorem c_takeSignS {σ : zSt} {l : List Int} (hT : zTL σ l) (hF : zFx σ) {p : Nat} {nm ow : Int} {wd : Int32} (ht : zTok σ p 0 wd ow 0 nm) (hp : p ≤ 1600) (hc : zby l.length (fun i => l.getD i 0) p = 59) {s : Int} {Q : zSt → Option Value → Prop} (k : ∀ σ2, zWnt σ σ2 0 (p + 1) → Q σ2 (some (.int (iZ 1)))) : zCa 10 [.ref 1, .int (iZ s)] σ Q := by
  refine w_enter (c := zk_X0_takeSign) (ls2 := [(0, .ref 1), (1, .int (iZ s))]) rfl ⟨rfl, rfl, trivial⟩ ?_
  obtain ⟨i4, i5, i6, i7, i8, i9⟩ := ht
  refine w_aload_n (pc' := 1) ⟨rfl, rfl⟩ rfl ?_
  refine w_getR (pc' := 4) (cl := 0) (q := 1) ⟨rfl, rfl⟩ ⟨rfl, by decide⟩ (zOl hF rfl) (hF.2 1 1 3 rfl) ?_
  refine w_aload_n (pc' := 5) ⟨rfl, rfl⟩ rfl ?_
  refine w_getI (pc' := 8) (cl := 0) (q := 4) ⟨rfl, rfl⟩ ⟨rfl, by decide⟩ (zOl hF rfl) i4 ?_
  refine w_cv2 (pc' := 11) ⟨rfl, rfl⟩ (by decide) (zOl hF rfl) (Nat.le_of_ble_eq_true rfl) (Nat.le_of_ble_eq_true rfl) (c_byteAt hF hT (by omega) ?_)
  rw [hc]
  refine w_istore_n (pc' := 12) ⟨rfl, rfl⟩ rfl ?_
  refine w_iload_n (pc' := 13) ⟨rfl, rfl⟩ rfl ?_
  refine w_bi (pc' := 15) ⟨rfl, rfl⟩ (by decide) ?_
  refine w_icT_ne (pc' := 18) (pcT := 24) ⟨rfl, rfl⟩ rfl (by decide) ?_
  refine w_iload_n (pc' := 25) ⟨rfl, rfl⟩ rfl ?_
  refine w_bi (pc' := 27) ⟨rfl, rfl⟩ (by decide) ?_
  refine w_icF_ne (pc' := 30) ⟨rfl, rfl⟩ (by decide) ?_
  refine w_aload_n (pc' := 31) ⟨rfl, rfl⟩ rfl ?_
  refine w_ic (pc' := 32) ⟨rfl, rfl⟩ ?_
  refine w_cv2 (pc' := 35) ⟨rfl, rfl⟩ (by decide) (zOl hF rfl) (Nat.le_of_ble_eq_true rfl) (Nat.le_of_ble_eq_true rfl) (c_goOn hF ⟨i4, i5, i6, i7, i8, i9⟩ (d := 1) (by decide) (by decide) (by decide) (fun σ2 h2 => ?_))
  refine w_goto (pc' := 38) (pcT := 47) ⟨rfl, rfl⟩ rfl ?_
  refine w_ireturn (pc' := 48) ⟨rfl, rfl⟩ (by decide) ?_
  exact k _ h2
/-- the reader goes on from a place -/
def zGo (σ : zSt) (p : Nat) (Q : zSt → Option Value → Prop) : Prop := ∀ i : Nat, i ≤ p → zP zk_X0_readBook 29 [(0, .ref 1), (1, .int (iZ (i : Int)))] [] σ Q
theorem p_stepS {σ : zSt} {l : List Int} (hF : zFx σ) (hT : zTL σ l) (hOw : zOwn σ) {p q : Nat} (hq : q < l.length) (i4 : zI σ 1 4 = iZ (p : Int)) (hb : (q = p ∧ ¬ zbl l.length (fun i => l.getD i 0) p) ∨ (q = p + 1 ∧ zbl l.length (fun i => l.getD i 0) p ∧ ¬ zbl l.length (fun i => l.getD i 0) ((p + 1 : Nat) : Int))) {st : Int} (i3 : zI σ 1 3 = iZ st) (hst : 0 ≤ st ∧ st < 7) {le dg nm : Int} {wd : Int32} (hA : zAt l q le wd dg nm) (hle : 0 ≤ le ∧ le ≤ 6) (hdg : 0 ≤ dg ∧ dg ≤ 1600) {Q : zSt → Option Value → Prop} (T : ∀ σ1, zFm [1] σ σ1 → zTok σ1 q le wd (if le = 0 then -1 else zof wd 17) dg nm → (∀ k, k < 4 ∨ 9 < k → zI σ1 1 k = zI σ 1 k) → zCa 3 [.ref 1] σ1 (fun σ2 v => v = some (.int (iZ 1)) ∧ ∃ p2, q < p2 ∧ zGo σ2 p2 Q)) : zGo σ p Q := by
  intro i hi
  have hl := hT.2.1
  refine w_iload_n (pc' := 30) ⟨rfl, rfl⟩ rfl ?_
  refine w_si (pc' := 33) ⟨rfl, rfl⟩ (by decide) ?_
  refine w_icF_gt (pc' := 36) ⟨rfl, rfl⟩ (by omega) ?_
  refine w_aload_n (pc' := 37) ⟨rfl, rfl⟩ rfl ?_
  refine w_cv1 (pc' := 40) ⟨rfl, rfl⟩ (by decide) (zOl hF rfl) (Nat.le_of_ble_eq_true rfl) (Nat.le_of_ble_eq_true rfl) (c_look hF hT hOw (by omega) i4 hb hA hle hdg (fun u1 m1 t1 o1 => ?_))
  have hF := m1.fx hF
  have hT := m1.q.tl hT (by decide) (by decide)
  have i3 := (o1 3 (by omega)).trans i3
  refine w_aload_n (pc' := 41) ⟨rfl, rfl⟩ rfl ?_
  refine w_getI (pc' := 44) (cl := 0) (q := 4) ⟨rfl, rfl⟩ ⟨rfl, by decide⟩ (zOl hF rfl) t1.1 ?_
  refine w_aload_n (pc' := 45) ⟨rfl, rfl⟩ rfl ?_
  refine w_getR (pc' := 48) (cl := 0) (q := 1) ⟨rfl, rfl⟩ ⟨rfl, by decide⟩ (zOl hF rfl) (hF.2 1 1 3 rfl) ?_
  refine w_getI (pc' := 51) (cl := 7) (q := 1) ⟨rfl, rfl⟩ ⟨rfl, by decide⟩ (zOl hF rfl) hT.1 ?_
  refine w_icT_lt (pc' := 54) (pcT := 73) ⟨rfl, rfl⟩ rfl (by omega) ?_
  refine w_aload_n (pc' := 74) ⟨rfl, rfl⟩ rfl ?_
  refine w_getI (pc' := 77) (cl := 0) (q := 3) ⟨rfl, rfl⟩ ⟨rfl, by decide⟩ (zOl hF rfl) i3 ?_
  refine w_bi (pc' := 79) ⟨rfl, rfl⟩ (by decide) ?_
  refine w_icF_ge (pc' := 82) ⟨rfl, rfl⟩ (by omega) ?_
  refine w_aload_n (pc' := 83) ⟨rfl, rfl⟩ rfl ?_
  refine w_cv1 (pc' := 86) ⟨rfl, rfl⟩ (by decide) (zOl hF rfl) (Nat.le_of_ble_eq_true rfl) (Nat.le_of_ble_eq_true rfl) (zCa.imp (T _ m1 t1 o1) (fun u2 v2 h2 => ?_))
  obtain ⟨rfl, p2, hp2, hg⟩ := h2
  refine w_goto (pc' := 89) (pcT := 93) ⟨rfl, rfl⟩ rfl ?_
  refine w_istore_n (pc' := 94) ⟨rfl, rfl⟩ rfl ?_
  refine w_iload_n (pc' := 95) ⟨rfl, rfl⟩ rfl ?_
  refine w_ifT_ne (pc' := 98) (pcT := 100) ⟨rfl, rfl⟩ rfl (by decide) ?_
  refine w_iincZ (pc' := 103) ⟨rfl, rfl⟩ rfl rfl ?_
  refine w_goto (pc' := 106) (pcT := 29) ⟨rfl, rfl⟩ rfl ?_
  refine w_at (ls2 := [(0, .ref 1), (1, .int (iZ ((i + 1 : Nat) : Int)))]) ?_ (hg (i + 1) (by omega))
  exact ⟨rfl, rfl, trivial⟩
theorem p_stepC {σ : zSt} {l : List Int} (hF : zFx σ) (hT : zTL σ l) (hOw : zOwn σ) {p q : Nat} (hq : q < l.length) (i4 : zI σ 1 4 = iZ (p : Int)) (hb : (q = p ∧ ¬ zbl l.length (fun i => l.getD i 0) p) ∨ (q = p + 1 ∧ zbl l.length (fun i => l.getD i 0) p ∧ ¬ zbl l.length (fun i => l.getD i 0) ((p + 1 : Nat) : Int))) {st : Int} (i3 : zI σ 1 3 = iZ st) (hst : 7 ≤ st ∧ st ≤ 16) {le dg nm : Int} {wd : Int32} (hA : zAt l q le wd dg nm) (hle : 0 ≤ le ∧ le ≤ 6) (hdg : 0 ≤ dg ∧ dg ≤ 1600) {Q : zSt → Option Value → Prop} (T : ∀ σ1, zFm [1] σ σ1 → zTok σ1 q le wd (if le = 0 then -1 else zof wd 17) dg nm → (∀ k, k < 4 ∨ 9 < k → zI σ1 1 k = zI σ 1 k) → zCa 4 [.ref 1] σ1 (fun σ2 v => v = some (.int (iZ 1)) ∧ ∃ p2, q < p2 ∧ zGo σ2 p2 Q)) : zGo σ p Q := by
  intro i hi
  have hl := hT.2.1
  refine w_iload_n (pc' := 30) ⟨rfl, rfl⟩ rfl ?_
  refine w_si (pc' := 33) ⟨rfl, rfl⟩ (by decide) ?_
  refine w_icF_gt (pc' := 36) ⟨rfl, rfl⟩ (by omega) ?_
  refine w_aload_n (pc' := 37) ⟨rfl, rfl⟩ rfl ?_
  refine w_cv1 (pc' := 40) ⟨rfl, rfl⟩ (by decide) (zOl hF rfl) (Nat.le_of_ble_eq_true rfl) (Nat.le_of_ble_eq_true rfl) (c_look hF hT hOw (by omega) i4 hb hA hle hdg (fun u1 m1 t1 o1 => ?_))
  have hF := m1.fx hF
  have hT := m1.q.tl hT (by decide) (by decide)
  have i3 := (o1 3 (by omega)).trans i3
  refine w_aload_n (pc' := 41) ⟨rfl, rfl⟩ rfl ?_
  refine w_getI (pc' := 44) (cl := 0) (q := 4) ⟨rfl, rfl⟩ ⟨rfl, by decide⟩ (zOl hF rfl) t1.1 ?_
  refine w_aload_n (pc' := 45) ⟨rfl, rfl⟩ rfl ?_
  refine w_getR (pc' := 48) (cl := 0) (q := 1) ⟨rfl, rfl⟩ ⟨rfl, by decide⟩ (zOl hF rfl) (hF.2 1 1 3 rfl) ?_
  refine w_getI (pc' := 51) (cl := 7) (q := 1) ⟨rfl, rfl⟩ ⟨rfl, by decide⟩ (zOl hF rfl) hT.1 ?_
  refine w_icT_lt (pc' := 54) (pcT := 73) ⟨rfl, rfl⟩ rfl (by omega) ?_
  refine w_aload_n (pc' := 74) ⟨rfl, rfl⟩ rfl ?_
  refine w_getI (pc' := 77) (cl := 0) (q := 3) ⟨rfl, rfl⟩ ⟨rfl, by decide⟩ (zOl hF rfl) i3 ?_
  refine w_bi (pc' := 79) ⟨rfl, rfl⟩ (by decide) ?_
  refine w_icT_ge (pc' := 82) (pcT := 89) ⟨rfl, rfl⟩ rfl (by omega) ?_
  refine w_aload_n (pc' := 90) ⟨rfl, rfl⟩ rfl ?_
  refine w_cv1 (pc' := 93) ⟨rfl, rfl⟩ (by decide) (zOl hF rfl) (Nat.le_of_ble_eq_true rfl) (Nat.le_of_ble_eq_true rfl) (zCa.imp (T _ m1 t1 o1) (fun u2 v2 h2 => ?_))
  obtain ⟨rfl, p2, hp2, hg⟩ := h2
  refine w_istore_n (pc' := 94) ⟨rfl, rfl⟩ rfl ?_
  refine w_iload_n (pc' := 95) ⟨rfl, rfl⟩ rfl ?_
  refine w_ifT_ne (pc' := 98) (pcT := 100) ⟨rfl, rfl⟩ rfl (by decide) ?_
  refine w_iincZ (pc' := 103) ⟨rfl, rfl⟩ rfl rfl ?_
  refine w_goto (pc' := 106) (pcT := 29) ⟨rfl, rfl⟩ rfl ?_
  refine w_at (ls2 := [(0, .ref 1), (1, .int (iZ ((i + 1 : Nat) : Int)))]) ?_ (hg (i + 1) (by omega))
  exact ⟨rfl, rfl, trivial⟩
theorem p_end {σ : zSt} {l : List Int} (hF : zFx σ) (hT : zTL σ l) (hOw : zOwn σ) {p : Nat} (hp : p = l.length) (i4 : zI σ 1 4 = iZ (p : Int)) (i3 : zI σ 1 3 = iZ 0) (h5 : zR σ 1 2 = some 5) {a : Int} (a5 : zI σ 5 2 = iZ a) (ha : 0 < a ∧ a ≤ 3) {Q : zSt → Option Value → Prop} (k : ∀ σ1, zFm [1] σ σ1 → Q σ1 (some (.int (iZ 1)))) : zGo σ p Q := by
  intro i hi
  have hl := hT.2.1
  have hz : zby l.length (fun i => l.getD i 0) (p : Int) = -1 := zby_out (Or.inr (by omega))
  have hA := zAt_no (l := l) (p := p) (by omega) (by unfold zlt; omega) (by unfold zdg; omega)
  refine w_iload_n (pc' := 30) ⟨rfl, rfl⟩ rfl ?_
  refine w_si (pc' := 33) ⟨rfl, rfl⟩ (by decide) ?_
  refine w_icF_gt (pc' := 36) ⟨rfl, rfl⟩ (by omega) ?_
  refine w_aload_n (pc' := 37) ⟨rfl, rfl⟩ rfl ?_
  refine w_cv1 (pc' := 40) ⟨rfl, rfl⟩ (by decide) (zOl hF rfl) (Nat.le_of_ble_eq_true rfl) (Nat.le_of_ble_eq_true rfl) (c_look hF hT hOw (by omega) i4 (Or.inl ⟨rfl, by unfold zbl; omega⟩) hA (by omega) (by omega) (fun u1 m1 t1 o1 => ?_))
  have hF := m1.fx hF
  have hT := m1.q.tl hT (by decide) (by decide)
  have i3 := (o1 3 (by omega)).trans i3
  refine w_aload_n (pc' := 41) ⟨rfl, rfl⟩ rfl ?_
  refine w_getI (pc' := 44) (cl := 0) (q := 4) ⟨rfl, rfl⟩ ⟨rfl, by decide⟩ (zOl hF rfl) t1.1 ?_
  refine w_aload_n (pc' := 45) ⟨rfl, rfl⟩ rfl ?_
  refine w_getR (pc' := 48) (cl := 0) (q := 1) ⟨rfl, rfl⟩ ⟨rfl, by decide⟩ (zOl hF rfl) (hF.2 1 1 3 rfl) ?_
  refine w_getI (pc' := 51) (cl := 7) (q := 1) ⟨rfl, rfl⟩ ⟨rfl, by decide⟩ (zOl hF rfl) hT.1 ?_
  refine w_icF_lt (pc' := 54) ⟨rfl, rfl⟩ (by omega) ?_
  refine w_aload_n (pc' := 55) ⟨rfl, rfl⟩ rfl ?_
  refine w_getI (pc' := 58) (cl := 0) (q := 3) ⟨rfl, rfl⟩ ⟨rfl, by decide⟩ (zOl hF rfl) i3 ?_
  refine w_ifF_ne (pc' := 61) ⟨rfl, rfl⟩ (by omega) ?_
  refine w_aload_n (pc' := 62) ⟨rfl, rfl⟩ rfl ?_
  refine w_getR (pc' := 65) (cl := 0) (q := 2) ⟨rfl, rfl⟩ ⟨rfl, by decide⟩ (zOl hF rfl) (m1.r h5) ?_
  refine w_getI (pc' := 68) (cl := 3) (q := 2) ⟨rfl, rfl⟩ ⟨rfl, by decide⟩ (zOl hF rfl) (m1.i a5 (by decide)) ?_
  refine w_ifF_le (pc' := 71) ⟨rfl, rfl⟩ (by omega) ?_
  refine w_ic (pc' := 72) ⟨rfl, rfl⟩ ?_
  refine w_ireturn (pc' := 73) ⟨rfl, rfl⟩ (by decide) ?_
  exact k _ m1
