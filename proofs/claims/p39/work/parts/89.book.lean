/-! THE CLASS: book() -/
theorem c_pclear {σ : zSt} (hF : zFx σ) {Q : zSt → Option Value → Prop} (k : ∀ σ1, zFm [5] σ σ1 → zI σ1 5 2 = iZ 0 → zI σ1 5 3 = iZ 0 → Q σ1 none) : zCa 43 [.ref 5] σ Q := by
  refine w_enter (c := zk_X4_clear) (ls2 := [(0, .ref 5)]) rfl ⟨rfl, trivial⟩ ?_
  refine w_aload_n (pc' := 1) ⟨rfl, rfl⟩ rfl ?_
  refine w_ic (pc' := 2) ⟨rfl, rfl⟩ ?_
  refine w_putI (pc' := 5) (cl := 3) (q := 2) ⟨rfl, rfl⟩ ⟨rfl, by decide⟩ (zOl hF rfl) ?_
  refine w_aload_n (pc' := 6) ⟨rfl, rfl⟩ rfl ?_
  refine w_ic (pc' := 7) ⟨rfl, rfl⟩ ?_
  refine w_putI (pc' := 10) (cl := 3) (q := 3) ⟨rfl, rfl⟩ ⟨rfl, by decide⟩ (zOl hF rfl) ?_
  refine w_return (pc' := 11) ⟨rfl, rfl⟩ ?_
  exact k _ ((zFm.wI List.mem_cons_self).trans (zFm.wI List.mem_cons_self)) (by rw [zI_wI_n (Or.inr (by decide)), zI_wI_s]) zI_wI_s
theorem c_readBook {σ : zSt} {l : List Int} (h0 : zBas σ l) {Q : zSt → Option Value → Prop} (k : ∀ σ1, zAs σ σ1 0 0 → zI σ1 5 2 = iZ 0 → zI σ1 5 3 = iZ 0 → zGo σ1 0 Q) : zCa 1 [.ref 1] σ Q := by
  refine w_enter (c := zk_X0_readBook) (ls2 := [(0, .ref 1)]) rfl ⟨rfl, trivial⟩ ?_
  have hF := h0.1
  have h5 := h0.2.2.2
  refine w_aload_n (pc' := 1) ⟨rfl, rfl⟩ rfl ?_
  refine w_getR (pc' := 4) (cl := 0) (q := 2) ⟨rfl, rfl⟩ ⟨rfl, by decide⟩ (zOl hF rfl) h5 ?_
  refine w_cv1 (pc' := 7) ⟨rfl, rfl⟩ (by decide) (zOl hF rfl) (Nat.le_of_ble_eq_true rfl) (Nat.le_of_ble_eq_true rfl) (c_pclear hF (fun σ1 m1 e52 e53 => ?_))
  have hF := m1.fx hF
  refine w_aload_n (pc' := 8) ⟨rfl, rfl⟩ rfl ?_
  refine w_ic (pc' := 9) ⟨rfl, rfl⟩ ?_
  refine w_putI (pc' := 12) (cl := 0) (q := 3) ⟨rfl, rfl⟩ ⟨rfl, by decide⟩ (zOl hF rfl) ?_
  refine w_aload_n (pc' := 13) ⟨rfl, rfl⟩ rfl ?_
  refine w_ic (pc' := 14) ⟨rfl, rfl⟩ ?_
  refine w_putI (pc' := 17) (cl := 0) (q := 4) ⟨rfl, rfl⟩ ⟨rfl, by decide⟩ (zOl hF rfl) ?_
  refine w_aload_n (pc' := 18) ⟨rfl, rfl⟩ rfl ?_
  refine w_ic (pc' := 19) ⟨rfl, rfl⟩ ?_
  refine w_putI (pc' := 22) (cl := 0) (q := 18) ⟨rfl, rfl⟩ ⟨rfl, by decide⟩ (zOl hF rfl) ?_
  refine w_aload_n (pc' := 23) ⟨rfl, rfl⟩ rfl ?_
  refine w_ic (pc' := 24) ⟨rfl, rfl⟩ ?_
  refine w_putI (pc' := 27) (cl := 0) (q := 19) ⟨rfl, rfl⟩ ⟨rfl, by decide⟩ (zOl hF rfl) ?_
  refine w_ic (pc' := 28) ⟨rfl, rfl⟩ ?_
  refine w_istore_n (pc' := 29) ⟨rfl, rfl⟩ rfl ?_
  refine w_at (ls2 := [(0, .ref 1), (1, .int (iZ ((0 : Nat) : Int)))]) ?_ (k _ ⟨(m1.q.mono (fun x hx => zWp_in (by simp only [List.mem_cons, List.not_mem_nil, or_false] at hx; omega))).trans ((((zFm.wI List.mem_cons_self).trans (zFm.wI List.mem_cons_self)).trans (zFm.wI List.mem_cons_self)).trans (zFm.wI List.mem_cons_self)).wp, ?_, ?_⟩ ?_ ?_ 0 (Nat.le_refl 0))
  · exact ⟨rfl, rfl, trivial⟩
  · rw [zI_wI_n (Or.inr (by decide)), zI_wI_n (Or.inr (by decide)), zI_wI_n (Or.inr (by decide)), zI_wI_s]
  · rw [zI_wI_n (Or.inr (by decide)), zI_wI_n (Or.inr (by decide)), zI_wI_s]; rfl
  · rw [zI_wI_n (Or.inl (by decide)), zI_wI_n (Or.inl (by decide)), zI_wI_n (Or.inl (by decide)), zI_wI_n (Or.inl (by decide))]; exact e52
  · rw [zI_wI_n (Or.inl (by decide)), zI_wI_n (Or.inl (by decide)), zI_wI_n (Or.inl (by decide)), zI_wI_n (Or.inl (by decide))]; exact e53
/-- the texts of books: two schemes, three -/
def zB2 (X Y : Nat → Int) : List Int := zScT ((0 : Nat) : Int) (X 0) ++ (zScT ((1 : Nat) : Int) (X 1) ++ (zcT ((0 : Nat) : Int) ((1 : Nat) : Int) (X 0) (X 1) (Y 0) ++ zcT ((1 : Nat) : Int) ((0 : Nat) : Int) (X 1) (X 0) (Y 1)))
def zB3 (X Y : Nat → Int) : List Int := zScT ((0 : Nat) : Int) (X 0) ++ (zScT ((1 : Nat) : Int) (X 1) ++ (zScT ((2 : Nat) : Int) (X 2) ++ (zcT ((0 : Nat) : Int) ((1 : Nat) : Int) (X 0) (X 1) (Y 0) ++ (zcT ((1 : Nat) : Int) ((0 : Nat) : Int) (X 1) (X 0) (Y 1) ++ (zcT ((1 : Nat) : Int) ((2 : Nat) : Int) (X 1) (X 2) (Y 2) ++ zcT ((0 : Nat) : Int) ((2 : Nat) : Int) (X 0) (X 2) (Y 3))))))
theorem rd_B2 {σ : zSt} {X Y : Nat → Int} (h0 : zBas σ (zB2 X Y)) {Q : zSt → Option Value → Prop} (k : ∀ σ2, zFk zWp σ σ2 → zCm σ2 2 X → zI σ2 5 2 = iZ ((2 : Nat) : Int) → zI σ2 5 3 = iZ ((2 : Nat) : Int) → Q σ2 (some (.int (iZ 1)))) : zCa 1 [.ref 1] σ Q := by
  refine c_readBook h0 (fun σ0 A0 e2 e3 => ?_)
  have C0 : zCm σ0 0 X := fun s hs => absurd hs (by omega)
  have hl0 : zB2 X Y = ([]) ++ (zScT ((0 : Nat) : Int) (X 0) ++ (zScT ((1 : Nat) : Int) (X 1) ++ (zcT ((0 : Nat) : Int) ((1 : Nat) : Int) (X 0) (X 1) (Y 0) ++ (zcT ((1 : Nat) : Int) ((0 : Nat) : Int) (X 1) (X 0) (Y 1))))) := by unfold zB2; simp only [List.append_assoc, List.nil_append, List.append_nil]
  have hp0 : ([] : List Int).length = 0 := by (try simp only [List.length_append, List.length_nil]) <;> omega
  refine rd_scheme h0 A0 (a := 0) (by decide) C0 e2 e3 hl0 hp0 (fun σ1 A1 e2 e3 C1 => ?_)
  have hl1 : zB2 X Y = (zScT ((0 : Nat) : Int) (X 0)) ++ (zScT ((1 : Nat) : Int) (X 1) ++ (zcT ((0 : Nat) : Int) ((1 : Nat) : Int) (X 0) (X 1) (Y 0) ++ (zcT ((1 : Nat) : Int) ((0 : Nat) : Int) (X 1) (X 0) (Y 1)))) := by unfold zB2; simp only [List.append_assoc, List.nil_append, List.append_nil]
  have hp1 : (zScT ((0 : Nat) : Int) (X 0) : List Int).length = 0 + (zScT ((0 : Nat) : Int) (X 0)).length := by (try simp only [List.length_append, List.length_nil]) <;> omega
  refine rd_scheme h0 A1 (a := 1) (by decide) C1 e2 e3 hl1 hp1 (fun σ2 A2 e2 e3 C2 => ?_)
  have hl2 : zB2 X Y = (zScT ((0 : Nat) : Int) (X 0) ++ (zScT ((1 : Nat) : Int) (X 1))) ++ (zcT ((0 : Nat) : Int) ((1 : Nat) : Int) (X 0) (X 1) (Y 0) ++ (zcT ((1 : Nat) : Int) ((0 : Nat) : Int) (X 1) (X 0) (Y 1))) := by unfold zB2; simp only [List.append_assoc, List.nil_append, List.append_nil]
  have hp2 : (zScT ((0 : Nat) : Int) (X 0) ++ (zScT ((1 : Nat) : Int) (X 1)) : List Int).length = 0 + (zScT ((0 : Nat) : Int) (X 0)).length + (zScT ((1 : Nat) : Int) (X 1)).length := by (try simp only [List.length_append, List.length_nil]) <;> omega
  refine rd_cross h0 A2 (a := 2) (by decide) (u := 0) (v := 1) (c := 0) (by decide) (by decide) (by decide) (by decide) C2 e2 e3 hl2 hp2 (fun σ3 A3 C3 e2 e3 => ?_)
  have hl3 : zB2 X Y = (zScT ((0 : Nat) : Int) (X 0) ++ (zScT ((1 : Nat) : Int) (X 1) ++ (zcT ((0 : Nat) : Int) ((1 : Nat) : Int) (X 0) (X 1) (Y 0)))) ++ (zcT ((1 : Nat) : Int) ((0 : Nat) : Int) (X 1) (X 0) (Y 1) ++ ([])) := by unfold zB2; simp only [List.append_assoc, List.nil_append, List.append_nil]
  have hp3 : (zScT ((0 : Nat) : Int) (X 0) ++ (zScT ((1 : Nat) : Int) (X 1) ++ (zcT ((0 : Nat) : Int) ((1 : Nat) : Int) (X 0) (X 1) (Y 0))) : List Int).length = 0 + (zScT ((0 : Nat) : Int) (X 0)).length + (zScT ((1 : Nat) : Int) (X 1)).length + (zcT ((0 : Nat) : Int) ((1 : Nat) : Int) (X 0) (X 1) (Y 0)).length := by (try simp only [List.length_append, List.length_nil]) <;> omega
  refine rd_cross h0 A3 (a := 2) (by decide) (u := 1) (v := 0) (c := 1) (by decide) (by decide) (by decide) (by decide) C3 e2 e3 hl3 hp3 (fun σ4 A4 C4 e2 e3 => ?_)
  have hB := A4.1.basW h0
  have hend : 0 + (zScT ((0 : Nat) : Int) (X 0)).length + (zScT ((1 : Nat) : Int) (X 1)).length + (zcT ((0 : Nat) : Int) ((1 : Nat) : Int) (X 0) (X 1) (Y 0)).length + (zcT ((1 : Nat) : Int) ((0 : Nat) : Int) (X 1) (X 0) (Y 1)).length = (zB2 X Y).length := by unfold zB2; simp only [List.length_append]; omega
  exact p_end hB.1 hB.2.1 hB.2.2.1 hend A4.2.2 A4.2.1 hB.2.2.2 e2 (by decide) (fun σe me => k σe (A4.1.trans me.wp) (C4.fk (by decide) me.q (fun o q => by rw [List.mem_singleton] at q; omega)) (me.i e2 (by simp only [List.mem_cons, List.not_mem_nil, or_false, not_false_eq_true] <;> omega)) (me.i e3 (by simp only [List.mem_cons, List.not_mem_nil, or_false, not_false_eq_true] <;> omega)))
theorem rd_B3 {σ : zSt} {X Y : Nat → Int} (h0 : zBas σ (zB3 X Y)) {Q : zSt → Option Value → Prop} (k : ∀ σ2, zFk zWp σ σ2 → zCm σ2 3 X → zI σ2 5 2 = iZ ((3 : Nat) : Int) → zI σ2 5 3 = iZ ((4 : Nat) : Int) → Q σ2 (some (.int (iZ 1)))) : zCa 1 [.ref 1] σ Q := by
  refine c_readBook h0 (fun σ0 A0 e2 e3 => ?_)
  have C0 : zCm σ0 0 X := fun s hs => absurd hs (by omega)
  have hl0 : zB3 X Y = ([]) ++ (zScT ((0 : Nat) : Int) (X 0) ++ (zScT ((1 : Nat) : Int) (X 1) ++ (zScT ((2 : Nat) : Int) (X 2) ++ (zcT ((0 : Nat) : Int) ((1 : Nat) : Int) (X 0) (X 1) (Y 0) ++ (zcT ((1 : Nat) : Int) ((0 : Nat) : Int) (X 1) (X 0) (Y 1) ++ (zcT ((1 : Nat) : Int) ((2 : Nat) : Int) (X 1) (X 2) (Y 2) ++ (zcT ((0 : Nat) : Int) ((2 : Nat) : Int) (X 0) (X 2) (Y 3)))))))) := by unfold zB3; simp only [List.append_assoc, List.nil_append, List.append_nil]
  have hp0 : ([] : List Int).length = 0 := by (try simp only [List.length_append, List.length_nil]) <;> omega
  refine rd_scheme h0 A0 (a := 0) (by decide) C0 e2 e3 hl0 hp0 (fun σ1 A1 e2 e3 C1 => ?_)
  have hl1 : zB3 X Y = (zScT ((0 : Nat) : Int) (X 0)) ++ (zScT ((1 : Nat) : Int) (X 1) ++ (zScT ((2 : Nat) : Int) (X 2) ++ (zcT ((0 : Nat) : Int) ((1 : Nat) : Int) (X 0) (X 1) (Y 0) ++ (zcT ((1 : Nat) : Int) ((0 : Nat) : Int) (X 1) (X 0) (Y 1) ++ (zcT ((1 : Nat) : Int) ((2 : Nat) : Int) (X 1) (X 2) (Y 2) ++ (zcT ((0 : Nat) : Int) ((2 : Nat) : Int) (X 0) (X 2) (Y 3))))))) := by unfold zB3; simp only [List.append_assoc, List.nil_append, List.append_nil]
  have hp1 : (zScT ((0 : Nat) : Int) (X 0) : List Int).length = 0 + (zScT ((0 : Nat) : Int) (X 0)).length := by (try simp only [List.length_append, List.length_nil]) <;> omega
  refine rd_scheme h0 A1 (a := 1) (by decide) C1 e2 e3 hl1 hp1 (fun σ2 A2 e2 e3 C2 => ?_)
  have hl2 : zB3 X Y = (zScT ((0 : Nat) : Int) (X 0) ++ (zScT ((1 : Nat) : Int) (X 1))) ++ (zScT ((2 : Nat) : Int) (X 2) ++ (zcT ((0 : Nat) : Int) ((1 : Nat) : Int) (X 0) (X 1) (Y 0) ++ (zcT ((1 : Nat) : Int) ((0 : Nat) : Int) (X 1) (X 0) (Y 1) ++ (zcT ((1 : Nat) : Int) ((2 : Nat) : Int) (X 1) (X 2) (Y 2) ++ (zcT ((0 : Nat) : Int) ((2 : Nat) : Int) (X 0) (X 2) (Y 3)))))) := by unfold zB3; simp only [List.append_assoc, List.nil_append, List.append_nil]
  have hp2 : (zScT ((0 : Nat) : Int) (X 0) ++ (zScT ((1 : Nat) : Int) (X 1)) : List Int).length = 0 + (zScT ((0 : Nat) : Int) (X 0)).length + (zScT ((1 : Nat) : Int) (X 1)).length := by (try simp only [List.length_append, List.length_nil]) <;> omega
  refine rd_scheme h0 A2 (a := 2) (by decide) C2 e2 e3 hl2 hp2 (fun σ3 A3 e2 e3 C3 => ?_)
  have hl3 : zB3 X Y = (zScT ((0 : Nat) : Int) (X 0) ++ (zScT ((1 : Nat) : Int) (X 1) ++ (zScT ((2 : Nat) : Int) (X 2)))) ++ (zcT ((0 : Nat) : Int) ((1 : Nat) : Int) (X 0) (X 1) (Y 0) ++ (zcT ((1 : Nat) : Int) ((0 : Nat) : Int) (X 1) (X 0) (Y 1) ++ (zcT ((1 : Nat) : Int) ((2 : Nat) : Int) (X 1) (X 2) (Y 2) ++ (zcT ((0 : Nat) : Int) ((2 : Nat) : Int) (X 0) (X 2) (Y 3))))) := by unfold zB3; simp only [List.append_assoc, List.nil_append, List.append_nil]
  have hp3 : (zScT ((0 : Nat) : Int) (X 0) ++ (zScT ((1 : Nat) : Int) (X 1) ++ (zScT ((2 : Nat) : Int) (X 2))) : List Int).length = 0 + (zScT ((0 : Nat) : Int) (X 0)).length + (zScT ((1 : Nat) : Int) (X 1)).length + (zScT ((2 : Nat) : Int) (X 2)).length := by (try simp only [List.length_append, List.length_nil]) <;> omega
  refine rd_cross h0 A3 (a := 3) (by decide) (u := 0) (v := 1) (c := 0) (by decide) (by decide) (by decide) (by decide) C3 e2 e3 hl3 hp3 (fun σ4 A4 C4 e2 e3 => ?_)
  have hl4 : zB3 X Y = (zScT ((0 : Nat) : Int) (X 0) ++ (zScT ((1 : Nat) : Int) (X 1) ++ (zScT ((2 : Nat) : Int) (X 2) ++ (zcT ((0 : Nat) : Int) ((1 : Nat) : Int) (X 0) (X 1) (Y 0))))) ++ (zcT ((1 : Nat) : Int) ((0 : Nat) : Int) (X 1) (X 0) (Y 1) ++ (zcT ((1 : Nat) : Int) ((2 : Nat) : Int) (X 1) (X 2) (Y 2) ++ (zcT ((0 : Nat) : Int) ((2 : Nat) : Int) (X 0) (X 2) (Y 3)))) := by unfold zB3; simp only [List.append_assoc, List.nil_append, List.append_nil]
  have hp4 : (zScT ((0 : Nat) : Int) (X 0) ++ (zScT ((1 : Nat) : Int) (X 1) ++ (zScT ((2 : Nat) : Int) (X 2) ++ (zcT ((0 : Nat) : Int) ((1 : Nat) : Int) (X 0) (X 1) (Y 0)))) : List Int).length = 0 + (zScT ((0 : Nat) : Int) (X 0)).length + (zScT ((1 : Nat) : Int) (X 1)).length + (zScT ((2 : Nat) : Int) (X 2)).length + (zcT ((0 : Nat) : Int) ((1 : Nat) : Int) (X 0) (X 1) (Y 0)).length := by (try simp only [List.length_append, List.length_nil]) <;> omega
  refine rd_cross h0 A4 (a := 3) (by decide) (u := 1) (v := 0) (c := 1) (by decide) (by decide) (by decide) (by decide) C4 e2 e3 hl4 hp4 (fun σ5 A5 C5 e2 e3 => ?_)
  have hl5 : zB3 X Y = (zScT ((0 : Nat) : Int) (X 0) ++ (zScT ((1 : Nat) : Int) (X 1) ++ (zScT ((2 : Nat) : Int) (X 2) ++ (zcT ((0 : Nat) : Int) ((1 : Nat) : Int) (X 0) (X 1) (Y 0) ++ (zcT ((1 : Nat) : Int) ((0 : Nat) : Int) (X 1) (X 0) (Y 1)))))) ++ (zcT ((1 : Nat) : Int) ((2 : Nat) : Int) (X 1) (X 2) (Y 2) ++ (zcT ((0 : Nat) : Int) ((2 : Nat) : Int) (X 0) (X 2) (Y 3))) := by unfold zB3; simp only [List.append_assoc, List.nil_append, List.append_nil]
  have hp5 : (zScT ((0 : Nat) : Int) (X 0) ++ (zScT ((1 : Nat) : Int) (X 1) ++ (zScT ((2 : Nat) : Int) (X 2) ++ (zcT ((0 : Nat) : Int) ((1 : Nat) : Int) (X 0) (X 1) (Y 0) ++ (zcT ((1 : Nat) : Int) ((0 : Nat) : Int) (X 1) (X 0) (Y 1))))) : List Int).length = 0 + (zScT ((0 : Nat) : Int) (X 0)).length + (zScT ((1 : Nat) : Int) (X 1)).length + (zScT ((2 : Nat) : Int) (X 2)).length + (zcT ((0 : Nat) : Int) ((1 : Nat) : Int) (X 0) (X 1) (Y 0)).length + (zcT ((1 : Nat) : Int) ((0 : Nat) : Int) (X 1) (X 0) (Y 1)).length := by (try simp only [List.length_append, List.length_nil]) <;> omega
  refine rd_cross h0 A5 (a := 3) (by decide) (u := 1) (v := 2) (c := 2) (by decide) (by decide) (by decide) (by decide) C5 e2 e3 hl5 hp5 (fun σ6 A6 C6 e2 e3 => ?_)
  have hl6 : zB3 X Y = (zScT ((0 : Nat) : Int) (X 0) ++ (zScT ((1 : Nat) : Int) (X 1) ++ (zScT ((2 : Nat) : Int) (X 2) ++ (zcT ((0 : Nat) : Int) ((1 : Nat) : Int) (X 0) (X 1) (Y 0) ++ (zcT ((1 : Nat) : Int) ((0 : Nat) : Int) (X 1) (X 0) (Y 1) ++ (zcT ((1 : Nat) : Int) ((2 : Nat) : Int) (X 1) (X 2) (Y 2))))))) ++ (zcT ((0 : Nat) : Int) ((2 : Nat) : Int) (X 0) (X 2) (Y 3) ++ ([])) := by unfold zB3; simp only [List.append_assoc, List.nil_append, List.append_nil]
  have hp6 : (zScT ((0 : Nat) : Int) (X 0) ++ (zScT ((1 : Nat) : Int) (X 1) ++ (zScT ((2 : Nat) : Int) (X 2) ++ (zcT ((0 : Nat) : Int) ((1 : Nat) : Int) (X 0) (X 1) (Y 0) ++ (zcT ((1 : Nat) : Int) ((0 : Nat) : Int) (X 1) (X 0) (Y 1) ++ (zcT ((1 : Nat) : Int) ((2 : Nat) : Int) (X 1) (X 2) (Y 2)))))) : List Int).length = 0 + (zScT ((0 : Nat) : Int) (X 0)).length + (zScT ((1 : Nat) : Int) (X 1)).length + (zScT ((2 : Nat) : Int) (X 2)).length + (zcT ((0 : Nat) : Int) ((1 : Nat) : Int) (X 0) (X 1) (Y 0)).length + (zcT ((1 : Nat) : Int) ((0 : Nat) : Int) (X 1) (X 0) (Y 1)).length + (zcT ((1 : Nat) : Int) ((2 : Nat) : Int) (X 1) (X 2) (Y 2)).length := by (try simp only [List.length_append, List.length_nil]) <;> omega
  refine rd_cross h0 A6 (a := 3) (by decide) (u := 0) (v := 2) (c := 3) (by decide) (by decide) (by decide) (by decide) C6 e2 e3 hl6 hp6 (fun σ7 A7 C7 e2 e3 => ?_)
  have hB := A7.1.basW h0
  have hend : 0 + (zScT ((0 : Nat) : Int) (X 0)).length + (zScT ((1 : Nat) : Int) (X 1)).length + (zScT ((2 : Nat) : Int) (X 2)).length + (zcT ((0 : Nat) : Int) ((1 : Nat) : Int) (X 0) (X 1) (Y 0)).length + (zcT ((1 : Nat) : Int) ((0 : Nat) : Int) (X 1) (X 0) (Y 1)).length + (zcT ((1 : Nat) : Int) ((2 : Nat) : Int) (X 1) (X 2) (Y 2)).length + (zcT ((0 : Nat) : Int) ((2 : Nat) : Int) (X 0) (X 2) (Y 3)).length = (zB3 X Y).length := by unfold zB3; simp only [List.length_append]; omega
  exact p_end hB.1 hB.2.1 hB.2.2.1 hend A7.2.2 A7.2.1 hB.2.2.2 e2 (by decide) (fun σe me => k σe (A7.1.trans me.wp) (C7.fk (by decide) me.q (fun o q => by rw [List.mem_singleton] at q; omega)) (me.i e2 (by simp only [List.mem_cons, List.not_mem_nil, or_false, not_false_eq_true] <;> omega)) (me.i e3 (by simp only [List.mem_cons, List.not_mem_nil, or_false, not_false_eq_true] <;> omega)))
theorem zFx_wR {σ : zSt} {o k : Nat} {v : Option Nat} (h : zfx o k = none) (hF : zFx σ) : zFx (zwR σ o k v) := ⟨hF.1, fun o' k' a e => by
  rw [zR_wR_n (by
    by_cases h1 : o' = o
    · by_cases h2 : k' = k
      · subst h1; subst h2; rw [h] at e; cases e
      · exact Or.inr h2
    · exact Or.inl h1)]
  exact hF.2 o' k' a e⟩
/-- what stands behind book() -/
def zHd (σ σ2 : zSt) (a c : Nat) (X : Nat → Int) : Prop := zFx σ2 ∧ zR σ2 0 10 = some 5 ∧ zCm σ2 a X ∧ (zI σ2 5 2 = iZ (a : Int) ∧ zI σ2 5 3 = iZ (c : Int)) ∧ (zI σ2 79 2 = iZ 0 ∧ zI σ2 79 3 = iZ 0) ∧ (∃ R : zRw0, zL σ2 80 = zclr R) ∧ zN σ2 = zN σ ∧ ∀ o, 164 ≤ o → (∀ k, zI σ2 o k = zI σ o k) ∧ ∀ k, zR σ2 o k = zR σ o k
theorem zCm.fr3 {σ σ' : zSt} {a : Nat} {X : Nat → Int} (h : zCm σ a X) (m : zFm [3] σ σ') : zCm σ' a X := fun s hs => (h s hs).fr m.q (by simp only [List.mem_cons, List.not_mem_nil, or_false, not_false_eq_true] <;> omega) (by simp only [List.mem_cons, List.not_mem_nil, or_false, not_false_eq_true] <;> omega) (by simp only [List.mem_cons, List.not_mem_nil, or_false, not_false_eq_true] <;> omega) (by simp only [List.mem_cons, List.not_mem_nil, or_false, not_false_eq_true] <;> omega) (by simp only [List.mem_cons, List.not_mem_nil, or_false, not_false_eq_true] <;> omega)
theorem c_book {σ : zSt} {l : List Int} (h0 : zBas σ l) (hPp : zR σ 0 10 = some 114) {a c : Nat} (hac : a ≤ 3 ∧ c ≤ 4) {X : Nat → Int} (hrd : ∀ Q : zSt → Option Value → Prop, (∀ σ2, zFk zWp σ σ2 → zCm σ2 a X → zI σ2 5 2 = iZ (a : Int) → zI σ2 5 3 = iZ (c : Int) → Q σ2 (some (.int (iZ 1)))) → zCa 1 [.ref 1] σ Q) {Q : zSt → Option Value → Prop} (k : ∀ σ2, zHd σ σ2 a c X → Q σ2 (some (.int (iZ ((a : Int) + c))))) : zCa 94 [.ref 0] σ Q := by
  refine w_enter (c := zk_X11_book) (ls2 := [(0, .ref 0)]) rfl ⟨rfl, trivial⟩ ?_
  have hF := h0.1
  have hF0 := h0.1
  refine w_aload_n (pc' := 1) ⟨rfl, rfl⟩ rfl ?_
  refine w_getR (pc' := 4) (cl := 9) (q := 1) ⟨rfl, rfl⟩ ⟨rfl, by decide⟩ (zOl hF rfl) (hF.2 0 1 1 rfl) ?_
  refine w_cv1 (pc' := 7) ⟨rfl, rfl⟩ (by decide) (zOl hF rfl) (Nat.le_of_ble_eq_true rfl) (Nat.le_of_ble_eq_true rfl) (hrd _ (fun σ1 f1 C1 e2 e3 => ?_))
  have hF := f1.fx hF
  have h5 := f1.r h0.2.2.2 (Or.inr (by decide))
  have hPp := f1.r hPp (Or.inl (by decide))
  refine w_istore_n (pc' := 8) ⟨rfl, rfl⟩ rfl ?_
  refine w_aload_n (pc' := 9) ⟨rfl, rfl⟩ rfl ?_
  refine w_getR (pc' := 12) (cl := 9) (q := 0) ⟨rfl, rfl⟩ ⟨rfl, by decide⟩ (zOl hF rfl) (hF.2 0 0 3 rfl) ?_
  refine w_ic (pc' := 13) ⟨rfl, rfl⟩ ?_
  refine w_putI (pc' := 16) (cl := 7) (q := 1) ⟨rfl, rfl⟩ ⟨rfl, by decide⟩ (zOl hF rfl) ?_
  refine w_gI (fun σ3 m3 _ _ => ?_)
  have hF := m3.fx hF
  have h5 := m3.r h5
  have hPp := m3.r hPp
  have e2 := m3.i e2 (by decide)
  have e3 := m3.i e3 (by decide)
  have C3 := C1.fr3 m3
  refine w_iload_n (pc' := 17) ⟨rfl, rfl⟩ rfl ?_
  refine w_ifT_ne (pc' := 20) (pcT := 32) ⟨rfl, rfl⟩ rfl (by decide) ?_
  refine w_aload_n (pc' := 33) ⟨rfl, rfl⟩ rfl ?_
  refine w_getR (pc' := 36) (cl := 9) (q := 10) ⟨rfl, rfl⟩ ⟨rfl, by decide⟩ (zOl hF rfl) hPp ?_
  refine w_astore_n (pc' := 37) ⟨rfl, rfl⟩ rfl ?_
  refine w_aload_n (pc' := 38) ⟨rfl, rfl⟩ rfl ?_
  refine w_aload_n (pc' := 39) ⟨rfl, rfl⟩ rfl ?_
  refine w_getR (pc' := 42) (cl := 9) (q := 1) ⟨rfl, rfl⟩ ⟨rfl, by decide⟩ (zOl hF rfl) (hF.2 0 1 1 rfl) ?_
  refine w_getR (pc' := 45) (cl := 0) (q := 2) ⟨rfl, rfl⟩ ⟨rfl, by decide⟩ (zOl hF rfl) h5 ?_
  refine w_putR (pc' := 48) (cl := 9) (q := 10) ⟨rfl, rfl⟩ ⟨rfl, by decide⟩ (zOl hF rfl) ?_
  generalize hσ4 : zwR σ3 0 10 (some 5) = σ4
  have hF : zFx σ4 := hσ4 ▸ zFx_wR rfl hF
  have h5 : zR σ4 1 2 = some 5 := by rw [← hσ4, zR_wR_n (Or.inl (by decide))]; exact h5
  have hP4 : zR σ4 0 10 = some 5 := by rw [← hσ4]; exact zR_wR_s
  refine w_aload_n (pc' := 49) ⟨rfl, rfl⟩ rfl ?_
  refine w_getR (pc' := 52) (cl := 9) (q := 1) ⟨rfl, rfl⟩ ⟨rfl, by decide⟩ (zOl hF rfl) (hF.2 0 1 1 rfl) ?_
  refine w_aload_n (pc' := 53) ⟨rfl, rfl⟩ rfl ?_
  refine w_putR (pc' := 56) (cl := 0) (q := 2) ⟨rfl, rfl⟩ ⟨rfl, by decide⟩ (zOl hF rfl) ?_
  generalize hσ5 : zwR σ4 1 2 (some 114) = σ5
  have hF : zFx σ5 := hσ5 ▸ zFx_wR rfl hF
  have hP5 : zR σ5 0 10 = some 5 := by rw [← hσ5, zR_wR_n (Or.inl (by decide))]; exact hP4
  have hI5 : ∀ o k, zI σ5 o k = zI σ3 o k := fun o k => by rw [← hσ5, ← hσ4]; rfl
  refine w_aload_n (pc' := 57) ⟨rfl, rfl⟩ rfl ?_
  refine w_getR (pc' := 60) (cl := 9) (q := 2) ⟨rfl, rfl⟩ ⟨rfl, by decide⟩ (zOl hF rfl) (hF.2 0 2 79 rfl) ?_
  refine w_cv1 (pc' := 63) ⟨rfl, rfl⟩ (by decide) (zOl hF rfl) (Nat.le_of_ble_eq_true rfl) (Nat.le_of_ble_eq_true rfl) (c_clear hF ?_)
  refine w_aload_n (pc' := 64) ⟨rfl, rfl⟩ rfl ?_
  refine w_ic (pc' := 65) ⟨rfl, rfl⟩ ?_
  refine w_putZ (pc' := 68) (cl := 9) (q := 11) ⟨rfl, rfl⟩ ⟨rfl, by decide⟩ (zOl hF rfl) (by decide) ?_
  refine w_aload_n (pc' := 69) ⟨rfl, rfl⟩ rfl ?_
  refine w_getR (pc' := 72) (cl := 9) (q := 10) ⟨rfl, rfl⟩ ⟨rfl, by decide⟩ (zOl hF rfl) hP5 ?_
  refine w_getI (pc' := 75) (cl := 3) (q := 2) ⟨rfl, rfl⟩ ⟨rfl, by decide⟩ (zOl hF rfl) ((zI_wI_n (Or.inl (by decide))).trans ((zI_wI_n (Or.inl (by decide))).trans ((zI_wI_n (Or.inl (by decide))).trans ((hI5 _ _).trans e2)))) ?_
  refine w_aload_n (pc' := 76) ⟨rfl, rfl⟩ rfl ?_
  refine w_getR (pc' := 79) (cl := 9) (q := 10) ⟨rfl, rfl⟩ ⟨rfl, by decide⟩ (zOl hF rfl) hP5 ?_
  refine w_getI (pc' := 82) (cl := 3) (q := 3) ⟨rfl, rfl⟩ ⟨rfl, by decide⟩ (zOl hF rfl) ((zI_wI_n (Or.inl (by decide))).trans ((zI_wI_n (Or.inl (by decide))).trans ((zI_wI_n (Or.inl (by decide))).trans ((hI5 _ _).trans e3)))) ?_
  refine w_iaddZ (pc' := 83) ⟨rfl, rfl⟩ ?_
  refine w_ireturn (pc' := 84) ⟨rfl, rfl⟩ (Or.inl rfl) ?_
  have hIo : ∀ o k, o ≠ 0 → o ≠ 79 → zI (zwI (zwI (zwI (zrL σ5 80 (zclr (zL σ5 80))) 79 2 (iZ 0)) 79 3 (iZ 0)) 0 11 (iZ 0)) o k = zI σ3 o k := fun o k h1 h2 => by
    rw [zI_wI_n (Or.inl h1), zI_wI_n (Or.inl h2), zI_wI_n (Or.inl h2)]; exact hI5 o k
  have hRo : ∀ o k, 164 ≤ o → zR σ5 o k = zR σ3 o k := fun o k ho => by
    rw [← hσ5, ← hσ4, zR_wR_n (Or.inl (by omega)), zR_wR_n (Or.inl (by omega))]
  refine k _ ⟨hF, hP5, fun s hs => ?_, ⟨(hIo _ _ (by decide) (by decide)).trans e2, (hIo _ _ (by decide) (by decide)).trans e3⟩, ⟨?_, ?_⟩, ⟨_, zL_rLs⟩, ?_, fun o ho => ⟨fun j => ?_, fun j => ?_⟩⟩
  · have h := C3 s hs
    exact ⟨(hIo _ _ (by omega) (by omega)).trans h.1, (hIo _ _ (by omega) (by omega)).trans h.2.1, (hIo _ _ (by omega) (by omega)).trans h.2.2.1, fun f hf => ⟨(hIo _ _ (by omega) (by omega)).trans (h.2.2.2 f hf).1, (hIo _ _ (by omega) (by omega)).trans (h.2.2.2 f hf).2.1, (hIo _ _ (by omega) (by omega)).trans (h.2.2.2 f hf).2.2.1, (hIo _ _ (by omega) (by omega)).trans (h.2.2.2 f hf).2.2.2⟩⟩
  · rw [zI_wI_n (Or.inl (by decide)), zI_wI_n (Or.inr (by decide)), zI_wI_s]
  · rw [zI_wI_n (Or.inl (by decide)), zI_wI_s]
  · show zN σ5 = zN σ
    rw [← hσ5, ← hσ4]
    exact m3.1.trans f1.1
  · exact (hIo o j (by omega) (by omega)).trans (((m3.2.2 o (by simp only [List.mem_cons, List.not_mem_nil, or_false]; omega)).1 j).trans ((f1.2.2 o (fun q => by
      unfold zWp at q
      rw [List.mem_cons, List.mem_map] at q
      rcases q with q | ⟨z, hz, q⟩
      · omega
      · have := List.mem_range.mp hz; omega)).1 j))
  · exact (hRo o j ho).trans ((m3.2.1 o j).trans (f1.2.1 o j (Or.inl (by omega))))
