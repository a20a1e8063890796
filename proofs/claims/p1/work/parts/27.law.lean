/-! THE LAW: one call of each kind -/
theorem w_slenZ {c : zCode} {pc pc' t : Nat} {ls : zLv} {r : List Value} {σ : zSt} {Q : zSt → Option Value → Prop} {L : Nat} (hk : zat c pc .arraylength 1 t pc') (hL : zR σ zSCR 0 = some L) (kk : zP c pc' ls (.int (iZ (L : Int)) :: r) σ Q) : zP c pc ls (.ref zSCR :: r) σ Q := w_slen hk hL (iZ_n L ▸ kk)
theorem zscr164 : zSCR ∉ List.range 164 := fun h => by have := List.mem_range.mp h; unfold zSCR at this; omega
theorem zscr181 : zSCR ∉ List.range 181 := fun h => by have := List.mem_range.mp h; unfold zSCR at this; omega
/-- the fresh objects, a script of seven ints -/
def zLw (x : Nat → Int) (σ : zSt) : Prop := zNew σ ∧ zNewM σ ∧ zN σ = 181 ∧ zR σ zSCR 0 = some 7 ∧ ∀ j, zI σ zSCR j = iZ (x j)
def zLwM (x : Nat → Int) (σ : zSt) : Prop := (zFx σ ∧ zFr2 σ ∧ zTr σ zt0 ∧ zWid σ) ∧ zN σ = 181 ∧ zR σ zSCR 0 = some 7 ∧ ∀ j, zI σ zSCR j = iZ (x j)
theorem zfo2_in {o k : Nat} (h : zfo2 o k = true) : 164 ≤ o ∧ zfo o k = true := by
  unfold zfo2 at h
  rw [Bool.and_eq_true] at h
  exact ⟨Nat.le_of_ble_eq_true h.1, h.2⟩
theorem zLw.m {x : Nat → Int} {σ σ1 : zSt} (h : zLw x σ) (m : zFm (List.range 164) σ σ1) : zLwM x σ1 := by
  obtain ⟨h1, ⟨g1, g2, g3, g4⟩, h3, h4, h5⟩ := h
  have hk : ∀ o k, 164 ≤ o → zI σ1 o k = zI σ o k := fun o k ho => (m.2.2 o (fun q => by have := List.mem_range.mp q; omega)).1 k
  refine ⟨⟨m.fx g1, fun o k e => ?_, ⟨fun i hi => (hk _ _ (by omega)).trans (g3.1 i hi), (hk _ _ (by omega)).trans g3.2⟩, fun a b ha hb => (hk _ _ (by omega)).trans (g4 a b ha hb)⟩, m.1.trans h3, (m.2.1 _ _).trans h4, fun j => ((m.2.2 zSCR zscr164).1 j).trans (h5 j)⟩
  obtain ⟨e1, e2⟩ := zfo2_in e
  exact (hk o k e1).trans (g2 o k e2)
abbrev zQ1 : zSt → Option Value → Prop := fun σ v => v = some (.int 1) ∧ zN σ ≤ 600000
set_option maxRecDepth 20000 in
theorem law_fin {σ : zSt} (hN : zN σ = 181) (hS : zR σ zSCR 0 = some 7) : zP zk_L_law 1539 [(0, .ref zSCR), (3, .int (iZ 0))] [] σ zQ1 := by
  refine w_iincZ (pc' := 1542) ⟨rfl, rfl⟩ rfl rfl ?_
  refine w_goto (pc' := 1545) (pcT := 18) ⟨rfl, rfl⟩ rfl ?_
  refine w_iload_n (pc' := 19) ⟨rfl, rfl⟩ rfl ?_
  refine w_aload_n (pc' := 20) ⟨rfl, rfl⟩ rfl ?_
  refine w_slenZ (pc' := 21) ⟨rfl, rfl⟩ hS ?_
  refine w_bi (pc' := 23) ⟨rfl, rfl⟩ (by decide) ?_
  refine w_isubZ (pc' := 24) ⟨rfl, rfl⟩ ?_
  refine w_icT_gt (pc' := 27) (pcT := 1545) ⟨rfl, rfl⟩ rfl (by omega) ?_
  refine w_ic (pc' := 1546) ⟨rfl, rfl⟩ ?_
  refine w_ireturn (pc' := 1547) ⟨rfl, rfl⟩ (Or.inr ⟨rfl, Or.inr rfl⟩) ?_
  exact ⟨rfl, by omega⟩
set_option maxRecDepth 20000 in
theorem law_feed {x : Nat → Int} {σ : zSt} (h : zLw x σ) (hr : ∀ j, (-2147483648 ≤ x j ∧ x j ≤ 2147483647)) : zP zk_L_law 192 [(0, .ref zSCR), (1, .ref 0), (2, .ref 164), (3, .int (iZ 0))] [] σ zQ1 := by
  have r1 := hr 1
  have r2 := hr 2
  have r3 := hr 3
  have r4 := hr 4
  have r5 := hr 5
  have r6 := hr 6
  refine w_aload_n (pc' := 193) ⟨rfl, rfl⟩ rfl ?_
  refine w_aload_n (pc' := 194) ⟨rfl, rfl⟩ rfl ?_
  refine w_iload_n (pc' := 195) ⟨rfl, rfl⟩ rfl ?_
  refine w_ic (pc' := 196) ⟨rfl, rfl⟩ ?_
  refine w_iaddZ (pc' := 197) ⟨rfl, rfl⟩ ?_
  refine w_sald (pc' := 198) ⟨rfl, rfl⟩ h.2.2.2.1 (zixA (j := 1) (by decide)) ?_
  refine w_topI (h.2.2.2.2 1) ?_
  refine w_aload_n (pc' := 199) ⟨rfl, rfl⟩ rfl ?_
  refine w_iload_n (pc' := 200) ⟨rfl, rfl⟩ rfl ?_
  refine w_ic (pc' := 201) ⟨rfl, rfl⟩ ?_
  refine w_iaddZ (pc' := 202) ⟨rfl, rfl⟩ ?_
  refine w_sald (pc' := 203) ⟨rfl, rfl⟩ h.2.2.2.1 (zixA (j := 2) (by decide)) ?_
  refine w_topI (h.2.2.2.2 2) ?_
  refine w_aload_n (pc' := 204) ⟨rfl, rfl⟩ rfl ?_
  refine w_iload_n (pc' := 205) ⟨rfl, rfl⟩ rfl ?_
  refine w_ic (pc' := 206) ⟨rfl, rfl⟩ ?_
  refine w_iaddZ (pc' := 207) ⟨rfl, rfl⟩ ?_
  refine w_sald (pc' := 208) ⟨rfl, rfl⟩ h.2.2.2.1 (zixA (j := 3) (by decide)) ?_
  refine w_topI (h.2.2.2.2 3) ?_
  refine w_aload_n (pc' := 209) ⟨rfl, rfl⟩ rfl ?_
  refine w_iload_n (pc' := 210) ⟨rfl, rfl⟩ rfl ?_
  refine w_ic (pc' := 211) ⟨rfl, rfl⟩ ?_
  refine w_iaddZ (pc' := 212) ⟨rfl, rfl⟩ ?_
  refine w_sald (pc' := 213) ⟨rfl, rfl⟩ h.2.2.2.1 (zixA (j := 4) (by decide)) ?_
  refine w_topI (h.2.2.2.2 4) ?_
  refine w_aload_n (pc' := 214) ⟨rfl, rfl⟩ rfl ?_
  refine w_iload_n (pc' := 215) ⟨rfl, rfl⟩ rfl ?_
  refine w_ic (pc' := 216) ⟨rfl, rfl⟩ ?_
  refine w_iaddZ (pc' := 217) ⟨rfl, rfl⟩ ?_
  refine w_sald (pc' := 218) ⟨rfl, rfl⟩ h.2.2.2.1 (zixA (j := 5) (by decide)) ?_
  refine w_topI (h.2.2.2.2 5) ?_
  refine w_cv6 (pc' := 221) ⟨rfl, rfl⟩ (by decide) (zOl h.1.1 rfl) (Nat.le_of_ble_eq_true rfl) (Nat.le_of_ble_eq_true rfl) (f_X11_feed h.1.1 h.1.2.1 h.1.2.2.1 h.1.2.2.2.1 h.1.2.2.2.2 (by omega) (by omega) (by omega) (by omega) (by omega) (fun σ1 m1 => ?_))
  have hm := h.m m1
  refine w_aload_n (pc' := 222) ⟨rfl, rfl⟩ rfl ?_
  refine w_aload_n (pc' := 223) ⟨rfl, rfl⟩ rfl ?_
  refine w_iload_n (pc' := 224) ⟨rfl, rfl⟩ rfl ?_
  refine w_ic (pc' := 225) ⟨rfl, rfl⟩ ?_
  refine w_iaddZ (pc' := 226) ⟨rfl, rfl⟩ ?_
  refine w_sald (pc' := 227) ⟨rfl, rfl⟩ hm.2.2.1 (zixA (j := 1) (by decide)) ?_
  refine w_topI (hm.2.2.2 1) ?_
  refine w_aload_n (pc' := 228) ⟨rfl, rfl⟩ rfl ?_
  refine w_iload_n (pc' := 229) ⟨rfl, rfl⟩ rfl ?_
  refine w_ic (pc' := 230) ⟨rfl, rfl⟩ ?_
  refine w_iaddZ (pc' := 231) ⟨rfl, rfl⟩ ?_
  refine w_sald (pc' := 232) ⟨rfl, rfl⟩ hm.2.2.1 (zixA (j := 2) (by decide)) ?_
  refine w_topI (hm.2.2.2 2) ?_
  refine w_aload_n (pc' := 233) ⟨rfl, rfl⟩ rfl ?_
  refine w_iload_n (pc' := 234) ⟨rfl, rfl⟩ rfl ?_
  refine w_ic (pc' := 235) ⟨rfl, rfl⟩ ?_
  refine w_iaddZ (pc' := 236) ⟨rfl, rfl⟩ ?_
  refine w_sald (pc' := 237) ⟨rfl, rfl⟩ hm.2.2.1 (zixA (j := 3) (by decide)) ?_
  refine w_topI (hm.2.2.2 3) ?_
  refine w_aload_n (pc' := 238) ⟨rfl, rfl⟩ rfl ?_
  refine w_iload_n (pc' := 239) ⟨rfl, rfl⟩ rfl ?_
  refine w_ic (pc' := 240) ⟨rfl, rfl⟩ ?_
  refine w_iaddZ (pc' := 241) ⟨rfl, rfl⟩ ?_
  refine w_sald (pc' := 242) ⟨rfl, rfl⟩ hm.2.2.1 (zixA (j := 4) (by decide)) ?_
  refine w_topI (hm.2.2.2 4) ?_
  refine w_aload_n (pc' := 243) ⟨rfl, rfl⟩ rfl ?_
  refine w_iload_n (pc' := 244) ⟨rfl, rfl⟩ rfl ?_
  refine w_ic (pc' := 245) ⟨rfl, rfl⟩ ?_
  refine w_iaddZ (pc' := 246) ⟨rfl, rfl⟩ ?_
  refine w_sald (pc' := 247) ⟨rfl, rfl⟩ hm.2.2.1 (zixA (j := 5) (by decide)) ?_
  refine w_topI (hm.2.2.2 5) ?_
  refine w_cv6 (pc' := 250) ⟨rfl, rfl⟩ (by decide) (zOl hm.1.1 rfl) (Nat.le_of_ble_eq_true rfl) (Nat.le_of_ble_eq_true rfl) (f_X12_feed hm.1.1 hm.1.2.1 hm.1.2.2.1 (by omega) (by omega) (by omega) (by omega) (by omega) (fun σ2 m2 => ?_))
  refine w_icT_eq (pc' := 253) (pcT := 1539) ⟨rfl, rfl⟩ rfl (by decide) ?_
  refine w_at (ls2 := [(0, .ref zSCR), (3, .int (iZ 0))]) ?_ (law_fin (m2.1.trans hm.2.1) ((m2.2.1 _ _).trans hm.2.2.1))
  exact ⟨rfl, rfl, trivial⟩
set_option maxRecDepth 20000 in
theorem law_end {x : Nat → Int} {σ : zSt} (h : zLw x σ) (hr : ∀ j, (-2147483648 ≤ x j ∧ x j ≤ 2147483647)) : zP zk_L_law 255 [(0, .ref zSCR), (1, .ref 0), (2, .ref 164), (3, .int (iZ 0))] [] σ zQ1 := by
  have r1 := hr 1
  have r2 := hr 2
  have r3 := hr 3
  have r4 := hr 4
  have r5 := hr 5
  have r6 := hr 6
  refine w_aload_n (pc' := 256) ⟨rfl, rfl⟩ rfl ?_
  refine w_aload_n (pc' := 257) ⟨rfl, rfl⟩ rfl ?_
  refine w_iload_n (pc' := 258) ⟨rfl, rfl⟩ rfl ?_
  refine w_ic (pc' := 259) ⟨rfl, rfl⟩ ?_
  refine w_iaddZ (pc' := 260) ⟨rfl, rfl⟩ ?_
  refine w_sald (pc' := 261) ⟨rfl, rfl⟩ h.2.2.2.1 (zixA (j := 1) (by decide)) ?_
  refine w_topI (h.2.2.2.2 1) ?_
  refine w_cv2 (pc' := 264) ⟨rfl, rfl⟩ (by decide) (zOl h.1.1 rfl) (Nat.le_of_ble_eq_true rfl) (Nat.le_of_ble_eq_true rfl) (f_X11_end h.1.1 h.1.2.1 h.1.2.2.1 h.1.2.2.2.1 h.1.2.2.2.2 (by omega) (fun σ1 m1 => ?_))
  have hm := h.m m1
  refine w_aload_n (pc' := 265) ⟨rfl, rfl⟩ rfl ?_
  refine w_aload_n (pc' := 266) ⟨rfl, rfl⟩ rfl ?_
  refine w_iload_n (pc' := 267) ⟨rfl, rfl⟩ rfl ?_
  refine w_ic (pc' := 268) ⟨rfl, rfl⟩ ?_
  refine w_iaddZ (pc' := 269) ⟨rfl, rfl⟩ ?_
  refine w_sald (pc' := 270) ⟨rfl, rfl⟩ hm.2.2.1 (zixA (j := 1) (by decide)) ?_
  refine w_topI (hm.2.2.2 1) ?_
  refine w_cv2 (pc' := 273) ⟨rfl, rfl⟩ (by decide) (zOl hm.1.1 rfl) (Nat.le_of_ble_eq_true rfl) (Nat.le_of_ble_eq_true rfl) (f_X12_end hm.1.1 hm.1.2.1 hm.1.2.2.1 (by omega) (fun σ2 m2 => ?_))
  refine w_icI_eq (pc' := 276) (pcT := 1539) ⟨rfl, rfl⟩ rfl (fun h9 => ?_) (fun h9 => ?_)
  · refine w_at (ls2 := [(0, .ref zSCR), (3, .int (iZ 0))]) ?_ (law_fin (m2.1.trans hm.2.1) ((m2.2.1 _ _).trans hm.2.2.1))
    exact ⟨rfl, rfl, trivial⟩
  · refine w_ic (pc' := 277) ⟨rfl, rfl⟩ ?_
    refine w_ireturn (pc' := 278) ⟨rfl, rfl⟩ (by decide) ?_
    exact absurd rfl h9
set_option maxRecDepth 20000 in
theorem law_book {x : Nat → Int} {σ : zSt} (h : zLw x σ) (hr : ∀ j, (-2147483648 ≤ x j ∧ x j ≤ 2147483647)) : zP zk_L_law 278 [(0, .ref zSCR), (1, .ref 0), (2, .ref 164), (3, .int (iZ 0))] [] σ zQ1 := by
  have r1 := hr 1
  have r2 := hr 2
  have r3 := hr 3
  have r4 := hr 4
  have r5 := hr 5
  have r6 := hr 6
  refine w_aload_n (pc' := 279) ⟨rfl, rfl⟩ rfl ?_
  refine w_cv1 (pc' := 282) ⟨rfl, rfl⟩ (by decide) (zOl h.1.1 rfl) (Nat.le_of_ble_eq_true rfl) (Nat.le_of_ble_eq_true rfl) (f_X11_book h.1.1 h.1.2.1 h.1.2.2.1 h.1.2.2.2.1 h.1.2.2.2.2 (fun σ1 m1 => ?_))
  have hm := h.m m1
  refine w_aload_n (pc' := 283) ⟨rfl, rfl⟩ rfl ?_
  refine w_cv1 (pc' := 286) ⟨rfl, rfl⟩ (by decide) (zOl hm.1.1 rfl) (Nat.le_of_ble_eq_true rfl) (Nat.le_of_ble_eq_true rfl) (f_X12_book hm.1.1 hm.1.2.1 hm.1.2.2.1 (fun σ2 m2 => ?_))
  refine w_icT_eq (pc' := 289) (pcT := 1539) ⟨rfl, rfl⟩ rfl (by decide) ?_
  refine w_at (ls2 := [(0, .ref zSCR), (3, .int (iZ 0))]) ?_ (law_fin (m2.1.trans hm.2.1) ((m2.2.1 _ _).trans hm.2.2.1))
  exact ⟨rfl, rfl, trivial⟩
set_option maxRecDepth 20000 in
theorem law_fault {x : Nat → Int} {σ : zSt} (h : zLw x σ) (hr : ∀ j, (-2147483648 ≤ x j ∧ x j ≤ 2147483647)) : zP zk_L_law 291 [(0, .ref zSCR), (1, .ref 0), (2, .ref 164), (3, .int (iZ 0))] [] σ zQ1 := by
  have r1 := hr 1
  have r2 := hr 2
  have r3 := hr 3
  have r4 := hr 4
  have r5 := hr 5
  have r6 := hr 6
  refine w_aload_n (pc' := 292) ⟨rfl, rfl⟩ rfl ?_
  refine w_aload_n (pc' := 293) ⟨rfl, rfl⟩ rfl ?_
  refine w_iload_n (pc' := 294) ⟨rfl, rfl⟩ rfl ?_
  refine w_ic (pc' := 295) ⟨rfl, rfl⟩ ?_
  refine w_iaddZ (pc' := 296) ⟨rfl, rfl⟩ ?_
  refine w_sald (pc' := 297) ⟨rfl, rfl⟩ h.2.2.2.1 (zixA (j := 1) (by decide)) ?_
  refine w_topI (h.2.2.2.2 1) ?_
  refine w_cv2 (pc' := 300) ⟨rfl, rfl⟩ (by decide) (zOl h.1.1 rfl) (Nat.le_of_ble_eq_true rfl) (Nat.le_of_ble_eq_true rfl) (f_X11_fault h.1.1 h.1.2.1 h.1.2.2.1 h.1.2.2.2.1 h.1.2.2.2.2 (by omega) (fun σ1 m1 => ?_))
  have hm := h.m m1
  refine w_aload_n (pc' := 301) ⟨rfl, rfl⟩ rfl ?_
  refine w_aload_n (pc' := 302) ⟨rfl, rfl⟩ rfl ?_
  refine w_iload_n (pc' := 303) ⟨rfl, rfl⟩ rfl ?_
  refine w_ic (pc' := 304) ⟨rfl, rfl⟩ ?_
  refine w_iaddZ (pc' := 305) ⟨rfl, rfl⟩ ?_
  refine w_sald (pc' := 306) ⟨rfl, rfl⟩ hm.2.2.1 (zixA (j := 1) (by decide)) ?_
  refine w_topI (hm.2.2.2 1) ?_
  refine w_cv2 (pc' := 309) ⟨rfl, rfl⟩ (by decide) (zOl hm.1.1 rfl) (Nat.le_of_ble_eq_true rfl) (Nat.le_of_ble_eq_true rfl) (f_X12_fault hm.1.1 hm.1.2.1 hm.1.2.2.1 (by omega) (fun σ2 m2 => ?_))
  refine w_icI_eq (pc' := 312) (pcT := 1539) ⟨rfl, rfl⟩ rfl (fun h9 => ?_) (fun h9 => ?_)
  · refine w_at (ls2 := [(0, .ref zSCR), (3, .int (iZ 0))]) ?_ (law_fin (m2.1.trans hm.2.1) ((m2.2.1 _ _).trans hm.2.2.1))
    exact ⟨rfl, rfl, trivial⟩
  · refine w_ic (pc' := 313) ⟨rfl, rfl⟩ ?_
    refine w_ireturn (pc' := 314) ⟨rfl, rfl⟩ (by decide) ?_
    exact absurd rfl h9
set_option maxRecDepth 20000 in
theorem law_has {x : Nat → Int} {σ : zSt} (h : zLw x σ) (hr : ∀ j, (-2147483648 ≤ x j ∧ x j ≤ 2147483647)) : zP zk_L_law 314 [(0, .ref zSCR), (1, .ref 0), (2, .ref 164), (3, .int (iZ 0))] [] σ zQ1 := by
  have r1 := hr 1
  have r2 := hr 2
  have r3 := hr 3
  have r4 := hr 4
  have r5 := hr 5
  have r6 := hr 6
  refine w_aload_n (pc' := 315) ⟨rfl, rfl⟩ rfl ?_
  refine w_aload_n (pc' := 316) ⟨rfl, rfl⟩ rfl ?_
  refine w_iload_n (pc' := 317) ⟨rfl, rfl⟩ rfl ?_
  refine w_ic (pc' := 318) ⟨rfl, rfl⟩ ?_
  refine w_iaddZ (pc' := 319) ⟨rfl, rfl⟩ ?_
  refine w_sald (pc' := 320) ⟨rfl, rfl⟩ h.2.2.2.1 (zixA (j := 1) (by decide)) ?_
  refine w_topI (h.2.2.2.2 1) ?_
  refine w_cv2 (pc' := 323) ⟨rfl, rfl⟩ (by decide) (zOl h.1.1 rfl) (Nat.le_of_ble_eq_true rfl) (Nat.le_of_ble_eq_true rfl) (f_X11_has h.1.1 h.1.2.1 h.1.2.2.1 h.1.2.2.2.1 h.1.2.2.2.2 (by omega) (fun σ1 m1 => ?_))
  have hm := h.m m1
  refine w_aload_n (pc' := 324) ⟨rfl, rfl⟩ rfl ?_
  refine w_aload_n (pc' := 325) ⟨rfl, rfl⟩ rfl ?_
  refine w_iload_n (pc' := 326) ⟨rfl, rfl⟩ rfl ?_
  refine w_ic (pc' := 327) ⟨rfl, rfl⟩ ?_
  refine w_iaddZ (pc' := 328) ⟨rfl, rfl⟩ ?_
  refine w_sald (pc' := 329) ⟨rfl, rfl⟩ hm.2.2.1 (zixA (j := 1) (by decide)) ?_
  refine w_topI (hm.2.2.2 1) ?_
  refine w_cv2 (pc' := 332) ⟨rfl, rfl⟩ (by decide) (zOl hm.1.1 rfl) (Nat.le_of_ble_eq_true rfl) (Nat.le_of_ble_eq_true rfl) (f_X12_has hm.1.1 hm.1.2.1 hm.1.2.2.1 (by omega) (fun σ2 m2 => ?_))
  refine w_icI_eq (pc' := 335) (pcT := 1539) ⟨rfl, rfl⟩ rfl (fun h9 => ?_) (fun h9 => ?_)
  · refine w_at (ls2 := [(0, .ref zSCR), (3, .int (iZ 0))]) ?_ (law_fin (m2.1.trans hm.2.1) ((m2.2.1 _ _).trans hm.2.2.1))
    exact ⟨rfl, rfl, trivial⟩
  · refine w_ic (pc' := 336) ⟨rfl, rfl⟩ ?_
    refine w_ireturn (pc' := 337) ⟨rfl, rfl⟩ (by decide) ?_
    exact absurd rfl h9
set_option maxRecDepth 20000 in
theorem law_letter {x : Nat → Int} {σ : zSt} (h : zLw x σ) (hr : ∀ j, (-2147483648 ≤ x j ∧ x j ≤ 2147483647)) : zP zk_L_law 337 [(0, .ref zSCR), (1, .ref 0), (2, .ref 164), (3, .int (iZ 0))] [] σ zQ1 := by
  have r1 := hr 1
  have r2 := hr 2
  have r3 := hr 3
  have r4 := hr 4
  have r5 := hr 5
  have r6 := hr 6
  refine w_aload_n (pc' := 338) ⟨rfl, rfl⟩ rfl ?_
  refine w_aload_n (pc' := 339) ⟨rfl, rfl⟩ rfl ?_
  refine w_iload_n (pc' := 340) ⟨rfl, rfl⟩ rfl ?_
  refine w_ic (pc' := 341) ⟨rfl, rfl⟩ ?_
  refine w_iaddZ (pc' := 342) ⟨rfl, rfl⟩ ?_
  refine w_sald (pc' := 343) ⟨rfl, rfl⟩ h.2.2.2.1 (zixA (j := 1) (by decide)) ?_
  refine w_topI (h.2.2.2.2 1) ?_
  refine w_aload_n (pc' := 344) ⟨rfl, rfl⟩ rfl ?_
  refine w_iload_n (pc' := 345) ⟨rfl, rfl⟩ rfl ?_
  refine w_ic (pc' := 346) ⟨rfl, rfl⟩ ?_
  refine w_iaddZ (pc' := 347) ⟨rfl, rfl⟩ ?_
  refine w_sald (pc' := 348) ⟨rfl, rfl⟩ h.2.2.2.1 (zixA (j := 2) (by decide)) ?_
  refine w_topI (h.2.2.2.2 2) ?_
  refine w_aload_n (pc' := 349) ⟨rfl, rfl⟩ rfl ?_
  refine w_iload_n (pc' := 350) ⟨rfl, rfl⟩ rfl ?_
  refine w_ic (pc' := 351) ⟨rfl, rfl⟩ ?_
  refine w_iaddZ (pc' := 352) ⟨rfl, rfl⟩ ?_
  refine w_sald (pc' := 353) ⟨rfl, rfl⟩ h.2.2.2.1 (zixA (j := 3) (by decide)) ?_
  refine w_topI (h.2.2.2.2 3) ?_
  refine w_cv4 (pc' := 356) ⟨rfl, rfl⟩ (by decide) (zOl h.1.1 rfl) (Nat.le_of_ble_eq_true rfl) (Nat.le_of_ble_eq_true rfl) (f_X11_letter h.1.1 h.1.2.1 h.1.2.2.1 h.1.2.2.2.1 h.1.2.2.2.2 (by omega) (by omega) (by omega) (fun σ1 m1 => ?_))
  have hm := h.m m1
  refine w_aload_n (pc' := 357) ⟨rfl, rfl⟩ rfl ?_
  refine w_aload_n (pc' := 358) ⟨rfl, rfl⟩ rfl ?_
  refine w_iload_n (pc' := 359) ⟨rfl, rfl⟩ rfl ?_
  refine w_ic (pc' := 360) ⟨rfl, rfl⟩ ?_
  refine w_iaddZ (pc' := 361) ⟨rfl, rfl⟩ ?_
  refine w_sald (pc' := 362) ⟨rfl, rfl⟩ hm.2.2.1 (zixA (j := 1) (by decide)) ?_
  refine w_topI (hm.2.2.2 1) ?_
  refine w_aload_n (pc' := 363) ⟨rfl, rfl⟩ rfl ?_
  refine w_iload_n (pc' := 364) ⟨rfl, rfl⟩ rfl ?_
  refine w_ic (pc' := 365) ⟨rfl, rfl⟩ ?_
  refine w_iaddZ (pc' := 366) ⟨rfl, rfl⟩ ?_
  refine w_sald (pc' := 367) ⟨rfl, rfl⟩ hm.2.2.1 (zixA (j := 2) (by decide)) ?_
  refine w_topI (hm.2.2.2 2) ?_
  refine w_aload_n (pc' := 368) ⟨rfl, rfl⟩ rfl ?_
  refine w_iload_n (pc' := 369) ⟨rfl, rfl⟩ rfl ?_
  refine w_ic (pc' := 370) ⟨rfl, rfl⟩ ?_
  refine w_iaddZ (pc' := 371) ⟨rfl, rfl⟩ ?_
  refine w_sald (pc' := 372) ⟨rfl, rfl⟩ hm.2.2.1 (zixA (j := 3) (by decide)) ?_
  refine w_topI (hm.2.2.2 3) ?_
  refine w_cv4 (pc' := 375) ⟨rfl, rfl⟩ (by decide) (zOl hm.1.1 rfl) (Nat.le_of_ble_eq_true rfl) (Nat.le_of_ble_eq_true rfl) (f_X12_letter hm.1.1 hm.1.2.1 hm.1.2.2.1 (by omega) (by omega) (by omega) (fun σ2 m2 => ?_))
  refine w_icT_eq (pc' := 378) (pcT := 1539) ⟨rfl, rfl⟩ rfl (by decide) ?_
  refine w_at (ls2 := [(0, .ref zSCR), (3, .int (iZ 0))]) ?_ (law_fin (m2.1.trans hm.2.1) ((m2.2.1 _ _).trans hm.2.2.1))
  exact ⟨rfl, rfl, trivial⟩
set_option maxRecDepth 20000 in
theorem law_named {x : Nat → Int} {σ : zSt} (h : zLw x σ) (hr : ∀ j, (-2147483648 ≤ x j ∧ x j ≤ 2147483647)) : zP zk_L_law 380 [(0, .ref zSCR), (1, .ref 0), (2, .ref 164), (3, .int (iZ 0))] [] σ zQ1 := by
  have r1 := hr 1
  have r2 := hr 2
  have r3 := hr 3
  have r4 := hr 4
  have r5 := hr 5
  have r6 := hr 6
  refine w_aload_n (pc' := 381) ⟨rfl, rfl⟩ rfl ?_
  refine w_aload_n (pc' := 382) ⟨rfl, rfl⟩ rfl ?_
  refine w_iload_n (pc' := 383) ⟨rfl, rfl⟩ rfl ?_
  refine w_ic (pc' := 384) ⟨rfl, rfl⟩ ?_
  refine w_iaddZ (pc' := 385) ⟨rfl, rfl⟩ ?_
  refine w_sald (pc' := 386) ⟨rfl, rfl⟩ h.2.2.2.1 (zixA (j := 1) (by decide)) ?_
  refine w_topI (h.2.2.2.2 1) ?_
  refine w_cv2 (pc' := 389) ⟨rfl, rfl⟩ (by decide) (zOl h.1.1 rfl) (Nat.le_of_ble_eq_true rfl) (Nat.le_of_ble_eq_true rfl) (f_X11_named h.1.1 h.1.2.1 h.1.2.2.1 h.1.2.2.2.1 h.1.2.2.2.2 (by omega) (fun σ1 m1 => ?_))
  have hm := h.m m1
  refine w_aload_n (pc' := 390) ⟨rfl, rfl⟩ rfl ?_
  refine w_aload_n (pc' := 391) ⟨rfl, rfl⟩ rfl ?_
  refine w_iload_n (pc' := 392) ⟨rfl, rfl⟩ rfl ?_
  refine w_ic (pc' := 393) ⟨rfl, rfl⟩ ?_
  refine w_iaddZ (pc' := 394) ⟨rfl, rfl⟩ ?_
  refine w_sald (pc' := 395) ⟨rfl, rfl⟩ hm.2.2.1 (zixA (j := 1) (by decide)) ?_
  refine w_topI (hm.2.2.2 1) ?_
  refine w_cv2 (pc' := 398) ⟨rfl, rfl⟩ (by decide) (zOl hm.1.1 rfl) (Nat.le_of_ble_eq_true rfl) (Nat.le_of_ble_eq_true rfl) (f_X12_named hm.1.1 hm.1.2.1 hm.1.2.2.1 (by omega) (fun σ2 m2 => ?_))
  refine w_icT_eq (pc' := 401) (pcT := 1539) ⟨rfl, rfl⟩ rfl (by decide) ?_
  refine w_at (ls2 := [(0, .ref zSCR), (3, .int (iZ 0))]) ?_ (law_fin (m2.1.trans hm.2.1) ((m2.2.1 _ _).trans hm.2.2.1))
  exact ⟨rfl, rfl, trivial⟩
set_option maxRecDepth 20000 in
theorem law_field {x : Nat → Int} {σ : zSt} (h : zLw x σ) (hr : ∀ j, (-2147483648 ≤ x j ∧ x j ≤ 2147483647)) : zP zk_L_law 403 [(0, .ref zSCR), (1, .ref 0), (2, .ref 164), (3, .int (iZ 0))] [] σ zQ1 := by
  have r1 := hr 1
  have r2 := hr 2
  have r3 := hr 3
  have r4 := hr 4
  have r5 := hr 5
  have r6 := hr 6
  refine w_aload_n (pc' := 404) ⟨rfl, rfl⟩ rfl ?_
  refine w_aload_n (pc' := 405) ⟨rfl, rfl⟩ rfl ?_
  refine w_iload_n (pc' := 406) ⟨rfl, rfl⟩ rfl ?_
  refine w_ic (pc' := 407) ⟨rfl, rfl⟩ ?_
  refine w_iaddZ (pc' := 408) ⟨rfl, rfl⟩ ?_
  refine w_sald (pc' := 409) ⟨rfl, rfl⟩ h.2.2.2.1 (zixA (j := 1) (by decide)) ?_
  refine w_topI (h.2.2.2.2 1) ?_
  refine w_aload_n (pc' := 410) ⟨rfl, rfl⟩ rfl ?_
  refine w_iload_n (pc' := 411) ⟨rfl, rfl⟩ rfl ?_
  refine w_ic (pc' := 412) ⟨rfl, rfl⟩ ?_
  refine w_iaddZ (pc' := 413) ⟨rfl, rfl⟩ ?_
  refine w_sald (pc' := 414) ⟨rfl, rfl⟩ h.2.2.2.1 (zixA (j := 2) (by decide)) ?_
  refine w_topI (h.2.2.2.2 2) ?_
  refine w_aload_n (pc' := 415) ⟨rfl, rfl⟩ rfl ?_
  refine w_iload_n (pc' := 416) ⟨rfl, rfl⟩ rfl ?_
  refine w_ic (pc' := 417) ⟨rfl, rfl⟩ ?_
  refine w_iaddZ (pc' := 418) ⟨rfl, rfl⟩ ?_
  refine w_sald (pc' := 419) ⟨rfl, rfl⟩ h.2.2.2.1 (zixA (j := 3) (by decide)) ?_
  refine w_topI (h.2.2.2.2 3) ?_
  refine w_cv4 (pc' := 422) ⟨rfl, rfl⟩ (by decide) (zOl h.1.1 rfl) (Nat.le_of_ble_eq_true rfl) (Nat.le_of_ble_eq_true rfl) (f_X11_field h.1.1 h.1.2.1 h.1.2.2.1 h.1.2.2.2.1 h.1.2.2.2.2 (by omega) (by omega) (by omega) (fun σ1 m1 => ?_))
  have hm := h.m m1
  refine w_aload_n (pc' := 423) ⟨rfl, rfl⟩ rfl ?_
  refine w_aload_n (pc' := 424) ⟨rfl, rfl⟩ rfl ?_
  refine w_iload_n (pc' := 425) ⟨rfl, rfl⟩ rfl ?_
  refine w_ic (pc' := 426) ⟨rfl, rfl⟩ ?_
  refine w_iaddZ (pc' := 427) ⟨rfl, rfl⟩ ?_
  refine w_sald (pc' := 428) ⟨rfl, rfl⟩ hm.2.2.1 (zixA (j := 1) (by decide)) ?_
  refine w_topI (hm.2.2.2 1) ?_
  refine w_aload_n (pc' := 429) ⟨rfl, rfl⟩ rfl ?_
  refine w_iload_n (pc' := 430) ⟨rfl, rfl⟩ rfl ?_
  refine w_ic (pc' := 431) ⟨rfl, rfl⟩ ?_
  refine w_iaddZ (pc' := 432) ⟨rfl, rfl⟩ ?_
  refine w_sald (pc' := 433) ⟨rfl, rfl⟩ hm.2.2.1 (zixA (j := 2) (by decide)) ?_
  refine w_topI (hm.2.2.2 2) ?_
  refine w_aload_n (pc' := 434) ⟨rfl, rfl⟩ rfl ?_
  refine w_iload_n (pc' := 435) ⟨rfl, rfl⟩ rfl ?_
  refine w_ic (pc' := 436) ⟨rfl, rfl⟩ ?_
  refine w_iaddZ (pc' := 437) ⟨rfl, rfl⟩ ?_
  refine w_sald (pc' := 438) ⟨rfl, rfl⟩ hm.2.2.1 (zixA (j := 3) (by decide)) ?_
  refine w_topI (hm.2.2.2 3) ?_
  refine w_cv4 (pc' := 441) ⟨rfl, rfl⟩ (by decide) (zOl hm.1.1 rfl) (Nat.le_of_ble_eq_true rfl) (Nat.le_of_ble_eq_true rfl) (f_X12_field hm.1.1 hm.1.2.1 hm.1.2.2.1 (by omega) (by omega) (by omega) (fun σ2 m2 => ?_))
  refine w_icT_eq (pc' := 444) (pcT := 1539) ⟨rfl, rfl⟩ rfl (by decide) ?_
  refine w_at (ls2 := [(0, .ref zSCR), (3, .int (iZ 0))]) ?_ (law_fin (m2.1.trans hm.2.1) ((m2.2.1 _ _).trans hm.2.2.1))
  exact ⟨rfl, rfl, trivial⟩
set_option maxRecDepth 20000 in
theorem law_crossing {x : Nat → Int} {σ : zSt} (h : zLw x σ) (hr : ∀ j, (-2147483648 ≤ x j ∧ x j ≤ 2147483647)) : zP zk_L_law 446 [(0, .ref zSCR), (1, .ref 0), (2, .ref 164), (3, .int (iZ 0))] [] σ zQ1 := by
  have r1 := hr 1
  have r2 := hr 2
  have r3 := hr 3
  have r4 := hr 4
  have r5 := hr 5
  have r6 := hr 6
  refine w_aload_n (pc' := 447) ⟨rfl, rfl⟩ rfl ?_
  refine w_aload_n (pc' := 448) ⟨rfl, rfl⟩ rfl ?_
  refine w_iload_n (pc' := 449) ⟨rfl, rfl⟩ rfl ?_
  refine w_ic (pc' := 450) ⟨rfl, rfl⟩ ?_
  refine w_iaddZ (pc' := 451) ⟨rfl, rfl⟩ ?_
  refine w_sald (pc' := 452) ⟨rfl, rfl⟩ h.2.2.2.1 (zixA (j := 1) (by decide)) ?_
  refine w_topI (h.2.2.2.2 1) ?_
  refine w_aload_n (pc' := 453) ⟨rfl, rfl⟩ rfl ?_
  refine w_iload_n (pc' := 454) ⟨rfl, rfl⟩ rfl ?_
  refine w_ic (pc' := 455) ⟨rfl, rfl⟩ ?_
  refine w_iaddZ (pc' := 456) ⟨rfl, rfl⟩ ?_
  refine w_sald (pc' := 457) ⟨rfl, rfl⟩ h.2.2.2.1 (zixA (j := 2) (by decide)) ?_
  refine w_topI (h.2.2.2.2 2) ?_
  refine w_cv3 (pc' := 460) ⟨rfl, rfl⟩ (by decide) (zOl h.1.1 rfl) (Nat.le_of_ble_eq_true rfl) (Nat.le_of_ble_eq_true rfl) (f_X11_crossing h.1.1 h.1.2.1 h.1.2.2.1 h.1.2.2.2.1 h.1.2.2.2.2 (by omega) (by omega) (fun σ1 m1 => ?_))
  have hm := h.m m1
  refine w_aload_n (pc' := 461) ⟨rfl, rfl⟩ rfl ?_
  refine w_aload_n (pc' := 462) ⟨rfl, rfl⟩ rfl ?_
  refine w_iload_n (pc' := 463) ⟨rfl, rfl⟩ rfl ?_
  refine w_ic (pc' := 464) ⟨rfl, rfl⟩ ?_
  refine w_iaddZ (pc' := 465) ⟨rfl, rfl⟩ ?_
  refine w_sald (pc' := 466) ⟨rfl, rfl⟩ hm.2.2.1 (zixA (j := 1) (by decide)) ?_
  refine w_topI (hm.2.2.2 1) ?_
  refine w_aload_n (pc' := 467) ⟨rfl, rfl⟩ rfl ?_
  refine w_iload_n (pc' := 468) ⟨rfl, rfl⟩ rfl ?_
  refine w_ic (pc' := 469) ⟨rfl, rfl⟩ ?_
  refine w_iaddZ (pc' := 470) ⟨rfl, rfl⟩ ?_
  refine w_sald (pc' := 471) ⟨rfl, rfl⟩ hm.2.2.1 (zixA (j := 2) (by decide)) ?_
  refine w_topI (hm.2.2.2 2) ?_
  refine w_cv3 (pc' := 474) ⟨rfl, rfl⟩ (by decide) (zOl hm.1.1 rfl) (Nat.le_of_ble_eq_true rfl) (Nat.le_of_ble_eq_true rfl) (f_X12_crossing hm.1.1 hm.1.2.1 hm.1.2.2.1 (by omega) (by omega) (fun σ2 m2 => ?_))
  refine w_icT_eq (pc' := 477) (pcT := 1539) ⟨rfl, rfl⟩ rfl (by decide) ?_
  refine w_at (ls2 := [(0, .ref zSCR), (3, .int (iZ 0))]) ?_ (law_fin (m2.1.trans hm.2.1) ((m2.2.1 _ _).trans hm.2.2.1))
  exact ⟨rfl, rfl, trivial⟩
set_option maxRecDepth 20000 in
theorem law_rule {x : Nat → Int} {σ : zSt} (h : zLw x σ) (hr : ∀ j, (-2147483648 ≤ x j ∧ x j ≤ 2147483647)) : zP zk_L_law 479 [(0, .ref zSCR), (1, .ref 0), (2, .ref 164), (3, .int (iZ 0))] [] σ zQ1 := by
  have r1 := hr 1
  have r2 := hr 2
  have r3 := hr 3
  have r4 := hr 4
  have r5 := hr 5
  have r6 := hr 6
  refine w_aload_n (pc' := 480) ⟨rfl, rfl⟩ rfl ?_
  refine w_aload_n (pc' := 481) ⟨rfl, rfl⟩ rfl ?_
  refine w_iload_n (pc' := 482) ⟨rfl, rfl⟩ rfl ?_
  refine w_ic (pc' := 483) ⟨rfl, rfl⟩ ?_
  refine w_iaddZ (pc' := 484) ⟨rfl, rfl⟩ ?_
  refine w_sald (pc' := 485) ⟨rfl, rfl⟩ h.2.2.2.1 (zixA (j := 1) (by decide)) ?_
  refine w_topI (h.2.2.2.2 1) ?_
  refine w_aload_n (pc' := 486) ⟨rfl, rfl⟩ rfl ?_
  refine w_iload_n (pc' := 487) ⟨rfl, rfl⟩ rfl ?_
  refine w_ic (pc' := 488) ⟨rfl, rfl⟩ ?_
  refine w_iaddZ (pc' := 489) ⟨rfl, rfl⟩ ?_
  refine w_sald (pc' := 490) ⟨rfl, rfl⟩ h.2.2.2.1 (zixA (j := 2) (by decide)) ?_
  refine w_topI (h.2.2.2.2 2) ?_
  refine w_aload_n (pc' := 491) ⟨rfl, rfl⟩ rfl ?_
  refine w_iload_n (pc' := 492) ⟨rfl, rfl⟩ rfl ?_
  refine w_ic (pc' := 493) ⟨rfl, rfl⟩ ?_
  refine w_iaddZ (pc' := 494) ⟨rfl, rfl⟩ ?_
  refine w_sald (pc' := 495) ⟨rfl, rfl⟩ h.2.2.2.1 (zixA (j := 3) (by decide)) ?_
  refine w_topI (h.2.2.2.2 3) ?_
  refine w_cv4 (pc' := 498) ⟨rfl, rfl⟩ (by decide) (zOl h.1.1 rfl) (Nat.le_of_ble_eq_true rfl) (Nat.le_of_ble_eq_true rfl) (f_X11_rule h.1.1 h.1.2.1 h.1.2.2.1 h.1.2.2.2.1 h.1.2.2.2.2 (by omega) (by omega) (by omega) (fun σ1 m1 => ?_))
  have hm := h.m m1
  refine w_aload_n (pc' := 499) ⟨rfl, rfl⟩ rfl ?_
  refine w_aload_n (pc' := 500) ⟨rfl, rfl⟩ rfl ?_
  refine w_iload_n (pc' := 501) ⟨rfl, rfl⟩ rfl ?_
  refine w_ic (pc' := 502) ⟨rfl, rfl⟩ ?_
  refine w_iaddZ (pc' := 503) ⟨rfl, rfl⟩ ?_
  refine w_sald (pc' := 504) ⟨rfl, rfl⟩ hm.2.2.1 (zixA (j := 1) (by decide)) ?_
  refine w_topI (hm.2.2.2 1) ?_
  refine w_aload_n (pc' := 505) ⟨rfl, rfl⟩ rfl ?_
  refine w_iload_n (pc' := 506) ⟨rfl, rfl⟩ rfl ?_
  refine w_ic (pc' := 507) ⟨rfl, rfl⟩ ?_
  refine w_iaddZ (pc' := 508) ⟨rfl, rfl⟩ ?_
  refine w_sald (pc' := 509) ⟨rfl, rfl⟩ hm.2.2.1 (zixA (j := 2) (by decide)) ?_
  refine w_topI (hm.2.2.2 2) ?_
  refine w_aload_n (pc' := 510) ⟨rfl, rfl⟩ rfl ?_
  refine w_iload_n (pc' := 511) ⟨rfl, rfl⟩ rfl ?_
  refine w_ic (pc' := 512) ⟨rfl, rfl⟩ ?_
  refine w_iaddZ (pc' := 513) ⟨rfl, rfl⟩ ?_
  refine w_sald (pc' := 514) ⟨rfl, rfl⟩ hm.2.2.1 (zixA (j := 3) (by decide)) ?_
  refine w_topI (hm.2.2.2 3) ?_
  refine w_cv4 (pc' := 517) ⟨rfl, rfl⟩ (by decide) (zOl hm.1.1 rfl) (Nat.le_of_ble_eq_true rfl) (Nat.le_of_ble_eq_true rfl) (f_X12_rule_ hm.1.1 hm.1.2.1 hm.1.2.2.1 (by omega) (by omega) (by omega) (fun σ2 m2 => ?_))
  refine w_icT_eq (pc' := 520) (pcT := 1539) ⟨rfl, rfl⟩ rfl (by decide) ?_
  refine w_at (ls2 := [(0, .ref zSCR), (3, .int (iZ 0))]) ?_ (law_fin (m2.1.trans hm.2.1) ((m2.2.1 _ _).trans hm.2.2.1))
  exact ⟨rfl, rfl, trivial⟩
set_option maxRecDepth 20000 in
theorem law_widens {x : Nat → Int} {σ : zSt} (h : zLw x σ) (hr : ∀ j, (-2147483648 ≤ x j ∧ x j ≤ 2147483647)) : zP zk_L_law 522 [(0, .ref zSCR), (1, .ref 0), (2, .ref 164), (3, .int (iZ 0))] [] σ zQ1 := by
  have r1 := hr 1
  have r2 := hr 2
  have r3 := hr 3
  have r4 := hr 4
  have r5 := hr 5
  have r6 := hr 6
  refine w_aload_n (pc' := 523) ⟨rfl, rfl⟩ rfl ?_
  refine w_aload_n (pc' := 524) ⟨rfl, rfl⟩ rfl ?_
  refine w_iload_n (pc' := 525) ⟨rfl, rfl⟩ rfl ?_
  refine w_ic (pc' := 526) ⟨rfl, rfl⟩ ?_
  refine w_iaddZ (pc' := 527) ⟨rfl, rfl⟩ ?_
  refine w_sald (pc' := 528) ⟨rfl, rfl⟩ h.2.2.2.1 (zixA (j := 1) (by decide)) ?_
  refine w_topI (h.2.2.2.2 1) ?_
  refine w_aload_n (pc' := 529) ⟨rfl, rfl⟩ rfl ?_
  refine w_iload_n (pc' := 530) ⟨rfl, rfl⟩ rfl ?_
  refine w_ic (pc' := 531) ⟨rfl, rfl⟩ ?_
  refine w_iaddZ (pc' := 532) ⟨rfl, rfl⟩ ?_
  refine w_sald (pc' := 533) ⟨rfl, rfl⟩ h.2.2.2.1 (zixA (j := 2) (by decide)) ?_
  refine w_topI (h.2.2.2.2 2) ?_
  refine w_cv3 (pc' := 536) ⟨rfl, rfl⟩ (by decide) (zOl h.1.1 rfl) (Nat.le_of_ble_eq_true rfl) (Nat.le_of_ble_eq_true rfl) (c_widens (by omega) (by omega) ?_)
  have m1 : zFm (List.range 164) σ σ := zFm.refl
  have hm := h.m m1
  refine w_aload_n (pc' := 537) ⟨rfl, rfl⟩ rfl ?_
  refine w_aload_n (pc' := 538) ⟨rfl, rfl⟩ rfl ?_
  refine w_iload_n (pc' := 539) ⟨rfl, rfl⟩ rfl ?_
  refine w_ic (pc' := 540) ⟨rfl, rfl⟩ ?_
  refine w_iaddZ (pc' := 541) ⟨rfl, rfl⟩ ?_
  refine w_sald (pc' := 542) ⟨rfl, rfl⟩ hm.2.2.1 (zixA (j := 1) (by decide)) ?_
  refine w_topI (hm.2.2.2 1) ?_
  refine w_aload_n (pc' := 543) ⟨rfl, rfl⟩ rfl ?_
  refine w_iload_n (pc' := 544) ⟨rfl, rfl⟩ rfl ?_
  refine w_ic (pc' := 545) ⟨rfl, rfl⟩ ?_
  refine w_iaddZ (pc' := 546) ⟨rfl, rfl⟩ ?_
  refine w_sald (pc' := 547) ⟨rfl, rfl⟩ hm.2.2.1 (zixA (j := 2) (by decide)) ?_
  refine w_topI (hm.2.2.2 2) ?_
  refine w_cv3 (pc' := 550) ⟨rfl, rfl⟩ (by decide) (zOl hm.1.1 rfl) (Nat.le_of_ble_eq_true rfl) (Nat.le_of_ble_eq_true rfl) (r_widens hm.1.1 hm.1.2.2.2 (by omega) (by omega) ?_)
  have m2 := zFm.refl (w := List.range 181) (σ := σ)
  refine w_icI_eq (pc' := 553) (pcT := 1539) ⟨rfl, rfl⟩ rfl (fun h9 => ?_) (fun h9 => ?_)
  · refine w_at (ls2 := [(0, .ref zSCR), (3, .int (iZ 0))]) ?_ (law_fin (m2.1.trans hm.2.1) ((m2.2.1 _ _).trans hm.2.2.1))
    exact ⟨rfl, rfl, trivial⟩
  · refine w_ic (pc' := 554) ⟨rfl, rfl⟩ ?_
    refine w_ireturn (pc' := 555) ⟨rfl, rfl⟩ (by decide) ?_
    exact absurd rfl h9
set_option maxRecDepth 20000 in
theorem law_length {x : Nat → Int} {σ : zSt} (h : zLw x σ) (hr : ∀ j, (-2147483648 ≤ x j ∧ x j ≤ 2147483647)) : zP zk_L_law 555 [(0, .ref zSCR), (1, .ref 0), (2, .ref 164), (3, .int (iZ 0))] [] σ zQ1 := by
  have r1 := hr 1
  have r2 := hr 2
  have r3 := hr 3
  have r4 := hr 4
  have r5 := hr 5
  have r6 := hr 6
  refine w_aload_n (pc' := 556) ⟨rfl, rfl⟩ rfl ?_
  refine w_aload_n (pc' := 557) ⟨rfl, rfl⟩ rfl ?_
  refine w_iload_n (pc' := 558) ⟨rfl, rfl⟩ rfl ?_
  refine w_ic (pc' := 559) ⟨rfl, rfl⟩ ?_
  refine w_iaddZ (pc' := 560) ⟨rfl, rfl⟩ ?_
  refine w_sald (pc' := 561) ⟨rfl, rfl⟩ h.2.2.2.1 (zixA (j := 1) (by decide)) ?_
  refine w_topI (h.2.2.2.2 1) ?_
  refine w_aload_n (pc' := 562) ⟨rfl, rfl⟩ rfl ?_
  refine w_iload_n (pc' := 563) ⟨rfl, rfl⟩ rfl ?_
  refine w_ic (pc' := 564) ⟨rfl, rfl⟩ ?_
  refine w_iaddZ (pc' := 565) ⟨rfl, rfl⟩ ?_
  refine w_sald (pc' := 566) ⟨rfl, rfl⟩ h.2.2.2.1 (zixA (j := 2) (by decide)) ?_
  refine w_topI (h.2.2.2.2 2) ?_
  refine w_cv3 (pc' := 569) ⟨rfl, rfl⟩ (by decide) (zOl h.1.1 rfl) (Nat.le_of_ble_eq_true rfl) (Nat.le_of_ble_eq_true rfl) (f_X11_length h.1.1 h.1.2.1 h.1.2.2.1 h.1.2.2.2.1 h.1.2.2.2.2 (by omega) (by omega) (fun σ1 m1 => ?_))
  have hm := h.m m1
  refine w_aload_n (pc' := 570) ⟨rfl, rfl⟩ rfl ?_
  refine w_aload_n (pc' := 571) ⟨rfl, rfl⟩ rfl ?_
  refine w_iload_n (pc' := 572) ⟨rfl, rfl⟩ rfl ?_
  refine w_ic (pc' := 573) ⟨rfl, rfl⟩ ?_
  refine w_iaddZ (pc' := 574) ⟨rfl, rfl⟩ ?_
  refine w_sald (pc' := 575) ⟨rfl, rfl⟩ hm.2.2.1 (zixA (j := 1) (by decide)) ?_
  refine w_topI (hm.2.2.2 1) ?_
  refine w_aload_n (pc' := 576) ⟨rfl, rfl⟩ rfl ?_
  refine w_iload_n (pc' := 577) ⟨rfl, rfl⟩ rfl ?_
  refine w_ic (pc' := 578) ⟨rfl, rfl⟩ ?_
  refine w_iaddZ (pc' := 579) ⟨rfl, rfl⟩ ?_
  refine w_sald (pc' := 580) ⟨rfl, rfl⟩ hm.2.2.1 (zixA (j := 2) (by decide)) ?_
  refine w_topI (hm.2.2.2 2) ?_
  refine w_cv3 (pc' := 583) ⟨rfl, rfl⟩ (by decide) (zOl hm.1.1 rfl) (Nat.le_of_ble_eq_true rfl) (Nat.le_of_ble_eq_true rfl) (f_X12_length hm.1.1 hm.1.2.1 hm.1.2.2.1 (by omega) (by omega) (fun σ2 m2 => ?_))
  refine w_icT_eq (pc' := 586) (pcT := 1539) ⟨rfl, rfl⟩ rfl (by decide) ?_
  refine w_at (ls2 := [(0, .ref zSCR), (3, .int (iZ 0))]) ?_ (law_fin (m2.1.trans hm.2.1) ((m2.2.1 _ _).trans hm.2.2.1))
  exact ⟨rfl, rfl, trivial⟩
set_option maxRecDepth 20000 in
theorem law_read {x : Nat → Int} {σ : zSt} (h : zLw x σ) (hr : ∀ j, (-2147483648 ≤ x j ∧ x j ≤ 2147483647)) : zP zk_L_law 588 [(0, .ref zSCR), (1, .ref 0), (2, .ref 164), (3, .int (iZ 0))] [] σ zQ1 := by
  have r1 := hr 1
  have r2 := hr 2
  have r3 := hr 3
  have r4 := hr 4
  have r5 := hr 5
  have r6 := hr 6
  refine w_aload_n (pc' := 589) ⟨rfl, rfl⟩ rfl ?_
  refine w_aload_n (pc' := 590) ⟨rfl, rfl⟩ rfl ?_
  refine w_iload_n (pc' := 591) ⟨rfl, rfl⟩ rfl ?_
  refine w_ic (pc' := 592) ⟨rfl, rfl⟩ ?_
  refine w_iaddZ (pc' := 593) ⟨rfl, rfl⟩ ?_
  refine w_sald (pc' := 594) ⟨rfl, rfl⟩ h.2.2.2.1 (zixA (j := 1) (by decide)) ?_
  refine w_topI (h.2.2.2.2 1) ?_
  refine w_aload_n (pc' := 595) ⟨rfl, rfl⟩ rfl ?_
  refine w_iload_n (pc' := 596) ⟨rfl, rfl⟩ rfl ?_
  refine w_ic (pc' := 597) ⟨rfl, rfl⟩ ?_
  refine w_iaddZ (pc' := 598) ⟨rfl, rfl⟩ ?_
  refine w_sald (pc' := 599) ⟨rfl, rfl⟩ h.2.2.2.1 (zixA (j := 2) (by decide)) ?_
  refine w_topI (h.2.2.2.2 2) ?_
  refine w_aload_n (pc' := 600) ⟨rfl, rfl⟩ rfl ?_
  refine w_iload_n (pc' := 601) ⟨rfl, rfl⟩ rfl ?_
  refine w_ic (pc' := 602) ⟨rfl, rfl⟩ ?_
  refine w_iaddZ (pc' := 603) ⟨rfl, rfl⟩ ?_
  refine w_sald (pc' := 604) ⟨rfl, rfl⟩ h.2.2.2.1 (zixA (j := 3) (by decide)) ?_
  refine w_topI (h.2.2.2.2 3) ?_
  refine w_aload_n (pc' := 605) ⟨rfl, rfl⟩ rfl ?_
  refine w_iload_n (pc' := 606) ⟨rfl, rfl⟩ rfl ?_
  refine w_ic (pc' := 607) ⟨rfl, rfl⟩ ?_
  refine w_iaddZ (pc' := 608) ⟨rfl, rfl⟩ ?_
  refine w_sald (pc' := 609) ⟨rfl, rfl⟩ h.2.2.2.1 (zixA (j := 4) (by decide)) ?_
  refine w_topI (h.2.2.2.2 4) ?_
  refine w_cv5 (pc' := 612) ⟨rfl, rfl⟩ (by decide) (zOl h.1.1 rfl) (Nat.le_of_ble_eq_true rfl) (Nat.le_of_ble_eq_true rfl) (f_X11_read h.1.1 h.1.2.1 h.1.2.2.1 h.1.2.2.2.1 h.1.2.2.2.2 (by omega) (by omega) (by omega) (by omega) (fun σ1 m1 => ?_))
  have hm := h.m m1
  refine w_aload_n (pc' := 613) ⟨rfl, rfl⟩ rfl ?_
  refine w_aload_n (pc' := 614) ⟨rfl, rfl⟩ rfl ?_
  refine w_iload_n (pc' := 615) ⟨rfl, rfl⟩ rfl ?_
  refine w_ic (pc' := 616) ⟨rfl, rfl⟩ ?_
  refine w_iaddZ (pc' := 617) ⟨rfl, rfl⟩ ?_
  refine w_sald (pc' := 618) ⟨rfl, rfl⟩ hm.2.2.1 (zixA (j := 1) (by decide)) ?_
  refine w_topI (hm.2.2.2 1) ?_
  refine w_aload_n (pc' := 619) ⟨rfl, rfl⟩ rfl ?_
  refine w_iload_n (pc' := 620) ⟨rfl, rfl⟩ rfl ?_
  refine w_ic (pc' := 621) ⟨rfl, rfl⟩ ?_
  refine w_iaddZ (pc' := 622) ⟨rfl, rfl⟩ ?_
  refine w_sald (pc' := 623) ⟨rfl, rfl⟩ hm.2.2.1 (zixA (j := 2) (by decide)) ?_
  refine w_topI (hm.2.2.2 2) ?_
  refine w_aload_n (pc' := 624) ⟨rfl, rfl⟩ rfl ?_
  refine w_iload_n (pc' := 625) ⟨rfl, rfl⟩ rfl ?_
  refine w_ic (pc' := 626) ⟨rfl, rfl⟩ ?_
  refine w_iaddZ (pc' := 627) ⟨rfl, rfl⟩ ?_
  refine w_sald (pc' := 628) ⟨rfl, rfl⟩ hm.2.2.1 (zixA (j := 3) (by decide)) ?_
  refine w_topI (hm.2.2.2 3) ?_
  refine w_aload_n (pc' := 629) ⟨rfl, rfl⟩ rfl ?_
  refine w_iload_n (pc' := 630) ⟨rfl, rfl⟩ rfl ?_
  refine w_ic (pc' := 631) ⟨rfl, rfl⟩ ?_
  refine w_iaddZ (pc' := 632) ⟨rfl, rfl⟩ ?_
  refine w_sald (pc' := 633) ⟨rfl, rfl⟩ hm.2.2.1 (zixA (j := 4) (by decide)) ?_
  refine w_topI (hm.2.2.2 4) ?_
  refine w_cv5 (pc' := 636) ⟨rfl, rfl⟩ (by decide) (zOl hm.1.1 rfl) (Nat.le_of_ble_eq_true rfl) (Nat.le_of_ble_eq_true rfl) (f_X12_read_ hm.1.1 hm.1.2.1 hm.1.2.2.1 (by omega) (by omega) (by omega) (by omega) (fun σ2 m2 => ?_))
  refine w_lcmp (pc' := 637) ⟨rfl, rfl⟩ ?_
  refine w_ify_eq (pc' := 640) (pcT := 1539) ⟨rfl, rfl⟩ rfl (by omega) (by omega) (fun h9 => ?_) (fun h9 => ?_)
  · refine w_at (ls2 := [(0, .ref zSCR), (3, .int (iZ 0))]) ?_ (law_fin (m2.1.trans hm.2.1) ((m2.2.1 _ _).trans hm.2.2.1))
    exact ⟨rfl, rfl, trivial⟩
  · refine w_ic (pc' := 641) ⟨rfl, rfl⟩ ?_
    refine w_ireturn (pc' := 642) ⟨rfl, rfl⟩ (by decide) ?_
    exact absurd rfl h9
set_option maxRecDepth 20000 in
theorem law_get {x : Nat → Int} {σ : zSt} (h : zLw x σ) (hr : ∀ j, (-2147483648 ≤ x j ∧ x j ≤ 2147483647)) : zP zk_L_law 642 [(0, .ref zSCR), (1, .ref 0), (2, .ref 164), (3, .int (iZ 0))] [] σ zQ1 := by
  have r1 := hr 1
  have r2 := hr 2
  have r3 := hr 3
  have r4 := hr 4
  have r5 := hr 5
  have r6 := hr 6
  refine w_aload_n (pc' := 643) ⟨rfl, rfl⟩ rfl ?_
  refine w_aload_n (pc' := 644) ⟨rfl, rfl⟩ rfl ?_
  refine w_iload_n (pc' := 645) ⟨rfl, rfl⟩ rfl ?_
  refine w_ic (pc' := 646) ⟨rfl, rfl⟩ ?_
  refine w_iaddZ (pc' := 647) ⟨rfl, rfl⟩ ?_
  refine w_sald (pc' := 648) ⟨rfl, rfl⟩ h.2.2.2.1 (zixA (j := 1) (by decide)) ?_
  refine w_topI (h.2.2.2.2 1) ?_
  refine w_aload_n (pc' := 649) ⟨rfl, rfl⟩ rfl ?_
  refine w_iload_n (pc' := 650) ⟨rfl, rfl⟩ rfl ?_
  refine w_ic (pc' := 651) ⟨rfl, rfl⟩ ?_
  refine w_iaddZ (pc' := 652) ⟨rfl, rfl⟩ ?_
  refine w_sald (pc' := 653) ⟨rfl, rfl⟩ h.2.2.2.1 (zixA (j := 2) (by decide)) ?_
  refine w_topI (h.2.2.2.2 2) ?_
  refine w_aload_n (pc' := 654) ⟨rfl, rfl⟩ rfl ?_
  refine w_iload_n (pc' := 655) ⟨rfl, rfl⟩ rfl ?_
  refine w_ic (pc' := 656) ⟨rfl, rfl⟩ ?_
  refine w_iaddZ (pc' := 657) ⟨rfl, rfl⟩ ?_
  refine w_sald (pc' := 658) ⟨rfl, rfl⟩ h.2.2.2.1 (zixA (j := 3) (by decide)) ?_
  refine w_topI (h.2.2.2.2 3) ?_
  refine w_aload_n (pc' := 659) ⟨rfl, rfl⟩ rfl ?_
  refine w_iload_n (pc' := 660) ⟨rfl, rfl⟩ rfl ?_
  refine w_ic (pc' := 661) ⟨rfl, rfl⟩ ?_
  refine w_iaddZ (pc' := 662) ⟨rfl, rfl⟩ ?_
  refine w_sald (pc' := 663) ⟨rfl, rfl⟩ h.2.2.2.1 (zixA (j := 4) (by decide)) ?_
  refine w_topI (h.2.2.2.2 4) ?_
  refine w_cv5 (pc' := 666) ⟨rfl, rfl⟩ (by decide) (zOl h.1.1 rfl) (Nat.le_of_ble_eq_true rfl) (Nat.le_of_ble_eq_true rfl) (f_X11_get h.1.1 h.1.2.1 h.1.2.2.1 h.1.2.2.2.1 h.1.2.2.2.2 (by omega) (by omega) (by omega) (by omega) (fun σ1 m1 => ?_))
  have hm := h.m m1
  refine w_aload_n (pc' := 667) ⟨rfl, rfl⟩ rfl ?_
  refine w_aload_n (pc' := 668) ⟨rfl, rfl⟩ rfl ?_
  refine w_iload_n (pc' := 669) ⟨rfl, rfl⟩ rfl ?_
  refine w_ic (pc' := 670) ⟨rfl, rfl⟩ ?_
  refine w_iaddZ (pc' := 671) ⟨rfl, rfl⟩ ?_
  refine w_sald (pc' := 672) ⟨rfl, rfl⟩ hm.2.2.1 (zixA (j := 1) (by decide)) ?_
  refine w_topI (hm.2.2.2 1) ?_
  refine w_aload_n (pc' := 673) ⟨rfl, rfl⟩ rfl ?_
  refine w_iload_n (pc' := 674) ⟨rfl, rfl⟩ rfl ?_
  refine w_ic (pc' := 675) ⟨rfl, rfl⟩ ?_
  refine w_iaddZ (pc' := 676) ⟨rfl, rfl⟩ ?_
  refine w_sald (pc' := 677) ⟨rfl, rfl⟩ hm.2.2.1 (zixA (j := 2) (by decide)) ?_
  refine w_topI (hm.2.2.2 2) ?_
  refine w_aload_n (pc' := 678) ⟨rfl, rfl⟩ rfl ?_
  refine w_iload_n (pc' := 679) ⟨rfl, rfl⟩ rfl ?_
  refine w_ic (pc' := 680) ⟨rfl, rfl⟩ ?_
  refine w_iaddZ (pc' := 681) ⟨rfl, rfl⟩ ?_
  refine w_sald (pc' := 682) ⟨rfl, rfl⟩ hm.2.2.1 (zixA (j := 3) (by decide)) ?_
  refine w_topI (hm.2.2.2 3) ?_
  refine w_aload_n (pc' := 683) ⟨rfl, rfl⟩ rfl ?_
  refine w_iload_n (pc' := 684) ⟨rfl, rfl⟩ rfl ?_
  refine w_ic (pc' := 685) ⟨rfl, rfl⟩ ?_
  refine w_iaddZ (pc' := 686) ⟨rfl, rfl⟩ ?_
  refine w_sald (pc' := 687) ⟨rfl, rfl⟩ hm.2.2.1 (zixA (j := 4) (by decide)) ?_
  refine w_topI (hm.2.2.2 4) ?_
  refine w_cv5 (pc' := 690) ⟨rfl, rfl⟩ (by decide) (zOl hm.1.1 rfl) (Nat.le_of_ble_eq_true rfl) (Nat.le_of_ble_eq_true rfl) (f_X12_get hm.1.1 hm.1.2.1 hm.1.2.2.1 (by omega) (by omega) (by omega) (by omega) (fun σ2 m2 => ?_))
  refine w_lcmp (pc' := 691) ⟨rfl, rfl⟩ ?_
  refine w_ify_eq (pc' := 694) (pcT := 1539) ⟨rfl, rfl⟩ rfl (by omega) (by omega) (fun h9 => ?_) (fun h9 => ?_)
  · refine w_at (ls2 := [(0, .ref zSCR), (3, .int (iZ 0))]) ?_ (law_fin (m2.1.trans hm.2.1) ((m2.2.1 _ _).trans hm.2.2.1))
    exact ⟨rfl, rfl, trivial⟩
  · refine w_ic (pc' := 695) ⟨rfl, rfl⟩ ?_
    refine w_ireturn (pc' := 696) ⟨rfl, rfl⟩ (by decide) ?_
    exact absurd rfl h9
set_option maxRecDepth 20000 in
theorem law_write {x : Nat → Int} {σ : zSt} (h : zLw x σ) (hr : ∀ j, (-2147483648 ≤ x j ∧ x j ≤ 2147483647)) : zP zk_L_law 696 [(0, .ref zSCR), (1, .ref 0), (2, .ref 164), (3, .int (iZ 0))] [] σ zQ1 := by
  have r1 := hr 1
  have r2 := hr 2
  have r3 := hr 3
  have r4 := hr 4
  have r5 := hr 5
  have r6 := hr 6
  refine w_aload_n (pc' := 697) ⟨rfl, rfl⟩ rfl ?_
  refine w_aload_n (pc' := 698) ⟨rfl, rfl⟩ rfl ?_
  refine w_iload_n (pc' := 699) ⟨rfl, rfl⟩ rfl ?_
  refine w_ic (pc' := 700) ⟨rfl, rfl⟩ ?_
  refine w_iaddZ (pc' := 701) ⟨rfl, rfl⟩ ?_
  refine w_sald (pc' := 702) ⟨rfl, rfl⟩ h.2.2.2.1 (zixA (j := 1) (by decide)) ?_
  refine w_topI (h.2.2.2.2 1) ?_
  refine w_aload_n (pc' := 703) ⟨rfl, rfl⟩ rfl ?_
  refine w_iload_n (pc' := 704) ⟨rfl, rfl⟩ rfl ?_
  refine w_ic (pc' := 705) ⟨rfl, rfl⟩ ?_
  refine w_iaddZ (pc' := 706) ⟨rfl, rfl⟩ ?_
  refine w_sald (pc' := 707) ⟨rfl, rfl⟩ h.2.2.2.1 (zixA (j := 2) (by decide)) ?_
  refine w_topI (h.2.2.2.2 2) ?_
  refine w_aload_n (pc' := 708) ⟨rfl, rfl⟩ rfl ?_
  refine w_iload_n (pc' := 709) ⟨rfl, rfl⟩ rfl ?_
  refine w_ic (pc' := 710) ⟨rfl, rfl⟩ ?_
  refine w_iaddZ (pc' := 711) ⟨rfl, rfl⟩ ?_
  refine w_sald (pc' := 712) ⟨rfl, rfl⟩ h.2.2.2.1 (zixA (j := 3) (by decide)) ?_
  refine w_topI (h.2.2.2.2 3) ?_
  refine w_aload_n (pc' := 713) ⟨rfl, rfl⟩ rfl ?_
  refine w_iload_n (pc' := 714) ⟨rfl, rfl⟩ rfl ?_
  refine w_ic (pc' := 715) ⟨rfl, rfl⟩ ?_
  refine w_iaddZ (pc' := 716) ⟨rfl, rfl⟩ ?_
  refine w_sald (pc' := 717) ⟨rfl, rfl⟩ h.2.2.2.1 (zixA (j := 4) (by decide)) ?_
  refine w_topI (h.2.2.2.2 4) ?_
  refine w_aload_n (pc' := 718) ⟨rfl, rfl⟩ rfl ?_
  refine w_iload_n (pc' := 719) ⟨rfl, rfl⟩ rfl ?_
  refine w_ic (pc' := 720) ⟨rfl, rfl⟩ ?_
  refine w_iaddZ (pc' := 721) ⟨rfl, rfl⟩ ?_
  refine w_sald (pc' := 722) ⟨rfl, rfl⟩ h.2.2.2.1 (zixA (j := 5) (by decide)) ?_
  refine w_topI (h.2.2.2.2 5) ?_
  refine w_i2lZ (pc' := 723) ⟨rfl, rfl⟩ (by omega) ?_
  refine w_bi (pc' := 725) ⟨rfl, rfl⟩ (by decide) ?_
  refine w_lshl (pc' := 726) ⟨rfl, rfl⟩ ?_
  refine w_aload_n (pc' := 727) ⟨rfl, rfl⟩ rfl ?_
  refine w_iload_n (pc' := 728) ⟨rfl, rfl⟩ rfl ?_
  refine w_bi (pc' := 730) ⟨rfl, rfl⟩ (by decide) ?_
  refine w_iaddZ (pc' := 731) ⟨rfl, rfl⟩ ?_
  refine w_sald (pc' := 732) ⟨rfl, rfl⟩ h.2.2.2.1 (zixA (j := 6) (by decide)) ?_
  refine w_topI (h.2.2.2.2 6) ?_
  refine w_i2lZ (pc' := 733) ⟨rfl, rfl⟩ (by omega) ?_
  refine w_ldc2Y (pc' := 736) (z := 4294967295) ⟨rfl, rfl⟩ rfl ?_
  refine w_land (pc' := 737) ⟨rfl, rfl⟩ ?_
  refine w_lor (pc' := 738) ⟨rfl, rfl⟩ ?_
  refine w_cv6 (pc' := 741) ⟨rfl, rfl⟩ (by decide) (zOl h.1.1 rfl) (Nat.le_of_ble_eq_true rfl) (Nat.le_of_ble_eq_true rfl) (f_X11_write h.1.1 h.1.2.1 h.1.2.2.1 h.1.2.2.2.1 h.1.2.2.2.2 (by omega) (by omega) (by omega) (by omega) (fun σ1 m1 => ?_))
  have hm := h.m m1
  refine w_aload_n (pc' := 742) ⟨rfl, rfl⟩ rfl ?_
  refine w_aload_n (pc' := 743) ⟨rfl, rfl⟩ rfl ?_
  refine w_iload_n (pc' := 744) ⟨rfl, rfl⟩ rfl ?_
  refine w_ic (pc' := 745) ⟨rfl, rfl⟩ ?_
  refine w_iaddZ (pc' := 746) ⟨rfl, rfl⟩ ?_
  refine w_sald (pc' := 747) ⟨rfl, rfl⟩ hm.2.2.1 (zixA (j := 1) (by decide)) ?_
  refine w_topI (hm.2.2.2 1) ?_
  refine w_aload_n (pc' := 748) ⟨rfl, rfl⟩ rfl ?_
  refine w_iload_n (pc' := 749) ⟨rfl, rfl⟩ rfl ?_
  refine w_ic (pc' := 750) ⟨rfl, rfl⟩ ?_
  refine w_iaddZ (pc' := 751) ⟨rfl, rfl⟩ ?_
  refine w_sald (pc' := 752) ⟨rfl, rfl⟩ hm.2.2.1 (zixA (j := 2) (by decide)) ?_
  refine w_topI (hm.2.2.2 2) ?_
  refine w_aload_n (pc' := 753) ⟨rfl, rfl⟩ rfl ?_
  refine w_iload_n (pc' := 754) ⟨rfl, rfl⟩ rfl ?_
  refine w_ic (pc' := 755) ⟨rfl, rfl⟩ ?_
  refine w_iaddZ (pc' := 756) ⟨rfl, rfl⟩ ?_
  refine w_sald (pc' := 757) ⟨rfl, rfl⟩ hm.2.2.1 (zixA (j := 3) (by decide)) ?_
  refine w_topI (hm.2.2.2 3) ?_
  refine w_aload_n (pc' := 758) ⟨rfl, rfl⟩ rfl ?_
  refine w_iload_n (pc' := 759) ⟨rfl, rfl⟩ rfl ?_
  refine w_ic (pc' := 760) ⟨rfl, rfl⟩ ?_
  refine w_iaddZ (pc' := 761) ⟨rfl, rfl⟩ ?_
  refine w_sald (pc' := 762) ⟨rfl, rfl⟩ hm.2.2.1 (zixA (j := 4) (by decide)) ?_
  refine w_topI (hm.2.2.2 4) ?_
  refine w_aload_n (pc' := 763) ⟨rfl, rfl⟩ rfl ?_
  refine w_iload_n (pc' := 764) ⟨rfl, rfl⟩ rfl ?_
  refine w_ic (pc' := 765) ⟨rfl, rfl⟩ ?_
  refine w_iaddZ (pc' := 766) ⟨rfl, rfl⟩ ?_
  refine w_sald (pc' := 767) ⟨rfl, rfl⟩ hm.2.2.1 (zixA (j := 5) (by decide)) ?_
  refine w_topI (hm.2.2.2 5) ?_
  refine w_i2lZ (pc' := 768) ⟨rfl, rfl⟩ (by omega) ?_
  refine w_bi (pc' := 770) ⟨rfl, rfl⟩ (by decide) ?_
  refine w_lshl (pc' := 771) ⟨rfl, rfl⟩ ?_
  refine w_aload_n (pc' := 772) ⟨rfl, rfl⟩ rfl ?_
  refine w_iload_n (pc' := 773) ⟨rfl, rfl⟩ rfl ?_
  refine w_bi (pc' := 775) ⟨rfl, rfl⟩ (by decide) ?_
  refine w_iaddZ (pc' := 776) ⟨rfl, rfl⟩ ?_
  refine w_sald (pc' := 777) ⟨rfl, rfl⟩ hm.2.2.1 (zixA (j := 6) (by decide)) ?_
  refine w_topI (hm.2.2.2 6) ?_
  refine w_i2lZ (pc' := 778) ⟨rfl, rfl⟩ (by omega) ?_
  refine w_ldc2Y (pc' := 781) (z := 4294967295) ⟨rfl, rfl⟩ rfl ?_
  refine w_land (pc' := 782) ⟨rfl, rfl⟩ ?_
  refine w_lor (pc' := 783) ⟨rfl, rfl⟩ ?_
  refine w_cv6 (pc' := 786) ⟨rfl, rfl⟩ (by decide) (zOl hm.1.1 rfl) (Nat.le_of_ble_eq_true rfl) (Nat.le_of_ble_eq_true rfl) (f_X12_write hm.1.1 hm.1.2.1 hm.1.2.2.1 (by omega) (by omega) (by omega) (by omega) (fun σ2 m2 => ?_))
  refine w_icT_eq (pc' := 789) (pcT := 1539) ⟨rfl, rfl⟩ rfl (by decide) ?_
  refine w_at (ls2 := [(0, .ref zSCR), (3, .int (iZ 0))]) ?_ (law_fin (m2.1.trans hm.2.1) ((m2.2.1 _ _).trans hm.2.2.1))
  exact ⟨rfl, rfl, trivial⟩
set_option maxRecDepth 20000 in
theorem law_put {x : Nat → Int} {σ : zSt} (h : zLw x σ) (hr : ∀ j, (-2147483648 ≤ x j ∧ x j ≤ 2147483647)) : zP zk_L_law 791 [(0, .ref zSCR), (1, .ref 0), (2, .ref 164), (3, .int (iZ 0))] [] σ zQ1 := by
  have r1 := hr 1
  have r2 := hr 2
  have r3 := hr 3
  have r4 := hr 4
  have r5 := hr 5
  have r6 := hr 6
  refine w_aload_n (pc' := 792) ⟨rfl, rfl⟩ rfl ?_
  refine w_aload_n (pc' := 793) ⟨rfl, rfl⟩ rfl ?_
  refine w_iload_n (pc' := 794) ⟨rfl, rfl⟩ rfl ?_
  refine w_ic (pc' := 795) ⟨rfl, rfl⟩ ?_
  refine w_iaddZ (pc' := 796) ⟨rfl, rfl⟩ ?_
  refine w_sald (pc' := 797) ⟨rfl, rfl⟩ h.2.2.2.1 (zixA (j := 1) (by decide)) ?_
  refine w_topI (h.2.2.2.2 1) ?_
  refine w_aload_n (pc' := 798) ⟨rfl, rfl⟩ rfl ?_
  refine w_iload_n (pc' := 799) ⟨rfl, rfl⟩ rfl ?_
  refine w_ic (pc' := 800) ⟨rfl, rfl⟩ ?_
  refine w_iaddZ (pc' := 801) ⟨rfl, rfl⟩ ?_
  refine w_sald (pc' := 802) ⟨rfl, rfl⟩ h.2.2.2.1 (zixA (j := 2) (by decide)) ?_
  refine w_topI (h.2.2.2.2 2) ?_
  refine w_aload_n (pc' := 803) ⟨rfl, rfl⟩ rfl ?_
  refine w_iload_n (pc' := 804) ⟨rfl, rfl⟩ rfl ?_
  refine w_ic (pc' := 805) ⟨rfl, rfl⟩ ?_
  refine w_iaddZ (pc' := 806) ⟨rfl, rfl⟩ ?_
  refine w_sald (pc' := 807) ⟨rfl, rfl⟩ h.2.2.2.1 (zixA (j := 3) (by decide)) ?_
  refine w_topI (h.2.2.2.2 3) ?_
  refine w_aload_n (pc' := 808) ⟨rfl, rfl⟩ rfl ?_
  refine w_iload_n (pc' := 809) ⟨rfl, rfl⟩ rfl ?_
  refine w_ic (pc' := 810) ⟨rfl, rfl⟩ ?_
  refine w_iaddZ (pc' := 811) ⟨rfl, rfl⟩ ?_
  refine w_sald (pc' := 812) ⟨rfl, rfl⟩ h.2.2.2.1 (zixA (j := 4) (by decide)) ?_
  refine w_topI (h.2.2.2.2 4) ?_
  refine w_aload_n (pc' := 813) ⟨rfl, rfl⟩ rfl ?_
  refine w_iload_n (pc' := 814) ⟨rfl, rfl⟩ rfl ?_
  refine w_ic (pc' := 815) ⟨rfl, rfl⟩ ?_
  refine w_iaddZ (pc' := 816) ⟨rfl, rfl⟩ ?_
  refine w_sald (pc' := 817) ⟨rfl, rfl⟩ h.2.2.2.1 (zixA (j := 5) (by decide)) ?_
  refine w_topI (h.2.2.2.2 5) ?_
  refine w_i2lZ (pc' := 818) ⟨rfl, rfl⟩ (by omega) ?_
  refine w_bi (pc' := 820) ⟨rfl, rfl⟩ (by decide) ?_
  refine w_lshl (pc' := 821) ⟨rfl, rfl⟩ ?_
  refine w_aload_n (pc' := 822) ⟨rfl, rfl⟩ rfl ?_
  refine w_iload_n (pc' := 823) ⟨rfl, rfl⟩ rfl ?_
  refine w_bi (pc' := 825) ⟨rfl, rfl⟩ (by decide) ?_
  refine w_iaddZ (pc' := 826) ⟨rfl, rfl⟩ ?_
  refine w_sald (pc' := 827) ⟨rfl, rfl⟩ h.2.2.2.1 (zixA (j := 6) (by decide)) ?_
  refine w_topI (h.2.2.2.2 6) ?_
  refine w_i2lZ (pc' := 828) ⟨rfl, rfl⟩ (by omega) ?_
  refine w_ldc2Y (pc' := 831) (z := 4294967295) ⟨rfl, rfl⟩ rfl ?_
  refine w_land (pc' := 832) ⟨rfl, rfl⟩ ?_
  refine w_lor (pc' := 833) ⟨rfl, rfl⟩ ?_
  refine w_cv6 (pc' := 836) ⟨rfl, rfl⟩ (by decide) (zOl h.1.1 rfl) (Nat.le_of_ble_eq_true rfl) (Nat.le_of_ble_eq_true rfl) (f_X11_put h.1.1 h.1.2.1 h.1.2.2.1 h.1.2.2.2.1 h.1.2.2.2.2 (by omega) (by omega) (by omega) (by omega) (fun σ1 m1 => ?_))
  have hm := h.m m1
  refine w_aload_n (pc' := 837) ⟨rfl, rfl⟩ rfl ?_
  refine w_aload_n (pc' := 838) ⟨rfl, rfl⟩ rfl ?_
  refine w_iload_n (pc' := 839) ⟨rfl, rfl⟩ rfl ?_
  refine w_ic (pc' := 840) ⟨rfl, rfl⟩ ?_
  refine w_iaddZ (pc' := 841) ⟨rfl, rfl⟩ ?_
  refine w_sald (pc' := 842) ⟨rfl, rfl⟩ hm.2.2.1 (zixA (j := 1) (by decide)) ?_
  refine w_topI (hm.2.2.2 1) ?_
  refine w_aload_n (pc' := 843) ⟨rfl, rfl⟩ rfl ?_
  refine w_iload_n (pc' := 844) ⟨rfl, rfl⟩ rfl ?_
  refine w_ic (pc' := 845) ⟨rfl, rfl⟩ ?_
  refine w_iaddZ (pc' := 846) ⟨rfl, rfl⟩ ?_
  refine w_sald (pc' := 847) ⟨rfl, rfl⟩ hm.2.2.1 (zixA (j := 2) (by decide)) ?_
  refine w_topI (hm.2.2.2 2) ?_
  refine w_aload_n (pc' := 848) ⟨rfl, rfl⟩ rfl ?_
  refine w_iload_n (pc' := 849) ⟨rfl, rfl⟩ rfl ?_
  refine w_ic (pc' := 850) ⟨rfl, rfl⟩ ?_
  refine w_iaddZ (pc' := 851) ⟨rfl, rfl⟩ ?_
  refine w_sald (pc' := 852) ⟨rfl, rfl⟩ hm.2.2.1 (zixA (j := 3) (by decide)) ?_
  refine w_topI (hm.2.2.2 3) ?_
  refine w_aload_n (pc' := 853) ⟨rfl, rfl⟩ rfl ?_
  refine w_iload_n (pc' := 854) ⟨rfl, rfl⟩ rfl ?_
  refine w_ic (pc' := 855) ⟨rfl, rfl⟩ ?_
  refine w_iaddZ (pc' := 856) ⟨rfl, rfl⟩ ?_
  refine w_sald (pc' := 857) ⟨rfl, rfl⟩ hm.2.2.1 (zixA (j := 4) (by decide)) ?_
  refine w_topI (hm.2.2.2 4) ?_
  refine w_aload_n (pc' := 858) ⟨rfl, rfl⟩ rfl ?_
  refine w_iload_n (pc' := 859) ⟨rfl, rfl⟩ rfl ?_
  refine w_ic (pc' := 860) ⟨rfl, rfl⟩ ?_
  refine w_iaddZ (pc' := 861) ⟨rfl, rfl⟩ ?_
  refine w_sald (pc' := 862) ⟨rfl, rfl⟩ hm.2.2.1 (zixA (j := 5) (by decide)) ?_
  refine w_topI (hm.2.2.2 5) ?_
  refine w_i2lZ (pc' := 863) ⟨rfl, rfl⟩ (by omega) ?_
  refine w_bi (pc' := 865) ⟨rfl, rfl⟩ (by decide) ?_
  refine w_lshl (pc' := 866) ⟨rfl, rfl⟩ ?_
  refine w_aload_n (pc' := 867) ⟨rfl, rfl⟩ rfl ?_
  refine w_iload_n (pc' := 868) ⟨rfl, rfl⟩ rfl ?_
  refine w_bi (pc' := 870) ⟨rfl, rfl⟩ (by decide) ?_
  refine w_iaddZ (pc' := 871) ⟨rfl, rfl⟩ ?_
  refine w_sald (pc' := 872) ⟨rfl, rfl⟩ hm.2.2.1 (zixA (j := 6) (by decide)) ?_
  refine w_topI (hm.2.2.2 6) ?_
  refine w_i2lZ (pc' := 873) ⟨rfl, rfl⟩ (by omega) ?_
  refine w_ldc2Y (pc' := 876) (z := 4294967295) ⟨rfl, rfl⟩ rfl ?_
  refine w_land (pc' := 877) ⟨rfl, rfl⟩ ?_
  refine w_lor (pc' := 878) ⟨rfl, rfl⟩ ?_
  refine w_cv6 (pc' := 881) ⟨rfl, rfl⟩ (by decide) (zOl hm.1.1 rfl) (Nat.le_of_ble_eq_true rfl) (Nat.le_of_ble_eq_true rfl) (f_X12_put hm.1.1 hm.1.2.1 hm.1.2.2.1 (by omega) (by omega) (by omega) (by omega) (fun σ2 m2 => ?_))
  refine w_icT_eq (pc' := 884) (pcT := 1539) ⟨rfl, rfl⟩ rfl (by decide) ?_
  refine w_at (ls2 := [(0, .ref zSCR), (3, .int (iZ 0))]) ?_ (law_fin (m2.1.trans hm.2.1) ((m2.2.1 _ _).trans hm.2.2.1))
  exact ⟨rfl, rfl, trivial⟩
set_option maxRecDepth 20000 in
theorem law_why {x : Nat → Int} {σ : zSt} (h : zLw x σ) (hr : ∀ j, (-2147483648 ≤ x j ∧ x j ≤ 2147483647)) : zP zk_L_law 886 [(0, .ref zSCR), (1, .ref 0), (2, .ref 164), (3, .int (iZ 0))] [] σ zQ1 := by
  have r1 := hr 1
  have r2 := hr 2
  have r3 := hr 3
  have r4 := hr 4
  have r5 := hr 5
  have r6 := hr 6
  refine w_aload_n (pc' := 887) ⟨rfl, rfl⟩ rfl ?_
  refine w_cv1 (pc' := 890) ⟨rfl, rfl⟩ (by decide) (zOl h.1.1 rfl) (Nat.le_of_ble_eq_true rfl) (Nat.le_of_ble_eq_true rfl) (f_X11_why h.1.1 h.1.2.1 h.1.2.2.1 h.1.2.2.2.1 h.1.2.2.2.2 (fun σ1 m1 => ?_))
  have hm := h.m m1
  refine w_aload_n (pc' := 891) ⟨rfl, rfl⟩ rfl ?_
  refine w_cv1 (pc' := 894) ⟨rfl, rfl⟩ (by decide) (zOl hm.1.1 rfl) (Nat.le_of_ble_eq_true rfl) (Nat.le_of_ble_eq_true rfl) (f_X12_why hm.1.1 hm.1.2.1 hm.1.2.2.1 (fun σ2 m2 => ?_))
  refine w_icT_eq (pc' := 897) (pcT := 1539) ⟨rfl, rfl⟩ rfl (by decide) ?_
  refine w_at (ls2 := [(0, .ref zSCR), (3, .int (iZ 0))]) ?_ (law_fin (m2.1.trans hm.2.1) ((m2.2.1 _ _).trans hm.2.2.1))
  exact ⟨rfl, rfl, trivial⟩
set_option maxRecDepth 20000 in
theorem law_cell {x : Nat → Int} {σ : zSt} (h : zLw x σ) (hr : ∀ j, (-2147483648 ≤ x j ∧ x j ≤ 2147483647)) : zP zk_L_law 899 [(0, .ref zSCR), (1, .ref 0), (2, .ref 164), (3, .int (iZ 0))] [] σ zQ1 := by
  have r1 := hr 1
  have r2 := hr 2
  have r3 := hr 3
  have r4 := hr 4
  have r5 := hr 5
  have r6 := hr 6
  refine w_aload_n (pc' := 900) ⟨rfl, rfl⟩ rfl ?_
  refine w_aload_n (pc' := 901) ⟨rfl, rfl⟩ rfl ?_
  refine w_iload_n (pc' := 902) ⟨rfl, rfl⟩ rfl ?_
  refine w_ic (pc' := 903) ⟨rfl, rfl⟩ ?_
  refine w_iaddZ (pc' := 904) ⟨rfl, rfl⟩ ?_
  refine w_sald (pc' := 905) ⟨rfl, rfl⟩ h.2.2.2.1 (zixA (j := 1) (by decide)) ?_
  refine w_topI (h.2.2.2.2 1) ?_
  refine w_aload_n (pc' := 906) ⟨rfl, rfl⟩ rfl ?_
  refine w_iload_n (pc' := 907) ⟨rfl, rfl⟩ rfl ?_
  refine w_ic (pc' := 908) ⟨rfl, rfl⟩ ?_
  refine w_iaddZ (pc' := 909) ⟨rfl, rfl⟩ ?_
  refine w_sald (pc' := 910) ⟨rfl, rfl⟩ h.2.2.2.1 (zixA (j := 2) (by decide)) ?_
  refine w_topI (h.2.2.2.2 2) ?_
  refine w_aload_n (pc' := 911) ⟨rfl, rfl⟩ rfl ?_
  refine w_iload_n (pc' := 912) ⟨rfl, rfl⟩ rfl ?_
  refine w_ic (pc' := 913) ⟨rfl, rfl⟩ ?_
  refine w_iaddZ (pc' := 914) ⟨rfl, rfl⟩ ?_
  refine w_sald (pc' := 915) ⟨rfl, rfl⟩ h.2.2.2.1 (zixA (j := 3) (by decide)) ?_
  refine w_topI (h.2.2.2.2 3) ?_
  refine w_aload_n (pc' := 916) ⟨rfl, rfl⟩ rfl ?_
  refine w_iload_n (pc' := 917) ⟨rfl, rfl⟩ rfl ?_
  refine w_ic (pc' := 918) ⟨rfl, rfl⟩ ?_
  refine w_iaddZ (pc' := 919) ⟨rfl, rfl⟩ ?_
  refine w_sald (pc' := 920) ⟨rfl, rfl⟩ h.2.2.2.1 (zixA (j := 4) (by decide)) ?_
  refine w_topI (h.2.2.2.2 4) ?_
  refine w_cv5 (pc' := 923) ⟨rfl, rfl⟩ (by decide) (zOl h.1.1 rfl) (Nat.le_of_ble_eq_true rfl) (Nat.le_of_ble_eq_true rfl) (f_X11_cell h.1.1 h.1.2.1 h.1.2.2.1 h.1.2.2.2.1 h.1.2.2.2.2 (by omega) (by omega) (by omega) (by omega) (fun σ1 m1 => ?_))
  have hm := h.m m1
  refine w_aload_n (pc' := 924) ⟨rfl, rfl⟩ rfl ?_
  refine w_aload_n (pc' := 925) ⟨rfl, rfl⟩ rfl ?_
  refine w_iload_n (pc' := 926) ⟨rfl, rfl⟩ rfl ?_
  refine w_ic (pc' := 927) ⟨rfl, rfl⟩ ?_
  refine w_iaddZ (pc' := 928) ⟨rfl, rfl⟩ ?_
  refine w_sald (pc' := 929) ⟨rfl, rfl⟩ hm.2.2.1 (zixA (j := 1) (by decide)) ?_
  refine w_topI (hm.2.2.2 1) ?_
  refine w_aload_n (pc' := 930) ⟨rfl, rfl⟩ rfl ?_
  refine w_iload_n (pc' := 931) ⟨rfl, rfl⟩ rfl ?_
  refine w_ic (pc' := 932) ⟨rfl, rfl⟩ ?_
  refine w_iaddZ (pc' := 933) ⟨rfl, rfl⟩ ?_
  refine w_sald (pc' := 934) ⟨rfl, rfl⟩ hm.2.2.1 (zixA (j := 2) (by decide)) ?_
  refine w_topI (hm.2.2.2 2) ?_
  refine w_aload_n (pc' := 935) ⟨rfl, rfl⟩ rfl ?_
  refine w_iload_n (pc' := 936) ⟨rfl, rfl⟩ rfl ?_
  refine w_ic (pc' := 937) ⟨rfl, rfl⟩ ?_
  refine w_iaddZ (pc' := 938) ⟨rfl, rfl⟩ ?_
  refine w_sald (pc' := 939) ⟨rfl, rfl⟩ hm.2.2.1 (zixA (j := 3) (by decide)) ?_
  refine w_topI (hm.2.2.2 3) ?_
  refine w_aload_n (pc' := 940) ⟨rfl, rfl⟩ rfl ?_
  refine w_iload_n (pc' := 941) ⟨rfl, rfl⟩ rfl ?_
  refine w_ic (pc' := 942) ⟨rfl, rfl⟩ ?_
  refine w_iaddZ (pc' := 943) ⟨rfl, rfl⟩ ?_
  refine w_sald (pc' := 944) ⟨rfl, rfl⟩ hm.2.2.1 (zixA (j := 4) (by decide)) ?_
  refine w_topI (hm.2.2.2 4) ?_
  refine w_cv5 (pc' := 947) ⟨rfl, rfl⟩ (by decide) (zOl hm.1.1 rfl) (Nat.le_of_ble_eq_true rfl) (Nat.le_of_ble_eq_true rfl) (f_X12_cell hm.1.1 hm.1.2.1 hm.1.2.2.1 (by omega) (by omega) (by omega) (by omega) (fun σ2 m2 => ?_))
  refine w_lcmp (pc' := 948) ⟨rfl, rfl⟩ ?_
  refine w_ify_eq (pc' := 951) (pcT := 1539) ⟨rfl, rfl⟩ rfl (by omega) (by omega) (fun h9 => ?_) (fun h9 => ?_)
  · refine w_at (ls2 := [(0, .ref zSCR), (3, .int (iZ 0))]) ?_ (law_fin (m2.1.trans hm.2.1) ((m2.2.1 _ _).trans hm.2.2.1))
    exact ⟨rfl, rfl, trivial⟩
  · refine w_ic (pc' := 952) ⟨rfl, rfl⟩ ?_
    refine w_ireturn (pc' := 953) ⟨rfl, rfl⟩ (by decide) ?_
    exact absurd rfl h9
set_option maxRecDepth 20000 in
theorem law_unlike {x : Nat → Int} {σ : zSt} (h : zLw x σ) (hr : ∀ j, (-2147483648 ≤ x j ∧ x j ≤ 2147483647)) : zP zk_L_law 953 [(0, .ref zSCR), (1, .ref 0), (2, .ref 164), (3, .int (iZ 0))] [] σ zQ1 := by
  have r1 := hr 1
  have r2 := hr 2
  have r3 := hr 3
  have r4 := hr 4
  have r5 := hr 5
  have r6 := hr 6
  refine w_aload_n (pc' := 954) ⟨rfl, rfl⟩ rfl ?_
  refine w_aload_n (pc' := 955) ⟨rfl, rfl⟩ rfl ?_
  refine w_iload_n (pc' := 956) ⟨rfl, rfl⟩ rfl ?_
  refine w_ic (pc' := 957) ⟨rfl, rfl⟩ ?_
  refine w_iaddZ (pc' := 958) ⟨rfl, rfl⟩ ?_
  refine w_sald (pc' := 959) ⟨rfl, rfl⟩ h.2.2.2.1 (zixA (j := 1) (by decide)) ?_
  refine w_topI (h.2.2.2.2 1) ?_
  refine w_aload_n (pc' := 960) ⟨rfl, rfl⟩ rfl ?_
  refine w_iload_n (pc' := 961) ⟨rfl, rfl⟩ rfl ?_
  refine w_ic (pc' := 962) ⟨rfl, rfl⟩ ?_
  refine w_iaddZ (pc' := 963) ⟨rfl, rfl⟩ ?_
  refine w_sald (pc' := 964) ⟨rfl, rfl⟩ h.2.2.2.1 (zixA (j := 2) (by decide)) ?_
  refine w_topI (h.2.2.2.2 2) ?_
  refine w_aload_n (pc' := 965) ⟨rfl, rfl⟩ rfl ?_
  refine w_iload_n (pc' := 966) ⟨rfl, rfl⟩ rfl ?_
  refine w_ic (pc' := 967) ⟨rfl, rfl⟩ ?_
  refine w_iaddZ (pc' := 968) ⟨rfl, rfl⟩ ?_
  refine w_sald (pc' := 969) ⟨rfl, rfl⟩ h.2.2.2.1 (zixA (j := 3) (by decide)) ?_
  refine w_topI (h.2.2.2.2 3) ?_
  refine w_cv4 (pc' := 972) ⟨rfl, rfl⟩ (by decide) (zOl h.1.1 rfl) (Nat.le_of_ble_eq_true rfl) (Nat.le_of_ble_eq_true rfl) (f_X11_unlike h.1.1 h.1.2.1 h.1.2.2.1 h.1.2.2.2.1 h.1.2.2.2.2 (by omega) (by omega) (by omega) (fun σ1 m1 => ?_))
  have hm := h.m m1
  refine w_aload_n (pc' := 973) ⟨rfl, rfl⟩ rfl ?_
  refine w_aload_n (pc' := 974) ⟨rfl, rfl⟩ rfl ?_
  refine w_iload_n (pc' := 975) ⟨rfl, rfl⟩ rfl ?_
  refine w_ic (pc' := 976) ⟨rfl, rfl⟩ ?_
  refine w_iaddZ (pc' := 977) ⟨rfl, rfl⟩ ?_
  refine w_sald (pc' := 978) ⟨rfl, rfl⟩ hm.2.2.1 (zixA (j := 1) (by decide)) ?_
  refine w_topI (hm.2.2.2 1) ?_
  refine w_aload_n (pc' := 979) ⟨rfl, rfl⟩ rfl ?_
  refine w_iload_n (pc' := 980) ⟨rfl, rfl⟩ rfl ?_
  refine w_ic (pc' := 981) ⟨rfl, rfl⟩ ?_
  refine w_iaddZ (pc' := 982) ⟨rfl, rfl⟩ ?_
  refine w_sald (pc' := 983) ⟨rfl, rfl⟩ hm.2.2.1 (zixA (j := 2) (by decide)) ?_
  refine w_topI (hm.2.2.2 2) ?_
  refine w_aload_n (pc' := 984) ⟨rfl, rfl⟩ rfl ?_
  refine w_iload_n (pc' := 985) ⟨rfl, rfl⟩ rfl ?_
  refine w_ic (pc' := 986) ⟨rfl, rfl⟩ ?_
  refine w_iaddZ (pc' := 987) ⟨rfl, rfl⟩ ?_
  refine w_sald (pc' := 988) ⟨rfl, rfl⟩ hm.2.2.1 (zixA (j := 3) (by decide)) ?_
  refine w_topI (hm.2.2.2 3) ?_
  refine w_cv4 (pc' := 991) ⟨rfl, rfl⟩ (by decide) (zOl hm.1.1 rfl) (Nat.le_of_ble_eq_true rfl) (Nat.le_of_ble_eq_true rfl) (f_X12_unlike hm.1.1 hm.1.2.1 hm.1.2.2.1 (by omega) (by omega) (by omega) (fun σ2 m2 => ?_))
  refine w_lcmp (pc' := 992) ⟨rfl, rfl⟩ ?_
  refine w_ify_eq (pc' := 995) (pcT := 1539) ⟨rfl, rfl⟩ rfl (by omega) (by omega) (fun h9 => ?_) (fun h9 => ?_)
  · refine w_at (ls2 := [(0, .ref zSCR), (3, .int (iZ 0))]) ?_ (law_fin (m2.1.trans hm.2.1) ((m2.2.1 _ _).trans hm.2.2.1))
    exact ⟨rfl, rfl, trivial⟩
  · refine w_ic (pc' := 996) ⟨rfl, rfl⟩ ?_
    refine w_ireturn (pc' := 997) ⟨rfl, rfl⟩ (by decide) ?_
    exact absurd rfl h9
set_option maxRecDepth 20000 in
theorem law_make {x : Nat → Int} {σ : zSt} (h : zLw x σ) (hr : ∀ j, (-2147483648 ≤ x j ∧ x j ≤ 2147483647)) : zP zk_L_law 997 [(0, .ref zSCR), (1, .ref 0), (2, .ref 164), (3, .int (iZ 0))] [] σ zQ1 := by
  have r1 := hr 1
  have r2 := hr 2
  have r3 := hr 3
  have r4 := hr 4
  have r5 := hr 5
  have r6 := hr 6
  refine w_aload_n (pc' := 998) ⟨rfl, rfl⟩ rfl ?_
  refine w_aload_n (pc' := 999) ⟨rfl, rfl⟩ rfl ?_
  refine w_iload_n (pc' := 1000) ⟨rfl, rfl⟩ rfl ?_
  refine w_ic (pc' := 1001) ⟨rfl, rfl⟩ ?_
  refine w_iaddZ (pc' := 1002) ⟨rfl, rfl⟩ ?_
  refine w_sald (pc' := 1003) ⟨rfl, rfl⟩ h.2.2.2.1 (zixA (j := 1) (by decide)) ?_
  refine w_topI (h.2.2.2.2 1) ?_
  refine w_cv2 (pc' := 1006) ⟨rfl, rfl⟩ (by decide) (zOl h.1.1 rfl) (Nat.le_of_ble_eq_true rfl) (Nat.le_of_ble_eq_true rfl) (f_X11_make h.1.1 h.1.2.1 h.1.2.2.1 h.1.2.2.2.1 h.1.2.2.2.2 (by omega) (fun σ1 m1 => ?_))
  have hm := h.m m1
  refine w_aload_n (pc' := 1007) ⟨rfl, rfl⟩ rfl ?_
  refine w_aload_n (pc' := 1008) ⟨rfl, rfl⟩ rfl ?_
  refine w_iload_n (pc' := 1009) ⟨rfl, rfl⟩ rfl ?_
  refine w_ic (pc' := 1010) ⟨rfl, rfl⟩ ?_
  refine w_iaddZ (pc' := 1011) ⟨rfl, rfl⟩ ?_
  refine w_sald (pc' := 1012) ⟨rfl, rfl⟩ hm.2.2.1 (zixA (j := 1) (by decide)) ?_
  refine w_topI (hm.2.2.2 1) ?_
  refine w_cv2 (pc' := 1015) ⟨rfl, rfl⟩ (by decide) (zOl hm.1.1 rfl) (Nat.le_of_ble_eq_true rfl) (Nat.le_of_ble_eq_true rfl) (f_X12_make hm.1.1 hm.1.2.1 hm.1.2.2.1 (by omega) (fun σ2 m2 => ?_))
  refine w_icT_eq (pc' := 1018) (pcT := 1539) ⟨rfl, rfl⟩ rfl (by decide) ?_
  refine w_at (ls2 := [(0, .ref zSCR), (3, .int (iZ 0))]) ?_ (law_fin (m2.1.trans hm.2.1) ((m2.2.1 _ _).trans hm.2.2.1))
  exact ⟨rfl, rfl, trivial⟩
set_option maxRecDepth 20000 in
theorem law_copy {x : Nat → Int} {σ : zSt} (h : zLw x σ) (hr : ∀ j, (-2147483648 ≤ x j ∧ x j ≤ 2147483647)) : zP zk_L_law 1020 [(0, .ref zSCR), (1, .ref 0), (2, .ref 164), (3, .int (iZ 0))] [] σ zQ1 := by
  have r1 := hr 1
  have r2 := hr 2
  have r3 := hr 3
  have r4 := hr 4
  have r5 := hr 5
  have r6 := hr 6
  refine w_aload_n (pc' := 1021) ⟨rfl, rfl⟩ rfl ?_
  refine w_aload_n (pc' := 1022) ⟨rfl, rfl⟩ rfl ?_
  refine w_iload_n (pc' := 1023) ⟨rfl, rfl⟩ rfl ?_
  refine w_ic (pc' := 1024) ⟨rfl, rfl⟩ ?_
  refine w_iaddZ (pc' := 1025) ⟨rfl, rfl⟩ ?_
  refine w_sald (pc' := 1026) ⟨rfl, rfl⟩ h.2.2.2.1 (zixA (j := 1) (by decide)) ?_
  refine w_topI (h.2.2.2.2 1) ?_
  refine w_aload_n (pc' := 1027) ⟨rfl, rfl⟩ rfl ?_
  refine w_iload_n (pc' := 1028) ⟨rfl, rfl⟩ rfl ?_
  refine w_ic (pc' := 1029) ⟨rfl, rfl⟩ ?_
  refine w_iaddZ (pc' := 1030) ⟨rfl, rfl⟩ ?_
  refine w_sald (pc' := 1031) ⟨rfl, rfl⟩ h.2.2.2.1 (zixA (j := 2) (by decide)) ?_
  refine w_topI (h.2.2.2.2 2) ?_
  refine w_cv3 (pc' := 1034) ⟨rfl, rfl⟩ (by decide) (zOl h.1.1 rfl) (Nat.le_of_ble_eq_true rfl) (Nat.le_of_ble_eq_true rfl) (f_X11_copy h.1.1 h.1.2.1 h.1.2.2.1 h.1.2.2.2.1 h.1.2.2.2.2 (by omega) (by omega) (fun σ1 m1 => ?_))
  have hm := h.m m1
  refine w_aload_n (pc' := 1035) ⟨rfl, rfl⟩ rfl ?_
  refine w_aload_n (pc' := 1036) ⟨rfl, rfl⟩ rfl ?_
  refine w_iload_n (pc' := 1037) ⟨rfl, rfl⟩ rfl ?_
  refine w_ic (pc' := 1038) ⟨rfl, rfl⟩ ?_
  refine w_iaddZ (pc' := 1039) ⟨rfl, rfl⟩ ?_
  refine w_sald (pc' := 1040) ⟨rfl, rfl⟩ hm.2.2.1 (zixA (j := 1) (by decide)) ?_
  refine w_topI (hm.2.2.2 1) ?_
  refine w_aload_n (pc' := 1041) ⟨rfl, rfl⟩ rfl ?_
  refine w_iload_n (pc' := 1042) ⟨rfl, rfl⟩ rfl ?_
  refine w_ic (pc' := 1043) ⟨rfl, rfl⟩ ?_
  refine w_iaddZ (pc' := 1044) ⟨rfl, rfl⟩ ?_
  refine w_sald (pc' := 1045) ⟨rfl, rfl⟩ hm.2.2.1 (zixA (j := 2) (by decide)) ?_
  refine w_topI (hm.2.2.2 2) ?_
  refine w_cv3 (pc' := 1048) ⟨rfl, rfl⟩ (by decide) (zOl hm.1.1 rfl) (Nat.le_of_ble_eq_true rfl) (Nat.le_of_ble_eq_true rfl) (f_X12_copy hm.1.1 hm.1.2.1 hm.1.2.2.1 (by omega) (by omega) (fun σ2 m2 => ?_))
  refine w_icT_eq (pc' := 1051) (pcT := 1539) ⟨rfl, rfl⟩ rfl (by decide) ?_
  refine w_at (ls2 := [(0, .ref zSCR), (3, .int (iZ 0))]) ?_ (law_fin (m2.1.trans hm.2.1) ((m2.2.1 _ _).trans hm.2.2.1))
  exact ⟨rfl, rfl, trivial⟩
set_option maxRecDepth 20000 in
theorem law_drop {x : Nat → Int} {σ : zSt} (h : zLw x σ) (hr : ∀ j, (-2147483648 ≤ x j ∧ x j ≤ 2147483647)) : zP zk_L_law 1053 [(0, .ref zSCR), (1, .ref 0), (2, .ref 164), (3, .int (iZ 0))] [] σ zQ1 := by
  have r1 := hr 1
  have r2 := hr 2
  have r3 := hr 3
  have r4 := hr 4
  have r5 := hr 5
  have r6 := hr 6
  refine w_aload_n (pc' := 1054) ⟨rfl, rfl⟩ rfl ?_
  refine w_aload_n (pc' := 1055) ⟨rfl, rfl⟩ rfl ?_
  refine w_iload_n (pc' := 1056) ⟨rfl, rfl⟩ rfl ?_
  refine w_ic (pc' := 1057) ⟨rfl, rfl⟩ ?_
  refine w_iaddZ (pc' := 1058) ⟨rfl, rfl⟩ ?_
  refine w_sald (pc' := 1059) ⟨rfl, rfl⟩ h.2.2.2.1 (zixA (j := 1) (by decide)) ?_
  refine w_topI (h.2.2.2.2 1) ?_
  refine w_aload_n (pc' := 1060) ⟨rfl, rfl⟩ rfl ?_
  refine w_iload_n (pc' := 1061) ⟨rfl, rfl⟩ rfl ?_
  refine w_ic (pc' := 1062) ⟨rfl, rfl⟩ ?_
  refine w_iaddZ (pc' := 1063) ⟨rfl, rfl⟩ ?_
  refine w_sald (pc' := 1064) ⟨rfl, rfl⟩ h.2.2.2.1 (zixA (j := 2) (by decide)) ?_
  refine w_topI (h.2.2.2.2 2) ?_
  refine w_cv3 (pc' := 1067) ⟨rfl, rfl⟩ (by decide) (zOl h.1.1 rfl) (Nat.le_of_ble_eq_true rfl) (Nat.le_of_ble_eq_true rfl) (f_X11_drop h.1.1 h.1.2.1 h.1.2.2.1 h.1.2.2.2.1 h.1.2.2.2.2 (by omega) (by omega) (fun σ1 m1 => ?_))
  have hm := h.m m1
  refine w_aload_n (pc' := 1068) ⟨rfl, rfl⟩ rfl ?_
  refine w_aload_n (pc' := 1069) ⟨rfl, rfl⟩ rfl ?_
  refine w_iload_n (pc' := 1070) ⟨rfl, rfl⟩ rfl ?_
  refine w_ic (pc' := 1071) ⟨rfl, rfl⟩ ?_
  refine w_iaddZ (pc' := 1072) ⟨rfl, rfl⟩ ?_
  refine w_sald (pc' := 1073) ⟨rfl, rfl⟩ hm.2.2.1 (zixA (j := 1) (by decide)) ?_
  refine w_topI (hm.2.2.2 1) ?_
  refine w_aload_n (pc' := 1074) ⟨rfl, rfl⟩ rfl ?_
  refine w_iload_n (pc' := 1075) ⟨rfl, rfl⟩ rfl ?_
  refine w_ic (pc' := 1076) ⟨rfl, rfl⟩ ?_
  refine w_iaddZ (pc' := 1077) ⟨rfl, rfl⟩ ?_
  refine w_sald (pc' := 1078) ⟨rfl, rfl⟩ hm.2.2.1 (zixA (j := 2) (by decide)) ?_
  refine w_topI (hm.2.2.2 2) ?_
  refine w_cv3 (pc' := 1081) ⟨rfl, rfl⟩ (by decide) (zOl hm.1.1 rfl) (Nat.le_of_ble_eq_true rfl) (Nat.le_of_ble_eq_true rfl) (f_X12_drop hm.1.1 hm.1.2.1 hm.1.2.2.1 (by omega) (by omega) (fun σ2 m2 => ?_))
  refine w_icT_eq (pc' := 1084) (pcT := 1539) ⟨rfl, rfl⟩ rfl (by decide) ?_
  refine w_at (ls2 := [(0, .ref zSCR), (3, .int (iZ 0))]) ?_ (law_fin (m2.1.trans hm.2.1) ((m2.2.1 _ _).trans hm.2.2.1))
  exact ⟨rfl, rfl, trivial⟩
set_option maxRecDepth 20000 in
theorem law_chance {x : Nat → Int} {σ : zSt} (h : zLw x σ) (hr : ∀ j, (-2147483648 ≤ x j ∧ x j ≤ 2147483647)) : zP zk_L_law 1086 [(0, .ref zSCR), (1, .ref 0), (2, .ref 164), (3, .int (iZ 0))] [] σ zQ1 := by
  have r1 := hr 1
  have r2 := hr 2
  have r3 := hr 3
  have r4 := hr 4
  have r5 := hr 5
  have r6 := hr 6
  refine w_aload_n (pc' := 1087) ⟨rfl, rfl⟩ rfl ?_
  refine w_aload_n (pc' := 1088) ⟨rfl, rfl⟩ rfl ?_
  refine w_iload_n (pc' := 1089) ⟨rfl, rfl⟩ rfl ?_
  refine w_ic (pc' := 1090) ⟨rfl, rfl⟩ ?_
  refine w_iaddZ (pc' := 1091) ⟨rfl, rfl⟩ ?_
  refine w_sald (pc' := 1092) ⟨rfl, rfl⟩ h.2.2.2.1 (zixA (j := 1) (by decide)) ?_
  refine w_topI (h.2.2.2.2 1) ?_
  refine w_cv2 (pc' := 1095) ⟨rfl, rfl⟩ (by decide) (zOl h.1.1 rfl) (Nat.le_of_ble_eq_true rfl) (Nat.le_of_ble_eq_true rfl) (f_X11_chance h.1.1 h.1.2.1 h.1.2.2.1 h.1.2.2.2.1 h.1.2.2.2.2 (by omega) (fun σ1 m1 => ?_))
  have hm := h.m m1
  refine w_aload_n (pc' := 1096) ⟨rfl, rfl⟩ rfl ?_
  refine w_aload_n (pc' := 1097) ⟨rfl, rfl⟩ rfl ?_
  refine w_iload_n (pc' := 1098) ⟨rfl, rfl⟩ rfl ?_
  refine w_ic (pc' := 1099) ⟨rfl, rfl⟩ ?_
  refine w_iaddZ (pc' := 1100) ⟨rfl, rfl⟩ ?_
  refine w_sald (pc' := 1101) ⟨rfl, rfl⟩ hm.2.2.1 (zixA (j := 1) (by decide)) ?_
  refine w_topI (hm.2.2.2 1) ?_
  refine w_cv2 (pc' := 1104) ⟨rfl, rfl⟩ (by decide) (zOl hm.1.1 rfl) (Nat.le_of_ble_eq_true rfl) (Nat.le_of_ble_eq_true rfl) (f_X12_chance hm.1.1 hm.1.2.1 hm.1.2.2.1 (by omega) (fun σ2 m2 => ?_))
  refine w_icT_eq (pc' := 1107) (pcT := 1539) ⟨rfl, rfl⟩ rfl (by decide) ?_
  refine w_at (ls2 := [(0, .ref zSCR), (3, .int (iZ 0))]) ?_ (law_fin (m2.1.trans hm.2.1) ((m2.2.1 _ _).trans hm.2.2.1))
  exact ⟨rfl, rfl, trivial⟩
set_option maxRecDepth 20000 in
theorem law_cross {x : Nat → Int} {σ : zSt} (h : zLw x σ) (hr : ∀ j, (-2147483648 ≤ x j ∧ x j ≤ 2147483647)) : zP zk_L_law 1109 [(0, .ref zSCR), (1, .ref 0), (2, .ref 164), (3, .int (iZ 0))] [] σ zQ1 := by
  have r1 := hr 1
  have r2 := hr 2
  have r3 := hr 3
  have r4 := hr 4
  have r5 := hr 5
  have r6 := hr 6
  refine w_aload_n (pc' := 1110) ⟨rfl, rfl⟩ rfl ?_
  refine w_aload_n (pc' := 1111) ⟨rfl, rfl⟩ rfl ?_
  refine w_iload_n (pc' := 1112) ⟨rfl, rfl⟩ rfl ?_
  refine w_ic (pc' := 1113) ⟨rfl, rfl⟩ ?_
  refine w_iaddZ (pc' := 1114) ⟨rfl, rfl⟩ ?_
  refine w_sald (pc' := 1115) ⟨rfl, rfl⟩ h.2.2.2.1 (zixA (j := 1) (by decide)) ?_
  refine w_topI (h.2.2.2.2 1) ?_
  refine w_aload_n (pc' := 1116) ⟨rfl, rfl⟩ rfl ?_
  refine w_iload_n (pc' := 1117) ⟨rfl, rfl⟩ rfl ?_
  refine w_ic (pc' := 1118) ⟨rfl, rfl⟩ ?_
  refine w_iaddZ (pc' := 1119) ⟨rfl, rfl⟩ ?_
  refine w_sald (pc' := 1120) ⟨rfl, rfl⟩ h.2.2.2.1 (zixA (j := 2) (by decide)) ?_
  refine w_topI (h.2.2.2.2 2) ?_
  refine w_cv3 (pc' := 1123) ⟨rfl, rfl⟩ (by decide) (zOl h.1.1 rfl) (Nat.le_of_ble_eq_true rfl) (Nat.le_of_ble_eq_true rfl) (f_X11_cross h.1.1 h.1.2.1 h.1.2.2.1 h.1.2.2.2.1 h.1.2.2.2.2 (by omega) (by omega) (fun σ1 m1 => ?_))
  have hm := h.m m1
  refine w_aload_n (pc' := 1124) ⟨rfl, rfl⟩ rfl ?_
  refine w_aload_n (pc' := 1125) ⟨rfl, rfl⟩ rfl ?_
  refine w_iload_n (pc' := 1126) ⟨rfl, rfl⟩ rfl ?_
  refine w_ic (pc' := 1127) ⟨rfl, rfl⟩ ?_
  refine w_iaddZ (pc' := 1128) ⟨rfl, rfl⟩ ?_
  refine w_sald (pc' := 1129) ⟨rfl, rfl⟩ hm.2.2.1 (zixA (j := 1) (by decide)) ?_
  refine w_topI (hm.2.2.2 1) ?_
  refine w_aload_n (pc' := 1130) ⟨rfl, rfl⟩ rfl ?_
  refine w_iload_n (pc' := 1131) ⟨rfl, rfl⟩ rfl ?_
  refine w_ic (pc' := 1132) ⟨rfl, rfl⟩ ?_
  refine w_iaddZ (pc' := 1133) ⟨rfl, rfl⟩ ?_
  refine w_sald (pc' := 1134) ⟨rfl, rfl⟩ hm.2.2.1 (zixA (j := 2) (by decide)) ?_
  refine w_topI (hm.2.2.2 2) ?_
  refine w_cv3 (pc' := 1137) ⟨rfl, rfl⟩ (by decide) (zOl hm.1.1 rfl) (Nat.le_of_ble_eq_true rfl) (Nat.le_of_ble_eq_true rfl) (f_X12_cross hm.1.1 hm.1.2.1 hm.1.2.2.1 (by omega) (by omega) (fun σ2 m2 => ?_))
  refine w_icT_eq (pc' := 1140) (pcT := 1539) ⟨rfl, rfl⟩ rfl (by decide) ?_
  refine w_at (ls2 := [(0, .ref zSCR), (3, .int (iZ 0))]) ?_ (law_fin (m2.1.trans hm.2.1) ((m2.2.1 _ _).trans hm.2.2.1))
  exact ⟨rfl, rfl, trivial⟩
set_option maxRecDepth 20000 in
theorem law_account {x : Nat → Int} {σ : zSt} (h : zLw x σ) (hr : ∀ j, (-2147483648 ≤ x j ∧ x j ≤ 2147483647)) : zP zk_L_law 1142 [(0, .ref zSCR), (1, .ref 0), (2, .ref 164), (3, .int (iZ 0))] [] σ zQ1 := by
  have r1 := hr 1
  have r2 := hr 2
  have r3 := hr 3
  have r4 := hr 4
  have r5 := hr 5
  have r6 := hr 6
  refine w_aload_n (pc' := 1143) ⟨rfl, rfl⟩ rfl ?_
  refine w_aload_n (pc' := 1144) ⟨rfl, rfl⟩ rfl ?_
  refine w_iload_n (pc' := 1145) ⟨rfl, rfl⟩ rfl ?_
  refine w_ic (pc' := 1146) ⟨rfl, rfl⟩ ?_
  refine w_iaddZ (pc' := 1147) ⟨rfl, rfl⟩ ?_
  refine w_sald (pc' := 1148) ⟨rfl, rfl⟩ h.2.2.2.1 (zixA (j := 1) (by decide)) ?_
  refine w_topI (h.2.2.2.2 1) ?_
  refine w_cv2 (pc' := 1151) ⟨rfl, rfl⟩ (by decide) (zOl h.1.1 rfl) (Nat.le_of_ble_eq_true rfl) (Nat.le_of_ble_eq_true rfl) (f_X11_account h.1.1 h.1.2.1 h.1.2.2.1 h.1.2.2.2.1 h.1.2.2.2.2 (by omega) (fun σ1 m1 => ?_))
  have hm := h.m m1
  refine w_aload_n (pc' := 1152) ⟨rfl, rfl⟩ rfl ?_
  refine w_aload_n (pc' := 1153) ⟨rfl, rfl⟩ rfl ?_
  refine w_iload_n (pc' := 1154) ⟨rfl, rfl⟩ rfl ?_
  refine w_ic (pc' := 1155) ⟨rfl, rfl⟩ ?_
  refine w_iaddZ (pc' := 1156) ⟨rfl, rfl⟩ ?_
  refine w_sald (pc' := 1157) ⟨rfl, rfl⟩ hm.2.2.1 (zixA (j := 1) (by decide)) ?_
  refine w_topI (hm.2.2.2 1) ?_
  refine w_cv2 (pc' := 1160) ⟨rfl, rfl⟩ (by decide) (zOl hm.1.1 rfl) (Nat.le_of_ble_eq_true rfl) (Nat.le_of_ble_eq_true rfl) (f_X12_account hm.1.1 hm.1.2.1 hm.1.2.2.1 (by omega) (fun σ2 m2 => ?_))
  refine w_icT_eq (pc' := 1163) (pcT := 1539) ⟨rfl, rfl⟩ rfl (by decide) ?_
  refine w_at (ls2 := [(0, .ref zSCR), (3, .int (iZ 0))]) ?_ (law_fin (m2.1.trans hm.2.1) ((m2.2.1 _ _).trans hm.2.2.1))
  exact ⟨rfl, rfl, trivial⟩
set_option maxRecDepth 20000 in
theorem law_would {x : Nat → Int} {σ : zSt} (h : zLw x σ) (hr : ∀ j, (-2147483648 ≤ x j ∧ x j ≤ 2147483647)) : zP zk_L_law 1165 [(0, .ref zSCR), (1, .ref 0), (2, .ref 164), (3, .int (iZ 0))] [] σ zQ1 := by
  have r1 := hr 1
  have r2 := hr 2
  have r3 := hr 3
  have r4 := hr 4
  have r5 := hr 5
  have r6 := hr 6
  refine w_aload_n (pc' := 1166) ⟨rfl, rfl⟩ rfl ?_
  refine w_aload_n (pc' := 1167) ⟨rfl, rfl⟩ rfl ?_
  refine w_iload_n (pc' := 1168) ⟨rfl, rfl⟩ rfl ?_
  refine w_ic (pc' := 1169) ⟨rfl, rfl⟩ ?_
  refine w_iaddZ (pc' := 1170) ⟨rfl, rfl⟩ ?_
  refine w_sald (pc' := 1171) ⟨rfl, rfl⟩ h.2.2.2.1 (zixA (j := 1) (by decide)) ?_
  refine w_topI (h.2.2.2.2 1) ?_
  refine w_aload_n (pc' := 1172) ⟨rfl, rfl⟩ rfl ?_
  refine w_iload_n (pc' := 1173) ⟨rfl, rfl⟩ rfl ?_
  refine w_ic (pc' := 1174) ⟨rfl, rfl⟩ ?_
  refine w_iaddZ (pc' := 1175) ⟨rfl, rfl⟩ ?_
  refine w_sald (pc' := 1176) ⟨rfl, rfl⟩ h.2.2.2.1 (zixA (j := 2) (by decide)) ?_
  refine w_topI (h.2.2.2.2 2) ?_
  refine w_aload_n (pc' := 1177) ⟨rfl, rfl⟩ rfl ?_
  refine w_iload_n (pc' := 1178) ⟨rfl, rfl⟩ rfl ?_
  refine w_ic (pc' := 1179) ⟨rfl, rfl⟩ ?_
  refine w_iaddZ (pc' := 1180) ⟨rfl, rfl⟩ ?_
  refine w_sald (pc' := 1181) ⟨rfl, rfl⟩ h.2.2.2.1 (zixA (j := 3) (by decide)) ?_
  refine w_topI (h.2.2.2.2 3) ?_
  refine w_cv4 (pc' := 1184) ⟨rfl, rfl⟩ (by decide) (zOl h.1.1 rfl) (Nat.le_of_ble_eq_true rfl) (Nat.le_of_ble_eq_true rfl) (f_X11_would h.1.1 h.1.2.1 h.1.2.2.1 h.1.2.2.2.1 h.1.2.2.2.2 (by omega) (by omega) (by omega) (fun σ1 m1 => ?_))
  have hm := h.m m1
  refine w_aload_n (pc' := 1185) ⟨rfl, rfl⟩ rfl ?_
  refine w_aload_n (pc' := 1186) ⟨rfl, rfl⟩ rfl ?_
  refine w_iload_n (pc' := 1187) ⟨rfl, rfl⟩ rfl ?_
  refine w_ic (pc' := 1188) ⟨rfl, rfl⟩ ?_
  refine w_iaddZ (pc' := 1189) ⟨rfl, rfl⟩ ?_
  refine w_sald (pc' := 1190) ⟨rfl, rfl⟩ hm.2.2.1 (zixA (j := 1) (by decide)) ?_
  refine w_topI (hm.2.2.2 1) ?_
  refine w_aload_n (pc' := 1191) ⟨rfl, rfl⟩ rfl ?_
  refine w_iload_n (pc' := 1192) ⟨rfl, rfl⟩ rfl ?_
  refine w_ic (pc' := 1193) ⟨rfl, rfl⟩ ?_
  refine w_iaddZ (pc' := 1194) ⟨rfl, rfl⟩ ?_
  refine w_sald (pc' := 1195) ⟨rfl, rfl⟩ hm.2.2.1 (zixA (j := 2) (by decide)) ?_
  refine w_topI (hm.2.2.2 2) ?_
  refine w_aload_n (pc' := 1196) ⟨rfl, rfl⟩ rfl ?_
  refine w_iload_n (pc' := 1197) ⟨rfl, rfl⟩ rfl ?_
  refine w_ic (pc' := 1198) ⟨rfl, rfl⟩ ?_
  refine w_iaddZ (pc' := 1199) ⟨rfl, rfl⟩ ?_
  refine w_sald (pc' := 1200) ⟨rfl, rfl⟩ hm.2.2.1 (zixA (j := 3) (by decide)) ?_
  refine w_topI (hm.2.2.2 3) ?_
  refine w_cv4 (pc' := 1203) ⟨rfl, rfl⟩ (by decide) (zOl hm.1.1 rfl) (Nat.le_of_ble_eq_true rfl) (Nat.le_of_ble_eq_true rfl) (f_X12_would hm.1.1 hm.1.2.1 hm.1.2.2.1 (by omega) (by omega) (by omega) (fun σ2 m2 => ?_))
  refine w_icT_eq (pc' := 1206) (pcT := 1539) ⟨rfl, rfl⟩ rfl (by decide) ?_
  refine w_at (ls2 := [(0, .ref zSCR), (3, .int (iZ 0))]) ?_ (law_fin (m2.1.trans hm.2.1) ((m2.2.1 _ _).trans hm.2.2.1))
  exact ⟨rfl, rfl, trivial⟩
set_option maxRecDepth 20000 in
theorem law_round {x : Nat → Int} {σ : zSt} (h : zLw x σ) (hr : ∀ j, (-2147483648 ≤ x j ∧ x j ≤ 2147483647)) : zP zk_L_law 1208 [(0, .ref zSCR), (1, .ref 0), (2, .ref 164), (3, .int (iZ 0))] [] σ zQ1 := by
  have r1 := hr 1
  have r2 := hr 2
  have r3 := hr 3
  have r4 := hr 4
  have r5 := hr 5
  have r6 := hr 6
  refine w_aload_n (pc' := 1209) ⟨rfl, rfl⟩ rfl ?_
  refine w_aload_n (pc' := 1210) ⟨rfl, rfl⟩ rfl ?_
  refine w_iload_n (pc' := 1211) ⟨rfl, rfl⟩ rfl ?_
  refine w_ic (pc' := 1212) ⟨rfl, rfl⟩ ?_
  refine w_iaddZ (pc' := 1213) ⟨rfl, rfl⟩ ?_
  refine w_sald (pc' := 1214) ⟨rfl, rfl⟩ h.2.2.2.1 (zixA (j := 1) (by decide)) ?_
  refine w_topI (h.2.2.2.2 1) ?_
  refine w_aload_n (pc' := 1215) ⟨rfl, rfl⟩ rfl ?_
  refine w_iload_n (pc' := 1216) ⟨rfl, rfl⟩ rfl ?_
  refine w_ic (pc' := 1217) ⟨rfl, rfl⟩ ?_
  refine w_iaddZ (pc' := 1218) ⟨rfl, rfl⟩ ?_
  refine w_sald (pc' := 1219) ⟨rfl, rfl⟩ h.2.2.2.1 (zixA (j := 2) (by decide)) ?_
  refine w_topI (h.2.2.2.2 2) ?_
  refine w_aload_n (pc' := 1220) ⟨rfl, rfl⟩ rfl ?_
  refine w_iload_n (pc' := 1221) ⟨rfl, rfl⟩ rfl ?_
  refine w_ic (pc' := 1222) ⟨rfl, rfl⟩ ?_
  refine w_iaddZ (pc' := 1223) ⟨rfl, rfl⟩ ?_
  refine w_sald (pc' := 1224) ⟨rfl, rfl⟩ h.2.2.2.1 (zixA (j := 3) (by decide)) ?_
  refine w_topI (h.2.2.2.2 3) ?_
  refine w_cv4 (pc' := 1227) ⟨rfl, rfl⟩ (by decide) (zOl h.1.1 rfl) (Nat.le_of_ble_eq_true rfl) (Nat.le_of_ble_eq_true rfl) (f_X11_round h.1.1 h.1.2.1 h.1.2.2.1 h.1.2.2.2.1 h.1.2.2.2.2 (by omega) (by omega) (by omega) (fun σ1 m1 => ?_))
  have hm := h.m m1
  refine w_aload_n (pc' := 1228) ⟨rfl, rfl⟩ rfl ?_
  refine w_aload_n (pc' := 1229) ⟨rfl, rfl⟩ rfl ?_
  refine w_iload_n (pc' := 1230) ⟨rfl, rfl⟩ rfl ?_
  refine w_ic (pc' := 1231) ⟨rfl, rfl⟩ ?_
  refine w_iaddZ (pc' := 1232) ⟨rfl, rfl⟩ ?_
  refine w_sald (pc' := 1233) ⟨rfl, rfl⟩ hm.2.2.1 (zixA (j := 1) (by decide)) ?_
  refine w_topI (hm.2.2.2 1) ?_
  refine w_aload_n (pc' := 1234) ⟨rfl, rfl⟩ rfl ?_
  refine w_iload_n (pc' := 1235) ⟨rfl, rfl⟩ rfl ?_
  refine w_ic (pc' := 1236) ⟨rfl, rfl⟩ ?_
  refine w_iaddZ (pc' := 1237) ⟨rfl, rfl⟩ ?_
  refine w_sald (pc' := 1238) ⟨rfl, rfl⟩ hm.2.2.1 (zixA (j := 2) (by decide)) ?_
  refine w_topI (hm.2.2.2 2) ?_
  refine w_aload_n (pc' := 1239) ⟨rfl, rfl⟩ rfl ?_
  refine w_iload_n (pc' := 1240) ⟨rfl, rfl⟩ rfl ?_
  refine w_ic (pc' := 1241) ⟨rfl, rfl⟩ ?_
  refine w_iaddZ (pc' := 1242) ⟨rfl, rfl⟩ ?_
  refine w_sald (pc' := 1243) ⟨rfl, rfl⟩ hm.2.2.1 (zixA (j := 3) (by decide)) ?_
  refine w_topI (hm.2.2.2 3) ?_
  refine w_cv4 (pc' := 1246) ⟨rfl, rfl⟩ (by decide) (zOl hm.1.1 rfl) (Nat.le_of_ble_eq_true rfl) (Nat.le_of_ble_eq_true rfl) (f_X12_round hm.1.1 hm.1.2.1 hm.1.2.2.1 (by omega) (by omega) (by omega) (fun σ2 m2 => ?_))
  refine w_lcmp (pc' := 1247) ⟨rfl, rfl⟩ ?_
  refine w_ify_eq (pc' := 1250) (pcT := 1539) ⟨rfl, rfl⟩ rfl (by omega) (by omega) (fun h9 => ?_) (fun h9 => ?_)
  · refine w_at (ls2 := [(0, .ref zSCR), (3, .int (iZ 0))]) ?_ (law_fin (m2.1.trans hm.2.1) ((m2.2.1 _ _).trans hm.2.2.1))
    exact ⟨rfl, rfl, trivial⟩
  · refine w_ic (pc' := 1251) ⟨rfl, rfl⟩ ?_
    refine w_ireturn (pc' := 1252) ⟨rfl, rfl⟩ (by decide) ?_
    exact absurd rfl h9
set_option maxRecDepth 20000 in
theorem law_proved {x : Nat → Int} {σ : zSt} (h : zLw x σ) (hr : ∀ j, (-2147483648 ≤ x j ∧ x j ≤ 2147483647)) : zP zk_L_law 1252 [(0, .ref zSCR), (1, .ref 0), (2, .ref 164), (3, .int (iZ 0))] [] σ zQ1 := by
  have r1 := hr 1
  have r2 := hr 2
  have r3 := hr 3
  have r4 := hr 4
  have r5 := hr 5
  have r6 := hr 6
  refine w_aload_n (pc' := 1253) ⟨rfl, rfl⟩ rfl ?_
  refine w_aload_n (pc' := 1254) ⟨rfl, rfl⟩ rfl ?_
  refine w_iload_n (pc' := 1255) ⟨rfl, rfl⟩ rfl ?_
  refine w_ic (pc' := 1256) ⟨rfl, rfl⟩ ?_
  refine w_iaddZ (pc' := 1257) ⟨rfl, rfl⟩ ?_
  refine w_sald (pc' := 1258) ⟨rfl, rfl⟩ h.2.2.2.1 (zixA (j := 1) (by decide)) ?_
  refine w_topI (h.2.2.2.2 1) ?_
  refine w_aload_n (pc' := 1259) ⟨rfl, rfl⟩ rfl ?_
  refine w_iload_n (pc' := 1260) ⟨rfl, rfl⟩ rfl ?_
  refine w_ic (pc' := 1261) ⟨rfl, rfl⟩ ?_
  refine w_iaddZ (pc' := 1262) ⟨rfl, rfl⟩ ?_
  refine w_sald (pc' := 1263) ⟨rfl, rfl⟩ h.2.2.2.1 (zixA (j := 2) (by decide)) ?_
  refine w_topI (h.2.2.2.2 2) ?_
  refine w_cv3 (pc' := 1266) ⟨rfl, rfl⟩ (by decide) (zOl h.1.1 rfl) (Nat.le_of_ble_eq_true rfl) (Nat.le_of_ble_eq_true rfl) (f_X11_proved h.1.1 h.1.2.1 h.1.2.2.1 h.1.2.2.2.1 h.1.2.2.2.2 (by omega) (by omega) (fun σ1 m1 => ?_))
  have hm := h.m m1
  refine w_aload_n (pc' := 1267) ⟨rfl, rfl⟩ rfl ?_
  refine w_aload_n (pc' := 1268) ⟨rfl, rfl⟩ rfl ?_
  refine w_iload_n (pc' := 1269) ⟨rfl, rfl⟩ rfl ?_
  refine w_ic (pc' := 1270) ⟨rfl, rfl⟩ ?_
  refine w_iaddZ (pc' := 1271) ⟨rfl, rfl⟩ ?_
  refine w_sald (pc' := 1272) ⟨rfl, rfl⟩ hm.2.2.1 (zixA (j := 1) (by decide)) ?_
  refine w_topI (hm.2.2.2 1) ?_
  refine w_aload_n (pc' := 1273) ⟨rfl, rfl⟩ rfl ?_
  refine w_iload_n (pc' := 1274) ⟨rfl, rfl⟩ rfl ?_
  refine w_ic (pc' := 1275) ⟨rfl, rfl⟩ ?_
  refine w_iaddZ (pc' := 1276) ⟨rfl, rfl⟩ ?_
  refine w_sald (pc' := 1277) ⟨rfl, rfl⟩ hm.2.2.1 (zixA (j := 2) (by decide)) ?_
  refine w_topI (hm.2.2.2 2) ?_
  refine w_cv3 (pc' := 1280) ⟨rfl, rfl⟩ (by decide) (zOl hm.1.1 rfl) (Nat.le_of_ble_eq_true rfl) (Nat.le_of_ble_eq_true rfl) (f_X12_proved hm.1.1 hm.1.2.1 hm.1.2.2.1 (by omega) (by omega) (fun σ2 m2 => ?_))
  refine w_icT_eq (pc' := 1283) (pcT := 1539) ⟨rfl, rfl⟩ rfl (by decide) ?_
  refine w_at (ls2 := [(0, .ref zSCR), (3, .int (iZ 0))]) ?_ (law_fin (m2.1.trans hm.2.1) ((m2.2.1 _ _).trans hm.2.2.1))
  exact ⟨rfl, rfl, trivial⟩
set_option maxRecDepth 20000 in
theorem law_way {x : Nat → Int} {σ : zSt} (h : zLw x σ) (hr : ∀ j, (-2147483648 ≤ x j ∧ x j ≤ 2147483647)) : zP zk_L_law 1285 [(0, .ref zSCR), (1, .ref 0), (2, .ref 164), (3, .int (iZ 0))] [] σ zQ1 := by
  have r1 := hr 1
  have r2 := hr 2
  have r3 := hr 3
  have r4 := hr 4
  have r5 := hr 5
  have r6 := hr 6
  refine w_aload_n (pc' := 1286) ⟨rfl, rfl⟩ rfl ?_
  refine w_aload_n (pc' := 1287) ⟨rfl, rfl⟩ rfl ?_
  refine w_iload_n (pc' := 1288) ⟨rfl, rfl⟩ rfl ?_
  refine w_ic (pc' := 1289) ⟨rfl, rfl⟩ ?_
  refine w_iaddZ (pc' := 1290) ⟨rfl, rfl⟩ ?_
  refine w_sald (pc' := 1291) ⟨rfl, rfl⟩ h.2.2.2.1 (zixA (j := 1) (by decide)) ?_
  refine w_topI (h.2.2.2.2 1) ?_
  refine w_aload_n (pc' := 1292) ⟨rfl, rfl⟩ rfl ?_
  refine w_iload_n (pc' := 1293) ⟨rfl, rfl⟩ rfl ?_
  refine w_ic (pc' := 1294) ⟨rfl, rfl⟩ ?_
  refine w_iaddZ (pc' := 1295) ⟨rfl, rfl⟩ ?_
  refine w_sald (pc' := 1296) ⟨rfl, rfl⟩ h.2.2.2.1 (zixA (j := 2) (by decide)) ?_
  refine w_topI (h.2.2.2.2 2) ?_
  refine w_aload_n (pc' := 1297) ⟨rfl, rfl⟩ rfl ?_
  refine w_iload_n (pc' := 1298) ⟨rfl, rfl⟩ rfl ?_
  refine w_ic (pc' := 1299) ⟨rfl, rfl⟩ ?_
  refine w_iaddZ (pc' := 1300) ⟨rfl, rfl⟩ ?_
  refine w_sald (pc' := 1301) ⟨rfl, rfl⟩ h.2.2.2.1 (zixA (j := 3) (by decide)) ?_
  refine w_topI (h.2.2.2.2 3) ?_
  refine w_cv4 (pc' := 1304) ⟨rfl, rfl⟩ (by decide) (zOl h.1.1 rfl) (Nat.le_of_ble_eq_true rfl) (Nat.le_of_ble_eq_true rfl) (f_X11_way h.1.1 h.1.2.1 h.1.2.2.1 h.1.2.2.2.1 h.1.2.2.2.2 (by omega) (by omega) (by omega) (fun σ1 m1 => ?_))
  have hm := h.m m1
  refine w_aload_n (pc' := 1305) ⟨rfl, rfl⟩ rfl ?_
  refine w_aload_n (pc' := 1306) ⟨rfl, rfl⟩ rfl ?_
  refine w_iload_n (pc' := 1307) ⟨rfl, rfl⟩ rfl ?_
  refine w_ic (pc' := 1308) ⟨rfl, rfl⟩ ?_
  refine w_iaddZ (pc' := 1309) ⟨rfl, rfl⟩ ?_
  refine w_sald (pc' := 1310) ⟨rfl, rfl⟩ hm.2.2.1 (zixA (j := 1) (by decide)) ?_
  refine w_topI (hm.2.2.2 1) ?_
  refine w_aload_n (pc' := 1311) ⟨rfl, rfl⟩ rfl ?_
  refine w_iload_n (pc' := 1312) ⟨rfl, rfl⟩ rfl ?_
  refine w_ic (pc' := 1313) ⟨rfl, rfl⟩ ?_
  refine w_iaddZ (pc' := 1314) ⟨rfl, rfl⟩ ?_
  refine w_sald (pc' := 1315) ⟨rfl, rfl⟩ hm.2.2.1 (zixA (j := 2) (by decide)) ?_
  refine w_topI (hm.2.2.2 2) ?_
  refine w_aload_n (pc' := 1316) ⟨rfl, rfl⟩ rfl ?_
  refine w_iload_n (pc' := 1317) ⟨rfl, rfl⟩ rfl ?_
  refine w_ic (pc' := 1318) ⟨rfl, rfl⟩ ?_
  refine w_iaddZ (pc' := 1319) ⟨rfl, rfl⟩ ?_
  refine w_sald (pc' := 1320) ⟨rfl, rfl⟩ hm.2.2.1 (zixA (j := 3) (by decide)) ?_
  refine w_topI (hm.2.2.2 3) ?_
  refine w_cv4 (pc' := 1323) ⟨rfl, rfl⟩ (by decide) (zOl hm.1.1 rfl) (Nat.le_of_ble_eq_true rfl) (Nat.le_of_ble_eq_true rfl) (f_X12_way hm.1.1 hm.1.2.1 hm.1.2.2.1 (by omega) (by omega) (by omega) (fun σ2 m2 => ?_))
  refine w_icT_eq (pc' := 1326) (pcT := 1539) ⟨rfl, rfl⟩ rfl (by decide) ?_
  refine w_at (ls2 := [(0, .ref zSCR), (3, .int (iZ 0))]) ?_ (law_fin (m2.1.trans hm.2.1) ((m2.2.1 _ _).trans hm.2.2.1))
  exact ⟨rfl, rfl, trivial⟩
set_option maxRecDepth 20000 in
theorem law_least {x : Nat → Int} {σ : zSt} (h : zLw x σ) (hr : ∀ j, (-2147483648 ≤ x j ∧ x j ≤ 2147483647)) : zP zk_L_law 1328 [(0, .ref zSCR), (1, .ref 0), (2, .ref 164), (3, .int (iZ 0))] [] σ zQ1 := by
  have r1 := hr 1
  have r2 := hr 2
  have r3 := hr 3
  have r4 := hr 4
  have r5 := hr 5
  have r6 := hr 6
  refine w_aload_n (pc' := 1329) ⟨rfl, rfl⟩ rfl ?_
  refine w_aload_n (pc' := 1330) ⟨rfl, rfl⟩ rfl ?_
  refine w_iload_n (pc' := 1331) ⟨rfl, rfl⟩ rfl ?_
  refine w_ic (pc' := 1332) ⟨rfl, rfl⟩ ?_
  refine w_iaddZ (pc' := 1333) ⟨rfl, rfl⟩ ?_
  refine w_sald (pc' := 1334) ⟨rfl, rfl⟩ h.2.2.2.1 (zixA (j := 1) (by decide)) ?_
  refine w_topI (h.2.2.2.2 1) ?_
  refine w_aload_n (pc' := 1335) ⟨rfl, rfl⟩ rfl ?_
  refine w_iload_n (pc' := 1336) ⟨rfl, rfl⟩ rfl ?_
  refine w_ic (pc' := 1337) ⟨rfl, rfl⟩ ?_
  refine w_iaddZ (pc' := 1338) ⟨rfl, rfl⟩ ?_
  refine w_sald (pc' := 1339) ⟨rfl, rfl⟩ h.2.2.2.1 (zixA (j := 2) (by decide)) ?_
  refine w_topI (h.2.2.2.2 2) ?_
  refine w_aload_n (pc' := 1340) ⟨rfl, rfl⟩ rfl ?_
  refine w_iload_n (pc' := 1341) ⟨rfl, rfl⟩ rfl ?_
  refine w_ic (pc' := 1342) ⟨rfl, rfl⟩ ?_
  refine w_iaddZ (pc' := 1343) ⟨rfl, rfl⟩ ?_
  refine w_sald (pc' := 1344) ⟨rfl, rfl⟩ h.2.2.2.1 (zixA (j := 3) (by decide)) ?_
  refine w_topI (h.2.2.2.2 3) ?_
  refine w_aload_n (pc' := 1345) ⟨rfl, rfl⟩ rfl ?_
  refine w_iload_n (pc' := 1346) ⟨rfl, rfl⟩ rfl ?_
  refine w_ic (pc' := 1347) ⟨rfl, rfl⟩ ?_
  refine w_iaddZ (pc' := 1348) ⟨rfl, rfl⟩ ?_
  refine w_sald (pc' := 1349) ⟨rfl, rfl⟩ h.2.2.2.1 (zixA (j := 4) (by decide)) ?_
  refine w_topI (h.2.2.2.2 4) ?_
  refine w_cv5 (pc' := 1352) ⟨rfl, rfl⟩ (by decide) (zOl h.1.1 rfl) (Nat.le_of_ble_eq_true rfl) (Nat.le_of_ble_eq_true rfl) (f_X11_least h.1.1 h.1.2.1 h.1.2.2.1 h.1.2.2.2.1 h.1.2.2.2.2 (by omega) (by omega) (by omega) (by omega) (fun σ1 m1 => ?_))
  have hm := h.m m1
  refine w_aload_n (pc' := 1353) ⟨rfl, rfl⟩ rfl ?_
  refine w_aload_n (pc' := 1354) ⟨rfl, rfl⟩ rfl ?_
  refine w_iload_n (pc' := 1355) ⟨rfl, rfl⟩ rfl ?_
  refine w_ic (pc' := 1356) ⟨rfl, rfl⟩ ?_
  refine w_iaddZ (pc' := 1357) ⟨rfl, rfl⟩ ?_
  refine w_sald (pc' := 1358) ⟨rfl, rfl⟩ hm.2.2.1 (zixA (j := 1) (by decide)) ?_
  refine w_topI (hm.2.2.2 1) ?_
  refine w_aload_n (pc' := 1359) ⟨rfl, rfl⟩ rfl ?_
  refine w_iload_n (pc' := 1360) ⟨rfl, rfl⟩ rfl ?_
  refine w_ic (pc' := 1361) ⟨rfl, rfl⟩ ?_
  refine w_iaddZ (pc' := 1362) ⟨rfl, rfl⟩ ?_
  refine w_sald (pc' := 1363) ⟨rfl, rfl⟩ hm.2.2.1 (zixA (j := 2) (by decide)) ?_
  refine w_topI (hm.2.2.2 2) ?_
  refine w_aload_n (pc' := 1364) ⟨rfl, rfl⟩ rfl ?_
  refine w_iload_n (pc' := 1365) ⟨rfl, rfl⟩ rfl ?_
  refine w_ic (pc' := 1366) ⟨rfl, rfl⟩ ?_
  refine w_iaddZ (pc' := 1367) ⟨rfl, rfl⟩ ?_
  refine w_sald (pc' := 1368) ⟨rfl, rfl⟩ hm.2.2.1 (zixA (j := 3) (by decide)) ?_
  refine w_topI (hm.2.2.2 3) ?_
  refine w_aload_n (pc' := 1369) ⟨rfl, rfl⟩ rfl ?_
  refine w_iload_n (pc' := 1370) ⟨rfl, rfl⟩ rfl ?_
  refine w_ic (pc' := 1371) ⟨rfl, rfl⟩ ?_
  refine w_iaddZ (pc' := 1372) ⟨rfl, rfl⟩ ?_
  refine w_sald (pc' := 1373) ⟨rfl, rfl⟩ hm.2.2.1 (zixA (j := 4) (by decide)) ?_
  refine w_topI (hm.2.2.2 4) ?_
  refine w_cv5 (pc' := 1376) ⟨rfl, rfl⟩ (by decide) (zOl hm.1.1 rfl) (Nat.le_of_ble_eq_true rfl) (Nat.le_of_ble_eq_true rfl) (f_X12_least hm.1.1 hm.1.2.1 hm.1.2.2.1 (by omega) (by omega) (by omega) (by omega) (fun σ2 m2 => ?_))
  refine w_icT_eq (pc' := 1379) (pcT := 1539) ⟨rfl, rfl⟩ rfl (by decide) ?_
  refine w_at (ls2 := [(0, .ref zSCR), (3, .int (iZ 0))]) ?_ (law_fin (m2.1.trans hm.2.1) ((m2.2.1 _ _).trans hm.2.2.1))
  exact ⟨rfl, rfl, trivial⟩
set_option maxRecDepth 20000 in
theorem law_origins {x : Nat → Int} {σ : zSt} (h : zLw x σ) (hr : ∀ j, (-2147483648 ≤ x j ∧ x j ≤ 2147483647)) : zP zk_L_law 1381 [(0, .ref zSCR), (1, .ref 0), (2, .ref 164), (3, .int (iZ 0))] [] σ zQ1 := by
  have r1 := hr 1
  have r2 := hr 2
  have r3 := hr 3
  have r4 := hr 4
  have r5 := hr 5
  have r6 := hr 6
  refine w_aload_n (pc' := 1382) ⟨rfl, rfl⟩ rfl ?_
  refine w_aload_n (pc' := 1383) ⟨rfl, rfl⟩ rfl ?_
  refine w_iload_n (pc' := 1384) ⟨rfl, rfl⟩ rfl ?_
  refine w_ic (pc' := 1385) ⟨rfl, rfl⟩ ?_
  refine w_iaddZ (pc' := 1386) ⟨rfl, rfl⟩ ?_
  refine w_sald (pc' := 1387) ⟨rfl, rfl⟩ h.2.2.2.1 (zixA (j := 1) (by decide)) ?_
  refine w_topI (h.2.2.2.2 1) ?_
  refine w_aload_n (pc' := 1388) ⟨rfl, rfl⟩ rfl ?_
  refine w_iload_n (pc' := 1389) ⟨rfl, rfl⟩ rfl ?_
  refine w_ic (pc' := 1390) ⟨rfl, rfl⟩ ?_
  refine w_iaddZ (pc' := 1391) ⟨rfl, rfl⟩ ?_
  refine w_sald (pc' := 1392) ⟨rfl, rfl⟩ h.2.2.2.1 (zixA (j := 2) (by decide)) ?_
  refine w_topI (h.2.2.2.2 2) ?_
  refine w_cv3 (pc' := 1395) ⟨rfl, rfl⟩ (by decide) (zOl h.1.1 rfl) (Nat.le_of_ble_eq_true rfl) (Nat.le_of_ble_eq_true rfl) (f_X11_origins h.1.1 h.1.2.1 h.1.2.2.1 h.1.2.2.2.1 h.1.2.2.2.2 (by omega) (by omega) (fun σ1 m1 => ?_))
  have hm := h.m m1
  refine w_aload_n (pc' := 1396) ⟨rfl, rfl⟩ rfl ?_
  refine w_aload_n (pc' := 1397) ⟨rfl, rfl⟩ rfl ?_
  refine w_iload_n (pc' := 1398) ⟨rfl, rfl⟩ rfl ?_
  refine w_ic (pc' := 1399) ⟨rfl, rfl⟩ ?_
  refine w_iaddZ (pc' := 1400) ⟨rfl, rfl⟩ ?_
  refine w_sald (pc' := 1401) ⟨rfl, rfl⟩ hm.2.2.1 (zixA (j := 1) (by decide)) ?_
  refine w_topI (hm.2.2.2 1) ?_
  refine w_aload_n (pc' := 1402) ⟨rfl, rfl⟩ rfl ?_
  refine w_iload_n (pc' := 1403) ⟨rfl, rfl⟩ rfl ?_
  refine w_ic (pc' := 1404) ⟨rfl, rfl⟩ ?_
  refine w_iaddZ (pc' := 1405) ⟨rfl, rfl⟩ ?_
  refine w_sald (pc' := 1406) ⟨rfl, rfl⟩ hm.2.2.1 (zixA (j := 2) (by decide)) ?_
  refine w_topI (hm.2.2.2 2) ?_
  refine w_cv3 (pc' := 1409) ⟨rfl, rfl⟩ (by decide) (zOl hm.1.1 rfl) (Nat.le_of_ble_eq_true rfl) (Nat.le_of_ble_eq_true rfl) (f_X12_origins hm.1.1 hm.1.2.1 hm.1.2.2.1 (by omega) (by omega) (fun σ2 m2 => ?_))
  refine w_icT_eq (pc' := 1412) (pcT := 1539) ⟨rfl, rfl⟩ rfl (by decide) ?_
  refine w_at (ls2 := [(0, .ref zSCR), (3, .int (iZ 0))]) ?_ (law_fin (m2.1.trans hm.2.1) ((m2.2.1 _ _).trans hm.2.2.1))
  exact ⟨rfl, rfl, trivial⟩
set_option maxRecDepth 20000 in
theorem law_tells {x : Nat → Int} {σ : zSt} (h : zLw x σ) (hr : ∀ j, (-2147483648 ≤ x j ∧ x j ≤ 2147483647)) : zP zk_L_law 1414 [(0, .ref zSCR), (1, .ref 0), (2, .ref 164), (3, .int (iZ 0))] [] σ zQ1 := by
  have r1 := hr 1
  have r2 := hr 2
  have r3 := hr 3
  have r4 := hr 4
  have r5 := hr 5
  have r6 := hr 6
  refine w_aload_n (pc' := 1415) ⟨rfl, rfl⟩ rfl ?_
  refine w_aload_n (pc' := 1416) ⟨rfl, rfl⟩ rfl ?_
  refine w_iload_n (pc' := 1417) ⟨rfl, rfl⟩ rfl ?_
  refine w_ic (pc' := 1418) ⟨rfl, rfl⟩ ?_
  refine w_iaddZ (pc' := 1419) ⟨rfl, rfl⟩ ?_
  refine w_sald (pc' := 1420) ⟨rfl, rfl⟩ h.2.2.2.1 (zixA (j := 1) (by decide)) ?_
  refine w_topI (h.2.2.2.2 1) ?_
  refine w_aload_n (pc' := 1421) ⟨rfl, rfl⟩ rfl ?_
  refine w_iload_n (pc' := 1422) ⟨rfl, rfl⟩ rfl ?_
  refine w_ic (pc' := 1423) ⟨rfl, rfl⟩ ?_
  refine w_iaddZ (pc' := 1424) ⟨rfl, rfl⟩ ?_
  refine w_sald (pc' := 1425) ⟨rfl, rfl⟩ h.2.2.2.1 (zixA (j := 2) (by decide)) ?_
  refine w_topI (h.2.2.2.2 2) ?_
  refine w_cv3 (pc' := 1428) ⟨rfl, rfl⟩ (by decide) (zOl h.1.1 rfl) (Nat.le_of_ble_eq_true rfl) (Nat.le_of_ble_eq_true rfl) (f_X11_tells h.1.1 h.1.2.1 h.1.2.2.1 h.1.2.2.2.1 h.1.2.2.2.2 (by omega) (by omega) (fun σ1 m1 => ?_))
  have hm := h.m m1
  refine w_aload_n (pc' := 1429) ⟨rfl, rfl⟩ rfl ?_
  refine w_aload_n (pc' := 1430) ⟨rfl, rfl⟩ rfl ?_
  refine w_iload_n (pc' := 1431) ⟨rfl, rfl⟩ rfl ?_
  refine w_ic (pc' := 1432) ⟨rfl, rfl⟩ ?_
  refine w_iaddZ (pc' := 1433) ⟨rfl, rfl⟩ ?_
  refine w_sald (pc' := 1434) ⟨rfl, rfl⟩ hm.2.2.1 (zixA (j := 1) (by decide)) ?_
  refine w_topI (hm.2.2.2 1) ?_
  refine w_aload_n (pc' := 1435) ⟨rfl, rfl⟩ rfl ?_
  refine w_iload_n (pc' := 1436) ⟨rfl, rfl⟩ rfl ?_
  refine w_ic (pc' := 1437) ⟨rfl, rfl⟩ ?_
  refine w_iaddZ (pc' := 1438) ⟨rfl, rfl⟩ ?_
  refine w_sald (pc' := 1439) ⟨rfl, rfl⟩ hm.2.2.1 (zixA (j := 2) (by decide)) ?_
  refine w_topI (hm.2.2.2 2) ?_
  refine w_cv3 (pc' := 1442) ⟨rfl, rfl⟩ (by decide) (zOl hm.1.1 rfl) (Nat.le_of_ble_eq_true rfl) (Nat.le_of_ble_eq_true rfl) (f_X12_tells hm.1.1 hm.1.2.1 hm.1.2.2.1 (by omega) (by omega) (fun σ2 m2 => ?_))
  refine w_icT_eq (pc' := 1445) (pcT := 1539) ⟨rfl, rfl⟩ rfl (by decide) ?_
  refine w_at (ls2 := [(0, .ref zSCR), (3, .int (iZ 0))]) ?_ (law_fin (m2.1.trans hm.2.1) ((m2.2.1 _ _).trans hm.2.2.1))
  exact ⟨rfl, rfl, trivial⟩
set_option maxRecDepth 20000 in
theorem law_idle {x : Nat → Int} {σ : zSt} (h : zLw x σ) (hr : ∀ j, (-2147483648 ≤ x j ∧ x j ≤ 2147483647)) : zP zk_L_law 1447 [(0, .ref zSCR), (1, .ref 0), (2, .ref 164), (3, .int (iZ 0))] [] σ zQ1 := by
  have r1 := hr 1
  have r2 := hr 2
  have r3 := hr 3
  have r4 := hr 4
  have r5 := hr 5
  have r6 := hr 6
  refine w_aload_n (pc' := 1448) ⟨rfl, rfl⟩ rfl ?_
  refine w_aload_n (pc' := 1449) ⟨rfl, rfl⟩ rfl ?_
  refine w_iload_n (pc' := 1450) ⟨rfl, rfl⟩ rfl ?_
  refine w_ic (pc' := 1451) ⟨rfl, rfl⟩ ?_
  refine w_iaddZ (pc' := 1452) ⟨rfl, rfl⟩ ?_
  refine w_sald (pc' := 1453) ⟨rfl, rfl⟩ h.2.2.2.1 (zixA (j := 1) (by decide)) ?_
  refine w_topI (h.2.2.2.2 1) ?_
  refine w_aload_n (pc' := 1454) ⟨rfl, rfl⟩ rfl ?_
  refine w_iload_n (pc' := 1455) ⟨rfl, rfl⟩ rfl ?_
  refine w_ic (pc' := 1456) ⟨rfl, rfl⟩ ?_
  refine w_iaddZ (pc' := 1457) ⟨rfl, rfl⟩ ?_
  refine w_sald (pc' := 1458) ⟨rfl, rfl⟩ h.2.2.2.1 (zixA (j := 2) (by decide)) ?_
  refine w_topI (h.2.2.2.2 2) ?_
  refine w_cv3 (pc' := 1461) ⟨rfl, rfl⟩ (by decide) (zOl h.1.1 rfl) (Nat.le_of_ble_eq_true rfl) (Nat.le_of_ble_eq_true rfl) (f_X11_idle h.1.1 h.1.2.1 h.1.2.2.1 h.1.2.2.2.1 h.1.2.2.2.2 (by omega) (by omega) (fun σ1 m1 => ?_))
  have hm := h.m m1
  refine w_aload_n (pc' := 1462) ⟨rfl, rfl⟩ rfl ?_
  refine w_aload_n (pc' := 1463) ⟨rfl, rfl⟩ rfl ?_
  refine w_iload_n (pc' := 1464) ⟨rfl, rfl⟩ rfl ?_
  refine w_ic (pc' := 1465) ⟨rfl, rfl⟩ ?_
  refine w_iaddZ (pc' := 1466) ⟨rfl, rfl⟩ ?_
  refine w_sald (pc' := 1467) ⟨rfl, rfl⟩ hm.2.2.1 (zixA (j := 1) (by decide)) ?_
  refine w_topI (hm.2.2.2 1) ?_
  refine w_aload_n (pc' := 1468) ⟨rfl, rfl⟩ rfl ?_
  refine w_iload_n (pc' := 1469) ⟨rfl, rfl⟩ rfl ?_
  refine w_ic (pc' := 1470) ⟨rfl, rfl⟩ ?_
  refine w_iaddZ (pc' := 1471) ⟨rfl, rfl⟩ ?_
  refine w_sald (pc' := 1472) ⟨rfl, rfl⟩ hm.2.2.1 (zixA (j := 2) (by decide)) ?_
  refine w_topI (hm.2.2.2 2) ?_
  refine w_cv3 (pc' := 1475) ⟨rfl, rfl⟩ (by decide) (zOl hm.1.1 rfl) (Nat.le_of_ble_eq_true rfl) (Nat.le_of_ble_eq_true rfl) (f_X12_idle hm.1.1 hm.1.2.1 hm.1.2.2.1 (by omega) (by omega) (fun σ2 m2 => ?_))
  refine w_icT_eq (pc' := 1478) (pcT := 1539) ⟨rfl, rfl⟩ rfl (by decide) ?_
  refine w_at (ls2 := [(0, .ref zSCR), (3, .int (iZ 0))]) ?_ (law_fin (m2.1.trans hm.2.1) ((m2.2.1 _ _).trans hm.2.2.1))
  exact ⟨rfl, rfl, trivial⟩
set_option maxRecDepth 20000 in
theorem law_undo {x : Nat → Int} {σ : zSt} (h : zLw x σ) (hr : ∀ j, (-2147483648 ≤ x j ∧ x j ≤ 2147483647)) : zP zk_L_law 1480 [(0, .ref zSCR), (1, .ref 0), (2, .ref 164), (3, .int (iZ 0))] [] σ zQ1 := by
  have r1 := hr 1
  have r2 := hr 2
  have r3 := hr 3
  have r4 := hr 4
  have r5 := hr 5
  have r6 := hr 6
  refine w_aload_n (pc' := 1481) ⟨rfl, rfl⟩ rfl ?_
  refine w_cv1 (pc' := 1484) ⟨rfl, rfl⟩ (by decide) (zOl h.1.1 rfl) (Nat.le_of_ble_eq_true rfl) (Nat.le_of_ble_eq_true rfl) (f_X11_undo h.1.1 h.1.2.1 h.1.2.2.1 h.1.2.2.2.1 h.1.2.2.2.2 (fun σ1 m1 => ?_))
  have hm := h.m m1
  refine w_aload_n (pc' := 1485) ⟨rfl, rfl⟩ rfl ?_
  refine w_cv1 (pc' := 1488) ⟨rfl, rfl⟩ (by decide) (zOl hm.1.1 rfl) (Nat.le_of_ble_eq_true rfl) (Nat.le_of_ble_eq_true rfl) (f_X12_undo hm.1.1 hm.1.2.1 hm.1.2.2.1 (fun σ2 m2 => ?_))
  refine w_icT_eq (pc' := 1491) (pcT := 1539) ⟨rfl, rfl⟩ rfl (by decide) ?_
  refine w_at (ls2 := [(0, .ref zSCR), (3, .int (iZ 0))]) ?_ (law_fin (m2.1.trans hm.2.1) ((m2.2.1 _ _).trans hm.2.2.1))
  exact ⟨rfl, rfl, trivial⟩
set_option maxRecDepth 20000 in
theorem law_seed {x : Nat → Int} {σ : zSt} (h : zLw x σ) (hr : ∀ j, (-2147483648 ≤ x j ∧ x j ≤ 2147483647)) : zP zk_L_law 1493 [(0, .ref zSCR), (1, .ref 0), (2, .ref 164), (3, .int (iZ 0))] [] σ zQ1 := by
  have r1 := hr 1
  have r2 := hr 2
  have r3 := hr 3
  have r4 := hr 4
  have r5 := hr 5
  have r6 := hr 6
  refine w_aload_n (pc' := 1494) ⟨rfl, rfl⟩ rfl ?_
  refine w_aload_n (pc' := 1495) ⟨rfl, rfl⟩ rfl ?_
  refine w_iload_n (pc' := 1496) ⟨rfl, rfl⟩ rfl ?_
  refine w_ic (pc' := 1497) ⟨rfl, rfl⟩ ?_
  refine w_iaddZ (pc' := 1498) ⟨rfl, rfl⟩ ?_
  refine w_sald (pc' := 1499) ⟨rfl, rfl⟩ h.2.2.2.1 (zixA (j := 1) (by decide)) ?_
  refine w_topI (h.2.2.2.2 1) ?_
  refine w_cv2 (pc' := 1502) ⟨rfl, rfl⟩ (by decide) (zOl h.1.1 rfl) (Nat.le_of_ble_eq_true rfl) (Nat.le_of_ble_eq_true rfl) (f_X11_seed h.1.1 h.1.2.1 h.1.2.2.1 h.1.2.2.2.1 h.1.2.2.2.2 (by omega) (fun σ1 m1 => ?_))
  have hm := h.m m1
  refine w_aload_n (pc' := 1503) ⟨rfl, rfl⟩ rfl ?_
  refine w_aload_n (pc' := 1504) ⟨rfl, rfl⟩ rfl ?_
  refine w_iload_n (pc' := 1505) ⟨rfl, rfl⟩ rfl ?_
  refine w_ic (pc' := 1506) ⟨rfl, rfl⟩ ?_
  refine w_iaddZ (pc' := 1507) ⟨rfl, rfl⟩ ?_
  refine w_sald (pc' := 1508) ⟨rfl, rfl⟩ hm.2.2.1 (zixA (j := 1) (by decide)) ?_
  refine w_topI (hm.2.2.2 1) ?_
  refine w_cv2 (pc' := 1511) ⟨rfl, rfl⟩ (by decide) (zOl hm.1.1 rfl) (Nat.le_of_ble_eq_true rfl) (Nat.le_of_ble_eq_true rfl) (f_X12_seed hm.1.1 hm.1.2.1 hm.1.2.2.1 (by omega) (fun σ2 m2 => ?_))
  refine w_icI_eq (pc' := 1514) (pcT := 1539) ⟨rfl, rfl⟩ rfl (fun h9 => ?_) (fun h9 => ?_)
  · refine w_at (ls2 := [(0, .ref zSCR), (3, .int (iZ 0))]) ?_ (law_fin (m2.1.trans hm.2.1) ((m2.2.1 _ _).trans hm.2.2.1))
    exact ⟨rfl, rfl, trivial⟩
  · refine w_ic (pc' := 1515) ⟨rfl, rfl⟩ ?_
    refine w_ireturn (pc' := 1516) ⟨rfl, rfl⟩ (by decide) ?_
    exact absurd rfl h9
set_option maxRecDepth 20000 in
theorem law_status {x : Nat → Int} {σ : zSt} (h : zLw x σ) (hr : ∀ j, (-2147483648 ≤ x j ∧ x j ≤ 2147483647)) : zP zk_L_law 1516 [(0, .ref zSCR), (1, .ref 0), (2, .ref 164), (3, .int (iZ 0))] [] σ zQ1 := by
  have r1 := hr 1
  have r2 := hr 2
  have r3 := hr 3
  have r4 := hr 4
  have r5 := hr 5
  have r6 := hr 6
  refine w_aload_n (pc' := 1517) ⟨rfl, rfl⟩ rfl ?_
  refine w_aload_n (pc' := 1518) ⟨rfl, rfl⟩ rfl ?_
  refine w_iload_n (pc' := 1519) ⟨rfl, rfl⟩ rfl ?_
  refine w_ic (pc' := 1520) ⟨rfl, rfl⟩ ?_
  refine w_iaddZ (pc' := 1521) ⟨rfl, rfl⟩ ?_
  refine w_sald (pc' := 1522) ⟨rfl, rfl⟩ h.2.2.2.1 (zixA (j := 1) (by decide)) ?_
  refine w_topI (h.2.2.2.2 1) ?_
  refine w_cv2 (pc' := 1525) ⟨rfl, rfl⟩ (by decide) (zOl h.1.1 rfl) (Nat.le_of_ble_eq_true rfl) (Nat.le_of_ble_eq_true rfl) (f_X11_status h.1.1 h.1.2.1 h.1.2.2.1 h.1.2.2.2.1 h.1.2.2.2.2 (by omega) (fun σ1 m1 => ?_))
  have hm := h.m m1
  refine w_aload_n (pc' := 1526) ⟨rfl, rfl⟩ rfl ?_
  refine w_aload_n (pc' := 1527) ⟨rfl, rfl⟩ rfl ?_
  refine w_iload_n (pc' := 1528) ⟨rfl, rfl⟩ rfl ?_
  refine w_ic (pc' := 1529) ⟨rfl, rfl⟩ ?_
  refine w_iaddZ (pc' := 1530) ⟨rfl, rfl⟩ ?_
  refine w_sald (pc' := 1531) ⟨rfl, rfl⟩ hm.2.2.1 (zixA (j := 1) (by decide)) ?_
  refine w_topI (hm.2.2.2 1) ?_
  refine w_cv2 (pc' := 1534) ⟨rfl, rfl⟩ (by decide) (zOl hm.1.1 rfl) (Nat.le_of_ble_eq_true rfl) (Nat.le_of_ble_eq_true rfl) (f_X12_status hm.1.1 hm.1.2.1 hm.1.2.2.1 (by omega) (fun σ2 m2 => ?_))
  refine w_icI_eq (pc' := 1537) (pcT := 1539) ⟨rfl, rfl⟩ rfl (fun h9 => ?_) (fun h9 => ?_)
  · refine w_at (ls2 := [(0, .ref zSCR), (3, .int (iZ 0))]) ?_ (law_fin (m2.1.trans hm.2.1) ((m2.2.1 _ _).trans hm.2.2.1))
    exact ⟨rfl, rfl, trivial⟩
  · refine w_ic (pc' := 1538) ⟨rfl, rfl⟩ ?_
    refine w_ireturn (pc' := 1539) ⟨rfl, rfl⟩ (by decide) ?_
    exact absurd rfl h9
