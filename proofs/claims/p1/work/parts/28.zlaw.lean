/-! THE LAW, from its first instruction to its end -/
theorem zR_ovS {L : Nat} {xs : Nat → Int32} {σ : zSt} : zR (zov L xs σ) zSCR 0 = some L := by
  show (if zSCR = zSCR then (fun k : Nat => if k = 0 then some L else none) else σ.2.2.1 zSCR) 0 = some L
  rw [if_pos rfl]; rfl
theorem zI_ovS {L : Nat} {xs : Nat → Int32} {σ : zSt} : zI (zov L xs σ) zSCR = xs := by
  funext j
  show (if zSCR = zSCR then xs else σ.1 zSCR) j = xs j
  rw [if_pos rfl]
set_option maxRecDepth 20000 in
theorem law_boot {L : Nat} {xs : Nat → Int32} {Q : zSt → Option Value → Prop} (k : zP zk_L_law 18 [(0, .ref zSCR), (1, .ref 0), (2, .ref 164), (3, .int (iZ 0))] [] (zov L xs zS2) Q) : zP zk_L_law 0 [(0, .ref zSCR)] [] (zov L xs zst1) Q := by
  have hz : zN zS1 = 164 := zboot6
  have ex : zrunS 4000 (zcode 124) 0 (lv_args 0 [.ref 0]) [] (znew zst1) = some (zS1, none) := zbX_eq
  have ey : zrunS 3000 (zcode 171) 0 (lv_args 0 [.ref 164]) [] (znew zS1) = some (zS2, none) := zbY_eq
  have hc : zrcv 171 [.ref 164] (znew zS1) = true := by
    show (decide (164 < zN (znew zS1)) && ((zLY 164).1 == zCI 171)) = true
    rw [zN_new, hz]
    decide +kernel
  refine w_new (pc' := 3) ⟨rfl, rfl⟩ ⟨rfl, by decide⟩ ?_
  rw [zov_new (show zN zst1 ≠ zSCR by decide)]
  refine w_dupR (pc' := 4) ⟨rfl, rfl⟩ ?_
  refine w_callS (pc' := 7) (y := 124) (a := [.ref 0]) (r := [.ref 0]) ⟨rfl, rfl⟩ rfl rfl (by decide +kernel) (by decide) ex ?_
  refine w_astore_n (pc' := 8) ⟨rfl, rfl⟩ rfl ?_
  refine w_new (pc' := 11) ⟨rfl, rfl⟩ ⟨by rw [zN_ov, hz]; rfl, by decide⟩ ?_
  rw [zov_new (show zN zS1 ≠ zSCR by rw [hz]; decide), zN_ov, hz]
  refine w_dupR (pc' := 12) ⟨rfl, rfl⟩ ?_
  refine w_callS (pc' := 15) (y := 171) (a := [.ref 164]) (r := [.ref 164]) ⟨rfl, rfl⟩ rfl rfl ⟨by decide, Or.inr ⟨by decide, fun _ => hc⟩⟩ (by decide) ey ?_
  refine w_astore_n (pc' := 16) ⟨rfl, rfl⟩ rfl ?_
  refine w_ic (pc' := 17) ⟨rfl, rfl⟩ ?_
  refine w_istore_n (pc' := 18) ⟨rfl, rfl⟩ rfl ?_
  refine w_at (ls2 := [(0, .ref zSCR), (1, .ref 0), (2, .ref 164), (3, .int (iZ 0))]) ?_ k
  exact ⟨rfl, rfl, rfl, rfl, trivial⟩
set_option maxRecDepth 20000 in
theorem law_small {σ : zSt} {L : Nat} (hL : L < 7) (hN : zN σ = 181) (hS : zR σ zSCR 0 = some L) : zP zk_L_law 18 [(0, .ref zSCR), (1, .ref 0), (2, .ref 164), (3, .int (iZ 0))] [] σ zQ1 := by
  refine w_iload_n (pc' := 19) ⟨rfl, rfl⟩ rfl ?_
  refine w_aload_n (pc' := 20) ⟨rfl, rfl⟩ rfl ?_
  refine w_slenZ (pc' := 21) ⟨rfl, rfl⟩ hS ?_
  refine w_bi (pc' := 23) ⟨rfl, rfl⟩ (by decide) ?_
  refine w_isubZ (pc' := 24) ⟨rfl, rfl⟩ ?_
  refine w_icT_gt (pc' := 27) (pcT := 1545) ⟨rfl, rfl⟩ rfl (by omega) ?_
  refine w_ic (pc' := 1546) ⟨rfl, rfl⟩ ?_
  refine w_ireturn (pc' := 1547) ⟨rfl, rfl⟩ (Or.inr ⟨rfl, Or.inr rfl⟩) ?_
  exact ⟨rfl, by omega⟩
set_option maxRecDepth 20000 in
theorem law_go {x : Nat → Int} {σ : zSt} (h : zLw x σ) (hr : ∀ j, (-2147483648 ≤ x j ∧ x j ≤ 2147483647)) : zP zk_L_law 18 [(0, .ref zSCR), (1, .ref 0), (2, .ref 164), (3, .int (iZ 0))] [] σ zQ1 := by
  refine w_iload_n (pc' := 19) ⟨rfl, rfl⟩ rfl ?_
  refine w_aload_n (pc' := 20) ⟨rfl, rfl⟩ rfl ?_
  refine w_slenZ (pc' := 21) ⟨rfl, rfl⟩ h.2.2.2.1 ?_
  refine w_bi (pc' := 23) ⟨rfl, rfl⟩ (by decide) ?_
  refine w_isubZ (pc' := 24) ⟨rfl, rfl⟩ ?_
  refine w_icF_gt (pc' := 27) ⟨rfl, rfl⟩ (by decide) ?_
  refine w_aload_n (pc' := 28) ⟨rfl, rfl⟩ rfl ?_
  refine w_iload_n (pc' := 29) ⟨rfl, rfl⟩ rfl ?_
  refine w_sald (pc' := 30) ⟨rfl, rfl⟩ h.2.2.2.1 (zixA (j := 0) (by decide)) ?_
  refine w_bi (pc' := 32) ⟨rfl, rfl⟩ (by decide) ?_
  refine w_iand (pc' := 33) ⟨rfl, rfl⟩ ?_
  generalize zI σ zSCR 0 &&& iZ 63 = X
  rcases Classical.em (X.toInt < 0 ∨ 35 < X.toInt) with hX | hX
  · refine w_tsOut (pc' := 192) (pcT := 1539) ⟨rfl, rfl⟩ rfl hX ?_
    refine w_at (ls2 := [(0, .ref zSCR), (3, .int (iZ 0))]) ?_ (law_fin h.2.2.1 h.2.2.2.1)
    exact ⟨rfl, rfl, trivial⟩
  · rcases (show X.toInt = 0 ∨ X.toInt = 1 ∨ X.toInt = 2 ∨ X.toInt = 3 ∨ X.toInt = 4 ∨ X.toInt = 5 ∨ X.toInt = 6 ∨ X.toInt = 7 ∨ X.toInt = 8 ∨ X.toInt = 9 ∨ X.toInt = 10 ∨ X.toInt = 11 ∨ X.toInt = 12 ∨ X.toInt = 13 ∨ X.toInt = 14 ∨ X.toInt = 15 ∨ X.toInt = 16 ∨ X.toInt = 17 ∨ X.toInt = 18 ∨ X.toInt = 19 ∨ X.toInt = 20 ∨ X.toInt = 21 ∨ X.toInt = 22 ∨ X.toInt = 23 ∨ X.toInt = 24 ∨ X.toInt = 25 ∨ X.toInt = 26 ∨ X.toInt = 27 ∨ X.toInt = 28 ∨ X.toInt = 29 ∨ X.toInt = 30 ∨ X.toInt = 31 ∨ X.toInt = 32 ∨ X.toInt = 33 ∨ X.toInt = 34 ∨ X.toInt = 35 by omega) with hj | hj | hj | hj | hj | hj | hj | hj | hj | hj | hj | hj | hj | hj | hj | hj | hj | hj | hj | hj | hj | hj | hj | hj | hj | hj | hj | hj | hj | hj | hj | hj | hj | hj | hj | hj
    · exact w_tsIn (pc' := 192) (pcT := 192) 0 ⟨rfl, rfl⟩ (by rw [hj]; rfl) (by decide) rfl rfl (law_feed h hr)
    · exact w_tsIn (pc' := 192) (pcT := 255) 1 ⟨rfl, rfl⟩ (by rw [hj]; rfl) (by decide) rfl rfl (law_end h hr)
    · exact w_tsIn (pc' := 192) (pcT := 278) 2 ⟨rfl, rfl⟩ (by rw [hj]; rfl) (by decide) rfl rfl (law_book h hr)
    · exact w_tsIn (pc' := 192) (pcT := 291) 3 ⟨rfl, rfl⟩ (by rw [hj]; rfl) (by decide) rfl rfl (law_fault h hr)
    · exact w_tsIn (pc' := 192) (pcT := 314) 4 ⟨rfl, rfl⟩ (by rw [hj]; rfl) (by decide) rfl rfl (law_has h hr)
    · exact w_tsIn (pc' := 192) (pcT := 337) 5 ⟨rfl, rfl⟩ (by rw [hj]; rfl) (by decide) rfl rfl (law_letter h hr)
    · exact w_tsIn (pc' := 192) (pcT := 380) 6 ⟨rfl, rfl⟩ (by rw [hj]; rfl) (by decide) rfl rfl (law_named h hr)
    · exact w_tsIn (pc' := 192) (pcT := 403) 7 ⟨rfl, rfl⟩ (by rw [hj]; rfl) (by decide) rfl rfl (law_field h hr)
    · exact w_tsIn (pc' := 192) (pcT := 446) 8 ⟨rfl, rfl⟩ (by rw [hj]; rfl) (by decide) rfl rfl (law_crossing h hr)
    · exact w_tsIn (pc' := 192) (pcT := 479) 9 ⟨rfl, rfl⟩ (by rw [hj]; rfl) (by decide) rfl rfl (law_rule h hr)
    · exact w_tsIn (pc' := 192) (pcT := 522) 10 ⟨rfl, rfl⟩ (by rw [hj]; rfl) (by decide) rfl rfl (law_widens h hr)
    · exact w_tsIn (pc' := 192) (pcT := 555) 11 ⟨rfl, rfl⟩ (by rw [hj]; rfl) (by decide) rfl rfl (law_length h hr)
    · exact w_tsIn (pc' := 192) (pcT := 588) 12 ⟨rfl, rfl⟩ (by rw [hj]; rfl) (by decide) rfl rfl (law_read h hr)
    · exact w_tsIn (pc' := 192) (pcT := 642) 13 ⟨rfl, rfl⟩ (by rw [hj]; rfl) (by decide) rfl rfl (law_get h hr)
    · exact w_tsIn (pc' := 192) (pcT := 696) 14 ⟨rfl, rfl⟩ (by rw [hj]; rfl) (by decide) rfl rfl (law_write h hr)
    · exact w_tsIn (pc' := 192) (pcT := 791) 15 ⟨rfl, rfl⟩ (by rw [hj]; rfl) (by decide) rfl rfl (law_put h hr)
    · exact w_tsIn (pc' := 192) (pcT := 886) 16 ⟨rfl, rfl⟩ (by rw [hj]; rfl) (by decide) rfl rfl (law_why h hr)
    · exact w_tsIn (pc' := 192) (pcT := 899) 17 ⟨rfl, rfl⟩ (by rw [hj]; rfl) (by decide) rfl rfl (law_cell h hr)
    · exact w_tsIn (pc' := 192) (pcT := 953) 18 ⟨rfl, rfl⟩ (by rw [hj]; rfl) (by decide) rfl rfl (law_unlike h hr)
    · exact w_tsIn (pc' := 192) (pcT := 997) 19 ⟨rfl, rfl⟩ (by rw [hj]; rfl) (by decide) rfl rfl (law_make h hr)
    · exact w_tsIn (pc' := 192) (pcT := 1020) 20 ⟨rfl, rfl⟩ (by rw [hj]; rfl) (by decide) rfl rfl (law_copy h hr)
    · exact w_tsIn (pc' := 192) (pcT := 1053) 21 ⟨rfl, rfl⟩ (by rw [hj]; rfl) (by decide) rfl rfl (law_drop h hr)
    · exact w_tsIn (pc' := 192) (pcT := 1086) 22 ⟨rfl, rfl⟩ (by rw [hj]; rfl) (by decide) rfl rfl (law_chance h hr)
    · exact w_tsIn (pc' := 192) (pcT := 1109) 23 ⟨rfl, rfl⟩ (by rw [hj]; rfl) (by decide) rfl rfl (law_cross h hr)
    · exact w_tsIn (pc' := 192) (pcT := 1142) 24 ⟨rfl, rfl⟩ (by rw [hj]; rfl) (by decide) rfl rfl (law_account h hr)
    · exact w_tsIn (pc' := 192) (pcT := 1165) 25 ⟨rfl, rfl⟩ (by rw [hj]; rfl) (by decide) rfl rfl (law_would h hr)
    · exact w_tsIn (pc' := 192) (pcT := 1208) 26 ⟨rfl, rfl⟩ (by rw [hj]; rfl) (by decide) rfl rfl (law_round h hr)
    · exact w_tsIn (pc' := 192) (pcT := 1252) 27 ⟨rfl, rfl⟩ (by rw [hj]; rfl) (by decide) rfl rfl (law_proved h hr)
    · exact w_tsIn (pc' := 192) (pcT := 1285) 28 ⟨rfl, rfl⟩ (by rw [hj]; rfl) (by decide) rfl rfl (law_way h hr)
    · exact w_tsIn (pc' := 192) (pcT := 1328) 29 ⟨rfl, rfl⟩ (by rw [hj]; rfl) (by decide) rfl rfl (law_least h hr)
    · exact w_tsIn (pc' := 192) (pcT := 1381) 30 ⟨rfl, rfl⟩ (by rw [hj]; rfl) (by decide) rfl rfl (law_origins h hr)
    · exact w_tsIn (pc' := 192) (pcT := 1414) 31 ⟨rfl, rfl⟩ (by rw [hj]; rfl) (by decide) rfl rfl (law_tells h hr)
    · exact w_tsIn (pc' := 192) (pcT := 1447) 32 ⟨rfl, rfl⟩ (by rw [hj]; rfl) (by decide) rfl rfl (law_idle h hr)
    · exact w_tsIn (pc' := 192) (pcT := 1480) 33 ⟨rfl, rfl⟩ (by rw [hj]; rfl) (by decide) rfl rfl (law_undo h hr)
    · exact w_tsIn (pc' := 192) (pcT := 1493) 34 ⟨rfl, rfl⟩ (by rw [hj]; rfl) (by decide) rfl rfl (law_seed h hr)
    · exact w_tsIn (pc' := 192) (pcT := 1516) 35 ⟨rfl, rfl⟩ (by rw [hj]; rfl) (by decide) rfl rfl (law_status h hr)
theorem zlaw : zLawP := fun L xs hL => by
  have hP : zP zk_L_law 0 [(0, .ref zSCR)] [] (zst0 L xs) zQ1 := by
    rw [zov_1]
    refine law_boot ?_
    rcases Nat.lt_or_ge L 7 with h | h
    · exact law_small h zfresh.2.2 zR_ovS
    · obtain rfl : L = 7 := by omega
      exact law_go (x := fun j => (xs j).toInt) ⟨zfresh.1, zfresh.2.1, zfresh.2.2, zR_ovS, fun j => (congrFun zI_ovS j).trans (iZ_of _)⟩ (fun j => iZ_rng _)
  obtain ⟨f, σ', r, h1, h2, h3⟩ := hP _ zref.rfl'
  subst h2
  exact ⟨f, σ', h1, h3⟩
