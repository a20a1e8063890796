/-! WHAT IS READ AND WRITTEN -/
section ZMM
variable {p : Program} {l : Launch} {e : Env} {R : Room} {s : State} {m : MethodId} {args : Array Value} {below : List Frame} {meth : Method} {c : Code} {H : Heap} {locs : List Loc} {cells slots : Nat} {Q : State → Prop}
variable {cc : ByteArray} {pc : Nat} {lsA : Array Slot} {D : va_G} {cy : Nat → ClassId} {B sc : Nat} {tx : Nat → Nat} {n : Nat} {σ σ' : zSt}
theorem zscr_ad : zad B sc tx zSCR = sc := by unfold zad; rw [if_pos rfl]
set_option maxHeartbeats 4000000 in
theorem zmem_ok (hx : p.tables.exec = Jvm.exec) (hb : c.code = cc) (hown : s.vm.findClass (zOw (zMI n).2.2.2.2.1) = some m.cls) (hts : ∀ w ∈ zWS, w.before args s = true) (hi0 : (zMI n).1.name = "<init>" → meth.name = "<init>") (hG : zGs D cy s)
    (hX : va_X sc ((zR σ zSCR 0).getD 0) (zI σ zSCR) s s.heap) (hsc : sc < B) (hBs : B ≤ s.heap.size)
    {i : Instr} {t len : Nat} {st st' : List Value} (hd : decode cc pc = .ok (zreal i t, len)) (hl : zlenOK i len = true) (hk : zlnk n i t = true) (h : zmem i st σ = some (st', σ')) (hP : va_P D vwCl (zW (zad B sc tx) cy σ) H) (hS : va_S (fun q => B ≤ q) s.heap H locs) (hN : zN σ ≤ 1000000)
    (k : ∀ H' locs', va_P D vwCl (zW (zad B sc tx) cy σ') H' → va_S (fun q => B ≤ q) s.heap H' locs' → W p l e R s m args below meth c H' locs' cells slots Q (F0 m (pc + len) lsA (st'.map (zv (zad B sc tx))))) : W p l e R s m args below meth c H locs cells slots Q (F0 m pc lsA (st.map (zv (zad B sc tx)))) := by
  unfold zmem at h
  split at h
  · have hl : 3 = len := eq_of_beq hl
    subst hl
    split at h
    · split at h
      · rename_i x _ o r hc
        cases h
        obtain ⟨ho, hc⟩ := hc
        simp only [zlnk, Bool.and_eq_true, decide_eq_true_eq] at hk
        obtain ⟨hm, hf⟩ := hk
        obtain ⟨q, hq1, hlt, hsrt, hFI⟩ := zfok_inv hf
        obtain ⟨hC1, hC2, hC3, hC4⟩ := zCl_all _ _ hq1
        have hle : (zLY o).1 ≤ 10 := by rw [hc]; exact zvw_lt hq1
        obtain ⟨q', hq2, hnum⟩ := zLY_obj hle
        rw [hc, hq1] at hq2
        cases hq2
        have hlink := hts _ (zwF_in hm)
        unfold zwF at hlink
        simp only [hFI] at hlink
        have he : (zW (zad B sc tx) cy σ)[o]? = some (zad B sc tx o, .inr (x / 256, zfs (zad B sc tx) σ o (x / 256) q.2.2)) := by
          rw [zW_at _ _ _ ho, zel_o hle, hc, hnum]
        refine va_get hx hb hts hC1 hown hG.1 hP o he hq1 (x / 4 % 64) hlt hlink (fun _ h => h) (zfs_at hlt) hd ?_
        have k := k H locs hP hS
        simp only [List.map_cons, zget_v] at k
        rw [hsrt] at k
        exact k
      · cases h
    · cases h
  · have hl : 3 = len := eq_of_beq hl
    subst hl
    split at h
    · split at h
      · rename_i x _ v o r hc
        obtain ⟨ho, hc⟩ := hc
        split at h
        · split at h
          · rename_i hz
            cases h
            refine zput_ok (σ' := zwI σ o (x / 4 % 64) _) (v := .int _) hx hb hown hts hi0 hG hd hk hP hS hN ho hc ?_ ?_ ?_ rfl zel_wI k
            · intro ty hty
              rcases hz with hz | ⟨hz, hz2⟩
              · rw [hz] at hty
                cases ty <;> first | (cases hty; done) | exact ⟨rfl, rfl⟩
              · rw [hz] at hty
                cases ty <;> first | (cases hty; done) | skip
                rcases hz2 with rfl | rfl <;> first | exact ⟨(by decide : narrow .boolean (.int 0) = .int 0), (by decide : fits .boolean (.int 0) = true)⟩ | exact ⟨(by decide : narrow .boolean (.int 1) = .int 1), (by decide : fits .boolean (.int 1) = true)⟩
            · unfold zfv
              rw [zI_w]
              rcases hz with hz | ⟨hz, -⟩ <;> (rw [hz]; simp [va_up, zv])
            · intro j hj tt
              unfold zfv
              rw [zI_w]
              simp only [va_up, hj, if_false]
              rfl
          · cases h
        · split at h
          · rename_i hz
            cases h
            refine zput_ok (σ' := zwL σ o (x / 4 % 64) _) (v := .long _) hx hb hown hts hi0 hG hd hk hP hS hN ho hc ?_ ?_ ?_ rfl zel_wL k
            · intro ty hty
              rw [hz] at hty
              cases ty <;> first | (cases hty; done) | exact ⟨rfl, rfl⟩
            · unfold zfv
              rw [zL_w, hz]
              simp [va_up, zv]
            · intro j hj tt
              unfold zfv
              rw [zL_w]
              simp only [va_up, hj, if_false]
              rfl
          · cases h
        · split at h
          · rename_i hz
            cases h
            refine zput_ok (σ' := zwR σ o (x / 4 % 64) (some _)) (v := .ref _) hx hb hown hts hi0 hG hd hk hP hS hN ho hc ?_ ?_ ?_ rfl zel_wR k
            · intro ty hty
              rw [hz] at hty
              cases ty <;> first | (cases hty; done) | exact ⟨rfl, rfl⟩
            · unfold zfv
              rw [zR_w, hz]
              simp [va_up, zv, va_rf]
            · intro j hj tt
              unfold zfv
              rw [zR_w]
              simp only [va_up, hj, if_false]
              rfl
          · cases h
        · split at h
          · rename_i hz
            cases h
            refine zput_ok (σ' := zwR σ o (x / 4 % 64) none) (v := .null) hx hb hown hts hi0 hG hd hk hP hS hN ho hc ?_ ?_ ?_ rfl zel_wR k
            · intro ty hty
              rw [hz] at hty
              cases ty <;> first | (cases hty; done) | exact ⟨rfl, rfl⟩
            · unfold zfv
              rw [zR_w, hz]
              simp [va_up, zv, va_rf]
            · intro j hj tt
              unfold zfv
              rw [zR_w]
              simp only [va_up, hj, if_false]
              rfl
          · cases h
        · cases h
      · cases h
    · cases h
  · have hl : 1 = len := eq_of_beq hl
    subst hl
    split at h
    · split at h
      · rename_i j a r hsc2
        split at h
        · rename_i hin
          cases h
          subst hsc2
          show W p l e R s m args below meth c H locs cells slots Q (F0 m pc lsA (.int j :: .ref (zad B sc tx zSCR) :: r.map (zv (zad B sc tx))))
          rw [zscr_ad]
          exact va_sld hx hb hX (Nat.lt_of_lt_of_le hsc hBs) (Nat.not_le.mpr hsc) hS hin hd (k H locs hP hS)
        · cases h
      · split at h
        · rename_i j a r _ hc
          obtain ⟨ha, hkd, hin⟩ := hc
          cases h
          refine va_iald hx hb hG.1 hP a 1 (by rw [zW_at _ _ _ ha, zel_i hkd (by omega)]) rfl hin hd ?_
          exact k H locs hP hS
        · cases h
    · cases h
  · have hl : 1 = len := eq_of_beq hl
    subst hl
    split at h
    · split at h
      · rename_i _ j a r hc
        obtain ⟨ha, hkd, hin⟩ := hc
        cases h
        refine va_lald hx hb hG.1 hP a 2 (by rw [zW_at _ _ _ ha, zel_l hkd]) rfl hin hd ?_
        exact k H locs hP hS
      · cases h
    · cases h
  · have hl : 1 = len := eq_of_beq hl
    subst hl
    split at h
    · split at h
      · rename_i j a r hc
        obtain ⟨ha, ⟨h15, h18⟩, hin⟩ := hc
        cases h
        have k := k H locs hP hS
        simp only [List.map_cons, zv_rf] at k
        have hcs : (zLY a).1 = 15 ∨ (zLY a).1 = 16 ∨ (zLY a).1 = 17 ∨ (zLY a).1 = 18 := by omega
        rcases hcs with q | q | q | q
        · exact va_aldq hx hb hG.1 hP a 4 (by rw [zW_at _ _ _ ha, zel_q q (by omega)]) rfl hin hd k
        · exact va_aldq hx hb hG.1 hP a 5 (by rw [zW_at _ _ _ ha, zel_q q (by omega)]) rfl hin hd k
        · exact va_aldq hx hb hG.1 hP a 6 (by rw [zW_at _ _ _ ha, zel_q q (by omega)]) rfl hin hd k
        · exact zald_a hx hb hG.1 hP a 7 (by rw [zW_at _ _ _ ha, zel_q q (by omega)]) rfl hin hd k
      · cases h
    · cases h
  · have hl : 1 = len := eq_of_beq hl
    subst hl
    split at h
    · split at h
      · rename_i v j a r hc
        obtain ⟨ha, hkd, hin⟩ := hc
        cases h
        refine va_iast hx hb hG.1 hP (zW_D hN) hS a 1 (by rw [zW_at _ _ _ ha, zel_i hkd (by omega)]) rfl hin hd fun H1 locs1 hP1 _ hS1 => ?_
        rw [zW_set' (σ := σ) (σ' := zwI σ a j.toNatClampNeg v) (x := .inl (cy 12, (zLY a).2, .inl (upd (zI σ a) j.toNatClampNeg v))) (by rw [zel_i hkd (by omega), zI_w]; rfl) rfl zel_wI] at hP1
        exact k H1 locs1 hP1 hS1
      · cases h
    · cases h
  · have hl : 1 = len := eq_of_beq hl
    subst hl
    split at h
    · split at h
      · rename_i v j a r hc
        obtain ⟨ha, hkd, hin⟩ := hc
        cases h
        refine va_last hx hb hG.1 hP (zW_D hN) hS a 2 (by rw [zW_at _ _ _ ha, zel_l hkd]) rfl hin hd fun H1 locs1 hP1 _ hS1 => ?_
        rw [zW_set' (σ := σ) (σ' := zwL σ a j.toNatClampNeg v) (x := .inl (cy 13, (zLY a).2, .inr (.inl (vp_updL (zL σ a) j.toNatClampNeg v)))) (by rw [zel_l hkd, zL_w]; rfl) rfl zel_wL] at hP1
        exact k H1 locs1 hP1 hS1
      · cases h
    · cases h
  · have hl : 1 = len := eq_of_beq hl
    subst hl
    split at h
    · split at h
      · rename_i v j a r hc
        obtain ⟨ha, hv, hkd, hin⟩ := hc
        cases h
        have hend : ∀ kd, (zLY a).1 = kd → 15 ≤ kd → (zW (zad B sc tx) cy σ).set a (zad B sc tx a, .inl (cy kd, (zLY a).2, .inr (.inr (.inr (.inr (va_up (fun j => (zR σ a j).map (zad B sc tx)) j.toNatClampNeg (some (zad B sc tx v)))))))) = zW (zad B sc tx) cy (zwR σ a j.toNatClampNeg (some v)) := by
          intro kd hkd h15
          refine zW_set' ?_ rfl zel_wR
          rw [zel_q hkd h15, zR_w]
          refine congrArg (fun f => Sum.inl (cy kd, (zLY a).2, Sum.inr (Sum.inr (Sum.inr (Sum.inr f))))) (funext fun x => ?_)
          unfold va_up
          split <;> rfl
        simp only [List.mem_cons, Prod.mk.injEq, List.not_mem_nil, or_false] at hkd
        rcases hkd with ⟨q, qv⟩ | ⟨q, qv⟩ | ⟨q, qv⟩
        · refine va_astq hx hb hG.1 hP (zW_D hN) hS a 4 v 2 (by rw [zW_at _ _ _ ha, zel_q q (by omega)]) rfl (by rw [zW_at _ _ _ hv, zel_o (by omega), qv]) rfl hin hd fun H1 locs1 hP1 _ hS1 => ?_
          rw [hend _ q (by omega)] at hP1
          exact k H1 locs1 hP1 hS1
        · refine va_astq hx hb hG.1 hP (zW_D hN) hS a 5 v 5 (by rw [zW_at _ _ _ ha, zel_q q (by omega)]) rfl (by rw [zW_at _ _ _ hv, zel_o (by omega), qv]) rfl hin hd fun H1 locs1 hP1 _ hS1 => ?_
          rw [hend _ q (by omega)] at hP1
          exact k H1 locs1 hP1 hS1
        · refine va_astq hx hb hG.1 hP (zW_D hN) hS a 6 v 6 (by rw [zW_at _ _ _ ha, zel_q q (by omega)]) rfl (by rw [zW_at _ _ _ hv, zel_o (by omega), qv]) rfl hin hd fun H1 locs1 hP1 _ hS1 => ?_
          rw [hend _ q (by omega)] at hP1
          exact k H1 locs1 hP1 hS1
      · cases h
    · cases h
  · have hl : 1 = len := eq_of_beq hl
    subst hl
    split at h
    · split at h
      · rename_i a r hsc2
        cases h
        subst hsc2
        show W p l e R s m args below meth c H locs cells slots Q (F0 m pc lsA (.ref (zad B sc tx zSCR) :: r.map (zv (zad B sc tx))))
        rw [zscr_ad]
        exact va_slen hx hb hX (Nat.lt_of_lt_of_le hsc hBs) (Nat.not_le.mpr hsc) hS hd (k H locs hP hS)
      · split at h
        · rename_i a r _ hc
          obtain ⟨ha, h11, h18⟩ := hc
          cases h
          have k := k H locs hP hS
          have hcs : (zLY a).1 = 11 ∨ (zLY a).1 = 12 ∨ (zLY a).1 = 13 ∨ (zLY a).1 = 14 ∨ (zLY a).1 = 15 ∨ (zLY a).1 = 16 ∨ (zLY a).1 = 17 ∨ (zLY a).1 = 18 := by omega
          rcases hcs with q | q | q | q | q | q | q | q
          · exact va_alen (x := ((zLY a).2, .inl (zI σ a))) hx hb hG.1 hP a 0 (by rw [zW_at _ _ _ ha, zel_i q (by omega)]) rfl rfl hd k
          · exact va_alen (x := ((zLY a).2, .inl (zI σ a))) hx hb hG.1 hP a 1 (by rw [zW_at _ _ _ ha, zel_i q (by omega)]) rfl rfl hd k
          · exact va_alen (x := ((zLY a).2, .inr (.inl (zL σ a)))) hx hb hG.1 hP a 2 (by rw [zW_at _ _ _ ha, zel_l q]) rfl rfl hd k
          · exact va_alen (x := ((zLY a).2, .inl (zI σ a))) hx hb hG.1 hP a 3 (by rw [zW_at _ _ _ ha, zel_i q (by omega)]) rfl rfl hd k
          · exact va_alen (x := ((zLY a).2, .inr (.inr (.inr (.inr (fun j => (zR σ a j).map (zad B sc tx))))))) hx hb hG.1 hP a 4 (by rw [zW_at _ _ _ ha, zel_q q (by omega)]) rfl rfl hd k
          · exact va_alen (x := ((zLY a).2, .inr (.inr (.inr (.inr (fun j => (zR σ a j).map (zad B sc tx))))))) hx hb hG.1 hP a 5 (by rw [zW_at _ _ _ ha, zel_q q (by omega)]) rfl rfl hd k
          · exact va_alen (x := ((zLY a).2, .inr (.inr (.inr (.inr (fun j => (zR σ a j).map (zad B sc tx))))))) hx hb hG.1 hP a 6 (by rw [zW_at _ _ _ ha, zel_q q (by omega)]) rfl rfl hd k
          · exact va_alen (x := ((zLY a).2, .inr (.inr (.inr (.inr (fun j => (zR σ a j).map (zad B sc tx))))))) hx hb hG.1 hP a 7 (by rw [zW_at _ _ _ ha, zel_q q (by omega)]) rfl rfl hd k
        · cases h
    · cases h
  · cases h
end ZMM
