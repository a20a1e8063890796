/-! STEP BY STEP: what the small machine does, the claim's machine does. -/
theorem zii_inv {st st' : List Value} {f : Int32 → Int32 → Value} (h : zii st f = some st') : ∃ x y r, st = .int y :: .int x :: r ∧ st' = f x y :: r := by
  unfold zii at h
  split at h
  · cases h; exact ⟨_, _, _, rfl, rfl⟩
  · cases h
theorem zi1_inv {st st' : List Value} {f : Int32 → Value} (h : zi1 st f = some st') : ∃ x r, st = .int x :: r ∧ st' = f x :: r := by
  unfold zi1 at h
  split at h
  · cases h; exact ⟨_, _, rfl, rfl⟩
  · cases h
theorem zll_inv {st st' : List Value} {f : Int64 → Int64 → Value} (h : zll st f = some st') : ∃ x y r, st = .long y :: .long x :: r ∧ st' = f x y :: r := by
  unfold zll at h
  split at h
  · cases h; exact ⟨_, _, _, rfl, rfl⟩
  · cases h
theorem zl1_inv {st st' : List Value} {f : Int64 → Value} (h : zl1 st f = some st') : ∃ x r, st = .long x :: r ∧ st' = f x :: r := by
  unfold zl1 at h
  split at h
  · cases h; exact ⟨_, _, rfl, rfl⟩
  · cases h
theorem zli_inv {st st' : List Value} {f : Int64 → Int32 → Value} (h : zli st f = some st') : ∃ x y r, st = .int y :: .long x :: r ∧ st' = f x y :: r := by
  unfold zli at h
  split at h
  · cases h; exact ⟨_, _, _, rfl, rfl⟩
  · cases h
theorem zdd_inv {st st' : List Value} {f : UInt64 → UInt64 → Option Value} (h : zdd st f = some st') : ∃ x y r v, st = .double y :: .double x :: r ∧ f x y = some v ∧ st' = v :: r := by
  unfold zdd at h
  split at h
  · rename_i y x r
    cases hf : f x y with
    | none => rw [hf] at h; cases h
    | some v => rw [hf] at h; cases h; exact ⟨_, _, _, _, rfl, hf, rfl⟩
  · cases h
theorem zd1_inv {st st' : List Value} {f : UInt64 → Option Value} (h : zd1 st f = some st') : ∃ x r v, st = .double x :: r ∧ f x = some v ∧ st' = v :: r := by
  unfold zd1 at h
  split at h
  · rename_i x r
    cases hf : f x with
    | none => rw [hf] at h; cases h
    | some v => rw [hf] at h; cases h; exact ⟨_, _, _, rfl, hf, rfl⟩
  · cases h
theorem zD_inv {x : UInt64} {v : Value} (h : zD x = some v) : v = .double x ∧ vf_n64 x := by
  unfold zD at h
  split at h
  · rename_i q; cases h; exact ⟨rfl, q⟩
  · cases h
theorem zF_inv {x : UInt32} {v : Value} (h : zF x = some v) : v = .float x ∧ vf_n32 x := by
  unfold zF at h
  split at h
  · rename_i q; cases h; exact ⟨rfl, q⟩
  · cases h
theorem zjp_ok {pc : Nat} {off : Int} (h : 0 ≤ (pc : Int) + off) : (pc : Int) + off = ((zjp pc off : Nat) : Int) := (Int.toNat_of_nonneg h).symm
/-- how long an instruction is (a switch: as it stands) -/
def zlen : Instr → Nat
  | .bipush _ => 2
  | .sipush _ => 3
  | .iload _ => 2
  | .lload _ => 2
  | .dload _ => 2
  | .aload _ => 2
  | .istore _ => 2
  | .lstore _ => 2
  | .dstore _ => 2
  | .astore _ => 2
  | .iinc _ _ => 3
  | .ldc _ => 2
  | .ldc_w _ => 3
  | .ldc2_w _ => 3
  | .goto _ => 3
  | .ifCond _ _ => 3
  | .if_icmp _ _ => 3
  | .ifnull _ => 3
  | .ifnonnull _ => 3
  | .getfield _ => 3
  | .putfield _ => 3
  | .invokevirtual _ => 3
  | .invokestatic _ => 3
  | .invokespecial _ => 3
  | .new _ => 3
  | .newarray _ => 2
  | .anewarray _ => 3
  | .multianewarray _ _ => 4
  | _ => 1
def zlenOK (i : Instr) (len : Nat) : Bool := match i with
  | .tableswitch _ _ _ _ => true
  | j => zlen j == len
/-- where an instruction may jump to -/
def zoffs : Instr → List Int
  | .goto o => [o]
  | .ifCond _ o => [o]
  | .if_icmp _ o => [o]
  | .ifnull o => [o]
  | .ifnonnull o => [o]
  | .tableswitch d _ _ os => d :: os.toList
  | _ => []
/-- how many words of locals a store wants -/
def zlocs : Instr → Nat
  | .istore k => k + 1
  | .istore_n k => (k : Nat) + 1
  | .astore k => k + 1
  | .astore_n k => (k : Nat) + 1
  | .iinc k _ => k + 1
  | .lstore k => k + 2
  | .lstore_n k => (k : Nat) + 2
  | .dstore k => k + 2
  | .dstore_n k => (k : Nat) + 2
  | _ => 0
section ZS
variable {p : Program} {l : Launch} {e : Env} {R : Room} {s : State} {m : MethodId} {args : Array Value} {below : List Frame} {meth : Method} {c : Code} {H : Heap} {locs : List Loc} {cells slots : Nat} {Q : State → Prop}
variable {cc : ByteArray} {pc : Nat} {lsA : Array Slot}

set_option maxHeartbeats 4000000 in
theorem zpst_ok (hx : p.tables.exec = Jvm.exec) (hb : c.code = cc) (ad : Nat → Nat) {i : Instr} {len : Nat} {st st' : List Value} (hd : decode cc pc = .ok (i, len)) (hl : zlenOK i len = true) (h : zpst i st = some st') (k : W p l e R s m args below meth c H locs cells slots Q (F0 m (pc + len) lsA (st'.map (zv ad)))) : W p l e R s m args below meth c H locs cells slots Q (F0 m pc lsA (st.map (zv ad))) := by
  unfold zpst at h
  split at h
  · have hl : 1 = len := eq_of_beq hl
    subst hl
    cases h
    exact lv_null hx hb hd k
  · have hl : 1 = len := eq_of_beq hl
    subst hl
    cases h
    exact lv_iconst hx hb hd rfl k
  · have hl : 2 = len := eq_of_beq hl
    subst hl
    cases h
    exact lv_bipush hx hb hd rfl k
  · have hl : 3 = len := eq_of_beq hl
    subst hl
    cases h
    exact lv_sipush hx hb hd rfl k
  · have hl : 1 = len := eq_of_beq hl
    subst hl
    cases h
    exact lv_lconst hx hb hd rfl k
  · have hl : 1 = len := eq_of_beq hl
    subst hl
    cases h
    exact lv_dconst0 hx hb hd k
  · have hl : 1 = len := eq_of_beq hl
    subst hl
    cases h
    exact lv_dconst1 hx hb hd k
  · have hl : 1 = len := eq_of_beq hl
    subst hl
    obtain ⟨x, y, r, rfl, rfl⟩ := zii_inv h
    exact lv_iadd hx hb hd k
  · have hl : 1 = len := eq_of_beq hl
    subst hl
    obtain ⟨x, y, r, rfl, rfl⟩ := zii_inv h
    exact lv_isub hx hb hd k
  · have hl : 1 = len := eq_of_beq hl
    subst hl
    obtain ⟨x, y, r, rfl, rfl⟩ := zii_inv h
    exact lv_imul hx hb hd k
  · have hl : 1 = len := eq_of_beq hl
    subst hl
    obtain ⟨x, y, r, rfl, rfl⟩ := zii_inv h
    exact lv_iand hx hb hd k
  · have hl : 1 = len := eq_of_beq hl
    subst hl
    obtain ⟨x, y, r, rfl, rfl⟩ := zii_inv h
    exact lv_ior hx hb hd k
  · have hl : 1 = len := eq_of_beq hl
    subst hl
    obtain ⟨x, y, r, rfl, rfl⟩ := zii_inv h
    exact lv_ixor hx hb hd k
  · have hl : 1 = len := eq_of_beq hl
    subst hl
    obtain ⟨x, y, r, rfl, rfl⟩ := zii_inv h
    exact lv_ishl hx hb hd k
  · have hl : 1 = len := eq_of_beq hl
    subst hl
    obtain ⟨x, y, r, rfl, rfl⟩ := zii_inv h
    exact lv_ishr hx hb hd k
  · have hl : 1 = len := eq_of_beq hl
    subst hl
    obtain ⟨x, y, r, rfl, rfl⟩ := zii_inv h
    exact lv_iushr hx hb hd rfl k
  · have hl : 1 = len := eq_of_beq hl
    subst hl
    split at h
    · split at h
      · cases h
      · rename_i hne
        cases h
        exact lv_idiv hx hb hd hne k
    · cases h
  · have hl : 1 = len := eq_of_beq hl
    subst hl
    split at h
    · split at h
      · cases h
      · rename_i hne
        cases h
        exact lv_irem hx hb hd hne k
    · cases h
  · have hl : 1 = len := eq_of_beq hl
    subst hl
    obtain ⟨x, r, rfl, rfl⟩ := zi1_inv h
    exact lv_ineg hx hb hd k
  · have hl : 1 = len := eq_of_beq hl
    subst hl
    obtain ⟨x, r, rfl, rfl⟩ := zi1_inv h
    exact lv_i2l hx hb hd rfl k
  · have hl : 1 = len := eq_of_beq hl
    subst hl
    obtain ⟨x, r, rfl, rfl⟩ := zi1_inv h
    exact lv_i2b hx hb hd rfl k
  · have hl : 1 = len := eq_of_beq hl
    subst hl
    obtain ⟨x, r, rfl, rfl⟩ := zi1_inv h
    exact lv_i2s hx hb hd rfl k
  · have hl : 1 = len := eq_of_beq hl
    subst hl
    obtain ⟨x, r, rfl, rfl⟩ := zi1_inv h
    exact lv_i2c hx hb hd rfl k
  · have hl : 1 = len := eq_of_beq hl
    subst hl
    obtain ⟨x, r, rfl, rfl⟩ := zi1_inv h
    exact lv_i2d hx hb hd k
  · have hl : 1 = len := eq_of_beq hl
    subst hl
    obtain ⟨x, y, r, rfl, rfl⟩ := zll_inv h
    exact lv_ladd hx hb hd k
  · have hl : 1 = len := eq_of_beq hl
    subst hl
    obtain ⟨x, y, r, rfl, rfl⟩ := zll_inv h
    exact lv_lsub hx hb hd k
  · have hl : 1 = len := eq_of_beq hl
    subst hl
    obtain ⟨x, y, r, rfl, rfl⟩ := zll_inv h
    exact lv_lmul hx hb hd k
  · have hl : 1 = len := eq_of_beq hl
    subst hl
    obtain ⟨x, y, r, rfl, rfl⟩ := zll_inv h
    exact lv_land hx hb hd k
  · have hl : 1 = len := eq_of_beq hl
    subst hl
    obtain ⟨x, y, r, rfl, rfl⟩ := zll_inv h
    exact lv_lor hx hb hd k
  · have hl : 1 = len := eq_of_beq hl
    subst hl
    obtain ⟨x, y, r, rfl, rfl⟩ := zll_inv h
    exact lv_lxor hx hb hd k
  · have hl : 1 = len := eq_of_beq hl
    subst hl
    obtain ⟨x, y, r, rfl, rfl⟩ := zll_inv h
    exact W.lcmp hx hb hd k
  · have hl : 1 = len := eq_of_beq hl
    subst hl
    split at h
    · split at h
      · cases h
      · rename_i hne
        cases h
        exact lv_ldiv hx hb hd hne k
    · cases h
  · have hl : 1 = len := eq_of_beq hl
    subst hl
    split at h
    · split at h
      · cases h
      · rename_i hne
        cases h
        exact lv_lrem hx hb hd hne k
    · cases h
  · have hl : 1 = len := eq_of_beq hl
    subst hl
    obtain ⟨x, r, rfl, rfl⟩ := zl1_inv h
    exact lv_lneg hx hb hd k
  · have hl : 1 = len := eq_of_beq hl
    subst hl
    obtain ⟨x, r, rfl, rfl⟩ := zl1_inv h
    exact lv_l2i hx hb hd rfl k
  · have hl : 1 = len := eq_of_beq hl
    subst hl
    obtain ⟨x, r, rfl, rfl⟩ := zl1_inv h
    exact lv_l2f hx hb hd k
  · have hl : 1 = len := eq_of_beq hl
    subst hl
    obtain ⟨x, r, rfl, rfl⟩ := zl1_inv h
    exact lv_l2d hx hb hd k
  · have hl : 1 = len := eq_of_beq hl
    subst hl
    obtain ⟨x, y, r, rfl, rfl⟩ := zli_inv h
    exact lv_lshl hx hb hd rfl k
  · have hl : 1 = len := eq_of_beq hl
    subst hl
    obtain ⟨x, y, r, rfl, rfl⟩ := zli_inv h
    exact lv_lshr hx hb hd rfl k
  · have hl : 1 = len := eq_of_beq hl
    subst hl
    obtain ⟨x, y, r, rfl, rfl⟩ := zli_inv h
    exact lv_lushr hx hb hd rfl k
  · have hl : 1 = len := eq_of_beq hl
    subst hl
    obtain ⟨x, y, r, v, rfl, hf, rfl⟩ := zdd_inv h
    obtain ⟨rfl, hne⟩ := zD_inv hf
    exact lv_dadd hx hb hd hne k
  · have hl : 1 = len := eq_of_beq hl
    subst hl
    obtain ⟨x, y, r, v, rfl, hf, rfl⟩ := zdd_inv h
    obtain ⟨rfl, hne⟩ := zD_inv hf
    exact lv_dmul hx hb hd hne k
  · have hl : 1 = len := eq_of_beq hl
    subst hl
    obtain ⟨x, y, r, v, rfl, hf, rfl⟩ := zdd_inv h
    obtain ⟨rfl, hne⟩ := zD_inv hf
    exact lv_ddiv hx hb hd hne k
  · have hl : 1 = len := eq_of_beq hl
    subst hl
    obtain ⟨x, y, r, v, rfl, hf, rfl⟩ := zdd_inv h
    cases hf
    exact lv_dcmp hx hb hd k
  · have hl : 1 = len := eq_of_beq hl
    subst hl
    obtain ⟨x, r, v, rfl, hf, rfl⟩ := zd1_inv h
    cases hf
    exact lv_dneg hx hb hd k
  · have hl : 1 = len := eq_of_beq hl
    subst hl
    obtain ⟨x, r, v, rfl, hf, rfl⟩ := zd1_inv h
    cases hf
    exact lv_d2i hx hb hd k
  · have hl : 1 = len := eq_of_beq hl
    subst hl
    obtain ⟨x, r, v, rfl, hf, rfl⟩ := zd1_inv h
    cases hf
    exact lv_d2l hx hb hd k
  · have hl : 1 = len := eq_of_beq hl
    subst hl
    obtain ⟨x, r, v, rfl, hf, rfl⟩ := zd1_inv h
    obtain ⟨rfl, hne⟩ := zF_inv hf
    exact lv_d2f hx hb hd hne k
  · have hl : 1 = len := eq_of_beq hl
    subst hl
    split at h
    · rename_i x r
      cases hf : zD (FP.f2d x) with
      | none => rw [hf] at h; cases h
      | some v =>
        rw [hf] at h; cases h
        obtain ⟨rfl, hne⟩ := zD_inv hf
        exact lv_f2d hx hb hd hne k
    · cases h
  · have hl : 1 = len := eq_of_beq hl
    subst hl
    split at h
    · rename_i y x r
      cases hf : zF (FP.fdiv x y) with
      | none => rw [hf] at h; cases h
      | some v =>
        rw [hf] at h; cases h
        obtain ⟨rfl, hne⟩ := zF_inv hf
        exact lv_fdiv hx hb hd hne k
    · cases h
  · have hl : 1 = len := eq_of_beq hl
    subst hl
    split at h
    · cases h
      exact lv_fcmp hx hb hd k
    · cases h
  · have hl : 1 = len := eq_of_beq hl
    subst hl
    split at h
    · cases h; exact lv_dup hx hb hd rfl k
    · cases h; exact lv_dup hx hb hd rfl k
    · cases h; exact lv_dup hx hb hd rfl k
    · cases h
  · have hl : 1 = len := eq_of_beq hl
    subst hl
    split at h
    · cases h; exact lv_dup2_2 hx hb hd rfl k
    · cases h; exact lv_dup2_11 hx hb hd rfl rfl k
    · cases h
  · have hl : 1 = len := eq_of_beq hl
    subst hl
    split at h
    · cases h; exact lv_pop hx hb hd rfl k
    · cases h; exact lv_pop hx hb hd rfl k
    · cases h; exact lv_pop hx hb hd rfl k
    · cases h
  · cases h
set_option maxHeartbeats 4000000 in
theorem zbr_ok (hx : p.tables.exec = Jvm.exec) (hb : c.code = cc) (ad : Nat → Nat) {i : Instr} {len : Nat} {st r : List Value} {b : Bool} {off : Int} (hd : decode cc pc = .ok (i, len)) (hl : zlenOK i len = true) (ho : ∀ o ∈ zoffs i, 0 ≤ (pc : Int) + o) (h : zbr i st = some (b, off, r)) (k : W p l e R s m args below meth c H locs cells slots Q (F0 m (if b then zjp pc off else pc + len) lsA (r.map (zv ad)))) : W p l e R s m args below meth c H locs cells slots Q (F0 m pc lsA (st.map (zv ad))) := by
  unfold zbr at h
  split at h
  · have hl : 3 = len := eq_of_beq hl
    subst hl
    cases h
    exact lv_goto hx hb hd (zjp_ok (ho _ List.mem_cons_self)) k
  · have hl : 3 = len := eq_of_beq hl
    subst hl
    rename_i c0 o0
    split at h
    · cases c0
      · cases h
        exact lv_if_eq hx hb hd (zjp_ok (ho _ List.mem_cons_self)) (fun q => by simpa [q] using k) (fun q => by simpa [q] using k)
      · cases h
        exact lv_if_ne hx hb hd (zjp_ok (ho _ List.mem_cons_self)) (fun q => by simpa [q] using k) (fun q => by simpa [q] using k)
      · cases h
        exact lv_if_lt hx hb hd (zjp_ok (ho _ List.mem_cons_self)) (fun q => by simpa [q] using k) (fun q => by simpa [q] using k)
      · cases h
        exact lv_if_ge hx hb hd (zjp_ok (ho _ List.mem_cons_self)) (fun q => by simpa [q] using k) (fun q => by simpa [q] using k)
      · cases h
        exact lv_if_gt hx hb hd (zjp_ok (ho _ List.mem_cons_self)) (fun q => by simpa [q] using k) (fun q => by simpa [q] using k)
      · cases h
        exact lv_if_le hx hb hd (zjp_ok (ho _ List.mem_cons_self)) (fun q => by simpa [q] using k) (fun q => by simpa [q] using k)
    · cases h
  · have hl : 3 = len := eq_of_beq hl
    subst hl
    rename_i c0 o0
    split at h
    · cases c0
      · cases h
        exact lv_icmp_eq hx hb hd (zjp_ok (ho _ List.mem_cons_self)) (fun q => by simpa [q] using k) (fun q => by simpa [q] using k)
      · cases h
        exact lv_icmp_ne hx hb hd (zjp_ok (ho _ List.mem_cons_self)) (fun q => by simpa [q] using k) (fun q => by simpa [q] using k)
      · cases h
        exact lv_icmp_lt hx hb hd (zjp_ok (ho _ List.mem_cons_self)) (fun q => by simpa [q] using k) (fun q => by simpa [q] using k)
      · cases h
        exact lv_icmp_ge hx hb hd (zjp_ok (ho _ List.mem_cons_self)) (fun q => by simpa [q] using k) (fun q => by simpa [q] using k)
      · cases h
        exact lv_icmp_gt hx hb hd (zjp_ok (ho _ List.mem_cons_self)) (fun q => by simpa [q] using k) (fun q => by simpa [q] using k)
      · cases h
        exact lv_icmp_le hx hb hd (zjp_ok (ho _ List.mem_cons_self)) (fun q => by simpa [q] using k) (fun q => by simpa [q] using k)
    · cases h
  · have hl : 3 = len := eq_of_beq hl
    subst hl
    split at h
    · cases h; exact lv_ifnullN hx hb hd (zjp_ok (ho _ List.mem_cons_self)) k
    · cases h; exact lv_ifnull hx hb hd k
    · cases h
  · have hl : 3 = len := eq_of_beq hl
    subst hl
    split at h
    · cases h; exact lv_ifnonnullN hx hb hd k
    · cases h; exact lv_ifnonnull hx hb hd (zjp_ok (ho _ List.mem_cons_self)) k
    · cases h
  · split at h
    · split at h
      · rename_i q
        cases h
        exact lv_tableOut hx hb hd q (zjp_ok (ho _ List.mem_cons_self)) k
      · rename_i dd lo hi offs st0 x r0 q
        cases hf : offs[(x.toInt - lo).toNat]? with
        | none => rw [hf] at h; cases h
        | some o =>
          rw [hf] at h; cases h
          have hm : off ∈ offs.toList := by
            rw [← Array.getElem?_toList] at hf
            exact List.mem_of_getElem? hf
          exact lv_tableIn hx hb hd (fun z => q (Or.inl z)) (fun z => q (Or.inr z)) hf (zjp_ok (ho _ (List.mem_cons_of_mem _ hm))) k
    · cases h
  · cases h
set_option maxHeartbeats 4000000 in
theorem zloc_ok (hx : p.tables.exec = Jvm.exec) (hb : c.code = cc) (ad : Nat → Nat) {i : Instr} {len nL : Nat} {ls ls' : zLv} {st st' : List Value} (hd : decode cc pc = .ok (i, len)) (hl : zlenOK i len = true) (hn : zlocs i ≤ nL) (hA : lv_has lsA nL (ls.map (zq ad))) (h : zloc i ls st = some (ls', st')) (k : ∀ lsA' : Array Slot, lv_has lsA' nL (ls'.map (zq ad)) → W p l e R s m args below meth c H locs cells slots Q (F0 m (pc + len) lsA' (st'.map (zv ad)))) : W p l e R s m args below meth c H locs cells slots Q (F0 m pc lsA (st.map (zv ad))) := by
  unfold zloc at h
  split at h
  · have hl : 2 = len := eq_of_beq hl
    subst hl
    split at h
    · rename_i q
      cases h
      exact lv_iload hx hb hd (zld_at hA q) (k _ hA)
    · cases h
  · have hl : 1 = len := eq_of_beq hl
    subst hl
    split at h
    · rename_i q
      cases h
      exact lv_iload_n hx hb hd rfl (zld_at hA q) (k _ hA)
    · cases h
  · have hl : 2 = len := eq_of_beq hl
    subst hl
    split at h
    · rename_i q
      cases h
      exact lv_lload hx hb hd (zld_at hA q) (k _ hA)
    · cases h
  · have hl : 1 = len := eq_of_beq hl
    subst hl
    split at h
    · rename_i q
      cases h
      exact lv_lload_n hx hb hd rfl (zld_at hA q) (k _ hA)
    · cases h
  · have hl : 2 = len := eq_of_beq hl
    subst hl
    split at h
    · rename_i q
      cases h
      exact lv_dload hx hb hd (zld_at hA q) (k _ hA)
    · cases h
  · have hl : 1 = len := eq_of_beq hl
    subst hl
    split at h
    · rename_i q
      cases h
      exact lv_dload_n hx hb hd rfl (zld_at hA q) (k _ hA)
    · cases h
  · have hl : 1 = len := eq_of_beq hl
    subst hl
    split at h
    · rename_i q
      cases h
      exact lv_fload_n hx hb hd rfl (zld_at hA q) (k _ hA)
    · cases h
  · have hl : 2 = len := eq_of_beq hl
    subst hl
    split at h
    · rename_i q
      cases h
      exact lv_aload hx hb hd (zld_at hA q) (k _ hA)
    · rename_i q
      cases h
      exact lv_aloadN hx hb hd (zld_at hA q) (k _ hA)
    · cases h
  · have hl : 1 = len := eq_of_beq hl
    subst hl
    split at h
    · rename_i q
      cases h
      exact lv_aload_n hx hb hd rfl (zld_at hA q) (k _ hA)
    · rename_i q
      cases h
      exact lv_aload_nN hx hb hd rfl (zld_at hA q) (k _ hA)
    · cases h
  · have hl : 2 = len := eq_of_beq hl
    subst hl
    split at h
    · cases h
      exact lv_istore hx hb hd hA (by simp only [zlocs] at hn; omega) (zs1_map ad ls _ (.int _)) k
    · cases h
  · have hl : 1 = len := eq_of_beq hl
    subst hl
    split at h
    · cases h
      exact lv_istore_n hx hb hd rfl hA (by simp only [zlocs] at hn; omega) (zs1_map ad ls _ (.int _)) k
    · cases h
  · have hl : 2 = len := eq_of_beq hl
    subst hl
    split at h
    · cases h
      exact lv_astore hx hb hd hA (by simp only [zlocs] at hn; omega) (zs1_map ad ls _ (.ref _)) k
    · cases h
      exact lv_astoreN hx hb hd hA (by simp only [zlocs] at hn; omega) (zs1_map ad ls _ .null) k
    · cases h
  · have hl : 1 = len := eq_of_beq hl
    subst hl
    split at h
    · cases h
      exact lv_astore_n hx hb hd rfl hA (by simp only [zlocs] at hn; omega) (zs1_map ad ls _ (.ref _)) k
    · cases h
      exact lv_astore_nN hx hb hd rfl hA (by simp only [zlocs] at hn; omega) (zs1_map ad ls _ .null) k
    · cases h
  · have hl : 2 = len := eq_of_beq hl
    subst hl
    split at h
    · cases h
      exact lv_lstore hx hb hd hA (by simp only [zlocs] at hn; omega) (zs2_map ad ls _ (.long _)) k
    · cases h
  · have hl : 1 = len := eq_of_beq hl
    subst hl
    split at h
    · cases h
      exact lv_lstore_n hx hb hd rfl hA (by simp only [zlocs] at hn; omega) (zs2_map ad ls _ (.long _)) k
    · cases h
  · have hl : 2 = len := eq_of_beq hl
    subst hl
    split at h
    · cases h
      exact lv_dstore hx hb hd hA (by simp only [zlocs] at hn; omega) (zs2_map ad ls _ (.double _)) k
    · cases h
  · have hl : 3 = len := eq_of_beq hl
    subst hl
    split at h
    · rename_i q
      cases h
      obtain ⟨j, hj⟩ := zld_idx (ad := ad) q
      exact lv_iinc hx hb hd hA hj rfl (by simp only [zlocs] at hn; omega) (zs1_map ad ls _ (.int _)) k
    · cases h
  · cases h
end ZS
