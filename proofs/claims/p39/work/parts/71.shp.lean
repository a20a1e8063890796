/-! THE READER: a scheme -/
/-- names: of scheme s, of field f -/
def zsN (s : Nat) : Int := 19 * 2 ^ 25 + ((s : Int) + 1) * 2 ^ 20
def zfN (f : Nat) : Int := 6 * 2 ^ 25 + ((f : Int) + 1) * 2 ^ 20
/-- where cells begin -/
def zsu (C : Nat → Int) : Nat → Int
  | 0 => 0
  | n + 1 => zsu C n + C n
theorem zsu_eq {C D : Nat → Int} : ∀ {n : Nat}, (∀ g, g < n → C g = D g) → zsu C n = zsu D n
  | 0, _ => rfl
  | n + 1, h => by rw [zsu, zsu, zsu_eq (fun g hg => h g (by omega)), h n (by omega)]
theorem zsu_rng {C : Nat → Int} : ∀ {n : Nat}, (∀ g, g < n → 1 ≤ C g ∧ C g ≤ 4) → (n : Int) ≤ zsu C n ∧ zsu C n ≤ 4 * n
  | 0, _ => by simp [zsu]
  | n + 1, h => by
    have h1 := zsu_rng (C := C) (n := n) (fun g hg => h g (by omega))
    have h2 := h n (by omega)
    rw [zsu]
    omega
/-- a scheme's object o: n fields -/
def zShp (σ : zSt) (o : Nat) (nm : Int) (n : Nat) (K C : Nat → Int) : Prop := zI σ o 4 = iZ nm ∧ zI σ o 5 = iZ (n : Int) ∧ zI σ o 6 = iZ (zsu C n) ∧ ∀ f : Nat, f < n → zI σ (o + 1) f = iZ (zfN f) ∧ zI σ (o + 2) f = iZ (K f) ∧ zI σ (o + 3) f = iZ (C f) ∧ zI σ (o + 4) f = iZ (zsu C f)
theorem zShp.fr {w : List Nat} {σ σ' : zSt} {o : Nat} {nm : Int} {n : Nat} {K C : Nat → Int} (h : zShp σ o nm n K C) (f : zFk w σ σ') (h0 : o ∉ w) (h1 : o + 1 ∉ w) (h2 : o + 2 ∉ w) (h3 : o + 3 ∉ w) (h4 : o + 4 ∉ w) : zShp σ' o nm n K C := ⟨f.i h.1 h0, f.i h.2.1 h0, f.i h.2.2.1 h0, fun g hg => ⟨f.i (h.2.2.2 g hg).1 h1, f.i (h.2.2.2 g hg).2.1 h2, f.i (h.2.2.2 g hg).2.2.1 h3, f.i (h.2.2.2 g hg).2.2.2 h4⟩⟩
theorem c_sbegin {σ : zSt} (hF : zFx σ) {o : Nat} (hO : zIsS o) {nm : Int} {Q : zSt → Option Value → Prop} (k : ∀ σ1, zFm [o] σ σ1 → (∀ K C, zShp σ1 o nm 0 K C) → Q σ1 none) : zCa 71 [.ref o, .int (iZ nm)] σ Q := by
  refine w_enter (c := zk_X8_begin) (ls2 := [(0, .ref o), (1, .int (iZ nm))]) rfl ⟨rfl, rfl, trivial⟩ ?_
  refine w_aload_n (pc' := 1) ⟨rfl, rfl⟩ rfl ?_
  refine w_iload_n (pc' := 2) ⟨rfl, rfl⟩ rfl ?_
  refine w_putI (pc' := 5) (cl := 6) (q := 4) ⟨rfl, rfl⟩ ⟨rfl, by decide⟩ (hO.o hF) ?_
  refine w_aload_n (pc' := 6) ⟨rfl, rfl⟩ rfl ?_
  refine w_ic (pc' := 7) ⟨rfl, rfl⟩ ?_
  refine w_putI (pc' := 10) (cl := 6) (q := 5) ⟨rfl, rfl⟩ ⟨rfl, by decide⟩ (hO.o hF) ?_
  refine w_aload_n (pc' := 11) ⟨rfl, rfl⟩ rfl ?_
  refine w_ic (pc' := 12) ⟨rfl, rfl⟩ ?_
  refine w_putI (pc' := 15) (cl := 6) (q := 6) ⟨rfl, rfl⟩ ⟨rfl, by decide⟩ (hO.o hF) ?_
  refine w_return (pc' := 16) ⟨rfl, rfl⟩ ?_
  refine k _ (((zFm.wI List.mem_cons_self).trans (zFm.wI List.mem_cons_self)).trans (zFm.wI List.mem_cons_self)) (fun K C => ⟨?_, ?_, zI_wI_s, fun f hf => absurd hf (by omega)⟩)
  · rw [zI_wI_n (Or.inr (by decide)), zI_wI_n (Or.inr (by decide)), zI_wI_s]
  · rw [zI_wI_n (Or.inr (by decide)), zI_wI_s]; rfl
theorem zfN_ne {f g : Nat} (hf : f ≤ 10) (hg : g ≤ 10) (h : f ≠ g) : zfN f ≠ zfN g := by unfold zfN; omega
theorem zfN_rng {f : Nat} (hf : f ≤ 10) : 0 ≤ zfN f ∧ zfN f ≤ 2147483647 := by unfold zfN; omega
theorem zsN_rng {f : Nat} (hf : f ≤ 10) : 0 ≤ zsN f ∧ zsN f ≤ 2147483647 := by unfold zsN; omega
theorem l_fonN {σ : zSt} (hF : zFx σ) {o : Nat} (hO : zIsS o) {nm : Int} {n : Nat} {K C : Nat → Int} (hS : zShp σ o nm n K C) (hn : n ≤ 6) {v : Int} (hv : ∀ f : Nat, f < n → zfN f ≠ v) (hvr : -2147483648 ≤ v ∧ v ≤ 2147483647) {Q : zSt → Option Value → Prop} : ∀ (m : Nat) (i : Nat), i + m = n → (Q σ (some (.int (iZ (-1))))) → zP zk_X8_fieldOfName 2 [(0, .ref o), (1, .int (iZ v)), (2, .int (iZ (i : Int)))] [] σ Q := by
  intro m
  induction m with
  | zero =>
    intro i hi k
    refine w_iload_n (pc' := 3) ⟨rfl, rfl⟩ rfl ?_
    refine w_aload_n (pc' := 4) ⟨rfl, rfl⟩ rfl ?_
    refine w_getI (pc' := 7) (cl := 6) (q := 5) ⟨rfl, rfl⟩ ⟨rfl, by decide⟩ (hO.o hF) hS.2.1 ?_
    refine w_icT_ge (pc' := 10) (pcT := 34) ⟨rfl, rfl⟩ rfl (by omega) ?_
    refine w_ic (pc' := 35) ⟨rfl, rfl⟩ ?_
    refine w_ireturn (pc' := 36) ⟨rfl, rfl⟩ (Or.inl rfl) ?_
    exact k
  | succ m ih =>
    intro i hi k
    have hne := hv i (by omega)
    have hr := zfN_rng (f := i) (by omega)
    refine w_iload_n (pc' := 3) ⟨rfl, rfl⟩ rfl ?_
    refine w_aload_n (pc' := 4) ⟨rfl, rfl⟩ rfl ?_
    refine w_getI (pc' := 7) (cl := 6) (q := 5) ⟨rfl, rfl⟩ ⟨rfl, by decide⟩ (hO.o hF) hS.2.1 ?_
    refine w_icF_ge (pc' := 10) ⟨rfl, rfl⟩ (by omega) ?_
    refine w_iload_n (pc' := 11) ⟨rfl, rfl⟩ rfl ?_
    refine w_bi (pc' := 13) ⟨rfl, rfl⟩ (by decide) ?_
    refine w_icF_ge (pc' := 16) ⟨rfl, rfl⟩ (by omega) ?_
    refine w_aload_n (pc' := 17) ⟨rfl, rfl⟩ rfl ?_
    refine w_getR (pc' := 20) (cl := 6) (q := 0) ⟨rfl, rfl⟩ ⟨rfl, by decide⟩ (hO.o hF) (hO.p hF).1 ?_
    refine w_iload_n (pc' := 21) ⟨rfl, rfl⟩ rfl ?_
    refine w_iald (pc' := 22) ⟨rfl, rfl⟩ (hO.a hF).1 (zixZ (by omega)) (hS.2.2.2 i (by omega)).1 ?_
    refine w_iload_n (pc' := 23) ⟨rfl, rfl⟩ rfl ?_
    refine w_icT_ne (pc' := 26) (pcT := 28) ⟨rfl, rfl⟩ rfl (by omega) ?_
    refine w_iincZ (pc' := 31) ⟨rfl, rfl⟩ rfl rfl ?_
    refine w_goto (pc' := 34) (pcT := 2) ⟨rfl, rfl⟩ rfl ?_
    refine w_at (ls2 := [(0, .ref o), (1, .int (iZ v)), (2, .int (iZ ((i + 1 : Nat) : Int)))]) ?_ (ih (i + 1) (by omega) k)
    exact ⟨rfl, rfl, rfl, trivial⟩
theorem c_fonN {σ : zSt} (hF : zFx σ) {o : Nat} (hO : zIsS o) {nm : Int} {n : Nat} {K C : Nat → Int} (hS : zShp σ o nm n K C) (hn : n ≤ 6) {v : Int} (hv : ∀ f : Nat, f < n → zfN f ≠ v) (hvr : -2147483648 ≤ v ∧ v ≤ 2147483647) {Q : zSt → Option Value → Prop} (k : Q σ (some (.int (iZ (-1))))) : zCa 77 [.ref o, .int (iZ v)] σ Q := by
  refine w_enter (c := zk_X8_fieldOfName) (ls2 := [(0, .ref o), (1, .int (iZ v))]) rfl ⟨rfl, rfl, trivial⟩ ?_
  refine w_ic (pc' := 1) ⟨rfl, rfl⟩ ?_
  refine w_istore_n (pc' := 2) ⟨rfl, rfl⟩ rfl ?_
  refine w_at (ls2 := [(0, .ref o), (1, .int (iZ v)), (2, .int (iZ ((0 : Nat) : Int)))]) ?_ (l_fonN hF hO hS hn hv hvr n 0 (by omega) k)
  exact ⟨rfl, rfl, rfl, trivial⟩
theorem l_fonI {σ : zSt} (hF : zFx σ) {o : Nat} (hO : zIsS o) {nm : Int} {n : Nat} {K C : Nat → Int} (hS : zShp σ o nm n K C) (hn : n ≤ 6) {g : Nat} (hg : g < n) {Q : zSt → Option Value → Prop} : ∀ (m : Nat) (i : Nat), i + m = n → i ≤ g → (Q σ (some (.int (iZ (g : Int))))) → zP zk_X8_fieldOfName 2 [(0, .ref o), (1, .int (iZ (zfN g))), (2, .int (iZ (i : Int)))] [] σ Q := by
  intro m
  induction m with
  | zero =>
    intro i hi hig k
    exfalso; omega
  | succ m ih =>
    intro i hi hig k
    have hr := zfN_rng (f := i) (by omega)
    have hr2 := zfN_rng (f := g) (by omega)
    by_cases he : i = g
    · subst he
      refine w_iload_n (pc' := 3) ⟨rfl, rfl⟩ rfl ?_
      refine w_aload_n (pc' := 4) ⟨rfl, rfl⟩ rfl ?_
      refine w_getI (pc' := 7) (cl := 6) (q := 5) ⟨rfl, rfl⟩ ⟨rfl, by decide⟩ (hO.o hF) hS.2.1 ?_
      refine w_icF_ge (pc' := 10) ⟨rfl, rfl⟩ (by omega) ?_
      refine w_iload_n (pc' := 11) ⟨rfl, rfl⟩ rfl ?_
      refine w_bi (pc' := 13) ⟨rfl, rfl⟩ (by decide) ?_
      refine w_icF_ge (pc' := 16) ⟨rfl, rfl⟩ (by omega) ?_
      refine w_aload_n (pc' := 17) ⟨rfl, rfl⟩ rfl ?_
      refine w_getR (pc' := 20) (cl := 6) (q := 0) ⟨rfl, rfl⟩ ⟨rfl, by decide⟩ (hO.o hF) (hO.p hF).1 ?_
      refine w_iload_n (pc' := 21) ⟨rfl, rfl⟩ rfl ?_
      refine w_iald (pc' := 22) ⟨rfl, rfl⟩ (hO.a hF).1 (zixZ (by omega)) (hS.2.2.2 i (by omega)).1 ?_
      refine w_iload_n (pc' := 23) ⟨rfl, rfl⟩ rfl ?_
      refine w_icF_ne (pc' := 26) ⟨rfl, rfl⟩ (by omega) ?_
      refine w_iload_n (pc' := 27) ⟨rfl, rfl⟩ rfl ?_
      refine w_ireturn (pc' := 28) ⟨rfl, rfl⟩ (Or.inl rfl) ?_
      exact k
    · have hne := zfN_ne (f := i) (g := g) (by omega) (by omega) he
      refine w_iload_n (pc' := 3) ⟨rfl, rfl⟩ rfl ?_
      refine w_aload_n (pc' := 4) ⟨rfl, rfl⟩ rfl ?_
      refine w_getI (pc' := 7) (cl := 6) (q := 5) ⟨rfl, rfl⟩ ⟨rfl, by decide⟩ (hO.o hF) hS.2.1 ?_
      refine w_icF_ge (pc' := 10) ⟨rfl, rfl⟩ (by omega) ?_
      refine w_iload_n (pc' := 11) ⟨rfl, rfl⟩ rfl ?_
      refine w_bi (pc' := 13) ⟨rfl, rfl⟩ (by decide) ?_
      refine w_icF_ge (pc' := 16) ⟨rfl, rfl⟩ (by omega) ?_
      refine w_aload_n (pc' := 17) ⟨rfl, rfl⟩ rfl ?_
      refine w_getR (pc' := 20) (cl := 6) (q := 0) ⟨rfl, rfl⟩ ⟨rfl, by decide⟩ (hO.o hF) (hO.p hF).1 ?_
      refine w_iload_n (pc' := 21) ⟨rfl, rfl⟩ rfl ?_
      refine w_iald (pc' := 22) ⟨rfl, rfl⟩ (hO.a hF).1 (zixZ (by omega)) (hS.2.2.2 i (by omega)).1 ?_
      refine w_iload_n (pc' := 23) ⟨rfl, rfl⟩ rfl ?_
      refine w_icT_ne (pc' := 26) (pcT := 28) ⟨rfl, rfl⟩ rfl (by omega) ?_
      refine w_iincZ (pc' := 31) ⟨rfl, rfl⟩ rfl rfl ?_
      refine w_goto (pc' := 34) (pcT := 2) ⟨rfl, rfl⟩ rfl ?_
      refine w_at (ls2 := [(0, .ref o), (1, .int (iZ (zfN g))), (2, .int (iZ ((i + 1 : Nat) : Int)))]) ?_ (ih (i + 1) (by omega) (by omega) k)
      exact ⟨rfl, rfl, rfl, trivial⟩
theorem c_fonI {σ : zSt} (hF : zFx σ) {o : Nat} (hO : zIsS o) {nm : Int} {n : Nat} {K C : Nat → Int} (hS : zShp σ o nm n K C) (hn : n ≤ 6) {g : Nat} (hg : g < n) {Q : zSt → Option Value → Prop} (k : Q σ (some (.int (iZ (g : Int))))) : zCa 77 [.ref o, .int (iZ (zfN g))] σ Q := by
  refine w_enter (c := zk_X8_fieldOfName) (ls2 := [(0, .ref o), (1, .int (iZ (zfN g)))]) rfl ⟨rfl, rfl, trivial⟩ ?_
  refine w_ic (pc' := 1) ⟨rfl, rfl⟩ ?_
  refine w_istore_n (pc' := 2) ⟨rfl, rfl⟩ rfl ?_
  refine w_at (ls2 := [(0, .ref o), (1, .int (iZ (zfN g))), (2, .int (iZ ((0 : Nat) : Int)))]) ?_ (l_fonI hF hO hS hn hg n 0 (by omega) (by omega) k)
  exact ⟨rfl, rfl, rfl, trivial⟩
theorem zFx_wI' {σ : zSt} {o k : Nat} {v : Int32} (h : zFx σ) : zFx (zwI σ o k v) := (zFm.wI (w := [o]) List.mem_cons_self).fx h
theorem c_addField {σ : zSt} (hF : zFx σ) {o : Nat} (hO : zIsS o) {nm : Int} {n : Nat} {K C : Nat → Int} (hS : zShp σ o nm n K C) (hn : n < 6) {kd : Int} {Q : zSt → Option Value → Prop} (k : ∀ σ1, zFm [o, o + 1, o + 2, o + 3, o + 4] σ σ1 → (∀ K' C' : Nat → Int, (∀ g, g < n → K' g = K g ∧ C' g = C g) → K' n = kd → C' n = 1 → zShp σ1 o nm (n + 1) K' C') → Q σ1 none) : zCa 72 [.ref o, .int (iZ (zfN n)), .int (iZ kd)] σ Q := by
  refine w_enter (c := zk_X8_addField) (ls2 := [(0, .ref o), (1, .int (iZ (zfN n))), (2, .int (iZ kd))]) rfl ⟨rfl, rfl, rfl, trivial⟩ ?_
  refine w_aload_n (pc' := 1) ⟨rfl, rfl⟩ rfl ?_
  refine w_getI (pc' := 4) (cl := 6) (q := 5) ⟨rfl, rfl⟩ ⟨rfl, by decide⟩ (hO.o hF) hS.2.1 ?_
  refine w_ifF_lt (pc' := 7) ⟨rfl, rfl⟩ (by omega) ?_
  refine w_aload_n (pc' := 8) ⟨rfl, rfl⟩ rfl ?_
  refine w_getI (pc' := 11) (cl := 6) (q := 5) ⟨rfl, rfl⟩ ⟨rfl, by decide⟩ (hO.o hF) hS.2.1 ?_
  refine w_bi (pc' := 13) ⟨rfl, rfl⟩ (by decide) ?_
  refine w_icF_ge (pc' := 16) ⟨rfl, rfl⟩ (by omega) ?_
  refine w_aload_n (pc' := 17) ⟨rfl, rfl⟩ rfl ?_
  refine w_getR (pc' := 20) (cl := 6) (q := 0) ⟨rfl, rfl⟩ ⟨rfl, by decide⟩ (hO.o hF) (hO.p hF).1 ?_
  refine w_aload_n (pc' := 21) ⟨rfl, rfl⟩ rfl ?_
  refine w_getI (pc' := 24) (cl := 6) (q := 5) ⟨rfl, rfl⟩ ⟨rfl, by decide⟩ (hO.o hF) hS.2.1 ?_
  refine w_iload_n (pc' := 25) ⟨rfl, rfl⟩ rfl ?_
  refine w_iast (pc' := 26) ⟨rfl, rfl⟩ (hO.a hF).1 (zixZ (by omega)) ?_
  refine w_aload_n (pc' := 27) ⟨rfl, rfl⟩ rfl ?_
  refine w_getR (pc' := 30) (cl := 6) (q := 1) ⟨rfl, rfl⟩ ⟨rfl, by decide⟩ (hO.o (zFx_wI' hF)) (hO.p hF).2.1 ?_
  refine w_aload_n (pc' := 31) ⟨rfl, rfl⟩ rfl ?_
  refine w_getI (pc' := 34) (cl := 6) (q := 5) ⟨rfl, rfl⟩ ⟨rfl, by decide⟩ (hO.o (zFx_wI' hF)) ((zI_wI_n (by omega)).trans hS.2.1) ?_
  refine w_iload_n (pc' := 35) ⟨rfl, rfl⟩ rfl ?_
  refine w_iast (pc' := 36) ⟨rfl, rfl⟩ (hO.a (zFx_wI' hF)).2.1 (zixZ (by omega)) ?_
  refine w_aload_n (pc' := 37) ⟨rfl, rfl⟩ rfl ?_
  refine w_getR (pc' := 40) (cl := 6) (q := 2) ⟨rfl, rfl⟩ ⟨rfl, by decide⟩ (hO.o (zFx_wI' (zFx_wI' hF))) (hO.p hF).2.2.1 ?_
  refine w_aload_n (pc' := 41) ⟨rfl, rfl⟩ rfl ?_
  refine w_getI (pc' := 44) (cl := 6) (q := 5) ⟨rfl, rfl⟩ ⟨rfl, by decide⟩ (hO.o (zFx_wI' (zFx_wI' hF))) ((zI_wI_n (by omega)).trans ((zI_wI_n (by omega)).trans hS.2.1)) ?_
  refine w_ic (pc' := 45) ⟨rfl, rfl⟩ ?_
  refine w_iast (pc' := 46) ⟨rfl, rfl⟩ (hO.a (zFx_wI' (zFx_wI' hF))).2.2.1 (zixZ (by omega)) ?_
  refine w_aload_n (pc' := 47) ⟨rfl, rfl⟩ rfl ?_
  refine w_getR (pc' := 50) (cl := 6) (q := 3) ⟨rfl, rfl⟩ ⟨rfl, by decide⟩ (hO.o (zFx_wI' (zFx_wI' (zFx_wI' hF)))) (hO.p hF).2.2.2 ?_
  refine w_aload_n (pc' := 51) ⟨rfl, rfl⟩ rfl ?_
  refine w_getI (pc' := 54) (cl := 6) (q := 5) ⟨rfl, rfl⟩ ⟨rfl, by decide⟩ (hO.o (zFx_wI' (zFx_wI' (zFx_wI' hF)))) ((zI_wI_n (by omega)).trans ((zI_wI_n (by omega)).trans ((zI_wI_n (by omega)).trans hS.2.1))) ?_
  refine w_aload_n (pc' := 55) ⟨rfl, rfl⟩ rfl ?_
  refine w_getI (pc' := 58) (cl := 6) (q := 6) ⟨rfl, rfl⟩ ⟨rfl, by decide⟩ (hO.o (zFx_wI' (zFx_wI' (zFx_wI' hF)))) ((zI_wI_n (by omega)).trans ((zI_wI_n (by omega)).trans ((zI_wI_n (by omega)).trans hS.2.2.1))) ?_
  refine w_iast (pc' := 59) ⟨rfl, rfl⟩ (hO.a (zFx_wI' (zFx_wI' (zFx_wI' hF)))).2.2.2 (zixZ (by omega)) ?_
  refine w_aload_n (pc' := 60) ⟨rfl, rfl⟩ rfl ?_
  refine w_dupR (pc' := 61) ⟨rfl, rfl⟩ ?_
  refine w_getI (pc' := 64) (cl := 6) (q := 5) ⟨rfl, rfl⟩ ⟨rfl, by decide⟩ (hO.o (zFx_wI' (zFx_wI' (zFx_wI' (zFx_wI' hF))))) ((zI_wI_n (by omega)).trans ((zI_wI_n (by omega)).trans ((zI_wI_n (by omega)).trans ((zI_wI_n (by omega)).trans hS.2.1)))) ?_
  refine w_ic (pc' := 65) ⟨rfl, rfl⟩ ?_
  refine w_iaddZ (pc' := 66) ⟨rfl, rfl⟩ ?_
  refine w_putI (pc' := 69) (cl := 6) (q := 5) ⟨rfl, rfl⟩ ⟨rfl, by decide⟩ (hO.o (zFx_wI' (zFx_wI' (zFx_wI' (zFx_wI' hF))))) ?_
  refine w_aload_n (pc' := 70) ⟨rfl, rfl⟩ rfl ?_
  refine w_dupR (pc' := 71) ⟨rfl, rfl⟩ ?_
  refine w_getI (pc' := 74) (cl := 6) (q := 6) ⟨rfl, rfl⟩ ⟨rfl, by decide⟩ (hO.o (zFx_wI' (zFx_wI' (zFx_wI' (zFx_wI' (zFx_wI' hF)))))) ((zI_wI_n (by omega)).trans ((zI_wI_n (by omega)).trans ((zI_wI_n (by omega)).trans ((zI_wI_n (by omega)).trans ((zI_wI_n (by omega)).trans hS.2.2.1))))) ?_
  refine w_ic (pc' := 75) ⟨rfl, rfl⟩ ?_
  refine w_iaddZ (pc' := 76) ⟨rfl, rfl⟩ ?_
  refine w_putI (pc' := 79) (cl := 6) (q := 6) ⟨rfl, rfl⟩ ⟨rfl, by decide⟩ (hO.o (zFx_wI' (zFx_wI' (zFx_wI' (zFx_wI' (zFx_wI' hF)))))) ?_
  refine w_return (pc' := 80) ⟨rfl, rfl⟩ ?_
  refine k _ ((((((zFm.wI (by simp)).trans (zFm.wI (by simp))).trans (zFm.wI (by simp))).trans (zFm.wI (by simp))).trans (zFm.wI (by simp))).trans (zFm.wI (by simp))) (fun K' C' hg hk hc => ⟨?_, ?_, ?_, fun f hf => ?_⟩)
  · repeat (first | rw [zI_wI_s] | rw [zI_wI_n (by omega)])
    exact hS.1
  · rw [zI_wI_n (by omega), zI_wI_s]; rfl
  · rw [zI_wI_s, zsu, hc, zsu_eq (fun g h => (hg g h).2)]
  · rcases (show f < n ∨ f = n by omega) with h | rfl
    · have hq := hS.2.2.2 f h
      rw [(hg f h).1, (hg f h).2, zsu_eq (fun g h' => (hg g (Nat.lt_trans h' h)).2)]
      refine ⟨?_, ?_, ?_, ?_⟩
      · repeat rw [zI_wI_n (by omega)]
        exact hq.1
      · repeat rw [zI_wI_n (by omega)]
        exact hq.2.1
      · repeat rw [zI_wI_n (by omega)]
        exact hq.2.2.1
      · repeat rw [zI_wI_n (by omega)]
        exact hq.2.2.2
    · rw [hk, hc, zsu_eq (fun g h' => (hg g h').2)]
      refine ⟨?_, ?_, ?_, ?_⟩
      · rw [zI_wI_n (by omega), zI_wI_n (by omega), zI_wI_n (by omega), zI_wI_n (by omega), zI_wI_n (by omega), zI_wI_s]
      · rw [zI_wI_n (by omega), zI_wI_n (by omega), zI_wI_n (by omega), zI_wI_n (by omega), zI_wI_s]
      · rw [zI_wI_n (by omega), zI_wI_n (by omega), zI_wI_n (by omega), zI_wI_s]
      · rw [zI_wI_n (by omega), zI_wI_n (by omega), zI_wI_s]
theorem c_hasF2 {σ : zSt} (hF : zFx σ) {o : Nat} (hO : zIsS o) {nm : Int} {n : Nat} {K C : Nat → Int} (hS : zShp σ o nm n K C) (hn : n ≤ 6) {g : Nat} (hg : g < n) {Q : zSt → Option Value → Prop} (k : Q σ (some (.int (iZ 1)))) : zCa 74 [.ref o, .int (iZ (g : Int))] σ Q := by
  refine w_enter (c := zk_X8_hasField) (ls2 := [(0, .ref o), (1, .int (iZ (g : Int)))]) rfl ⟨rfl, rfl, trivial⟩ ?_
  refine w_iload_n (pc' := 1) ⟨rfl, rfl⟩ rfl ?_
  refine w_ifF_lt (pc' := 4) ⟨rfl, rfl⟩ (by omega) ?_
  refine w_iload_n (pc' := 5) ⟨rfl, rfl⟩ rfl ?_
  refine w_aload_n (pc' := 6) ⟨rfl, rfl⟩ rfl ?_
  refine w_getI (pc' := 9) (cl := 6) (q := 5) ⟨rfl, rfl⟩ ⟨rfl, by decide⟩ (hO.o hF) hS.2.1 ?_
  refine w_icF_ge (pc' := 12) ⟨rfl, rfl⟩ (by omega) ?_
  refine w_iload_n (pc' := 13) ⟨rfl, rfl⟩ rfl ?_
  refine w_bi (pc' := 15) ⟨rfl, rfl⟩ (by decide) ?_
  refine w_icF_ge (pc' := 18) ⟨rfl, rfl⟩ (by omega) ?_
  refine w_ic (pc' := 19) ⟨rfl, rfl⟩ ?_
  refine w_goto (pc' := 22) (pcT := 23) ⟨rfl, rfl⟩ rfl ?_
  refine w_ireturn (pc' := 24) ⟨rfl, rfl⟩ (by decide) ?_
  exact k
theorem c_repeatLast {σ : zSt} (hF : zFx σ) {o : Nat} (hO : zIsS o) {nm : Int} {n : Nat} {K C : Nat → Int} (hS : zShp σ o nm (n + 1) K C) (hn : n < 6) {v : Int} {Q : zSt → Option Value → Prop} (k : ∀ σ1, zFm [o, o + 3] σ σ1 → (∀ C' : Nat → Int, (∀ g, g < n → C' g = C g) → C' n = v → zShp σ1 o nm (n + 1) K C') → Q σ1 none) : zCa 73 [.ref o, .int (iZ v)] σ Q := by
  refine w_enter (c := zk_X8_repeatLast) (ls2 := [(0, .ref o), (1, .int (iZ v))]) rfl ⟨rfl, rfl, trivial⟩ ?_
  refine w_aload_n (pc' := 1) ⟨rfl, rfl⟩ rfl ?_
  refine w_aload_n (pc' := 2) ⟨rfl, rfl⟩ rfl ?_
  refine w_getI (pc' := 5) (cl := 6) (q := 5) ⟨rfl, rfl⟩ ⟨rfl, by decide⟩ (hO.o hF) hS.2.1 ?_
  refine w_ic (pc' := 6) ⟨rfl, rfl⟩ ?_
  refine w_isubZ (pc' := 7) ⟨rfl, rfl⟩ ?_
  refine w_topI (show _ = iZ ((n : Nat) : Int) from congrArg iZ (by omega)) ?_
  refine w_cv2 (pc' := 10) ⟨rfl, rfl⟩ (by decide) (hO.o hF) (Nat.le_of_ble_eq_true rfl) (Nat.le_of_ble_eq_true rfl) (c_hasF2 hF hO hS (by omega) (g := n) (by omega) ?_)
  refine w_ifF_eq (pc' := 13) ⟨rfl, rfl⟩ (by decide) ?_
  refine w_aload_n (pc' := 14) ⟨rfl, rfl⟩ rfl ?_
  refine w_getR (pc' := 17) (cl := 6) (q := 2) ⟨rfl, rfl⟩ ⟨rfl, by decide⟩ (hO.o hF) (hO.p hF).2.2.1 ?_
  refine w_aload_n (pc' := 18) ⟨rfl, rfl⟩ rfl ?_
  refine w_getI (pc' := 21) (cl := 6) (q := 5) ⟨rfl, rfl⟩ ⟨rfl, by decide⟩ (hO.o hF) hS.2.1 ?_
  refine w_ic (pc' := 22) ⟨rfl, rfl⟩ ?_
  refine w_isubZ (pc' := 23) ⟨rfl, rfl⟩ ?_
  refine w_iload_n (pc' := 24) ⟨rfl, rfl⟩ rfl ?_
  refine w_iast (pc' := 25) ⟨rfl, rfl⟩ (hO.a hF).2.2.1 (zixA (j := n) (by omega)) ?_
  refine w_aload_n (pc' := 26) ⟨rfl, rfl⟩ rfl ?_
  refine w_aload_n (pc' := 27) ⟨rfl, rfl⟩ rfl ?_
  refine w_getR (pc' := 30) (cl := 6) (q := 3) ⟨rfl, rfl⟩ ⟨rfl, by decide⟩ (hO.o (zFx_wI' hF)) (hO.p hF).2.2.2 ?_
  refine w_aload_n (pc' := 31) ⟨rfl, rfl⟩ rfl ?_
  refine w_getI (pc' := 34) (cl := 6) (q := 5) ⟨rfl, rfl⟩ ⟨rfl, by decide⟩ (hO.o (zFx_wI' hF)) ((zI_wI_n (by omega)).trans hS.2.1) ?_
  refine w_ic (pc' := 35) ⟨rfl, rfl⟩ ?_
  refine w_isubZ (pc' := 36) ⟨rfl, rfl⟩ ?_
  refine w_iald (pc' := 37) ⟨rfl, rfl⟩ (hO.a (zFx_wI' hF)).2.2.2 (zixA (j := n) (by omega)) ((zI_wI_n (by omega)).trans (hS.2.2.2 n (by omega)).2.2.2) ?_
  refine w_iload_n (pc' := 38) ⟨rfl, rfl⟩ rfl ?_
  refine w_iaddZ (pc' := 39) ⟨rfl, rfl⟩ ?_
  refine w_putI (pc' := 42) (cl := 6) (q := 6) ⟨rfl, rfl⟩ ⟨rfl, by decide⟩ (hO.o (zFx_wI' hF)) ?_
  refine w_return (pc' := 43) ⟨rfl, rfl⟩ ?_
  refine k _ ((zFm.wI (by simp)).trans (zFm.wI (by simp))) (fun C' hg hc => ⟨?_, ?_, ?_, fun f hf => ?_⟩)
  · rw [zI_wI_n (by omega), zI_wI_n (by omega)]; exact hS.1
  · rw [zI_wI_n (by omega), zI_wI_n (by omega)]; exact hS.2.1
  · rw [zI_wI_s, zsu, hc, zsu_eq hg]
  · have hq := hS.2.2.2 f hf
    rcases (show f < n ∨ f = n by omega) with h | rfl
    · rw [hg f h, zsu_eq (fun g h' => hg g (Nat.lt_trans h' h))]
      refine ⟨?_, ?_, ?_, ?_⟩
      · repeat rw [zI_wI_n (by omega)]
        exact hq.1
      · repeat rw [zI_wI_n (by omega)]
        exact hq.2.1
      · repeat rw [zI_wI_n (by omega)]
        exact hq.2.2.1
      · repeat rw [zI_wI_n (by omega)]
        exact hq.2.2.2
    · rw [hc, zsu_eq hg]
      refine ⟨?_, ?_, ?_, ?_⟩
      · repeat rw [zI_wI_n (by omega)]
        exact hq.1
      · repeat rw [zI_wI_n (by omega)]
        exact hq.2.1
      · rw [zI_wI_n (by omega), zI_wI_s]
      · repeat rw [zI_wI_n (by omega)]
        exact hq.2.2.2
