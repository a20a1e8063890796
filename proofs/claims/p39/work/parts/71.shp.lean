/-! THE READER: a scheme -/
/-- names: of scheme s, of field f -/
def zsN (s : Nat) : Int := 19 * 2 ^ 25 + ((s : Int) + 1) * 2 ^ 20
def zfN (f : Nat) : Int := 6 * 2 ^ 25 + ((f : Int) + 1) * 2 ^ 20
/-- where cells begin -/
def zsu (C : Nat → Int) : Nat → Int
  | 0 => 0
  | n + 1 => zsu C n + C n
theorem zsu_eq {C D : Nat → Int} : ∀ {n : Nat}, (∀ g, g < n → C g = D g) → zsu C n = zsu D n
  | 0, _ => rfl
  | n + 1, h => by rw [zsu, zsu, zsu_eq (fun g hg => h g (by omega)), h n (by omega)]
theorem zsu_rng {C : Nat → Int} : ∀ {n : Nat}, (∀ g, g < n → 1 ≤ C g ∧ C g ≤ 4) → (n : Int) ≤ zsu C n ∧ zsu C n ≤ 4 * n
  | 0, _ => by simp [zsu]
  | n + 1, h => by
    have h1 := zsu_rng (C := C) (n := n) (fun g hg => h g (by omega))
    have h2 := h n (by omega)
    rw [zsu]
    omega
/-- a scheme's object o: n fields -/
def zShp (σ : zSt) (o : Nat) (nm : Int) (n : Nat) (K C : Nat → Int) : Prop := zI σ o 4 = iZ nm ∧ zI σ o 5 = iZ (n : Int) ∧ zI σ o 6 = iZ (zsu C n) ∧ ∀ f : Nat, f < n → zI σ (o + 1) f = iZ (zfN f) ∧ zI σ (o + 2) f = iZ (K f) ∧ zI σ (o + 3) f = iZ (C f) ∧ zI σ (o + 4) f = iZ (zsu C f)
theorem zShp.fr {w : List Nat} {σ σ' : zSt} {o : Nat} {nm : Int} {n : Nat} {K C : Nat → Int} (h : zShp σ o nm n K C) (f : zFk w σ σ') (h0 : o ∉ w) (h1 : o + 1 ∉ w) (h2 : o + 2 ∉ w) (h3 : o + 3 ∉ w) (h4 : o + 4 ∉ w) : zShp σ' o nm n K C := ⟨f.i h.1 h0, f.i h.2.1 h0, f.i h.2.2.1 h0, fun g hg => ⟨f.i (h.2.2.2 g hg).1 h1, f.i (h.2.2.2 g hg).2.1 h2, f.i (h.2.2.2 g hg).2.2.1 h3, f.i (h.2.2.2 g hg).2.2.2 h4⟩⟩
theorem c_sbegin {σ : zSt} (hF : zFx σ) {o : Nat} (hO : zIsS o) {nm : Int} {Q : zSt → Option Value → Prop} (k : ∀ σ1, zFm [o] σ σ1 → (∀ K C, zShp σ1 o nm 0 K C) → Q σ1 none) : zCa 71 [.ref o, .int (iZ nm)] σ Q := by
  refine w_enter (c := zk_X8_begin) (ls2 := [(0, .ref o), (1, .int (iZ nm))]) rfl ⟨rfl, rfl, trivial⟩ ?_
  refine w_aload_n (pc' := 1) ⟨rfl, rfl⟩ rfl ?_
  refine w_iload_n (pc' := 2) ⟨rfl, rfl⟩ rfl ?_
  refine w_putI (pc' := 5) (cl := 6) (q := 4) ⟨rfl, rfl⟩ ⟨rfl, by decide⟩ (hO.o hF) ?_
  refine w_aload_n (pc' := 6) ⟨rfl, rfl⟩ rfl ?_
  refine w_ic (pc' := 7) ⟨rfl, rfl⟩ ?_
  refine w_putI (pc' := 10) (cl := 6) (q := 5) ⟨rfl, rfl⟩ ⟨rfl, by decide⟩ (hO.o hF) ?_
  refine w_aload_n (pc' := 11) ⟨rfl, rfl⟩ rfl ?_
  refine w_ic (pc' := 12) ⟨rfl, rfl⟩ ?_
  refine w_putI (pc' := 15) (cl := 6) (q := 6) ⟨rfl, rfl⟩ ⟨rfl, by decide⟩ (hO.o hF) ?_
  refine w_return (pc' := 16) ⟨rfl, rfl⟩ ?_
  refine k _ (((zFm.wI List.mem_cons_self).trans (zFm.wI List.mem_cons_self)).trans (zFm.wI List.mem_cons_self)) (fun K C => ⟨?_, ?_, zI_wI_s, fun f hf => absurd hf (by omega)⟩)
  · rw [zI_wI_n (Or.inr (by decide)), zI_wI_n (Or.inr (by decide)), zI_wI_s]
  · rw [zI_wI_n (Or.inr (by decide)), zI_wI_s]; rfl
theorem zfN_ne {f g : Nat} (hf : f ≤ 10) (hg : g ≤ 10) (h : f ≠ g) : zfN f ≠ zfN g := by unfold zfN; omega
theorem zfN_rng {f : Nat} (hf : f ≤ 10) : 0 ≤ zfN f ∧ zfN f ≤ 2147483647 := by unfold zfN; omega
theorem zsN_rng {f : Nat} (hf : f ≤ 10) : 0 ≤ zsN f ∧ zsN f ≤ 2147483647 := by unfold zsN; omega
theorem l_fonN {σ : zSt} (hF : zFx σ) {o : Nat} (hO : zIsS o) {nm : Int} {n : Nat} {K C : Nat → Int} (hS : zShp σ o nm n K C) (hn : n ≤ 6) {v : Int} (hv : ∀ f : Nat, f < n → zfN f ≠ v) (hvr : -2147483648 ≤ v ∧ v ≤ 2147483647) {Q : zSt → Option Value → Prop} : ∀ (m : Nat) (i : Nat), i + m = n → (Q σ (some (.int (iZ (-1))))) → zP zk_X8_fieldOfName 2 [(0, .ref o), (1, .int (iZ v)), (2, .int (iZ (i : Int)))] [] σ Q := by
  intro m
  induction m with
  | zero =>
    intro i hi k
    refine w_iload_n (pc' := 3) ⟨rfl, rfl⟩ rfl ?_
    refine w_aload_n (pc' := 4) ⟨rfl, rfl⟩ rfl ?_
    refine w_getI (pc' := 7) (cl := 6) (q := 5) ⟨rfl, rfl⟩ ⟨rfl, by decide⟩ (hO.o hF) hS.2.1 ?_
    refine w_icT_ge (pc' := 10) (pcT := 34) ⟨rfl, rfl⟩ rfl (by omega) ?_
    refine w_ic (pc' := 35) ⟨rfl, rfl⟩ ?_
    refine w_ireturn (pc' := 36) ⟨rfl, rfl⟩ (Or.inl rfl) ?_
    exact k
  | succ m ih =>
    intro i hi k
    have hne := hv i (by omega)
    have hr := zfN_rng (f := i) (by omega)
    refine w_iload_n (pc' := 3) ⟨rfl, rfl⟩ rfl ?_
    refine w_aload_n (pc' := 4) ⟨rfl, rfl⟩ rfl ?_
    refine w_getI (pc' := 7) (cl := 6) (q := 5) ⟨rfl, rfl⟩ ⟨rfl, by decide⟩ (hO.o hF) hS.2.1 ?_
    refine w_icF_ge (pc' := 10) ⟨rfl, rfl⟩ (by omega) ?_
    refine w_iload_n (pc' := 11) ⟨rfl, rfl⟩ rfl ?_
    refine w_bi (pc' := 13) ⟨rfl, rfl⟩ (by decide) ?_
    refine w_icF_ge (pc' := 16) ⟨rfl, rfl⟩ (by omega) ?_
    refine w_aload_n (pc' := 17) ⟨rfl, rfl⟩ rfl ?_
    refine w_getR (pc' := 20) (cl := 6) (q := 0) ⟨rfl, rfl⟩ ⟨rfl, by decide⟩ (hO.o hF) (hO.p hF).1 ?_
    refine w_iload_n (pc' := 21) ⟨rfl, rfl⟩ rfl ?_
    refine w_iald (pc' := 22) ⟨rfl, rfl⟩ (hO.a hF).1 (zixZ (by omega)) (hS.2.2.2 i (by omega)).1 ?_
    refine w_iload_n (pc' := 23) ⟨rfl, rfl⟩ rfl ?_
    refine w_icT_ne (pc' := 26) (pcT := 28) ⟨rfl, rfl⟩ rfl (by omega) ?_
    refine w_iincZ (pc' := 31) ⟨rfl, rfl⟩ rfl rfl ?_
    refine w_goto (pc' := 34) (pcT := 2) ⟨rfl, rfl⟩ rfl ?_
    refine w_at (ls2 := [(0, .ref o), (1, .int (iZ v)), (2, .int (iZ ((i + 1 : Nat) : Int)))]) ?_ (ih (i + 1) (by omega) k)
    exact ⟨rfl, rfl, rfl, trivial⟩
theorem c_fonN {σ : zSt} (hF : zFx σ) {o : Nat} (hO : zIsS o) {nm : Int} {n : Nat} {K C : Nat → Int} (hS : zShp σ o nm n K C) (hn : n ≤ 6) {v : Int} (hv : ∀ f : Nat, f < n → zfN f ≠ v) (hvr : -2147483648 ≤ v ∧ v ≤ 2147483647) {Q : zSt → Option Value → Prop} (k : Q σ (some (.int (iZ (-1))))) : zCa 77 [.ref o, .int (iZ v)] σ Q := by
  refine w_enter (c := zk_X8_fieldOfName) (ls2 := [(0, .ref o), (1, .int (iZ v))]) rfl ⟨rfl, rfl, trivial⟩ ?_
  refine w_ic (pc' := 1) ⟨rfl, rfl⟩ ?_
  refine w_istore_n (pc' := 2) ⟨rfl, rfl⟩ rfl ?_
  refine w_at (ls2 := [(0, .ref o), (1, .int (iZ v)), (2, .int (iZ ((0 : Nat) : Int)))]) ?_ (l_fonN hF hO hS hn hv hvr n 0 (by omega) k)
  exact ⟨rfl, rfl, rfl, trivial⟩
theorem l_fonI {σ : zSt} (hF : zFx σ) {o : Nat} (hO : zIsS o) {nm : Int} {n : Nat} {K C : Nat → Int} (hS : zShp σ o nm n K C) (hn : n ≤ 6) {g : Nat} (hg : g < n) {Q : zSt → Option Value → Prop} : ∀ (m : Nat) (i : Nat), i + m = n → i ≤ g → (Q σ (some (.int (iZ (g : Int))))) → zP zk_X8_fieldOfName 2 [(0, .ref o), (1, .int (iZ (zfN g))), (2, .int (iZ (i : Int)))] [] σ Q := by
  intro m
  induction m with
  | zero =>
    intro i hi hig k
    exfalso; omega
  | succ m ih =>
    intro i hi hig k
    have hr := zfN_rng (f := i) (by omega)
    have hr2 := zfN_rng (f := g) (by omega)
    by_cases he : i = g
    · subst he
      refine w_at (ls2 := [(0, .ref o), (1, .int (iZ (zfN g))), (2, .int (iZ ((i + 1 : Nat) : Int)))]) ?_ (ih (i + 1) (by omega) (by omega) k)
      exact ⟨rfl, rfl, rfl, trivial⟩
    · have hne := zfN_ne (f := i) (g := g) (by omega) (by omega) he
      refine w_at (ls2 := [(0, .ref o), (1, .int (iZ (zfN g))), (2, .int (iZ ((i + 1 : Nat) : Int)))]) ?_ (ih (i + 1) (by omega) (by omega) k)
      exact ⟨rfl, rfl, rfl, trivial⟩
theorem c_fonI {σ : zSt} (hF : zFx σ) {o : Nat} (hO : zIsS o) {nm : Int} {n : Nat} {K C : Nat → Int} (hS : zShp σ o nm n K C) (hn : n ≤ 6) {g : Nat} (hg : g < n) {Q : zSt → Option Value → Prop} (k : Q σ (some (.int (iZ (g : Int))))) : zCa 77 [.ref o, .int (iZ (zfN g))] σ Q := by
  refine w_enter (c := zk_X8_fieldOfName) (ls2 := [(0, .ref o), (1, .int (iZ (zfN g)))]) rfl ⟨rfl, rfl, trivial⟩ ?_
  refine w_ic (pc' := 1) ⟨rfl, rfl⟩ ?_
  refine w_istore_n (pc' := 2) ⟨rfl, rfl⟩ rfl ?_
  refine w_at (ls2 := [(0, .ref o), (1, .int (iZ (zfN g))), (2, .int (iZ ((0 : Nat) : Int)))]) ?_ (l_fonI hF hO hS hn hg n 0 (by omega) (by omega) k)
  exact ⟨rfl, rfl, rfl, trivial⟩
