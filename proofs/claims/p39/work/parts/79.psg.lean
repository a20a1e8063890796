/-! THE READER: a crossing, its rules -/
theorem c_psgI {σ : zSt} (hF : zFx σ) {n c : Nat} (hn : zI σ 5 3 = iZ (n : Int)) (hn4 : n ≤ 4) (hc : c < n) {Q : zSt → Option Value → Prop} (k : Q σ (some (.ref (5 + 18 + 8 * c)))) : zCa 45 [.ref 5, .int (iZ (c : Int))] σ Q := by
  refine w_enter (c := zk_X4_passage) (ls2 := [(0, .ref 5), (1, .int (iZ (c : Int)))]) rfl ⟨rfl, rfl, trivial⟩ ?_
  refine w_iload_n (pc' := 1) ⟨rfl, rfl⟩ rfl ?_
  refine w_ifF_lt (pc' := 4) ⟨rfl, rfl⟩ (by omega) ?_
  refine w_iload_n (pc' := 5) ⟨rfl, rfl⟩ rfl ?_
  refine w_aload_n (pc' := 6) ⟨rfl, rfl⟩ rfl ?_
  refine w_getI (pc' := 9) (cl := 3) (q := 3) ⟨rfl, rfl⟩ ⟨rfl, by decide⟩ (zOl hF rfl) hn ?_
  refine w_icF_ge (pc' := 12) ⟨rfl, rfl⟩ (by omega) ?_
  refine w_iload_n (pc' := 13) ⟨rfl, rfl⟩ rfl ?_
  refine w_ic (pc' := 14) ⟨rfl, rfl⟩ ?_
  refine w_icF_ge (pc' := 17) ⟨rfl, rfl⟩ (by omega) ?_
  refine w_ic (pc' := 18) ⟨rfl, rfl⟩ ?_
  refine w_goto (pc' := 21) (pcT := 22) ⟨rfl, rfl⟩ rfl ?_
  refine w_istore_n (pc' := 23) ⟨rfl, rfl⟩ rfl ?_
  refine w_iload_n (pc' := 24) ⟨rfl, rfl⟩ rfl ?_
  refine w_ifF_eq (pc' := 27) ⟨rfl, rfl⟩ (by decide) ?_
  refine w_aload_n (pc' := 28) ⟨rfl, rfl⟩ rfl ?_
  refine w_getR (pc' := 31) (cl := 3) (q := 1) ⟨rfl, rfl⟩ ⟨rfl, by decide⟩ (zOl hF rfl) (hF.2 5 1 7 rfl) ?_
  refine w_iload_n (pc' := 32) ⟨rfl, rfl⟩ rfl ?_
  refine w_aald (pc' := 33) ⟨rfl, rfl⟩ (zAl hF rfl) (by decide) (zixA (j := c) (by omega)) (zB5.g hF (by omega)).1 ?_
  refine w_goto (pc' := 36) (pcT := 37) ⟨rfl, rfl⟩ rfl ?_
  refine w_areturn (pc' := 38) ⟨rfl, rfl⟩ ?_
  exact k
theorem c_pbegin {σ : zSt} (hF : zFx σ) {o : Nat} (hO : zIsG o) {a b : Int} {Q : zSt → Option Value → Prop} (k : ∀ σ1, zFm [o] σ σ1 → zI σ1 o 3 = iZ 0 → Q σ1 none) : zCa 38 [.ref o, .int (iZ a), .int (iZ b)] σ Q := by
  refine w_enter (c := zk_X3_begin) (ls2 := [(0, .ref o), (1, .int (iZ a)), (2, .int (iZ b))]) rfl ⟨rfl, rfl, rfl, trivial⟩ ?_
  refine w_aload_n (pc' := 1) ⟨rfl, rfl⟩ rfl ?_
  refine w_iload_n (pc' := 2) ⟨rfl, rfl⟩ rfl ?_
  refine w_putI (pc' := 5) (cl := 2) (q := 1) ⟨rfl, rfl⟩ ⟨rfl, by decide⟩ (hO.o hF) ?_
  refine w_aload_n (pc' := 6) ⟨rfl, rfl⟩ rfl ?_
  refine w_iload_n (pc' := 7) ⟨rfl, rfl⟩ rfl ?_
  refine w_putI (pc' := 10) (cl := 2) (q := 2) ⟨rfl, rfl⟩ ⟨rfl, by decide⟩ (hO.o hF) ?_
  refine w_aload_n (pc' := 11) ⟨rfl, rfl⟩ rfl ?_
  refine w_ic (pc' := 12) ⟨rfl, rfl⟩ ?_
  refine w_putI (pc' := 15) (cl := 2) (q := 3) ⟨rfl, rfl⟩ ⟨rfl, by decide⟩ (hO.o hF) ?_
  refine w_return (pc' := 16) ⟨rfl, rfl⟩ ?_
  exact k _ (((zFm.wI List.mem_cons_self).trans (zFm.wI List.mem_cons_self)).trans (zFm.wI List.mem_cons_self)) zI_wI_s
theorem c_addPsg {σ : zSt} (hF : zFx σ) {c : Nat} (hc : c < 4) (h53 : zI σ 5 3 = iZ (c : Int)) {b : Int32} (h52 : zI σ 5 2 = b) {x y : Int} {Q : zSt → Option Value → Prop} (k : ∀ σ2, zFm [5, 5 + 18 + 8 * c] σ σ2 → zI σ2 5 3 = iZ ((c + 1 : Nat) : Int) → zI σ2 5 2 = b → zI σ2 (5 + 18 + 8 * c) 3 = iZ 0 → Q σ2 (some (.ref (5 + 18 + 8 * c)))) : zCa 47 [.ref 5, .int (iZ x), .int (iZ y)] σ Q := by
  refine w_enter (c := zk_X4_addPassage) (ls2 := [(0, .ref 5), (1, .int (iZ x)), (2, .int (iZ y))]) rfl ⟨rfl, rfl, rfl, trivial⟩ ?_
  refine w_aload_n (pc' := 1) ⟨rfl, rfl⟩ rfl ?_
  refine w_getI (pc' := 4) (cl := 3) (q := 3) ⟨rfl, rfl⟩ ⟨rfl, by decide⟩ (zOl hF rfl) h53 ?_
  refine w_ic (pc' := 5) ⟨rfl, rfl⟩ ?_
  refine w_icT_lt (pc' := 8) (pcT := 10) ⟨rfl, rfl⟩ rfl (by omega) ?_
  refine w_aload_n (pc' := 11) ⟨rfl, rfl⟩ rfl ?_
  refine w_dupR (pc' := 12) ⟨rfl, rfl⟩ ?_
  refine w_getI (pc' := 15) (cl := 3) (q := 3) ⟨rfl, rfl⟩ ⟨rfl, by decide⟩ (zOl hF rfl) h53 ?_
  refine w_ic (pc' := 16) ⟨rfl, rfl⟩ ?_
  refine w_iaddZ (pc' := 17) ⟨rfl, rfl⟩ ?_
  refine w_putI (pc' := 20) (cl := 3) (q := 3) ⟨rfl, rfl⟩ ⟨rfl, by decide⟩ (zOl hF rfl) ?_
  refine w_gI (fun σ1 m1 e1 o1 => ?_)
  have hF1 := m1.fx hF
  refine w_aload_n (pc' := 21) ⟨rfl, rfl⟩ rfl ?_
  refine w_aload_n (pc' := 22) ⟨rfl, rfl⟩ rfl ?_
  refine w_getI (pc' := 25) (cl := 3) (q := 3) ⟨rfl, rfl⟩ ⟨rfl, by decide⟩ (zOl hF1 rfl) e1 ?_
  refine w_ic (pc' := 26) ⟨rfl, rfl⟩ ?_
  refine w_isubZ (pc' := 27) ⟨rfl, rfl⟩ ?_
  refine w_topI (show _ = iZ ((c : Nat) : Int) from congrArg iZ (by omega)) ?_
  refine w_cv2 (pc' := 30) ⟨rfl, rfl⟩ (by decide) (zOl hF1 rfl) (Nat.le_of_ble_eq_true rfl) (Nat.le_of_ble_eq_true rfl) (c_psgI hF1 (n := c + 1) (e1.trans (congrArg iZ (by omega))) (by omega) (by omega) ?_)
  refine w_astore_n (pc' := 31) ⟨rfl, rfl⟩ rfl ?_
  refine w_aload_n (pc' := 32) ⟨rfl, rfl⟩ rfl ?_
  refine w_ifnullR (pc' := 35) (pcT := 41) ⟨rfl, rfl⟩ rfl  ?_
  refine w_aload_n (pc' := 36) ⟨rfl, rfl⟩ rfl ?_
  refine w_iload_n (pc' := 37) ⟨rfl, rfl⟩ rfl ?_
  refine w_iload_n (pc' := 38) ⟨rfl, rfl⟩ rfl ?_
  refine w_cv3 (pc' := 41) ⟨rfl, rfl⟩ (by decide) ((zB5.g hF1 (by omega)).2.o hF1) (Nat.le_of_ble_eq_true rfl) (Nat.le_of_ble_eq_true rfl) (c_pbegin hF1 (zB5.g hF1 (by omega)).2 (fun σ2 m2 s2 => ?_))
  refine w_aload_n (pc' := 42) ⟨rfl, rfl⟩ rfl ?_
  refine w_areturn (pc' := 43) ⟨rfl, rfl⟩ ?_
  exact k _ ((m1.mono (by simp)).trans (m2.mono (by simp))) (m2.i (e1.trans (congrArg iZ (by omega))) (by simp; omega)) (m2.i ((o1 2 (by decide)).trans h52) (by simp; omega)) s2
theorem c_rulI {σ : zSt} (hF : zFx σ) {o : Nat} (hO : zIsG o) {n : Nat} (hn : zI σ o 3 = iZ (n : Int)) (hn6 : n ≤ 6) {r : Nat} (hr : r < n) {Q : zSt → Option Value → Prop} (k : Q σ (some (.ref (o + 2 + r)))) : zCa 39 [.ref o, .int (iZ (r : Int))] σ Q := by
  refine w_enter (c := zk_X3_ruleAt) (ls2 := [(0, .ref o), (1, .int (iZ (r : Int)))]) rfl ⟨rfl, rfl, trivial⟩ ?_
  refine w_iload_n (pc' := 1) ⟨rfl, rfl⟩ rfl ?_
  refine w_ifF_lt (pc' := 4) ⟨rfl, rfl⟩ (by omega) ?_
  refine w_iload_n (pc' := 5) ⟨rfl, rfl⟩ rfl ?_
  refine w_aload_n (pc' := 6) ⟨rfl, rfl⟩ rfl ?_
  refine w_getI (pc' := 9) (cl := 2) (q := 3) ⟨rfl, rfl⟩ ⟨rfl, by decide⟩ (hO.o hF) hn ?_
  refine w_icF_ge (pc' := 12) ⟨rfl, rfl⟩ (by omega) ?_
  refine w_iload_n (pc' := 13) ⟨rfl, rfl⟩ rfl ?_
  refine w_bi (pc' := 15) ⟨rfl, rfl⟩ (by decide) ?_
  refine w_icF_ge (pc' := 18) ⟨rfl, rfl⟩ (by omega) ?_
  refine w_aload_n (pc' := 19) ⟨rfl, rfl⟩ rfl ?_
  refine w_getR (pc' := 22) (cl := 2) (q := 0) ⟨rfl, rfl⟩ ⟨rfl, by decide⟩ (hO.o hF) (hO.p hF) ?_
  refine w_iload_n (pc' := 23) ⟨rfl, rfl⟩ rfl ?_
  refine w_aald (pc' := 24) ⟨rfl, rfl⟩ (hO.a hF) (by decide) (zixA (j := r) (by omega)) (hO.r hF (by omega)).1 ?_
  refine w_goto (pc' := 27) (pcT := 28) ⟨rfl, rfl⟩ rfl ?_
  refine w_areturn (pc' := 29) ⟨rfl, rfl⟩ ?_
  exact k
theorem c_addRule {σ : zSt} (hF : zFx σ) {o : Nat} (hO : zIsG o) {n : Nat} (hn : zI σ o 3 = iZ (n : Int)) (hn6 : n < 6) {Q : zSt → Option Value → Prop} (k : ∀ σ1, zFm [o] σ σ1 → zI σ1 o 3 = iZ ((n + 1 : Nat) : Int) → Q σ1 (some (.ref (o + 2 + n)))) : zCa 40 [.ref o] σ Q := by
  refine w_enter (c := zk_X3_addRule) (ls2 := [(0, .ref o)]) rfl ⟨rfl, trivial⟩ ?_
  refine w_aload_n (pc' := 1) ⟨rfl, rfl⟩ rfl ?_
  refine w_aload_n (pc' := 2) ⟨rfl, rfl⟩ rfl ?_
  refine w_getI (pc' := 5) (cl := 2) (q := 3) ⟨rfl, rfl⟩ ⟨rfl, by decide⟩ (hO.o hF) hn ?_
  refine w_bi (pc' := 7) ⟨rfl, rfl⟩ (by decide) ?_
  refine w_icF_ge (pc' := 10) ⟨rfl, rfl⟩ (by omega) ?_
  refine w_aload_n (pc' := 11) ⟨rfl, rfl⟩ rfl ?_
  refine w_getI (pc' := 14) (cl := 2) (q := 3) ⟨rfl, rfl⟩ ⟨rfl, by decide⟩ (hO.o hF) hn ?_
  refine w_ic (pc' := 15) ⟨rfl, rfl⟩ ?_
  refine w_iaddZ (pc' := 16) ⟨rfl, rfl⟩ ?_
  refine w_goto (pc' := 19) (pcT := 21) ⟨rfl, rfl⟩ rfl ?_
  refine w_putI (pc' := 24) (cl := 2) (q := 3) ⟨rfl, rfl⟩ ⟨rfl, by decide⟩ (hO.o hF) ?_
  refine w_gI (fun σ1 m1 e1 o1 => ?_)
  have hF1 := m1.fx hF
  refine w_aload_n (pc' := 25) ⟨rfl, rfl⟩ rfl ?_
  refine w_aload_n (pc' := 26) ⟨rfl, rfl⟩ rfl ?_
  refine w_getI (pc' := 29) (cl := 2) (q := 3) ⟨rfl, rfl⟩ ⟨rfl, by decide⟩ (hO.o hF1) e1 ?_
  refine w_ic (pc' := 30) ⟨rfl, rfl⟩ ?_
  refine w_isubZ (pc' := 31) ⟨rfl, rfl⟩ ?_
  refine w_topI (show _ = iZ ((n : Nat) : Int) from congrArg iZ (by omega)) ?_
  refine w_cv2 (pc' := 34) ⟨rfl, rfl⟩ (by decide) (hO.o hF1) (Nat.le_of_ble_eq_true rfl) (Nat.le_of_ble_eq_true rfl) (c_rulI hF1 hO (n := n + 1) (e1.trans (congrArg iZ (by omega))) (by omega) (r := n) (by omega) ?_)
  refine w_areturn (pc' := 35) ⟨rfl, rfl⟩ ?_
  exact k _ m1 (e1.trans (congrArg iZ (by omega)))
/-- fields 0 .. n - 1 as bits -/
def zbt : Nat → Int32
  | 0 => iZ 0
  | n + 1 => zbt n ||| (iZ 1 <<< (iZ (n : Int) &&& 31))
theorem zbt_ok {f : Nat} (h : f < 6) : (zbt f >>> (iZ (f : Int) &&& 31)) &&& iZ 1 = iZ 0 := (show ∀ f : Nat, f < 6 → (zbt f >>> (iZ (f : Int) &&& 31)) &&& iZ 1 = iZ 0 by decide +kernel) f h
theorem l_filled {σ : zSt} (hF : zFx σ) {o : Nat} (hO : zIsG o) {n : Nat} (hn : zI σ o 3 = iZ (n : Int)) (hn6 : n ≤ 6) (ht : ∀ i : Nat, i < n → zI σ (o + 2 + i) 0 = iZ (i : Int)) {Q : zSt → Option Value → Prop} : ∀ (m : Nat) (i : Nat), i + m = n → (Q σ (some (.int (zbt n)))) → zP zk_X3_fieldsFilled 4 [(0, .ref o), (1, .int (zbt i)), (2, .int (iZ (i : Int)))] [] σ Q := by
  intro m
  induction m with
  | zero =>
    intro i hi k
    refine w_iload_n (pc' := 5) ⟨rfl, rfl⟩ rfl ?_
    refine w_aload_n (pc' := 6) ⟨rfl, rfl⟩ rfl ?_
    refine w_getI (pc' := 9) (cl := 2) (q := 3) ⟨rfl, rfl⟩ ⟨rfl, by decide⟩ (hO.o hF) hn ?_
    refine w_icT_ge (pc' := 12) (pcT := 41) ⟨rfl, rfl⟩ rfl (by omega) ?_
    refine w_iload_n (pc' := 42) ⟨rfl, rfl⟩ rfl ?_
    refine w_ireturn (pc' := 43) ⟨rfl, rfl⟩ (Or.inl rfl) ?_
    obtain rfl : i = n := by omega
    exact k
  | succ m ih =>
    intro i hi k
    refine w_iload_n (pc' := 5) ⟨rfl, rfl⟩ rfl ?_
    refine w_aload_n (pc' := 6) ⟨rfl, rfl⟩ rfl ?_
    refine w_getI (pc' := 9) (cl := 2) (q := 3) ⟨rfl, rfl⟩ ⟨rfl, by decide⟩ (hO.o hF) hn ?_
    refine w_icF_ge (pc' := 12) ⟨rfl, rfl⟩ (by omega) ?_
    refine w_aload_n (pc' := 13) ⟨rfl, rfl⟩ rfl ?_
    refine w_iload_n (pc' := 14) ⟨rfl, rfl⟩ rfl ?_
    refine w_cv2 (pc' := 17) ⟨rfl, rfl⟩ (by decide) (hO.o hF) (Nat.le_of_ble_eq_true rfl) (Nat.le_of_ble_eq_true rfl) (c_rulI hF hO hn hn6 (r := i) (by omega) ?_)
    refine w_astore_n (pc' := 18) ⟨rfl, rfl⟩ rfl ?_
    refine w_iload_n (pc' := 19) ⟨rfl, rfl⟩ rfl ?_
    refine w_aload_n (pc' := 20) ⟨rfl, rfl⟩ rfl ?_
    refine w_ifnonnullR (pc' := 23) (pcT := 27) ⟨rfl, rfl⟩ rfl  ?_
    refine w_ic (pc' := 28) ⟨rfl, rfl⟩ ?_
    refine w_aload_n (pc' := 29) ⟨rfl, rfl⟩ rfl ?_
    refine w_getI (pc' := 32) (cl := 5) (q := 0) ⟨rfl, rfl⟩ ⟨rfl, by decide⟩ (hO.r hF (by omega)).2 (ht i (by omega)) ?_
    refine w_ishl (pc' := 33) ⟨rfl, rfl⟩ ?_
    refine w_ior (pc' := 34) ⟨rfl, rfl⟩ ?_
    refine w_istore_n (pc' := 35) ⟨rfl, rfl⟩ rfl ?_
    refine w_iincZ (pc' := 38) ⟨rfl, rfl⟩ rfl rfl ?_
    refine w_goto (pc' := 41) (pcT := 4) ⟨rfl, rfl⟩ rfl ?_
    refine w_at (ls2 := [(0, .ref o), (1, .int (zbt (i + 1))), (2, .int (iZ ((i + 1 : Nat) : Int)))]) ?_ (ih (i + 1) (by omega) k)
    exact ⟨rfl, rfl, rfl, trivial⟩
theorem c_filled {σ : zSt} (hF : zFx σ) {o : Nat} (hO : zIsG o) {n : Nat} (hn : zI σ o 3 = iZ (n : Int)) (hn6 : n ≤ 6) (ht : ∀ i : Nat, i < n → zI σ (o + 2 + i) 0 = iZ (i : Int)) {Q : zSt → Option Value → Prop} (k : Q σ (some (.int (zbt n)))) : zCa 41 [.ref o] σ Q := by
  refine w_enter (c := zk_X3_fieldsFilled) (ls2 := [(0, .ref o)]) rfl ⟨rfl, trivial⟩ ?_
  refine w_ic (pc' := 1) ⟨rfl, rfl⟩ ?_
  refine w_istore_n (pc' := 2) ⟨rfl, rfl⟩ rfl ?_
  refine w_ic (pc' := 3) ⟨rfl, rfl⟩ ?_
  refine w_istore_n (pc' := 4) ⟨rfl, rfl⟩ rfl ?_
  refine w_at (ls2 := [(0, .ref o), (1, .int (zbt 0)), (2, .int (iZ ((0 : Nat) : Int)))]) ?_ (l_filled hF hO hn hn6 ht n 0 (by omega) k)
  exact ⟨rfl, rfl, rfl, trivial⟩
theorem c_rset {σ : zSt} {r : Nat} (hR : zO σ r 5) {a b c d : Int} {Q : zSt → Option Value → Prop} (k : ∀ σ1, zFm [r] σ σ1 → zI σ1 r 0 = iZ a → zI σ1 r 2 = iZ c → Q σ1 none) : zCa 67 [.ref r, .int (iZ a), .int (iZ b), .int (iZ c), .int (iZ d)] σ Q := by
  refine w_enter (c := zk_X7_set) (ls2 := [(0, .ref r), (1, .int (iZ a)), (2, .int (iZ b)), (3, .int (iZ c)), (4, .int (iZ d))]) rfl ⟨rfl, rfl, rfl, rfl, rfl, trivial⟩ ?_
  refine w_aload_n (pc' := 1) ⟨rfl, rfl⟩ rfl ?_
  refine w_iload_n (pc' := 2) ⟨rfl, rfl⟩ rfl ?_
  refine w_putI (pc' := 5) (cl := 5) (q := 0) ⟨rfl, rfl⟩ ⟨rfl, by decide⟩ hR ?_
  refine w_aload_n (pc' := 6) ⟨rfl, rfl⟩ rfl ?_
  refine w_iload_n (pc' := 7) ⟨rfl, rfl⟩ rfl ?_
  refine w_putI (pc' := 10) (cl := 5) (q := 1) ⟨rfl, rfl⟩ ⟨rfl, by decide⟩ hR ?_
  refine w_aload_n (pc' := 11) ⟨rfl, rfl⟩ rfl ?_
  refine w_iload_n (pc' := 12) ⟨rfl, rfl⟩ rfl ?_
  refine w_putI (pc' := 15) (cl := 5) (q := 2) ⟨rfl, rfl⟩ ⟨rfl, by decide⟩ hR ?_
  refine w_aload_n (pc' := 16) ⟨rfl, rfl⟩ rfl ?_
  refine w_iload (pc' := 18) ⟨rfl, rfl⟩ rfl ?_
  refine w_putI (pc' := 21) (cl := 5) (q := 3) ⟨rfl, rfl⟩ ⟨rfl, by decide⟩ hR ?_
  refine w_return (pc' := 22) ⟨rfl, rfl⟩ ?_
  exact k _ ((((zFm.wI List.mem_cons_self).trans (zFm.wI List.mem_cons_self)).trans (zFm.wI List.mem_cons_self)).trans (zFm.wI List.mem_cons_self)) (by rw [zI_wI_n (Or.inr (by decide)), zI_wI_n (Or.inr (by decide)), zI_wI_n (Or.inr (by decide)), zI_wI_s]) (by rw [zI_wI_n (Or.inr (by decide)), zI_wI_s])
