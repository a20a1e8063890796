/-! THE LAW SAYS a scheme -/
/-- a text being said, its length at the most -/
def zBe (σ : zSt) (l : List Int) (n : Nat) : Prop := zFx σ ∧ zBd σ l ∧ l.length ≤ n
theorem zBe.le {σ : zSt} {l : List Int} {n m : Nat} (h : zBe σ l n) (hm : n ≤ m) : zBe σ l m := ⟨h.1, h.2.1, by have := h.2.2; omega⟩
theorem zBe.eq {σ : zSt} {l l' : List Int} {n : Nat} (h : zBe σ l n) (e : l = l') : zBe σ l' n := e ▸ h
theorem zTs_le {j : Nat} (h : 1 ≤ j ∧ j < 22) : (zTs j).length ≤ 8 := (show ∀ j : Nat, j < 22 → 1 ≤ j → (zTs j).length ≤ 8 by decide +kernel) j h.2 h.1
theorem zTk_le {k : Int} (h : 0 ≤ k ∧ k ≤ 8) : (zTs (zkj k)).length ≤ 7 := by
  have := (show ∀ j : Nat, j < 9 → (zTs (zkj (j : Int))).length ≤ 7 by decide +kernel) k.toNat (by omega)
  rwa [Int.toNat_of_nonneg h.1] at this
theorem znu_le (v : Int) : (znu v).length ≤ 3 := by
  unfold znu
  split <;> split <;> simp
theorem zfn_len (f : Int) : (zfn f).length = 2 := rfl
section ZB
variable {σ : zSt} {l : List Int} {n : Nat} {Q : zSt → Option Value → Prop}
theorem g_say (hb : zBe σ l n) (hN : n + 22 ≤ 1600) {j : Nat} (hj : 1 ≤ j ∧ j < 22) {d : Nat} (hd : (zTs j).length ≤ d) (k : ∀ σ1, zFm [3, 4, 164] σ σ1 → zBe σ1 (l ++ zTs j) (n + d) → Q σ1 (some (.int (iZ 1)))) : zCa 121 [.ref 0, .ref (zSTR + j), .ref 164] σ Q := f_say hb.1 hb.2.1 (by have := hb.2.2; omega) hj (fun σ1 m b => k σ1 m ⟨m.fx hb.1, b, by have := hb.2.2; rw [List.length_append]; omega⟩)
theorem g_sign (hb : zBe σ l n) (hN : n + 22 ≤ 1600) {c : Int} (hc : 0 ≤ c ∧ c ≤ 255) (k : ∀ σ1, zFm [3, 4, 164] σ σ1 → zBe σ1 (l ++ [c]) (n + 1) → Q σ1 (some (.int (iZ 1)))) : zCa 122 [.ref 0, .int (iZ c), .ref 164] σ Q := f_sign hb.1 hb.2.1 (by have := hb.2.2; omega) hc (fun σ1 m b => k σ1 m ⟨m.fx hb.1, b, by have := hb.2.2; rw [List.length_append, List.length_singleton]; omega⟩)
theorem g_number (hb : zBe σ l n) (hN : n + 22 ≤ 1600) {v : Int} (hv : 0 ≤ v ∧ v ≤ 999) (k : ∀ σ1, zFm [3, 4, 164] σ σ1 → zBe σ1 (l ++ znu v) (n + 3) → Q σ1 (some (.int (iZ 1)))) : zCa 123 [.ref 0, .int (iZ v), .ref 164] σ Q := f_number hb.1 hb.2.1 (by have := hb.2.2; omega) hv (fun σ1 m b => k σ1 m ⟨m.fx hb.1, b, by have := hb.2.2; have := znu_le v; rw [List.length_append]; omega⟩)
theorem g_kind (hb : zBe σ l n) (hN : n + 22 ≤ 1600) {kd : Int} (hk : 0 ≤ kd ∧ kd ≤ 8) (k : ∀ σ1, zFm [3, 4, 164] σ σ1 → zBe σ1 (l ++ zTs (zkj kd)) (n + 7) → Q σ1 (some (.int (iZ 1)))) : zCa 124 [.ref 0, .int (iZ kd), .ref 164] σ Q := f_kind hb.1 hb.2.1 (by have := hb.2.2; omega) hk (fun σ1 m b => k σ1 m ⟨m.fx hb.1, b, by have := hb.2.2; have := zTk_le hk; rw [List.length_append]; omega⟩)
theorem g_field (hb : zBe σ l n) (hN : n + 22 ≤ 1600) {f : Int} (hf : 0 ≤ f ∧ f ≤ 5) (k : ∀ σ1, zFm [3, 4, 164] σ σ1 → zBe σ1 (l ++ zfn f) (n + 2) → Q σ1 (some (.int (iZ 1)))) : zCa 128 [.ref 0, .int (iZ f), .ref 164] σ Q := f_lfield hb.1 hb.2.1 (by have := hb.2.2; omega) hf (fun σ1 m b => k σ1 m ⟨m.fx hb.1, b, by have := hb.2.2; rw [List.length_append, zfn_len]; omega⟩)
end ZB
/-- the bits of a number from k on -/
def zY (x : Int) (k : Nat) : Int := x / 2 ^ k
theorem zY_rng {x : Int} (hx : -2147483648 ≤ x ∧ x ≤ 2147483647) (k : Nat) : -2147483648 ≤ zY x k ∧ zY x k ≤ 2147483647 := by
  unfold zY
  have hp : (1 : Int) ≤ 2 ^ k := by exact_mod_cast Nat.one_le_two_pow
  refine ⟨Int.le_ediv_of_mul_le (by omega) (by have := Int.mul_le_mul_of_nonneg_left hp (show (0 : Int) ≤ 2147483648 by omega); omega), ?_⟩
  rcases Int.lt_or_le x 0 with q | q
  · have := Int.ediv_neg_of_neg_of_pos q (show (0 : Int) < 2 ^ k by omega); omega
  · have := Int.ediv_le_self (2 ^ k) q; omega
theorem zY_shr {x : Int} (hx : -2147483648 ≤ x ∧ x ≤ 2147483647) {k : Nat} {e : Int} (he : e = k) (hk : k < 32) : iZ x >>> (iZ e &&& 31) = iZ (zY x k) := by
  subst he; exact iZ_shr hx hk
/-- how many fields, a field's kind, its cells, by a number -/
def zmy (x : Int) : Int := 2 + x % 4
def zKx (x : Int) (f : Nat) : Int := zY x (2 + 5 * f) % 16 % 9
def zNx (x : Int) : Int := 2 + x / 2 ^ 27 % 2
abbrev ztm (x : Int) (f : Nat) : Prop := zY x (2 + 5 * f) / 2 ^ 4 % 2 = 1
theorem zKx_rng (x : Int) (f : Nat) : 0 ≤ zKx x f ∧ zKx x f ≤ 8 := by unfold zKx; omega
/-- a field of a scheme, as text -/
def zsF (x : Int) (f : Nat) : List Int := (if 0 < f then zTs 3 else []) ++ (zTs (zkj (zKx x f)) ++ (zfn f ++ (if ztm x f then zTs 14 ++ znu (zNx x) else [])))
def zsL (x : Int) : Nat → Nat → List Int
  | 0, _ => []
  | m + 1, f => zsF x f ++ zsL x m (f + 1)
def zScT (s x : Int) : List Int := zTs 1 ++ ([97 + s] ++ (zTs 2 ++ (zsL x (zmy x).toNat 0 ++ zTs 15)))
theorem f_kindOf {σ : zSt} {x : Int} (hx : -2147483648 ≤ x ∧ x ≤ 2147483647) {f : Nat} (hf : f ≤ 5) {Q : zSt → Option Value → Prop} (k : Q σ (some (.int (iZ (zKx x f))))) : zCa 126 [.int (iZ x), .int (iZ (f : Int))] σ Q := by
  refine w_enter (c := zk_L_kindOf) (ls2 := [(0, .int (iZ x)), (1, .int (iZ (f : Int)))]) rfl ⟨rfl, rfl, trivial⟩ ?_
  refine w_iload_n (pc' := 1) ⟨rfl, rfl⟩ rfl ?_
  refine w_ic (pc' := 2) ⟨rfl, rfl⟩ ?_
  refine w_ic (pc' := 3) ⟨rfl, rfl⟩ ?_
  refine w_iload_n (pc' := 4) ⟨rfl, rfl⟩ rfl ?_
  refine w_imulZ (pc' := 5) ⟨rfl, rfl⟩ ?_
  refine w_iaddZ (pc' := 6) ⟨rfl, rfl⟩ ?_
  refine w_ishr (pc' := 7) ⟨rfl, rfl⟩ ?_
  refine w_topI (zY_shr hx (k := 2 + 5 * f) (by omega) (by omega)) ?_
  refine w_bi (pc' := 9) ⟨rfl, rfl⟩ (by decide) ?_
  refine w_iand (pc' := 10) ⟨rfl, rfl⟩ ?_
  refine w_topI (iZ_and15 _) ?_
  refine w_bi (pc' := 12) ⟨rfl, rfl⟩ (by decide) ?_
  refine w_iremZ (pc' := 13) ⟨rfl, rfl⟩ (by omega) ?_
  refine w_ireturn (pc' := 14) ⟨rfl, rfl⟩ (Or.inl rfl) ?_
  exact k
theorem f_kindOfI {σ : zSt} {x : Int} (hx : -2147483648 ≤ x ∧ x ≤ 2147483647) {g : Int} (hg : 0 ≤ g ∧ g ≤ 5) {Q : zSt → Option Value → Prop} (k : Q σ (some (.int (iZ (zKx x g.toNat))))) : zCa 126 [.int (iZ x), .int (iZ g)] σ Q := by
  refine w_enter (c := zk_L_kindOf) (ls2 := [(0, .int (iZ x)), (1, .int (iZ g))]) rfl ⟨rfl, rfl, trivial⟩ ?_
  refine w_iload_n (pc' := 1) ⟨rfl, rfl⟩ rfl ?_
  refine w_ic (pc' := 2) ⟨rfl, rfl⟩ ?_
  refine w_ic (pc' := 3) ⟨rfl, rfl⟩ ?_
  refine w_iload_n (pc' := 4) ⟨rfl, rfl⟩ rfl ?_
  refine w_imulZ (pc' := 5) ⟨rfl, rfl⟩ ?_
  refine w_iaddZ (pc' := 6) ⟨rfl, rfl⟩ ?_
  refine w_ishr (pc' := 7) ⟨rfl, rfl⟩ ?_
  refine w_topI (zY_shr hx (k := 2 + 5 * g.toNat) (by omega) (by omega)) ?_
  refine w_bi (pc' := 9) ⟨rfl, rfl⟩ (by decide) ?_
  refine w_iand (pc' := 10) ⟨rfl, rfl⟩ ?_
  refine w_topI (iZ_and15 _) ?_
  refine w_bi (pc' := 12) ⟨rfl, rfl⟩ (by decide) ?_
  refine w_iremZ (pc' := 13) ⟨rfl, rfl⟩ (by omega) ?_
  refine w_ireturn (pc' := 14) ⟨rfl, rfl⟩ (Or.inl rfl) ?_
  exact k
theorem f_isNumber {σ : zSt} {kd : Int} (hk : 0 ≤ kd ∧ kd ≤ 8) {Q : zSt → Option Value → Prop} (k1 : 0 < kd ∧ kd < 8 → Q σ (some (.int (iZ 1)))) (k0 : ¬ (0 < kd ∧ kd < 8) → Q σ (some (.int (iZ 0)))) : zCa 127 [.int (iZ kd)] σ Q := by
  refine w_enter (c := zk_L_isNumber) (ls2 := [(0, .int (iZ kd))]) rfl ⟨rfl, trivial⟩ ?_
  refine w_iload_n (pc' := 1) ⟨rfl, rfl⟩ rfl ?_
  refine w_if_le (pc' := 4) (pcT := 14) ⟨rfl, rfl⟩ rfl (by omega) (fun h1 => ?_) (fun h1 => ?_)
  · refine w_ic (pc' := 15) ⟨rfl, rfl⟩ ?_
    refine w_ireturn (pc' := 16) ⟨rfl, rfl⟩ (by decide) ?_
    first | exact k1 (by omega) | exact k0 (by omega)
  · refine w_iload_n (pc' := 5) ⟨rfl, rfl⟩ rfl ?_
    refine w_bi (pc' := 7) ⟨rfl, rfl⟩ (by decide) ?_
    refine w_ic_ge (pc' := 10) (pcT := 14) ⟨rfl, rfl⟩ rfl (by omega) (by omega) (fun h2 => ?_) (fun h2 => ?_)
    · refine w_ic (pc' := 15) ⟨rfl, rfl⟩ ?_
      refine w_ireturn (pc' := 16) ⟨rfl, rfl⟩ (by decide) ?_
      first | exact k1 (by omega) | exact k0 (by omega)
    · refine w_ic (pc' := 11) ⟨rfl, rfl⟩ ?_
      refine w_goto (pc' := 14) (pcT := 15) ⟨rfl, rfl⟩ rfl ?_
      refine w_ireturn (pc' := 16) ⟨rfl, rfl⟩ (by decide) ?_
      first | exact k1 (by omega) | exact k0 (by omega)
theorem l_scheme {σ : zSt} {s x : Int} (hs : 0 ≤ s ∧ s ≤ 2) (hx : -2147483648 ≤ x ∧ x ≤ 2147483647) {n : Nat} (hn : n + 140 ≤ 1600) {Q : zSt → Option Value → Prop} : ∀ (m : Nat) (f : Nat) (l : List Int) (σ1 : zSt), (f : Int) + m = zmy x → zFm [3, 4, 164] σ σ1 → zBe σ1 l (n + 20 * f) → (∀ σ2, zFm [3, 4, 164] σ σ2 → zBe σ2 (l ++ (zsL x m f ++ zTs 15)) (n + 101) → Q σ2 (some (.int (iZ 1)))) → zP zk_L_scheme 44 [(0, .ref 0), (1, .int (iZ s)), (2, .int (iZ x)), (3, .ref 164), (4, .int (iZ (zmy x))), (5, .int (iZ (f : Int)))] [] σ1 Q := by
  intro m
  induction m with
  | zero =>
    intro f l σ1 hm hf hb k
    have hmy : zmy x = 2 + x % 4 := rfl
    refine w_iload (pc' := 46) ⟨rfl, rfl⟩ rfl ?_
    refine w_iload (pc' := 48) ⟨rfl, rfl⟩ rfl ?_
    refine w_icT_ge (pc' := 51) (pcT := 161) ⟨rfl, rfl⟩ rfl (by omega) ?_
    refine w_aload_n (pc' := 162) ⟨rfl, rfl⟩ rfl ?_
    refine w_ldc (pc' := 164) (v := .ref (zSTR + 15)) ⟨rfl, rfl⟩ rfl ?_
    refine w_aload_n (pc' := 165) ⟨rfl, rfl⟩ rfl ?_
    refine w_cs3 (pc' := 168) ⟨rfl, rfl⟩ (by decide) (Nat.le_of_ble_eq_true rfl) (Nat.le_of_ble_eq_true rfl) (g_say hb (by omega) (j := 15) (by decide) (d := 1) (by decide) (fun u1 m1 b1 => ?_))
    refine w_ireturn (pc' := 169) ⟨rfl, rfl⟩ (by decide) ?_
    exact k _ (hf.trans m1) ((b1.le (by omega)).eq (by rw [zsL, List.nil_append]))
  | succ m ih =>
    intro f l σ1 hm hf hb k
    have hmy : zmy x = 2 + x % 4 := rfl
    have hy := zY_rng hx (2 + 5 * f)
    have hK := zKx_rng x f
    have hNx : zNx x = 2 + x / 2 ^ 27 % 2 := rfl
    refine w_iload (pc' := 46) ⟨rfl, rfl⟩ rfl ?_
    refine w_iload (pc' := 48) ⟨rfl, rfl⟩ rfl ?_
    refine w_icF_ge (pc' := 51) ⟨rfl, rfl⟩ (by omega) ?_
    refine w_iload_n (pc' := 52) ⟨rfl, rfl⟩ rfl ?_
    refine w_ic (pc' := 53) ⟨rfl, rfl⟩ ?_
    refine w_ic (pc' := 54) ⟨rfl, rfl⟩ ?_
    refine w_iload (pc' := 56) ⟨rfl, rfl⟩ rfl ?_
    refine w_imulZ (pc' := 57) ⟨rfl, rfl⟩ ?_
    refine w_iaddZ (pc' := 58) ⟨rfl, rfl⟩ ?_
    refine w_ishr (pc' := 59) ⟨rfl, rfl⟩ ?_
    refine w_topI (zY_shr hx (k := 2 + 5 * f) (by omega) (by omega)) ?_
    refine w_istore (pc' := 61) ⟨rfl, rfl⟩ rfl ?_
    refine w_iload (pc' := 63) ⟨rfl, rfl⟩ rfl ?_
    refine w_if_le (pc' := 66) (pcT := 76) ⟨rfl, rfl⟩ rfl (by omega) (fun h1 => ?_) (fun h1 => ?_)
    · refine w_aload_n (pc' := 77) ⟨rfl, rfl⟩ rfl ?_
      refine w_iload (pc' := 79) ⟨rfl, rfl⟩ rfl ?_
      refine w_bi (pc' := 81) ⟨rfl, rfl⟩ (by decide) ?_
      refine w_iand (pc' := 82) ⟨rfl, rfl⟩ ?_
      refine w_topI (iZ_and15 _) ?_
      refine w_bi (pc' := 84) ⟨rfl, rfl⟩ (by decide) ?_
      refine w_iremZ (pc' := 85) ⟨rfl, rfl⟩ (by omega) ?_
      refine w_topI (show _ = iZ (zKx x f) from rfl) ?_
      refine w_aload_n (pc' := 86) ⟨rfl, rfl⟩ rfl ?_
      refine w_cs3 (pc' := 89) ⟨rfl, rfl⟩ (by decide) (Nat.le_of_ble_eq_true rfl) (Nat.le_of_ble_eq_true rfl) (g_kind hb (by omega) (by omega) (fun u1 m1 b1 => ?_))
      refine w_ifF_eq (pc' := 92) ⟨rfl, rfl⟩ (by decide) ?_
      refine w_aload_n (pc' := 93) ⟨rfl, rfl⟩ rfl ?_
      refine w_ldc (pc' := 95) (v := .ref (zSTR + 13)) ⟨rfl, rfl⟩ rfl ?_
      refine w_aload_n (pc' := 96) ⟨rfl, rfl⟩ rfl ?_
      refine w_cs3 (pc' := 99) ⟨rfl, rfl⟩ (by decide) (Nat.le_of_ble_eq_true rfl) (Nat.le_of_ble_eq_true rfl) (g_say b1 (by omega) (j := 13) (by decide) (d := 1) (by decide) (fun u2 m2 b2 => ?_))
      refine w_ifF_eq (pc' := 102) ⟨rfl, rfl⟩ (by decide) ?_
      refine w_aload_n (pc' := 103) ⟨rfl, rfl⟩ rfl ?_
      refine w_bi (pc' := 105) ⟨rfl, rfl⟩ (by decide) ?_
      refine w_iload (pc' := 107) ⟨rfl, rfl⟩ rfl ?_
      refine w_iaddZ (pc' := 108) ⟨rfl, rfl⟩ ?_
      refine w_aload_n (pc' := 109) ⟨rfl, rfl⟩ rfl ?_
      refine w_cs3 (pc' := 112) ⟨rfl, rfl⟩ (by decide) (Nat.le_of_ble_eq_true rfl) (Nat.le_of_ble_eq_true rfl) (g_sign b2 (by omega) (by omega) (fun u3 m3 b3 => ?_))
      refine w_ifT_ne (pc' := 115) (pcT := 117) ⟨rfl, rfl⟩ rfl (by decide) ?_
      refine w_iload (pc' := 119) ⟨rfl, rfl⟩ rfl ?_
      refine w_ic (pc' := 120) ⟨rfl, rfl⟩ ?_
      refine w_ishr (pc' := 121) ⟨rfl, rfl⟩ ?_
      refine w_topI (iZ_shr (k := 4) (by omega) (by decide)) ?_
      refine w_ic (pc' := 122) ⟨rfl, rfl⟩ ?_
      refine w_iand (pc' := 123) ⟨rfl, rfl⟩ ?_
      refine w_topI (iZ_and1 _) ?_
      refine w_ic (pc' := 124) ⟨rfl, rfl⟩ ?_
      refine w_ic_ne (pc' := 127) (pcT := 155) ⟨rfl, rfl⟩ rfl (by omega) (by omega) (fun h2 => ?_) (fun h2 => ?_)
      · refine w_iincZ (pc' := 158) ⟨rfl, rfl⟩ rfl rfl ?_
        refine w_goto (pc' := 161) (pcT := 44) ⟨rfl, rfl⟩ rfl ?_
        refine w_at (ls2 := [(0, .ref 0), (1, .int (iZ s)), (2, .int (iZ x)), (3, .ref 164), (4, .int (iZ (zmy x))), (5, .int (iZ ((f + 1 : Nat) : Int)))]) ?_ (ih (f + 1) (l ++ zsF x f) _ (by omega) (((hf.trans m1).trans m2).trans m3) ((b3.le (by omega)).eq ?_) (fun σ2 h1 h2 => k σ2 h1 (h2.eq (by rw [zsL, List.append_assoc, List.append_assoc]))))
        · exact ⟨rfl, rfl, rfl, rfl, rfl, rfl, trivial⟩
        · unfold zsF
          repeat' (first | rw [if_pos (by omega)] | rw [if_neg (by omega)])
          simp only [List.append_assoc, List.nil_append, List.append_nil, zTs13, zfn, List.cons_append]
      · refine w_aload_n (pc' := 128) ⟨rfl, rfl⟩ rfl ?_
        refine w_ldc (pc' := 130) (v := .ref (zSTR + 14)) ⟨rfl, rfl⟩ rfl ?_
        refine w_aload_n (pc' := 131) ⟨rfl, rfl⟩ rfl ?_
        refine w_cs3 (pc' := 134) ⟨rfl, rfl⟩ (by decide) (Nat.le_of_ble_eq_true rfl) (Nat.le_of_ble_eq_true rfl) (g_say b3 (by omega) (j := 14) (by decide) (d := 7) (by decide) (fun u4 m4 b4 => ?_))
        refine w_ifF_eq (pc' := 137) ⟨rfl, rfl⟩ (by decide) ?_
        refine w_aload_n (pc' := 138) ⟨rfl, rfl⟩ rfl ?_
        refine w_ic (pc' := 139) ⟨rfl, rfl⟩ ?_
        refine w_iload_n (pc' := 140) ⟨rfl, rfl⟩ rfl ?_
        refine w_bi (pc' := 142) ⟨rfl, rfl⟩ (by decide) ?_
        refine w_ishr (pc' := 143) ⟨rfl, rfl⟩ ?_
        refine w_topI (iZ_shr (k := 27) (by omega) (by decide)) ?_
        refine w_ic (pc' := 144) ⟨rfl, rfl⟩ ?_
        refine w_iand (pc' := 145) ⟨rfl, rfl⟩ ?_
        refine w_topI (iZ_and1 _) ?_
        refine w_iaddZ (pc' := 146) ⟨rfl, rfl⟩ ?_
        refine w_topI (show _ = iZ (zNx x) from rfl) ?_
        refine w_aload_n (pc' := 147) ⟨rfl, rfl⟩ rfl ?_
        refine w_cs3 (pc' := 150) ⟨rfl, rfl⟩ (by decide) (Nat.le_of_ble_eq_true rfl) (Nat.le_of_ble_eq_true rfl) (g_number b4 (by omega) (by omega) (fun u5 m5 b5 => ?_))
        refine w_ifT_ne (pc' := 153) (pcT := 155) ⟨rfl, rfl⟩ rfl (by decide) ?_
        refine w_iincZ (pc' := 158) ⟨rfl, rfl⟩ rfl rfl ?_
        refine w_goto (pc' := 161) (pcT := 44) ⟨rfl, rfl⟩ rfl ?_
        refine w_at (ls2 := [(0, .ref 0), (1, .int (iZ s)), (2, .int (iZ x)), (3, .ref 164), (4, .int (iZ (zmy x))), (5, .int (iZ ((f + 1 : Nat) : Int)))]) ?_ (ih (f + 1) (l ++ zsF x f) _ (by omega) (((((hf.trans m1).trans m2).trans m3).trans m4).trans m5) ((b5.le (by omega)).eq ?_) (fun σ2 h1 h2 => k σ2 h1 (h2.eq (by rw [zsL, List.append_assoc, List.append_assoc]))))
        · exact ⟨rfl, rfl, rfl, rfl, rfl, rfl, trivial⟩
        · unfold zsF
          repeat' (first | rw [if_pos (by omega)] | rw [if_neg (by omega)])
          simp only [List.append_assoc, List.nil_append, List.append_nil, zTs13, zfn, List.cons_append]
    · refine w_aload_n (pc' := 67) ⟨rfl, rfl⟩ rfl ?_
      refine w_ldc (pc' := 69) (v := .ref (zSTR + 3)) ⟨rfl, rfl⟩ rfl ?_
      refine w_aload_n (pc' := 70) ⟨rfl, rfl⟩ rfl ?_
      refine w_cs3 (pc' := 73) ⟨rfl, rfl⟩ (by decide) (Nat.le_of_ble_eq_true rfl) (Nat.le_of_ble_eq_true rfl) (g_say hb (by omega) (j := 3) (by decide) (d := 1) (by decide) (fun u1 m1 b1 => ?_))
      refine w_ifF_eq (pc' := 76) ⟨rfl, rfl⟩ (by decide) ?_
      refine w_aload_n (pc' := 77) ⟨rfl, rfl⟩ rfl ?_
      refine w_iload (pc' := 79) ⟨rfl, rfl⟩ rfl ?_
      refine w_bi (pc' := 81) ⟨rfl, rfl⟩ (by decide) ?_
      refine w_iand (pc' := 82) ⟨rfl, rfl⟩ ?_
      refine w_topI (iZ_and15 _) ?_
      refine w_bi (pc' := 84) ⟨rfl, rfl⟩ (by decide) ?_
      refine w_iremZ (pc' := 85) ⟨rfl, rfl⟩ (by omega) ?_
      refine w_topI (show _ = iZ (zKx x f) from rfl) ?_
      refine w_aload_n (pc' := 86) ⟨rfl, rfl⟩ rfl ?_
      refine w_cs3 (pc' := 89) ⟨rfl, rfl⟩ (by decide) (Nat.le_of_ble_eq_true rfl) (Nat.le_of_ble_eq_true rfl) (g_kind b1 (by omega) (by omega) (fun u2 m2 b2 => ?_))
      refine w_ifF_eq (pc' := 92) ⟨rfl, rfl⟩ (by decide) ?_
      refine w_aload_n (pc' := 93) ⟨rfl, rfl⟩ rfl ?_
      refine w_ldc (pc' := 95) (v := .ref (zSTR + 13)) ⟨rfl, rfl⟩ rfl ?_
      refine w_aload_n (pc' := 96) ⟨rfl, rfl⟩ rfl ?_
      refine w_cs3 (pc' := 99) ⟨rfl, rfl⟩ (by decide) (Nat.le_of_ble_eq_true rfl) (Nat.le_of_ble_eq_true rfl) (g_say b2 (by omega) (j := 13) (by decide) (d := 1) (by decide) (fun u3 m3 b3 => ?_))
      refine w_ifF_eq (pc' := 102) ⟨rfl, rfl⟩ (by decide) ?_
      refine w_aload_n (pc' := 103) ⟨rfl, rfl⟩ rfl ?_
      refine w_bi (pc' := 105) ⟨rfl, rfl⟩ (by decide) ?_
      refine w_iload (pc' := 107) ⟨rfl, rfl⟩ rfl ?_
      refine w_iaddZ (pc' := 108) ⟨rfl, rfl⟩ ?_
      refine w_aload_n (pc' := 109) ⟨rfl, rfl⟩ rfl ?_
      refine w_cs3 (pc' := 112) ⟨rfl, rfl⟩ (by decide) (Nat.le_of_ble_eq_true rfl) (Nat.le_of_ble_eq_true rfl) (g_sign b3 (by omega) (by omega) (fun u4 m4 b4 => ?_))
      refine w_ifT_ne (pc' := 115) (pcT := 117) ⟨rfl, rfl⟩ rfl (by decide) ?_
      refine w_iload (pc' := 119) ⟨rfl, rfl⟩ rfl ?_
      refine w_ic (pc' := 120) ⟨rfl, rfl⟩ ?_
      refine w_ishr (pc' := 121) ⟨rfl, rfl⟩ ?_
      refine w_topI (iZ_shr (k := 4) (by omega) (by decide)) ?_
      refine w_ic (pc' := 122) ⟨rfl, rfl⟩ ?_
      refine w_iand (pc' := 123) ⟨rfl, rfl⟩ ?_
      refine w_topI (iZ_and1 _) ?_
      refine w_ic (pc' := 124) ⟨rfl, rfl⟩ ?_
      refine w_ic_ne (pc' := 127) (pcT := 155) ⟨rfl, rfl⟩ rfl (by omega) (by omega) (fun h2 => ?_) (fun h2 => ?_)
      · refine w_iincZ (pc' := 158) ⟨rfl, rfl⟩ rfl rfl ?_
        refine w_goto (pc' := 161) (pcT := 44) ⟨rfl, rfl⟩ rfl ?_
        refine w_at (ls2 := [(0, .ref 0), (1, .int (iZ s)), (2, .int (iZ x)), (3, .ref 164), (4, .int (iZ (zmy x))), (5, .int (iZ ((f + 1 : Nat) : Int)))]) ?_ (ih (f + 1) (l ++ zsF x f) _ (by omega) ((((hf.trans m1).trans m2).trans m3).trans m4) ((b4.le (by omega)).eq ?_) (fun σ2 h1 h2 => k σ2 h1 (h2.eq (by rw [zsL, List.append_assoc, List.append_assoc]))))
        · exact ⟨rfl, rfl, rfl, rfl, rfl, rfl, trivial⟩
        · unfold zsF
          repeat' (first | rw [if_pos (by omega)] | rw [if_neg (by omega)])
          simp only [List.append_assoc, List.nil_append, List.append_nil, zTs13, zfn, List.cons_append]
      · refine w_aload_n (pc' := 128) ⟨rfl, rfl⟩ rfl ?_
        refine w_ldc (pc' := 130) (v := .ref (zSTR + 14)) ⟨rfl, rfl⟩ rfl ?_
        refine w_aload_n (pc' := 131) ⟨rfl, rfl⟩ rfl ?_
        refine w_cs3 (pc' := 134) ⟨rfl, rfl⟩ (by decide) (Nat.le_of_ble_eq_true rfl) (Nat.le_of_ble_eq_true rfl) (g_say b4 (by omega) (j := 14) (by decide) (d := 7) (by decide) (fun u5 m5 b5 => ?_))
        refine w_ifF_eq (pc' := 137) ⟨rfl, rfl⟩ (by decide) ?_
        refine w_aload_n (pc' := 138) ⟨rfl, rfl⟩ rfl ?_
        refine w_ic (pc' := 139) ⟨rfl, rfl⟩ ?_
        refine w_iload_n (pc' := 140) ⟨rfl, rfl⟩ rfl ?_
        refine w_bi (pc' := 142) ⟨rfl, rfl⟩ (by decide) ?_
        refine w_ishr (pc' := 143) ⟨rfl, rfl⟩ ?_
        refine w_topI (iZ_shr (k := 27) (by omega) (by decide)) ?_
        refine w_ic (pc' := 144) ⟨rfl, rfl⟩ ?_
        refine w_iand (pc' := 145) ⟨rfl, rfl⟩ ?_
        refine w_topI (iZ_and1 _) ?_
        refine w_iaddZ (pc' := 146) ⟨rfl, rfl⟩ ?_
        refine w_topI (show _ = iZ (zNx x) from rfl) ?_
        refine w_aload_n (pc' := 147) ⟨rfl, rfl⟩ rfl ?_
        refine w_cs3 (pc' := 150) ⟨rfl, rfl⟩ (by decide) (Nat.le_of_ble_eq_true rfl) (Nat.le_of_ble_eq_true rfl) (g_number b5 (by omega) (by omega) (fun u6 m6 b6 => ?_))
        refine w_ifT_ne (pc' := 153) (pcT := 155) ⟨rfl, rfl⟩ rfl (by decide) ?_
        refine w_iincZ (pc' := 158) ⟨rfl, rfl⟩ rfl rfl ?_
        refine w_goto (pc' := 161) (pcT := 44) ⟨rfl, rfl⟩ rfl ?_
        refine w_at (ls2 := [(0, .ref 0), (1, .int (iZ s)), (2, .int (iZ x)), (3, .ref 164), (4, .int (iZ (zmy x))), (5, .int (iZ ((f + 1 : Nat) : Int)))]) ?_ (ih (f + 1) (l ++ zsF x f) _ (by omega) ((((((hf.trans m1).trans m2).trans m3).trans m4).trans m5).trans m6) ((b6.le (by omega)).eq ?_) (fun σ2 h1 h2 => k σ2 h1 (h2.eq (by rw [zsL, List.append_assoc, List.append_assoc]))))
        · exact ⟨rfl, rfl, rfl, rfl, rfl, rfl, trivial⟩
        · unfold zsF
          repeat' (first | rw [if_pos (by omega)] | rw [if_neg (by omega)])
          simp only [List.append_assoc, List.nil_append, List.append_nil, zTs13, zfn, List.cons_append]
theorem f_scheme {σ : zSt} {l : List Int} {n : Nat} (hb : zBe σ l n) (hn : n + 160 ≤ 1600) {s x : Int} (hs : 0 ≤ s ∧ s ≤ 2) (hx : -2147483648 ≤ x ∧ x ≤ 2147483647) {Q : zSt → Option Value → Prop} (k : ∀ σ1, zFm [3, 4, 164] σ σ1 → zBe σ1 (l ++ zScT s x) (n + 111) → Q σ1 (some (.int (iZ 1)))) : zCa 125 [.ref 0, .int (iZ s), .int (iZ x), .ref 164] σ Q := by
  refine w_enter (c := zk_L_scheme) (ls2 := [(0, .ref 0), (1, .int (iZ s)), (2, .int (iZ x)), (3, .ref 164)]) rfl ⟨rfl, rfl, rfl, rfl, trivial⟩ ?_
  refine w_aload_n (pc' := 1) ⟨rfl, rfl⟩ rfl ?_
  refine w_ldc (pc' := 3) (v := .ref (zSTR + 1)) ⟨rfl, rfl⟩ rfl ?_
  refine w_aload_n (pc' := 4) ⟨rfl, rfl⟩ rfl ?_
  refine w_cs3 (pc' := 7) ⟨rfl, rfl⟩ (by decide) (Nat.le_of_ble_eq_true rfl) (Nat.le_of_ble_eq_true rfl) (g_say hb (by omega) (j := 1) (by decide) (d := 8) (by decide) (fun u1 m1 b1 => ?_))
  refine w_ifF_eq (pc' := 10) ⟨rfl, rfl⟩ (by decide) ?_
  refine w_aload_n (pc' := 11) ⟨rfl, rfl⟩ rfl ?_
  refine w_bi (pc' := 13) ⟨rfl, rfl⟩ (by decide) ?_
  refine w_iload_n (pc' := 14) ⟨rfl, rfl⟩ rfl ?_
  refine w_iaddZ (pc' := 15) ⟨rfl, rfl⟩ ?_
  refine w_aload_n (pc' := 16) ⟨rfl, rfl⟩ rfl ?_
  refine w_cs3 (pc' := 19) ⟨rfl, rfl⟩ (by decide) (Nat.le_of_ble_eq_true rfl) (Nat.le_of_ble_eq_true rfl) (g_sign b1 (by omega) (by omega) (fun u2 m2 b2 => ?_))
  refine w_ifF_eq (pc' := 22) ⟨rfl, rfl⟩ (by decide) ?_
  refine w_aload_n (pc' := 23) ⟨rfl, rfl⟩ rfl ?_
  refine w_ldc (pc' := 25) (v := .ref (zSTR + 2)) ⟨rfl, rfl⟩ rfl ?_
  refine w_aload_n (pc' := 26) ⟨rfl, rfl⟩ rfl ?_
  refine w_cs3 (pc' := 29) ⟨rfl, rfl⟩ (by decide) (Nat.le_of_ble_eq_true rfl) (Nat.le_of_ble_eq_true rfl) (g_say b2 (by omega) (j := 2) (by decide) (d := 1) (by decide) (fun u3 m3 b3 => ?_))
  refine w_ifT_ne (pc' := 32) (pcT := 34) ⟨rfl, rfl⟩ rfl (by decide) ?_
  refine w_ic (pc' := 35) ⟨rfl, rfl⟩ ?_
  refine w_iload_n (pc' := 36) ⟨rfl, rfl⟩ rfl ?_
  refine w_ic (pc' := 37) ⟨rfl, rfl⟩ ?_
  refine w_iand (pc' := 38) ⟨rfl, rfl⟩ ?_
  refine w_topI (iZ_and3 _) ?_
  refine w_iaddZ (pc' := 39) ⟨rfl, rfl⟩ ?_
  refine w_topI (show _ = iZ (zmy x) from rfl) ?_
  refine w_istore (pc' := 41) ⟨rfl, rfl⟩ rfl ?_
  refine w_ic (pc' := 42) ⟨rfl, rfl⟩ ?_
  refine w_istore (pc' := 44) ⟨rfl, rfl⟩ rfl ?_
  have hmy : zmy x = 2 + x % 4 := rfl
  refine w_at (ls2 := [(0, .ref 0), (1, .int (iZ s)), (2, .int (iZ x)), (3, .ref 164), (4, .int (iZ (zmy x))), (5, .int (iZ ((0 : Nat) : Int)))]) ?_ (l_scheme (n := n + 10) hs hx (by omega) (zmy x).toNat 0 _ _ (by omega) ((m1.trans m2).trans m3) (b3.le (by omega)) (fun σ2 h1 h2 => k σ2 h1 ((h2.le (by omega)).eq (by unfold zScT; simp only [List.append_assoc]))))
  exact ⟨rfl, rfl, rfl, rfl, rfl, rfl, trivial⟩
