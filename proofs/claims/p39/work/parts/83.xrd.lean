/-! THE READER: a crossing read -/
/-- what a rule's source is, as text; a rule's text -/
def zxS (a b y : Int) (f : Nat) : List Int := if 0 < f ∧ y / 2 ^ 3 % 4 = 3 ∧ zKx b f ≠ 0 then znu (7 * (y % 8)) else zfn (zG a y) ++ ((if y / 2 ^ 3 % 4 = 1 ∧ zNk (zKx a (zG a y).toNat) then zTs (if y % 2 = 0 then 19 else 20) ++ znu (1 + y / 2 ^ 1 % 8) else []) ++ (if y / 2 ^ 3 % 4 = 2 ∧ zNk (zKx a (zG a y).toNat) ∧ zNk (zKx a (zH a y).toNat) then zTs 21 ++ zfn (zH a y) else []))
def zxB (a b y : Int) (f : Nat) : List Int := zfn f ++ (zTs 18 ++ zxS a b y f)
theorem zcR_0 {a b y : Int} : zcR a b y 0 = zxB a b y 0 := by
  unfold zcR zxB zxS
  rw [if_neg (by omega), List.nil_append]
theorem zcR_s {a b y : Int} {f : Nat} : zcR a b y (f + 1) = 44 :: zxB a b y (f + 1) := by
  unfold zcR zxB zxS
  rw [if_pos (by omega)]
  rfl
theorem zTs18 : zTs 18 = [32] ++ (zow2 13 ++ [32]) := by decide
theorem zTs19 : zTs 19 = [32] ++ (zow2 14 ++ [32]) := by decide
theorem zTs20 : zTs 20 = [32] ++ (zow2 15 ++ [32]) := by decide
theorem zTs21 : zTs 21 = [32] ++ (zow2 16 ++ [32]) := by decide
theorem zTs16 : zTs 16 = zow2 11 ++ [32, 115] := by decide
theorem zTs17 : zTs 17 = [32] ++ (zow2 12 ++ [32, 115]) := by decide
theorem zxS_ok (a b y : Int) (f : Nat) : (∃ n : Int, (0 ≤ n ∧ n ≤ 99) ∧ zKx b f ≠ 0 ∧ zxS a b y f = znu n) ∨ ∃ g : Nat, g < (zmy a).toNat ∧ (zxS a b y f = zfn g ∨ (zNk (zKx a g) ∧ ∃ n : Int, (1 ≤ n ∧ n ≤ 99) ∧ (zxS a b y f = zfn g ++ ([32] ++ (zow2 14 ++ ([32] ++ znu n))) ∨ zxS a b y f = zfn g ++ ([32] ++ (zow2 15 ++ ([32] ++ znu n))))) ∨ (zNk (zKx a g) ∧ ∃ h : Nat, h < (zmy a).toNat ∧ zNk (zKx a h) ∧ zxS a b y f = zfn g ++ ([32] ++ (zow2 16 ++ ([32] ++ zfn h))))) := by
  unfold zxS
  by_cases h1 : 0 < f ∧ y / 2 ^ 3 % 4 = 3 ∧ zKx b f ≠ 0
  · left
    rw [if_pos h1]
    exact ⟨7 * (y % 8), by omega, h1.2.2, rfl⟩
  · right
    rw [if_neg h1]
    have hg := zG_rng a y
    have hh := zH_rng a y
    have eg : ((zG a y).toNat : Int) = zG a y := Int.toNat_of_nonneg hg.1
    have eh : ((zH a y).toNat : Int) = zH a y := Int.toNat_of_nonneg hh.1
    refine ⟨(zG a y).toNat, by omega, ?_⟩
    rw [eg]
    by_cases h2 : y / 2 ^ 3 % 4 = 1 ∧ zNk (zKx a (zG a y).toNat)
    · right; left
      refine ⟨h2.2, 1 + y / 2 ^ 1 % 8, by omega, ?_⟩
      rw [if_pos h2, if_neg (show ¬ (y / 2 ^ 3 % 4 = 2 ∧ zNk (zKx a (zG a y).toNat) ∧ zNk (zKx a (zH a y).toNat)) from fun q => by omega), List.append_nil]
      by_cases h3 : y % 2 = 0
      · left
        rw [if_pos h3, zTs19]
        simp only [List.append_assoc]
      · right
        rw [if_neg h3, zTs20]
        simp only [List.append_assoc]
    · rw [if_neg h2, List.nil_append]
      by_cases h3 : y / 2 ^ 3 % 4 = 2 ∧ zNk (zKx a (zG a y).toNat) ∧ zNk (zKx a (zH a y).toNat)
      · right; right
        refine ⟨h3.2.1, (zH a y).toNat, by omega, h3.2.2, ?_⟩
        rw [if_pos h3, zTs21, eh]
        simp only [List.append_assoc]
      · left
        rw [if_neg h3, List.append_nil]
theorem r_xg {σ0 σ : zSt} {l : List Int} (h0 : zBas σ0 l) {p : Nat} {st : Int} (hst : st = 13 ∨ st = 16) (h : zAs σ0 σ p st) {pre r : List Int} {cc : Int} (hcc : cc = 44 ∨ cc = 59) (hl : l = pre ++ (cc :: r)) (hp : pre.length = p) {a : Nat} (ha : a ≤ 3) {X : Nat → Int} {u v c f : Nat} (hX : zXr σ a X u v c (f + 1)) (hu : u < a) (hv : v < a) (hc : c < 4) (hf : f < 6) (h16 : zR σ 1 16 = some (5 + 18 + 8 * c + 2 + f)) (hfn : f < znf X v) {Q : zSt → Option Value → Prop} (k : ∀ σ2, zAs σ0 σ2 (p + 1) (if cc = 44 then 10 else 0) → zXr σ2 a X u v c (f + 1) → zGo σ2 (p + 1) Q) : zGo σ p Q := by
  rcases hcc with rfl | rfl <;> rcases hst with rfl | rfl
  · exact r_xgC13 h0 h hl hp ha hX hu hv hc hf h16 hfn k
  · exact r_xgC16 h0 h hl hp ha hX hu hv hc hf h16 hfn k
  · exact r_xgS13 h0 h hl hp ha hX hu hv hc hf h16 hfn k
  · exact r_xgS16 h0 h hl hp ha hX hu hv hc hf h16 hfn k
theorem rd_rule {σ0 σ : zSt} {l : List Int} (h0 : zBas σ0 l) {p : Nat} (h : zAs σ0 σ p 10) {pre bl r : List Int} {a : Nat} (ha : a ≤ 3) {X : Nat → Int} {u v c f : Nat} (hX : zXr σ a X u v c f) (hu : u < a) (hv : v < a) (hc : c < 4) (hf : f < 6) (hfn : f < znf X v) {y cc : Int} (hl : l = pre ++ (bl ++ (zxB (X u) (X v) y f ++ (cc :: r)))) (hp : pre.length = p) (hbl : bl = [] ∨ bl = [32]) (hcc : cc = 44 ∨ cc = 59) {q : Nat} (hq : q = p + bl.length + (zxB (X u) (X v) y f).length + 1) {Q : zSt → Option Value → Prop} (k : ∀ σ2, zAs σ0 σ2 q (if cc = 44 then 10 else 0) → zXr σ2 a X u v c (f + 1) → zGo σ2 q Q) : zGo σ p Q := by
  have hS := zxS_ok (X u) (X v) y f
  have e13 : (zow2 13).length = 4 := rfl
  have e14 : (zow2 14).length = 2 := rfl
  have e15 : (zow2 15).length = 4 := rfl
  have e16 : (zow2 16).length = 4 := rfl
  unfold zxB at hl hq
  rw [zTs18] at hl hq
  generalize zxS (X u) (X v) y f = src at hS hl hq
  simp only [List.length_append, List.length_singleton, zfn_len, e13] at hq
  have hl1 : l = pre ++ (bl ++ (zfn f ++ ([32] ++ (zow2 13 ++ ([32] ++ (src ++ (cc :: r))))))) := by rw [hl]; simp only [List.append_assoc]
  refine r_xT h0 h hl1 hp hbl (zStp_c (Or.inl rfl)) ha hX hu hv hc hf hfn (fun σ1 A1 X1 e1 => ?_)
  have hl2 : l = (pre ++ (bl ++ zfn f)) ++ ([32] ++ (zow2 13 ++ ([32] ++ (src ++ (cc :: r))))) := by rw [hl1]; simp only [List.append_assoc]
  refine r_xFr h0 A1 hl2 (by simp only [List.length_append, zfn_len]; omega) (zStp_c (Or.inl rfl)) ha X1 hu hv hc hf e1 (fun σ2 A2 X2 e2 => ?_)
  have hl3 : l = (pre ++ (bl ++ (zfn f ++ ([32] ++ zow2 13)))) ++ ([32] ++ (src ++ (cc :: r))) := by rw [hl1]; simp only [List.append_assoc]
  have hp3 : (pre ++ (bl ++ (zfn f ++ ([32] ++ zow2 13)))).length = p + bl.length + 2 + 5 := by simp only [List.length_append, List.length_singleton, zfn_len, e13]; omega
  rcases hS with ⟨n, hn, hk0, rfl⟩ | ⟨g, hg, hS⟩
  · refine r_xN h0 A2 hl3 hp3 (zStp_c (Or.inr hcc)) hn ha X2 hu hv hc hf hfn hk0 e2 (fun σ3 A3 X3 r3 => ?_)
    have hl4 : l = (pre ++ (bl ++ (zfn f ++ ([32] ++ (zow2 13 ++ ([32] ++ znu n)))))) ++ (cc :: r) := by rw [hl1]; simp only [List.append_assoc]
    obtain rfl : q = p + bl.length + 2 + 5 + 1 + (znu n).length + 1 := by omega
    exact r_xg h0 (Or.inr rfl) A3 hcc hl4 (by simp only [List.length_append, List.length_singleton, zfn_len, e13]; omega) ha X3 hu hv hc hf r3 hfn k
  · rcases hS with rfl | ⟨hk, n, hn, rfl | rfl⟩ | ⟨hk, g2, hg2, hk2, rfl⟩
    · refine r_xA h0 A2 hl3 hp3 (zStp_c (Or.inr hcc)) ha X2 hu hv hc hf hg e2 (fun σ3 A3 X3 r3 e3 => ?_)
      have hl4 : l = (pre ++ (bl ++ (zfn f ++ ([32] ++ (zow2 13 ++ ([32] ++ zfn g)))))) ++ (cc :: r) := by rw [hl1]; simp only [List.append_assoc]
      have hq2 := zfn_len (g : Int)
      obtain rfl : q = p + bl.length + 2 + 5 + 3 + 1 := by omega
      exact r_xg h0 (Or.inl rfl) A3 hcc hl4 (by simp only [List.length_append, List.length_singleton, zfn_len, e13]; omega) ha X3 hu hv hc hf r3 hfn k
    · have hl3' : l = (pre ++ (bl ++ (zfn f ++ ([32] ++ zow2 13)))) ++ ([32] ++ (zfn g ++ ([32] ++ (zow2 14 ++ ([32] ++ (znu n ++ (cc :: r))))))) := by rw [hl3]; simp only [List.append_assoc]
      refine r_xA h0 A2 hl3' hp3 (zStp_c (Or.inl rfl)) ha X2 hu hv hc hf hg e2 (fun σ3 A3 X3 r3 e3 => ?_)
      have hl4 : l = (pre ++ (bl ++ (zfn f ++ ([32] ++ (zow2 13 ++ ([32] ++ zfn g)))))) ++ ([32] ++ (zow2 14 ++ ([32] ++ (znu n ++ (cc :: r))))) := by rw [hl3']; simp only [List.append_assoc]
      refine r_xBy h0 A3 hl4 (by simp only [List.length_append, List.length_singleton, zfn_len, e13]; omega) (zStp_c (Or.inl rfl)) ha X3 hu hv hc hf r3 hg hk e3 (fun σ4 A4 X4 r4 => ?_)
      have hl5 : l = (pre ++ (bl ++ (zfn f ++ ([32] ++ (zow2 13 ++ ([32] ++ (zfn g ++ ([32] ++ zow2 14)))))))) ++ ([32] ++ (znu n ++ (cc :: r))) := by rw [hl3']; simp only [List.append_assoc]
      refine r_xFac h0 A4 hl5 (by simp only [List.length_append, List.length_singleton, zfn_len, e13, e14]; omega) (zStp_c (Or.inr hcc)) hn ha X4 hu hv hc hf r4 (fun σ5 A5 X5 r5 => ?_)
      have hl6 : l = (pre ++ (bl ++ (zfn f ++ ([32] ++ (zow2 13 ++ ([32] ++ (zfn g ++ ([32] ++ (zow2 14 ++ ([32] ++ znu n)))))))))) ++ (cc :: r) := by rw [hl3']; simp only [List.append_assoc]
      simp only [List.length_append, List.length_singleton, zfn_len, e14] at hq
      obtain rfl : q = p + bl.length + 2 + 5 + 3 + 3 + 1 + (znu n).length + 1 := by omega
      exact r_xg h0 (Or.inr rfl) A5 hcc hl6 (by simp only [List.length_append, List.length_singleton, zfn_len, e13, e14]; omega) ha X5 hu hv hc hf r5 hfn k
    · have hl3' : l = (pre ++ (bl ++ (zfn f ++ ([32] ++ zow2 13)))) ++ ([32] ++ (zfn g ++ ([32] ++ (zow2 15 ++ ([32] ++ (znu n ++ (cc :: r))))))) := by rw [hl3]; simp only [List.append_assoc]
      refine r_xA h0 A2 hl3' hp3 (zStp_c (Or.inl rfl)) ha X2 hu hv hc hf hg e2 (fun σ3 A3 X3 r3 e3 => ?_)
      have hl4 : l = (pre ++ (bl ++ (zfn f ++ ([32] ++ (zow2 13 ++ ([32] ++ zfn g)))))) ++ ([32] ++ (zow2 15 ++ ([32] ++ (znu n ++ (cc :: r))))) := by rw [hl3']; simp only [List.append_assoc]
      refine r_xOv h0 A3 hl4 (by simp only [List.length_append, List.length_singleton, zfn_len, e13]; omega) (zStp_c (Or.inl rfl)) ha X3 hu hv hc hf r3 hg hk e3 (fun σ4 A4 X4 r4 => ?_)
      have hl5 : l = (pre ++ (bl ++ (zfn f ++ ([32] ++ (zow2 13 ++ ([32] ++ (zfn g ++ ([32] ++ zow2 15)))))))) ++ ([32] ++ (znu n ++ (cc :: r))) := by rw [hl3']; simp only [List.append_assoc]
      refine r_xFac h0 A4 hl5 (by simp only [List.length_append, List.length_singleton, zfn_len, e13, e15]; omega) (zStp_c (Or.inr hcc)) hn ha X4 hu hv hc hf r4 (fun σ5 A5 X5 r5 => ?_)
      have hl6 : l = (pre ++ (bl ++ (zfn f ++ ([32] ++ (zow2 13 ++ ([32] ++ (zfn g ++ ([32] ++ (zow2 15 ++ ([32] ++ znu n)))))))))) ++ (cc :: r) := by rw [hl3']; simp only [List.append_assoc]
      simp only [List.length_append, List.length_singleton, zfn_len, e15] at hq
      obtain rfl : q = p + bl.length + 2 + 5 + 3 + 5 + 1 + (znu n).length + 1 := by omega
      exact r_xg h0 (Or.inr rfl) A5 hcc hl6 (by simp only [List.length_append, List.length_singleton, zfn_len, e13, e15]; omega) ha X5 hu hv hc hf r5 hfn k
    · have hl3' : l = (pre ++ (bl ++ (zfn f ++ ([32] ++ zow2 13)))) ++ ([32] ++ (zfn g ++ ([32] ++ (zow2 16 ++ ([32] ++ (zfn g2 ++ (cc :: r))))))) := by rw [hl3]; simp only [List.append_assoc]
      refine r_xA h0 A2 hl3' hp3 (zStp_c (Or.inl rfl)) ha X2 hu hv hc hf hg e2 (fun σ3 A3 X3 r3 e3 => ?_)
      have hl4 : l = (pre ++ (bl ++ (zfn f ++ ([32] ++ (zow2 13 ++ ([32] ++ zfn g)))))) ++ ([32] ++ (zow2 16 ++ ([32] ++ (zfn g2 ++ (cc :: r))))) := by rw [hl3']; simp only [List.append_assoc]
      refine r_xPl h0 A3 hl4 (by simp only [List.length_append, List.length_singleton, zfn_len, e13]; omega) (zStp_c (Or.inl rfl)) ha X3 hu hv hc hf r3 hg hk e3 (fun σ4 A4 X4 r4 => ?_)
      have hl5 : l = (pre ++ (bl ++ (zfn f ++ ([32] ++ (zow2 13 ++ ([32] ++ (zfn g ++ ([32] ++ zow2 16)))))))) ++ ([32] ++ (zfn g2 ++ (cc :: r))) := by rw [hl3']; simp only [List.append_assoc]
      refine r_x2 h0 A4 hl5 (by simp only [List.length_append, List.length_singleton, zfn_len, e13, e16]; omega) (zStp_c (Or.inr hcc)) ha X4 hu hv hc hf r4 hg2 hk2 (fun σ5 A5 X5 r5 => ?_)
      have hl6 : l = (pre ++ (bl ++ (zfn f ++ ([32] ++ (zow2 13 ++ ([32] ++ (zfn g ++ ([32] ++ (zow2 16 ++ ([32] ++ zfn g2)))))))))) ++ (cc :: r) := by rw [hl3']; simp only [List.append_assoc]
      simp only [List.length_append, List.length_singleton, zfn_len, e16] at hq
      obtain rfl : q = p + bl.length + 2 + 5 + 3 + 5 + 3 + 1 := by omega
      exact r_xg h0 (Or.inr rfl) A5 hcc hl6 (by simp only [List.length_append, List.length_singleton, zfn_len, e13, e16]; omega) ha X5 hu hv hc hf r5 hfn k
/-- all rules -/
theorem rd_rules {σ0 : zSt} {l : List Int} (h0 : zBas σ0 l) {a : Nat} (ha : a ≤ 3) {X : Nat → Int} {u v c : Nat} (hu : u < a) (hv : v < a) (hc : c < 4) {x : Int} {r : List Int} {Q : zSt → Option Value → Prop} {q : Nat} : ∀ (m f p : Nat) (pre bl : List Int) (σ : zSt), f + m + 1 = znf X v → zAs σ0 σ p 10 → l = pre ++ (bl ++ (zxB (X u) (X v) (zY x (5 * f)) f ++ (zcL (X u) (X v) x m (f + 1) ++ (59 :: r)))) → pre.length = p → (bl = [] ∨ bl = [32]) → zXr σ a X u v c f → q = p + bl.length + (zxB (X u) (X v) (zY x (5 * f)) f).length + (zcL (X u) (X v) x m (f + 1)).length + 1 → (∀ σ2, zAs σ0 σ2 q 0 → zXr σ2 a X u v c (znf X v) → zGo σ2 q Q) → zGo σ p Q := by
  have hz := znf_rng X v
  intro m
  induction m with
  | zero =>
    intro f p pre bl σ hf h hl hp hbl hX hq k
    refine rd_rule h0 h ha hX hu hv hc (by omega) (by omega) hl hp hbl (Or.inr rfl) (q := q) (by rw [hq]; simp only [zcL, List.length_nil]) (fun σ2 A2 X2 => k σ2 A2 (by rw [← hf]; exact X2))
  | succ m ih =>
    intro f p pre bl σ hf h hl hp hbl hX hq k
    have hl1 : l = pre ++ (bl ++ (zxB (X u) (X v) (zY x (5 * f)) f ++ (44 :: (zxB (X u) (X v) (zY x (5 * (f + 1))) (f + 1) ++ (zcL (X u) (X v) x m (f + 1 + 1) ++ (59 :: r)))))) := by
      rw [hl, zcL, zcR_s]; simp only [List.append_assoc, List.cons_append]
    refine rd_rule h0 h ha hX hu hv hc (by omega) (by omega) hl1 hp hbl (Or.inl rfl) rfl (fun σ2 A2 X2 => ?_)
    refine ih (f + 1) _ (pre ++ (bl ++ (zxB (X u) (X v) (zY x (5 * f)) f ++ [44]))) [] σ2 (by omega) A2 ?_ ?_ (Or.inl rfl) X2 ?_ k
    · rw [hl1]; simp only [List.append_assoc, List.cons_append, List.nil_append]
    · simp only [List.length_append, List.length_singleton]; omega
    · rw [hq, zcL, zcR_s]; simp only [List.length_append, List.length_cons, List.length_nil]; omega
/-- a crossing -/
theorem rd_cross {σ0 σ : zSt} {l : List Int} (h0 : zBas σ0 l) {p : Nat} (h : zAs σ0 σ p 0) {a : Nat} (ha : 1 ≤ a ∧ a ≤ 3) {X : Nat → Int} {u v c : Nat} (hu : u < a) (hv : v < a) (huv : u ≠ v) (hc : c < 4) (hC : zCm σ a X) (h52 : zI σ 5 2 = iZ (a : Int)) (h53 : zI σ 5 3 = iZ (c : Int)) {x : Int} {pre r : List Int} (hl : l = pre ++ (zcT (u : Int) (v : Int) (X u) (X v) x ++ r)) (hp : pre.length = p) {Q : zSt → Option Value → Prop} (k : ∀ σ2, zAs σ0 σ2 (p + (zcT (u : Int) (v : Int) (X u) (X v) x).length) 0 → zCm σ2 a X → zI σ2 5 2 = iZ (a : Int) → zI σ2 5 3 = iZ ((c + 1 : Nat) : Int) → zGo σ2 (p + (zcT (u : Int) (v : Int) (X u) (X v) x).length) Q) : zGo σ p Q := by
  have hmy := znf_rng X v
  unfold znf at hmy
  obtain ⟨m, hm⟩ : ∃ m : Nat, (zmy (X v)).toNat = m + 1 := ⟨(zmy (X v)).toNat - 1, by omega⟩
  have hl1 : zcT (u : Int) (v : Int) (X u) (X v) x = zow2 11 ++ ([32] ++ (zsn u ++ ([32] ++ (zow2 12 ++ ([32] ++ (zsn v ++ ([32] ++ (zxB (X u) (X v) (zY x (5 * 0)) 0 ++ (zcL (X u) (X v) x m (0 + 1) ++ [59]))))))))) := by
    unfold zcT
    rw [hm, zcL, zcR_0, zTs16, zTs17, zTs2, zTs15]
    simp only [zsn, List.append_assoc, List.cons_append, List.nil_append]
  have e11 : (zow2 11).length = 5 := rfl
  have e12 : (zow2 12).length = 2 := rfl
  have eu : (zsn u).length = 2 := rfl
  have ev : (zsn v).length = 2 := rfl
  have hlen : (zcT (u : Int) (v : Int) (X u) (X v) x).length = 5 + (3 + (3 + (3 + (1 + ((zxB (X u) (X v) (zY x (5 * 0)) 0).length + ((zcL (X u) (X v) x m (0 + 1)).length + 1)))))) := by
    rw [hl1]
    simp only [List.length_append, List.length_singleton, e11, e12, eu, ev]
    omega
  have hla : l = pre ++ (zow2 11 ++ ([32] ++ (zsn u ++ ([32] ++ (zow2 12 ++ ([32] ++ (zsn v ++ ([32] ++ (zxB (X u) (X v) (zY x (5 * 0)) 0 ++ (zcL (X u) (X v) x m (0 + 1) ++ (59 :: r)))))))))))  := by
    rw [hl, hl1]; simp only [List.append_assoc, List.cons_append, List.nil_append]
  refine r_stC h0 h hla hp (zStp_c (Or.inl rfl)) ha hc h52 h53 (fun σ1 f1 A1 => ?_)
  have hC1 := hC.fk ha.2 f1.q (fun o q => by rw [List.mem_singleton] at q; omega)
  have g52 := f1.i h52 (by simp only [List.mem_cons, List.not_mem_nil, or_false, not_false_eq_true] <;> omega)
  have g53 := f1.i h53 (by simp only [List.mem_cons, List.not_mem_nil, or_false, not_false_eq_true] <;> omega)
  have hlb : l = (pre ++ zow2 11) ++ ([32] ++ (zsn u ++ ([32] ++ (zow2 12 ++ ([32] ++ (zsn v ++ ([32] ++ (zxB (X u) (X v) (zY x (5 * 0)) 0 ++ (zcL (X u) (X v) x m (0 + 1) ++ (59 :: r))))))))))  := by
    rw [hla]; simp only [List.append_assoc]
  refine r_xF h0 A1 hlb (by rw [List.length_append, e11, hp]) (zStp_c (Or.inl rfl)) ha.2 hu hC1 g52 (fun σ2 f2 A2 e13 => ?_)
  have hC2 := hC1.fk ha.2 f2.q (fun o q => by rw [List.mem_singleton] at q; omega)
  have g52 := f2.i g52 (by simp only [List.mem_cons, List.not_mem_nil, or_false, not_false_eq_true] <;> omega)
  have g53 := f2.i g53 (by simp only [List.mem_cons, List.not_mem_nil, or_false, not_false_eq_true] <;> omega)
  have hlc : l = (pre ++ (zow2 11 ++ ([32] ++ zsn u))) ++ ([32] ++ (zow2 12 ++ ([32] ++ (zsn v ++ ([32] ++ (zxB (X u) (X v) (zY x (5 * 0)) 0 ++ (zcL (X u) (X v) x m (0 + 1) ++ (59 :: r)))))))) := by
    rw [hla]; simp only [List.append_assoc]
  refine r_xTo h0 A2 hlc (by simp only [List.length_append, List.length_singleton, e11, eu]; omega) (zStp_c (Or.inl rfl)) (fun σ3 f3 A3 e3 => ?_)
  have hC3 := hC2.fk ha.2 f3.q (fun o q => by rw [List.mem_singleton] at q; omega)
  have g52 := f3.i g52 (by simp only [List.mem_cons, List.not_mem_nil, or_false, not_false_eq_true] <;> omega)
  have g53 := f3.i g53 (by simp only [List.mem_cons, List.not_mem_nil, or_false, not_false_eq_true] <;> omega)
  have hld : l = (pre ++ (zow2 11 ++ ([32] ++ (zsn u ++ ([32] ++ zow2 12))))) ++ ([32] ++ (zsn v ++ ([32] ++ (zxB (X u) (X v) (zY x (5 * 0)) 0 ++ (zcL (X u) (X v) x m (0 + 1) ++ (59 :: r)))))) := by
    rw [hla]; simp only [List.append_assoc]
  refine r_xS h0 A3 hld (by simp only [List.length_append, List.length_singleton, e11, eu, e12]; omega) (zStp_c (Or.inl rfl)) ha.2 hu hv huv hc hC3 g52 g53 (e3.trans e13) (fun σ4 A4 X4 => ?_)
  have hle : l = (pre ++ (zow2 11 ++ ([32] ++ (zsn u ++ ([32] ++ (zow2 12 ++ ([32] ++ zsn v))))))) ++ ([32] ++ (zxB (X u) (X v) (zY x (5 * 0)) 0 ++ (zcL (X u) (X v) x m (0 + 1) ++ (59 :: r)))) := by
    rw [hla]; simp only [List.append_assoc]
  exact rd_rules h0 ha.2 hu hv hc (q := p + (zcT (u : Int) (v : Int) (X u) (X v) x).length) m 0 (p + 5 + 3 + 3 + 3) _ [32] σ4 (by unfold znf; omega) A4 hle (by simp only [List.length_append, List.length_singleton, e11, eu, e12, ev]; omega) (Or.inr rfl) X4 (by rw [hlen, List.length_singleton]; omega) (fun σ5 A5 X5 => k σ5 A5 X5.1 X5.2.1 X5.2.2.1)
