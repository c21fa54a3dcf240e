/-! class SignDots: its public methods -/
def CI (S : Sc) (o : Nat → Nat) (K KT : Nat → Int32) (μ : Mem) : Prop := NoI S o μ ∧ (∀ b, b < 20 → μ 10 b = S.2 8 b ∧ μ 11 b = S.2 11 b ∧ μ 13 b = K b ∧ μ 14 b = KT b ∧ rg (K b) 0 2) ∧ (∀ k, k < 5 → μ 15 k = S.2 10 k) ∧ (μ 16 10 ≠ 0 → FndI S o μ) ∧ (μ 27 9 = -1 ∨ ∃ p', μ 27 9 = nI p' ∧ p' < S.1 ∧ ColI S o p' μ) ∧ (μ 33 8 = -1 ∨ ∃ p', μ 33 8 = nI p' ∧ p' < S.1 ∧ DotI S o p' μ)
def FrC (μ u : Mem) : Prop := ∀ c, 42 ≤ c → u c = μ c
def setA (S : Sc) (k j : Nat) (v : Int32) : Sc := (S.1, fun k' j' => if k' = k ∧ j' = j then v else S.2 k' j')
def keyS (S : Sc) (b : Nat) (x : Int32) : Sc := (S.1, fun k j => if k = 8 then tlF (S.2 11) (S.2 8) b x j else if k = 11 ∧ j = b then 1 else S.2 k j)
def vF (x0 x1 x2 x3 x4 : Int32) (k : Nat) : Int32 := if k = 0 then x0 else if k = 1 then x1 else if k = 2 then x2 else if k = 3 then x3 else if k = 4 then x4 else 0
noncomputable def cntJ (S : Sc) (o : Nat → Nat) (x : Int32) : Nat → Nat
  | 0 => 0
  | k + 1 => cite (KJ S o k = x) (cntJ S o x k + 1) (cntJ S o x k)
def loF (c : Int32) : Int32 := ([30, 18, 24] : List Int32).getD (ix c) 0
def plJ (S : Sc) (K : Nat → Int32) (j : Nat) : Int32 := S.2 0 j - loF (K (baN S j))
abbrev isN (S : Sc) (x : Int32) : Prop := 0 ≤ x.toInt ∧ x.toInt < S.1
abbrev isB (x : Int32) : Prop := 0 ≤ x.toInt ∧ x.toInt ≤ 19
def bfK (S : Sc) (b : Nat) : Int32 := if b = 0 then 0 else S.2 8 (b - 1)
/-- what the questions answer -/
def aCol (S : Sc) (o : Nat → Nat) (j : Nat) (r : Int32) : Prop := (KJ S o j = 0 ∧ r = -1) ∨ (KJ S o j ≠ 0 ∧ ∃ p m z col i, ColS S o p m z col ∧ wh S (o p) = wh S j ∧ i < m ∧ z i = j ∧ (∀ i', i' < i → z i' ≠ j) ∧ r = nI (col i))
def aSign (S : Sc) (o : Nat → Nat) (K : Nat → Int32) (x y r : Int32) : Prop := (¬ isN S x ∧ r = -2) ∨ (isN S x ∧ (((y.toInt < 0 ∨ 5 < y.toInt) ∧ r = -3) ∨ (y = nI 0 ∧ r = KJ S o (ix x)) ∨ (y = nI 1 ∧ r = if tieF S (ix x) = -1 then 0 else 1) ∨ (y = nI 2 ∧ r = NJ S o (ix x)) ∨ (y = nI 3 ∧ r = if KJ S o (ix x) = 0 then 0 else wdJ S o (ix x)) ∨ (y = nI 4 ∧ aCol S o (ix x) r) ∨ (y = nI 5 ∧ r = plJ S K (ix x) + 100)))
def aCount (S : Sc) (o : Nat → Nat) (x r : Int32) : Prop := ((x.toInt < 0 ∨ 3 < x.toInt) ∧ r = -3) ∨ (x = nI 0 ∧ r = nI S.1) ∨ (x = nI 1 ∧ r = nI (cntJ S o 1 S.1)) ∨ (x = nI 2 ∧ r = nI (cntJ S o 2 S.1)) ∨ (x = nI 3 ∧ r = nI (cntB S o S.1))
def aOrd (S : Sc) (o : Nat → Nat) (x r : Int32) : Prop := (¬ isN S x ∧ r = -2) ∨ (isN S x ∧ r = nI (o (ix x)))
def aExt (S : Sc) (o : Nat → Nat) (b t r : Int32) : Prop := ((∀ j, j < S.1 → ¬ (S.2 2 j = b ∧ S.2 3 j = t)) ∧ r = -2) ∨ ∃ p m z col, p < S.1 ∧ S.2 2 (o p) = b ∧ S.2 3 (o p) = t ∧ ColS S o p m z col ∧ r = nI (sWd (wN S o z) col m 60)
def aDot (S : Sc) (o : Nat → Nat) (K : Nat → Int32) (x r : Int32) : Prop := (¬ isN S x ∧ r = -2) ∨ (isN S x ∧ ((S.2 7 (ix x) = 0 ∧ r = -1) ∨ (S.2 7 (ix x) ≠ 0 ∧ ∃ p m f lo N b i, DotS S o p m f lo N b ∧ wh S (o p) = wh S (ix x) ∧ i < m ∧ f i = stN S (ix x) ∧ r.toInt = lo + 2 * (b i : Int) - (loF (K (baN S (ix x)))).toInt + 100)))
def aKs (S : Sc) (K : Nat → Int32) (x r : Int32) : Prop := (¬ isB x ∧ r = -3) ∨ (isB x ∧ r = nI (kRow (bfK S (ix x)) (S.2 8 (ix x)) (ix (K (ix x))) (S.2 10 4)).length)
def aKey (S : Sc) (K : Nat → Int32) (x i y r : Int32) : Prop := (¬ (isB x ∧ 0 ≤ y.toInt ∧ y.toInt ≤ 2) ∧ r = -3) ∨ ((isB x ∧ 0 ≤ y.toInt ∧ y.toInt ≤ 2) ∧ ((¬ (0 ≤ i.toInt ∧ i.toInt < (kRow (bfK S (ix x)) (S.2 8 (ix x)) (ix (K (ix x))) (S.2 10 4)).length) ∧ r = -2) ∨ ((0 ≤ i.toInt ∧ i.toInt < (kRow (bfK S (ix x)) (S.2 8 (ix x)) (ix (K (ix x))) (S.2 10 4)).length) ∧ r = if y = 0 then ((kRow (bfK S (ix x)) (S.2 8 (ix x)) (ix (K (ix x))) (S.2 10 4)).getD (ix i) (0, 0, 0)).1 else if y = 1 then ((kRow (bfK S (ix x)) (S.2 8 (ix x)) (ix (K (ix x))) (S.2 10 4)).getD (ix i) (0, 0, 0)).2.1 + 10 else ((kRow (bfK S (ix x)) (S.2 8 (ix x)) (ix (K (ix x))) (S.2 10 4)).getD (ix i) (0, 0, 0)).2.2 + 100)))
theorem ord_cong {S S' : Sc} {o : Nat → Nat} (h1 : S'.1 = S.1) (h2 : ∀ j, j < S.1 → S'.2 2 j = S.2 2 j ∧ S'.2 3 j = S.2 3 j) (h : Ord S o) : Ord S' o := by
  have hw : ∀ j, j < S.1 → wh S' j = wh S j := fun j hj => by unfold wh; rw [(h2 j hj).1, (h2 j hj).2]
  refine ⟨fun p hp => by rw [h1] at hp ⊢; exact h.1 p hp, fun p q hpq hq => ?_, fun j hj => by rw [h1] at hj ⊢; exact h.2.2 j hj⟩
  rw [h1] at hq
  have := h.2.1 p q hpq hq
  unfold ltN at this ⊢
  rw [hw _ (h.1 p (by omega)), hw _ (h.1 q hq)]; exact this
section
variable {G : Gp} {d : Nat} {S : Sc} {o : Nat → Nat} {K KT : Nat → Int32} {μ : Mem} {Q : Int32 → Mem → Prop}
theorem CI.kr (h : CI S o K KT μ) : KrI S μ := ⟨fun b hb => (h.2.1 b hb).1, h.2.2.1⟩
theorem CI.fresh {u : Mem} (hN : NoI S o u) (hk : ∀ b, b < 20 → u 10 b = S.2 8 b ∧ u 11 b = S.2 11 b ∧ u 13 b = K b ∧ u 14 b = KT b ∧ rg (K b) 0 2) (hr : ∀ k, k < 5 → u 15 k = S.2 10 k) (h1 : u 16 10 = 0) (h2 : u 27 9 = -1) (h3 : u 33 8 = -1) : CI S o K KT u := ⟨hN, hk, hr, fun h => absurd h1 h, Or.inl h2, Or.inl h3⟩
theorem sp_within {x a b : Int32} (hq : Q (bi (a.toInt ≤ x.toInt ∧ x.toInt ≤ b.toInt)) μ) : Ct G d M_SD_within [.inl x, .inl a, .inl b] μ Q := by
  refine en_SD_within (vc_SD_within_0 ?_)
  rw [i_lt, i_lt]
  exact ⟨fun h => q_f hq (by omega), fun h => ⟨fun h2 => q_f hq (by omega), fun h2 => q_t hq (by omega)⟩⟩
theorem sp_isBar {x : Int32} (hq : Q (bi (isB x)) μ) : Ct G (d + 1) M_SD_isBar [.inl x] μ Q := by
  refine en_SD_isBar (vc_SD_isBar_0 (sp_within ?_))
  have e0 : (0 : Int32).toInt = 0 := by decide
  have e19 : (19 : Int32).toInt = 19 := by decide
  rw [e0, e19]
  exact ⟨bi_01, hq⟩
def fgM (μ : Mem) : Mem := up (up (up μ 16 10 0) 27 9 (-1)) 33 8 (-1)
theorem fg_at (c j : Nat) (h : ¬ ((c = 16 ∧ j = 10) ∨ (c = 27 ∧ j = 9) ∨ (c = 33 ∧ j = 8))) : fgM μ c j = μ c j := by
  unfold fgM; rw [up_at, if_neg (by omega), up_at, if_neg (by omega), up_at, if_neg (by omega)]
theorem fg_c {c : Nat} (h : c ≠ 16 ∧ c ≠ 27 ∧ c ≠ 33) : fgM μ c = μ c := by funext j; exact fg_at c j (by omega)
theorem fg_f : fgM μ 16 10 = 0 ∧ fgM μ 27 9 = -1 ∧ fgM μ 33 8 = -1 := by
  unfold fgM
  refine ⟨?_, ?_, ?_⟩
  · rw [up_at, if_neg (by omega), up_at, if_neg (by omega), up_at, if_pos ⟨rfl, rfl⟩]
  · rw [up_at, if_neg (by omega), up_at, if_pos ⟨rfl, rfl⟩]
  · rw [up_at, if_pos ⟨rfl, rfl⟩]
theorem sp_forget (hq : Q 0 (fgM μ)) : Ct G (d + 1) M_SD_forgetAnswers [.inr 0] μ Q := by
  refine en_SD_forgetAnswers (vc_SD_forgetAnswers_0 (en_SG_forget (vc_SG_forget_0 ?_)))
  intro u1 h1
  refine en_CO_forget (vc_CO_forget_0 ?_)
  intro u2 h2
  refine en_DS_forget (vc_DS_forget_0 ?_)
  intro u3 h3
  rw [h3, h2, h1]; exact hq
theorem sd_note (hC : CI S o K KT μ) {x0 x1 x2 x3 x4 : Int32} (h1 : ¬ (rg x0 0 69 ∧ rg x1 (-4) 4 ∧ rg x2 0 19 ∧ rg x3 0 999 ∧ rg x4 0 3) → Q (-3) μ) (h2 : (rg x0 0 69 ∧ rg x1 (-4) 4 ∧ rg x2 0 19 ∧ rg x3 0 999 ∧ rg x4 0 3) → S.1 = 60 → Q (-5) μ) (h3 : (rg x0 0 69 ∧ rg x1 (-4) 4 ∧ rg x2 0 19 ∧ rg x3 0 999 ∧ rg x4 0 3) → S.1 < 60 → ∀ u o', CI (addS S (vF x0 x1 x2 x3 x4)) o' K KT u → FrC μ u → Q (nI S.1) u) : Ct G (d + 13) M_SD_note [.inr 0, .inl x0, .inl x1, .inl x2, .inl x3, .inl x4] μ Q := by
  have h60 := hC.1.n60
  have e0 : (0 : Int32).toInt = 0 := by decide
  have e69 : (69 : Int32).toInt = 69 := by decide
  have em4 : (-4 : Int32).toInt = -4 := by decide
  have e4 : (4 : Int32).toInt = 4 := by decide
  have e999 : (999 : Int32).toInt = 999 := by decide
  have e3 : (3 : Int32).toInt = 3 := by decide
  refine en_SD_note (vc_SD_note_0 (sp_within ?_))
  rw [bi_0, e0, e69]
  refine ⟨fun h => h1 (fun hh => h hh.1), fun g0 => sp_within ?_⟩
  rw [bi_0, em4, e4]
  refine ⟨fun h => h1 (fun hh => h hh.2.1), fun g1 => sp_isBar ?_⟩
  rw [bi_0]
  refine ⟨fun h => h1 (fun hh => h hh.2.2.1), fun g2 => sp_within ?_⟩
  rw [bi_0, e0, e999]
  refine ⟨fun h => h1 (fun hh => h hh.2.2.2.1), fun g3 => sp_within ?_⟩
  rw [bi_0, e0, e3]
  refine ⟨fun g4 => ?_, fun h => h1 (fun hh => h hh.2.2.2.2)⟩
  have hr : rg x0 0 69 ∧ rg x1 (-4) 4 ∧ rg x2 0 19 ∧ rg x3 0 999 ∧ rg x4 0 3 := ⟨Classical.not_not.mp g0, Classical.not_not.mp g1, Classical.not_not.mp g2, Classical.not_not.mp g3, Classical.not_not.mp g4⟩
  rw [hC.1.2.2.1]
  refine ⟨fun hlt => sp_forget ?_, fun hge => h2 hr ?_⟩
  · have hlt : S.1 < 60 := (n_lt (b := 60) (by omega) (by omega)).mp hlt
    have hN : NoI S o (fgM μ) := hC.1.congr (fun c a b => fg_c (by omega))
    obtain ⟨b1, b2, b3⟩ := hC.1.1
    have z01 : rg (0 : Int32) 0 1 := ⟨by decide, by decide⟩
    have z03 : rg (0 : Int32) 0 3 := ⟨by decide, by decide⟩
    have hB : Bd (addS S (vF x0 x1 x2 x3 x4)) := by
      refine ⟨by show S.1 + 1 ≤ 60; omega, fun j hj => ?_, ?_⟩
      · have hj : j < S.1 + 1 := hj
        unfold addS vF
        by_cases hjn : j = S.1
        · simp only [hjn, true_and]
          exact ⟨hr.1, hr.2.1, hr.2.2.1, hr.2.2.2.1, hr.2.2.2.2, z01, z01, z03⟩
        · simp only [hjn, false_and, if_false]
          exact b2 j (by omega)
      · obtain ⟨c1, c2⟩ := b3
        unfold addS
        refine ⟨fun b hb => ?_, ?_⟩
        · simp only [show ¬ (8 : Nat) < 8 by omega, show ¬ (9 : Nat) < 8 by omega, and_false, if_false]; exact c1 b hb
        · simp only [show ¬ (10 : Nat) < 8 by omega, and_false, if_false]; exact c2
    have hadd := sp_add (G := G) (d := d + 11) (Q := fun r13 u12 => Q r13 u12) hN hlt (v := vF x0 x1 x2 x3 x4) ⟨rfl, rfl, rfl⟩ hB (fun u o' a1 a2 => h3 hr hlt u o' (CI.fresh a1 (fun b hb => ?_) (fun k hk => ?_) ?_ ?_ ?_) (fun c hc => ?_))
    · exact hadd
    · have hk := hC.2.1 b hb
      rw [a2 10 (by omega), a2 11 (by omega), a2 13 (by omega), a2 14 (by omega), fg_c (by omega), fg_c (by omega), fg_c (by omega), fg_c (by omega)]
      unfold addS
      simp only [show ¬ (8 : Nat) < 8 by omega, show ¬ (11 : Nat) < 8 by omega, and_false, if_false]; exact hk
    · rw [a2 15 (by omega), fg_c (by omega)]
      unfold addS
      simp only [show ¬ (10 : Nat) < 8 by omega, and_false, if_false]; exact hC.2.2.1 k hk
    · rw [a2 16 (by omega)]; exact fg_f.1
    · rw [a2 27 (by omega)]; exact fg_f.2.1
    · rw [a2 33 (by omega)]; exact fg_f.2.2
    · rw [a2 c (by omega), fg_c (by omega)]
  · have : ¬ S.1 < 60 := fun h => hge ((n_lt (b := 60) (by omega) (by omega)).mpr h)
    omega
theorem bd_mark {S : Sc} (hB : Bd S) {j k : Nat} {v : Int32} (hk : k < 3) (hv : rg v 0 (if k = 2 then 3 else 1)) : Bd (setA S (5 + k) j v) := by
  obtain ⟨b1, b2, b3, b4⟩ := hB
  unfold setA
  refine ⟨b1, fun i hi => ?_, fun b hb => ?_, ?_⟩
  · obtain ⟨a0, a1, a2, a3, a4, a5, a6, a7⟩ := b2 i hi
    have hk3 : k = 0 ∨ k = 1 ∨ k = 2 := by omega
    refine ⟨?_, ?_, ?_, ?_, ?_, ?_, ?_, ?_⟩
    · show rg (if 0 = 5 + k ∧ i = j then v else S.2 0 i) _ _; rw [if_neg (by omega)]; exact a0
    · show rg (if 1 = 5 + k ∧ i = j then v else S.2 1 i) _ _; rw [if_neg (by omega)]; exact a1
    · show rg (if 2 = 5 + k ∧ i = j then v else S.2 2 i) _ _; rw [if_neg (by omega)]; exact a2
    · show rg (if 3 = 5 + k ∧ i = j then v else S.2 3 i) _ _; rw [if_neg (by omega)]; exact a3
    · show rg (if 4 = 5 + k ∧ i = j then v else S.2 4 i) _ _; rw [if_neg (by omega)]; exact a4
    · show rg (if 5 = 5 + k ∧ i = j then v else S.2 5 i) _ _
      split
      · rw [if_neg (by omega)] at hv; exact hv
      · exact a5
    · show rg (if 6 = 5 + k ∧ i = j then v else S.2 6 i) _ _
      split
      · rw [if_neg (by omega)] at hv; exact hv
      · exact a6
    · show rg (if 7 = 5 + k ∧ i = j then v else S.2 7 i) _ _
      split
      · rw [if_pos (by omega)] at hv; exact hv
      · exact a7
  · have := b3 b hb
    show rg (if 8 = 5 + k ∧ b = j then v else S.2 8 b) _ _ ∧ rg (if 9 = 5 + k ∧ b = j then v else S.2 9 b) _ _
    rw [if_neg (by omega), if_neg (by omega)]; exact this
  · show rg (if 10 = 5 + k ∧ 0 = j then v else S.2 10 0) _ _ ∧ rg (if 10 = 5 + k ∧ 1 = j then v else S.2 10 1) _ _ ∧ rg (if 10 = 5 + k ∧ 2 = j then v else S.2 10 2) _ _ ∧ rg (if 10 = 5 + k ∧ 3 = j then v else S.2 10 3) _ _ ∧ rg (if 10 = 5 + k ∧ 4 = j then v else S.2 10 4) _ _
    rw [if_neg (by omega), if_neg (by omega), if_neg (by omega), if_neg (by omega), if_neg (by omega)]; exact b4
theorem noI_mark (hN : NoI S o μ) {j k : Nat} {v : Int32} (hj : j < S.1) (hk : k < 3) (hv : rg v 0 (if k = 2 then 3 else 1)) : NoI (setA S (5 + k) j v) o (up μ 8 (3 * j + k) v) := by
  obtain ⟨a1, a2, a3, a4, a5, a6⟩ := hN
  refine ⟨bd_mark a1 hk hv, ord_cong (S := S) rfl (fun i _ => ⟨?_, ?_⟩) a2, by rw [up_at, if_neg (by omega)]; exact a3, fun p hp => by rw [up_at, if_neg (by omega)]; exact a4 p hp, fun k' i hk' hi => ?_, fun k' i hk' hi => ?_⟩
  · show (if 2 = 5 + k ∧ i = j then v else S.2 2 i) = _; rw [if_neg (by omega)]
  · show (if 3 = 5 + k ∧ i = j then v else S.2 3 i) = _; rw [if_neg (by omega)]
  · rw [up_at, if_neg (by omega)]
    show _ = if k' = 5 + k ∧ i = j then v else S.2 k' i
    rw [if_neg (by omega)]; exact a5 k' i hk' hi
  · rw [up_at]
    show _ = if 5 + k' = 5 + k ∧ i = j then v else S.2 (5 + k') i
    by_cases h : k' = k ∧ i = j
    · rw [if_pos ⟨rfl, by omega⟩, if_pos (by omega)]
    · rw [if_neg (by omega), if_neg (by omega)]; exact a6 k' i hk' hi
/-- mark: the first refusal that fits, or the mark is set -/
theorem sd_mark (hC : CI S o K KT μ) {x y v : Int32} (h1 : ¬ isN S x → Q (-2) μ) (h2 : isN S x → ¬ (rg y 0 2 ∧ rg v 0 (if y = 2 then 3 else 1)) → Q (-3) μ) (h3 : isN S x → (rg y 0 2 ∧ rg v 0 (if y = 2 then 3 else 1)) → (y = 0 ∧ v = 1 ∧ mateF S (ix x) = -1) → Q (-4) μ) (h4 : isN S x → (rg y 0 2 ∧ rg v 0 (if y = 2 then 3 else 1)) → ¬ (y = 0 ∧ v = 1 ∧ mateF S (ix x) = -1) → ∀ u, CI (setA S (5 + ix y) (ix x) v) o K KT u → FrC μ u → Q (S.2 (5 + ix y) (ix x)) u) : Ct G (d + 13) M_SD_mark [.inr 0, .inl x, .inl y, .inl v] μ Q := by
  have h60 := hC.1.n60
  have e0 : (0 : Int32).toInt = 0 := by decide
  have e2 : (2 : Int32).toInt = 2 := by decide
  refine en_SD_mark (vc_SD_mark_0 (sp_has hC.1 x ?_))
  rw [bi_0]
  refine ⟨fun hx => ?_, fun hx => h1 hx⟩
  have hx : isN S x := Classical.not_not.mp hx
  obtain ⟨j, hj, rfl⟩ : ∃ j, j < S.1 ∧ x = nI j := ⟨ix x, by have := ix_i hx.1; have := hx.2; omega, n_of hx.1⟩
  have ij : ix (nI j) = j := n_ix (by omega)
  rw [ij] at h3 h4
  refine sp_within ?_
  rw [bi_0, e0, e2]
  refine ⟨fun hy => h2 hx (fun hh => hy hh.1), fun hy => ?_⟩
  have hy : rg y 0 2 := Classical.not_not.mp hy
  obtain ⟨k, hk, rfl⟩ : ∃ k, k < 3 ∧ y = nI k := ⟨ix y, by have := ix_i hy.1; have := hy.2; omega, n_of hy.1⟩
  have ik : ix (nI k) = k := n_ix (by omega)
  have hlim : (([1, 1, 3] : List Int32).getD k 0).toInt = if nI k = 2 then 3 else 1 := by
    have hk3 : k = 0 ∨ k = 1 ∨ k = 2 := by omega
    rcases hk3 with rfl | rfl | rfl <;> decide
  have hk2 : (nI k = 2) ↔ k = 2 := n_inj (b := 2) (by omega) (by omega)
  rw [ik] at h4 ⊢
  refine ⟨n_in hk (by omega), sp_within ?_⟩
  rw [bi_0, e0, hlim]
  refine ⟨fun hv => ?_, fun hv => h2 hx (fun hh => hv hh.2)⟩
  have hv : rg v 0 (if nI k = 2 then 3 else 1) := Classical.not_not.mp hv
  have hN : NoI S o (fgM μ) := hC.1.congr (fun c a b => fg_c (by omega))
  have hv' : rg v 0 (if k = 2 then 3 else 1) := by
    by_cases h : k = 2
    · rw [if_pos h]; rw [if_pos (hk2.mpr h)] at hv; exact hv
    · rw [if_neg h]; rw [if_neg (fun e => h (hk2.mp e))] at hv; exact hv
  have setIt : ¬ (nI k = 0 ∧ v = 1 ∧ mateF S j = -1) → Ct G (d + 12) M_SD_forgetAnswers [.inr 0] μ (fun _ u7 => Ct G (d + 12) M_NO_setMark [.inr 1, .inl (nI j), .inl (nI k), .inl v] u7 (fun r9 u8 => Q r9 u8)) := fun hnw => by
    refine sp_forget (sp_setMark hN hj hk (h4 hx ⟨hy, hv⟩ hnw _ (CI.fresh (noI_mark hN hj hk hv') (fun b hb => ?_) (fun k' hk' => ?_) ?_ ?_ ?_) (fun c hc => ?_)))
    · have hkk := hC.2.1 b hb
      rw [up_at, if_neg (by omega), up_at, if_neg (by omega), up_at, if_neg (by omega), up_at, if_neg (by omega), fg_c (by omega), fg_c (by omega), fg_c (by omega), fg_c (by omega)]
      show _ = (if 8 = 5 + k ∧ b = j then v else S.2 8 b) ∧ _ = (if 11 = 5 + k ∧ b = j then v else S.2 11 b) ∧ _
      rw [if_neg (by omega), if_neg (by omega)]; exact hkk
    · rw [up_at, if_neg (by omega), fg_c (by omega)]
      show _ = (if 10 = 5 + k ∧ k' = j then v else S.2 10 k')
      rw [if_neg (by omega)]; exact hC.2.2.1 k' hk'
    · rw [up_at, if_neg (by omega)]; exact fg_f.1
    · rw [up_at, if_neg (by omega)]; exact fg_f.2.1
    · rw [up_at, if_neg (by omega)]; exact fg_f.2.2
    · funext i; rw [up_at, if_neg (by omega), fg_c (by omega)]
  refine ⟨fun hk0 => setIt (fun hh => hk0 hh.1), fun hk0 => ⟨fun hv1 => setIt (fun hh => hv1 hh.2.1), fun hv1 => sp_possibleTie hC.1 hj ⟨fun hm => setIt (fun hh => hm hh.2.2), fun hm => h3 hx ⟨hy, hv⟩ ⟨hk0, hv1, hm⟩⟩⟩⟩
theorem sd_drop (hC : CI S o K KT μ) (h1 : S.1 = 0 → Q (-2) μ) (h2 : ∀ n, S.1 = n + 1 → ∀ u o', CI (n, S.2) o' K KT u → FrC μ u → Q (nI n) u) : Ct G (d + 13) M_SD_drop [.inr 0] μ Q := by
  have h60 := hC.1.n60
  refine en_SD_drop (vc_SD_drop_0 ?_)
  rw [hC.1.2.2.1]
  refine ⟨fun h => sp_forget ?_, fun h => h1 ((n_inj (b := 0) (by omega) (by omega)).mp h)⟩
  obtain ⟨n, hn⟩ : ∃ n, S.1 = n + 1 := ⟨S.1 - 1, by have : S.1 ≠ 0 := fun e => h (by rw [e]; rfl); omega⟩
  have hN : NoI (n + 1, S.2) o (fgM μ) := by
    have := hC.1.congr (u := fgM μ) (fun c a b => fg_c (by omega))
    rw [← hn]; exact this
  refine sp_removeLast hN (fun u o' a1 a2 => ?_)
  have := h2 n hn u o' (CI.fresh a1 (fun b hb => ?_) (fun k hk => ?_) ?_ ?_ ?_) (fun c hc => ?_)
  · rw [a1.2.2.1]; exact this
  · have hk := hC.2.1 b hb
    rw [a2 10 (by omega), a2 11 (by omega), a2 13 (by omega), a2 14 (by omega), fg_c (by omega), fg_c (by omega), fg_c (by omega), fg_c (by omega)]; exact hk
  · rw [a2 15 (by omega), fg_c (by omega)]; exact hC.2.2.1 k hk
  · rw [a2 16 (by omega)]; exact fg_f.1
  · rw [a2 27 (by omega)]; exact fg_f.2.1
  · rw [a2 33 (by omega)]; exact fg_f.2.2
  · rw [a2 c (by omega), fg_c (by omega)]
end
