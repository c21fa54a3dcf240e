/-! class SignDots: its public methods, further -/
theorem tlF_cong {t t' v v' : Nat → Int32} {b b' : Nat} {x : Int32} (ht : ∀ c, c ≤ b' → t c = t' c) (hv : v b' = v' b') : tlF t v b x b' = tlF t' v' b x b' := by
  unfold tlF
  rw [hv]
  have e : (b ≤ b' ∧ ∀ c, c < b' + 1 → b < c → t c = 0) ↔ (b ≤ b' ∧ ∀ c, c < b' + 1 → b < c → t' c = 0) := by
    constructor
    · rintro ⟨h1, h2⟩; exact ⟨h1, fun c a e => by rw [← ht c (by omega)]; exact h2 c a e⟩
    · rintro ⟨h1, h2⟩; exact ⟨h1, fun c a e => by rw [ht c (by omega)]; exact h2 c a e⟩
  by_cases h : (b ≤ b' ∧ ∀ c, c < b' + 1 → b < c → t c = 0)
  · rw [if_pos h, if_pos (e.mp h)]
  · rw [if_neg h, if_neg (fun h2 => h (e.mpr h2))]
theorem bd_key {S : Sc} (hB : Bd S) {b : Nat} {x : Int32} (hx : rg x (-7) 7) : Bd (keyS S b x) := by
  obtain ⟨b1, b2, b3, b4⟩ := hB
  refine ⟨b1, fun i hi => b2 i hi, fun b' hb' => ⟨?_, (b3 b' hb').2⟩, b4⟩
  show rg (tlF (S.2 11) (S.2 8) b x b') (-7) 7
  unfold tlF
  split
  · exact hx
  · exact (b3 b' hb').1
theorem bd_rule {S : Sc} (hB : Bd S) {k : Nat} {x : Int32} (hk : k < 5) (hx : rg x 0 (if k = 2 then 15 else if k = 4 then 2 else 1)) : Bd (setA S 10 k x) := by
  obtain ⟨b1, b2, b3, b4⟩ := hB
  refine ⟨b1, fun i hi => ?_, fun b hb => ?_, ?_⟩
  · have := b2 i hi
    unfold setA
    simp only [show ¬ (0 = 10) by omega, show ¬ (1 = 10) by omega, show ¬ (2 = 10) by omega, show ¬ (3 = 10) by omega, show ¬ (4 = 10) by omega, show ¬ (5 = 10) by omega, show ¬ (6 = 10) by omega, show ¬ (7 = 10) by omega, false_and, if_false]
    exact this
  · have := b3 b hb
    unfold setA
    simp only [show ¬ (8 = 10) by omega, show ¬ (9 = 10) by omega, false_and, if_false]
    exact this
  · obtain ⟨c0, c1, c2, c3, c4⟩ := b4
    have hk5 : k = 0 ∨ k = 1 ∨ k = 2 ∨ k = 3 ∨ k = 4 := by omega
    unfold setA
    rcases hk5 with rfl | rfl | rfl | rfl | rfl <;> simp at hx ⊢ <;> simp_all
section
variable {G : Gp} {d : Nat} {S : Sc} {o : Nat → Nat} {K KT : Nat → Int32} {μ : Mem} {Q : Int32 → Mem → Prop}
theorem FndI.congr {u : Mem} (h : FndI S o μ) (hu : ∀ c, 23 ≤ c → c ≤ 26 → u c = μ c) : FndI S o u := by
  refine ⟨⟨fun j hj => by rw [hu 23 (by omega) (by omega)]; exact h.1.1 j hj, fun j hj => by rw [hu 24 (by omega) (by omega)]; exact h.1.2 j hj⟩, fun i hi => by rw [hu 25 (by omega) (by omega), hu 26 (by omega) (by omega)]; exact h.2 i hi⟩
theorem ColI.congr {u : Mem} {p : Nat} (h : ColI S o p μ) (hu : ∀ c, 27 ≤ c → c ≤ 30 → u c = μ c) : ColI S o p u := by
  obtain ⟨m, z, col, a, b, c, e, f⟩ := h
  exact ⟨m, z, col, a, by rw [hu 27 (by omega) (by omega)]; exact b, fun i hi => by rw [hu 29 (by omega) (by omega)]; exact c i hi, fun i hi => by rw [hu 30 (by omega) (by omega)]; exact e i hi, by rw [hu 27 (by omega) (by omega)]; exact f⟩
theorem DotI.congr {u : Mem} {p : Nat} (h : DotI S o p μ) (hu : ∀ c, 33 ≤ c → c ≤ 36 → u c = μ c) : DotI S o p u := by
  obtain ⟨m, f, lo, N, b, a, c, e, g⟩ := h
  exact ⟨m, f, lo, N, b, a, by rw [hu 33 (by omega) (by omega)]; exact c, fun i hi => by rw [hu 35 (by omega) (by omega)]; exact e i hi, fun i hi => by rw [hu 36 (by omega) (by omega)]; exact g i hi⟩
theorem CI.mk' (h : CI S o K KT μ) {u : Mem} (hu : ∀ c, c < 16 → u c = μ c) (hf : u 16 10 ≠ 0 → FndI S o u) (hc : u 27 9 = -1 ∨ ∃ p', u 27 9 = nI p' ∧ p' < S.1 ∧ ColI S o p' u) (hd : u 33 8 = -1 ∨ ∃ p', u 33 8 = nI p' ∧ p' < S.1 ∧ DotI S o p' u) : CI S o K KT u := by
  refine ⟨h.1.congr (fun c a b => hu c (by omega)), fun b hb => ?_, fun k hk => ?_, hf, hc, hd⟩
  · rw [hu 10 (by omega), hu 11 (by omega), hu 13 (by omega), hu 14 (by omega)]; exact h.2.1 b hb
  · rw [hu 15 (by omega)]; exact h.2.2.1 k hk
theorem CI.colc (h : CI S o K KT μ) {u : Mem} (hu : ∀ c, 27 ≤ c → c ≤ 30 → u c = μ c) : u 27 9 = -1 ∨ ∃ p', u 27 9 = nI p' ∧ p' < S.1 ∧ ColI S o p' u := by
  rw [hu 27 (by omega) (by omega)]
  rcases h.2.2.2.2.1 with a | ⟨p', a, b, c⟩
  · exact Or.inl a
  · exact Or.inr ⟨p', a, b, c.congr hu⟩
theorem CI.dotc (h : CI S o K KT μ) {u : Mem} (hu : ∀ c, 33 ≤ c → c ≤ 36 → u c = μ c) : u 33 8 = -1 ∨ ∃ p', u 33 8 = nI p' ∧ p' < S.1 ∧ DotI S o p' u := by
  rw [hu 33 (by omega) (by omega)]
  rcases h.2.2.2.2.2 with a | ⟨p', a, b, c⟩
  · exact Or.inl a
  · exact Or.inr ⟨p', a, b, c.congr hu⟩
/-- find, with the invariant of the whole -/
theorem ci_find (hC : CI S o K KT μ) (hq : ∀ u, CI S o K KT u → FndI S o u → FrC μ u → Q 0 u) : Ct G (d + 5) M_SG_find [.inr 16] μ Q :=
  sp_find hC.1 hC.kr hC.2.2.2.1 (fun u a b c => hq u (hC.mk' (fun k hk => c k (by omega) (by omega)) (fun _ => a) (hC.colc (fun k a b => c k (by omega) (by omega))) (hC.dotc (fun k a b => c k (by omega) (by omega)))) a (fun k hk => c k (by omega) (by omega)))
theorem ci_colLayOut (hC : CI S o K KT μ) (hF : FndI S o μ) {p : Nat} (hp : p < S.1) (hb : Beg S o p) (hq : ∀ u, CI S o K KT u → FndI S o u → ColI S o p u → FrC μ u → Q 0 u) : Ct G (d + 12) M_CO_layOut [.inr 27, .inl (nI p)] μ Q :=
  sp_colLayOut ⟨hC.1, hF.J hC.1.2.1⟩ hp hb hC.2.2.2.2.1 (fun u a b c => by
    have hFu : FndI S o u := hF.congr (fun k h1 h2 => a k (by omega))
    exact hq u (hC.mk' (fun k hk => a k (by omega)) (fun _ => hFu) (Or.inr ⟨p, b, hp, c⟩) (hC.dotc (fun k h1 h2 => a k (by omega)))) hFu c (fun k hk => a k (by omega)))
theorem ci_dotLayOut (hC : CI S o K KT μ) {p j : Nat} (hp : p < S.1) (hb : Beg S o p) (hj : j < S.1) (hjw : wh S j = wh S (o p)) (hjd : S.2 7 j ≠ 0) (hq : ∀ u, CI S o K KT u → DotI S o p u → FrC μ u → Q 0 u) : Ct G (d + 4) M_DS_layOut [.inr 33, .inl (nI p)] μ Q :=
  sp_dotLayOut hC.1 hp hb hj hjw hjd hC.2.2.2.2.2 (fun u a b c => hq u (hC.mk' (fun k hk => a k (by omega)) (fun h => by
    rw [a 16 (by omega)] at h
    exact (hC.2.2.2.1 h).congr (fun k h1 h2 => a k (by omega))) (hC.colc (fun k h1 h2 => a k (by omega))) (Or.inr ⟨p, b, hp, c⟩)) c (fun k hk => a k (by omega)))
theorem sd_key (hC : CI S o K KT μ) {x y : Int32} (h1 : ¬ (isB x ∧ rg y (-7) 7) → Q (-3) μ) (h2 : isB x → rg y (-7) 7 → ∀ u, CI (keyS S (ix x) y) o K KT u → FrC μ u → Q (S.2 8 (ix x)) u) : Ct G (d + 13) M_SD_key [.inr 0, .inl x, .inl y] μ Q := by
  have em7 : (-7 : Int32).toInt = -7 := by decide
  have e7 : (7 : Int32).toInt = 7 := by decide
  refine en_SD_key (vc_SD_key_0 (sp_isBar ?_))
  rw [bi_0]
  refine ⟨fun h => h1 (fun hh => h hh.1), fun hx => sp_within ?_⟩
  rw [bi_0, em7, e7]
  refine ⟨fun hy => sp_forget ?_, fun h => h1 (fun hh => h hh.2)⟩
  have hx : isB x := Classical.not_not.mp hx
  have hy : rg y (-7) 7 := Classical.not_not.mp hy
  obtain ⟨b, hb, rfl⟩ : ∃ b, b < 20 ∧ x = nI b := ⟨ix x, by have := ix_i hx.1; have := hx.2; omega, n_of hx.1⟩
  have ib : ix (nI b) = b := n_ix (by omega)
  rw [ib] at h2
  refine sp_tell_k hb (fun u a1 a2 a3 => ?_)
  rw [fg_c (by omega), (hC.2.1 b hb).1]
  have hN : NoI S o u := hC.1.congr (fun c h1 h2 => (a3 c (by omega) (by omega)).trans (fg_c (by omega)))
  obtain ⟨n1, n2, n3, n4, n5, n6⟩ := hN
  refine h2 hx hy u (CI.fresh ⟨bd_key n1 hy, ord_cong (S := S) rfl (fun j _ => ⟨rfl, rfl⟩) n2, n3, n4, fun k j hk hj => ?_, fun k j hk hj => ?_⟩ (fun b' hb' => ?_) (fun k hk => ?_) ?_ ?_ ?_) (fun c hc => (a3 c (by omega) (by omega)).trans (fg_c (by omega)))
  · show _ = if k = 8 then _ else if k = 11 ∧ j = b then 1 else S.2 k j
    rw [if_neg (by omega), if_neg (by omega)]; exact n5 k j hk hj
  · show _ = if 5 + k = 8 then _ else if 5 + k = 11 ∧ j = b then 1 else S.2 (5 + k) j
    rw [if_neg (by omega), if_neg (by omega)]; exact n6 k j hk hj
  · have hk := hC.2.1 b' hb'
    rw [a1 b' hb', a2 b', a3 13 (by omega) (by omega), a3 14 (by omega) (by omega), fg_c (by omega), fg_c (by omega), fg_c (by omega), fg_c (by omega)]
    refine ⟨?_, ?_, hk.2.2⟩
    · show _ = tlF (S.2 11) (S.2 8) b y b'
      exact tlF_cong (fun c hc => (hC.2.1 c (by omega)).2.1) hk.1
    · show _ = if 11 = 8 then tlF (S.2 11) (S.2 8) b y b' else if 11 = 11 ∧ b' = b then 1 else S.2 11 b'
      rw [if_neg (show ¬ ((11 : Nat) = 8) by omega)]
      by_cases h : b' = b
      · rw [if_pos h, if_pos ⟨rfl, h⟩]
      · rw [if_neg h, if_neg (fun e => h e.2)]; exact hk.2.1
  · rw [a3 15 (by omega) (by omega), fg_c (by omega)]
    show _ = if 10 = 8 then tlF (S.2 11) (S.2 8) b y k else if 10 = 11 ∧ k = b then 1 else S.2 10 k
    rw [if_neg (by omega), if_neg (by omega)]; exact hC.2.2.1 k hk
  · rw [a3 16 (by omega) (by omega)]; exact fg_f.1
  · rw [a3 27 (by omega) (by omega)]; exact fg_f.2.1
  · rw [a3 33 (by omega) (by omega)]; exact fg_f.2.2
theorem sd_clef (hC : CI S o K KT μ) {x y : Int32} (h1 : ¬ (isB x ∧ rg y 0 2) → Q (-3) μ) (h2 : isB x → rg y 0 2 → ∀ u, CI S o (tlF KT K (ix x) y) (fun b' => if b' = ix x then 1 else KT b') u → FrC μ u → Q (K (ix x)) u) : Ct G (d + 13) M_SD_clef [.inr 0, .inl x, .inl y] μ Q := by
  have e0 : (0 : Int32).toInt = 0 := by decide
  have e2 : ((3 : Int32) - 1).toInt = 2 := by decide
  refine en_SD_clef (vc_SD_clef_0 (sp_isBar ?_))
  rw [bi_0]
  refine ⟨fun h => h1 (fun hh => h hh.1), fun hx => sp_within ?_⟩
  rw [bi_0, e0, e2]
  refine ⟨fun hy => ?_, fun h => h1 (fun hh => h hh.2)⟩
  have hx : isB x := Classical.not_not.mp hx
  have hy : rg y 0 2 := Classical.not_not.mp hy
  obtain ⟨b, hb, rfl⟩ : ∃ b, b < 20 ∧ x = nI b := ⟨ix x, by have := ix_i hx.1; have := hx.2; omega, n_of hx.1⟩
  have ib : ix (nI b) = b := n_ix (by omega)
  rw [ib] at h2
  refine sp_tell_c hb (fun u a1 a2 a3 => ?_)
  rw [(hC.2.1 b hb).2.2.1]
  refine h2 hx hy u ⟨hC.1.congr (fun c h1 h2 => a3 c (by omega) (by omega)), fun b' hb' => ?_, fun k hk => by rw [a3 15 (by omega) (by omega)]; exact hC.2.2.1 k hk, fun h => ?_, hC.colc (fun k h1 h2 => a3 k (by omega) (by omega)), hC.dotc (fun k h1 h2 => a3 k (by omega) (by omega))⟩ (fun c hc => a3 c (by omega) (by omega))
  · have hk := hC.2.1 b' hb'
    rw [a3 10 (by omega) (by omega), a3 11 (by omega) (by omega), a1 b' hb', a2 b']
    refine ⟨hk.1, hk.2.1, tlF_cong (fun c hc => (hC.2.1 c (by omega)).2.2.2.1) hk.2.2.1, ?_, ?_⟩
    · show _ = if b' = b then 1 else KT b'
      by_cases h : b' = b
      · rw [if_pos h, if_pos h]
      · rw [if_neg h, if_neg h]; exact hk.2.2.2.1
    · unfold tlF
      split
      · exact hy
      · exact hk.2.2.2.2
  · rw [a3 16 (by omega) (by omega)] at h
    exact (hC.2.2.2.1 h).congr (fun k h1 h2 => a3 k (by omega) (by omega))
theorem sd_rule (hC : CI S o K KT μ) {x y : Int32} (h1 : ¬ (rg x 0 4 ∧ rg y 0 (if x = 2 then 15 else if x = 4 then 2 else 1)) → Q (-3) μ) (h2 : rg x 0 4 → rg y 0 (if x = 2 then 15 else if x = 4 then 2 else 1) → ∀ u, CI (setA S 10 (ix x) y) o K KT u → FrC μ u → Q (S.2 10 (ix x)) u) : Ct G (d + 13) M_SD_rule [.inr 0, .inl x, .inl y] μ Q := by
  have e0 : (0 : Int32).toInt = 0 := by decide
  have e4 : (4 : Int32).toInt = 4 := by decide
  refine en_SD_rule (vc_SD_rule_0 (sp_within ?_))
  rw [bi_0, e0, e4]
  refine ⟨fun h => h1 (fun hh => h hh.1), fun hx => ?_⟩
  have hx : rg x 0 4 := Classical.not_not.mp hx
  obtain ⟨k, hk, rfl⟩ : ∃ k, k < 5 ∧ x = nI k := ⟨ix x, by have := ix_i hx.1; have := hx.2; omega, n_of hx.1⟩
  have ik : ix (nI k) = k := n_ix (by omega)
  have hlim : (([1, 1, 15, 1, 2] : List Int32).getD k 0).toInt = if nI k = 2 then 15 else if nI k = 4 then 2 else 1 := by
    have hk5 : k = 0 ∨ k = 1 ∨ k = 2 ∨ k = 3 ∨ k = 4 := by omega
    rcases hk5 with rfl | rfl | rfl | rfl | rfl <;> decide
  have hk2 : (nI k = 2) ↔ k = 2 := n_inj (b := 2) (by omega) (by omega)
  have hk4 : (nI k = 4) ↔ k = 4 := n_inj (b := 4) (by omega) (by omega)
  rw [ik] at h2 ⊢
  have e1 : vp_in (nI k) 5 := n_in hk (by omega)
  refine ⟨e1, sp_within ?_⟩
  rw [bi_0, e0, hlim]
  refine ⟨fun hy => ⟨e1, fun y5 hy5 => ⟨e1, fun u6 h6 => sp_forget ?_⟩⟩, fun h => h1 (fun hh => h hh.2)⟩
  have hy : rg y 0 (if nI k = 2 then 15 else if nI k = 4 then 2 else 1) := Classical.not_not.mp hy
  have hy' : rg y 0 (if k = 2 then 15 else if k = 4 then 2 else 1) := by simp only [hk2, hk4] at hy; exact hy
  rw [hC.2.2.1 k hk] at hy5
  rw [hy5]
  have u6c : ∀ c, c ≠ 15 → u6 c = μ c := fun c hc => by funext j; rw [h6, up_at, if_neg (by omega)]
  have hN : NoI S o (fgM u6) := hC.1.congr (fun c a b => (fg_c (by omega)).trans (u6c c (by omega)))
  obtain ⟨n1, n2, n3, n4, n5, n6⟩ := hN
  refine h2 hx hy (fgM u6) (CI.fresh ⟨bd_rule n1 hk hy', ord_cong (S := S) rfl (fun j _ => ⟨?_, ?_⟩) n2, n3, n4, fun k' j hk' hj => ?_, fun k' j hk' hj => ?_⟩ (fun b' hb' => ?_) (fun k' hk' => ?_) fg_f.1 fg_f.2.1 fg_f.2.2) (fun c hc => (fg_c (by omega)).trans (u6c c (by omega)))
  · show (if 2 = 10 ∧ j = k then y else S.2 2 j) = _; rw [if_neg (by omega)]
  · show (if 3 = 10 ∧ j = k then y else S.2 3 j) = _; rw [if_neg (by omega)]
  · show _ = if k' = 10 ∧ j = k then y else S.2 k' j
    rw [if_neg (by omega)]; exact n5 k' j hk' hj
  · show _ = if 5 + k' = 10 ∧ j = k then y else S.2 (5 + k') j
    rw [if_neg (by omega)]; exact n6 k' j hk' hj
  · rw [fg_c (by omega), fg_c (by omega), fg_c (by omega), fg_c (by omega), u6c 10 (by omega), u6c 11 (by omega), u6c 13 (by omega), u6c 14 (by omega)]
    show _ = (if 8 = 10 ∧ b' = k then y else S.2 8 b') ∧ _ = (if 11 = 10 ∧ b' = k then y else S.2 11 b') ∧ _
    rw [if_neg (by omega), if_neg (by omega)]; exact hC.2.1 b' hb'
  · rw [fg_c (by omega), h6, up_at]
    show _ = if 10 = 10 ∧ k' = k then y else S.2 10 k'
    by_cases h : k' = k
    · rw [if_pos ⟨rfl, h⟩, if_pos ⟨rfl, h⟩]
    · rw [if_neg (fun e => h e.2), if_neg (fun e => h e.2)]; exact hC.2.2.1 k' hk'
theorem sd_howMany (hC : CI S o K KT μ) (hF : FndI S o μ) {x : Int32} (hq : Q (nI (cntJ S o x S.1)) μ) : Ct G (d + 6) M_SG_howMany [.inr 16, .inl x] μ Q := by
  have h60 := hC.1.n60
  refine en_SG_howMany (vc_SG_howMany_0 ?_)
  have hJ := hF.J hC.1.2.1
  have key : ∀ n k, k + n = S.1 → AW G (d + 6) M_SG_howMany Q 4 [some (.inr 16), some (.inl x), some (.inl (nI (cntJ S o x k))), some (.inl (nI k))] [] μ := by
    intro n
    induction n with
    | zero =>
      intro k hk
      refine vc_SG_howMany_4 ?_
      rw [hC.1.2.2.1]
      exact ⟨fun _ => by rw [show k = S.1 by omega]; exact hq, fun h => absurd ((n_le (by omega) (by omega)).mpr (by omega)) h⟩
    | succ n ih =>
      intro k hk
      have hi := ih (k + 1) (by omega)
      unfold cntJ at hi
      refine vc_SG_howMany_4 ?_
      rw [hC.1.2.2.1, n_ix (by omega), (hJ k (by omega)).1, n_p1, n_p1]
      exact ⟨fun h => absurd ((n_le (by omega) (by omega)).mp h) (by omega), fun _ => ⟨n_in (by omega) (by omega), fun h => by rw [cite_f h] at hi; exact hi, fun h => by rw [cite_t h] at hi; exact hi⟩⟩
  exact key S.1 0 (by omega)
theorem sd_count (hC : CI S o K KT μ) {x : Int32} (hq : ∀ r u, aCount S o x r → CI S o K KT u → FrC μ u → Q r u) : Ct G (d + 13) M_SD_count [.inr 0, .inl x] μ Q := by
  have fr : FrC μ μ := fun _ _ => rfl
  refine en_SD_count (vc_SD_count_0 ⟨fun h => hq _ _ (Or.inl ⟨h, rfl⟩) hC fr, fun h => hq _ _ (Or.inr (Or.inl ⟨h, hC.1.2.2.1⟩)) hC fr, fun h => ci_find hC (fun u a b c => sd_howMany a b (hq _ _ (Or.inr (Or.inr (Or.inl ⟨h, rfl⟩))) a c)), fun h => ci_find hC (fun u a b c => sd_howMany a b (hq _ _ (Or.inr (Or.inr (Or.inr (Or.inl ⟨h, rfl⟩)))) a c)), fun h => sp_howManyChords hC.1 (hq _ _ (Or.inr (Or.inr (Or.inr (Or.inr ⟨h, rfl⟩)))) hC fr)⟩)
theorem sd_ordered (hC : CI S o K KT μ) {x : Int32} (hq : ∀ r u, aOrd S o x r → CI S o K KT u → FrC μ u → Q r u) : Ct G (d + 13) M_SD_ordered [.inr 0, .inl x] μ Q := by
  have h60 := hC.1.n60
  have fr : FrC μ μ := fun _ _ => rfl
  refine en_SD_ordered (vc_SD_ordered_0 (sp_has hC.1 x ?_))
  rw [bi_0]
  refine ⟨fun h => hq _ _ (Or.inl ⟨h, rfl⟩) hC fr, fun h => ?_⟩
  have h : isN S x := Classical.not_not.mp h
  have hi := ix_i h.1
  exact ⟨in_of h.1 (by have := h.2; omega), hq _ _ (Or.inr ⟨h, hC.1.2.2.2.1 (ix x) (by have := h.2; omega)⟩) hC fr⟩
theorem sd_placeOf (hC : CI S o K KT μ) {j : Nat} (hj : j < S.1) (hq : Q (plJ S K j) μ) : Ct G (d + 1) M_SD_placeOf [.inr 0, .inl (nI j)] μ Q := by
  have h60 := hC.1.n60
  have e1 : vp_in (nI j) 60 := n_in (by omega) (by omega)
  obtain ⟨b1, b2⟩ := ba_n hC.1.1 hj
  refine en_SD_placeOf (vc_SD_placeOf_0 ⟨e1, e1, ?_⟩)
  rw [n_ix (by omega), hC.1.at hj (k := 2) (by omega) rfl, b1, hC.1.at hj (k := 0) (by omega) rfl]
  refine sp_cat b2 ?_
  have hk := hC.2.1 (baN S j) b2
  rw [hk.2.2.1]
  have hr := hk.2.2.2.2
  unfold rg at hr
  exact ⟨in_of hr.1 (by have := hr.2; omega), hq⟩
theorem beg_of (hN : NoI S o μ) {p : Nat} {b t : Int32} (hp : p < S.1) (h1 : S.2 2 (o p) = b) (h2 : S.2 3 (o p) = t) (h3 : ∀ r, r < p → ¬ (S.2 2 (o r) = b ∧ S.2 3 (o r) = t)) : Beg S o p := by
  by_cases hp0 : p = 0
  · exact Or.inl hp0
  · right
    intro he
    have w1 := hN.wt (hN.2.1.1 (p - 1) (by omega))
    have w0 := hN.wt (hN.2.1.1 p hp)
    unfold WT rg at w1 w0
    unfold wh at he
    exact h3 (p - 1) (by omega) ⟨by rw [← h1]; exact i_eq.mpr (by omega), by rw [← h2]; exact i_eq.mpr (by omega)⟩
theorem sd_extent (hC : CI S o K KT μ) {x y : Int32} (hq : ∀ r u, aExt S o x y r → CI S o K KT u → FrC μ u → Q r u) : Ct G (d + 13) M_SD_extent [.inr 0, .inl x, .inl y] μ Q := by
  have h60 := hC.1.n60
  have fr : FrC μ μ := fun _ _ => rfl
  refine en_SD_extent (vc_SD_extent_0 (sp_chordAt hC.1 (fun hn => ⟨fun h => absurd rfl h, fun _ => hq _ _ (Or.inl ⟨hn, rfl⟩) hC fr⟩) (fun p hp h1 h2 h3 => ⟨fun _ => ?_, fun h => absurd h (n_ne1 (by omega))⟩)))
  have hb := beg_of hC.1 hp h1 h2 h3
  refine ci_find hC (fun u3 a1 a2 a3 => ci_colLayOut a1 a2 hp hb (fun u4 b1 b2 b3 b4 => ?_))
  obtain ⟨m, z, col, c1, c2, c3, c4, c5⟩ := b3
  exact en_CO_sumOfWidths (vc_CO_sumOfWidths_0 (hq _ _ (Or.inr ⟨p, m, z, col, hp, h1, h2, c1, c5⟩) b1 (fun c hc => (b4 c hc).trans (a3 c hc))))
theorem ColS.z_lt (hN : NoI S o μ) {p m : Nat} {z col : Nat → Nat} (h : ColS S o p m z col) {i : Nat} (hi : i < m) : z i < S.1 ∧ KJ S o (z i) ≠ 0 ∧ wh S (z i) = wh S (o p) := by
  obtain ⟨a1, a2, a3, ⟨q, f, e1, e2, e3⟩, -⟩ := h
  obtain ⟨r, r1, r2⟩ := zz_mem (f := f) hi
  obtain ⟨r', g1, g2, g3, g4⟩ := e2.1 r r1
  rw [e3 i hi, r2]
  refine ⟨?_, g4, ?_⟩
  · rw [← g3]; exact hN.2.1.1 r' (by have := e1.2.1; omega)
  · rw [← g3]; exact e1.2.2.1 r' g1 g2
theorem ColS.in_z (hN : NoI S o μ) {p m j : Nat} {z col : Nat → Nat} (h : ColS S o p m z col) (hj : j < S.1) (hw : wh S j = wh S (o p)) (hk : KJ S o j ≠ 0) : ∃ i, i < m ∧ z i = j := by
  obtain ⟨a1, a2, a3, ⟨q, f, e1, e2, e3⟩, -⟩ := h
  obtain ⟨r, hr, e⟩ := hN.2.1.2.2 j hj
  obtain ⟨g1, g2⟩ := ch_in hN.2.1 e1 a2 (Nat.le_refl p) e1.1 hr (by rw [e]; exact hw)
  obtain ⟨k, k1, k2⟩ := e2.2.2 j ⟨r, g1, g2, e, hk⟩
  obtain ⟨i, i1, i2⟩ := zz_sur f k1
  exact ⟨i, i1, by rw [e3 i i1, i2, k2]⟩
theorem sd_sign (hC : CI S o K KT μ) {x y : Int32} (hq : ∀ r u, aSign S o K x y r → CI S o K KT u → FrC μ u → Q r u) : Ct G (d + 13) M_SD_sign [.inr 0, .inl x, .inl y] μ Q := by
  have h60 := hC.1.n60
  have fr : FrC μ μ := fun _ _ => rfl
  refine en_SD_sign (vc_SD_sign_0 (sp_has hC.1 x ?_))
  rw [bi_0]
  refine ⟨fun hx => ci_find hC (fun u a1 a2 a3 => ?_), fun h => hq _ _ (Or.inl ⟨h, rfl⟩) hC fr⟩
  have hx : isN S x := Classical.not_not.mp hx
  have hix := ix_i hx.1
  have hxx : x = nI (ix x) := n_of hx.1
  generalize hj : ix x = j at hix hxx
  have hjS : j < S.1 := by have := hx.2; omega
  have e1 : vp_in x 60 := by rw [hxx]; exact n_in (by omega) (by omega)
  have hJ := a2.J a1.1.2.1 j hjS
  have hq' : ∀ r v, ((((y.toInt < 0 ∨ 5 < y.toInt) ∧ r = -3) ∨ (y = nI 0 ∧ r = KJ S o j) ∨ (y = nI 1 ∧ r = if tieF S j = -1 then 0 else 1) ∨ (y = nI 2 ∧ r = NJ S o j) ∨ (y = nI 3 ∧ r = if KJ S o j = 0 then 0 else wdJ S o j) ∨ (y = nI 4 ∧ aCol S o j r) ∨ (y = nI 5 ∧ r = plJ S K j + 100))) → CI S o K KT v → FrC μ v → Q r v := fun r v h1 h2 h3 => hq r v (Or.inr ⟨hx, by rw [hj]; exact h1⟩) h2 h3
  refine ⟨fun h => hq' _ _ (Or.inl ⟨h, rfl⟩) a1 a3, fun h => ⟨e1, hq' _ _ (Or.inr (Or.inl ⟨h, hJ.1⟩)) a1 a3⟩, fun h => ⟨e1, ?_⟩, fun h => ⟨e1, hq' _ _ (Or.inr (Or.inr (Or.inr (Or.inl ⟨h, hJ.2⟩)))) a1 a3⟩, fun h => ?_, fun h => ?_, fun h => ?_⟩
  · rw [a2.1.2 j hjS]
    exact ⟨fun ht => hq' _ _ (Or.inr (Or.inr (Or.inl ⟨h, by rw [if_neg ht]⟩))) a1 a3, fun ht => hq' _ _ (Or.inr (Or.inr (Or.inl ⟨h, by rw [if_pos ht]⟩))) a1 a3⟩
  · rw [hxx]
    exact sp_widthOf a1.1 (a2.J a1.1.2.1) hjS (hq' _ _ (Or.inr (Or.inr (Or.inr (Or.inr (Or.inl ⟨h, rfl⟩))))) a1 a3)
  · rw [hxx]
    refine sp_chordStart a1.1 hjS (fun p hp hw hb => ci_colLayOut a1 a2 hp hb (fun u8 b1 b2 b3 b4 => ?_))
    obtain ⟨m, z, col, c1, c2, c3, c4, c5⟩ := b3
    have fr8 : FrC μ u8 := fun c hc => (b4 c hc).trans (a3 c hc)
    refine sp_columnOf c1.2.2.1 (by omega) c2 (fun i hi => ⟨c3 i hi, by have := (c1.z_lt b1.1 hi).1; omega⟩) (fun hn => ?_) (fun i hi hz hfst => ?_)
    · refine hq' _ _ (Or.inr (Or.inr (Or.inr (Or.inr (Or.inr (Or.inl ⟨h, Or.inl ⟨?_, rfl⟩⟩)))))) b1 fr8
      apply Classical.byContradiction
      intro hk
      obtain ⟨i, i1, i2⟩ := c1.in_z b1.1 hjS hw.symm hk
      exact hn i i1 i2
    · refine hq' _ _ (Or.inr (Or.inr (Or.inr (Or.inr (Or.inr (Or.inl ⟨h, Or.inr ⟨?_, p, m, z, col, i, c1, hw, hi, hz, hfst, c4 i hi⟩⟩)))))) b1 fr8
      rw [← hz]; exact (c1.z_lt b1.1 hi).2.1
  · rw [hxx]
    exact sd_placeOf a1 hjS (hq' _ _ (Or.inr (Or.inr (Or.inr (Or.inr (Or.inr (Or.inr ⟨h, rfl⟩)))))) a1 a3)
theorem lo_bd {c : Int32} (h : rg c 0 2) : 18 ≤ (loF c).toInt ∧ (loF c).toInt ≤ 30 ∧ (loF c).toInt % 2 = 0 := by
  unfold rg at h
  have hi := ix_i h.1
  have h3 : ix c = 0 ∨ ix c = 1 ∨ ix c = 2 := by omega
  unfold loF
  rcases h3 with e | e | e <;> rw [e] <;> decide
theorem sd_dot (hC : CI S o K KT μ) {x : Int32} (hq : ∀ r u, aDot S o K x r → CI S o K KT u → FrC μ u → Q r u) : Ct G (d + 13) M_SD_dot [.inr 0, .inl x] μ Q := by
  have h60 := hC.1.n60
  have fr : FrC μ μ := fun _ _ => rfl
  refine en_SD_dot (vc_SD_dot_0 (sp_has hC.1 x ?_))
  rw [bi_0]
  refine ⟨fun hx => ?_, fun h => hq _ _ (Or.inl ⟨h, rfl⟩) hC fr⟩
  have hx : isN S x := Classical.not_not.mp hx
  have hix := ix_i hx.1
  have hxx : x = nI (ix x) := n_of hx.1
  generalize hj : ix x = j at hix hxx
  have hjS : j < S.1 := by have := hx.2; omega
  rw [hxx]
  refine sp_markOf hC.1 hjS (k := 2) (by omega) ⟨fun hd => sp_chordStart hC.1 hjS (fun p hp hw hb => ci_dotLayOut hC hp hb hjS hw.symm hd (fun u a1 a2 a3 => sd_placeOf a1 hjS ⟨n_in (by omega) (by omega), ?_⟩)), fun hd => hq _ _ (Or.inr ⟨hx, Or.inl ⟨by rw [hj]; exact hd, rfl⟩⟩) hC fr⟩
  obtain ⟨m, f, lo, N, b, c1, c2, c3, c4⟩ := a2
  have c1' := c1
  obtain ⟨g1, g2, g3, g4, ⟨q, e1, e2⟩, g6, g7, g8, g9, g10, g11, g12, g13, g14, g15⟩ := c1
  obtain ⟨t1, t2⟩ := st_n a1.1.1 hjS
  rw [a1.1.at hjS (k := 0) (by omega) rfl, t1]
  have hf70 : ∀ i, i < m → f i < 70 := fun i hi => by
    obtain ⟨r, r1, r2, r3, r4⟩ := e2.1 i hi
    rw [← r4]; exact (st_n hC.1.1 (hC.1.2.1.1 r (by have := e1.2.1; omega))).2
  obtain ⟨r, hr, er⟩ := hC.1.2.1.2.2 j hjS
  obtain ⟨k1, k2⟩ := ch_in hC.1.2.1 e1 hb (Nat.le_refl p) e1.1 hr (by rw [er]; exact hw.symm)
  obtain ⟨i0, i1, i2⟩ := e2.2.2 (stN S j) ⟨r, k1, k2, by rw [er]; exact hd, by rw [er]⟩
  refine sp_distanceFrom g4 t2 c2 (fun i hi => ⟨c3 i hi, hf70 i hi⟩) i1 i2 (fun i hi hfi => ?_)
  refine hq _ _ (Or.inr ⟨hx, Or.inr ⟨by rw [hj]; exact hd, p, m, f, lo, N, b, i, c1', by rw [hj]; exact hw, hi, by rw [hj]; exact hfi, ?_⟩⟩) a1 a3
  rw [hj]
  have hbi := g15 i hi
  have hbar := (ba_n hC.1.1 hjS).2
  have hlo := lo_bd (hC.2.1 (baN S j) hbar).2.2.2.2
  have e100 : (100 : Int32).toInt = 100 := by decide
  have p1 : (plJ S K j).toInt = (stN S j : Int) - (loF (K (baN S j))).toInt := by
    unfold plJ
    rw [t1, i_sub (by rw [n_i (by omega)]; omega) (by rw [n_i (by omega)]; omega), n_i (by omega)]
  have p2 : (u 36 i - nI (stN S j)).toInt = lo + 2 * (b i : Int) - (stN S j : Int) := by
    rw [i_sub (by rw [c4 i hi, n_i (by omega)]; omega) (by rw [c4 i hi, n_i (by omega)]; omega), c4 i hi, n_i (by omega)]
  have p3 : (plJ S K j + (u 36 i - nI (stN S j))).toInt = lo + 2 * (b i : Int) - (loF (K (baN S j))).toInt := by
    rw [i_add (by rw [p1, p2]; omega) (by rw [p1, p2]; omega), p1, p2]; omega
  rw [i_add (by rw [p3, e100]; omega) (by rw [p3, e100]; omega), p3, e100]
theorem ci_keyRow (hC : CI S o K KT μ) {b : Nat} (hb : b < 20) (hq : ∀ u, RowI (kRow (bfK S b) (S.2 8 b) (ix (K b)) (S.2 10 4)) u → CI S o K KT u → FrC μ u → Q 0 u) : Ct G (d + 3) M_SD_layOutKey [.inr 0, .inl (nI b)] μ Q := by
  have hk := hC.2.1 b hb
  have hr := hk.2.2.2.2
  have hrk := hr
  unfold rg at hr
  have hcl := ix_i hr.1
  have hkk : K b = nI (ix (K b)) := n_of hr.1
  have i4 : ix (4 : Int32) = 4 := rfl
  have v4 : vp_in (4 : Int32) 5 := n_in (k := 4) (by omega) (by omega)
  have h8 : ∀ b', b' < 20 → rg (S.2 8 b') (-7) 7 := fun b' hb' => (hC.1.1.2.2.1 b' hb').1
  have done : ∀ u, RowI (kRow (bfK S b) (S.2 8 b) (ix (K b)) (S.2 10 4)) u → (∀ k, (k < 38 ∨ 41 < k) → u k = μ k) → Q 0 u := fun u h1 h2 => hq u h1 (hC.mk' (fun c hc => h2 c (by omega)) (fun h => by
    rw [h2 16 (by omega)] at h
    exact (hC.2.2.2.1 h).congr (fun k a b => h2 k (by omega))) (hC.colc (fun k a b => h2 k (by omega))) (hC.dotc (fun k a b => h2 k (by omega)))) (fun c hc => h2 c (by omega))
  refine en_SD_layOutKey (vc_SD_layOutKey_0 ⟨fun h0 => ?_, fun h0 => ?_⟩)
  · have hb0 : b ≠ 0 := fun e => h0 (by rw [e]; rfl)
    obtain ⟨b', rfl⟩ : ∃ b', b = b' + 1 := ⟨b - 1, by omega⟩
    rw [n_s1]
    refine sp_kat (by omega) (sp_kat hb (sp_cat hb ⟨v4, ?_⟩))
    rw [i4, hC.2.2.1 4 (by omega), (hC.2.1 b' (by omega)).1, hk.1, hk.2.2.1, hkk]
    refine sp_krLayOut (h8 b' (by omega)) (h8 _ hb) (by omega) (fun u a1 a2 => done u ?_ a2)
    have eb : bfK S (b' + 1) = S.2 8 b' := by unfold bfK; rw [if_neg (by omega), Nat.add_sub_cancel]
    rw [eb]; exact a1
  · have hb0 : b = 0 := (n_inj (b := 0) (by omega) (by omega)).mp h0
    subst hb0
    refine sp_kat hb (sp_cat hb ⟨v4, ?_⟩)
    rw [i4, hC.2.2.1 4 (by omega), hk.1, hk.2.2.1, hkk]
    refine sp_krLayOut ⟨by decide, by decide⟩ (h8 _ hb) (by omega) (fun u a1 a2 => done u ?_ a2)
    have eb : bfK S 0 = 0 := by unfold bfK; rw [if_pos rfl]
    rw [eb]; exact a1
theorem sd_keySigns (hC : CI S o K KT μ) {x : Int32} (hq : ∀ r u, aKs S K x r → CI S o K KT u → FrC μ u → Q r u) : Ct G (d + 13) M_SD_keySigns [.inr 0, .inl x] μ Q := by
  have fr : FrC μ μ := fun _ _ => rfl
  refine en_SD_keySigns (vc_SD_keySigns_0 (sp_isBar ?_))
  rw [bi_0]
  refine ⟨fun hx => ?_, fun h => hq _ _ (Or.inl ⟨h, rfl⟩) hC fr⟩
  have hx : isB x := Classical.not_not.mp hx
  have hix := ix_i hx.1
  have hb : ix x < 20 := by have := hx.2; omega
  have hk := ci_keyRow (G := G) (d := d + 9) (Q := fun _ u3 => Q (u3 38 3) u3) hC hb (fun u a1 a2 a3 => hq _ _ (Or.inr ⟨hx, a1.1⟩) a2 a3)
  rw [← n_of hx.1] at hk
  exact hk
theorem sd_keySign (hC : CI S o K KT μ) {x i y : Int32} (hq : ∀ r u, aKey S K x i y r → CI S o K KT u → FrC μ u → Q r u) : Ct G (d + 13) M_SD_keySign [.inr 0, .inl x, .inl i, .inl y] μ Q := by
  have fr : FrC μ μ := fun _ _ => rfl
  have e0 : (0 : Int32).toInt = 0 := by decide
  have e1 : (1 : Int32).toInt = 1 := by decide
  have e2 : (2 : Int32).toInt = 2 := by decide
  refine en_SD_keySign (vc_SD_keySign_0 (sp_isBar ?_))
  rw [bi_0]
  refine ⟨fun h => hq _ _ (Or.inl ⟨fun hh => h hh.1, rfl⟩) hC fr, fun hx => sp_within ?_⟩
  rw [bi_0, e0, e2]
  refine ⟨fun hy => ?_, fun h => hq _ _ (Or.inl ⟨fun hh => h hh.2, rfl⟩) hC fr⟩
  have hx : isB x := Classical.not_not.mp hx
  have hy : 0 ≤ y.toInt ∧ y.toInt ≤ 2 := Classical.not_not.mp hy
  have hix := ix_i hx.1
  have hb : ix x < 20 := by have := hx.2; omega
  have hk := ci_keyRow (G := G) (d := d + 9) (Q := fun _ u5 => Ct G (d + 12) M_SD_within [.inl i, .inl 0, .inl ((u5 38 3) - 1)] u5 (fun r7 u6 => (¬ r7 = 0 → (¬ y = 0 → (¬ y = 1 → vp_in i 14 ∧ Q ((u6 41 (ix i)) + 100) u6) ∧ (y = 1 → vp_in i 14 ∧ Q ((u6 40 (ix i)) + 10) u6)) ∧ (y = 0 → vp_in i 14 ∧ Q (u6 39 (ix i)) u6)) ∧ (r7 = 0 → Q (-2) u6))) hC hb (fun u a1 a2 a3 => ?_)
  · rw [← n_of hx.1] at hk
    exact hk
  · have hlen : (kRow (bfK S (ix x)) (S.2 8 (ix x)) (ix (K (ix x))) (S.2 10 4)).length ≤ 14 := by
      unfold kRow
      have h1 := (hC.1.1.2.2.1 (ix x) hb).1
      unfold rg at h1
      have h2 : (bfK S (ix x)).toInt.natAbs ≤ 7 := by
        unfold bfK
        split
        · decide
        · have := (hC.1.1.2.2.1 (ix x - 1) (by omega)).1
          unfold rg at this; omega
      split
      · simp
      · rw [List.length_append, ownR_len]
        split
        · have := natR_len (bfK S (ix x)) (S.2 8 (ix x)) (ix (K (ix x))) (bfK S (ix x)).toInt.natAbs
          omega
        · simp; omega
    refine sp_within ?_
    rw [bi_0, a1.1, e0, i_sub (by rw [n_i (by omega), e1]; omega) (by rw [n_i (by omega), e1]; omega), n_i (by omega), e1]
    refine ⟨fun hi => ?_, fun hi => hq _ _ (Or.inr ⟨⟨hx, hy⟩, Or.inl ⟨fun hh => hi ⟨hh.1, by omega⟩, rfl⟩⟩) a2 a3⟩
    have hi := Classical.not_not.mp hi
    have hii := ix_i hi.1
    have hin : vp_in i 14 := in_of hi.1 (by omega)
    have hlt : 0 ≤ i.toInt ∧ i.toInt < (kRow (bfK S (ix x)) (S.2 8 (ix x)) (ix (K (ix x))) (S.2 10 4)).length := ⟨hi.1, by omega⟩
    obtain ⟨r1, r2, r3⟩ := a1.2 (ix i) (by omega)
    exact ⟨fun hy0 => ⟨fun hy1 => ⟨hin, hq _ _ (Or.inr ⟨⟨hx, hy⟩, Or.inr ⟨hlt, by rw [if_neg hy0, if_neg hy1, r3]⟩⟩) a2 a3⟩, fun hy1 => ⟨hin, hq _ _ (Or.inr ⟨⟨hx, hy⟩, Or.inr ⟨hlt, by rw [if_neg hy0, if_pos hy1, r2]⟩⟩) a2 a3⟩⟩, fun hy0 => ⟨hin, hq _ _ (Or.inr ⟨⟨hx, hy⟩, Or.inr ⟨hlt, by rw [if_pos hy0, r1]⟩⟩) a2 a3⟩⟩
end
