/-! the reference: places, widths, sharing of columns -/
def ZR (S : Sc) (o : Nat → Nat) (K KT : Nat → Int32) (z : Nat → Nat) (m : Nat) (w : Mem) : Prop := RN S w ∧ RK S K KT w ∧ RW S o w ∧ m ≤ 60 ∧ ∀ i, i < m → w 64 i = nI (z i) ∧ z i < S.1 ∧ KJ S o (z i) ≠ 0 ∧ ∀ j, j < m → S.2 2 (z i) = S.2 2 (z j)
section
variable {G : Gp} {d : Nat} {S : Sc} {o : Nat → Nat} {K KT : Nat → Int32} {μ : Mem} {Q : Int32 → Mem → Prop}
theorem rg_012 {a : Int32} (h : rg a 0 2) : a = 0 ∨ a = 1 ∨ a = 2 := by
  unfold rg at h
  simp only [i_eq]
  have e : ((0 : Int32).toInt = 0 ∧ (1 : Int32).toInt = 1 ∧ (2 : Int32).toInt = 2) := by decide
  omega
theorem md_placeOf (hR : RN S μ) (hK : RK S K KT μ) {j : Nat} (hj : j < S.1) (hq : Q (plJ S K j) μ) : Ct G (d + 1) M_MD_placeOf [.inr 42, .inl (nI j)] μ Q := by
  have h60 := hR.n60
  have e1 : vp_in (nI j) 60 := n_in (by omega) (by omega)
  obtain ⟨b1, b2⟩ := ba_n hR.1 hj
  refine en_MD_placeOf (vc_MD_placeOf_0 ⟨e1, ?_⟩)
  rw [n_ix (by omega), hR.at hj (k := 2) (by omega) rfl, b1]
  refine md_clefOf hK (baN S j) b2 ⟨e1, ?_⟩
  rw [hR.at hj (k := 0) (by omega) rfl]
  unfold plJ loF at hq
  rcases rg_012 (hK.1 (baN S j) b2).2.2.2.2 with h | h | h
  · rw [h] at hq ⊢; exact ⟨fun h => absurd rfl h, fun _ => hq⟩
  · rw [h] at hq ⊢; exact ⟨fun _ => ⟨fun h => absurd rfl h, fun _ => hq⟩, fun h => absurd h (by decide)⟩
  · rw [h] at hq ⊢; exact ⟨fun _ => ⟨fun _ => hq, fun h => absurd h (by decide)⟩, fun h => absurd h (by decide)⟩
theorem md_width (hR : RN S μ) (hW : RW S o μ) {j : Nat} (hj : j < S.1) (hq : Q (wdJ S o j) μ) : Ct G d M_MD_width [.inr 42, .inl (nI j)] μ Q := by
  have h60 := hR.n60
  have e1 : vp_in (nI j) 60 := n_in (by omega) (by omega)
  have ij : ix (nI j) = j := n_ix (by omega)
  obtain ⟨-, k6, k7⟩ := hW.2 j hj
  have tl : ∀ s0 : Int32, s0 = wd0 (S.2 1 j) → AW G d M_MD_width Q 69 [some (.inr 42), some (.inl (nI j)), none, none] [.inl s0] μ := by
    intro s0 hs
    subst hs
    refine vc_MD_width_69 ?_
    rw [ij, k6, k7, hR.at hj (k := 6) (by omega) rfl]
    unfold wdJ wdF wd2 wd1 at hq
    have z00 : ∀ x : Int32, x + (0 + 0) = x := fun x => by rw [show (0 : Int32) + 0 = 0 from rfl, Int32.add_zero]
    have z07 : ∀ x : Int32, x + (0 + 7) = x + 7 := fun x => by rw [show (0 : Int32) + 7 = 7 from rfl]
    have z80 : ∀ x : Int32, x + (8 + 0) = x + 8 := fun x => by rw [show (8 : Int32) + 0 = 8 from rfl]
    have z87 : ∀ x : Int32, x + (8 + 7) = x + 8 + 7 := fun x => by rw [Int32.add_assoc]
    refine ⟨e1, fun h2 => ⟨e1, fun h0 y hy => ⟨e1, fun g => ?_, fun g => ?_⟩, fun h0 y hy => ⟨e1, fun g => ?_, fun g => ?_⟩⟩, fun h2 => ⟨e1, fun h0 y hy => ⟨e1, fun g => ?_, fun g => ?_⟩, fun h0 y hy => ⟨e1, fun g => ?_, fun g => ?_⟩⟩⟩
    · rw [hy, z00]; rw [if_neg g, if_neg (by rw [h0]; decide), if_neg h2] at hq; exact hq
    · rw [hy, z00]; rw [if_pos g, if_neg (by rw [h0]; decide), if_neg h2] at hq; exact hq
    · rw [hy, z07]; rw [if_neg g, if_pos ((NJ_01 S o j).resolve_left h0), if_neg h2] at hq; exact hq
    · rw [hy, z07]; rw [if_pos g, if_pos ((NJ_01 S o j).resolve_left h0), if_neg h2] at hq; exact hq
    · rw [hy, z80]; rw [if_neg g, if_neg (by rw [h0]; decide), if_pos h2] at hq; exact hq
    · rw [hy, z80]; rw [if_pos g, if_neg (by rw [h0]; decide), if_pos h2] at hq; exact hq
    · rw [hy, z87]; rw [if_neg g, if_pos ((NJ_01 S o j).resolve_left h0), if_pos h2] at hq; exact hq
    · rw [hy, z87]; rw [if_pos g, if_pos ((NJ_01 S o j).resolve_left h0), if_pos h2] at hq; exact hq
  refine en_MD_width (vc_MD_width_0 ⟨e1, fun y hy => ?_⟩)
  rw [ij, hR.at hj (k := 1) (by omega) rfl] at hy
  have ha := (hR.1.2.1 j hj).2.1
  subst hy
  rcases rg_9 ha with h | h | h | h | h | h | h | h | h
  all_goals
    rw [h] at tl ⊢
    refine ⟨fun h1 => ⟨fun h2 => ⟨fun h3 => ⟨fun h4 => ⟨fun h5 => ⟨fun h6 => tl _ ?_, fun h6 => tl _ ?_⟩, fun h5 => tl _ ?_⟩, fun h4 => tl _ ?_⟩, fun h3 => tl _ ?_⟩, fun h2 => tl _ ?_⟩, fun h1 => tl _ ?_⟩
    all_goals first | rfl | (exfalso; revert h1; decide) | (exfalso; revert h2; decide) | (exfalso; revert h3; decide) | (exfalso; revert h4; decide) | (exfalso; revert h5; decide) | (exfalso; revert h6; decide)
theorem md_reach (hR : RN S μ) (hW : RW S o μ) {j : Nat} {x : Int32} (hj : j < S.1) (hq : Q (if x = 0 then dnF (S.2 1 j) (KJ S o j) else upF (S.2 1 j) (KJ S o j)) μ) : Ct G d M_MD_reach [.inr 42, .inl (nI j), .inl x] μ Q := by
  have h60 := hR.n60
  have e1 : vp_in (nI j) 60 := n_in (by omega) (by omega)
  have ij : ix (nI j) = j := n_ix (by omega)
  obtain ⟨-, k6, k7⟩ := hW.2 j hj
  have ha := (hR.1.2.1 j hj).2.1
  unfold rg at ha
  have h44 : S.2 1 j = 4 ↔ (4 : Int32) ≤ S.2 1 j := by
    have e : (4 : Int32).toInt = 4 := by decide
    rw [i_eq, i_le, e]; omega
  refine en_MD_reach (vc_MD_reach_0 ?_)
  rw [ij, k6, hR.at hj (k := 1) (by omega) rfl, h44]
  unfold dnF upF lvR at hq
  have t23 : (2 : Int32) ≤ 3 := by decide
  have t21 : ¬ (2 : Int32) ≤ 1 := by decide
  have t22 : (2 : Int32) ≤ 2 := by decide
  have t24 : (2 : Int32) ≤ 4 := by decide
  refine ⟨e1, fun h0 => ⟨e1, fun h4 => ⟨e1, fun h2 => ?_, fun h2 => ⟨fun _ => ?_, fun h => absurd t23 h⟩⟩, fun h4 => ⟨e1, fun h2 => ?_, fun h2 => ⟨fun h => absurd h t21, fun _ => ?_⟩⟩⟩, fun h0 => ⟨fun hx => ⟨e1, fun h2 => ?_, fun h2 => ⟨fun _ => ?_, fun _ => ?_⟩⟩, fun hx => ⟨e1, fun h2 => ?_, fun h2 => ⟨fun _ => ?_, fun h => absurd t24 h⟩⟩⟩⟩
  · simp only [if_pos h0, if_neg h4, ite_self] at hq; exact hq
  · simp only [if_pos h0, if_neg h4, ite_self] at hq; exact hq
  · simp only [if_pos h0, if_pos h4, if_neg h2, ite_self] at hq; exact hq
  · simp only [if_pos h0, if_pos h4, if_pos h2, ite_self] at hq; exact hq
  · simp only [if_neg h0, if_pos hx] at hq; exact hq
  · simp only [if_neg h0, if_pos hx] at hq; exact hq
  · simp only [if_neg h0, if_pos hx] at hq; exact hq
  · simp only [if_neg h0, if_neg hx] at hq; exact hq
  · simp only [if_neg h0, if_neg hx] at hq; exact hq
theorem pl_i (hB : Bd S) (hw : KWs S K KT) {j : Nat} (hj : j < S.1) : (plJ S K j).toInt = (S.2 0 j).toInt - (loF (K (baN S j))).toInt ∧ 18 ≤ (loF (K (baN S j))).toInt ∧ (loF (K (baN S j))).toInt ≤ 30 := by
  obtain ⟨b1, b2⟩ := ba_n hB hj
  have hs := (hB.2.1 j hj).1
  unfold rg at hs
  have hl : 18 ≤ (loF (K (baN S j))).toInt ∧ (loF (K (baN S j))).toInt ≤ 30 := by
    rcases rg_012 (hw (baN S j) b2).2.2.2.2 with h | h | h <;> rw [h] <;> decide
  refine ⟨?_, hl⟩
  unfold plJ
  rw [i_sub (by omega) (by omega)]
theorem md_canShare (hR : RN S μ) (hK : RK S K KT μ) (hW : RW S o μ) {a b : Nat} (ha : a < S.1) (hb : b < S.1) (hab : S.2 2 a = S.2 2 b) (hq : Q (bc (shJ S o a b)) μ) : Ct G (d + 2) M_MD_canShare [.inr 42, .inl (nI a), .inl (nI b)] μ Q := by
  have h60 := hR.n60
  have hB := hR.1
  obtain ⟨pa, la⟩ := pl_i hB hK.1 ha
  obtain ⟨pb, lb⟩ := pl_i hB hK.1 hb
  have eb : baN S a = baN S b := by unfold baN; rw [hab]
  rw [eb] at pa la
  have sa := (hB.2.1 a ha).1
  have sb := (hB.2.1 b hb).1
  unfold rg at sa sb
  obtain ⟨ra1, ra2, ra3, ra4⟩ := rch_bd o hB ha
  obtain ⟨rb1, rb2, rb3, rb4⟩ := rch_bd o hB hb
  have sub : ∀ x y : Nat, x < S.1 → y < S.1 → baN S x = baN S b → baN S y = baN S b → (plJ S K x - plJ S K y).toInt = (S.2 0 x).toInt - (S.2 0 y).toInt := fun x y hx hy ex ey => by
    obtain ⟨px, lx⟩ := pl_i hB hK.1 hx
    obtain ⟨py, ly⟩ := pl_i hB hK.1 hy
    have sx := (hB.2.1 x hx).1
    have sy := (hB.2.1 y hy).1
    unfold rg at sx sy
    rw [ex] at px lx
    rw [ey] at py ly
    rw [i_sub (by rw [px, py]; omega) (by rw [px, py]; omega), px, py]; omega
  have e0 : ¬ (1 : Int32) = 0 := by decide
  refine en_MD_canShare (vc_MD_canShare_0 (md_placeOf hR hK ha (md_placeOf hR hK hb ?_)))
  rw [i_le, pa, pb, n_inj (by omega) (by omega)]
  refine ⟨fun hle => ⟨fun hne => md_placeOf hR hK hb (md_placeOf hR hK ha (fun y hy => ?_)), fun he => md_placeOf hR hK hb (md_placeOf hR hK hb (fun y hy => ?_))⟩, fun hle => ⟨fun h => absurd rfl h, fun _ => md_placeOf hR hK ha (md_placeOf hR hK hb (fun y hy => ?_))⟩⟩
  · have ey := sub b a hb ha rfl eb
    rw [← hy] at ey
    rw [i_le, ey, Int32.toInt_zero]
    refine ⟨fun h => q_cf hq (fun hs => by unfold shJ at hs; omega), fun h => md_reach hR hW hb (md_reach hR hW ha ?_)⟩
    rw [if_pos rfl, if_neg e0, i_lt, i_add (by omega) (by omega), ey]
    refine ⟨fun h2 => q_cf hq (fun hs => by unfold shJ at hs; omega), fun h2 => q_ct hq ?_⟩
    unfold shJ; right; omega
  · have ey := sub b b hb hb rfl rfl
    rw [← hy] at ey
    rw [i_le, ey, Int32.toInt_zero]
    refine ⟨fun h => q_cf hq (fun hs => ?_), fun h => absurd (by omega) h⟩
    rw [he] at hs; unfold shJ at hs; omega
  · have ey := sub a b ha hb eb rfl
    rw [← hy] at ey
    rw [i_le, ey, Int32.toInt_zero]
    refine ⟨fun h => q_cf hq (fun hs => by unfold shJ at hs; omega), fun h => md_reach hR hW ha (md_reach hR hW hb ?_)⟩
    rw [if_pos rfl, if_neg e0, i_lt, i_add (by omega) (by omega), ey]
    refine ⟨fun h2 => q_cf hq (fun hs => by unfold shJ at hs; omega), fun h2 => q_ct hq ?_⟩
    unfold shJ; left; omega
theorem md_fits {z : Nat → Nat} {m : Nat} (hZ : ZR S o K KT z m μ) {k : Nat} (hk : k < m) {t : Nat → Nat} (ht : ∀ i, i ≤ k → μ 65 i = nI (t i) ∧ t i < 60) (hq : Q (bc (∀ i, i < k → t i = t k → shN S o z i k)) μ) : Ct G (d + 3) M_MD_fits [.inr 42, .inl (nI k)] μ Q := by
  obtain ⟨hR, hK, hW, hm, hz⟩ := hZ
  have ek : vp_in (nI k) 60 := n_in (by omega) (by omega)
  have key : ∀ n i, i + n = k → (∀ j, j < i → t j = t k → shN S o z j k) → AW G (d + 3) M_MD_fits Q 2 [some (.inr 42), some (.inl (nI k)), some (.inl (nI i))] [] μ := by
    intro n
    induction n with
    | zero =>
      intro i hi hn
      have hi : i = k := by omega
      subst hi
      exact vc_MD_fits_2 ⟨fun _ => q_ct hq hn, fun h => absurd ((n_le (by omega) (by omega)).mpr (Nat.le_refl _)) h⟩
    | succ n ih =>
      intro i hi hn
      have ei : vp_in (nI i) 60 := n_in (by omega) (by omega)
      have go : (t i = t k → shN S o z i k) → AW G (d + 3) M_MD_fits Q 2 [some (.inr 42), some (.inl (nI k)), some (.inl (nI i + 1))] [] μ := fun h => by
        rw [n_p1]
        exact ih (i + 1) (by omega) (fun j hj => by
          rcases Nat.lt_or_ge j i with h3 | h3
          · exact hn j h3
          · rw [show j = i by omega]; exact h)
      have t1 := ht i (by omega)
      have t2 := ht k (Nat.le_refl k)
      refine vc_MD_fits_2 ⟨fun h => absurd ((n_le (by omega) (by omega)).mp h) (by omega), fun _ => ⟨ei, ek, ?_⟩⟩
      rw [n_ix (show i < 2147483648 by omega), n_ix (show k < 2147483648 by omega), t1.1, t2.1, n_inj (by omega) (by omega), (hz i (by omega)).1, (hz k hk).1]
      refine ⟨fun h => go (fun h3 => absurd h3 h), fun h => ⟨ei, ek, md_canShare hR hK hW (hz i (by omega)).2.1 (hz k hk).2.1 ((hz i (by omega)).2.2.2 k hk) ?_⟩⟩
      rw [bc_0, Classical.not_not]
      exact ⟨fun h3 => go (fun _ => h3), fun h3 => q_cf hq (fun h4 => h3 (h4 i (by omega) h))⟩
  exact en_MD_fits (vc_MD_fits_0 (key k 0 (by omega) (fun j hj => absurd hj (Nat.not_lt_zero j))))
theorem bit_or : ∀ v, v < 64 → ∀ c, c < 6 → nI v ||| ((1 : Int32) <<< (nI c &&& 31)) = nI (v ||| 2 ^ c) ∧ (v ||| 2 ^ c) < 64 ∧ ∀ c', c' < 6 → (v ||| 2 ^ c).testBit c' = (v.testBit c' || c' == c) := by decide +kernel
theorem bit_full : ∀ v, v < 64 → (nI v &&& (nI v + 1) = 0 ↔ ∀ c, c < 6 → v.testBit c = true → ∀ c', c' < 6 → c' < c → v.testBit c' = true) := by decide +kernel
theorem md_isFull {m : Nat} (hm : m ≤ 6) {t : Nat → Nat} (ht : ∀ i, i < m → μ 65 i = nI (t i) ∧ t i < 6) (hq : Q (bc (Fl m t)) μ) : Ct G d M_MD_isFull [.inr 42, .inl (nI m)] μ Q := by
  have key : ∀ n i, i + n = m → ∀ v, v < 64 → (∀ c, c < 6 → (v.testBit c = true ↔ ∃ j, j < i ∧ t j = c)) → AW G d M_MD_isFull Q 4 [some (.inr 42), some (.inl (nI m)), some (.inl (nI v)), some (.inl (nI i))] [] μ := by
    intro n
    induction n with
    | zero =>
      intro i hi v hv hb
      have hi : i = m := by omega
      subst hi
      refine vc_MD_isFull_4 ⟨fun _ => ?_, fun h => absurd ((n_le (by omega) (by omega)).mpr (Nat.le_refl _)) h⟩
      rw [bit_full v hv]
      have e : (∀ c, c < 6 → v.testBit c = true → ∀ c', c' < 6 → c' < c → v.testBit c' = true) ↔ Fl i t := by
        constructor
        · intro h j hj c hc
          have h6 := (ht j hj).2
          exact (hb c (by omega)).mp (h (t j) h6 ((hb _ h6).mpr ⟨j, hj, rfl⟩) c (by omega) hc)
        · intro h c hc hbc c' hc' hlt
          obtain ⟨j, hj, e⟩ := (hb c hc).mp hbc
          exact (hb c' hc').mpr (h j hj c' (by omega))
      rw [e]
      exact ⟨fun h => q_cf hq h, fun h => q_ct hq h⟩
    | succ n ih =>
      intro i hi v hv hb
      have ti := ht i (by omega)
      obtain ⟨o1, o2, o3⟩ := bit_or v hv (t i) ti.2
      refine vc_MD_isFull_4 ⟨fun h => absurd ((n_le (by omega) (by omega)).mp h) (by omega), fun _ => ⟨n_in (by omega) (by omega), fun y hy => ?_⟩⟩
      rw [n_ix (by omega), ti.1, o1] at hy
      subst hy
      rw [n_p1]
      refine ih (i + 1) (by omega) _ o2 (fun c hc => ?_)
      rw [o3 c hc, Bool.or_eq_true, hb c hc, beq_iff_eq]
      constructor
      · rintro (⟨j, h1, h2⟩ | h)
        · exact ⟨j, by omega, h2⟩
        · exact ⟨i, by omega, h.symm⟩
      · rintro ⟨j, h1, h2⟩
        rcases Nat.lt_or_ge j i with h3 | h3
        · exact Or.inl ⟨j, h3, h2⟩
        · rw [show j = i by omega] at h2; exact Or.inr h2.symm
  exact en_MD_isFull (vc_MD_isFull_0 (key m 0 (by omega) 0 (by omega) (fun c hc => ⟨fun h => by simp at h, fun ⟨j, h, _⟩ => absurd h (Nat.not_lt_zero j)⟩)))
theorem md_widths_c {z : Nat → Nat} {m : Nat} (hZ : ZR S o K KT z m μ) {n : Nat} (hn : n ≤ m) {t : Nat → Nat} (ht : ∀ i, i < n → μ 65 i = nI (t i) ∧ t i < 60) (hq : Q (nI (sWd (wN S o z) t n (if 6 ≤ n then n else 6))) μ) : Ct G (d + 1) M_MD_widths [.inr 42, .inr 65, .inl (nI n)] μ Q := by
  obtain ⟨hR, hK, hW, hm, hz⟩ := hZ
  have hw := fun i (hi : i < n) => wN_eq (o := o) hR.1 (hz i (by omega)).2.1
  have hM : ∀ i, i ≤ n → ∀ c, cMx (wN S o z) t i c ≤ 31 := fun i hi c => cMx_le i (fun j hj => (hw j (by omega)).2.1) c
  have hS : ∀ C, sWd (wN S o z) t n C ≤ 31 * C := sWd_bd (fun j hj => (hw j hj).2.1)
  generalize hC : (if 6 ≤ n then n else 6) = C at hq
  have hC60 : C ≤ 60 := by rw [← hC]; split <;> omega
  have col : ∀ r c, c + r = C → AW G (d + 1) M_MD_widths Q 5 [some (.inr 42), some (.inr 65), some (.inl (nI n)), some (.inl (nI (sWd (wN S o z) t n c))), some (.inl (nI c)), none, none, none] [] μ := by
    intro r
    induction r with
    | zero =>
      intro c hc
      have hc : c = C := by omega
      subst hc
      refine vc_MD_widths_c_5 ?_
      rw [show (6 : Int32) = nI 6 from rfl, n_le (by omega) (by omega), n_le (by omega) (by omega), n_le (by omega) (by omega)]
      refine ⟨fun h => ⟨fun _ => hq, fun h2 => absurd ?_ h2⟩, fun h => ⟨fun _ => hq, fun h2 => absurd ?_ h2⟩⟩
      · rw [← hC, if_pos h]; exact Nat.le_refl _
      · rw [← hC, if_neg h]; exact Nat.le_refl _
    | succ r ih =>
      intro c hc
      have inn : ∀ s i, i + s = n → AW G (d + 1) M_MD_widths Q 28 [some (.inr 42), some (.inr 65), some (.inl (nI n)), some (.inl (nI (sWd (wN S o z) t n c))), some (.inl (nI c)), some (.inl (nI (cMx (wN S o z) t i c))), some (.inl (nI i)), none] [] μ := by
        intro s
        induction s with
        | zero =>
          intro i hi
          have hi : i = n := by omega
          subst hi
          refine vc_MD_widths_c_28 ⟨fun _ y hy => ?_, fun h => absurd ((n_le (by omega) (by omega)).mpr (Nat.le_refl _)) h⟩
          rw [nI_add] at hy
          subst hy
          rw [n_p1]
          exact ih (c + 1) (by omega)
        | succ s ihs =>
          intro i hi
          have hih := ihs (i + 1) (by omega)
          have b1 := hM i (by omega) c
          obtain ⟨w1, w2, w3⟩ := hw i (by omega)
          refine vc_MD_widths_c_28 ⟨fun h => absurd ((n_le (by omega) (by omega)).mp h) (by omega), fun _ => ⟨n_in (by omega) (by omega), ?_⟩⟩
          rw [n_ix (by omega), (ht i (by omega)).1, n_inj (by have := (ht i (by omega)).2; omega) (by omega), (hz i (by omega)).1, n_p1]
          refine ⟨fun h => ⟨fun _ => ?_, fun h2 => absurd ?_ h2⟩, fun h => ⟨n_in (by omega) (by omega), md_width hR hW (hz i (by omega)).2.1 ?_⟩⟩
          · unfold cMx at hih; rw [if_neg h] at hih; exact hih
          · rw [i_le, n_i (by omega), Int32.toInt_zero]; omega
          · unfold cMx at hih
            rw [if_pos h] at hih
            rw [w1, n_le (by omega) (by omega)]
            refine ⟨fun h2 => ?_, fun h2 => ?_⟩
            · rw [Nat.max_eq_left h2] at hih; exact hih
            · rw [Nat.max_eq_right (by omega)] at hih; exact hih
      refine vc_MD_widths_c_5 ?_
      rw [show (6 : Int32) = nI 6 from rfl, n_le (by omega) (by omega), n_le (by omega) (by omega), n_le (by omega) (by omega)]
      refine ⟨fun h => ⟨fun h2 => absurd h2 ?_, fun _ => inn n 0 (by omega)⟩, fun h => ⟨fun h2 => absurd h2 ?_, fun _ => inn n 0 (by omega)⟩⟩
      · rw [if_pos h] at hC; omega
      · rw [if_neg h] at hC; omega
  exact en_MD_widths_c (vc_MD_widths_c_0 (col C 0 (by omega)))
theorem md_widths_b {z : Nat → Nat} {m : Nat} (hZ : ZR S o K KT z m μ) {n : Nat} (hn : n ≤ m) {t : Nat → Nat} (ht : ∀ i, i < n → μ 66 i = nI (t i) ∧ t i < 60) (hq : Q (nI (sWd (wN S o z) t n (if 6 ≤ n then n else 6))) μ) : Ct G (d + 1) M_MD_widths [.inr 42, .inr 66, .inl (nI n)] μ Q := by
  obtain ⟨hR, hK, hW, hm, hz⟩ := hZ
  have hw := fun i (hi : i < n) => wN_eq (o := o) hR.1 (hz i (by omega)).2.1
  have hM : ∀ i, i ≤ n → ∀ c, cMx (wN S o z) t i c ≤ 31 := fun i hi c => cMx_le i (fun j hj => (hw j (by omega)).2.1) c
  have hS : ∀ C, sWd (wN S o z) t n C ≤ 31 * C := sWd_bd (fun j hj => (hw j hj).2.1)
  generalize hC : (if 6 ≤ n then n else 6) = C at hq
  have hC60 : C ≤ 60 := by rw [← hC]; split <;> omega
  have col : ∀ r c, c + r = C → AW G (d + 1) M_MD_widths Q 5 [some (.inr 42), some (.inr 66), some (.inl (nI n)), some (.inl (nI (sWd (wN S o z) t n c))), some (.inl (nI c)), none, none, none] [] μ := by
    intro r
    induction r with
    | zero =>
      intro c hc
      have hc : c = C := by omega
      subst hc
      refine vc_MD_widths_b_5 ?_
      rw [show (6 : Int32) = nI 6 from rfl, n_le (by omega) (by omega), n_le (by omega) (by omega), n_le (by omega) (by omega)]
      refine ⟨fun h => ⟨fun _ => hq, fun h2 => absurd ?_ h2⟩, fun h => ⟨fun _ => hq, fun h2 => absurd ?_ h2⟩⟩
      · rw [← hC, if_pos h]; exact Nat.le_refl _
      · rw [← hC, if_neg h]; exact Nat.le_refl _
    | succ r ih =>
      intro c hc
      have inn : ∀ s i, i + s = n → AW G (d + 1) M_MD_widths Q 28 [some (.inr 42), some (.inr 66), some (.inl (nI n)), some (.inl (nI (sWd (wN S o z) t n c))), some (.inl (nI c)), some (.inl (nI (cMx (wN S o z) t i c))), some (.inl (nI i)), none] [] μ := by
        intro s
        induction s with
        | zero =>
          intro i hi
          have hi : i = n := by omega
          subst hi
          refine vc_MD_widths_b_28 ⟨fun _ y hy => ?_, fun h => absurd ((n_le (by omega) (by omega)).mpr (Nat.le_refl _)) h⟩
          rw [nI_add] at hy
          subst hy
          rw [n_p1]
          exact ih (c + 1) (by omega)
        | succ s ihs =>
          intro i hi
          have hih := ihs (i + 1) (by omega)
          have b1 := hM i (by omega) c
          obtain ⟨w1, w2, w3⟩ := hw i (by omega)
          refine vc_MD_widths_b_28 ⟨fun h => absurd ((n_le (by omega) (by omega)).mp h) (by omega), fun _ => ⟨n_in (by omega) (by omega), ?_⟩⟩
          rw [n_ix (by omega), (ht i (by omega)).1, n_inj (by have := (ht i (by omega)).2; omega) (by omega), (hz i (by omega)).1, n_p1]
          refine ⟨fun h => ⟨fun _ => ?_, fun h2 => absurd ?_ h2⟩, fun h => ⟨n_in (by omega) (by omega), md_width hR hW (hz i (by omega)).2.1 ?_⟩⟩
          · unfold cMx at hih; rw [if_neg h] at hih; exact hih
          · rw [i_le, n_i (by omega), Int32.toInt_zero]; omega
          · unfold cMx at hih
            rw [if_pos h] at hih
            rw [w1, n_le (by omega) (by omega)]
            refine ⟨fun h2 => ?_, fun h2 => ?_⟩
            · rw [Nat.max_eq_left h2] at hih; exact hih
            · rw [Nat.max_eq_right (by omega)] at hih; exact hih
      refine vc_MD_widths_b_5 ?_
      rw [show (6 : Int32) = nI 6 from rfl, n_le (by omega) (by omega), n_le (by omega) (by omega), n_le (by omega) (by omega)]
      refine ⟨fun h => ⟨fun h2 => absurd h2 ?_, fun _ => inn n 0 (by omega)⟩, fun h => ⟨fun h2 => absurd h2 ?_, fun _ => inn n 0 (by omega)⟩⟩
      · rw [if_pos h] at hC; omega
      · rw [if_neg h] at hC; omega
  exact en_MD_widths_b (vc_MD_widths_b_0 (col C 0 (by omega)))
end
