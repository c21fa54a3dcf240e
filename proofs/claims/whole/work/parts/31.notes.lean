/-! class Notes: its methods, over the score S and its order o -/
def NoI (S : Sc) (o : Nat → Nat) (μ : Mem) : Prop := Bd S ∧ Ord S o ∧ μ 1 7 = nI S.1 ∧ (∀ p, p < S.1 → μ 7 p = nI (o p)) ∧ (∀ k j, k < 5 → j < S.1 → μ (2 + k) j = S.2 k j) ∧ (∀ k j, k < 3 → j < S.1 → μ 8 (3 * j + k) = S.2 (5 + k) j)
theorem q_f {p : Prop} [Decidable p] {Q : Int32 → Mem → Prop} {μ : Mem} (hq : Q (bi p) μ) (h : ¬ p) : Q 0 μ := by rw [bi_f h] at hq; exact hq
theorem q_t {p : Prop} [Decidable p] {Q : Int32 → Mem → Prop} {μ : Mem} (hq : Q (bi p) μ) (h : p) : Q 1 μ := by rw [bi_t h] at hq; exact hq
/-- bar and time of note i stand in the memory -/
def WT (S : Sc) (μ : Mem) (i : Nat) : Prop := i < 60 ∧ μ 4 i = S.2 2 i ∧ μ 5 i = S.2 3 i ∧ rg (S.2 2 i) 0 19 ∧ rg (S.2 3 i) 0 999
/-- the chord that begins at place p ends at place q -/
def EndIs (S : Sc) (o : Nat → Nat) (p q : Nat) : Prop := p < q ∧ q ≤ S.1 ∧ (∀ r, p ≤ r → r < q → wh S (o r) = wh S (o p)) ∧ (q < S.1 → wh S (o q) ≠ wh S (o p))
abbrev Beg (S : Sc) (o : Nat → Nat) (p : Nat) : Prop := p = 0 ∨ wh S (o (p - 1)) ≠ wh S (o p)
def cntB (S : Sc) (o : Nat → Nat) : Nat → Nat
  | 0 => 0
  | k + 1 => if Beg S o k then cntB S o k + 1 else cntB S o k
theorem cntB_le (S : Sc) (o : Nat → Nat) : ∀ k, cntB S o k ≤ k := by
  intro k
  induction k with
  | zero => exact Nat.le_refl _
  | succ k ih => unfold cntB; split <;> omega
section
variable {G : Gp} {d : Nat} {S : Sc} {o : Nat → Nat} {μ : Mem} {Q : Int32 → Mem → Prop}
theorem NoI.n60 (h : NoI S o μ) : S.1 ≤ 60 := h.1.1
theorem NoI.at (h : NoI S o μ) {k j c : Nat} (hj : j < S.1) (hk : k < 5) (hc : c = 2 + k) : μ c j = S.2 k j := by rw [hc]; exact h.2.2.2.2.1 k j hk hj
theorem NoI.wt (h : NoI S o μ) {j : Nat} (hj : j < S.1) : WT S μ j := by
  obtain ⟨-, -, h1, h2, -⟩ := h.1.2.1 j hj
  exact ⟨by have := h.n60; omega, h.at hj (k := 2) (by omega) rfl, h.at hj (k := 3) (by omega) rfl, h1, h2⟩
theorem NoI.congr (h : NoI S o μ) {u : Mem} (hu : ∀ c, 1 ≤ c → c ≤ 8 → u c = μ c) : NoI S o u := by
  obtain ⟨h1, h2, h3, h4, h5, h6⟩ := h
  refine ⟨h1, h2, by rw [hu 1 (by omega) (by omega)]; exact h3, fun p hp => by rw [hu 7 (by omega) (by omega)]; exact h4 p hp, fun k j hk hj => by rw [hu (2 + k) (by omega) (by omega)]; exact h5 k j hk hj, fun k j hk hj => by rw [hu 8 (by omega) (by omega)]; exact h6 k j hk hj⟩
theorem sp_has (hI : NoI S o μ) (x : Int32) (hq : Q (bi (0 ≤ x.toInt ∧ x.toInt < S.1)) μ) : Ct G d M_NO_has [.inr 1, .inl x] μ Q := by
  have h60 := hI.n60
  refine en_NO_has (vc_NO_has_0 ?_)
  rw [hI.2.2.1]
  simp only [i_lt, i_le, n_i (show S.1 < 2147483648 by omega), Int32.toInt_zero]
  exact ⟨fun q => q_f hq (by omega), fun q => ⟨fun q2 => q_f hq (by omega), fun q2 => q_t hq (by omega)⟩⟩
theorem sp_isBefore {i j : Nat} (hi : WT S μ i) (hj : WT S μ j) (hq : Q (bi (wh S i < wh S j)) μ) : Ct G d M_NO_isBefore [.inr 1, .inl (nI i), .inl (nI j)] μ Q := by
  obtain ⟨a1, a2, a3, a4, a5⟩ := hi
  obtain ⟨b1, b2, b3, b4, b5⟩ := hj
  unfold rg at *
  refine en_NO_isBefore (vc_NO_isBefore_0 ?_)
  have e1 : vp_in (nI i) 60 := n_in (by omega) (by omega)
  have e2 : vp_in (nI j) 60 := n_in (by omega) (by omega)
  simp only [e1, e2, true_and, n_ix (show i < 2147483648 by omega), n_ix (show j < 2147483648 by omega), a2, a3, b2, b3, i_eq, i_le]
  unfold wh at hq
  refine ⟨fun q => ⟨fun q2 => q_f hq (by omega), fun q2 => q_t hq (by omega)⟩, fun q => ⟨fun q2 => q_f hq (by omega), fun q2 => q_t hq (by omega)⟩⟩
theorem sp_shareChord {i j : Nat} (hi : WT S μ i) (hj : WT S μ j) (hq : Q (bi (wh S i = wh S j)) μ) : Ct G d M_NO_shareChord [.inr 1, .inl (nI i), .inl (nI j)] μ Q := by
  obtain ⟨a1, a2, a3, a4, a5⟩ := hi
  obtain ⟨b1, b2, b3, b4, b5⟩ := hj
  unfold rg at *
  refine en_NO_shareChord (vc_NO_shareChord_0 ?_)
  have e1 : vp_in (nI i) 60 := n_in (by omega) (by omega)
  have e2 : vp_in (nI j) 60 := n_in (by omega) (by omega)
  simp only [e1, e2, true_and, n_ix (show i < 2147483648 by omega), n_ix (show j < 2147483648 by omega), a2, a3, b2, b3, i_eq]
  unfold wh at hq
  exact ⟨fun q => q_f hq (by omega), fun q => ⟨fun q2 => q_f hq (by omega), fun q2 => q_t hq (by omega)⟩⟩
theorem sp_positionOf (hI : NoI S o μ) {p : Nat} (hp : p < S.1) (hq : Q (nI p) μ) : Ct G d M_NO_positionOf [.inr 1, .inl (nI (o p))] μ Q := by
  have h60 := hI.n60
  have hop := hI.2.1.1 p hp
  refine en_NO_positionOf (vc_NO_positionOf_0 ?_)
  have key : ∀ m k, k + m = p → AW G d M_NO_positionOf Q 2 [some (.inr 1), some (.inl (nI (o p))), some (.inl (nI k))] [] μ := by
    intro m
    induction m with
    | zero =>
      intro k hk
      have hk : k = p := by omega
      subst hk
      refine vc_NO_positionOf_2 ?_
      rw [hI.2.2.1, n_ix (by omega), hI.2.2.2.1 k hp]
      refine ⟨fun q => absurd ((n_le (by omega) (by omega)).mp q) (by omega), fun _ => ⟨n_in (by omega) (by omega), fun q => absurd rfl q, fun _ => hq⟩⟩
    | succ m ih =>
      intro k hk
      refine vc_NO_positionOf_2 ?_
      have hok := hI.2.1.1 k (by omega)
      rw [hI.2.2.1, n_ix (by omega), hI.2.2.2.1 k (by omega)]
      refine ⟨fun q => absurd ((n_le (by omega) (by omega)).mp q) (by omega), fun _ => ⟨n_in (by omega) (by omega), fun _ => ?_, fun q => ?_⟩⟩
      · rw [n_p1]; exact ih (k + 1) (by omega)
      · have := (n_inj (by omega) (by omega)).mp q
        exact absurd (hI.2.1.inj (by omega) hp this) (by omega)
  exact key p 0 (by omega)
theorem mk_ix {j k : Nat} (hj : j < 60) (hk : k < 3) : (nI j * 3 + nI k) = nI (3 * j + k) := by
  rw [show (3 : Int32) = nI 3 from rfl, pk_mul, nI_add, Nat.mul_comm]
theorem sp_markOf (hI : NoI S o μ) {j k : Nat} (hj : j < S.1) (hk : k < 3) (hq : Q (S.2 (5 + k) j) μ) : Ct G d M_NO_markOf [.inr 1, .inl (nI j), .inl (nI k)] μ Q := by
  have h60 := hI.n60
  refine en_NO_markOf (vc_NO_markOf_0 ?_)
  rw [mk_ix (by omega) hk, n_ix (by omega), hI.2.2.2.2.2 k j hk hj]
  exact ⟨n_in (by omega) (by omega), hq⟩
theorem sp_setMark (hI : NoI S o μ) {j k : Nat} {v : Int32} (hj : j < S.1) (hk : k < 3) (hq : Q (S.2 (5 + k) j) (up μ 8 (3 * j + k) v)) : Ct G (d + 1) M_NO_setMark [.inr 1, .inl (nI j), .inl (nI k), .inl v] μ Q := by
  have h60 := hI.n60
  refine en_NO_setMark (vc_NO_setMark_0 (sp_markOf hI hj hk ?_))
  refine ⟨by rw [mk_ix (by omega) hk]; exact n_in (by omega) (by omega), fun u hu => ?_⟩
  rw [mk_ix (by omega) hk, n_ix (by omega)] at hu
  rw [hu]; exact hq
theorem sp_possibleTie (hI : NoI S o μ) {j : Nat} (hj : j < S.1) (hq : Q (mateF S j) μ) : Ct G (d + 1) M_NO_possibleTie [.inr 1, .inl (nI j)] μ Q := by
  have h60 := hI.n60
  obtain ⟨p, hp, rfl⟩ := hI.2.1.2.2 j hj
  refine en_NO_possibleTie (vc_NO_possibleTie_0 (sp_positionOf hI hp ?_))
  intro y hy
  have before : ∀ q, q < S.1 → Cand S (o p) (o q) → q < p := fun q hq' hc => (hI.2.1.lt_iff hq' hp).mp (Or.inl hc.2.2)
  have key : ∀ k, k ≤ p → (∀ q, k ≤ q → q < p → ¬ Cand S (o p) (o q)) → AW G (d + 1) M_NO_possibleTie Q 8 [some (.inr 1), some (.inl (nI (o p))), some (.inl (nI k + (-1))), none] [] μ := by
    intro k
    induction k with
    | zero =>
      intro _ hno
      refine vc_NO_possibleTie_8 ⟨fun _ => ?_, fun q => absurd (by decide) q⟩
      have hb : bestC S (o p) S.1 = none := bestC_no (fun m hm hc => by
        obtain ⟨q, hq1, rfl⟩ := hI.2.1.2.2 m hm
        exact hno q (by omega) (before q hq1 hc) hc)
      unfold mateF at hq
      rw [hb] at hq
      exact hq
    | succ k ih =>
      intro hk hno
      have hok := hI.2.1.1 k (by omega)
      rw [n_m1]
      refine vc_NO_possibleTie_8 ⟨fun q => absurd q (by rw [i_lt, n_i (by omega)]; simp), fun _ => ⟨n_in (by omega) (by omega), fun y1 hy1 => ?_⟩⟩
      rw [n_ix (by omega), hI.2.2.2.1 k (by omega)] at hy1
      subst hy1
      have e1 : vp_in (nI (o k)) 60 := n_in (by omega) (by omega)
      have e2 : vp_in (nI (o p)) 60 := n_in (by omega) (by omega)
      have i1 : ix (nI (o k)) = o k := n_ix (by omega)
      have i2 : ix (nI (o p)) = o p := n_ix (by omega)
      have go : ¬ Cand S (o p) (o k) → AW G (d + 1) M_NO_possibleTie Q 8 [some (.inr 1), some (.inl (nI (o p))), some (.inl (nI k + (-1))), none] [] μ := fun hc => ih (by omega) (fun q h1 h2 => by
        rcases Nat.lt_or_ge k q with h3 | h3
        · exact hno q (by omega) h2
        · rw [show q = k by omega]; exact hc)
      rw [i1, i2, hI.at hok (k := 4) (by omega) rfl, hI.at hj (k := 4) (by omega) rfl, hI.at hok (k := 0) (by omega) rfl, hI.at hj (k := 0) (by omega) rfl]
      refine ⟨e1, e2, fun q => go (fun hc => q hc.1), fun q1 => ⟨e1, e2, fun q => go (fun hc => q hc.2.1), fun q2 => sp_isBefore (hI.wt hok) (hI.wt hj) ⟨fun q => go (fun hc => (bi_0.mp q) hc.2.2), fun q => ?_⟩⟩⟩
      have hc : Cand S (o p) (o k) := ⟨q1, q2, by rcases Decidable.em (wh S (o k) < wh S (o p)) with h | h; exact h; exact absurd (bi_0.mpr h) q⟩
      have hb : bestC S (o p) S.1 = some (o k) := bestC_eq hok hc (fun m hm hcm => by
        obtain ⟨q3, hq3, rfl⟩ := hI.2.1.2.2 m hm
        have h4 := before q3 hq3 hcm
        rcases Nat.lt_trichotomy q3 k with h5 | h5 | h5
        · exact Or.inr ((hI.2.1.lt_iff hq3 (by omega)).mpr h5)
        · exact Or.inl (by rw [h5])
        · exact absurd hcm (hno q3 (by omega) h4))
      unfold mateF at hq
      rw [hb] at hq
      dsimp only at hq
      rw [hI.at hok (k := 1) (by omega) rfl, hI.at hj (k := 1) (by omega) rfl]
      exact ⟨e1, e2, fun q => by rw [if_neg q] at hq; exact hq, fun q => by rw [if_pos q] at hq; exact hq⟩
  rw [show y = nI p + (-1) from by rw [hy, Int32.sub_eq_add_neg]]
  exact key p (Nat.le_refl _) (fun q h1 h2 => absurd h1 (by omega))
theorem sp_tieOf (hI : NoI S o μ) {j : Nat} (hj : j < S.1) (hq : Q (tieF S j) μ) : Ct G (d + 2) M_NO_tieOf [.inr 1, .inl (nI j)] μ Q := by
  unfold tieF at hq
  refine en_NO_tieOf (vc_NO_tieOf_0 (sp_markOf hI hj (k := 0) (by omega) ?_))
  exact ⟨fun q => by rw [if_neg q] at hq; exact hq, fun q => sp_possibleTie hI hj (by rw [if_pos q] at hq; exact hq)⟩
theorem sp_beginsChord (hI : NoI S o μ) {p : Nat} (hp : p < S.1) (hq : Q (bi (Beg S o p)) μ) : Ct G (d + 1) M_NO_beginsChord [.inr 1, .inl (nI p)] μ Q := by
  have h60 := hI.n60
  refine en_NO_beginsChord (vc_NO_beginsChord_0 ⟨fun q => ?_, fun q => ?_⟩)
  · exact q_t hq (Or.inl ((n_inj (b := 0) (by omega) (by omega)).mp q))
  · have hp0 : p ≠ 0 := fun h => q (by rw [h]; rfl)
    obtain ⟨k, rfl⟩ : ∃ k, p = k + 1 := ⟨p - 1, by omega⟩
    have h1 := hI.2.1.1 k (by omega)
    have h2 := hI.2.1.1 (k + 1) hp
    rw [n_s1, n_ix (by omega), n_ix (by omega), hI.2.2.2.1 k (by omega), hI.2.2.2.1 (k + 1) hp]
    refine ⟨n_in (by omega) (by omega), n_in (by omega) (by omega), sp_shareChord (hI.wt h1) (hI.wt h2) ⟨fun q1 => ?_, fun q1 => ?_⟩⟩
    · refine q_f hq (fun h => ?_)
      rcases h with h | h
      · omega
      · exact q1 (bi_f h)
    · exact q_t hq (Or.inr (bi_0.mp q1))
theorem sp_chordEnd (hI : NoI S o μ) {p : Nat} (hp : p < S.1) (hq : ∀ q, EndIs S o p q → Q (nI q) μ) : Ct G (d + 1) M_NO_chordEnd [.inr 1, .inl (nI p)] μ Q := by
  have h60 := hI.n60
  refine en_NO_chordEnd (vc_NO_chordEnd_0 ?_)
  have key : ∀ m k, k + m = S.1 → p ≤ k → (∀ r, p ≤ r → r < k → wh S (o r) = wh S (o p)) → (p = k ∨ p < k) → AW G (d + 1) M_NO_chordEnd Q 2 [some (.inr 1), some (.inl (nI p)), some (.inl (nI k))] [] μ := by
    intro m
    induction m with
    | zero =>
      intro k hk h1 h2 h3
      refine vc_NO_chordEnd_2 ?_
      rw [hI.2.2.1]
      refine ⟨fun _ => hq S.1 ⟨hp, Nat.le_refl _, fun r a b => h2 r a (by omega), fun h => absurd h (by omega)⟩, fun q => absurd ((n_le (by omega) (by omega)).mpr (by omega)) q⟩
    | succ m ih =>
      intro k hk h1 h2 h3
      refine vc_NO_chordEnd_2 ?_
      have g1 := hI.2.1.1 p hp
      have g2 := hI.2.1.1 k (by omega)
      rw [hI.2.2.1, n_ix (by omega), n_ix (by omega), hI.2.2.2.1 p hp, hI.2.2.2.1 k (by omega)]
      refine ⟨fun q => absurd ((n_le (by omega) (by omega)).mp q) (by omega), fun _ => ⟨n_in (by omega) (by omega), n_in (by omega) (by omega), sp_shareChord (hI.wt g1) (hI.wt g2) ⟨fun q => ?_, fun q => ?_⟩⟩⟩
      · have he : wh S (o p) = wh S (o k) := by
          rcases Decidable.em (wh S (o p) = wh S (o k)) with h | h
          · exact h
          · exact absurd (bi_f h) q
        rw [n_p1]
        refine ih (k + 1) (by omega) (by omega) (fun r a b => ?_) (Or.inr (by omega))
        rcases Nat.lt_or_ge r k with h | h
        · exact h2 r a h
        · rw [show r = k by omega]; exact he.symm
      · have hne := bi_0.mp q
        have hpk : p ≠ k := fun h => hne (by rw [h])
        exact hq k ⟨by omega, by omega, h2, fun _ h => hne h.symm⟩
  exact key (S.1 - p) p (by omega) (Nat.le_refl _) (fun r a b => absurd a (by omega)) (Or.inl rfl)
theorem sp_chordAt (hI : NoI S o μ) {b t : Int32} (hn : (∀ j, j < S.1 → ¬ (S.2 2 j = b ∧ S.2 3 j = t)) → Q (-1) μ) (hq : ∀ p, p < S.1 → S.2 2 (o p) = b → S.2 3 (o p) = t → (∀ r, r < p → ¬ (S.2 2 (o r) = b ∧ S.2 3 (o r) = t)) → Q (nI p) μ) : Ct G d M_NO_chordAt [.inr 1, .inl b, .inl t] μ Q := by
  have h60 := hI.n60
  refine en_NO_chordAt (vc_NO_chordAt_0 ?_)
  have key : ∀ m k, k + m = S.1 → (∀ r, r < k → ¬ (S.2 2 (o r) = b ∧ S.2 3 (o r) = t)) → AW G d M_NO_chordAt Q 2 [some (.inr 1), some (.inl b), some (.inl t), some (.inl (nI k))] [] μ := by
    intro m
    induction m with
    | zero =>
      intro k hk h2
      refine vc_NO_chordAt_2 ?_
      rw [hI.2.2.1]
      refine ⟨fun _ => hn (fun j hj => ?_), fun q => absurd ((n_le (by omega) (by omega)).mpr (by omega)) q⟩
      obtain ⟨r, hr, rfl⟩ := hI.2.1.2.2 j hj
      exact h2 r (by omega)
    | succ m ih =>
      intro k hk h2
      refine vc_NO_chordAt_2 ?_
      have g2 := hI.2.1.1 k (by omega)
      have go : ¬ (S.2 2 (o k) = b ∧ S.2 3 (o k) = t) → AW G d M_NO_chordAt Q 2 [some (.inr 1), some (.inl b), some (.inl t), some (.inl (nI (k + 1)))] [] μ := fun h => ih (k + 1) (by omega) (fun r a => by
        rcases Nat.lt_or_ge r k with h3 | h3
        · exact h2 r h3
        · rw [show r = k by omega]; exact h)
      rw [hI.2.2.1, n_ix (by omega), hI.2.2.2.1 k (by omega), n_ix (by omega), n_p1, hI.at g2 (k := 2) (by omega) rfl, hI.at g2 (k := 3) (by omega) rfl]
      refine ⟨fun q => absurd ((n_le (by omega) (by omega)).mp q) (by omega), fun _ => ⟨n_in (by omega) (by omega), n_in (by omega) (by omega), fun q => go (fun h => q h.1), fun q1 => ⟨n_in (by omega) (by omega), n_in (by omega) (by omega), fun q => go (fun h => q h.2), fun q2 => hq k (by omega) q1 q2 h2⟩⟩⟩
  exact key S.1 0 (by omega) (fun r h => absurd h (Nat.not_lt_zero r))
theorem sp_chordStart (hI : NoI S o μ) {j : Nat} (hj : j < S.1) (hq : ∀ p, p < S.1 → wh S (o p) = wh S j → Beg S o p → Q (nI p) μ) : Ct G (d + 1) M_NO_chordStart [.inr 1, .inl (nI j)] μ Q := by
  have h60 := hI.n60
  have w0 := hI.wt hj
  unfold WT rg at w0
  refine en_NO_chordStart (vc_NO_chordStart_0 ?_)
  rw [n_ix (by omega), hI.at hj (k := 2) (by omega) rfl, hI.at hj (k := 3) (by omega) rfl]
  refine ⟨n_in (by omega) (by omega), n_in (by omega) (by omega), sp_chordAt hI (fun h => absurd ⟨rfl, rfl⟩ (h j hj)) (fun p hp h1 h2 h3 => hq p hp (by unfold wh; rw [h1, h2]) ?_)⟩
  by_cases hp0 : p = 0
  · exact Or.inl hp0
  · right
    intro he
    have w1 := hI.wt (hI.2.1.1 (p - 1) (by omega))
    unfold WT rg at w1
    unfold wh at he
    rw [h1, h2] at he
    exact h3 (p - 1) (by omega) ⟨i_eq.mpr (by omega), i_eq.mpr (by omega)⟩
theorem sp_howManyChords (hI : NoI S o μ) (hq : Q (nI (cntB S o S.1)) μ) : Ct G (d + 2) M_NO_howManyChords [.inr 1] μ Q := by
  have h60 := hI.n60
  refine en_NO_howManyChords (vc_NO_howManyChords_0 ?_)
  have key : ∀ m k, k + m = S.1 → AW G (d + 2) M_NO_howManyChords Q 4 [some (.inr 1), some (.inl (nI (cntB S o k))), some (.inl (nI k))] [] μ := by
    intro m
    induction m with
    | zero =>
      intro k hk
      refine vc_NO_howManyChords_4 ?_
      rw [hI.2.2.1]
      exact ⟨fun _ => by rw [show k = S.1 by omega]; exact hq, fun q => absurd ((n_le (by omega) (by omega)).mpr (by omega)) q⟩
    | succ m ih =>
      intro k hk
      refine vc_NO_howManyChords_4 ?_
      rw [hI.2.2.1, n_p1, n_p1]
      have hi := ih (k + 1) (by omega)
      unfold cntB at hi
      refine ⟨fun q => absurd ((n_le (by omega) (by omega)).mp q) (by omega), fun _ => sp_beginsChord hI (by omega) ⟨fun q => ?_, fun q => ?_⟩⟩
      · rw [if_neg (bi_0.mp q)] at hi; exact hi
      · rw [if_pos (by rcases Decidable.em (Beg S o k) with h | h; exact h; exact absurd (bi_f h) q)] at hi; exact hi
  exact key S.1 0 (by omega)
end
