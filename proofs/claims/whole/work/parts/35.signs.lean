/-! class Signs: what its questions answer while a chord [p, q) is decided -/
noncomputable def bc (P : Prop) : Int32 := cite P 1 0
theorem bc_t {P : Prop} (h : P) : bc P = 1 := cite_t h
theorem bc_f {P : Prop} (h : ¬ P) : bc P = 0 := cite_f h
theorem bc_0 {P : Prop} : bc P = 0 ↔ ¬ P := by
  by_cases h : P
  · rw [bc_t h]; simp [h]
  · rw [bc_f h]; simp [h]
theorem bc_n0 {P : Prop} : ¬ bc P = 0 ↔ P := by rw [bc_0]; exact Classical.not_not
theorem bc_01 {P : Prop} : bc P = 0 ∨ bc P = 1 := by
  by_cases h : P
  · exact Or.inr (bc_t h)
  · exact Or.inl (bc_f h)
theorem q_cf {P : Prop} {Q : Int32 → Mem → Prop} {μ : Mem} (hq : Q (bc P) μ) (h : ¬ P) : Q 0 μ := by rw [bc_f h] at hq; exact hq
theorem q_ct {P : Prop} {Q : Int32 → Mem → Prop} {μ : Mem} (hq : Q (bc P) μ) (h : P) : Q 1 μ := by rw [bc_t h] at hq; exact hq
/-- keys and rules -/
def KrI (S : Sc) (μ : Mem) : Prop := (∀ b, b < 20 → μ 10 b = S.2 8 b) ∧ ∀ k, k < 5 → μ 15 k = S.2 10 k
/-- seats and ties of the notes -/
def StI (S : Sc) (μ : Mem) : Prop := (∀ j, j < S.1 → μ 23 j = nI (seatN S j)) ∧ ∀ j, j < S.1 → μ 24 j = tieF S j
def ChI (S : Sc) (o : Nat → Nat) (p q : Nat) (μ : Mem) : Prop := NoI S o μ ∧ KrI S μ ∧ StI S μ ∧ μ 16 8 = nI p ∧ μ 16 9 = nI q ∧ EndIs S o p q ∧ Beg S o p
def SeI (S : Sc) (o : Nat → Nat) (z z2 : Nat → Int32) (p : Nat) (μ : Mem) : Prop := ∀ s, s < 280 → μ 18 s = LB S o p s ∧ μ 19 s = CS S o z p s ∧ μ 20 s = EB S o p s ∧ μ 21 s = ES S o z z2 p s
theorem tie_n (S : Sc) (j : Nat) : tieF S j = -1 ∨ ∃ m, m < S.1 ∧ tieF S j = nI m := by
  unfold tieF
  split
  · unfold mateF
    cases hb : bestC S j S.1 with
    | none => exact Or.inl rfl
    | some b =>
      dsimp only
      split
      · exact Or.inr ⟨b, ((bestC_spec S j S.1).2 b hb).1, rfl⟩
      · exact Or.inl rfl
  · exact Or.inl rfl
theorem ch_in {S : Sc} {o : Nat → Nat} (hO : Ord S o) {p q i r : Nat} (hE : EndIs S o p q) (hb : Beg S o p) (h1 : p ≤ i) (h2 : i < q) (hr : r < S.1) (he : wh S (o r) = wh S (o i)) : p ≤ r ∧ r < q := by
  have hip := hE.2.2.1 i h1 h2
  constructor
  · rcases Nat.lt_or_ge r p with h | h
    · rcases hb with h3 | h3
      · omega
      · have a1 := wh_mono hO (show r ≤ p - 1 by omega) (show p - 1 < S.1 by have := hE.1; have := hE.2.1; omega)
        have a2 := wh_mono hO (show p - 1 ≤ p by omega) (show p < S.1 by have := hE.1; have := hE.2.1; omega)
        omega
    · exact h
  · rcases Nat.lt_or_ge r q with h | h
    · exact h
    · have hq : q < S.1 := by omega
      have a1 := wh_mono hO h hr
      have a2 := wh_mono hO (show p ≤ q by have := hE.1; omega) hq
      have := hE.2.2.2 hq
      omega
theorem sea_of {S : Sc} {o : Nat → Nat} (hB : Bd S) (hO : Ord S o) {k i : Nat} (hk : k < S.1) (hi : i < S.1) (h : nI (seatN S (o k)) = nI (seatN S (o i))) : sea S o k = sea S o i := by
  have h1 := seat_lt hB (hO.1 k hk)
  have h2 := seat_lt hB (hO.1 i hi)
  show seatN S (o k) = seatN S (o i)
  exact (n_inj (by omega) (by omega)).mp h
section
variable {G : Gp} {d : Nat} {S : Sc} {o : Nat → Nat} {μ : Mem} {Q : Int32 → Mem → Prop} {p q : Nat}
theorem ChI.q60 (h : ChI S o p q μ) : q ≤ S.1 ∧ p < q ∧ S.1 ≤ 60 := ⟨h.2.2.2.2.2.1.2.1, h.2.2.2.2.2.1.1, h.1.n60⟩
theorem ChI.bar_p (h : ChI S o p q μ) {i : Nat} (h1 : p ≤ i) (h2 : i < q) : bar S o i = bar S o p := by
  obtain ⟨a, b, c⟩ := h.q60
  exact wh_bar_eq h.1.1 (h.1.2.1.1 i (by omega)) (h.1.2.1.1 p (by omega)) (h.2.2.2.2.2.1.2.2.1 i h1 h2)
theorem ChI.cs (h : ChI S o p q μ) {i : Nat} (h1 : p ≤ i) (h2 : i < q) : csF S o i = p := cs_at h.2.2.2.2.2.1 h.2.2.2.2.2.2 h1 h2
theorem sp_hasUnlike (hC : ChI S o p q μ) {i : Nat} (h1 : p ≤ i) (h2 : i < q) (hq : Q (bc (unl S o i)) μ) : Ct G d M_SG_hasUnlike [.inr 16, .inl (nI (o i))] μ Q := by
  obtain ⟨c1, c2, c3⟩ := hC.q60
  have hO := hC.1.2.1
  have hoi := hO.1 i (by omega)
  refine en_SG_hasUnlike (vc_SG_hasUnlike_0 ?_)
  intro y hy
  rw [hC.2.2.2.1] at hy
  subst hy
  have key : ∀ m k, k + m = q → p ≤ k → (∀ r, p ≤ r → r < k → ¬ (sea S o r = sea S o i ∧ S.2 1 (o r) ≠ S.2 1 (o i))) → AW G d M_SG_hasUnlike Q 5 [some (.inr 16), some (.inl (nI (o i))), some (.inl (nI k)), none] [] μ := by
    intro m
    induction m with
    | zero =>
      intro k hk hpk hn
      refine vc_SG_hasUnlike_5 ?_
      rw [hC.2.2.2.2.1]
      refine ⟨fun _ => q_cf hq ?_, fun h => absurd ((n_le (by omega) (by omega)).mpr (by omega)) h⟩
      rintro ⟨r, g1, g2, g3, g4⟩
      obtain ⟨e1, e2⟩ := ch_in hO hC.2.2.2.2.2.1 hC.2.2.2.2.2.2 h1 h2 g1 g2
      exact hn r e1 (by omega) ⟨g3, g4⟩
    | succ m ih =>
      intro k hk hpk hn
      have hok := hO.1 k (by omega)
      have e1 : vp_in (nI (o k)) 60 := n_in (by omega) (by omega)
      have e2 : vp_in (nI (o i)) 60 := n_in (by omega) (by omega)
      have go : ¬ (sea S o k = sea S o i ∧ S.2 1 (o k) ≠ S.2 1 (o i)) → AW G d M_SG_hasUnlike Q 5 [some (.inr 16), some (.inl (nI (o i))), some (.inl (nI (k + 1))), none] [] μ := fun h => ih (k + 1) (by omega) (by omega) (fun r a b => by
        rcases Nat.lt_or_ge r k with h3 | h3
        · exact hn r a h3
        · rw [show r = k by omega]; exact h)
      refine vc_SG_hasUnlike_5 ?_
      rw [hC.2.2.2.2.1, n_p1]
      refine ⟨fun h => absurd ((n_le (by omega) (by omega)).mp h) (by omega), fun _ => ⟨n_in (by omega) (by omega), fun y hy => ?_⟩⟩
      rw [n_ix (by omega), hC.1.2.2.2.1 k (by omega)] at hy
      subst hy
      have hs1 := sea_lt hC.1.1 hO (show k < S.1 by omega)
      have hs2 := sea_lt hC.1.1 hO (show i < S.1 by omega)
      rw [n_ix (show o k < 2147483648 by omega), n_ix (show o i < 2147483648 by omega), hC.2.2.1.1 _ hok, hC.2.2.1.1 _ hoi, hC.1.at hok (k := 1) (by omega) rfl, hC.1.at hoi (k := 1) (by omega) rfl]
      refine ⟨e1, e2, fun h => go (fun hc => h (by have := hc.1; unfold sea at this; rw [this])), fun h => ⟨e1, e2, fun h3 => go (fun hc => hc.2 h3), fun h3 => q_ct hq ⟨k, by omega, ?_, sea_of hC.1.1 hO (show k < S.1 by omega) (show i < S.1 by omega) h, h3⟩⟩⟩
      rw [hC.2.2.2.2.2.1.2.2.1 k hpk (by omega), hC.2.2.2.2.2.1.2.2.1 i h1 h2]
  exact key (q - p) p (by omega) (Nat.le_refl _) (fun r a b => absurd a (by omega))
theorem sp_isFirst (hC : ChI S o p q μ) {i : Nat} {x : Int32} (h1 : p ≤ i) (h2 : i < q) (hq : Q (bc (fstP S o (x ≠ 0) i)) μ) : Ct G d M_SG_isFirst [.inr 16, .inl (nI (o i)), .inl x] μ Q := by
  obtain ⟨c1, c2, c3⟩ := hC.q60
  have hO := hC.1.2.1
  have hoi := hO.1 i (by omega)
  refine en_SG_isFirst (vc_SG_isFirst_0 ?_)
  intro y hy
  rw [hC.2.2.2.1] at hy
  subst hy
  have hw : ∀ r, p ≤ r → r < q → wh S (o r) = wh S (o i) := fun r a b => by rw [hC.2.2.2.2.2.1.2.2.1 r a b, hC.2.2.2.2.2.1.2.2.1 i h1 h2]
  have key : ∀ m k, k + m = i → p ≤ k → (∀ r, p ≤ r → r < k → fre S o r → sea S o r = sea S o i → S.2 0 (o r) = S.2 0 (o i) → ¬ (x ≠ 0 → S.2 1 (o r) = S.2 1 (o i))) → AW G d M_SG_isFirst Q 5 [some (.inr 16), some (.inl (nI (o i))), some (.inl x), some (.inl (nI k)), none] [] μ := by
    intro m
    induction m with
    | zero =>
      intro k hk hpk hn
      have hki : k = i := by omega
      subst hki
      refine vc_SG_isFirst_5 ?_
      rw [hC.2.2.2.2.1, n_ix (by omega), hC.1.2.2.2.1 k (by omega)]
      refine ⟨fun h => absurd ((n_le (by omega) (by omega)).mp h) (by omega), fun _ => ⟨n_in (by omega) (by omega), fun _ => q_ct hq ?_, fun h => absurd rfl h⟩⟩
      intro r g1 g2 g3 g4 g5
      obtain ⟨e1, e2⟩ := ch_in hO hC.2.2.2.2.2.1 hC.2.2.2.2.2.2 h1 h2 (show r < S.1 by omega) g2
      exact hn r e1 g1 g3 g4 g5
    | succ m ih =>
      intro k hk hpk hn
      have hok := hO.1 k (by omega)
      have e1 : vp_in (nI (o k)) 60 := n_in (by omega) (by omega)
      have e2 : vp_in (nI (o i)) 60 := n_in (by omega) (by omega)
      have hs1 := sea_lt hC.1.1 hO (show k < S.1 by omega)
      have hs2 := sea_lt hC.1.1 hO (show i < S.1 by omega)
      have go : (fre S o k → sea S o k = sea S o i → S.2 0 (o k) = S.2 0 (o i) → ¬ (x ≠ 0 → S.2 1 (o k) = S.2 1 (o i))) → AW G d M_SG_isFirst Q 5 [some (.inr 16), some (.inl (nI (o i))), some (.inl x), some (.inl (nI (k + 1))), none] [] μ := fun h => ih (k + 1) (by omega) (by omega) (fun r a b => by
        rcases Nat.lt_or_ge r k with h3 | h3
        · exact hn r a h3
        · rw [show r = k by omega]; exact h)
      refine vc_SG_isFirst_5 ?_
      rw [hC.2.2.2.2.1, n_p1, n_ix (by omega), hC.1.2.2.2.1 k (by omega)]
      refine ⟨fun h => absurd ((n_le (by omega) (by omega)).mp h) (by omega), fun _ => ⟨n_in (by omega) (by omega), fun h => absurd (hO.inj (by omega) (by omega) ((n_inj (by omega) (by omega)).mp h)) (by omega), fun _ => ⟨n_in (by omega) (by omega), fun y hy => ?_⟩⟩⟩
      subst hy
      rw [n_ix (show o k < 2147483648 by omega), n_ix (show o i < 2147483648 by omega), hC.2.2.1.1 _ hok, hC.2.2.1.1 _ hoi, hC.2.2.1.2 _ hok, hC.1.at hok (k := 1) (by omega) rfl, hC.1.at hoi (k := 1) (by omega) rfl, hC.1.at hok (k := 0) (by omega) rfl, hC.1.at hoi (k := 0) (by omega) rfl]
      refine ⟨e1, fun h => go (fun hf => absurd hf h), fun hf => ⟨e1, e2, fun h => go (fun _ hs => absurd (by unfold sea at hs; rw [hs]) h), fun hs => ⟨e1, e2, fun h => go (fun _ _ ht => absurd ht h), fun ht => ⟨fun hx => q_cf hq ?_, fun hx => ⟨e1, e2, fun h => go (fun _ _ _ hc => h (hc hx)), fun ha => q_cf hq ?_⟩⟩⟩⟩⟩
      · intro hall
        exact hall k (by omega) (hw k hpk (by omega)) hf (sea_of hC.1.1 hO (show k < S.1 by omega) (show i < S.1 by omega) hs) ht (fun h => absurd hx h)
      · intro hall
        exact hall k (by omega) (hw k hpk (by omega)) hf (sea_of hC.1.1 hO (show k < S.1 by omega) (show i < S.1 by omega) hs) ht (fun _ => ha)
  exact key (i - p) p (by omega) (Nat.le_refl _) (fun r a b => absurd a (by omega))
theorem sp_kA (hC : ChI S o p q μ) {b i : Nat} (hb : b < 20) (hi : i < S.1) (hq : Q (kA S b (sea S o i)) μ) : Ct G (d + 1) M_SG_alterByKey [.inr 16, .inl (nI b), .inl (S.2 0 (o i))] μ Q := by
  have hoi := hC.1.2.1.1 i hi
  obtain ⟨e1, e2⟩ := st_n hC.1.1 hoi
  rw [e1]
  refine sp_alterByKey hC.2.1.1 hb e2 ?_
  unfold kA sea at hq
  rw [seat_let hC.1.1 hoi] at hq
  exact hq
theorem sp_stateAhead (hC : ChI S o p q μ) {z z2 : Nat → Int32} (hS : SeI S o z z2 p μ) {i : Nat} (h1 : p ≤ i) (h2 : i < q) (hq : Q (STT S o (bar S o i) p (sea S o i)) μ) : Ct G (d + 2) M_SG_stateAhead [.inr 16, .inl (nI (o i))] μ Q := by
  obtain ⟨c1, c2, c3⟩ := hC.q60
  have hO := hC.1.2.1
  have hoi := hO.1 i (by omega)
  have e1 : vp_in (nI (o i)) 60 := n_in (by omega) (by omega)
  have hbl := bar_lt hC.1.1 hO (show i < S.1 by omega)
  have hsl := sea_lt hC.1.1 hO (show i < S.1 by omega)
  refine en_SG_stateAhead (vc_SG_stateAhead_0 ⟨e1, fun y hy => ?_⟩)
  rw [n_ix (by omega), hC.1.at hoi (k := 2) (by omega) rfl, bar_eq hC.1.1 hO (by omega)] at hy
  subst hy
  rw [n_ix (by omega), hC.1.at hoi (k := 0) (by omega) rfl, hC.2.2.1.1 _ hoi]
  refine ⟨e1, e1, sp_kA hC hbl (by omega) (sp_stateIn hsl ?_)⟩
  obtain ⟨s1, s2, -⟩ := hS (sea S o i) hsl
  show Q (if μ 18 (sea S o i) = nI (bar S o i) then μ 19 (sea S o i) else _) μ
  rw [s1, s2, st_ahead hC.1.1 hO (by omega) hbl (fun r hr => by rw [hC.bar_p h1 h2]; exact bar_mono hC.1.1 hO (by omega) (by omega))]
  exact hq
theorem sp_needsSign (hC : ChI S o p q μ) {i : Nat} {x : Int32} (h1 : p ≤ i) (h2 : i < q) (hq : Q (bc ((unl S o i ∧ fstP S o True i) ∨ (¬ unl S o i ∧ x ≠ S.2 1 (o i) ∧ fstP S o False i))) μ) : Ct G (d + 1) M_SG_needsSign [.inr 16, .inl (nI (o i)), .inl x] μ Q := by
  obtain ⟨c1, c2, c3⟩ := hC.q60
  have hoi := hC.1.2.1.1 i (by omega)
  have e1 : vp_in (nI (o i)) 60 := n_in (by omega) (by omega)
  have eT : ((1 : Int32) ≠ 0) = True := by simp
  have eF : ((0 : Int32) ≠ 0) = False := by simp
  refine en_SG_needsSign (vc_SG_needsSign_0 (sp_hasUnlike hC h1 h2 ?_))
  rw [n_ix (by omega), hC.1.at hoi (k := 1) (by omega) rfl, bc_0]
  refine ⟨fun hu => ⟨e1, fun hx => q_cf hq ?_, fun hx => sp_isFirst hC h1 h2 ⟨fun hf => q_cf hq ?_, fun hf => q_ct hq ?_⟩⟩, fun hu => sp_isFirst hC h1 h2 ⟨bc_01, ?_⟩⟩
  · rintro (h | h)
    · exact hu h.1
    · exact h.2.1 hx
  · rw [eF, bc_0] at hf
    rintro (h | h)
    · exact hu h.1
    · exact hf h.2.2
  · rw [eF] at hf
    exact Or.inr ⟨hu, hx, bc_n0.mp hf⟩
  · rw [eT]
    by_cases hf : fstP S o True i
    · rw [bc_t hf]; exact q_ct hq (Or.inl ⟨Classical.not_not.mp hu, hf⟩)
    · rw [bc_f hf]; exact q_cf hq (by rintro (h | h); exact hf h.2; exact hu h.1)
theorem sp_wantsNatural (hC : KrI S μ) {a x : Int32} (hq : Q (bc (S.2 10 3 = 1 ∧ (a = 2 ∨ a = -2) ∧ x = 2 * a)) μ) : Ct G d M_SG_wantsNatural [.inr 16, .inl a, .inl x] μ Q := by
  have i3 : ix (3 : Int32) = 3 := rfl
  refine en_SG_wantsNatural (vc_SG_wantsNatural_0 ?_)
  rw [i3, hC.2 3 (by omega)]
  refine ⟨n_in (k := 3) (by omega) (by omega), fun h => q_cf hq (fun hc => h hc.1), fun h => ⟨fun ha => ⟨fun hx => q_cf hq (fun hc => hx hc.2.2), fun hx => q_ct hq ⟨h, Or.inl ha, hx⟩⟩, fun ha => ⟨fun hb => q_cf hq (fun hc => hc.2.1.elim ha hb), fun hb => ⟨fun hx => q_cf hq (fun hc => hx hc.2.2), fun hx => q_ct hq ⟨h, Or.inr hb, hx⟩⟩⟩⟩⟩
theorem sp_wasOtherInLastBar (hC : ChI S o p q μ) {z z2 : Nat → Int32} (hS : SeI S o z z2 p μ) {i : Nat} (h1 : p ≤ i) (h2 : i < q) (hq : Q (bc (cb1 S o i)) μ) : Ct G (d + 2) M_SG_wasOtherInLastBar [.inr 16, .inl (nI (o i))] μ Q := by
  obtain ⟨c1, c2, c3⟩ := hC.q60
  have hO := hC.1.2.1
  have hoi := hO.1 i (by omega)
  have e1 : vp_in (nI (o i)) 60 := n_in (by omega) (by omega)
  have hbl := bar_lt hC.1.1 hO (show i < S.1 by omega)
  have hsl := sea_lt hC.1.1 hO (show i < S.1 by omega)
  refine en_SG_wasOtherInLastBar (vc_SG_wasOtherInLastBar_0 ⟨e1, fun y hy => ?_⟩)
  rw [n_ix (by omega), hC.1.at hoi (k := 2) (by omega) rfl, bar_eq hC.1.1 hO (by omega)] at hy
  subst hy
  rw [n_ix (by omega), hC.1.at hoi (k := 0) (by omega) rfl]
  refine ⟨fun h0 => ⟨e1, ?_⟩, fun h0 => q_cf hq (fun hc => hc.1 ((n_inj (b := 0) (by omega) (by omega)).mp h0))⟩
  have hb0 : bar S o i ≠ 0 := fun h => h0 (by rw [h]; rfl)
  obtain ⟨b, hb⟩ : ∃ b, bar S o i = b + 1 := ⟨bar S o i - 1, by omega⟩
  unfold cb1 at hq
  rw [hb] at hq
  rw [hb] at hbl ⊢
  rw [n_s1]
  obtain ⟨s1, s2, s3, s4⟩ := hS (sea S o i) hsl
  have hge : ∀ r, p ≤ r → r < S.1 → b < bar S o r := fun r a b' => by
    have := bar_mono hC.1.1 hO a b'
    have := hC.bar_p h1 h2
    omega
  have hle : ∀ r, r < p → bar S o r ≤ b + 1 := fun r hr => by
    have := bar_mono hC.1.1 hO (show r ≤ p by omega) (show p < S.1 by omega)
    have := hC.bar_p h1 h2
    omega
  have hv := st_before hC.1.1 hO (z := z) (z2 := z2) (s := sea S o i) (show p ≤ S.1 by omega) hbl hle hge
  rw [← s1, ← s2, ← s3, ← s4] at hv
  refine sp_kA hC (by omega) (by omega) ⟨e1, ?_⟩
  rw [hC.2.2.1.1 _ hoi]
  refine sp_stateBefore (s := sea S o i) hsl ?_
  rw [n_s1, hv, hC.1.at hoi (k := 1) (by omega) rfl]
  rw [Nat.add_sub_cancel] at hq
  exact ⟨e1, fun h => q_cf hq (fun hc => hc.2 h), fun h => q_ct hq ⟨by omega, h⟩⟩
theorem sp_wasOtherByKey (hC : ChI S o p q μ) {i : Nat} (h1 : p ≤ i) (h2 : i < q) (hq : Q (bc (cb4 S o i)) μ) : Ct G (d + 2) M_SG_wasOtherByKey [.inr 16, .inl (nI (o i))] μ Q := by
  obtain ⟨c1, c2, c3⟩ := hC.q60
  have hO := hC.1.2.1
  have hoi := hO.1 i (by omega)
  have e1 : vp_in (nI (o i)) 60 := n_in (by omega) (by omega)
  have hbl := bar_lt hC.1.1 hO (show i < S.1 by omega)
  refine en_SG_wasOtherByKey (vc_SG_wasOtherByKey_0 ⟨e1, fun y hy => ⟨e1, fun y2 hy2 => ?_⟩⟩)
  rw [n_ix (by omega), hC.1.at hoi (k := 2) (by omega) rfl, bar_eq hC.1.1 hO (by omega)] at hy
  rw [n_ix (by omega), hC.1.at hoi (k := 0) (by omega) rfl] at hy2
  subst hy hy2
  refine ⟨fun h0 => q_cf hq (fun hc => hc.1 ?_), fun h0 => ?_⟩
  · rw [i_le, n_i (by omega), Int32.toInt_zero] at h0; omega
  · have hb0 : bar S o i ≠ 0 := fun h => h0 (by rw [h]; decide)
    obtain ⟨b, hb⟩ : ∃ b, bar S o i = b + 1 := ⟨bar S o i - 1, by omega⟩
    unfold cb4 at hq
    rw [hb] at hq hbl ⊢
    rw [n_s1]
    rw [Nat.add_sub_cancel] at hq
    exact sp_kA hC (by omega) (by omega) (sp_kA hC hbl (by omega) ⟨fun h => q_cf hq (fun hc => hc.2 h), fun h => q_ct hq ⟨by omega, h⟩⟩)
theorem sp_wasOtherByTie (hC : ChI S o p q μ) {i : Nat} (h1 : p ≤ i) (h2 : i < q) (hq : Q (bc (cb3 S o i)) μ) : Ct G d M_SG_wasOtherByTie [.inr 16, .inl (nI (o i))] μ Q := by
  obtain ⟨c1, c2, c3⟩ := hC.q60
  have hO := hC.1.2.1
  have hoi := hO.1 i (by omega)
  have e2 : vp_in (nI (o i)) 60 := n_in (by omega) (by omega)
  have hbl := bar_lt hC.1.1 hO (show i < S.1 by omega)
  have hcs := hC.cs h1 h2
  refine en_SG_wasOtherByTie (vc_SG_wasOtherByTie_0 ⟨e2, fun y hy => ?_⟩)
  rw [n_ix (by omega), hC.1.at hoi (k := 2) (by omega) rfl] at hy
  subst hy
  have key : ∀ m k, k + m = p → (∀ r, r < k → ¬ (bar S o r = bar S o i ∧ sea S o r = sea S o i ∧ ¬ fre S o r ∧ S.2 2 (ix (tieF S (o r))) < S.2 2 (o i) ∧ S.2 1 (o r) ≠ S.2 1 (o i))) → AW G d M_SG_wasOtherByTie Q 12 [some (.inr 16), some (.inl (nI (o i))), some (.inl (S.2 2 (o i))), some (.inl (nI k)), none] [] μ := by
    intro m
    induction m with
    | zero =>
      intro k hk hn
      refine vc_SG_wasOtherByTie_12 ?_
      rw [hC.2.2.2.1]
      refine ⟨fun _ => q_cf hq ?_, fun h => absurd ((n_le (by omega) (by omega)).mpr (by omega)) h⟩
      rintro ⟨r, g1, g2⟩
      rw [hcs] at g1
      exact hn r (by omega) g2
    | succ m ih =>
      intro k hk hn
      have hok := hO.1 k (by omega)
      have e1 : vp_in (nI (o k)) 60 := n_in (by omega) (by omega)
      have hbk := bar_lt hC.1.1 hO (show k < S.1 by omega)
      have go : ¬ (bar S o k = bar S o i ∧ sea S o k = sea S o i ∧ ¬ fre S o k ∧ S.2 2 (ix (tieF S (o k))) < S.2 2 (o i) ∧ S.2 1 (o k) ≠ S.2 1 (o i)) → AW G d M_SG_wasOtherByTie Q 12 [some (.inr 16), some (.inl (nI (o i))), some (.inl (S.2 2 (o i))), some (.inl (nI (k + 1))), none] [] μ := fun h => ih (k + 1) (by omega) (fun r a => by
        rcases Nat.lt_or_ge r k with h3 | h3
        · exact hn r h3
        · rw [show r = k by omega]; exact h)
      refine vc_SG_wasOtherByTie_12 ?_
      rw [hC.2.2.2.1, n_p1]
      refine ⟨fun h => absurd ((n_le (by omega) (by omega)).mp h) (by omega), fun _ => ⟨n_in (by omega) (by omega), fun y hy => ?_⟩⟩
      rw [n_ix (by omega), hC.1.2.2.2.1 k (by omega)] at hy
      subst hy
      rw [n_ix (show o k < 2147483648 by omega), n_ix (show o i < 2147483648 by omega), hC.2.2.1.1 _ hok, hC.2.2.1.1 _ hoi, hC.2.2.1.2 _ hok, hC.1.at hok (k := 1) (by omega) rfl, hC.1.at hoi (k := 1) (by omega) rfl, hC.1.at hok (k := 2) (by omega) rfl]
      refine ⟨e1, fun h => go (fun hc => h (by rw [bar_eq hC.1.1 hO (by omega), bar_eq hC.1.1 hO (show i < S.1 by omega), hc.1])), fun hb => ⟨e1, e2, fun h => go (fun hc => h (by have := hc.2.1; unfold sea at this; rw [this])), fun hs => ⟨e1, fun h => go (fun hc => hc.2.2.1 h), fun hf => ?_⟩⟩⟩
      obtain ⟨t, ht1, ht2⟩ := (tie_n S (o k)).resolve_left hf
      have hbb : bar S o k = bar S o i := by
        rw [bar_eq hC.1.1 hO (by omega), bar_eq hC.1.1 hO (show i < S.1 by omega)] at hb
        exact (n_inj (by omega) (by omega)).mp hb
      have hit : ix (tieF S (o k)) = t := by rw [ht2]; exact n_ix (by omega)
      rw [hit] at go ⊢
      rw [hC.1.at ht1 (k := 2) (by omega) rfl]
      refine ⟨e1, by rw [ht2]; exact n_in (by omega) (by omega), fun h => go (fun hc => ?_), fun h => ⟨e1, e2, fun ha => go (fun hc => hc.2.2.2.2 ha), fun ha => q_ct hq ⟨k, by rw [hcs]; omega, hbb, sea_of hC.1.1 hO (by omega) (by omega) hs, hf, ?_, ha⟩⟩⟩
      · have h3 := hc.2.2.2.1
        rw [i_lt] at h3; rw [i_le] at h; omega
      · rw [hit, i_lt]; rw [i_le] at h; omega
  exact key p 0 (by omega) (fun r h => absurd h (Nat.not_lt_zero r))
theorem sp_isOtherInOctave (hC : ChI S o p q μ) {z z2 : Nat → Int32} (hS : SeI S o z z2 p μ) {i : Nat} (h1 : p ≤ i) (h2 : i < q) (hq : Q (bc (cb2 S o i)) μ) : Ct G (d + 2) M_SG_isOtherInOctave [.inr 16, .inl (nI (o i))] μ Q := by
  obtain ⟨c1, c2, c3⟩ := hC.q60
  have hO := hC.1.2.1
  have hoi := hO.1 i (by omega)
  have e1 : vp_in (nI (o i)) 60 := n_in (by omega) (by omega)
  have hbl := bar_lt hC.1.1 hO (show i < S.1 by omega)
  have hsl := sea_lt hC.1.1 hO (show i < S.1 by omega)
  have hcs := hC.cs h1 h2
  obtain ⟨t1, t2⟩ := st_n hC.1.1 hoi
  obtain ⟨v1, v2⟩ := vo_n hC.1.1 hoi
  have i0 : ix (0 : Int32) = 0 := rfl
  refine en_SG_isOtherInOctave (vc_SG_isOtherInOctave_0 ?_)
  rw [i0, hC.2.1.2 0 (by omega)]
  refine ⟨n_in (k := 0) (by omega) (by omega), fun h0 => ⟨e1, fun y1 hy1 => ⟨e1, fun y2 hy2 => ?_⟩⟩, fun h0 => q_cf hq (fun hc => h0 hc.1)⟩
  rw [n_ix (by omega), hC.1.at hoi (k := 2) (by omega) rfl, bar_eq hC.1.1 hO (by omega)] at hy1
  rw [n_ix (by omega), hC.1.at hoi (k := 0) (by omega) rfl, t1, show (7 : Int32) = nI 7 from rfl, n_rem (by omega) (by omega) (by omega)] at hy2
  subst hy1 hy2
  have hse : sea S o i = stN S (o i) * 4 + (if S.2 10 1 = 0 then 0 else voN S (o i)) := by unfold sea seatN seF; rw [if_pos h0]
  have hseF : ∀ k, seF S k (voN S (o i)) = k * 4 + (if S.2 10 1 = 0 then 0 else voN S (o i)) := fun k => by unfold seF; rw [if_pos h0]
  have hvv : (if S.2 10 1 = 0 then 0 else voN S (o i)) < 4 := by split <;> omega
  generalize hvd : (if S.2 10 1 = 0 then 0 else voN S (o i)) = vv at hse hseF hvv
  have hle : ∀ r, r < p → bar S o r ≤ bar S o i := fun r hr => by rw [hC.bar_p h1 h2]; exact bar_mono hC.1.1 hO (by omega) (by omega)
  have key : ∀ m k, stN S (o i) % 7 + 7 * k + 7 * m = stN S (o i) % 7 + 70 → (∀ k', k' < k → ¬ ((stN S (o i) % 7 + 7 * k') * 4 + vv < 280 ∧ (stN S (o i) % 7 + 7 * k') * 4 + vv ≠ sea S o i ∧ hadP S o (bar S o i) p ((stN S (o i) % 7 + 7 * k') * 4 + vv) ∧ STT S o (bar S o i) p ((stN S (o i) % 7 + 7 * k') * 4 + vv) ≠ S.2 1 (o i))) → AW G (d + 2) M_SG_isOtherInOctave Q 34 [some (.inr 16), some (.inl (nI (o i))), some (.inl (nI (bar S o i))), some (.inl (nI (stN S (o i) % 7 + 7 * k))), none] [] μ := by
    intro m
    induction m with
    | zero =>
      intro k hk hn
      refine vc_SG_isOtherInOctave_34 ⟨fun _ => q_cf hq ?_, fun h => absurd ((n_le (a := 70) (by omega) (by omega)).mpr (by omega)) h⟩
      rintro ⟨-, t, g1, g2, g3, g4, g5⟩
      rw [hcs] at g4 g5
      have ht : ∃ k', k' < k ∧ t = (stN S (o i) % 7 + 7 * k') * 4 + vv := ⟨(t - t % 28) / 28, by omega, by omega⟩
      obtain ⟨k', hk', rfl⟩ := ht
      exact hn k' hk' ⟨g1, g3, g4, g5⟩
    | succ m ih =>
      intro k hk hn
      have hk70 : stN S (o i) % 7 + 7 * k < 70 := by omega
      have hsk : seF S (stN S (o i) % 7 + 7 * k) (voN S (o i)) < 280 := seF_lt hk70 v2
      have go : ¬ ((stN S (o i) % 7 + 7 * k) * 4 + vv < 280 ∧ (stN S (o i) % 7 + 7 * k) * 4 + vv ≠ sea S o i ∧ hadP S o (bar S o i) p ((stN S (o i) % 7 + 7 * k) * 4 + vv) ∧ STT S o (bar S o i) p ((stN S (o i) % 7 + 7 * k) * 4 + vv) ≠ S.2 1 (o i)) → AW G (d + 2) M_SG_isOtherInOctave Q 34 [some (.inr 16), some (.inl (nI (o i))), some (.inl (nI (bar S o i))), some (.inl (nI (stN S (o i) % 7 + 7 * k) + 7)), none] [] μ := fun h => by
        rw [show (7 : Int32) = nI 7 from rfl, nI_add, show stN S (o i) % 7 + 7 * k + 7 = stN S (o i) % 7 + 7 * (k + 1) by omega]
        exact ih (k + 1) (by omega) (fun r a => by
          rcases Nat.lt_or_ge r k with h3 | h3
          · exact hn r h3
          · rw [show r = k by omega]; exact h)
      rw [← hseF] at go
      refine vc_SG_isOtherInOctave_34 ⟨fun h => absurd ((n_le (a := 70) (by omega) (by omega)).mp h) (by omega), fun _ => ⟨e1, ?_⟩⟩
      rw [n_ix (show o i < 2147483648 by omega), hC.1.at hoi (k := 4) (by omega) rfl, v1]
      refine sp_seatFor hC.2.1.2 hk70 v2 ⟨e1, ?_⟩
      rw [hC.2.2.1.1 _ hoi]
      obtain ⟨s1, s2, -, -⟩ := hS _ hsk
      have hLB := LB_iff hC.1.1 hO (s := seF S (stN S (o i) % 7 + 7 * k) (voN S (o i))) (show p ≤ S.1 by omega) hbl hle
      refine ⟨fun h => go (fun hc => hc.2.1 ((n_inj (by omega) (by unfold sea at hsl; omega)).mp h)), fun h => sp_isEntered hsk ?_⟩
      rw [bi_0, s1]
      refine ⟨fun he => go (fun hc => he (hLB.mpr hc.2.2.1)), fun he => sp_stateIn hsk ⟨e1, ?_⟩⟩
      have he : LB S o p (seF S (stN S (o i) % 7 + 7 * k) (voN S (o i))) = nI (bar S o i) := Decidable.not_not.mp he
      rw [s1, s2, if_pos he, CS_eq hC.1.1 hO _ p (by omega) _ hbl he, hC.1.at hoi (k := 1) (by omega) rfl]
      refine ⟨fun h3 => go (fun hc => hc.2.2.2 h3), fun h3 => q_ct hq ⟨h0, _, hsk, ?_, fun h4 => h (by rw [h4]; rfl), by rw [hcs]; exact hLB.mp he, by rw [hcs]; exact h3⟩⟩
      rw [hseF, hse]; omega
  exact key 10 0 (by omega) (fun k' h => absurd h (Nat.not_lt_zero k'))
theorem sp_isCourtesy (hC : ChI S o p q μ) {z z2 : Nat → Int32} (hS : SeI S o z z2 p μ) {i : Nat} (h1 : p ≤ i) (h2 : i < q) (hcb : ∀ s, s < 280 → μ 22 s = CB S o i s) (hq : Q (bc ((¬ ∃ r, r < i ∧ bar S o r = bar S o i ∧ sea S o r = sea S o i ∧ crt S o r) ∧ fstP S o False i ∧ bts S o i)) μ) : Ct G (d + 3) M_SG_isCourtesy [.inr 16, .inl (nI (o i))] μ Q := by
  obtain ⟨c1, c2, c3⟩ := hC.q60
  have hO := hC.1.2.1
  have hoi := hO.1 i (by omega)
  have e1 : vp_in (nI (o i)) 60 := n_in (by omega) (by omega)
  have hbl := bar_lt hC.1.1 hO (show i < S.1 by omega)
  have hsl := sea_lt hC.1.1 hO (show i < S.1 by omega)
  have i2 : ix (2 : Int32) = 2 := rfl
  have eF : ((0 : Int32) ≠ 0) = False := by simp
  have hle : ∀ r, r < i → bar S o r ≤ bar S o i := fun r hr => bar_mono hC.1.1 hO (by omega) (by omega)
  have hCB := CB_iff hC.1.1 hO (s := sea S o i) (show i ≤ S.1 by omega) hbl hle
  refine en_SG_isCourtesy (vc_SG_isCourtesy_0 ⟨e1, e1, ?_⟩)
  rw [n_ix (by omega), hC.2.2.1.1 _ hoi, hC.1.at hoi (k := 2) (by omega) rfl, bar_eq hC.1.1 hO (by omega)]
  refine sp_hasCourtesy (s := sea S o i) hsl ?_
  rw [hcb _ hsl, bi_0, Decidable.not_not]
  refine ⟨fun h => q_cf hq (fun hc => hc.1 (hCB.mp h)), fun h => sp_isFirst hC h1 h2 ?_⟩
  rw [eF, bc_0]
  refine ⟨fun hf => ⟨n_in (k := 2) (by omega) (by omega), fun y hy => ?_⟩, fun hf => q_cf hq (fun hc => hf hc.2.1)⟩
  rw [i2, hC.2.1.2 2 (by omega)] at hy
  subst hy
  have hf : fstP S o False i := Classical.not_not.mp hf
  have hno : ¬ ∃ r, r < i ∧ bar S o r = bar S o i ∧ sea S o r = sea S o i ∧ crt S o r := fun hc => h (hCB.mpr hc)
  have yes : bts S o i → Q 1 μ := fun hb => q_ct hq ⟨hno, hf, hb⟩
  have no : ¬ bts S o i → Q 0 μ := fun hb => q_cf hq (fun hc => hb hc.2.2)
  have rest : ¬ (S.2 10 2 &&& 1 ≠ 0 ∧ cb1 S o i) → AW G (d + 3) M_SG_isCourtesy Q 57 [some (.inr 16), some (.inl (nI (o i))), some (.inl (S.2 10 2))] [] μ := by
    intro n1
    have last : ¬ (S.2 10 2 &&& 2 ≠ 0 ∧ cb2 S o i) → ¬ (S.2 10 2 &&& 4 ≠ 0 ∧ cb3 S o i) → ((S.2 10 2 &&& 8 = 0 → Q 0 μ) ∧ (¬ S.2 10 2 &&& 8 = 0 → Ct G (d + 2) M_SG_wasOtherByKey [.inr 16, .inl (nI (o i))] μ (fun r2 u1 => (r2 = 0 → Q 0 u1) ∧ (¬ r2 = 0 → Q 1 u1)))) := by
      intro n2 n3
      refine ⟨fun h8 => no ?_, fun h8 => sp_wasOtherByKey hC h1 h2 ?_⟩
      · rintro (hh | hh | hh | hh)
        · exact n1 hh
        · exact n2 hh
        · exact n3 hh
        · exact hh.1 h8
      · rw [bc_0]
        refine ⟨fun h4 => no ?_, fun h4 => yes (Or.inr (Or.inr (Or.inr ⟨h8, Classical.not_not.mp h4⟩)))⟩
        rintro (hh | hh | hh | hh)
        · exact n1 hh
        · exact n2 hh
        · exact n3 hh
        · exact h4 hh.2
    have mid : ¬ (S.2 10 2 &&& 2 ≠ 0 ∧ cb2 S o i) → ((S.2 10 2 &&& 4 = 0 → ((S.2 10 2 &&& 8 = 0 → Q 0 μ) ∧ (¬ S.2 10 2 &&& 8 = 0 → Ct G (d + 2) M_SG_wasOtherByKey [.inr 16, .inl (nI (o i))] μ (fun r2 u1 => (r2 = 0 → Q 0 u1) ∧ (¬ r2 = 0 → Q 1 u1))))) ∧ (¬ S.2 10 2 &&& 4 = 0 → Ct G (d + 2) M_SG_wasOtherByTie [.inr 16, .inl (nI (o i))] μ (fun r4 u3 => (¬ r4 = 0 → Q 1 u3) ∧ (r4 = 0 → (S.2 10 2 &&& 8 = 0 → Q 0 u3) ∧ (¬ S.2 10 2 &&& 8 = 0 → Ct G (d + 2) M_SG_wasOtherByKey [.inr 16, .inl (nI (o i))] u3 (fun r6 u5 => (r6 = 0 → Q 0 u5) ∧ (¬ r6 = 0 → Q 1 u5))))))) := by
      intro n2
      refine ⟨fun h4 => last n2 (fun hh => hh.1 h4), fun h4 => sp_wasOtherByTie hC h1 h2 ?_⟩
      rw [bc_0]
      exact ⟨fun h5 => yes (Or.inr (Or.inr (Or.inl ⟨h4, Classical.not_not.mp h5⟩))), fun h5 => last n2 (fun hh => h5 hh.2)⟩
    refine vc_SG_isCourtesy_57 ⟨fun h4 => mid (fun hh => hh.1 h4), fun h4 => sp_isOtherInOctave hC hS h1 h2 ?_⟩
    rw [bc_0]
    exact ⟨fun h5 => yes (Or.inr (Or.inl ⟨h4, Classical.not_not.mp h5⟩)), fun h5 => mid (fun hh => h5 hh.2)⟩
  refine ⟨fun h4 => rest (fun hh => hh.1 h4), fun h4 => sp_wasOtherInLastBar hC hS h1 h2 ?_⟩
  rw [bc_0]
  exact ⟨fun h5 => yes (Or.inl ⟨h4, Classical.not_not.mp h5⟩), fun h5 => rest (fun hh => h5 hh.2)⟩
end
