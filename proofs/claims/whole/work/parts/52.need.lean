/-! the reference: which notes need a sign -/
def CR (S : Sc) (o : Nat → Nat) (K KT : Nat → Int32) (p q : Nat) (μ : Mem) : Prop := RS S o K KT μ ∧ EndIs S o p q ∧ Beg S o p
def unK (S : Sc) (o : Nat → Nat) (i p k : Nat) : Prop := ∃ r, p ≤ r ∧ r < k ∧ sea S o r = sea S o i ∧ S.2 1 (o r) ≠ S.2 1 (o i)
def fsK (S : Sc) (o : Nat → Nat) (i p k : Nat) : Prop := ∀ r, p ≤ r → r < k → r < i → fre S o r → sea S o r = sea S o i → S.2 0 (o r) = S.2 0 (o i) → S.2 1 (o r) ≠ S.2 1 (o i)
section
variable {G : Gp} {d : Nat} {S : Sc} {o : Nat → Nat} {K KT : Nat → Int32} {μ : Mem} {Q : Int32 → Mem → Prop} {p q : Nat}
theorem tie_ge {j : Nat} (h60 : S.1 ≤ 60) : (0 : Int32) ≤ tieF S j ↔ ¬ tieF S j = -1 := by
  rcases tie_n S j with h | ⟨m, hm, h⟩
  · rw [h]; decide
  · rw [h, i_le, n_i (by omega), Int32.toInt_zero]
    exact ⟨fun _ => n_ne1 (by omega), fun _ => by omega⟩
theorem tie_lt {j : Nat} (h60 : S.1 ≤ 60) : tieF S j < (0 : Int32) ↔ tieF S j = -1 := by
  rcases tie_n S j with h | ⟨m, hm, h⟩
  · rw [h]; decide
  · rw [h, i_lt, n_i (by omega), Int32.toInt_zero]
    exact ⟨fun _ => by omega, fun e => absurd e (n_ne1 (by omega))⟩
theorem unK_s {i k : Nat} (h : p ≤ k) : unK S o i p (k + 1) ↔ unK S o i p k ∨ (sea S o k = sea S o i ∧ S.2 1 (o k) ≠ S.2 1 (o i)) := by
  constructor
  · rintro ⟨r, h1, h2, h3⟩
    rcases Nat.lt_or_ge r k with h4 | h4
    · exact Or.inl ⟨r, h1, h4, h3⟩
    · rw [show r = k by omega] at h3; exact Or.inr h3
  · rintro (⟨r, h1, h2, h3⟩ | h3)
    · exact ⟨r, h1, by omega, h3⟩
    · exact ⟨k, h, by omega, h3⟩
theorem fsK_s {i k : Nat} (h : p ≤ k) : fsK S o i p (k + 1) ↔ fsK S o i p k ∧ ¬ (k < i ∧ fre S o k ∧ sea S o k = sea S o i ∧ S.2 0 (o k) = S.2 0 (o i) ∧ S.2 1 (o k) = S.2 1 (o i)) := by
  constructor
  · intro h0
    exact ⟨fun r h1 h2 => h0 r h1 (by omega), fun ⟨a, b, c, e, f⟩ => h0 k h (by omega) a b c e f⟩
  · rintro ⟨h0, h3⟩ r h1 h2 h4 h5 h6 h7 h8
    rcases Nat.lt_or_ge r k with h9 | h9
    · exact h0 r h1 h9 h4 h5 h6 h7 h8
    · rw [show r = k by omega] at h4 h5 h6 h7 h8; exact h3 ⟨h4, h5, h6, h7, h8⟩
theorem CR.q60 (h : CR S o K KT p q μ) : q ≤ S.1 ∧ p < q ∧ S.1 ≤ 60 := ⟨h.2.1.2.1, h.2.1.1, h.1.1.n60⟩
theorem CR.bd (h : CR S o K KT p q μ) : Bd S := h.1.1.1
theorem CR.ord (h : CR S o K KT p q μ) : Ord S o := h.1.2.2.1
theorem CR.cs (h : CR S o K KT p q μ) {i : Nat} (h1 : p ≤ i) (h2 : i < q) : csF S o i = p := cs_at h.2.1 h.2.2 h1 h2
theorem CR.wq (h : CR S o K KT p q μ) {i r : Nat} (h1 : p ≤ i) (h2 : i < q) (hr : r < S.1) : wh S (o r) = wh S (o i) ↔ p ≤ r ∧ r < q := ⟨ch_in h.ord h.2.1 h.2.2 h1 h2 hr, fun ⟨a, b⟩ => by rw [h.2.1.2.2.1 r a b, h.2.1.2.2.1 i h1 h2]⟩
theorem CR.ba (h : CR S o K KT p q μ) {i : Nat} (h1 : p ≤ i) (h2 : i < q) : bar S o i = bar S o p := by
  obtain ⟨a, b, c⟩ := h.q60
  exact wh_bar_eq h.bd (h.ord.1 i (by omega)) (h.ord.1 p (by omega)) (h.2.1.2.2.1 i h1 h2)
theorem CR.un (h : CR S o K KT p q μ) {i : Nat} (h1 : p ≤ i) (h2 : i < q) : unK S o i p q ↔ unl S o i := by
  obtain ⟨a, b, c⟩ := h.q60
  constructor
  · rintro ⟨r, r1, r2, r3, r4⟩
    exact ⟨r, by omega, (h.wq h1 h2 (by omega)).mpr ⟨r1, r2⟩, r3, r4⟩
  · rintro ⟨r, r1, r2, r3, r4⟩
    obtain ⟨e1, e2⟩ := (h.wq h1 h2 r1).mp r2
    exact ⟨r, e1, e2, r3, r4⟩
theorem CR.fs (h : CR S o K KT p q μ) {i : Nat} (h1 : p ≤ i) (h2 : i < q) : fsK S o i p q ↔ fstP S o True i := by
  obtain ⟨a, b, c⟩ := h.q60
  constructor
  · intro h0 r r1 r2 r3 r4 r5 r6
    obtain ⟨e1, e2⟩ := (h.wq h1 h2 (show r < S.1 by omega)).mp r2
    exact h0 r e1 e2 r1 r3 r4 r5 (r6 trivial)
  · intro h0 r r1 r2 r3 r4 r5 r6 r7
    exact h0 r r3 ((h.wq h1 h2 (by omega)).mpr ⟨r1, r2⟩) r4 r5 r6 (fun _ => r7)
theorem fs_FT {i : Nat} (hi : i < S.1) (hu : ¬ unl S o i) : fstP S o True i ↔ fstP S o False i := by
  constructor
  · intro h0 r r1 r2 r3 r4 r5 _
    refine h0 r r1 r2 r3 r4 r5 (fun _ => Classical.byContradiction (fun hne => hu ⟨r, by omega, r2, r4, hne⟩))
  · intro h0 r r1 r2 r3 r4 r5 _
    exact h0 r r1 r2 r3 r4 r5 (fun hf => hf.elim)
theorem CR.seat (h : CR S o K KT p q μ) {i : Nat} (hi : i < S.1) (hq : Q (nI (sea S o i)) μ) : Ct G d M_MD_seat [.inr 42, .inl (nI (o i))] μ Q := md_seat h.1.1 h.1.2.1 (h.ord.1 i hi) hq
theorem CR.sEq (h : CR S o K KT p q μ) {i k : Nat} (hi : i < S.1) (hk : k < S.1) : nI (sea S o k) = nI (sea S o i) ↔ sea S o k = sea S o i := ⟨sea_of h.bd h.ord hk hi, fun e => by rw [e]⟩
theorem md_need (hC : CR S o K KT p q μ) {i : Nat} (h1 : p ≤ i) (h2 : i < q) (hst : ∀ s, s < 280 → μ 58 s = STT S o (bar S o p) p s) (h0 : μ 56 (o i) = 0) (hq : ∀ u : Mem, (∀ c j, ¬ (c = 56 ∧ j = o i) → ¬ (c = 57 ∧ j = o i) → ¬ (c = 60 ∧ j = sea S o i) → u c j = μ c j) → u 56 (o i) = bc (ned S o i) → u 57 (o i) = NTL S o i → u 60 (sea S o i) = cite (unl S o i) 99 (cite (fre S o i) (S.2 1 (o i)) (μ 60 (sea S o i))) → Q 0 u) : Ct G (d + 1) M_MD_need [.inr 42, .inl (nI i), .inl (nI p), .inl (nI q)] μ Q := by
  obtain ⟨q1, q2, h60⟩ := hC.q60
  have hB := hC.bd
  have hO := hC.ord
  have hi : i < S.1 := by omega
  have hoi := hO.1 i hi
  have hsi := sea_lt hB hO hi
  have eo : vp_in (nI (o i)) 60 := n_in (by omega) (by omega)
  have es : vp_in (nI (sea S o i)) 280 := n_in (by omega) (by omega)
  have io : ix (nI (o i)) = o i := n_ix (by omega)
  have is' : ix (nI (sea S o i)) = sea S o i := n_ix (by omega)
  have hcs := hC.cs h1 h2
  have hba := hC.ba h1 h2
  have hR := hC.1.1
  -- the natural
  have fin : ∀ w : Mem, (∀ c j, ¬ (c = 56 ∧ j = o i) → ¬ (c = 60 ∧ j = sea S o i) → w c j = μ c j) → w 56 (o i) = bc (ned S o i) → w 60 (sea S o i) = cite (unl S o i) 99 (cite (fre S o i) (S.2 1 (o i)) (μ 60 (sea S o i))) → AW G (d + 1) M_MD_need Q 257 [some (.inr 42), none, none, none, some (.inl (nI (o i))), some (.inl (nI (sea S o i))), none, none, none, none] [] w := by
    intro w w1 w2 w3
    have nd : ∀ x : Int32, x = NTL S o i → ∀ u : Mem, u = up w 57 (o i) x → Q 0 u := by
      intro x hx u hu
      refine hq u (fun c j a b c' => ?_) ?_ ?_ ?_
      · rw [hu, up_at, if_neg b]; exact w1 c j a c'
      · rw [hu, up_at, if_neg (by omega)]; exact w2
      · rw [hu, up_at, if_pos ⟨rfl, rfl⟩]; exact hx
      · rw [hu, up_at, if_neg (by omega)]; exact w3
    have no : ¬ ntl S o i → (0 : Int32) = NTL S o i := fun h => (cite_f h).symm
    have ye : ntl S o i → (1 : Int32) = NTL S o i := fun h => (cite_t h).symm
    have e53 : w 53 (ix 3) = S.2 10 3 := by rw [w1 53 (ix 3) (by omega) (by omega)]; exact hC.1.2.1.2.2 3 (by omega)
    have e44 : w 44 (o i) = S.2 1 (o i) := by rw [w1 44 (o i) (by omega) (by omega)]; exact hR.at hoi (by omega) rfl
    have e58 : w 58 (sea S o i) = STT S o (bar S o i) (csF S o i) (sea S o i) := by rw [w1 58 _ (by omega) (by omega), hcs, hba]; exact hst _ hsi
    have w0 : vp_in (3 : Int32) 5 := n_in (k := 3) (by omega) (by omega)
    refine vc_MD_need_257 ?_
    rw [io, is', e53, e44, e58, w2]
    refine ⟨eo, fun h => ⟨eo, nd 0 (no (fun hn => h (bc_t hn.1)))⟩, fun h => ⟨w0, fun h3 => ⟨eo, nd 0 (no (fun hn => h3 hn.2.1))⟩, fun h3 => ⟨eo, fun ha => ⟨es, eo, fun h4 => ⟨eo, nd 0 (no (fun hn => h4 hn.2.2.2))⟩, fun h4 => ⟨eo, nd 1 (ye ⟨bc_n0.mp (by rw [h]; decide), h3, Or.inl ha, h4⟩)⟩⟩, fun ha => ⟨eo, fun hb => ⟨eo, nd 0 (no (fun hn => hn.2.2.1.elim ha hb))⟩, fun hb => ⟨es, eo, fun h4 => ⟨eo, nd 0 (no (fun hn => h4 hn.2.2.2))⟩, fun h4 => ⟨eo, nd 1 (ye ⟨bc_n0.mp (by rw [h]; decide), h3, Or.inr hb, h4⟩)⟩⟩⟩⟩⟩⟩
  -- the decision
  have dec : ∀ x6 x7 s0 : Int32, x6 = bc (unl S o i) → x7 = bc (fstP S o True i) → s0 = bc (fre S o i) → AW G (d + 1) M_MD_need Q 163 [some (.inr 42), none, none, none, some (.inl (nI (o i))), some (.inl (nI (sea S o i))), some (.inl x6), some (.inl x7), none, none] [.inl s0] μ := by
    intro x6 x7 s0 e6 e7 e0
    subst e6 e7 e0
    refine vc_MD_need_163 ?_
    rw [io, is', bc_0, bc_0, bc_0, Classical.not_not, Classical.not_not, Classical.not_not, hR.at hoi (k := 1) (by omega) rfl]
    have two : ∀ x y : Int32, x = bc (ned S o i) → y = cite (unl S o i) 99 (cite (fre S o i) (S.2 1 (o i)) (μ 60 (sea S o i))) → ∀ u1 : Mem, u1 = up μ 60 (sea S o i) y → ∀ u2 : Mem, u2 = up u1 56 (o i) x → AW G (d + 1) M_MD_need Q 257 [some (.inr 42), none, none, none, some (.inl (nI (o i))), some (.inl (nI (sea S o i))), none, none, none, none] [] u2 := by
      intro x y hx hy u1 hu1 u2 hu2
      refine fin u2 (fun c j a b => ?_) ?_ ?_
      · rw [hu2, up_at, if_neg a, hu1, up_at, if_neg b]
      · rw [hu2, up_at, if_pos ⟨rfl, rfl⟩]; exact hx
      · rw [hu2, up_at, if_neg (by omega), hu1, up_at, if_pos ⟨rfl, rfl⟩]; exact hy
    have two' : ∀ x y : Int32, x = bc (ned S o i) → y = cite (unl S o i) 99 (cite (fre S o i) (S.2 1 (o i)) (μ 60 (sea S o i))) → ∀ u1 : Mem, u1 = up μ 56 (o i) x → ∀ u2 : Mem, u2 = up u1 60 (sea S o i) y → AW G (d + 1) M_MD_need Q 257 [some (.inr 42), none, none, none, some (.inl (nI (o i))), some (.inl (nI (sea S o i))), none, none, none, none] [] u2 := by
      intro x y hx hy u1 hu1 u2 hu2
      refine fin u2 (fun c j a b => ?_) ?_ ?_
      · rw [hu2, up_at, if_neg b, hu1, up_at, if_neg a]
      · rw [hu2, up_at, if_neg (by omega), hu1, up_at, if_pos ⟨rfl, rfl⟩]; exact hx
      · rw [hu2, up_at, if_pos ⟨rfl, rfl⟩]; exact hy
    have no : ¬ ned S o i → (0 : Int32) = bc (ned S o i) := fun h => (bc_f h).symm
    have ye : ned S o i → (1 : Int32) = bc (ned S o i) := fun h => (bc_t h).symm
    refine ⟨fun hu => ⟨fun hf => ?_, fun hf => ⟨eo, es, fun u1 hu1 => ?_⟩⟩, fun hu => ⟨fun hf => ⟨eo, fun u5 h5 => ⟨es, fun u6 h6 => two' 0 99 (no (fun h => hf h.1)) (cite_t hu).symm u5 h5 u6 h6⟩⟩, fun hf => ⟨fun hx => ⟨eo, fun u5 h5 => ⟨es, fun u6 h6 => two' 0 99 (no (fun h => h.2.elim (fun h3 => hx h3.2) (fun h3 => h3.1 hu))) (cite_t hu).symm u5 h5 u6 h6⟩⟩, fun hx => ⟨eo, fun u5 h5 => ⟨es, fun u6 h6 => two' 1 99 (ye ⟨hf, Or.inl ⟨hu, hx⟩⟩) (cite_t hu).symm u5 h5 u6 h6⟩⟩⟩⟩⟩
    · refine fin μ (fun c j _ _ => rfl) (by rw [h0]; exact no (fun h => hf h.1)) (by rw [cite_f hu, cite_f hf])
    · have hy : S.2 1 (o i) = cite (unl S o i) 99 (cite (fre S o i) (S.2 1 (o i)) (μ 60 (sea S o i))) := by rw [cite_f hu, cite_t hf]
      have e58 : u1 58 (sea S o i) = STT S o (bar S o i) (csF S o i) (sea S o i) := by rw [hu1, up_at, if_neg (by omega), hcs, hba]; exact hst _ hsi
      have e44 : u1 44 (o i) = S.2 1 (o i) := by rw [hu1, up_at, if_neg (by omega)]; exact hR.at hoi (by omega) rfl
      rw [e58, e44]
      refine ⟨fun hx => ⟨eo, fun u2 h2 => two 0 _ (no (fun h => h.2.elim (fun h3 => hu h3.1) (fun h3 => hx ((fs_FT hi hu).mpr h3.2.2)))) hy u1 hu1 u2 h2⟩, fun hx => ⟨es, eo, fun h4 => ⟨eo, fun u2 h2 => two 0 _ (no (fun h => h.2.elim (fun h3 => hu h3.1) (fun h3 => h3.2.1 h4))) hy u1 hu1 u2 h2⟩, fun h4 => ⟨eo, fun u2 h2 => two 1 _ (ye ⟨hf, Or.inr ⟨hu, h4, (fs_FT hi hu).mp hx⟩⟩) hy u1 hu1 u2 h2⟩⟩⟩
  -- the loop
  have key : ∀ n k, k + n = q → p ≤ k → ∀ x6 x7 : Int32, x6 = bc (unK S o i p k) → x7 = bc (fsK S o i p k) → AW G (d + 1) M_MD_need Q 25 [some (.inr 42), some (.inl (nI i)), none, some (.inl (nI q)), some (.inl (nI (o i))), some (.inl (nI (sea S o i))), some (.inl x6), some (.inl x7), some (.inl (nI k)), none] [] μ := by
    intro n
    induction n with
    | zero =>
      intro k hk hp x6 x7 e6 e7
      have hk : k = q := by omega
      subst hk
      refine vc_MD_need_25 ⟨fun _ => ⟨eo, ?_⟩, fun h => absurd ((n_le (by omega) (by omega)).mpr (Nat.le_refl _)) h⟩
      rw [io, hC.1.2.2.2.2 (o i) hoi, tie_ge h60, Classical.not_not]
      have h6 : x6 = bc (unl S o i) := by rw [e6, show bc (unK S o i p k) = bc (unl S o i) from congrArg bc (propext (hC.un h1 h2))]
      have h7 : x7 = bc (fstP S o True i) := by rw [e7, show bc (fsK S o i p k) = bc (fstP S o True i) from congrArg bc (propext (hC.fs h1 h2))]
      exact ⟨fun h => dec x6 x7 0 h6 h7 (bc_f h).symm, fun h => dec x6 x7 1 h6 h7 (bc_t h).symm⟩
    | succ n ih =>
      intro k hk hp x6 x7 e6 e7
      have hkS : k < S.1 := by omega
      have hok := hO.1 k hkS
      have ek : vp_in (nI k) 60 := n_in (by omega) (by omega)
      have eok : vp_in (nI (o k)) 60 := n_in (by omega) (by omega)
      have iok : ix (nI (o k)) = o k := n_ix (by omega)
      have ih := ih (k + 1) (by omega) (by omega)
      have hU := unK_s (S := S) (o := o) (i := i) hp
      have hF := fsK_s (S := S) (o := o) (i := i) hp
      subst e6 e7
      have y0 : ¬ unK S o i p (k + 1) → (0 : Int32) = bc (unK S o i p (k + 1)) := fun h => (bc_f h).symm
      have y1 : unK S o i p (k + 1) → (1 : Int32) = bc (unK S o i p (k + 1)) := fun h => (bc_t h).symm
      have z0 : ¬ fsK S o i p (k + 1) → (0 : Int32) = bc (fsK S o i p (k + 1)) := fun h => (bc_f h).symm
      have z1 : fsK S o i p (k + 1) → (1 : Int32) = bc (fsK S o i p (k + 1)) := fun h => (bc_t h).symm
      have g73 : sea S o k = sea S o i → unK S o i p (k + 1) → AW G (d + 1) M_MD_need Q 73 [some (.inr 42), some (.inl (nI i)), none, some (.inl (nI q)), some (.inl (nI (o i))), some (.inl (nI (sea S o i))), none, some (.inl (bc (fsK S o i p k))), some (.inl (nI k)), some (.inl (nI (o k)))] [] μ := by
        intro hs hu
        refine vc_MD_need_73 ?_
        rw [io, iok, hC.1.2.2.2.2 (o k) hok, hR.at hoi (k := 0) (by omega) rfl, hR.at hok (k := 0) (by omega) rfl, hR.at hoi (k := 1) (by omega) rfl, hR.at hok (k := 1) (by omega) rfl, tie_ge h60, Classical.not_not, bc_0, Classical.not_not, n_le (by omega) (by omega), n_p1]
        exact ⟨fun h => ih _ _ (y1 hu) (z0 (fun hf => h (hF.mp hf).1)), fun hf => ⟨fun h => ih _ _ (y1 hu) (z1 (hF.mpr ⟨hf, fun h3 => absurd h3.1 (by omega)⟩)), fun h => ⟨eok, fun h3 => ih _ _ (y1 hu) (z1 (hF.mpr ⟨hf, fun h4 => h3 h4.2.1⟩)), fun h3 => ⟨eok, eo, fun h4 => ih _ _ (y1 hu) (z1 (hF.mpr ⟨hf, fun h5 => h4 h5.2.2.2.1⟩)), fun h4 => ⟨eok, eo, fun h5 => ih _ _ (y1 hu) (z0 (fun hf2 => (hF.mp hf2).2 ⟨by omega, h3, hs, h4, h5⟩)), fun h5 => ih _ _ (y1 hu) (z1 (hF.mpr ⟨hf, fun h6 => h5 h6.2.2.2.2⟩))⟩⟩⟩⟩⟩
      refine vc_MD_need_25 ⟨fun h => absurd ((n_le (by omega) (by omega)).mp h) (by omega), fun _ => ⟨ek, fun y hy => ?_⟩⟩
      rw [n_ix (by omega), hC.1.2.2.2.1 k hkS] at hy
      subst hy
      refine hC.seat hkS ?_
      rw [hC.sEq hi hkS, io, iok, hC.1.2.2.2.2 (o k) hok, hR.at hoi (k := 0) (by omega) rfl, hR.at hok (k := 0) (by omega) rfl, hR.at hoi (k := 1) (by omega) rfl, hR.at hok (k := 1) (by omega) rfl, tie_ge h60, Classical.not_not, bc_0, Classical.not_not, bc_0, Classical.not_not, n_le (by omega) (by omega), n_p1]
      refine ⟨fun hs => ih _ _ (congrArg bc (propext ⟨fun h => hU.mpr (Or.inl h), fun h => (hU.mp h).elim id (fun h3 => absurd h3.1 hs)⟩)) (congrArg bc (propext ⟨fun h => hF.mpr ⟨h, fun h3 => hs h3.2.2.1⟩, fun h => (hF.mp h).1⟩)), fun hs => ⟨fun hu => g73 hs (hU.mpr (Or.inl hu)), fun hu => ⟨eok, eo, fun ha => ?_, fun ha => g73 hs (hU.mpr (Or.inr ⟨hs, ha⟩))⟩⟩⟩
      have hu' : ¬ unK S o i p (k + 1) := fun h => (hU.mp h).elim hu (fun h3 => h3.2 ha)
      exact ⟨fun h => ih _ _ (y0 hu') (z0 (fun hf => h (hF.mp hf).1)), fun hf => ⟨fun h => ih _ _ (y0 hu') (z1 (hF.mpr ⟨hf, fun h3 => absurd h3.1 (by omega)⟩)), fun h => ⟨eok, fun h3 => ih _ _ (y0 hu') (z1 (hF.mpr ⟨hf, fun h4 => h3 h4.2.1⟩)), fun h3 => ⟨eok, eo, fun h4 => ih _ _ (y0 hu') (z1 (hF.mpr ⟨hf, fun h5 => h4 h5.2.2.2.1⟩)), fun h4 => ⟨eok, eo, fun h5 => ih _ _ (y0 hu') (z0 (fun hf2 => (hF.mp hf2).2 ⟨by omega, h3, hs, h4, h5⟩)), fun h5 => ih _ _ (y0 hu') (z1 (hF.mpr ⟨hf, fun h6 => h5 h6.2.2.2.2⟩))⟩⟩⟩⟩⟩
  refine en_MD_need (vc_MD_need_0 ⟨n_in (by omega) (by omega), fun y hy => ?_⟩)
  rw [n_ix (by omega), hC.1.2.2.2.1 i hi] at hy
  subst hy
  exact hC.seat hi (key (q - p) p (by omega) (Nat.le_refl p) 0 1 (bc_f (fun ⟨r, a, b, _⟩ => by omega)).symm (bc_t (fun r a b => by omega)).symm)
end
