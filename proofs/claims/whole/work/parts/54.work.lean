/-! the reference: chord, work -/
def WkI (S : Sc) (o : Nat → Nat) (b p : Nat) (u : Mem) : Prop := (∀ s, s < 280 → u 58 s = STT S o b p s) ∧ (b ≠ 0 → ∀ s, s < 280 → u 59 s = STT S o (b - 1) S.1 s) ∧ (∀ s, s < 280 → (¬ u 61 s = 0 ↔ hadP S o b p s)) ∧ (∀ s, s < 280 → (¬ u 62 s = 0 ↔ ∃ r, r < p ∧ bar S o r = b ∧ sea S o r = s ∧ crt S o r)) ∧ (∀ r, r < p → r < S.1 → u 56 (o r) = KND S o r ∧ u 57 (o r) = NTL S o r) ∧ ∀ r, p ≤ r → r < S.1 → u 56 (o r) = 0
section
variable {G : Gp} {d : Nat} {S : Sc} {o : Nat → Nat} {K KT : Nat → Int32} {μ : Mem} {Q : Int32 → Mem → Prop} {p q : Nat}
theorem CR.congr (h : CR S o K KT p q μ) {u : Mem} (hu : ∀ c, c < 56 → u c = μ c) : CR S o K KT p q u := ⟨h.1.congr (by rw [hu 42 (by omega)]) (fun c _ _ => hu c (by omega)), h.2⟩
theorem md_chord (hC : CR S o K KT p q μ) (hW : WkI S o (bar S o p) p μ) (hq : ∀ u : Mem, (∀ c, (c < 56 ∨ 62 < c) → u c = μ c) → WkI S o (bar S o p) q u → Q 0 u) : Ct G (d + 3) M_MD_chord [.inr 42, .inl (nI p), .inl (nI q)] μ Q := by
  obtain ⟨q1, q2, h60⟩ := hC.q60
  have hB := hC.bd
  have hO := hC.ord
  obtain ⟨v1, v2, v3, v4, v5, v6⟩ := hW
  -- the end: state := next
  have st5 : ∀ u : Mem, (∀ c, (c < 56 ∨ 62 < c) → u c = μ c) → u 59 = μ 59 → (∀ s, s < 280 → u 60 s = STT S o (bar S o p) q s) → (∀ s, s < 280 → (¬ u 61 s = 0 ↔ hadP S o (bar S o p) q s)) → (∀ s, s < 280 → (¬ u 62 s = 0 ↔ ∃ r, r < q ∧ bar S o r = bar S o p ∧ sea S o r = s ∧ crt S o r)) → (∀ r, r < q → r < S.1 → u 56 (o r) = KND S o r ∧ u 57 (o r) = NTL S o r) → (∀ r, q ≤ r → r < S.1 → u 56 (o r) = 0) → AW G (d + 3) M_MD_chord Q 97 [some (.inr 42), none, none, some (.inl (nI 0))] [] u := by
    intro u u1 u2 u3 u4 u5 u6 u7
    have key : ∀ n k, k + n = 280 → ∀ w : Mem, (∀ c, c ≠ 58 → w c = u c) → (∀ s, s < k → w 58 s = STT S o (bar S o p) q s) → AW G (d + 3) M_MD_chord Q 97 [some (.inr 42), none, none, some (.inl (nI k))] [] w := by
      intro n
      induction n with
      | zero =>
        intro k hk w w1 w2
        refine vc_MD_chord_97 ⟨fun _ => ?_, fun h => absurd ((n_le (a := 280) (by omega) (by omega)).mpr (by omega)) h⟩
        refine hq w (fun c hc => by rw [w1 c (by omega)]; exact u1 c hc) ⟨fun s hs => w2 s (by omega), fun hb s hs => ?_, ?_, ?_, ?_, ?_⟩
        · rw [w1 59 (by omega), u2]; exact v2 hb s hs
        · rw [w1 61 (by omega)]; exact u4
        · rw [w1 62 (by omega)]; exact u5
        · rw [w1 56 (by omega), w1 57 (by omega)]; exact u6
        · rw [w1 56 (by omega)]; exact u7
      | succ n ih =>
        intro k hk w w1 w2
        have ek : vp_in (nI k) 280 := n_in (by omega) (by omega)
        refine vc_MD_chord_97 ⟨fun h => absurd ((n_le (a := 280) (by omega) (by omega)).mp h) (by omega), fun _ => ⟨ek, ek, fun z hz => ?_⟩⟩
        rw [n_ix (by omega), w1 60 (by omega), u3 k (by omega)] at hz
        rw [n_p1]
        refine ih (k + 1) (by omega) z (fun c hc => ?_) (fun s hs => ?_)
        · rw [← w1 c hc, hz]; funext j; rw [up_at, if_neg (by omega)]
        · rw [hz, up_at]
          by_cases h : s = k
          · rw [if_pos ⟨rfl, h⟩, h]
          · rw [if_neg (by omega)]; exact w2 s (by omega)
    exact key 280 0 (by omega) u (fun c _ => rfl) (fun s hs => absurd hs (Nat.not_lt_zero s))
  -- had
  have st4 : ∀ u : Mem, (∀ c, (c < 56 ∨ 62 < c) → u c = μ c) → u 59 = μ 59 → u 61 = μ 61 → (∀ s, s < 280 → u 60 s = STT S o (bar S o p) q s) → (∀ s, s < 280 → (¬ u 62 s = 0 ↔ ∃ r, r < q ∧ bar S o r = bar S o p ∧ sea S o r = s ∧ crt S o r)) → (∀ r, r < q → r < S.1 → u 56 (o r) = KND S o r ∧ u 57 (o r) = NTL S o r) → (∀ r, q ≤ r → r < S.1 → u 56 (o r) = 0) → AW G (d + 3) M_MD_chord Q 68 [some (.inr 42), none, some (.inl (nI q)), some (.inl (nI p))] [] u := by
    intro u u1 u2 u3 u4 u5 u6 u7
    have key : ∀ n k, k + n = q → p ≤ k → ∀ w : Mem, (∀ c, c ≠ 61 → w c = u c) → (∀ s, s < 280 → (¬ w 61 s = 0 ↔ hadP S o (bar S o p) k s)) → AW G (d + 3) M_MD_chord Q 68 [some (.inr 42), none, some (.inl (nI q)), some (.inl (nI k))] [] w := by
      intro n
      induction n with
      | zero =>
        intro k hk hp w w1 w2
        have hk : k = q := by omega
        subst hk
        refine vc_MD_chord_68 ⟨fun _ => ?_, fun h => absurd ((n_le (by omega) (by omega)).mpr (Nat.le_refl _)) h⟩
        refine st5 w (fun c hc => by rw [w1 c (by omega)]; exact u1 c hc) (by rw [w1 59 (by omega)]; exact u2) (by rw [w1 60 (by omega)]; exact u4) w2 (by rw [w1 62 (by omega)]; exact u5) (by rw [w1 56 (by omega), w1 57 (by omega)]; exact u6) (by rw [w1 56 (by omega)]; exact u7)
      | succ n ih =>
        intro k hk hp w w1 w2
        have hkS : k < S.1 := by omega
        have hCw : CR S o K KT p q w := hC.congr (fun c hc => by rw [w1 c (by omega), u1 c (by omega)])
        have hsk := sea_lt hB hO hkS
        refine vc_MD_chord_68 ⟨fun h => absurd ((n_le (by omega) (by omega)).mp h) (by omega), fun _ => ⟨n_in (by omega) (by omega), ?_⟩⟩
        rw [n_ix (by omega), hCw.1.2.2.2.1 k hkS]
        refine hCw.seat hkS ⟨n_in (by omega) (by omega), fun z hz => ?_⟩
        rw [n_ix (by omega)] at hz
        rw [n_p1]
        refine ih (k + 1) (by omega) (by omega) z (fun c hc => ?_) (fun s hs => ?_)
        · rw [← w1 c hc, hz]; funext j; rw [up_at, if_neg (by omega)]
        · rw [hz, up_at]
          by_cases h : s = sea S o k
          · rw [if_pos ⟨rfl, h⟩]
            exact ⟨fun _ => ⟨k, by omega, hC.ba hp (by omega), h.symm⟩, fun _ => by decide⟩
          · rw [if_neg (by omega), w2 s hs]
            constructor
            · rintro ⟨r, a, b⟩; exact ⟨r, by omega, b⟩
            · rintro ⟨r, a, b, c⟩
              refine ⟨r, ?_, b, c⟩
              by_cases hr : r = k
              · rw [hr] at c; exact absurd c.symm h
              · omega
    exact key (q - p) p (by omega) (Nat.le_refl p) u (fun c _ => rfl) (by rw [u3]; exact v3)
  -- court
  have st3 : ∀ u : Mem, (∀ c, c ≠ 56 → c ≠ 57 → c ≠ 60 → u c = μ c) → (∀ s, s < 280 → u 60 s = STT S o (bar S o p) q s) → (∀ r, r < q → r < S.1 → u 56 (o r) = (if r < p then KND S o r else bc (ned S o r)) ∧ u 57 (o r) = NTL S o r) → (∀ r, q ≤ r → r < S.1 → u 56 (o r) = 0) → AW G (d + 3) M_MD_chord Q 49 [some (.inr 42), some (.inl (nI p)), some (.inl (nI q)), some (.inl (nI p))] [] u := by
    intro u u1 u2 u3 u4
    have key : ∀ n k, k + n = q → p ≤ k → ∀ w : Mem, (∀ c, c ≠ 56 → c ≠ 62 → w c = u c) → (∀ s, s < 280 → (¬ w 62 s = 0 ↔ ∃ r, r < k ∧ bar S o r = bar S o p ∧ sea S o r = s ∧ crt S o r)) → (∀ r, r < q → r < S.1 → w 56 (o r) = (if r < k then KND S o r else bc (ned S o r))) → (∀ r, q ≤ r → r < S.1 → w 56 (o r) = 0) → AW G (d + 3) M_MD_chord Q 49 [some (.inr 42), some (.inl (nI p)), some (.inl (nI q)), some (.inl (nI k))] [] w := by
      intro n
      induction n with
      | zero =>
        intro k hk hp w w1 w2 w3 w4
        have hk : k = q := by omega
        subst hk
        refine vc_MD_chord_49 ⟨fun _ => ?_, fun h => absurd ((n_le (by omega) (by omega)).mpr (Nat.le_refl _)) h⟩
        refine st4 w (fun c hc => by rw [w1 c (by omega) (by omega)]; exact u1 c (by omega) (by omega) (by omega)) (by rw [w1 59 (by omega) (by omega)]; exact u1 59 (by omega) (by omega) (by omega)) (by rw [w1 61 (by omega) (by omega)]; exact u1 61 (by omega) (by omega) (by omega)) (by rw [w1 60 (by omega) (by omega)]; exact u2) w2 (fun r a b => ⟨by rw [w3 r a b, if_pos a], by rw [w1 57 (by omega) (by omega)]; exact (u3 r a b).2⟩) w4
      | succ n ih =>
        intro k hk hp w w1 w2 w3 w4
        have hkS : k < S.1 := by omega
        have hok := hO.1 k hkS
        have hCw : CR S o K KT p q w := hC.congr (fun c hc => by rw [w1 c (by omega) (by omega), u1 c (by omega) (by omega) (by omega)])
        have hkq : k < q := by omega
        refine vc_MD_chord_49 ⟨fun h => absurd ((n_le (by omega) (by omega)).mp h) (by omega), fun _ => ?_⟩
        refine md_court hCw hp hkq (by rw [w1 58 (by omega) (by omega), u1 58 (by omega) (by omega) (by omega)]; exact v1) (by rw [w1 59 (by omega) (by omega), u1 59 (by omega) (by omega) (by omega)]; exact v2) (by rw [w1 61 (by omega) (by omega), u1 61 (by omega) (by omega) (by omega)]; exact v3) w2 (by rw [w3 k hkq hkS, if_neg (by omega)]) (fun z z1 z2 z3 => ?_)
        rw [n_p1]
        refine ih (k + 1) (by omega) (by omega) z (fun c a b => ?_) (fun s hs => ?_) (fun r a b => ?_) (fun r a b => ?_)
        · rw [← w1 c a b]; funext j; exact z1 c j (by omega) (by omega)
        · by_cases h : s = sea S o k
          · rw [h, z3]
            by_cases hc : crt S o k
            · rw [cite_t hc]
              exact ⟨fun _ => ⟨k, by omega, hC.ba hp hkq, rfl, hc⟩, fun _ => by decide⟩
            · rw [cite_f hc, w2 _ (sea_lt hB hO hkS)]
              constructor
              · rintro ⟨r, a, b⟩; exact ⟨r, by omega, b⟩
              · rintro ⟨r, a, b, c, e⟩
                refine ⟨r, ?_, b, c, e⟩
                by_cases hr : r = k
                · rw [hr] at e; exact absurd e hc
                · omega
          · rw [z1 62 s (by omega) (by omega), w2 s hs]
            constructor
            · rintro ⟨r, a, b⟩; exact ⟨r, by omega, b⟩
            · rintro ⟨r, a, b, c, e⟩
              refine ⟨r, ?_, b, c, e⟩
              by_cases hr : r = k
              · rw [hr] at c; exact absurd c.symm h
              · omega
        · by_cases hr : r = k
          · rw [hr, z2, if_pos (by omega)]
          · have hne : o r ≠ o k := fun e => hr (hO.inj b hkS e)
            rw [z1 56 (o r) (by omega) (by omega), w3 r a b]
            by_cases h : r < k
            · rw [if_pos h, if_pos (by omega)]
            · rw [if_neg h, if_neg (by omega)]
        · have hne : o r ≠ o k := fun e => absurd (hO.inj b hkS e) (by omega)
          rw [z1 56 (o r) (by omega) (by omega)]; exact w4 r a b
    exact key (q - p) p (by omega) (Nat.le_refl p) u (fun c _ _ => rfl) (by rw [u1 62 (by omega) (by omega) (by omega)]; exact v4) (fun r a b => (u3 r a b).1) u4
  -- need
  have st2 : ∀ u : Mem, (∀ c, c ≠ 60 → u c = μ c) → (∀ s, s < 280 → u 60 s = STT S o (bar S o p) p s) → AW G (d + 3) M_MD_chord Q 29 [some (.inr 42), some (.inl (nI p)), some (.inl (nI q)), some (.inl (nI p))] [] u := by
    intro u u1 u2
    have key : ∀ n k, k + n = q → p ≤ k → ∀ w : Mem, (∀ c, c ≠ 56 → c ≠ 57 → c ≠ 60 → w c = μ c) → (∀ s, s < 280 → w 60 s = STT S o (bar S o p) k s) → (∀ r, r < k → r < S.1 → w 56 (o r) = (if r < p then KND S o r else bc (ned S o r)) ∧ w 57 (o r) = NTL S o r) → (∀ r, k ≤ r → r < S.1 → w 56 (o r) = 0) → AW G (d + 3) M_MD_chord Q 29 [some (.inr 42), some (.inl (nI p)), some (.inl (nI q)), some (.inl (nI k))] [] w := by
      intro n
      induction n with
      | zero =>
        intro k hk hp w w1 w2 w3 w4
        have hk : k = q := by omega
        subst hk
        exact vc_MD_chord_29 ⟨fun _ => st3 w w1 w2 w3 w4, fun h => absurd ((n_le (by omega) (by omega)).mpr (Nat.le_refl _)) h⟩
      | succ n ih =>
        intro k hk hp w w1 w2 w3 w4
        have hkS : k < S.1 := by omega
        have hkq : k < q := by omega
        have hCw : CR S o K KT p q w := hC.congr (fun c hc => w1 c (by omega) (by omega) (by omega))
        refine vc_MD_chord_29 ⟨fun h => absurd ((n_le (by omega) (by omega)).mp h) (by omega), fun _ => ?_⟩
        refine md_need hCw hp hkq (by rw [w1 58 (by omega) (by omega) (by omega)]; exact v1) (w4 k (Nat.le_refl k) hkS) (fun z z1 z2 z3 z4 => ?_)
        rw [n_p1]
        refine ih (k + 1) (by omega) (by omega) z (fun c a b e => ?_) (fun s hs => ?_) (fun r a b => ?_) (fun r a b => ?_)
        · rw [← w1 c a b e]; funext j; exact z1 c j (by omega) (by omega) (by omega)
        · show _ = cite _ _ _
          by_cases h : s = sea S o k
          · rw [h, z4, cite_t (⟨hC.ba hp hkq, rfl⟩ : bar S o k = bar S o p ∧ sea S o k = sea S o k), w2 _ (sea_lt hB hO hkS)]
          · rw [z1 60 s (by omega) (by omega) (by omega), cite_f (fun hc => h hc.2.symm)]; exact w2 s hs
        · by_cases hr : r = k
          · rw [hr, z2, z3, if_neg (by omega)]; exact ⟨rfl, rfl⟩
          · have hne : o r ≠ o k := fun e => hr (hO.inj b hkS e)
            rw [z1 56 (o r) (by omega) (by omega) (by omega), z1 57 (o r) (by omega) (by omega) (by omega)]
            exact w3 r (by omega) b
        · have hne : o r ≠ o k := fun e => absurd (hO.inj b hkS e) (by omega)
          rw [z1 56 (o r) (by omega) (by omega) (by omega)]; exact w4 r (by omega) b
    exact key (q - p) p (by omega) (Nat.le_refl p) u (fun c _ _ h => u1 c h) u2 (fun r a b => by rw [u1 56 (by omega), u1 57 (by omega), if_pos a]; exact v5 r a b) (fun r a b => by rw [u1 56 (by omega)]; exact v6 r a b)
  have key : ∀ n k, k + n = 280 → ∀ w : Mem, (∀ c, c ≠ 60 → w c = μ c) → (∀ s, s < k → w 60 s = STT S o (bar S o p) p s) → AW G (d + 3) M_MD_chord Q 2 [some (.inr 42), some (.inl (nI p)), some (.inl (nI q)), some (.inl (nI k))] [] w := by
    intro n
    induction n with
    | zero =>
      intro k hk w w1 w2
      exact vc_MD_chord_2 ⟨fun _ => st2 w w1 (fun s hs => w2 s (by omega)), fun h => absurd ((n_le (a := 280) (by omega) (by omega)).mpr (by omega)) h⟩
    | succ n ih =>
      intro k hk w w1 w2
      have ek : vp_in (nI k) 280 := n_in (by omega) (by omega)
      refine vc_MD_chord_2 ⟨fun h => absurd ((n_le (a := 280) (by omega) (by omega)).mp h) (by omega), fun _ => ⟨ek, ek, fun z hz => ?_⟩⟩
      rw [n_ix (by omega), w1 58 (by omega), v1 k (by omega)] at hz
      rw [n_p1]
      refine ih (k + 1) (by omega) z (fun c hc => ?_) (fun s hs => ?_)
      · rw [← w1 c hc, hz]; funext j; rw [up_at, if_neg (by omega)]
      · rw [hz, up_at]
        by_cases h : s = k
        · rw [if_pos ⟨rfl, h⟩, h]
        · rw [if_neg (by omega)]; exact w2 s (by omega)
  exact en_MD_chord (vc_MD_chord_0 (key 280 0 (by omega) μ (fun c _ => rfl) (fun s hs => absurd hs (Nat.not_lt_zero s))))
/-- what the reference knows when it knows -/
def RW (S : Sc) (o : Nat → Nat) (u : Mem) : Prop := (∀ p, p < S.1 → u 54 p = nI (o p)) ∧ ∀ j, j < S.1 → u 55 j = tieF S j ∧ u 56 j = KJ S o j ∧ u 57 j = NJ S o j
theorem md_work (hR : RN S μ) (hK : RK S K KT μ) (hO : Ord S o) (hq1 : μ 42 21 ≠ 0 → Q 0 μ) (hq2 : μ 42 21 = 0 → ∀ u : Mem, RW S o u → u 42 21 = 1 → u 42 22 = -1 → (∀ j, j ≠ 21 → j ≠ 22 → u 42 j = μ 42 j) → (∀ c, c ≠ 42 → (c < 54 ∨ 62 < c) → u c = μ c) → Q 0 u) : Ct G (d + 4) M_MD_work [.inr 42] μ Q := by
  have hB := hR.1
  have h60 := hR.n60
  refine en_MD_work (vc_MD_work_0 ⟨fun hk => ?_, hq1⟩)
  intro u1 hu1 u2 hu2
  have a2 : ∀ c j, u2 c j = if c = 42 ∧ j = 22 then -1 else if c = 42 ∧ j = 21 then 1 else μ c j := fun c j => by rw [hu2, up_at, hu1, up_at]
  have c2 : ∀ c, c ≠ 42 → u2 c = μ c := fun c hc => by funext j; rw [a2, if_neg (by omega), if_neg (by omega)]
  have b8 : u2 42 8 = μ 42 8 := by rw [a2, if_neg (by omega), if_neg (by omega)]
  have hR2 : RN S u2 := hR.congr b8 (fun c _ _ => c2 c (by omega))
  refine md_sort hR2 hO (fun u3 s1 s2 s3 => ?_)
  have c3 : ∀ c, c ≠ 42 → (c < 54 ∨ 57 < c) → u3 c = μ c := fun c a b => by rw [s3 c b, c2 c a]
  have hS3 : RS S o K KT u3 := ⟨hR2.congr (by rw [s3 42 (by omega)]) (fun c _ _ => s3 c (by omega)), hK.congr (fun c _ _ => c3 c (by omega) (by omega)), hO, s1, fun j hj => (s2 j hj).1⟩
  have fin : ∀ w : Mem, (∀ c, (c < 56 ∨ 62 < c) → w c = u3 c) → (∀ r, r < S.1 → w 56 (o r) = KND S o r ∧ w 57 (o r) = NTL S o r) → Q 0 w := by
    intro w w1 w2
    refine hq2 hk w ⟨by rw [w1 54 (by omega)]; exact s1, fun j hj => ?_⟩ ?_ ?_ (fun j h1 h2 => ?_) (fun c h1 h2 => ?_)
    · obtain ⟨r, hr, rfl⟩ := hO.2.2 j hj
      obtain ⟨e1, e2⟩ := w2 r hr
      unfold KJ NJ
      rw [posF_at hO S.1 r hr (Nat.le_refl _), w1 55 (by omega)]
      exact ⟨(s2 _ hj).1, e1, e2⟩
    · rw [w1 42 (by omega), s3 42 (by omega), a2, if_neg (by omega), if_pos ⟨rfl, rfl⟩]
    · rw [w1 42 (by omega), s3 42 (by omega), a2, if_pos ⟨rfl, rfl⟩]
    · rw [w1 42 (by omega), s3 42 (by omega), a2, if_neg (by omega), if_neg (by omega)]
    · rw [w1 c (by omega), c3 c h1 (by omega)]
  have key : ∀ m b, b + m = 20 → ∀ p (w : Mem), p ≤ S.1 → (p < S.1 → Beg S o p) → (∀ r, r < p → bar S o r < b) → (∀ r, p ≤ r → r < S.1 → b ≤ bar S o r) → (∀ c, (c < 56 ∨ 62 < c) → w c = u3 c) → (b ≠ 0 → ∀ s, s < 280 → w 58 s = STT S o (b - 1) S.1 s) → (∀ r, r < p → r < S.1 → w 56 (o r) = KND S o r ∧ w 57 (o r) = NTL S o r) → (∀ r, p ≤ r → r < S.1 → w 56 (o r) = 0) → AW G (d + 4) M_MD_work Q 26 [some (.inr 42), some (.inl (nI p)), some (.inl (nI b)), none] [] w := by
    intro m
    induction m with
    | zero =>
      intro b hb p w hp hbeg l1 l2 w1 w2 w3 w4
      refine vc_MD_work_26 ⟨fun _ => fin w w1 (fun r hr => w3 r ?_ hr), fun h => absurd ((n_le (a := 20) (by omega) (by omega)).mpr (by omega)) h⟩
      rcases Nat.lt_or_ge r p with h | h
      · exact h
      · have := l2 r h hr; have := bar_lt hB hO hr; omega
    | succ m ih =>
      intro b hb p w hp hbeg l1 l2 w1 w2 w3 w4
      have hb20 : b < 20 := by omega
      refine vc_MD_work_26 ⟨fun h => absurd ((n_le (a := 20) (by omega) (by omega)).mp h) (by omega), fun _ => ?_⟩
      -- the chords of the bar
      have chs : ∀ n p, p + n = S.1 → ∀ w : Mem, (p < S.1 → Beg S o p) → (∀ r, r < p → bar S o r ≤ b) → (∀ r, p ≤ r → r < S.1 → b ≤ bar S o r) → (∀ c, (c < 56 ∨ 62 < c) → w c = u3 c) → WkI S o b p w → AW G (d + 4) M_MD_work Q 93 [some (.inr 42), some (.inl (nI p)), some (.inl (nI b)), none] [] w := by
        intro n
        induction n using Nat.strongRecOn with
        | ind n ihn =>
          intro p hpn w hbeg l1 l2 w1 hW
          have hSw : RS S o K KT w := hS3.congr (by rw [w1 42 (by omega)]) (fun c _ _ => w1 c (by omega))
          have nxt : (∀ r, p ≤ r → r < S.1 → b < bar S o r) → AW G (d + 4) M_MD_work Q 26 [some (.inr 42), some (.inl (nI p)), some (.inl (nI b + 1)), none] [] w := by
            intro hlt
            rw [n_p1]
            refine ih (b + 1) (by omega) p w (by omega) hbeg (fun r hr => by have := l1 r hr; omega) (fun r a c => hlt r a c) w1 (fun _ s hs => ?_) hW.2.2.2.2.1 hW.2.2.2.2.2
            rw [Nat.add_sub_cancel, STT_end hB hO (by omega) hlt]
            exact hW.1 s hs
          refine vc_MD_work_93 ?_
          rw [hSw.1.2.1, n_le (by omega) (by omega)]
          refine ⟨fun h => nxt (fun r a c => by omega), fun h => ⟨n_in (by omega) (by omega), ?_⟩⟩
          have hpS : p < S.1 := by omega
          have hop := hO.1 p hpS
          rw [n_ix (by omega), hSw.2.2.2.1 p hpS, n_ix (by omega), hSw.1.at hop (k := 2) (by omega) rfl, bar_eq hB hO hpS, n_inj (by have := bar_lt hB hO hpS; omega) (by omega)]
          refine ⟨n_in (by omega) (by omega), fun hne => nxt (fun r a c => ?_), fun he => ?_⟩
          · have := l2 p (Nat.le_refl p) hpS
            have := bar_mono hB hO a c
            omega
          -- the chord's end
          have don : ∀ k, EndIs S o p k → Ct G (d + 3) M_MD_chord [.inr 42, .inl (nI p), .inl (nI k)] w (fun _ u => AW G (d + 4) M_MD_work Q 93 [some (.inr 42), some (.inl (nI k)), some (.inl (nI b)), none] [] u) := by
            intro k hE
            have hC : CR S o K KT p k w := ⟨hSw, hE, hbeg hpS⟩
            refine md_chord hC (by rw [he]; exact hW) (fun u e1 e2 => ?_)
            have e1' := hE.1
            have e2' := hE.2.1
            refine ihn (S.1 - k) (by omega) k (by omega) u (fun hk => ?_) (fun r hr => ?_) (fun r a c => l2 r (by omega) c) (fun c hc => by rw [e1 c hc, w1 c hc]) (by rw [he] at e2; exact e2)
            · right
              rw [hE.2.2.1 (k - 1) (by omega) (by omega)]
              exact fun h => hE.2.2.2 hk h.symm
            · rcases Nat.lt_or_ge r p with h3 | h3
              · exact l1 r h3
              · rw [hC.ba h3 hr, he]; exact Nat.le_refl b
          have ek : ∀ n k, k + n = S.1 → p ≤ k → (∀ r, p ≤ r → r < k → wh S (o r) = wh S (o p)) → AW G (d + 4) M_MD_work Q 118 [some (.inr 42), some (.inl (nI p)), some (.inl (nI b)), some (.inl (nI k))] [] w := by
            intro n
            induction n with
            | zero =>
              intro k hk hpk hsame
              have hk : k = S.1 := by omega
              subst hk
              refine vc_MD_work_118 ?_
              rw [hSw.1.2.1]
              exact ⟨fun _ => don S.1 ⟨hpS, Nat.le_refl _, hsame, fun h => absurd h (Nat.lt_irrefl _)⟩, fun h => absurd ((n_le (by omega) (by omega)).mpr (Nat.le_refl _)) h⟩
            | succ n ihk =>
              intro k hk hpk hsame
              have hkS : k < S.1 := by omega
              refine vc_MD_work_118 ?_
              rw [hSw.1.2.1, n_le (by omega) (by omega)]
              refine ⟨fun h => absurd h (by omega), fun _ => ⟨n_in (by omega) (by omega), ?_⟩⟩
              rw [n_ix (by omega), hSw.2.2.2.1 k hkS]
              refine md_whenOf hSw.1 (hO.1 k hkS) (fun x hx => ⟨n_in (by omega) (by omega), ?_⟩)
              rw [n_ix (by omega), hSw.2.2.2.1 p hpS]
              refine md_whenOf hSw.1 hop (fun y hy => ?_)
              rw [i_eq, hx, hy, n_p1]
              refine ⟨fun h => don k ⟨?_, by omega, hsame, fun _ => h⟩, fun h => ihk (k + 1) (by omega) (by omega) (fun r a c => ?_)⟩
              · rcases Nat.lt_or_ge p k with h3 | h3
                · exact h3
                · rw [show k = p by omega] at h; exact absurd rfl h
              · by_cases hr : r = k
                · rw [hr]; exact h
                · exact hsame r a (by omega)
          exact ek (S.1 - p) p (by omega) (Nat.le_refl p) (fun r a c => by rw [show r = p by omega])
      -- the fresh bar
      have fill : ∀ n k, k + n = 280 → ∀ z : Mem, (∀ c, c ≠ 58 → c ≠ 59 → c ≠ 61 → c ≠ 62 → z c = w c) → (∀ s, s < k → z 59 s = w 58 s ∧ z 58 s = kA S b s ∧ z 61 s = 0 ∧ z 62 s = 0) → (∀ s, k ≤ s → z 58 s = w 58 s) → AW G (d + 4) M_MD_work Q 34 [some (.inr 42), some (.inl (nI p)), some (.inl (nI b)), some (.inl (nI k))] [] z := by
        intro n
        induction n with
        | zero =>
          intro k hk z z1 z2 z3
          refine vc_MD_work_34 ⟨fun _ => ?_, fun h => absurd ((n_le (a := 280) (by omega) (by omega)).mpr (by omega)) h⟩
          refine chs (S.1 - p) p (by omega) z hbeg (fun r hr => by have := l1 r hr; omega) l2 (fun c hc => by rw [z1 c (by omega) (by omega) (by omega) (by omega), w1 c hc]) ⟨fun s hs => ?_, fun h0 s hs => ?_, fun s hs => ?_, fun s hs => ?_, ?_, ?_⟩
          · rw [(z2 s (by omega)).2.1, STT_key (fun r hr hc => by have := l1 r hr; omega)]
          · rw [(z2 s (by omega)).1, w2 h0 s hs]
          · rw [(z2 s (by omega)).2.2.1]
            exact ⟨fun h => absurd rfl h, fun ⟨r, a, c, _⟩ => absurd (l1 r a) (by omega)⟩
          · rw [(z2 s (by omega)).2.2.2]
            exact ⟨fun h => absurd rfl h, fun ⟨r, a, c, _⟩ => absurd (l1 r a) (by omega)⟩
          · rw [z1 56 (by omega) (by omega) (by omega) (by omega), z1 57 (by omega) (by omega) (by omega) (by omega)]; exact w3
          · rw [z1 56 (by omega) (by omega) (by omega) (by omega)]; exact w4
        | succ n ihf =>
          intro k hk z z1 z2 z3
          have ek : vp_in (nI k) 280 := n_in (by omega) (by omega)
          refine vc_MD_work_34 ⟨fun h => absurd ((n_le (a := 280) (by omega) (by omega)).mp h) (by omega), fun _ => ⟨ek, ek, fun y1 hy1 => ?_⟩⟩
          rw [n_ix (by omega)] at hy1 ⊢
          have hKy : RK S K KT y1 := hS3.2.1.congr (fun c a e => by rw [← w1 c (by omega), ← z1 c (by omega) (by omega) (by omega) (by omega), hy1]; funext j; rw [up_at, if_neg (by omega)])
          refine md_keyOf hKy hB b hb20 ?_
          rw [show (4 : Int32) = nI 4 from rfl, n_div (by omega) (by omega) (by omega), show (7 : Int32) = nI 7 from rfl, n_rem (by omega) (by omega) (by omega)]
          refine md_keyAlter (hB.2.2.1 b hb20).1 (by omega) ⟨ek, fun y2 hy2 => ⟨ek, fun y3 hy3 => ⟨ek, fun y4 hy4 => ?_⟩⟩⟩
          rw [n_p1]
          have a4 : ∀ c j, y4 c j = if c = 62 ∧ j = k then 0 else if c = 61 ∧ j = k then 0 else if c = 58 ∧ j = k then kA S b k else if c = 59 ∧ j = k then z 58 k else z c j := fun c j => by rw [hy4, up_at, hy3, up_at, hy2, up_at, hy1, up_at]; rfl
          refine ihf (k + 1) (by omega) y4 (fun c a b' e f => ?_) (fun s hs => ?_) (fun s hs => ?_)
          · rw [← z1 c a b' e f]; funext j; rw [a4, if_neg (by omega), if_neg (by omega), if_neg (by omega), if_neg (by omega)]
          · rw [a4, a4, a4, a4]
            by_cases h : s = k
            · subst h; simp [z3]
            · simp [h]; exact z2 s (by omega)
          · rw [a4, if_neg (by omega), if_neg (by omega), if_neg (by omega), if_neg (by omega)]; exact z3 s (by omega)
      exact fill 280 0 (by omega) w (fun c _ _ _ _ => rfl) (fun s hs => absurd hs (Nat.not_lt_zero s)) (fun s _ => rfl)
  exact key 20 0 (by omega) 0 u3 (Nat.zero_le _) (fun _ => Or.inl rfl) (fun r hr => absurd hr (Nat.not_lt_zero r)) (fun r _ _ => Nat.zero_le _) (fun c _ => rfl) (fun h => absurd rfl h) (fun r hr => absurd hr (Nat.not_lt_zero r)) (fun r _ hr => (s2 (o r) (hO.1 r hr)).2.1)
end
