/-! class Notes: a note more, the last note goes -/
/-- the score with a note more, of the attributes v -/
def addS (S : Sc) (v : Nat → Int32) : Sc := (S.1 + 1, fun k j => if j = S.1 ∧ k < 8 then v k else S.2 k j)
def insO (o : Nat → Nat) (n k : Nat) : Nat → Nat := fun p => if p < k then o p else if p = k then n else o (p - 1)
def delO (o : Nat → Nat) (k : Nat) : Nat → Nat := fun p => if p < k then o p else o (p + 1)
theorem up_at {μ : Mem} {c i : Nat} {x : Int32} {c' i' : Nat} : up μ c i x c' i' = if c' = c ∧ i' = i then x else μ c' i' := rfl
theorem ord_ins {S : Sc} {v : Nat → Int32} {o : Nat → Nat} (hO : Ord S o) {k : Nat} (hk : k ≤ S.1) (hlo : k = 0 ∨ wh (addS S v) (o (k - 1)) ≤ wh (addS S v) S.1) (hhi : ∀ p, k ≤ p → p < S.1 → wh (addS S v) S.1 < wh (addS S v) (o p)) : Ord (addS S v) (insO o S.1 k) := by
  have hw : ∀ j, j < S.1 → wh (addS S v) j = wh S j := fun j hj => by
    unfold wh addS
    simp only [show ¬ j = S.1 by omega, false_and, if_false]
  have hlt : ∀ i j, i < S.1 → j < S.1 → ltN S i j → ltN (addS S v) i j := fun i j hi hj h => by
    unfold ltN at h ⊢; rw [hw i hi, hw j hj]; exact h
  have hlow : ∀ p, p < k → ltN (addS S v) (o p) S.1 := by
    intro p hp
    rcases hlo with h | h
    · omega
    · have hol := hO.1 (k - 1) (by omega)
      have h1 : ltN (addS S v) (o (k - 1)) S.1 := by unfold ltN; omega
      rcases Nat.lt_or_ge p (k - 1) with h2 | h2
      · exact ltN_tr (hlt _ _ (hO.1 p (by omega)) hol (hO.2.1 p (k - 1) h2 (by omega))) h1
      · rw [show p = k - 1 by omega]; exact h1
  refine ⟨fun p hp => ?_, fun p q hpq hq => ?_, fun j hj => ?_⟩
  · show insO o S.1 k p < S.1 + 1
    have hp' : p < S.1 + 1 := hp
    unfold insO
    split
    · have := hO.1 p (by omega); omega
    · split
      · omega
      · have := hO.1 (p - 1) (by omega); omega
  · have hq' : q < S.1 + 1 := hq
    unfold insO
    by_cases h1 : q < k
    · rw [if_pos h1, if_pos (by omega)]
      exact hlt _ _ (hO.1 p (by omega)) (hO.1 q (by omega)) (hO.2.1 p q hpq (by omega))
    · rw [if_neg h1]
      by_cases h2 : q = k
      · rw [if_pos h2, if_pos (by omega)]
        exact hlow p (by omega)
      · rw [if_neg h2]
        by_cases h3 : p < k
        · rw [if_pos h3]
          exact ltN_tr (hlow p h3) (Or.inl (hhi (q - 1) (by omega) (by omega)))
        · rw [if_neg h3]
          by_cases h4 : p = k
          · rw [if_pos h4]; exact Or.inl (hhi (q - 1) (by omega) (by omega))
          · rw [if_neg h4]
            exact hlt _ _ (hO.1 _ (by omega)) (hO.1 _ (by omega)) (hO.2.1 (p - 1) (q - 1) (by omega) (by omega))
  · have hj' : j < S.1 + 1 := hj
    show ∃ p, p < S.1 + 1 ∧ _
    by_cases h : j = S.1
    · exact ⟨k, by omega, by unfold insO; rw [if_neg (by omega), if_pos rfl, h]⟩
    · obtain ⟨p, hp, e⟩ := hO.2.2 j (by omega)
      by_cases h2 : p < k
      · exact ⟨p, by omega, by unfold insO; rw [if_pos h2, e]⟩
      · exact ⟨p + 1, by omega, by unfold insO; rw [if_neg (by omega), if_neg (by omega)]; exact e⟩
theorem ord_del {n : Nat} {a : Nat → Nat → Int32} {o : Nat → Nat} (hO : Ord (n + 1, a) o) {k : Nat} (hk : k < n + 1) (he : o k = n) : Ord (n, a) (delO o k) := by
  have hne : ∀ p, p < n + 1 → p ≠ k → o p < n := fun p hp h => by
    have h1 := hO.1 p hp
    have h1 : o p < n + 1 := h1
    have h2 : o p ≠ o k := fun h3 => h (hO.inj hp hk h3)
    omega
  refine ⟨fun p hp => ?_, fun p q hpq hq => ?_, fun j hj => ?_⟩
  · have hp : p < n := hp
    show delO o k p < n
    unfold delO
    split
    · exact hne p (by omega) (by omega)
    · exact hne (p + 1) (by omega) (by omega)
  · have hq : q < n := hq
    have hlt : ∀ i j, i < j → j < n + 1 → ltN (n, a) (o i) (o j) := fun i j h1 h2 => hO.2.1 i j h1 h2
    unfold delO
    by_cases h1 : q < k
    · rw [if_pos h1, if_pos (by omega)]; exact hlt _ _ hpq (by omega)
    · rw [if_neg h1]
      by_cases h2 : p < k
      · rw [if_pos h2]; exact hlt _ _ (by omega) (by omega)
      · rw [if_neg h2]; exact hlt _ _ (by omega) (by omega)
  · have hj : j < n := hj
    obtain ⟨p, hp, e⟩ := hO.2.2 j (show j < n + 1 by omega)
    have hp : p < n + 1 := hp
    have hpk : p ≠ k := fun h => by rw [h, he] at e; omega
    show ∃ p, p < n ∧ _
    by_cases h : p < k
    · exact ⟨p, by omega, by unfold delO; rw [if_pos h, e]⟩
    · exact ⟨p - 1, by omega, by unfold delO; rw [if_neg (by omega), show p - 1 + 1 = p by omega, e]⟩
section
variable {G : Gp} {d : Nat} {S : Sc} {o : Nat → Nat} {μ : Mem} {Q : Int32 → Mem → Prop}
theorem sp_add (hI : NoI S o μ) (hn : S.1 < 60) {v : Nat → Int32} (hv : v 5 = 0 ∧ v 6 = 0 ∧ v 7 = 0) (hB : Bd (addS S v)) (hq : ∀ u o', NoI (addS S v) o' u → (∀ c, (c < 1 ∨ 8 < c) → u c = μ c) → Q (nI S.1) u) :
    Ct G (d + 1) M_NO_add [.inr 1, .inl (v 0), .inl (v 1), .inl (v 2), .inl (v 3), .inl (v 4)] μ Q := by
  refine en_NO_add (vc_NO_add_0 ?_)
  intro y1 hy1
  rw [hI.2.2.1] at hy1
  subst hy1
  have e1 : vp_in (nI S.1) 60 := n_in (by omega) (by omega)
  rw [n_ix (by omega)]
  refine ⟨e1, fun u2 h2 => ⟨e1, fun u3 h3 => ⟨e1, fun u4 h4 => ⟨e1, fun u5 h5 => ⟨e1, fun u6 h6 => ?_⟩⟩⟩⟩⟩
  -- what stands behind the five stores
  have a6 : ∀ c j, u6 c j = if j = S.1 ∧ 2 ≤ c ∧ c ≤ 6 then v (c - 2) else μ c j := by
    intro c j
    subst h6 h5 h4 h3 h2
    simp only [up_at]
    by_cases hj : j = S.1
    · by_cases c6 : c = 6
      · subst c6; simp [hj]
      · by_cases c5 : c = 5
        · subst c5; simp [hj]
        · by_cases c4 : c = 4
          · subst c4; simp [hj]
          · by_cases c3 : c = 3
            · subst c3; simp [hj]
            · by_cases c2 : c = 2
              · subst c2; simp [hj]
              · simp only [c2, c3, c4, c5, c6, false_and, if_false]
                rw [if_neg (by omega)]
    · simp [hj]
  -- the marks
  have key1 : ∀ m k (w : Mem), k + m = 3 → (∀ c j, c ≠ 8 → w c j = u6 c j) → (∀ j k', j < S.1 → k' < 3 → w 8 (3 * j + k') = u6 8 (3 * j + k')) → (∀ k', k' < k → w 8 (3 * S.1 + k') = 0) → AW G (d + 1) M_NO_add Q 51 [some (.inr 1), none, none, none, none, none, some (.inl (nI S.1)), some (.inl (nI k))] [] w := by
    intro m
    induction m with
    | succ m ih =>
      intro k w hk w1 w2 w3
      refine vc_NO_add_51 ⟨fun q => absurd ((n_le (a := 3) (by omega) (by omega)).mp q) (by omega), fun _ => ⟨?_, fun u hu => ?_⟩⟩
      · rw [mk_ix (by omega) (by omega)]; exact n_in (by omega) (by omega)
      · rw [mk_ix (by omega) (by omega), n_ix (by omega)] at hu
        rw [n_p1]
        refine ih (k + 1) u (by omega) (fun c j hc => ?_) (fun j k' h1 h2 => ?_) (fun k' hk' => ?_)
        · rw [hu, up_at, if_neg (by omega)]; exact w1 c j hc
        · rw [hu, up_at, if_neg (by omega)]; exact w2 j k' h1 h2
        · rw [hu, up_at]
          split
          · rfl
          · exact w3 k' (by omega)
    | zero =>
      intro k w hk w1 w2 w3
      refine vc_NO_add_51 ⟨fun _ y hy => ?_, fun q => absurd ((n_le (a := 3) (by omega) (by omega)).mpr (by omega)) q⟩
      have hsz : w 1 7 = nI S.1 := by rw [w1 1 7 (by omega), a6, if_neg (by omega)]; exact hI.2.2.1
      rw [hsz] at hy
      subst hy
      -- the order
      have key2 : ∀ k (z : Mem), k ≤ S.1 → (∀ c j, c ≠ 7 → z c j = w c j) → (∀ p, p < k → z 7 p = nI (o p)) → (∀ p, k < p → p ≤ S.1 → z 7 p = nI (o (p - 1))) → (∀ p, k ≤ p → p < S.1 → wh (addS S v) S.1 < wh (addS S v) (o p)) → AW G (d + 1) M_NO_add Q 82 [some (.inr 1), none, none, none, none, none, some (.inl (nI S.1)), some (.inl (nI k))] [] z := by
        intro k
        have fin : ∀ k (z : Mem), k ≤ S.1 → (∀ c j, c ≠ 7 → z c j = w c j) → (∀ p, p < k → z 7 p = nI (o p)) → (∀ p, k < p → p ≤ S.1 → z 7 p = nI (o (p - 1))) → (∀ p, k ≤ p → p < S.1 → wh (addS S v) S.1 < wh (addS S v) (o p)) → (k = 0 ∨ wh (addS S v) (o (k - 1)) ≤ wh (addS S v) S.1) → ∀ u1 : Mem, u1 = up z 7 k (nI S.1) → ∀ u2 : Mem, u2 = up u1 1 7 (u1 1 7 + 1) → Q (nI S.1) u2 := by
          intro k z hk z1 z2 z3 z4 hlo u1 hu1 u2 hu2
          have e17 : u1 1 7 = nI S.1 := by rw [hu1, up_at, if_neg (by omega), z1 1 7 (by omega)]; exact hsz
          rw [e17, n_p1] at hu2
          have r7 : ∀ p, p < S.1 + 1 → u2 7 p = nI (insO o S.1 k p) := by
            intro p hp
            rw [hu2, up_at, if_neg (by omega), hu1, up_at]
            unfold insO
            by_cases h1 : p < k
            · rw [if_neg (by omega), if_pos h1]; exact z2 p h1
            · rw [if_neg h1]
              by_cases h2 : p = k
              · rw [if_pos ⟨rfl, h2⟩, if_pos h2]
              · rw [if_neg (by omega), if_neg h2]; exact z3 p (by omega) (by omega)
          have rc : ∀ c j, c ≠ 7 → ¬ (c = 1 ∧ j = 7) → u2 c j = w c j := by
            intro c j h1 h2
            rw [hu2, up_at, if_neg h2, hu1, up_at, if_neg (by omega)]
            exact z1 c j h1
          refine hq u2 (insO o S.1 k) ⟨hB, ord_ins hI.2.1 hk hlo z4, ?_, r7, fun kk j hkk hj => ?_, fun kk j hkk hj => ?_⟩ (fun c hc => ?_)
          · rw [hu2, up_at, if_pos ⟨rfl, rfl⟩]; rfl
          · have hj : j < S.1 + 1 := hj
            rw [rc (2 + kk) j (by omega) (by omega), w1 (2 + kk) j (by omega), a6]
            show _ = if j = S.1 ∧ kk < 8 then v kk else S.2 kk j
            by_cases h : j = S.1
            · rw [if_pos ⟨h, by omega, by omega⟩, if_pos ⟨h, by omega⟩, show 2 + kk - 2 = kk by omega]
            · rw [if_neg (by omega), if_neg (by omega)]; exact hI.2.2.2.2.1 kk j hkk (by omega)
          · have hj : j < S.1 + 1 := hj
            rw [rc 8 (3 * j + kk) (by omega) (by omega)]
            show _ = if j = S.1 ∧ 5 + kk < 8 then v (5 + kk) else S.2 (5 + kk) j
            by_cases h : j = S.1
            · rw [if_pos ⟨h, by omega⟩, h, w3 kk (by omega)]
              have h3 : kk = 0 ∨ kk = 1 ∨ kk = 2 := by omega
              rcases h3 with rfl | rfl | rfl
              · exact hv.1.symm
              · exact hv.2.1.symm
              · exact hv.2.2.symm
            · rw [if_neg (by omega), w2 j kk (by omega) hkk, a6, if_neg (by omega)]; exact hI.2.2.2.2.2 kk j hkk (by omega)
          · funext j
            rw [rc c j (by omega) (by omega), w1 c j (by omega), a6, if_neg (by omega)]
        have wtn : ∀ z : Mem, (∀ c j, c ≠ 7 → z c j = w c j) → WT (addS S v) z S.1 := by
          intro z z1
          obtain ⟨-, -, b2, b3, -⟩ := hB.2.1 S.1 (Nat.lt_succ_self _)
          refine ⟨hn, ?_, ?_, b2, b3⟩
          · rw [z1 4 _ (by omega), w1 4 _ (by omega), a6, if_pos ⟨rfl, by omega, by omega⟩]
            show _ = if S.1 = S.1 ∧ 2 < 8 then v 2 else _
            rw [if_pos ⟨rfl, by omega⟩]
          · rw [z1 5 _ (by omega), w1 5 _ (by omega), a6, if_pos ⟨rfl, by omega, by omega⟩]
            show _ = if S.1 = S.1 ∧ 3 < 8 then v 3 else _
            rw [if_pos ⟨rfl, by omega⟩]
        have wto : ∀ z : Mem, (∀ c j, c ≠ 7 → z c j = w c j) → ∀ j, j < S.1 → WT (addS S v) z j := by
          intro z z1 j hj
          obtain ⟨-, -, b2, b3, -⟩ := hB.2.1 j (Nat.lt_succ_of_lt hj)
          refine ⟨by omega, ?_, ?_, b2, b3⟩
          · rw [z1 4 _ (by omega), w1 4 _ (by omega), a6, if_neg (by omega)]
            show _ = if j = S.1 ∧ 2 < 8 then v 2 else _
            rw [if_neg (by omega)]; exact hI.2.2.2.2.1 2 j (by omega) hj
          · rw [z1 5 _ (by omega), w1 5 _ (by omega), a6, if_neg (by omega)]
            show _ = if j = S.1 ∧ 3 < 8 then v 3 else _
            rw [if_neg (by omega)]; exact hI.2.2.2.2.1 3 j (by omega) hj
        induction k with
        | zero =>
          intro z hk z1 z2 z3 z4
          refine vc_NO_add_82 ⟨fun _ => ⟨n_in (by omega) (by omega), fun u1 hu1 u2 hu2 => ?_⟩, fun q => absurd (by decide) q⟩
          rw [n_ix (by omega)] at hu1
          exact fin 0 z hk z1 z2 z3 z4 (Or.inl rfl) u1 hu1 u2 hu2
        | succ k ih =>
          intro z hk z1 z2 z3 z4
          have hok := hI.2.1.1 k (by omega)
          refine vc_NO_add_82 ⟨fun q => absurd q (by rw [i_le, n_i (by omega), Int32.toInt_zero]; omega), fun _ => ?_⟩
          rw [n_s1, n_ix (by omega), n_ix (by omega), z2 k (by omega)]
          refine ⟨n_in (by omega) (by omega), sp_isBefore (wtn z z1) (wto z z1 _ hok) ⟨fun q => ⟨n_in (by omega) (by omega), fun u1 hu1 u2 hu2 => ?_⟩, fun q => ⟨n_in (by omega) (by omega), n_in (by omega) (by omega), fun u7 hu7 => ?_⟩⟩⟩
          · exact fin (k + 1) z hk z1 z2 z3 z4 (Or.inr (by have := bi_0.mp q; rw [show k + 1 - 1 = k by omega]; omega)) u1 hu1 u2 hu2
          · rw [n_m1]
            have hlt : wh (addS S v) S.1 < wh (addS S v) (o k) := by
              rcases Decidable.em (wh (addS S v) S.1 < wh (addS S v) (o k)) with h | h
              · exact h
              · exact absurd (bi_f h) q
            rw [z2 k (by omega)] at hu7
            refine ih u7 (by omega) (fun c j hc => ?_) (fun p hp => ?_) (fun p h1 h2 => ?_) (fun p h1 h2 => ?_)
            · rw [hu7, up_at, if_neg (by omega)]; exact z1 c j hc
            · rw [hu7, up_at, if_neg (by omega)]; exact z2 p (by omega)
            · rw [hu7, up_at]
              by_cases h3 : p = k + 1
              · rw [if_pos ⟨rfl, h3⟩, h3, show k + 1 - 1 = k by omega]
              · rw [if_neg (by omega)]; exact z3 p (by omega) h2
            · rcases Nat.lt_or_ge k p with h3 | h3
              · exact z4 p (by omega) h2
              · rw [show p = k by omega]; exact hlt
      exact key2 S.1 w (Nat.le_refl _) (fun _ _ _ => rfl) (fun p hp => by rw [w1 7 p (by omega), a6, if_neg (by omega)]; exact hI.2.2.2.1 p hp) (fun p h1 h2 => absurd h1 (by omega)) (fun p h1 h2 => absurd h1 (by omega))
  exact key1 3 0 u6 (by omega) (fun _ _ _ => rfl) (fun _ _ _ _ => rfl) (fun k' h => absurd h (Nat.not_lt_zero _))
theorem sp_removeLast {n : Nat} {a : Nat → Nat → Int32} (hI : NoI (n + 1, a) o μ) (hq : ∀ u o', NoI (n, a) o' u → (∀ c, (c < 1 ∨ 8 < c) → u c = μ c) → Q 0 u) : Ct G (d + 1) M_NO_removeLast [.inr 1] μ Q := by
  have h60 : n + 1 ≤ 60 := hI.n60
  obtain ⟨k, hk, he⟩ := hI.2.1.2.2 n (Nat.lt_succ_self n)
  have hk : k < n + 1 := hk
  have hsz : μ 1 7 = nI (n + 1) := hI.2.2.1
  refine en_NO_removeLast (vc_NO_removeLast_0 ?_)
  rw [hsz, n_s1, ← he]
  refine sp_positionOf hI hk ?_
  have key : ∀ m p (z : Mem), p + m = n → k ≤ p → (∀ c j, c ≠ 7 → z c j = μ c j) → (∀ r, r < p → z 7 r = nI (delO o k r)) → (∀ r, p ≤ r → r < n + 1 → (r = k ∨ k < r) → z 7 r = nI (o r)) → AW G (d + 1) M_NO_removeLast Q 11 [some (.inr 1), some (.inl (nI p))] [] z := by
    intro m
    induction m with
    | zero =>
      intro p z hp hkp z1 z2 z3
      have hs : z 1 7 = nI (n + 1) := by rw [z1 1 7 (by omega)]; exact hsz
      refine vc_NO_removeLast_11 ?_
      rw [hs, n_s1]
      refine ⟨fun _ u hu => ?_, fun q => absurd ((n_le (by omega) (by omega)).mpr (by omega)) q⟩
      have rc : ∀ c j, c ≠ 7 → ¬ (c = 1 ∧ j = 7) → u c j = μ c j := fun c j h1 h2 => by rw [hu, up_at, if_neg h2]; exact z1 c j h1
      obtain ⟨b1, b2, b3⟩ := hI.1
      refine hq u (delO o k) ⟨⟨by show n ≤ 60; omega, fun j hj => b2 j (Nat.lt_succ_of_lt hj), b3⟩, ord_del hI.2.1 hk he, by rw [hu, up_at, if_pos ⟨rfl, rfl⟩], fun r hr => ?_, fun kk j hkk hj => ?_, fun kk j hkk hj => ?_⟩ (fun c hc => ?_)
      · have hr : r < n := hr
        rw [hu, up_at, if_neg (by omega)]; exact z2 r (by omega)
      · have hj : j < n := hj
        rw [rc (2 + kk) j (by omega) (by omega)]; exact hI.2.2.2.2.1 kk j hkk (show j < n + 1 by omega)
      · have hj : j < n := hj
        rw [rc 8 _ (by omega) (by omega)]; exact hI.2.2.2.2.2 kk j hkk (show j < n + 1 by omega)
      · funext j
        exact rc c j (by omega) (by omega)
    | succ m ih =>
      intro p z hp hkp z1 z2 z3
      have hs : z 1 7 = nI (n + 1) := by rw [z1 1 7 (by omega)]; exact hsz
      refine vc_NO_removeLast_11 ?_
      rw [hs, n_s1, n_p1]
      refine ⟨fun q => absurd ((n_le (by omega) (by omega)).mp q) (by omega), fun _ => ⟨n_in (by omega) (by omega), n_in (by omega) (by omega), fun u hu => ?_⟩⟩
      rw [n_ix (by omega), n_ix (by omega), z3 (p + 1) (by omega) (by omega) (Or.inr (by omega))] at hu
      refine ih (p + 1) u (by omega) (by omega) (fun c j hc => ?_) (fun r hr => ?_) (fun r h1 h2 h3 => ?_)
      · rw [hu, up_at, if_neg (by omega)]; exact z1 c j hc
      · rw [hu, up_at]
        by_cases h : r = p
        · rw [if_pos ⟨rfl, h⟩]; unfold delO; rw [if_neg (by omega), h]
        · rw [if_neg (by omega)]; exact z2 r (by omega)
      · rw [hu, up_at, if_neg (by omega)]; exact z3 r (by omega) h2 h3
  exact key (n - k) k μ (by omega) (Nat.le_refl _) (fun _ _ _ => rfl) (fun r hr => by rw [hI.2.2.2.1 r (show r < n + 1 by omega)]; unfold delO; rw [if_pos hr]) (fun r h1 h2 h3 => hI.2.2.2.1 r h2)
end
