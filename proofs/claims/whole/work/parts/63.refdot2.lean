/-! the reference: the table of dots, and what it chooses -/
theorem cst_bd {D : Nat → Int} {lo : Int} {m : Nat} (hm : m ≤ 60) (hd : ∀ (i j : Nat), i < m → j < 200 → (lo + 2 * (j : Int) - D i).natAbs ≤ 300) {k j : Nat} (hk : k < m) (hj : j < 200) : cst D lo m k j ≤ 1000000 ∧ (k ≤ j → cst D lo m k j = GQ D lo m k j ∧ GQ D lo m k j < 1000000) := by
  unfold cst
  by_cases h : j < k
  · rw [if_pos h]; exact ⟨Nat.le_refl _, fun h2 => absurd h (by omega)⟩
  · have := GQ_bd hd k hk j (by omega) hj
    have : 300 * (k + 1) ≤ 300 * 60 := Nat.mul_le_mul_left 300 (by omega)
    rw [if_neg h]; exact ⟨by omega, fun _ => ⟨rfl, by omega⟩⟩
theorem blw_bd {D : Nat → Int} {lo : Int} {m : Nat} (hm : m ≤ 60) (hd : ∀ (i j : Nat), i < m → j < 200 → (lo + 2 * (j : Int) - D i).natAbs ≤ 300) {k j : Nat} (hk : k < m) (hj : j ≤ 200) : blw D lo m k j ≤ 1000000 ∧ (k < j → blw D lo m k j = hqM (GQ D lo m k) k j ∧ hqM (GQ D lo m k) k j < 1000000) := by
  unfold blw
  by_cases h : j ≤ k
  · rw [if_pos h]; exact ⟨Nat.le_refl _, fun h2 => absurd h (by omega)⟩
  · obtain ⟨⟨a, a1, a2, a3⟩, -⟩ := hq_spec (GQ D lo m k) k j (by omega)
    have := ((cst_bd hm hd hk (show a < 200 by omega)).2 a1).2
    rw [if_neg h]; exact ⟨by omega, fun _ => ⟨rfl, by omega⟩⟩
theorem blw_s {D : Nat → Int} {lo : Int} {m : Nat} (hm : m ≤ 60) (hd : ∀ (i j : Nat), i < m → j < 200 → (lo + 2 * (j : Int) - D i).natAbs ≤ 300) {k j : Nat} (hk : k < m) (hj : j < 200) : blw D lo m k (j + 1) = min (blw D lo m k j) (cst D lo m k j) := by
  have b1 := blw_bd hm hd hk (show j ≤ 200 by omega)
  have c1 := cst_bd hm hd hk hj
  rcases Nat.lt_trichotomy j k with h | h | h
  · have e1 : blw D lo m k (j + 1) = 1000000 := by unfold blw; rw [if_pos (by omega)]
    have e2 : blw D lo m k j = 1000000 := by unfold blw; rw [if_pos (by omega)]
    have e3 : cst D lo m k j = 1000000 := by unfold cst; rw [if_pos h]
    omega
  · have e1 : blw D lo m k (j + 1) = GQ D lo m k k := by unfold blw; rw [if_neg (by omega)]; unfold hqM; rw [if_pos (by omega)]
    have e2 : blw D lo m k j = 1000000 := by unfold blw; rw [if_pos (by omega)]
    obtain ⟨e3, e4⟩ := c1.2 (by omega)
    rw [h] at e3 e4
    rw [e1, e2, h, e3]; omega
  · have e1 : blw D lo m k (j + 1) = min (hqM (GQ D lo m k) k j) (GQ D lo m k j) := by unfold blw; rw [if_neg (by omega)]; show (if j ≤ k then _ else _) = _; rw [if_neg (by omega)]
    rw [e1, (b1.2 h).1, (c1.2 (by omega)).1]
theorem cst_s {D : Nat → Int} {lo : Int} {m k j : Nat} (hm : m ≤ 60) (hd : ∀ (i j : Nat), i < m → j < 200 → (lo + 2 * (j : Int) - D i).natAbs ≤ 300) (hk : k < m) (hj : j < 200) : cst D lo m (k + 1) j = if blw D lo m k j < 1000000 then (lo + 2 * (j : Int) - D (m - 1 - (k + 1))).natAbs + blw D lo m k j else 1000000 := by
  have b1 := blw_bd hm hd hk (show j ≤ 200 by omega)
  unfold cst
  by_cases h : j < k + 1
  · have e2 : blw D lo m k j = 1000000 := by unfold blw; rw [if_pos (by omega)]
    rw [if_pos h, e2, if_neg (by omega)]
  · obtain ⟨e1, e2⟩ := b1.2 (by omega)
    rw [if_neg h, e1, if_pos e2]; rfl
section
variable {G : Gp} {d : Nat} {S : Sc} {o : Nat → Nat} {K KT : Nat → Int32} {μ : Mem} {Q : Int32 → Mem → Prop}
theorem ix4 {i s : Nat} : 400 * nI i + nI s = nI (400 * i + s) := by rw [show (400 : Int32) = nI 400 from rfl, pk_mul, nI_add]
theorem md_dtab {j m : Nat} {f : Nat → Nat} {B : Int} (hm : m ≤ 60) (hB : 18 ≤ B ∧ B ≤ 30) (hf : ∀ i, i < m → f i < 70) (h67 : ∀ i, i < m → (μ 67 i).toInt = (f i : Int) - B) (nxt : ∀ w : Mem, (∀ c, c ≠ 68 → w c = μ c) → (∀ i s, i < m → s < 400 → w 68 (400 * i + s) = nI (vl (fun i => (f i : Int)) (B - 199) m (m - 1 - i) s)) → AW G (d + 2) M_MD_dot Q 383 [some (.inr 42), some (.inl (nI j)), some (.inl (nI m)), some (.inl 400), some (.inl 0), none, none, none, none] [] w) : ∀ i, i ≤ m → ∀ w : Mem, (∀ c, c ≠ 68 → w c = μ c) → (∀ i' s, i ≤ i' → i' < m → s < 400 → w 68 (400 * i' + s) = nI (vl (fun i => (f i : Int)) (B - 199) m (m - 1 - i') s)) → AW G (d + 2) M_MD_dot Q 201 [some (.inr 42), some (.inl (nI j)), some (.inl (nI m)), some (.inl (nI i + -1)), none, none, none, none, none] [] w := by
  have hd : ∀ (i j : Nat), i < m → j < 200 → ((B - 199) + 2 * (j : Int) - (fun i => (f i : Int)) i).natAbs ≤ 300 := fun i j hi hj => by have := hf i hi; dsimp only; omega
  intro i
  induction i with
  | zero =>
    intro _ w w1 w2
    exact vc_MD_dot_201 ⟨fun _ => nxt w w1 (fun i s hi hs => w2 i s (Nat.zero_le _) hi hs), fun h => absurd (by decide) h⟩
  | succ i ihi =>
    intro him w w1 w2
    have himl : i < m := by omega
    refine vc_MD_dot_201 ⟨fun h => absurd h ?_, fun _ => ?_⟩
    · rw [n_m1, i_lt, n_i (by omega), Int32.toInt_zero]; omega
    rw [n_m1]
    have ei : vp_in (nI i) 60 := n_in (by omega) (by omega)
    have hfi := hf i himl
    have h67i := h67 i himl
    -- what stands below
    have row : ∀ n s, s + n = 400 → ∀ v : Mem, (∀ c, c ≠ 68 → v c = μ c) → (∀ i' s', i + 1 ≤ i' → i' < m → s' < 400 → v 68 (400 * i' + s') = nI (vl (fun i => (f i : Int)) (B - 199) m (m - 1 - i') s')) → (∀ s', s' < s → v 68 (400 * i + s') = nI (vl (fun i => (f i : Int)) (B - 199) m (m - 1 - i) s')) → ∀ x : Int32, (i + 1 = m → x = nI 1000000) → (i + 1 < m → x = nI (blw (fun i => (f i : Int)) (B - 199) m (m - 1 - (i + 1)) (s / 2))) → AW G (d + 2) M_MD_dot Q 212 [some (.inr 42), some (.inl (nI j)), some (.inl (nI m)), some (.inl (nI i)), some (.inl x), some (.inl (nI s)), none, none, none] [] v := by
      intro n
      induction n with
      | zero =>
        intro s hs v v1 v2 v3 x x1 x2
        refine vc_MD_dot_212 ⟨fun _ => ihi (by omega) v v1 (fun i' s' h1 h2 h3 => ?_), fun h => absurd ((n_le (a := 400) (by omega) (by omega)).mpr (by omega)) h⟩
        by_cases h : i' = i
        · rw [h]; exact v3 s' (by omega)
        · exact v2 i' s' (by omega) h2 h3
      | succ n ihn =>
        intro s hs v v1 v2 v3 x x1 x2
        have hs4 : s < 400 := by omega
        have e200 : (200 : Int32).toInt = 200 := by decide
        have es : (nI s - 200).toInt = (s : Int) - 200 := by rw [i_sub (by rw [n_i (by omega), e200]; omega) (by rw [n_i (by omega), e200]; omega), n_i (by omega), e200]
        -- the store
        have a319 : ∀ s0 : Int32, s0 = nI (vl (fun i => (f i : Int)) (B - 199) m (m - 1 - i) s) → AW G (d + 2) M_MD_dot Q 319 [some (.inr 42), some (.inl (nI j)), some (.inl (nI m)), some (.inl (nI i)), some (.inl x), some (.inl (nI s)), none, none, none] [.inl s0, .inl (400 * nI i + nI s), .inr 68] v := by
          intro s0 hs0
          refine vc_MD_dot_319 ?_
          have em : nI m - 1 = nI (m - 1) := by
            have : m = (m - 1) + 1 := by omega
            rw [show nI m = nI ((m - 1) + 1) by rw [← this], n_s1]
          rw [ix4, n_p1 (k := i), ix4, n_ix (by omega), n_ix (by omega), em, n_le (by omega) (by omega), n_p1]
          refine ⟨n_in (by omega) (by omega), fun u1 hu1 => ?_⟩
          rw [hs0] at hu1
          have g1 : ∀ c, c ≠ 68 → u1 c = μ c := fun c hc => by rw [← v1 c hc, hu1]; funext j'; rw [up_at, if_neg (by omega)]
          have g2 : ∀ i' s', i + 1 ≤ i' → i' < m → s' < 400 → u1 68 (400 * i' + s') = nI (vl (fun i => (f i : Int)) (B - 199) m (m - 1 - i') s') := fun i' s' h1 h2 h3 => by rw [hu1, up_at, if_neg (by omega)]; exact v2 i' s' h1 h2 h3
          have g3 : ∀ s', s' < s + 1 → u1 68 (400 * i + s') = nI (vl (fun i => (f i : Int)) (B - 199) m (m - 1 - i) s') := fun s' h1 => by
            rw [hu1, up_at]
            by_cases h : s' = s
            · rw [if_pos ⟨rfl, by omega⟩, h]
            · rw [if_neg (by omega)]; exact v3 s' (by omega)
          refine ⟨fun h => ihn (s + 1) (by omega) u1 g1 g2 g3 x x1 (fun h2 => absurd h2 (by omega)), fun h => ⟨n_in (by omega) (by omega), ?_⟩⟩
          have him1 : i + 1 < m := by omega
          have hk : m - 1 - (i + 1) < m := by omega
          rw [g2 (i + 1) s (Nat.le_refl _) him1 hs4, x2 him1]
          have bb := (blw_bd hm hd hk (show s / 2 ≤ 200 by omega)).1
          have cb := (cst_bd hm hd hk (show s / 2 < 200 by omega)).1
          have bs := blw_s hm hd hk (show s / 2 < 200 by omega)
          have vb : vl (fun i => (f i : Int)) (B - 199) m (m - 1 - (i + 1)) s ≤ 1000000 := by unfold vl; split <;> omega
          have nx : blw (fun i => (f i : Int)) (B - 199) m (m - 1 - (i + 1)) ((s + 1) / 2) = min (blw (fun i => (f i : Int)) (B - 199) m (m - 1 - (i + 1)) (s / 2)) (vl (fun i => (f i : Int)) (B - 199) m (m - 1 - (i + 1)) s) := by
            unfold vl
            by_cases h2 : s % 2 = 0
            · rw [if_pos h2, show (s + 1) / 2 = s / 2 by omega]; omega
            · rw [if_neg h2, show (s + 1) / 2 = s / 2 + 1 by omega, bs]
          rw [n_le (by omega) (by omega)]
          refine ⟨fun h2 => ihn (s + 1) (by omega) u1 g1 g2 g3 _ (fun h3 => absurd h3 (by omega)) (fun _ => by rw [nx, Nat.min_eq_left h2]), fun h2 => ⟨n_in (by omega) (by omega), fun y hy => ?_⟩⟩
          rw [hy]
          exact ihn (s + 1) (by omega) u1 g1 g2 g3 _ (fun h3 => absurd h3 (by omega)) (fun _ => by rw [nx, Nat.min_eq_right (by omega)])
        -- the value
        have a266 : ∀ s0 : Int32, s0 = nI (((s : Int) - 200 - ((f i : Int) - B)).natAbs) → ∀ x6 : Int32, (x6 = 0 ↔ s % 2 = 0) → AW G (d + 2) M_MD_dot Q 266 [some (.inr 42), some (.inl (nI j)), some (.inl (nI m)), some (.inl (nI i)), some (.inl x), some (.inl (nI s)), some (.inl x6), none, none] [.inl s0] v := by
          intro s0 hs0 x6 hx6
          have em : nI m - 1 = nI (m - 1) := by
            have : m = (m - 1) + 1 := by omega
            rw [show nI m = nI ((m - 1) + 1) by rw [← this], n_s1]
          refine vc_MD_dot_266 ?_
          rw [hx6, em, n_inj (by omega) (by omega)]
          have own : s % 2 ≠ 0 → ((s : Int) - 200 - ((f i : Int) - B)).natAbs = (B - 199 + 2 * ((s / 2 : Nat) : Int) - (f i : Int)).natAbs := fun h => by congr 1; omega
          refine ⟨fun h => ⟨fun h1 => ?_, fun h1 => a319 _ ?_⟩, fun h => a319 _ ?_⟩
          · have him1 : i + 1 < m := by omega
            have hk : m - 1 - (i + 1) < m := by omega
            have hb := blw_bd hm hd hk (show s / 2 ≤ 200 by omega)
            have hc := cst_s hm hd hk (show s / 2 < 200 by omega)
            rw [show m - 1 - (i + 1) + 1 = m - 1 - i by omega, show m - 1 - (m - 1 - i) = i by omega] at hc
            have hv : vl (fun i => (f i : Int)) (B - 199) m (m - 1 - i) s = if blw (fun i => (f i : Int)) (B - 199) m (m - 1 - (i + 1)) (s / 2) < 1000000 then (B - 199 + 2 * ((s / 2 : Nat) : Int) - (f i : Int)).natAbs + blw (fun i => (f i : Int)) (B - 199) m (m - 1 - (i + 1)) (s / 2) else 1000000 := by unfold vl; rw [if_neg h, hc]
            rw [x2 him1] at a319 ⊢
            rw [show (1000000 : Int32) = nI 1000000 from rfl, n_le (by omega) (by omega)]
            refine ⟨fun h2 => a319 _ ?_, fun h2 => a319 _ ?_⟩
            · rw [hv, if_neg (by omega)]
            · rw [hv, if_pos (by omega), hs0, own h, nI_add]
          · rw [hs0, own h]
            have hv : vl (fun i => (f i : Int)) (B - 199) m (m - 1 - i) s = (B - 199 + 2 * ((s / 2 : Nat) : Int) - (f i : Int)).natAbs := by
              unfold vl cst
              rw [if_neg h, show m - 1 - i = 0 by omega, if_neg (by omega)]
              unfold GQ
              rw [show m - 1 = i by omega]
            rw [hv]
          · unfold vl; rw [if_pos h]; rfl
        have a236 : ∀ s0 : Int32, (s0 = 0 ↔ s % 2 = 0) → AW G (d + 2) M_MD_dot Q 236 [some (.inr 42), some (.inl (nI j)), some (.inl (nI m)), some (.inl (nI i)), some (.inl x), some (.inl (nI s)), none, none, none] [.inl s0] v := by
          intro s0 hs0
          refine vc_MD_dot_236 ⟨ei, fun y hy => ?_⟩
          rw [n_ix (by omega), v1 67 (by omega)] at hy
          have ey : y.toInt = (s : Int) - 200 - ((f i : Int) - B) := by rw [hy, i_sub (by rw [es, h67i]; omega) (by rw [es, h67i]; omega), es, h67i]
          rw [i_le, ey, Int32.toInt_zero]
          refine ⟨fun h => a266 y (n_of' (by rw [ey]; omega)) s0 hs0, fun h => a266 (-y) (n_of' (by rw [i_neg (by omega), ey]; omega)) s0 hs0⟩
        refine vc_MD_dot_212 ⟨fun h => absurd ((n_le (a := 400) (by omega) (by omega)).mp h) (by omega), fun _ => ?_⟩
        rw [rem2_0 es]
        refine ⟨fun h => a236 0 ⟨fun _ => by omega, fun _ => rfl⟩, fun h => a236 1 ⟨fun e => absurd e (by decide), fun e => absurd (by omega) h⟩⟩
    refine row 400 0 (by omega) w w1 w2 (fun s' h => absurd h (Nat.not_lt_zero s')) 1000000 (fun _ => rfl) (fun _ => ?_)
    unfold blw
    rw [if_pos (by omega)]; rfl
end
