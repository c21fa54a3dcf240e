/-! the reference: dot -/
def pfC (D : Nat → Int) (lo : Int) (m N i : Nat) (b : Nat → Nat) : Prop := ∀ i', i' < i → HiM (GQ D lo m (m - 1 - i')) (m - 1 - i') (if i' = 0 then N else b (i' - 1)) (b i')
theorem him_ex (g : Nat → Nat) (a : Nat) : ∀ n, ∃ r, HiM g a (a + n + 1) r := by
  intro n
  induction n with
  | zero => exact ⟨a, Nat.le_refl a, by omega, fun j h1 h2 => by rw [show j = a by omega]; exact Nat.le_refl _, fun j h1 h2 => by omega⟩
  | succ n ih =>
    obtain ⟨r, h1, h2, h3, h4⟩ := ih
    by_cases h : g (a + n + 1) ≤ g r
    · refine ⟨a + n + 1, by omega, by omega, fun j a1 a2 => ?_, fun j a1 a2 => by omega⟩
      by_cases hj : j = a + n + 1
      · rw [hj]; exact Nat.le_refl _
      · exact Nat.le_trans h (h3 j a1 (by omega))
    · refine ⟨r, h1, by omega, fun j a1 a2 => ?_, fun j a1 a2 => ?_⟩
      · by_cases hj : j = a + n + 1
        · rw [hj]; omega
        · exact h3 j a1 (by omega)
      · by_cases hj : j = a + n + 1
        · rw [hj]; omega
        · exact h4 j a1 (by omega)
theorem pf_ext {D : Nat → Int} {lo : Int} {m N i : Nat} {b : Nat → Nat} {r : Nat} (h : pfC D lo m N i b) (hr : HiM (GQ D lo m (m - 1 - i)) (m - 1 - i) (if i = 0 then N else b (i - 1)) r) : pfC D lo m N (i + 1) (stT b i r) := by
  intro i' hi'
  by_cases h1 : i' = i
  · subst h1
    rw [stT_at]
    by_cases h0 : i' = 0
    · rw [if_pos h0] at hr ⊢; exact hr
    · rw [if_neg h0] at hr ⊢; rw [stT_lt (by omega)]; exact hr
  · have := h i' (by omega)
    have e1 : stT b i r i' = b i' := stT_lt (by omega)
    have e2 : stT b i r (i' - 1) = b (i' - 1) := stT_lt (by omega)
    rw [e1, e2]; exact this
theorem chs_ext {D : Nat → Int} {lo : Int} {m N : Nat} (hmN : m ≤ N) : ∀ n i, i + n = m → ∀ b : Nat → Nat, pfC D lo m N i b → ∃ b', Chs D lo m N b' ∧ ∀ i', i' < i → b' i' = b i' := by
  intro n
  induction n with
  | zero =>
    intro i hi b h
    have hi : i = m := by omega
    subst hi
    exact ⟨b, h, fun _ _ => rfl⟩
  | succ n ih =>
    intro i hi b h
    have hu : m - 1 - i < (if i = 0 then N else b (i - 1)) := by
      by_cases h0 : i = 0
      · rw [if_pos h0]; omega
      · rw [if_neg h0]
        have := (h (i - 1) (by omega)).1
        omega
    obtain ⟨r, hr⟩ := him_ex (GQ D lo m (m - 1 - i)) (m - 1 - i) ((if i = 0 then N else b (i - 1)) - (m - 1 - i) - 1)
    rw [show m - 1 - i + ((if i = 0 then N else b (i - 1)) - (m - 1 - i) - 1) + 1 = (if i = 0 then N else b (i - 1)) by omega] at hr
    obtain ⟨b', h1, h2⟩ := ih (i + 1) (by omega) (stT b i r) (pf_ext h hr)
    exact ⟨b', h1, fun i' hi' => by rw [h2 i' (by omega), stT_lt hi']⟩
def aDotR (S : Sc) (K : Nat → Int32) (x r : Int32) : Prop := (¬ isN S x ∧ r = -2) ∨ (isN S x ∧ ((S.2 7 (ix x) = 0 ∧ r = -1) ∨ (S.2 7 (ix x) ≠ 0 ∧ ∃ m f b i, Lst gtR (rdP S (ix x) S.1) m f ∧ m ≤ 60 ∧ Chs (fun i => (f i : Int)) ((loF (K (baN S (ix x)))).toInt - 199) m 200 b ∧ i < m ∧ f i = stN S (ix x) ∧ r.toInt = 2 * (b i : Int) - 99)))
section
variable {G : Gp} {d : Nat} {S : Sc} {o : Nat → Nat} {K KT : Nat → Int32} {μ : Mem} {Q : Int32 → Mem → Prop}
theorem md_dch (hR : RN S μ) (hK : RK S K KT μ) {j m : Nat} (hj : j < S.1) {f : Nat → Nat} {B : Int} (hBe : B = (loF (K (baN S j))).toInt) (hm : m ≤ 60) (hB : 18 ≤ B ∧ B ≤ 30) (hf : ∀ i, i < m → f i < 70) (h67 : ∀ i, i < m → (μ 67 i).toInt = (f i : Int) - B) (h68 : ∀ i s, i < m → s < 400 → μ 68 (400 * i + s) = nI (vl (fun i => (f i : Int)) (B - 199) m (m - 1 - i) s)) {i0 : Nat} (hi0 : i0 < m) (hfi0 : f i0 = stN S j) (hq : ∀ r b i, Chs (fun i => (f i : Int)) (B - 199) m 200 b → i < m → f i = stN S j → r.toInt = 2 * (b i : Int) - 99 → Q r μ) : ∀ n i, i + n = m → ∀ b : Nat → Nat, pfC (fun i => (f i : Int)) (B - 199) m 200 i b → (∀ i', i' < i → f i' ≠ stN S j) → ∀ L, L = (if i = 0 then 400 else 2 * b (i - 1) + 1) → L ≤ 400 → AW G (d + 2) M_MD_dot Q 383 [some (.inr 42), some (.inl (nI j)), some (.inl (nI m)), some (.inl (nI L)), some (.inl (nI i)), none, none, none, none] [] μ := by
  have h60 := hR.n60
  have hd : ∀ (i j : Nat), i < m → j < 200 → ((B - 199) + 2 * (j : Int) - (fun i => (f i : Int)) i).natAbs ≤ 300 := fun i j hi hj => by have := hf i hi; dsimp only; omega
  intro n
  induction n with
  | zero =>
    intro i hi b hp hn
    exact absurd hfi0 (hn i0 (by omega))
  | succ n ih =>
    intro i hi b hp hn L hL hL4
    have him : i < m := by omega
    have hk : m - 1 - i < m := by omega
    have hu : m - 1 - i < (if i = 0 then 200 else b (i - 1)) := by
      by_cases h0 : i = 0
      · rw [if_pos h0]; omega
      · rw [if_neg h0]
        have := (hp (i - 1) (by omega)).1
        omega
    have hLU : ∀ t, 2 * t + 1 < L ↔ t < (if i = 0 then 200 else b (i - 1)) := fun t => by
      rw [hL]
      by_cases h0 : i = 0
      · rw [if_pos h0, if_pos h0]; omega
      · rw [if_neg h0, if_neg h0]; omega
    have hvb : ∀ s, s < 400 → vl (fun i => (f i : Int)) (B - 199) m (m - 1 - i) s ≤ 1000000 := fun s hs => by
      have := (cst_bd hm hd hk (show s / 2 < 200 by omega)).1
      unfold vl; split <;> omega
    have eL : nI L - 1 = nI L + -1 := by rw [Int32.sub_eq_add_neg]
    -- the space is found
    have don : ∀ sp, sp < L → (∀ s', s' < L → vl (fun i => (f i : Int)) (B - 199) m (m - 1 - i) sp ≤ vl (fun i => (f i : Int)) (B - 199) m (m - 1 - i) s') → (∀ s', sp < s' → s' < L → vl (fun i => (f i : Int)) (B - 199) m (m - 1 - i) sp < vl (fun i => (f i : Int)) (B - 199) m (m - 1 - i) s') → AW G (d + 2) M_MD_dot Q 397 [some (.inr 42), some (.inl (nI j)), some (.inl (nI m)), none, some (.inl (nI i)), some (.inl (nI sp)), some (.inl (nI 0 + -1)), none, none] [] μ := by
      intro sp hsp g1 g2
      have hkL := (hLU (m - 1 - i)).mpr hu
      have c0 := cst_bd hm hd hk (show m - 1 - i < 200 by omega)
      have vk : vl (fun i => (f i : Int)) (B - 199) m (m - 1 - i) (2 * (m - 1 - i) + 1) < 1000000 := by
        unfold vl
        rw [if_neg (by omega), show (2 * (m - 1 - i) + 1) / 2 = m - 1 - i by omega, (c0.2 (Nat.le_refl _)).1]
        exact (c0.2 (Nat.le_refl _)).2
      have vs : vl (fun i => (f i : Int)) (B - 199) m (m - 1 - i) sp < 1000000 := Nat.lt_of_le_of_lt (g1 _ hkL) vk
      have hodd : sp % 2 ≠ 0 := fun h => by unfold vl at vs; rw [if_pos h] at vs; omega
      have hge : m - 1 - i ≤ sp / 2 := by
        rcases Nat.lt_or_ge (sp / 2) (m - 1 - i) with h | h
        · unfold vl cst at vs; rw [if_neg hodd, if_pos h] at vs; omega
        · exact h
      have vo : ∀ t, m - 1 - i ≤ t → t < 200 → vl (fun i => (f i : Int)) (B - 199) m (m - 1 - i) (2 * t + 1) = GQ (fun i => (f i : Int)) (B - 199) m (m - 1 - i) t := fun t h1 h2 => by
        unfold vl
        rw [if_neg (by omega), show (2 * t + 1) / 2 = t by omega, ((cst_bd hm hd hk h2).2 h1).1]
      have esp : sp = 2 * (sp / 2) + 1 := by omega
      have hr : HiM (GQ (fun i => (f i : Int)) (B - 199) m (m - 1 - i)) (m - 1 - i) (if i = 0 then 200 else b (i - 1)) (sp / 2) := by
        refine ⟨hge, (hLU _).mp (by omega), fun t h1 h2 => ?_, fun t h1 h2 => ?_⟩
        · have h3 := (hLU t).mpr h2
          have := g1 _ h3
          rw [esp, vo (sp / 2) hge (by omega), vo t h1 (by omega)] at this; exact this
        · have h3 := (hLU t).mpr h2
          have := g2 (2 * t + 1) (by omega) h3
          rw [esp, vo (sp / 2) hge (by omega), vo t (by omega) (by omega)] at this; exact this
      have hpf := pf_ext hp hr
      refine vc_MD_dot_397 ⟨fun _ => ⟨n_in (by omega) (by omega), md_placeOf hR hK hj ?_⟩, fun h => absurd (by decide) h⟩
      have hpl : (plJ S K j).toInt = (stN S j : Int) - B := by
        have := (pl_i hR.1 hK.1 hj).1
        obtain ⟨s1, s2⟩ := st_n hR.1 hj
        rw [this, s1, n_i (by omega), hBe]
      have hcmp : μ 67 i = plJ S K j ↔ f i = stN S j := by rw [i_eq, h67 i him, hpl]; omega
      rw [n_ix (by omega), hcmp, n_p1]
      refine ⟨fun h => ih (i + 1) (by omega) (stT b i (sp / 2)) hpf (fun i' hi' => ?_) sp ?_ (by omega), fun h => ?_⟩
      · by_cases h2 : i' = i
        · rw [h2]; exact h
        · exact hn i' (by omega)
      · rw [if_neg (by omega), Nat.add_sub_cancel, stT_at]; exact esp
      · obtain ⟨b', c1, c2⟩ := chs_ext (show m ≤ 200 by omega) n (i + 1) (by omega) (stT b i (sp / 2)) hpf
        have e200 : (200 : Int32).toInt = 200 := by decide
        have e100 : (100 : Int32).toInt = 100 := by decide
        have es : (nI sp - 200).toInt = (sp : Int) - 200 := by rw [i_sub (by rw [n_i (by omega), e200]; omega) (by rw [n_i (by omega), e200]; omega), n_i (by omega), e200]
        refine hq _ b' i c1 him h ?_
        rw [i_add (by rw [es, e100]; omega) (by rw [es, e100]; omega), es, e100, c2 i (by omega), stT_at]; omega
    -- the way down
    have inn : ∀ s, s ≤ L → ∀ x5 : Int32, ((s = L ∧ x5 = -1) ∨ ∃ sp, x5 = nI sp ∧ s ≤ sp ∧ sp < L ∧ (∀ s', s ≤ s' → s' < L → vl (fun i => (f i : Int)) (B - 199) m (m - 1 - i) sp ≤ vl (fun i => (f i : Int)) (B - 199) m (m - 1 - i) s') ∧ ∀ s', sp < s' → s' < L → vl (fun i => (f i : Int)) (B - 199) m (m - 1 - i) sp < vl (fun i => (f i : Int)) (B - 199) m (m - 1 - i) s') → AW G (d + 2) M_MD_dot Q 397 [some (.inr 42), some (.inl (nI j)), some (.inl (nI m)), none, some (.inl (nI i)), some (.inl x5), some (.inl (nI s + -1)), none, none] [] μ := by
      intro s
      induction s with
      | zero =>
        intro _ x5 hx
        rcases hx with ⟨h1, _⟩ | ⟨sp, h1, h2, h3, h4, h5⟩
        · have := (hLU (m - 1 - i)).mpr hu; omega
        · rw [h1]; exact don sp h3 (fun s' => h4 s' (Nat.zero_le _)) h5
      | succ s ihs =>
        intro hsL x5 hx
        refine vc_MD_dot_397 ⟨fun h => absurd h ?_, fun _ => ?_⟩
        · rw [n_m1, i_lt, n_i (by omega), Int32.toInt_zero]; omega
        rw [n_m1]
        rcases hx with ⟨h1, h2⟩ | ⟨sp, h1, h2, h3, h4, h5⟩
        · rw [h2]
          refine ⟨fun _ => ihs (by omega) _ (Or.inr ⟨s, rfl, Nat.le_refl s, by omega, fun s' a1 a2 => by rw [show s' = s by omega]; exact Nat.le_refl _, fun s' a1 a2 => by omega⟩), fun h => absurd (by decide) h⟩
        · have b1 := hvb sp (by omega)
          have b2 := hvb s (by omega)
          rw [h1, ix4, ix4, n_ix (by omega), n_ix (by omega), h68 i sp him (by omega), h68 i s him (by omega), n_le (by omega) (by omega)]
          refine ⟨fun h => absurd h (by rw [i_lt, n_i (by omega), Int32.toInt_zero]; omega), fun _ => ⟨n_in (by omega) (by omega), n_in (by omega) (by omega), fun hle => ihs (by omega) _ (Or.inr ⟨sp, rfl, by omega, h3, fun s' a1 a2 => ?_, h5⟩), fun hle => ihs (by omega) _ (Or.inr ⟨s, rfl, Nat.le_refl s, by omega, fun s' a1 a2 => ?_, fun s' a1 a2 => ?_⟩)⟩⟩
          · by_cases h : s' = s
            · rw [h]; exact hle
            · exact h4 s' (by omega) a2
          · by_cases h : s' = s
            · rw [h]; exact Nat.le_refl _
            · have := h4 s' (by omega) a2; omega
          · have := h4 s' (by omega) a2; omega
    refine vc_MD_dot_383 ⟨fun h => absurd ((n_le (by omega) (by omega)).mp h) (by omega), fun _ y hy => ?_⟩
    rw [eL] at hy
    subst hy
    exact inn L (Nat.le_refl L) (-1) (Or.inl ⟨rfl, rfl⟩)
theorem md_dot (hI : RI S o K KT μ) {x : Int32} (hq : ∀ r u, aDotR S K x r → RI S o K KT u → FrR μ u → Q r u) : Ct G (d + 2) M_MD_dot [.inr 42, .inl x] μ Q := by
  have hI0 := hI
  obtain ⟨hR, hK, hO, hW⟩ := hI
  have h60 := hR.n60
  refine en_MD_dot (vc_MD_dot_0 (md_has hR ?_))
  rw [bi_0, Classical.not_not]
  refine ⟨fun hx => ?_, fun hx => hq _ _ (Or.inl ⟨hx, rfl⟩) hI0 (fun _ _ => rfl)⟩
  have hix := ix_i hx.1
  have hxx : x = nI (ix x) := n_of hx.1
  generalize hj : ix x = j at hix hxx
  have hjS : j < S.1 := by have := hx.2; omega
  rw [hxx, hR.at hjS (k := 7) (by omega) rfl]
  refine ⟨n_in (by omega) (by omega), fun hd => ?_, fun hd => hq _ _ (Or.inr ⟨hx, Or.inl ⟨by rw [hj]; exact hd, rfl⟩⟩) hI0 (fun _ _ => rfl)⟩
  obtain ⟨-, hB⟩ := pl_i hR.1 hK.1 hjS
  refine md_dcol hR hK hjS (fun w m f w1 w2 w3 w4 => ?_)
  have hf : ∀ i, i < m → f i < 70 := fun i hi => by
    obtain ⟨r, a1, a2, a3, a4⟩ := w2.1 i hi
    rw [← a4]; exact (st_n hR.1 a1).2
  refine md_dtab (by omega) hB hf w4 (fun v v1 v2 => ?_) m (Nat.le_refl m) w (fun _ _ => rfl) (fun i' s h1 h2 => absurd h1 (by omega))
  have vc : ∀ c, c ≠ 67 → c ≠ 68 → v c = μ c := fun c a b => by rw [v1 c b, w1 c a]
  have hRv : RN S v := hR.congr (by rw [vc 42 (by omega) (by omega)]) (fun c _ _ => vc c (by omega) (by omega))
  have hKv : RK S K KT v := hK.congr (fun c _ _ => vc c (by omega) (by omega))
  obtain ⟨i0, hi0, hfi0⟩ := w2.2.2 (stN S j) ⟨j, hjS, hd, rfl, rfl⟩
  refine md_dch hRv hKv hjS rfl (by omega) hB hf (by rw [v1 67 (by omega)]; exact w4) v2 hi0 hfi0 (fun r b i c1 c2 c3 c4 => ?_) m 0 (by omega) (fun _ => 0) (fun i' h => absurd h (Nat.not_lt_zero i')) (fun i' h => absurd h (Nat.not_lt_zero i')) 400 rfl (by omega)
  refine hq r v (Or.inr ⟨hx, Or.inr ⟨by rw [hj]; exact hd, m, f, b, i, by rw [hj]; exact w2, by omega, by rw [hj]; exact c1, c2, by rw [hj]; exact c3, c4⟩⟩) ⟨hRv, hKv, hO, fun h21 => ?_⟩ (fun c hc => vc c (by omega) (by omega))
  rw [vc 42 (by omega) (by omega)] at h21
  obtain ⟨g1, g2⟩ := hW h21
  refine ⟨g1.congr (fun c _ _ => vc c (by omega) (by omega)), ?_⟩
  unfold PlI
  rw [vc 42 (by omega) (by omega), vc 64 (by omega) (by omega), vc 66 (by omega) (by omega)]
  exact g2
end
