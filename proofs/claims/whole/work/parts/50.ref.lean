/-! the reference: its small methods -/
def KWs (S : Sc) (K KT : Nat → Int32) : Prop := ∀ b, b < 20 → (S.2 11 b = 0 ∨ S.2 11 b = 1) ∧ (S.2 11 b = 0 → S.2 8 b = bfK S b) ∧ (KT b = 0 ∨ KT b = 1) ∧ (KT b = 0 → K b = if b = 0 then 0 else K (b - 1)) ∧ rg (K b) 0 2
def RN (S : Sc) (μ : Mem) : Prop := Bd S ∧ μ 42 8 = nI S.1 ∧ ∀ k j, k < 8 → j < S.1 → μ (43 + k) j = S.2 k j
def RK (S : Sc) (K KT : Nat → Int32) (μ : Mem) : Prop := KWs S K KT ∧ (∀ b, b < 20 → μ 51 b = (if S.2 11 b = 1 then S.2 8 b + 8 else 0) ∧ μ 52 b = (if KT b = 1 then K b + 1 else 0)) ∧ ∀ k, k < 5 → μ 53 k = S.2 10 k
def FrR (μ u : Mem) : Prop := ∀ c, c < 42 → u c = μ c
section
variable {G : Gp} {d : Nat} {S : Sc} {o : Nat → Nat} {K KT : Nat → Int32} {μ : Mem} {Q : Int32 → Mem → Prop}
theorem RN.at (h : RN S μ) {k j c : Nat} (hj : j < S.1) (hk : k < 8) (hc : c = 43 + k) : μ c j = S.2 k j := by rw [hc]; exact h.2.2 k j hk hj
theorem RN.n60 (h : RN S μ) : S.1 ≤ 60 := h.1.1
theorem RN.congr (h : RN S μ) {u : Mem} (h8 : u 42 8 = μ 42 8) (hu : ∀ c, 43 ≤ c → c ≤ 50 → u c = μ c) : RN S u := ⟨h.1, h8.trans h.2.1, fun k j hk hj => by rw [hu (43 + k) (by omega) (by omega)]; exact h.2.2 k j hk hj⟩
theorem RK.congr (h : RK S K KT μ) {u : Mem} (hu : ∀ c, 51 ≤ c → c ≤ 53 → u c = μ c) : RK S K KT u := ⟨h.1, fun b hb => by rw [hu 51 (by omega) (by omega), hu 52 (by omega) (by omega)]; exact h.2.1 b hb, fun k hk => by rw [hu 53 (by omega) (by omega)]; exact h.2.2 k hk⟩
theorem md_in {x a b : Int32} (hq : Q (bi (a.toInt ≤ x.toInt ∧ x.toInt ≤ b.toInt)) μ) : Ct G d M_MD_in [.inl x, .inl a, .inl b] μ Q := by
  refine en_MD_in (vc_MD_in_0 ?_)
  rw [i_lt, i_lt]
  exact ⟨fun h => q_f hq (by omega), fun h => ⟨fun h2 => q_f hq (by omega), fun h2 => q_t hq (by omega)⟩⟩
theorem md_when {b t : Int32} (hb : rg b 0 19) (ht : rg t 0 999) (hq : ∀ x : Int32, x.toInt = 1000 * b.toInt + t.toInt → Q x μ) : Ct G d M_MD_when [.inl b, .inl t] μ Q := by
  unfold rg at hb ht
  have e : (1000 : Int32).toInt = 1000 := by decide
  have e1 : ((1000 : Int32) * b).toInt = 1000 * b.toInt := by rw [i_mul (by rw [e]; omega) (by rw [e]; omega), e]
  exact en_MD_when (vc_MD_when_0 (hq _ (by rw [i_add (by rw [e1]; omega) (by rw [e1]; omega), e1])))
theorem md_whenOf (hR : RN S μ) {j : Nat} (hj : j < S.1) (hq : ∀ x : Int32, x.toInt = wh S j → Q x μ) : Ct G (d + 1) M_MD_whenOf [.inr 42, .inl (nI j)] μ Q := by
  have h60 := hR.n60
  have e1 : vp_in (nI j) 60 := n_in (by omega) (by omega)
  obtain ⟨-, -, b1, b2, -⟩ := hR.1.2.1 j hj
  refine en_MD_whenOf (vc_MD_whenOf_0 ⟨e1, e1, ?_⟩)
  rw [n_ix (by omega), hR.at hj (k := 2) (by omega) rfl, hR.at hj (k := 3) (by omega) rfl]
  exact md_when b1 b2 hq
def obI (b : Option Nat) : Int32 := match b with
  | none => -1
  | some b => nI b
theorem md_mate (hR : RN S μ) {j : Nat} (hj : j < S.1) (hq : Q (mateF S j) μ) : Ct G (d + 2) M_MD_mate [.inr 42, .inl (nI j)] μ Q := by
  have h60 := hR.n60
  refine en_MD_mate (vc_MD_mate_0 ?_)
  have e2 : vp_in (nI j) 60 := n_in (by omega) (by omega)
  have ij : ix (nI j) = j := n_ix (by omega)
  have m1 : (-1 : Int32) < 0 := by decide
  have key : ∀ n k, k + n = S.1 → AW G (d + 2) M_MD_mate Q 4 [some (.inr 42), some (.inl (nI j)), some (.inl (obI (bestC S j k))), some (.inl (nI k))] [] μ := by
    intro n
    induction n with
    | zero =>
      intro k hk
      have hkn : k = S.1 := by omega
      subst hkn
      refine vc_MD_mate_4 ?_
      rw [hR.2.1, ij]
      unfold mateF at hq
      refine ⟨fun _ => ⟨fun h => ?_, fun h => ?_⟩, fun h => absurd ((n_le (by omega) (by omega)).mpr (Nat.le_refl _)) h⟩
      · cases hb : bestC S j S.1 with
        | none => rw [hb] at hq; exact hq
        | some b =>
          rw [hb] at h
          have hbl := ((bestC_spec S j S.1).2 b hb).1
          exact absurd h (by show ¬ nI b < 0; rw [i_lt, n_i (by omega)]; simp)
      · cases hb : bestC S j S.1 with
        | none => rw [hb] at h; exact absurd m1 h
        | some b =>
          have hbl := ((bestC_spec S j S.1).2 b hb).1
          rw [hb] at hq
          show vp_in (nI b) 60 ∧ _
          rw [show ix (obI (some b)) = b from n_ix (by omega), hR.at hbl (k := 1) (by omega) rfl, hR.at hj (k := 1) (by omega) rfl]
          exact ⟨n_in (by omega) (by omega), e2, fun h2 => by dsimp only at hq; rw [if_pos h2] at hq; exact hq, fun h2 => by dsimp only at hq; rw [if_neg h2] at hq; exact hq⟩
    | succ n ih =>
      intro k hk
      have hi := ih (k + 1) (by omega)
      have hkS : k < S.1 := by omega
      have e1 : vp_in (nI k) 60 := n_in (by omega) (by omega)
      have nc : ¬ Cand S j k → AW G (d + 2) M_MD_mate Q 4 [some (.inr 42), some (.inl (nI j)), some (.inl (obI (bestC S j k))), some (.inl (nI (k + 1)))] [] μ := fun h => by
        have e : bestC S j (k + 1) = bestC S j k := by
          cases hb : bestC S j k with
          | none => simp only [bestC, hb]; rw [if_neg h]
          | some b => simp only [bestC, hb]; rw [if_neg (fun hh => h hh.1)]
        rw [e] at hi; exact hi
      refine vc_MD_mate_4 ?_
      rw [hR.2.1, ij, n_ix (by omega), hR.at hkS (k := 4) (by omega) rfl, hR.at hj (k := 4) (by omega) rfl, hR.at hkS (k := 0) (by omega) rfl, hR.at hj (k := 0) (by omega) rfl, n_p1]
      refine ⟨fun h => absurd ((n_le (by omega) (by omega)).mp h) (by omega), fun _ => ⟨e1, e2, fun h => nc (fun hc => h hc.1), fun h1 => ⟨e1, e2, fun h => nc (fun hc => h hc.2.1), fun h2 => md_whenOf hR hkS (fun x hx => md_whenOf hR hj (fun y hy => ?_))⟩⟩⟩
      rw [i_le, hx, hy]
      refine ⟨fun h => nc (fun hc => absurd hc.2.2 (by omega)), fun h3 => ?_⟩
      have hc : Cand S j k := ⟨h1, h2, by omega⟩
      cases hb : bestC S j k with
      | none =>
        refine ⟨fun _ => ?_, fun h => absurd m1 h⟩
        have e : bestC S j (k + 1) = some k := by simp only [bestC, hb]; rw [if_pos hc]
        rw [e] at hi; exact hi
      | some b =>
        have hbl := ((bestC_spec S j k).2 b hb).1
        refine ⟨fun h => absurd h (by show ¬ nI b < 0; rw [i_lt, n_i (by omega)]; simp), fun _ => md_whenOf hR hkS (fun x2 hx2 => md_whenOf hR (show b < S.1 by omega) (fun y2 hy2 => ?_))⟩
        rw [i_lt, hx2, hy2]
        refine ⟨fun h => ?_, fun h => ?_⟩
        · have e : bestC S j (k + 1) = some b := by simp only [bestC, hb]; rw [if_neg (fun hh => absurd hh.2 (by omega))]
          rw [e] at hi; exact hi
        · have e : bestC S j (k + 1) = some k := by simp only [bestC, hb]; rw [if_pos ⟨hc, by omega⟩]
          rw [e] at hi; exact hi
  exact key S.1 0 (by omega)
theorem md_keyOf (hR : RK S K KT μ) (hB : Bd S) : ∀ b, b < 20 → Q (S.2 8 b) μ → Ct G d M_MD_keyOf [.inr 42, .inl (nI b)] μ Q := by
  intro b hb hq
  have e8 : (8 : Int32).toInt = 8 := by decide
  have sub8 : ∀ b', b' < 20 → S.2 8 b' + 8 - 8 = S.2 8 b' ∧ ¬ S.2 8 b' + 8 = 0 := fun b' hb' => by
    have h := (hB.2.2.1 b' hb').1
    unfold rg at h
    have e1 : (S.2 8 b' + 8).toInt = (S.2 8 b').toInt + 8 := by rw [i_add (by rw [e8]; omega) (by rw [e8]; omega), e8]
    refine ⟨i_eq.mpr (by rw [i_sub (by rw [e1, e8]; omega) (by rw [e1, e8]; omega), e1, e8]; omega), fun e => ?_⟩
    have := i_eq.mp e
    rw [e1, Int32.toInt_zero] at this; omega
  refine en_MD_keyOf (vc_MD_keyOf_0 ?_)
  have key : ∀ k, k < 20 → S.2 8 k = S.2 8 b → AW G d M_MD_keyOf Q 2 [some (.inr 42), none, some (.inl (nI k))] [] μ := by
    intro k
    induction k with
    | zero =>
      intro hk he
      obtain ⟨w1, w2, -⟩ := hR.1 0 hk
      refine vc_MD_keyOf_2 ⟨fun _ => ?_, fun h => absurd (by decide) h⟩
      rw [n_ix (by omega), (hR.2.1 0 hk).1]
      have e1 : vp_in (nI 0) 20 := n_in (by omega) (by omega)
      refine ⟨e1, fun h => ⟨e1, ?_⟩, fun h => ?_⟩
      · rcases w1 with w | w
        · rw [if_neg (by rw [w]; decide)] at h; exact absurd rfl h
        · rw [if_pos w, (sub8 0 hk).1, he]; exact hq
      · rcases w1 with w | w
        · have := w2 w
          unfold bfK at this
          rw [if_pos rfl] at this
          rw [← he, this] at hq; exact hq
        · rw [if_pos w] at h; exact absurd h (sub8 0 hk).2
    | succ k ih =>
      intro hk he
      obtain ⟨w1, w2, -⟩ := hR.1 (k + 1) hk
      refine vc_MD_keyOf_2 ⟨fun h => absurd h (by rw [i_le, n_i (by omega), Int32.toInt_zero]; omega), fun _ => ?_⟩
      rw [n_ix (by omega), (hR.2.1 (k + 1) hk).1, n_m1]
      have e1 : vp_in (nI (k + 1)) 20 := n_in (by omega) (by omega)
      refine ⟨e1, fun h => ⟨e1, fun h2 => ⟨e1, ?_⟩, fun h2 => absurd h2 h⟩, fun h => ih (by omega) ?_⟩
      · rcases w1 with w | w
        · rw [if_neg (by rw [w]; decide)] at h; exact absurd rfl h
        · rw [if_pos w, (sub8 (k + 1) hk).1, he]; exact hq
      · rcases w1 with w | w
        · have := w2 w
          unfold bfK at this
          rw [if_neg (by omega), Nat.add_sub_cancel] at this
          rw [← this]; exact he
        · rw [if_pos w] at h; exact absurd h (sub8 (k + 1) hk).2
  exact key b hb rfl
theorem md_clefOf (hR : RK S K KT μ) : ∀ b, b < 20 → Q (K b) μ → Ct G d M_MD_clefOf [.inr 42, .inl (nI b)] μ Q := by
  intro b hb hq
  have e8 : (1 : Int32).toInt = 1 := by decide
  have sub8 : ∀ b', b' < 20 → K b' + 1 - 1 = K b' ∧ ¬ K b' + 1 = 0 := fun b' hb' => by
    have h := (hR.1 b' hb').2.2.2.2
    unfold rg at h
    have e1 : (K b' + 1).toInt = (K b').toInt + 1 := by rw [i_add (by rw [e8]; omega) (by rw [e8]; omega), e8]
    refine ⟨i_eq.mpr (by rw [i_sub (by rw [e1, e8]; omega) (by rw [e1, e8]; omega), e1, e8]; omega), fun e => ?_⟩
    have := i_eq.mp e
    rw [e1, Int32.toInt_zero] at this; omega
  refine en_MD_clefOf (vc_MD_clefOf_0 ?_)
  have key : ∀ k, k < 20 → K k = K b → AW G d M_MD_clefOf Q 2 [some (.inr 42), none, some (.inl (nI k))] [] μ := by
    intro k
    induction k with
    | zero =>
      intro hk he
      obtain ⟨-, -, w1, w2, -⟩ := hR.1 0 hk
      refine vc_MD_clefOf_2 ⟨fun _ => ?_, fun h => absurd (by decide) h⟩
      rw [n_ix (by omega), (hR.2.1 0 hk).2]
      have e1 : vp_in (nI 0) 20 := n_in (by omega) (by omega)
      refine ⟨e1, fun h => ⟨e1, ?_⟩, fun h => ?_⟩
      · rcases w1 with w | w
        · rw [if_neg (by rw [w]; decide)] at h; exact absurd rfl h
        · rw [if_pos w, (sub8 0 hk).1, he]; exact hq
      · rcases w1 with w | w
        · have := w2 w
          rw [if_pos rfl] at this
          rw [← he, this] at hq; exact hq
        · rw [if_pos w] at h; exact absurd h (sub8 0 hk).2
    | succ k ih =>
      intro hk he
      obtain ⟨-, -, w1, w2, -⟩ := hR.1 (k + 1) hk
      refine vc_MD_clefOf_2 ⟨fun h => absurd h (by rw [i_le, n_i (by omega), Int32.toInt_zero]; omega), fun _ => ?_⟩
      rw [n_ix (by omega), (hR.2.1 (k + 1) hk).2, n_m1]
      have e1 : vp_in (nI (k + 1)) 20 := n_in (by omega) (by omega)
      refine ⟨e1, fun h => ⟨e1, fun h2 => ⟨e1, ?_⟩, fun h2 => absurd h2 h⟩, fun h => ih (by omega) ?_⟩
      · rcases w1 with w | w
        · rw [if_neg (by rw [w]; decide)] at h; exact absurd rfl h
        · rw [if_pos w, (sub8 (k + 1) hk).1, he]; exact hq
      · rcases w1 with w | w
        · have := w2 w
          rw [if_neg (by omega), Nat.add_sub_cancel] at this
          rw [← this]; exact he
        · rw [if_pos w] at h; exact absurd h (sub8 (k + 1) hk).2
  exact key b hb rfl
def ltM (x : Int32) (i : Nat) : Nat := if x = 0 then ([6, 2, 5, 1, 4, 0, 3] : List Nat).getD i 0 else ([3, 0, 4, 1, 5, 2, 6] : List Nat).getD i 0
theorem lt_t0 : ∀ i, i < 7 → (3 + 4 * (6 - nI i)) - (3 + 4 * (6 - nI i)) / 7 * 7 = nI (([6, 2, 5, 1, 4, 0, 3] : List Nat).getD i 0) := by decide
theorem lt_t1 : ∀ i, i < 7 → (3 + 4 * nI i) - (3 + 4 * nI i) / 7 * 7 = nI (([3, 0, 4, 1, 5, 2, 6] : List Nat).getD i 0) := by decide
theorem md_letter {x : Int32} {i : Nat} (hi : i < 7) (hq : Q (nI (ltM x i)) μ) : Ct G d M_MD_letter [.inl (nI i), .inl x] μ Q := by
  refine en_MD_letter (vc_MD_letter_0 ⟨fun h y hy => ?_, fun h => ?_⟩)
  · rw [hy, lt_t0 i hi]; unfold ltM at hq; rw [if_pos h] at hq; exact hq
  · rw [lt_t1 i hi]; unfold ltM at hq; rw [if_neg h] at hq; exact hq
theorem ltM_lt (x : Int32) {i : Nat} (hi : i < 7) : ltM x i < 7 := by
  have h1 : ∀ i, i < 7 → ([6, 2, 5, 1, 4, 0, 3] : List Nat).getD i 0 < 7 := by decide
  have h2 : ∀ i, i < 7 → ([3, 0, 4, 1, 5, 2, 6] : List Nat).getD i 0 < 7 := by decide
  unfold ltM
  split
  · exact h1 i hi
  · exact h2 i hi
theorem ltM_ln {f x : Int32} {i : Nat} (h : x = 0 ↔ f ≤ 0) : ltM x i = lnF f i := by
  unfold ltM lnF
  by_cases h0 : f ≤ 0
  · rw [if_pos (h.mpr h0), if_pos h0]
  · rw [if_neg (fun e => h0 (h.mp e)), if_neg h0]
theorem rg_15 {a : Int32} (h : rg a (-7) 7) : a ∈ ([-7, -6, -5, -4, -3, -2, -1, 0, 1, 2, 3, 4, 5, 6, 7] : List Int32) := by
  unfold rg at h
  simp only [List.mem_cons, List.not_mem_nil, or_false, i_eq]
  have e : ((-7 : Int32).toInt = -7 ∧ (-6 : Int32).toInt = -6 ∧ (-5 : Int32).toInt = -5 ∧ (-4 : Int32).toInt = -4 ∧ (-3 : Int32).toInt = -3 ∧ (-2 : Int32).toInt = -2 ∧ (-1 : Int32).toInt = -1 ∧ (0 : Int32).toInt = 0 ∧ (1 : Int32).toInt = 1 ∧ (2 : Int32).toInt = 2 ∧ (3 : Int32).toInt = 3 ∧ (4 : Int32).toInt = 4 ∧ (5 : Int32).toInt = 5 ∧ (6 : Int32).toInt = 6 ∧ (7 : Int32).toInt = 7) := by decide
  omega
theorem al_tab : ∀ f ∈ ([-7, -6, -5, -4, -3, -2, -1, 0, 1, 2, 3, 4, 5, 6, 7] : List Int32), ∀ l, l < 7 → (∀ i, i < f.toInt.natAbs → lnF f i ≠ l) → alF f l = 0 := by decide +kernel
theorem al_tab2 : ∀ f ∈ ([-7, -6, -5, -4, -3, -2, -1, 0, 1, 2, 3, 4, 5, 6, 7] : List Int32), ∀ l, l < 7 → ∀ i, i < f.toInt.natAbs → lnF f i = l → alF f l = if f ≤ 0 then -2 else 2 := by decide +kernel
theorem md_keyAlter {f : Int32} {l : Nat} (hf : rg f (-7) 7) (hl : l < 7) (hq : Q (alF f l) μ) : Ct G (d + 1) M_MD_keyAlter [.inl f, .inl (nI l)] μ Q := by
  have hm := rg_15 hf
  unfold rg at hf
  have e0 : (0 : Int32).toInt = 0 := by decide
  have hneg : (-f).toInt = -f.toInt := i_neg (by omega)
  refine en_MD_keyAlter (vc_MD_keyAlter_0 ?_)
  have key : ∀ n k, k + n = f.toInt.natAbs → (∀ i, i < k → lnF f i ≠ l) → AW G (d + 1) M_MD_keyAlter Q 2 [some (.inl f), some (.inl (nI l)), some (.inl (nI k))] [] μ := by
    intro n
    induction n with
    | zero =>
      intro k hk hn
      have hz := al_tab f hm l hl (fun i hi => hn i (by omega))
      rw [hz] at hq
      refine vc_MD_keyAlter_2 ⟨fun h0 => ⟨fun _ => hq, fun h => absurd ?_ h⟩, fun h0 => ⟨fun _ => hq, fun h => absurd ?_ h⟩⟩
      · rw [i_le, n_i (by omega)]; rw [i_le, e0] at h0; omega
      · rw [i_le, n_i (by omega), hneg]; rw [i_le, e0] at h0; omega
    | succ n ih =>
      intro k hk hn
      have hk7 : k < 7 := by omega
      have hln := lnF_lt f k hk7
      have go : ¬ nI (lnF f k) = nI l → AW G (d + 1) M_MD_keyAlter Q 2 [some (.inl f), some (.inl (nI l)), some (.inl (nI k + 1))] [] μ := fun h => by
        rw [n_p1]
        exact ih (k + 1) (by omega) (fun i hi => by
          rcases Nat.lt_or_ge i k with h3 | h3
          · exact hn i h3
          · rw [show i = k by omega]; exact fun e => h (by rw [e]))
      have yes : nI (lnF f k) = nI l → (f ≤ 0 → Q (-2) μ) ∧ (¬ f ≤ 0 → Q 2 μ) := fun h => by
        have e := al_tab2 f hm l hl k (by omega) ((n_inj (by omega) (by omega)).mp h)
        rw [e] at hq
        exact ⟨fun h => by rw [if_pos h] at hq; exact hq, fun h => by rw [if_neg h] at hq; exact hq⟩
      have ask0 : f ≤ 0 → Ct G d M_MD_letter [.inl (nI k), .inl 0] μ (fun r2 u1 => (¬ r2 = nI l → AW G (d + 1) M_MD_keyAlter Q 2 [some (.inl f), some (.inl (nI l)), some (.inl (nI k + 1))] [] u1) ∧ (r2 = nI l → (f ≤ 0 → Q (-2) u1) ∧ (¬ f ≤ 0 → Q 2 u1))) := fun h => md_letter hk7 (by rw [ltM_ln (f := f) ⟨fun _ => h, fun _ => rfl⟩]; exact ⟨go, yes⟩)
      have ask1 : ¬ f ≤ 0 → Ct G d M_MD_letter [.inl (nI k), .inl 1] μ (fun r2 u1 => (¬ r2 = nI l → AW G (d + 1) M_MD_keyAlter Q 2 [some (.inl f), some (.inl (nI l)), some (.inl (nI k + 1))] [] u1) ∧ (r2 = nI l → (f ≤ 0 → Q (-2) u1) ∧ (¬ f ≤ 0 → Q 2 u1))) := fun h => md_letter hk7 (by rw [ltM_ln (f := f) ⟨fun e => absurd e (by decide), fun e => absurd e h⟩]; exact ⟨go, yes⟩)
      refine vc_MD_keyAlter_2 ⟨fun h0 => ⟨fun h => ?_, fun _ => ⟨ask0, ask1⟩⟩, fun h0 => ⟨fun h => ?_, fun _ => ⟨ask0, ask1⟩⟩⟩
      · rw [i_le, n_i (by omega)] at h; rw [i_le, e0] at h0; omega
      · rw [i_le, n_i (by omega), hneg] at h; rw [i_le, e0] at h0; omega
  exact key f.toInt.natAbs 0 (by omega) (fun i hi => absurd hi (Nat.not_lt_zero i))
theorem md_seat (hR : RN S μ) (hK : RK S K KT μ) {j : Nat} (hj : j < S.1) (hq : Q (nI (seatN S j)) μ) : Ct G d M_MD_seat [.inr 42, .inl (nI j)] μ Q := by
  have h60 := hR.n60
  obtain ⟨t1, t2⟩ := st_n hR.1 hj
  obtain ⟨v1, v2⟩ := vo_n hR.1 hj
  have i0 : ix (0 : Int32) = 0 := rfl
  have i1 : ix (1 : Int32) = 1 := rfl
  have e4 : ∀ a b : Nat, 4 * nI a + nI b = nI (a * 4 + b) := fun a b => by rw [show (4 : Int32) = nI 4 from rfl, pk_mul, nI_add, Nat.mul_comm]
  have e40 : ∀ a : Nat, 4 * nI a + 0 = nI (a * 4 + 0) := fun a => e4 a 0
  have w0 : vp_in (0 : Int32) 5 := n_in (k := 0) (by omega) (by omega)
  have w1 : vp_in (1 : Int32) 5 := n_in (k := 1) (by omega) (by omega)
  have ej : vp_in (nI j) 60 := n_in (by omega) (by omega)
  have r0 := rg_01 hR.1.2.2.2.1
  have r1 := rg_01 hR.1.2.2.2.2.1
  have n01 : ∀ x : Int32, (x = 0 ∨ x = 1) → (¬ x = 1 ↔ x = 0) := fun x hx => by
    rcases hx with h | h
    · rw [h]; decide
    · rw [h]; decide
  refine en_MD_seat (vc_MD_seat_0 ?_)
  rw [i0, i1, hK.2.2 0 (by omega), hK.2.2 1 (by omega), n_ix (by omega), hR.at hj (k := 0) (by omega) rfl, hR.at hj (k := 4) (by omega) rfl, t1, v1, show (7 : Int32) = nI 7 from rfl, n_rem (by omega) (by omega) (by omega)]
  unfold seatN seF at hq
  refine ⟨w0, fun h => ⟨ej, fun y hy => ⟨w1, fun h2 => ?_, fun h2 => ⟨ej, ?_⟩⟩⟩, fun h => ⟨ej, fun y hy => ⟨w1, fun h2 => ?_, fun h2 => ⟨ej, ?_⟩⟩⟩⟩
  · rw [hy, e40]; rw [if_pos ((n01 _ r0).mp h), if_pos ((n01 _ r1).mp h2)] at hq; exact hq
  · rw [hy, e4]; rw [if_pos ((n01 _ r0).mp h), if_neg (fun e => (n01 _ r1).mpr e h2)] at hq; exact hq
  · rw [hy, e40]; rw [if_neg (fun e => (n01 _ r0).mpr e h), if_pos ((n01 _ r1).mp h2)] at hq; exact hq
  · rw [hy, e4]; rw [if_neg (fun e => (n01 _ r0).mpr e h), if_neg (fun e => (n01 _ r1).mpr e h2)] at hq; exact hq
end
