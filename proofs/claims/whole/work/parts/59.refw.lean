/-! the reference: count, ordered, sign; what is written -/
section
variable {G : Gp} {d : Nat} {S : Sc} {o : Nat → Nat} {K KT : Nat → Int32} {μ : Mem} {Q : Int32 → Mem → Prop}
theorem n_m1i {n : Nat} (h : n ≤ 60) : (nI n - 1).toInt = (n : Int) - 1 := by
  have e1 : (1 : Int32).toInt = 1 := by decide
  rw [i_sub (by rw [n_i (by omega), e1]; omega) (by rw [n_i (by omega), e1]; omega), n_i (by omega), e1]
theorem md_has (hR : RN S μ) {x : Int32} (hq : Q (bi (isN S x)) μ) : Ct G d M_MD_in [.inl x, .inl 0, .inl (μ 42 8 - 1)] μ Q := by
  refine md_in ?_
  rw [hR.2.1, n_m1i hR.n60, Int32.toInt_zero]
  have e : bi (0 ≤ x.toInt ∧ x.toInt ≤ (S.1 : Int) - 1) = bi (isN S x) := by
    by_cases h : isN S x
    · rw [bi_t h, bi_t ⟨h.1, by have := h.2; omega⟩]
    · rw [bi_f h, bi_f (fun h2 => h ⟨h2.1, by have := h2.2; omega⟩)]
  rw [e]; exact hq
def inc (S : Sc) (o : Nat → Nat) (x : Int32) (i : Nat) : Prop := x = 0 ∨ (x = 3 ∧ Beg S o i) ∨ (x ≠ 0 ∧ x ≠ 3 ∧ KJ S o (o i) = x)
theorem md_count (hI : RI S o K KT μ) {x : Int32} (hq : ∀ r u, aCount S o x r → RI S o K KT u → FrR μ u → Q r u) : Ct G (d + 6) M_MD_count [.inr 42, .inl x] μ Q := by
  refine en_MD_count (vc_MD_count_0 (md_in ?_))
  have e3 : (3 : Int32).toInt = 3 := by decide
  rw [bi_0, Classical.not_not, Int32.toInt_zero, e3]
  refine ⟨fun hx => ri_work hI (fun u a1 a2 a3 => ?_), fun hx => hq _ _ (Or.inl ⟨by omega, rfl⟩) hI (fun _ _ => rfl)⟩
  have hIu := a1
  obtain ⟨hR, hK, hO, hW⟩ := a1
  obtain ⟨hW, -⟩ := hW a2
  have h60 := hR.n60
  have t10 : ¬ (1 : Int32) = 0 := by decide
  have fin : Q (nI (sm S.1 (fun i => cite (inc S o x i) 1 0))) u := by
    refine hq _ u ?_ hIu a3
    have hx4 : x = nI 0 ∨ x = nI 1 ∨ x = nI 2 ∨ x = nI 3 := by
      simp only [i_eq, n_i (show 0 < 2147483648 by omega), n_i (show 1 < 2147483648 by omega), n_i (show 2 < 2147483648 by omega), n_i (show 3 < 2147483648 by omega)]
      omega
    rcases hx4 with h | h | h | h
    · refine Or.inr (Or.inl ⟨h, congrArg nI ?_⟩)
      have : ∀ n, sm n (fun i => cite (inc S o x i) 1 0) = n := by
        intro n
        induction n with
        | zero => rfl
        | succ n ih => unfold sm; rw [ih]; dsimp only; rw [cite_t (show inc S o x n from Or.inl h)]
      exact this S.1
    · refine Or.inr (Or.inr (Or.inl ⟨h, congrArg nI ?_⟩))
      rw [cnt_sm]
      refine Eq.trans (sm_congr S.1 (fun i hi => ?_)) (sm_ord hO _)
      have : inc S o x i ↔ KJ S o (o i) = 1 := by unfold inc; rw [h]; exact ⟨fun h => h.elim (fun h => absurd h (by decide)) (fun h => h.elim (fun h => absurd h.1 (by decide)) (fun h => h.2.2)), fun h => Or.inr (Or.inr ⟨by decide, by decide, h⟩)⟩
      rw [propext this]
    · refine Or.inr (Or.inr (Or.inr (Or.inl ⟨h, congrArg nI ?_⟩)))
      rw [cnt_sm]
      refine Eq.trans (sm_congr S.1 (fun i hi => ?_)) (sm_ord hO _)
      have : inc S o x i ↔ KJ S o (o i) = 2 := by unfold inc; rw [h]; exact ⟨fun h => h.elim (fun h => absurd h (by decide)) (fun h => h.elim (fun h => absurd h.1 (by decide)) (fun h => h.2.2)), fun h => Or.inr (Or.inr ⟨by decide, by decide, h⟩)⟩
      rw [propext this]
    · refine Or.inr (Or.inr (Or.inr (Or.inr ⟨h, congrArg nI ?_⟩)))
      rw [cntB_sm]
      refine sm_congr S.1 (fun i hi => ?_)
      have : inc S o x i ↔ Beg S o i := by unfold inc; rw [h]; exact ⟨fun h => h.elim (fun h => absurd h (by decide)) (fun h => h.elim (fun h => h.2) (fun h => absurd rfl h.2.1)), fun h => Or.inr (Or.inl ⟨rfl, h⟩)⟩
      rw [propext this]
  have key : ∀ n k, k + n = S.1 → AW G (d + 6) M_MD_count Q 20 [some (.inr 42), some (.inl x), some (.inl (nI (sm k (fun i => cite (inc S o x i) 1 0)))), some (.inl (nI k)), none, none] [] u := by
    intro n
    induction n with
    | zero =>
      intro k hk
      have hk : k = S.1 := by omega
      subst hk
      refine vc_MD_count_20 ?_
      rw [hR.2.1]
      exact ⟨fun _ => fin, fun h => absurd ((n_le (by omega) (by omega)).mpr (Nat.le_refl _)) h⟩
    | succ n ih =>
      intro k hk
      have hkS : k < S.1 := by omega
      have hok := hO.1 k hkS
      have ih := ih (k + 1) (by omega)
      have yes : inc S o x k → ∀ y : Int32, y = nI (sm k (fun i => cite (inc S o x i) 1 0)) + 1 → AW G (d + 6) M_MD_count Q 20 [some (.inr 42), some (.inl x), some (.inl y), some (.inl (nI k + 1)), none, none] [] u := fun h y hy => by
        rw [n_p1] at hy
        rw [hy, n_p1]
        unfold sm at ih; dsimp only at ih; rw [cite_t h] at ih; exact ih
      have no : ¬ inc S o x k → ∀ y : Int32, y = nI (sm k (fun i => cite (inc S o x i) 1 0)) + 0 → AW G (d + 6) M_MD_count Q 20 [some (.inr 42), some (.inl x), some (.inl y), some (.inl (nI k + 1)), none, none] [] u := fun h y hy => by
        rw [Int32.add_zero] at hy
        rw [hy, n_p1]
        unfold sm at ih; dsimp only at ih; rw [cite_f h] at ih; exact ih
      have eok : vp_in (nI (o k)) 60 := n_in (by omega) (by omega)
      have k56 : u 56 (o k) = KJ S o (o k) := (hW.2 (o k) hok).2.1
      have a61 : Beg S o k → AW G (d + 6) M_MD_count Q 61 [some (.inr 42), some (.inl x), some (.inl (nI (sm k (fun i => cite (inc S o x i) 1 0)))), some (.inl (nI k)), some (.inl (nI (o k))), none] [] u := by
        intro hb
        refine vc_MD_count_61 ?_
        rw [n_ix (by omega), k56]
        exact ⟨fun h => yes (Or.inl h), fun h => ⟨fun h3 => ⟨eok, fun h4 => no (fun hi => hi.elim h (fun hi => hi.elim (fun hi => h3 hi.1) (fun hi => h4 hi.2.2))), fun h4 => yes (Or.inr (Or.inr ⟨h, h3, h4⟩))⟩, fun h3 => ⟨fun h4 => absurd h4 t10, fun _ => yes (Or.inr (Or.inl ⟨h3, hb⟩))⟩⟩⟩
      refine vc_MD_count_20 ?_
      rw [hR.2.1, n_le (by omega) (by omega)]
      refine ⟨fun h => absurd h (by omega), fun _ => ⟨n_in (by omega) (by omega), fun y hy => ?_⟩⟩
      rw [n_ix (by omega), hW.1 k hkS] at hy
      subst hy
      refine ⟨fun h => a61 (Or.inl ?_), fun h => ?_⟩
      · rw [show (0 : Int32) = nI 0 from rfl, n_inj (by omega) (by omega)] at h; exact h
      · rw [show (0 : Int32) = nI 0 from rfl, n_inj (by omega) (by omega)] at h
        obtain ⟨k', hk'⟩ : ∃ k', k = k' + 1 := ⟨k - 1, by omega⟩
        have es : nI k - 1 = nI k' := by rw [hk', n_s1]
        rw [es, n_ix (show k' < 2147483648 by omega), hW.1 k' (by omega)]
        refine ⟨n_in (by omega) (by omega), md_whenOf hR (hO.1 k' (by omega)) (fun a ha => md_whenOf hR hok (fun b hb => ?_))⟩
        rw [i_eq (a := a), ha, hb, n_ix (show o k < 2147483648 by omega), k56]
        have hbg : Beg S o k ↔ ¬ wh S (o k') = wh S (o k) := by
          rw [hk']
          exact ⟨fun h => h.elim (fun h => by omega) (fun h => by rw [Nat.add_sub_cancel] at h; exact h), fun h => Or.inr (by rw [Nat.add_sub_cancel]; exact h)⟩
        refine ⟨fun he => ⟨fun h0 => yes (Or.inl h0), fun h0 => ⟨fun h3 => ⟨eok, fun h4 => no (fun hi => hi.elim h0 (fun hi => hi.elim (fun hi => h3 hi.1) (fun hi => h4 hi.2.2))), fun h4 => yes (Or.inr (Or.inr ⟨h0, h3, h4⟩))⟩, fun h3 => ⟨fun _ => no (fun hi => hi.elim h0 (fun hi => hi.elim (fun hi => hbg.mp hi.2 he) (fun hi => hi.2.1 h3))), fun h4 => absurd rfl h4⟩⟩⟩, fun hne => a61 (hbg.mpr hne)⟩
  exact key S.1 0 (by omega)
theorem md_ordered (hI : RI S o K KT μ) {x : Int32} (hq : ∀ r u, aOrd S o x r → RI S o K KT u → FrR μ u → Q r u) : Ct G (d + 6) M_MD_ordered [.inr 42, .inl x] μ Q := by
  refine en_MD_ordered (vc_MD_ordered_0 (md_has hI.1 ?_))
  rw [bi_0, Classical.not_not]
  refine ⟨fun hx => ri_work hI (fun u a1 a2 a3 => ?_), fun hx => hq _ _ (Or.inl ⟨hx, rfl⟩) hI (fun _ _ => rfl)⟩
  have h60 := hI.1.n60
  have hi := ix_i hx.1
  have hxs : ix x < S.1 := by have := hx.2; omega
  exact ⟨in_of hx.1 (by have := hx.2; omega), hq _ _ (Or.inr ⟨hx, (a1.2.2.2 a2).1.1 (ix x) hxs⟩) a1 a3⟩
theorem md_sign (hI : RI S o K KT μ) {x y : Int32} (hq : ∀ r u, aSign S o K x y r → RI S o K KT u → FrR μ u → Q r u) : Ct G (d + 7) M_MD_sign [.inr 42, .inl x, .inl y] μ Q := by
  refine en_MD_sign (vc_MD_sign_0 (md_has hI.1 ?_))
  rw [bi_0, Classical.not_not]
  refine ⟨fun hx => md_in ?_, fun hx => hq _ _ (Or.inl ⟨hx, rfl⟩) hI (fun _ _ => rfl)⟩
  have e5 : (5 : Int32).toInt = 5 := by decide
  rw [bi_0, Classical.not_not, Int32.toInt_zero, e5]
  refine ⟨fun hy => ri_work hI (fun u a1 a2 a3 => ?_), fun hy => hq _ _ (Or.inr ⟨hx, Or.inl ⟨by omega, rfl⟩⟩) hI (fun _ _ => rfl)⟩
  have h60 := hI.1.n60
  have hix := ix_i hx.1
  have hxx : x = nI (ix x) := n_of hx.1
  generalize hj : ix x = j at hix hxx
  have hjS : j < S.1 := by have := hx.2; omega
  have e1 : vp_in x 60 := by rw [hxx]; exact n_in (by omega) (by omega)
  obtain ⟨hR, hK, hO, hW0⟩ := a1
  obtain ⟨hW, -⟩ := hW0 a2
  have hIu : RI S o K KT u := ⟨hR, hK, hO, hW0⟩
  obtain ⟨k5, k6, k7⟩ := hW.2 j hjS
  have ok : ∀ r, ((y = nI 0 ∧ r = KJ S o j) ∨ (y = nI 1 ∧ r = if tieF S j = -1 then 0 else 1) ∨ (y = nI 2 ∧ r = NJ S o j) ∨ (y = nI 3 ∧ r = if KJ S o j = 0 then 0 else wdJ S o j) ∨ (y = nI 4 ∧ aCol S o j r) ∨ (y = nI 5 ∧ r = plJ S K j + 100)) → ∀ v, RI S o K KT v → FrR μ v → Q r v := fun r h v b1 b2 => hq r v (Or.inr ⟨hx, Or.inr (by rw [hj]; exact h)⟩) b1 b2
  rw [k5, k6, k7, tie_lt h60]
  refine ⟨fun h => ?_, fun h => ⟨e1, ok _ (Or.inl ⟨h, rfl⟩) u hIu a3⟩, fun h => ⟨e1, fun h2 => ok _ (Or.inr (Or.inl ⟨h, by rw [if_pos h2]⟩)) u hIu a3, fun h2 => ok _ (Or.inr (Or.inl ⟨h, by rw [if_neg h2]⟩)) u hIu a3⟩, fun h => ⟨e1, fun h2 => ok _ (Or.inr (Or.inr (Or.inl ⟨h, by rw [h2]⟩))) u hIu a3, fun h2 => ok _ (Or.inr (Or.inr (Or.inl ⟨h, ((NJ_01 S o j).resolve_left h2).symm⟩))) u hIu a3⟩, fun h => ⟨e1, fun h2 => ?_, fun h2 => ok _ (Or.inr (Or.inr (Or.inr (Or.inl ⟨h, by rw [if_pos h2]⟩)))) u hIu a3⟩, fun h => ?_⟩
  · have h5 : y = nI 5 := by rw [i_eq, n_i (by omega)]; omega
    rw [hxx]
    exact md_placeOf hR hK hjS (ok _ (Or.inr (Or.inr (Or.inr (Or.inr (Or.inr ⟨h5, rfl⟩))))) u hIu a3)
  · rw [hxx]
    exact md_width hR hW hjS (ok _ (Or.inr (Or.inr (Or.inr (Or.inl ⟨h, by rw [if_neg h2]⟩)))) u hIu a3)
  · rw [hxx]
    exact md_columnOf hIu a2 hjS (fun r v b1 b2 b3 => ok r (Or.inr (Or.inr (Or.inr (Or.inr (Or.inl ⟨h, b1⟩))))) v b2 (fun c hc => by rw [b3 c hc, a3 c hc]))
def TV (told val : Nat → Int32) : Prop := ∀ b, b < 20 → (told b = 0 ∨ told b = 1) ∧ (told b = 0 → val b = if b = 0 then 0 else val (b - 1))
theorem TV.tell {told val : Nat → Int32} (h : TV told val) (b : Nat) (x : Int32) : TV (fun c => if c = b then 1 else told c) (tlF told val b x) := by
  intro j hj
  obtain ⟨h1, h2⟩ := h j hj
  dsimp only
  by_cases hjb : j = b
  · rw [if_pos hjb]; exact ⟨Or.inr rfl, fun e => absurd e (by decide)⟩
  · rw [if_neg hjb]
    refine ⟨h1, fun h0 => ?_⟩
    have h2 := h2 h0
    unfold tlF
    rcases Nat.eq_zero_or_pos j with hz | hz
    · rw [if_pos hz] at h2 ⊢
      rw [if_neg (by omega)]; exact h2
    · rw [if_neg (show ¬ j = 0 by omega)] at h2 ⊢
      by_cases hc : b ≤ j ∧ ∀ c, c < j + 1 → b < c → told c = 0
      · rw [if_pos hc, if_pos ⟨by omega, fun c a e => hc.2 c (by omega) e⟩]
      · rw [if_neg hc, if_neg (fun hc2 => hc ⟨by omega, fun c a e => ?_⟩)]
        · exact h2
        · by_cases hcj : c = j
          · rw [hcj]; exact h0
          · exact hc2.2 c (by omega) e
theorem tl_at {told val : Nat → Int32} {b : Nat} {x : Int32} : tlF told val b x b = x := by unfold tlF; rw [if_pos ⟨Nat.le_refl b, fun c a e => absurd a (by omega)⟩]
theorem tl_told {told val : Nat → Int32} {b j : Nat} {x : Int32} (h : told j = 1) (hj : j ≠ b) : tlF told val b x j = val j := by
  unfold tlF
  rw [if_neg (fun hc => ?_)]
  have := hc.2 j (by omega) (by omega)
  rw [h] at this; exact absurd this (by decide)
theorem KWs.tv (h : KWs S K KT) : TV (S.2 11) (S.2 8) ∧ TV KT K ∧ ∀ b, b < 20 → rg (K b) 0 2 := ⟨fun b hb => ⟨(h b hb).1, (h b hb).2.1⟩, fun b hb => ⟨(h b hb).2.2.1, (h b hb).2.2.2.1⟩, fun b hb => (h b hb).2.2.2.2⟩
theorem KWs.of (h1 : TV (S.2 11) (S.2 8)) (h2 : TV KT K) (h3 : ∀ b, b < 20 → rg (K b) 0 2) : KWs S K KT := fun b hb => ⟨(h1 b hb).1, (h1 b hb).2, (h2 b hb).1, (h2 b hb).2, h3 b hb⟩
theorem RK.same {S' : Sc} (h : RK S K KT μ) (h8 : S'.2 8 = S.2 8) (h11 : S'.2 11 = S.2 11) (h10 : S'.2 10 = S.2 10) {u : Mem} (hu : ∀ c, 51 ≤ c → c ≤ 53 → u c = μ c) : RK S' K KT u := by
  obtain ⟨t1, t2, t3⟩ := h.1.tv
  refine ⟨KWs.of (by rw [h8, h11]; exact t1) t2 t3, fun b hb => ?_, fun k hk => ?_⟩
  · rw [h8, h11, hu 51 (by omega) (by omega), hu 52 (by omega) (by omega)]; exact h.2.1 b hb
  · rw [h10, hu 53 (by omega) (by omega)]; exact h.2.2 k hk
theorem md_note (hR : RN S μ) (hK : RK S K KT μ) {x0 x1 x2 x3 x4 : Int32} (h1 : ¬ (rg x0 0 69 ∧ rg x1 (-4) 4 ∧ rg x2 0 19 ∧ rg x3 0 999 ∧ rg x4 0 3) → Q (-3) μ) (h2 : (rg x0 0 69 ∧ rg x1 (-4) 4 ∧ rg x2 0 19 ∧ rg x3 0 999 ∧ rg x4 0 3) → S.1 = 60 → Q (-5) μ) (h3 : (rg x0 0 69 ∧ rg x1 (-4) 4 ∧ rg x2 0 19 ∧ rg x3 0 999 ∧ rg x4 0 3) → S.1 < 60 → ∀ u, (Bd (addS S (vF x0 x1 x2 x3 x4)) → RN (addS S (vF x0 x1 x2 x3 x4)) u) → RK (addS S (vF x0 x1 x2 x3 x4)) K KT u → u 42 21 = 0 → FrR μ u → Q (nI S.1) u) : Ct G (d + 1) M_MD_note [.inr 42, .inl x0, .inl x1, .inl x2, .inl x3, .inl x4] μ Q := by
  have h60 := hR.n60
  have e0 : (0 : Int32).toInt = 0 := by decide
  have e69 : (69 : Int32).toInt = 69 := by decide
  have em4 : (-4 : Int32).toInt = -4 := by decide
  have e4 : (4 : Int32).toInt = 4 := by decide
  have e19 : (19 : Int32).toInt = 19 := by decide
  have e999 : (999 : Int32).toInt = 999 := by decide
  have e3 : (3 : Int32).toInt = 3 := by decide
  refine en_MD_note (vc_MD_note_0 (md_in ?_))
  rw [bi_0, e0, e69]
  refine ⟨fun h => h1 (fun hh => h hh.1), fun g0 => md_in ?_⟩
  rw [bi_0, em4, e4]
  refine ⟨fun h => h1 (fun hh => h hh.2.1), fun g1 => md_in ?_⟩
  rw [bi_0, e0, e19]
  refine ⟨fun h => h1 (fun hh => h hh.2.2.1), fun g2 => md_in ?_⟩
  rw [bi_0, e0, e999]
  refine ⟨fun h => h1 (fun hh => h hh.2.2.2.1), fun g3 => md_in ?_⟩
  rw [bi_0, e0, e3]
  refine ⟨fun g4 => ?_, fun h => h1 (fun hh => h hh.2.2.2.2)⟩
  have ok : rg x0 0 69 ∧ rg x1 (-4) 4 ∧ rg x2 0 19 ∧ rg x3 0 999 ∧ rg x4 0 3 := ⟨Classical.not_not.mp g0, Classical.not_not.mp g1, Classical.not_not.mp g2, Classical.not_not.mp g3, Classical.not_not.mp g4⟩
  rw [hR.2.1, show (60 : Int32) = nI 60 from rfl, n_inj (by omega) (by omega)]
  refine ⟨fun hn => ?_, fun hn => h2 ok hn⟩
  have hlt : S.1 < 60 := by omega
  have ev : vp_in (nI S.1) 60 := n_in (by omega) (by omega)
  have iv : ix (nI S.1) = S.1 := n_ix (by omega)
  have cst : ∀ (w w' : Mem) (c j : Nat) (x : Int32), ¬ (42 = c ∧ 8 = j) → w 42 8 = nI S.1 → w' = up w c j x → w' 42 8 = nI S.1 := fun w w' c j x hne h e => by rw [e, up_at, if_neg hne]; exact h
  refine ⟨ev, fun u11 h11 => ?_⟩
  rw [iv] at h11
  have n11 := cst _ _ _ _ _ (by omega) hR.2.1 h11
  rw [n11, iv]
  refine ⟨ev, fun u12 h12 => ?_⟩
  have n12 := cst _ _ _ _ _ (by omega) n11 h12
  rw [n12, iv]
  refine ⟨ev, fun u13 h13 => ?_⟩
  have n13 := cst _ _ _ _ _ (by omega) n12 h13
  rw [n13, iv]
  refine ⟨ev, fun u14 h14 => ?_⟩
  have n14 := cst _ _ _ _ _ (by omega) n13 h14
  rw [n14, iv]
  refine ⟨ev, fun u15 h15 u16 h16 => ?_⟩
  have n15 := cst _ _ _ _ _ (by omega) n14 h15
  have n16 := cst _ _ _ _ _ (by omega) n15 h16
  rw [n16, iv]
  refine ⟨ev, fun u17 h17 => ?_⟩
  have n17 := cst _ _ _ _ _ (by omega) n16 h17
  rw [n17, iv]
  refine ⟨ev, fun u18 h18 => ?_⟩
  have n18 := cst _ _ _ _ _ (by omega) n17 h18
  rw [n18, iv]
  refine ⟨ev, fun u19 h19 u20 h20 => ?_⟩
  have n19 := cst _ _ _ _ _ (by omega) n18 h19
  rw [n19, n_p1] at h20
  have n20 : u20 42 8 = nI (S.1 + 1) := by rw [h20, up_at, if_pos ⟨rfl, rfl⟩]
  rw [n20, n_s1]
  have a : ∀ c j, u20 c j = if j = S.1 ∧ 43 ≤ c ∧ c ≤ 50 then vF x0 x1 x2 x3 x4 (c - 43) else if c = 42 ∧ j = 8 then nI (S.1 + 1) else if c = 42 ∧ j = 21 then 0 else μ c j := by
    intro c j
    rw [h20, up_at, h19, up_at, h18, up_at, h17, up_at, h16, up_at, h15, up_at, h14, up_at, h13, up_at, h12, up_at, h11, up_at]
    by_cases hc : 43 ≤ c ∧ c ≤ 50
    · have h8 : c = 43 ∨ c = 44 ∨ c = 45 ∨ c = 46 ∨ c = 47 ∨ c = 48 ∨ c = 49 ∨ c = 50 := by omega
      by_cases hj : j = S.1
      · rcases h8 with rfl | rfl | rfl | rfl | rfl | rfl | rfl | rfl <;> simp [hj, vF]
      · rcases h8 with rfl | rfl | rfl | rfl | rfl | rfl | rfl | rfl <;> simp [hj]
    · rw [if_neg (show ¬ (j = S.1 ∧ 43 ≤ c ∧ c ≤ 50) by omega)]
      by_cases h42 : c = 42
      · subst h42; simp
      · rw [if_neg (by omega), if_neg (by omega), if_neg (by omega), if_neg (by omega), if_neg (by omega), if_neg (by omega), if_neg (by omega), if_neg (by omega), if_neg (by omega), if_neg (by omega), if_neg (by omega), if_neg (by omega)]
  refine h3 ok hlt u20 (fun hB => ⟨hB, n20, fun k j hk hj => ?_⟩) (hK.same (by funext j; show (if j = S.1 ∧ 8 < 8 then _ else _) = _; rw [if_neg (by omega)]) (by funext j; show (if j = S.1 ∧ 11 < 8 then _ else _) = _; rw [if_neg (by omega)]) (by funext j; show (if j = S.1 ∧ 10 < 8 then _ else _) = _; rw [if_neg (by omega)]) (fun c b1 b2 => ?_)) ?_ (fun c hc => ?_)
  · show _ = if j = S.1 ∧ k < 8 then _ else _
    have hj : j < S.1 + 1 := hj
    rw [a]
    by_cases h : j = S.1
    · rw [if_pos ⟨h, by omega, by omega⟩, if_pos ⟨h, hk⟩, Nat.add_sub_cancel_left]
    · rw [if_neg (by omega), if_neg (by omega), if_neg (by omega), if_neg (by omega)]; exact hR.2.2 k j hk (by omega)
  · funext j; rw [a, if_neg (by omega), if_neg (by omega), if_neg (by omega)]
  · rw [a, if_neg (by omega), if_neg (by omega), if_pos ⟨rfl, rfl⟩]
  · funext j; rw [a, if_neg (by omega), if_neg (by omega), if_neg (by omega)]
theorem mate_ge {j : Nat} (h60 : S.1 ≤ 60) : (0 : Int32) ≤ mateF S j ↔ ¬ mateF S j = -1 := by
  unfold mateF
  cases hb : bestC S j S.1 with
  | none => dsimp only; decide
  | some b =>
    have hbl := ((bestC_spec S j S.1).2 b hb).1
    dsimp only
    split
    · rw [i_le, n_i (by omega), Int32.toInt_zero]; exact ⟨fun _ => n_ne1 (by omega), fun _ => by omega⟩
    · decide
theorem md_mark (hR : RN S μ) (hK : RK S K KT μ) {x y v : Int32} (h1 : ¬ isN S x → Q (-2) μ) (h2 : isN S x → ¬ (rg y 0 2 ∧ rg v 0 (if y = 2 then 3 else 1)) → Q (-3) μ) (h3 : isN S x → (rg y 0 2 ∧ rg v 0 (if y = 2 then 3 else 1)) → (y = 0 ∧ v = 1 ∧ mateF S (ix x) = -1) → Q (-4) (up μ 42 21 0)) (h4 : isN S x → (rg y 0 2 ∧ rg v 0 (if y = 2 then 3 else 1)) → ¬ (y = 0 ∧ v = 1 ∧ mateF S (ix x) = -1) → ∀ u, (Bd (setA S (5 + ix y) (ix x) v) → RN (setA S (5 + ix y) (ix x) v) u) → RK (setA S (5 + ix y) (ix x) v) K KT u → u 42 21 = 0 → FrR μ u → Q (S.2 (5 + ix y) (ix x)) u) : Ct G (d + 3) M_MD_mark [.inr 42, .inl x, .inl y, .inl v] μ Q := by
  have h60 := hR.n60
  have e0 : (0 : Int32).toInt = 0 := by decide
  have e1 : (1 : Int32).toInt = 1 := by decide
  have e2 : (2 : Int32).toInt = 2 := by decide
  have e3 : (3 : Int32).toInt = 3 := by decide
  refine en_MD_mark (vc_MD_mark_0 (md_has hR ?_))
  rw [bi_0, Classical.not_not]
  refine ⟨fun hx => md_in ?_, fun hx => h1 hx⟩
  rw [bi_0, Classical.not_not, e0, e2]
  refine ⟨fun hy => h2 hx (fun h => hy h.1), fun hy => ?_⟩
  have hix := ix_i hx.1
  have hxx : x = nI (ix x) := n_of hx.1
  generalize hj : ix x = j at *
  have hjS : j < S.1 := by have := hx.2; omega
  have ev : vp_in x 60 := by rw [hxx]; exact n_in (by omega) (by omega)
  have ixx : ix x = j := hj
  -- the store
  have st : (rg y 0 2 ∧ rg v 0 (if y = 2 then 3 else 1)) → ¬ (y = 0 ∧ v = 1 ∧ mateF S j = -1) → ∀ c k, c = 48 + k → k < 3 → y = nI k → ∀ u3 : Mem, u3 = up μ 42 21 0 → ∀ u : Mem, u = up u3 c j v → ∀ s0, s0 = S.2 (5 + k) j → Q s0 u := by
    intro ok hnw c k hc hk hyk u3 hu3 u hu s0 hs0
    have ik : ix y = k := by rw [hyk]; exact n_ix (by omega)
    have a : ∀ c' j', u c' j' = if c' = c ∧ j' = j then v else if c' = 42 ∧ j' = 21 then 0 else μ c' j' := fun c' j' => by rw [hu, up_at, hu3, up_at]
    rw [hs0, ← ik]
    refine h4 hx ok hnw u (fun hB => ⟨hB, ?_, fun k' j' hk' hj' => ?_⟩) (hK.same (by funext j'; show (if 8 = 5 + ix y ∧ j' = j then _ else _) = _; rw [if_neg (by omega)]) (by funext j'; show (if 11 = 5 + ix y ∧ j' = j then _ else _) = _; rw [if_neg (by omega)]) (by funext j'; show (if 10 = 5 + ix y ∧ j' = j then _ else _) = _; rw [if_neg (by omega)]) (fun c' b1 b2 => ?_)) ?_ (fun c' hc' => ?_)
    · show _ = nI S.1
      rw [a, if_neg (by omega), if_neg (by omega)]; exact hR.2.1
    · have hj' : j' < S.1 := hj'
      show _ = if k' = 5 + ix y ∧ j' = j then v else S.2 k' j'
      rw [a]
      by_cases h : k' = 5 + ix y ∧ j' = j
      · rw [if_pos h, if_pos ⟨by omega, h.2⟩]
      · rw [if_neg h, if_neg (by omega), if_neg (by omega)]; exact hR.2.2 k' j' hk' hj'
    · funext j'; rw [a, if_neg (by omega), if_neg (by omega)]
    · rw [a, if_neg (by omega), if_pos ⟨rfl, rfl⟩]
    · funext j'; rw [a, if_neg (by omega), if_neg (by omega)]
  have a85 : (rg y 0 2 ∧ rg v 0 (if y = 2 then 3 else 1)) → ∀ u3 : Mem, u3 = up μ 42 21 0 → ∀ s0, s0 = S.2 (5 + ix y) j → AW G (d + 3) M_MD_mark Q 85 [some (.inr 42), some (.inl x), some (.inl y), some (.inl v), none] [.inl s0] u3 := by
    intro ok u3 hu3 s0 hs0
    have y3 : y = nI 0 ∨ y = nI 1 ∨ y = nI 2 := by
      have := ok.1
      unfold rg at this
      simp only [i_eq, n_i (show 0 < 2147483648 by omega), n_i (show 1 < 2147483648 by omega), n_i (show 2 < 2147483648 by omega)]; omega
    have hR3 : RN S u3 := hR.congr (by rw [hu3, up_at, if_neg (by omega)]) (fun c _ _ => by rw [hu3]; funext j'; rw [up_at, if_neg (by omega)])
    have s0k : ∀ k, k < 3 → y = nI k → s0 = S.2 (5 + k) j := fun k hk h => by rw [hs0, h, n_ix (by omega)]
    refine vc_MD_mark_85 ?_
    rw [ixx]
    refine ⟨fun h0 => ⟨fun h1 => ⟨ev, fun u hu => ?_⟩, fun h1 => ⟨ev, fun u hu => ?_⟩⟩, fun h0 => ⟨fun h1 => ⟨ev, fun u hu => ?_⟩, fun h1 => ?_⟩⟩
    · have : y = nI 2 := y3.elim (fun h => absurd h h0) (fun h => h.elim (fun h => absurd h h1) id)
      exact st ok (fun h => h0 h.1) 50 2 rfl (by omega) this u3 hu3 u hu s0 (s0k 2 (by omega) this)
    · exact st ok (fun h => h0 h.1) 49 1 rfl (by omega) h1 u3 hu3 u hu s0 (s0k 1 (by omega) h1)
    · exact st ok (fun h => h1 h.2.1) 48 0 rfl (by omega) h0 u3 hu3 u hu s0 (s0k 0 (by omega) h0)
    · rw [hxx]
      refine md_mate hR3 hjS ?_
      rw [mate_ge h60, Classical.not_not, ← hxx]
      refine ⟨fun hm => ⟨ev, fun u hu => st ok (fun h => hm h.2.2) 48 0 rfl (by omega) h0 u3 hu3 u hu s0 (s0k 0 (by omega) h0)⟩, fun hm => ?_⟩
      have := h3 hx ok ⟨h0, h1, hm⟩
      rw [← hu3] at this; exact this
  have a38 : ∀ s0 : Int32, s0.toInt = (if y = 2 then 3 else 1) → AW G (d + 3) M_MD_mark Q 38 [some (.inr 42), some (.inl x), some (.inl y), some (.inl v), none] [.inl s0, .inl 0, .inl v] μ := by
    intro s0 hs0
    refine vc_MD_mark_38 (md_in ?_)
    rw [bi_0, Classical.not_not, e0, hs0]
    refine ⟨fun hv u3 hu3 => ?_, fun hv => h2 hx (fun h => hv h.2)⟩
    have ok : rg y 0 2 ∧ rg v 0 (if y = 2 then 3 else 1) := ⟨hy, hv⟩
    have g : ∀ k, k < 3 → y = nI k → ∀ c, c = 48 + k → u3 c j = S.2 (5 + ix y) j := fun k hk h c hc => by
      rw [hu3, up_at, if_neg (by omega), h, n_ix (by omega)]; exact hR.at hjS (by omega) (by omega)
    have y3 : y = nI 0 ∨ y = nI 1 ∨ y = nI 2 := by
      simp only [i_eq, n_i (show 0 < 2147483648 by omega), n_i (show 1 < 2147483648 by omega), n_i (show 2 < 2147483648 by omega)]; omega
    rw [ixx]
    refine ⟨fun h0 => ⟨fun h1 => ⟨ev, a85 ok u3 hu3 _ (g 2 (by omega) (y3.elim (fun h => absurd h h0) (fun h => h.elim (fun h => absurd h h1) id)) 50 rfl)⟩, fun h1 => ⟨ev, a85 ok u3 hu3 _ (g 1 (by omega) h1 49 rfl)⟩⟩, fun h0 => ⟨ev, a85 ok u3 hu3 _ (g 0 (by omega) h0 48 rfl)⟩⟩
  exact ⟨fun h => a38 1 (by rw [if_neg h, e1]), fun h => a38 3 (by rw [if_pos h, e3])⟩
theorem md_drop (hR : RN S μ) (hK : RK S K KT μ) (h1 : S.1 = 0 → Q (-2) μ) (h2 : ∀ n, S.1 = n + 1 → ∀ u, (Bd (n, S.2) → RN (n, S.2) u) → RK (n, S.2) K KT u → u 42 21 = 0 → FrR μ u → Q (nI n) u) : Ct G d M_MD_drop [.inr 42] μ Q := by
  have h60 := hR.n60
  refine en_MD_drop (vc_MD_drop_0 ?_)
  rw [hR.2.1, show (0 : Int32) = nI 0 from rfl, n_inj (by omega) (by omega)]
  refine ⟨fun h u1 hu1 u2 hu2 => ?_, h1⟩
  obtain ⟨n, hn⟩ : ∃ n, S.1 = n + 1 := ⟨S.1 - 1, by omega⟩
  have e1 : u1 42 8 = nI (n + 1) := by rw [hu1, up_at, if_neg (by omega), hR.2.1, hn]
  rw [e1, n_s1] at hu2
  have a : ∀ c j, u2 c j = if c = 42 ∧ j = 8 then nI n else if c = 42 ∧ j = 21 then 0 else μ c j := fun c j => by rw [hu2, up_at, hu1, up_at]; rfl
  have e2 : u2 42 8 = nI n := by rw [a, if_pos ⟨rfl, rfl⟩]
  rw [e2]
  refine h2 n hn u2 (fun hB => ⟨hB, e2, fun k j hk hj => ?_⟩) (hK.same rfl rfl rfl (fun c b1 b2 => ?_)) (by rw [a, if_neg (by omega), if_pos ⟨rfl, rfl⟩]) (fun c hc => ?_)
  · have hj : j < n := hj
    rw [a, if_neg (by omega), if_neg (by omega)]; exact hR.2.2 k j hk (by omega)
  · funext j; rw [a, if_neg (by omega), if_neg (by omega)]
  · funext j; rw [a, if_neg (by omega), if_neg (by omega)]
theorem md_key (hR : RN S μ) (hK : RK S K KT μ) {x y : Int32} (h1 : ¬ (isB x ∧ rg y (-7) 7) → Q (-3) μ) (h2 : isB x → rg y (-7) 7 → ∀ u, RN (keyS S (ix x) y) u → RK (keyS S (ix x) y) K KT u → u 42 21 = 0 → FrR μ u → Q (S.2 8 (ix x)) u) : Ct G (d + 1) M_MD_key [.inr 42, .inl x, .inl y] μ Q := by
  have e0 : (0 : Int32).toInt = 0 := by decide
  have e19 : (19 : Int32).toInt = 19 := by decide
  have em7 : (-7 : Int32).toInt = -7 := by decide
  have e7 : (7 : Int32).toInt = 7 := by decide
  refine en_MD_key (vc_MD_key_0 (md_in ?_))
  rw [bi_0, Classical.not_not, e0, e19]
  refine ⟨fun h => h1 (fun hh => h hh.1), fun hx => md_in ?_⟩
  rw [bi_0, Classical.not_not, em7, e7]
  refine ⟨fun hy => ?_, fun h => h1 (fun hh => h hh.2)⟩
  have hix := ix_i hx.1
  have hxx : x = nI (ix x) := n_of hx.1
  have hb : ix x < 20 := by omega
  rw [hxx]
  refine md_keyOf hK hR.1 (ix x) hb (fun u7 hu7 => ⟨n_in hb (by omega), fun u8 hu8 => ?_⟩)
  rw [n_ix (by omega)] at hu8
  have a : ∀ c j, u8 c j = if c = 51 ∧ j = ix x then y + 8 else if c = 42 ∧ j = 21 then 0 else μ c j := fun c j => by rw [hu8, up_at, hu7, up_at]
  obtain ⟨t1, t2, t3⟩ := hK.1.tv
  have k8 : (keyS S (ix x) y).2 8 = tlF (S.2 11) (S.2 8) (ix x) y := by funext j; unfold keyS; dsimp only; rw [if_pos rfl]
  have k11 : (keyS S (ix x) y).2 11 = fun c => if c = ix x then 1 else S.2 11 c := by
    funext j
    unfold keyS
    dsimp only
    rw [if_neg (by omega)]
    by_cases h : j = ix x
    · rw [if_pos ⟨rfl, h⟩, if_pos h]
    · rw [if_neg (fun e => h e.2), if_neg h]
  have kk : ∀ k j, k ≠ 8 → k ≠ 11 → (keyS S (ix x) y).2 k j = S.2 k j := fun k j h8 h11 => by
    show (if k = 8 then _ else if k = 11 ∧ j = ix x then _ else _) = _
    rw [if_neg h8, if_neg (fun e => h11 e.1)]
  refine h2 hx hy u8 ⟨bd_key hR.1 hy, ?_, fun k j hk hj => ?_⟩ ⟨KWs.of (by rw [k8, k11]; exact t1.tell _ _) t2 t3, fun b hb' => ⟨?_, ?_⟩, fun k hk => ?_⟩ ?_ (fun c hc => ?_)
  · rw [a, if_neg (by omega), if_neg (by omega)]; exact hR.2.1
  · rw [a, if_neg (by omega), if_neg (by omega), kk k j (by omega) (by omega)]; exact hR.2.2 k j hk hj
  · have k11' : (keyS S (ix x) y).2 11 b = if b = ix x then 1 else S.2 11 b := by rw [k11]
    rw [a, k8, k11']
    by_cases h : b = ix x
    · rw [if_pos ⟨rfl, h⟩, if_pos h, h, tl_at, if_pos rfl]
    · rw [if_neg (fun e => h e.2), if_neg (by omega), if_neg h, (hK.2.1 b hb').1]
      by_cases h11 : S.2 11 b = 1
      · rw [if_pos h11, if_pos h11, tl_told h11 h]
      · rw [if_neg h11, if_neg h11]
  · rw [a, if_neg (by omega), if_neg (by omega)]; exact (hK.2.1 b hb').2
  · rw [a, if_neg (by omega), if_neg (by omega), kk 10 k (by omega) (by omega)]; exact hK.2.2 k hk
  · rw [a, if_neg (by omega), if_pos ⟨rfl, rfl⟩]
  · funext j; rw [a, if_neg (by omega), if_neg (by omega)]
theorem md_clef (hR : RN S μ) (hK : RK S K KT μ) {x y : Int32} (h1 : ¬ (isB x ∧ rg y 0 2) → Q (-3) μ) (h2 : isB x → rg y 0 2 → ∀ u, RN S u → RK S (tlF KT K (ix x) y) (fun b' => if b' = ix x then 1 else KT b') u → u 42 21 = 0 → FrR μ u → Q (K (ix x)) u) : Ct G (d + 1) M_MD_clef [.inr 42, .inl x, .inl y] μ Q := by
  have e0 : (0 : Int32).toInt = 0 := by decide
  have e19 : (19 : Int32).toInt = 19 := by decide
  have e2 : (2 : Int32).toInt = 2 := by decide
  refine en_MD_clef (vc_MD_clef_0 (md_in ?_))
  rw [bi_0, Classical.not_not, e0, e19]
  refine ⟨fun h => h1 (fun hh => h hh.1), fun hx => md_in ?_⟩
  rw [bi_0, Classical.not_not, e0, e2]
  refine ⟨fun hy => ?_, fun h => h1 (fun hh => h hh.2)⟩
  have hix := ix_i hx.1
  have hxx : x = nI (ix x) := n_of hx.1
  have hb : ix x < 20 := by omega
  rw [hxx]
  refine md_clefOf hK (ix x) hb (fun u7 hu7 => ⟨n_in hb (by omega), fun u8 hu8 => ?_⟩)
  rw [n_ix (by omega)] at hu8
  have a : ∀ c j, u8 c j = if c = 52 ∧ j = ix x then y + 1 else if c = 42 ∧ j = 21 then 0 else μ c j := fun c j => by rw [hu8, up_at, hu7, up_at]
  obtain ⟨t1, t2, t3⟩ := hK.1.tv
  refine h2 hx hy u8 (hR.congr (by rw [a, if_neg (by omega), if_neg (by omega)]) (fun c _ _ => by funext j; rw [a, if_neg (by omega), if_neg (by omega)])) ⟨KWs.of t1 (t2.tell _ _) (fun b hb' => ?_), fun b hb' => ⟨?_, ?_⟩, fun k hk => ?_⟩ ?_ (fun c hc => ?_)
  · unfold tlF
    split
    · exact hy
    · exact t3 b hb'
  · rw [a, if_neg (by omega), if_neg (by omega)]; exact (hK.2.1 b hb').1
  · rw [a]
    show _ = if (if b = ix x then (1 : Int32) else KT b) = 1 then _ else _
    by_cases h : b = ix x
    · rw [if_pos ⟨rfl, h⟩, if_pos h, h, tl_at, if_pos rfl]
    · rw [if_neg (fun e => h e.2), if_neg (by omega), if_neg h, (hK.2.1 b hb').2]
      by_cases h11 : KT b = 1
      · rw [if_pos h11, if_pos h11, tl_told h11 h]
      · rw [if_neg h11, if_neg h11]
  · rw [a, if_neg (by omega), if_neg (by omega)]; exact hK.2.2 k hk
  · rw [a, if_neg (by omega), if_pos ⟨rfl, rfl⟩]
  · funext j; rw [a, if_neg (by omega), if_neg (by omega)]
theorem md_rule (hR : RN S μ) (hK : RK S K KT μ) {x y : Int32} (h1 : ¬ (rg x 0 4 ∧ rg y 0 (if x = 2 then 15 else if x = 4 then 2 else 1)) → Q (-3) μ) (h2 : rg x 0 4 → rg y 0 (if x = 2 then 15 else if x = 4 then 2 else 1) → ∀ u, (Bd (setA S 10 (ix x) y) → RN (setA S 10 (ix x) y) u) → RK (setA S 10 (ix x) y) K KT u → u 42 21 = 0 → FrR μ u → Q (S.2 10 (ix x)) u) : Ct G (d + 1) M_MD_rule [.inr 42, .inl x, .inl y] μ Q := by
  have e0 : (0 : Int32).toInt = 0 := by decide
  have e4 : (4 : Int32).toInt = 4 := by decide
  have e1 : (1 : Int32).toInt = 1 := by decide
  have e2 : (2 : Int32).toInt = 2 := by decide
  have e15 : (15 : Int32).toInt = 15 := by decide
  refine en_MD_rule (vc_MD_rule_0 (md_in ?_))
  rw [bi_0, Classical.not_not, e0, e4]
  refine ⟨fun h => h1 (fun hh => h hh.1), fun hx => ?_⟩
  have hix := ix_i hx.1
  have hb : ix x < 5 := by omega
  have ev : vp_in x 5 := in_of hx.1 (by omega)
  have st : rg y 0 (if x = 2 then 15 else if x = 4 then 2 else 1) → vp_in x 5 ∧ ∀ y5 : Int32, y5 = μ 53 (ix x) → ∀ u6 : Mem, u6 = up μ 42 21 0 → vp_in x 5 ∧ ∀ u7 : Mem, u7 = up u6 53 (ix x) y → Q y5 u7 := by
    intro hy
    refine ⟨ev, fun y5 hy5 u6 hu6 => ⟨ev, fun u7 hu7 => ?_⟩⟩
    rw [hK.2.2 (ix x) hb] at hy5
    rw [hy5]
    have a : ∀ c j, u7 c j = if c = 53 ∧ j = ix x then y else if c = 42 ∧ j = 21 then 0 else μ c j := fun c j => by rw [hu7, up_at, hu6, up_at]
    have kk : ∀ k j, k ≠ 10 → (setA S 10 (ix x) y).2 k j = S.2 k j := fun k j h => by show (if k = 10 ∧ j = ix x then _ else _) = _; rw [if_neg (fun e => h e.1)]
    obtain ⟨t1, t2, t3⟩ := hK.1.tv
    refine h2 hx hy u7 (fun hB => ⟨hB, ?_, fun k j hk hj => ?_⟩) ⟨KWs.of (fun b hb' => ?_) t2 t3, fun b hb' => ⟨?_, ?_⟩, fun k hk => ?_⟩ ?_ (fun c hc => ?_)
    · rw [a, if_neg (by omega), if_neg (by omega)]; exact hR.2.1
    · rw [a, if_neg (by omega), if_neg (by omega), kk k j (by omega)]; exact hR.2.2 k j hk hj
    · rw [kk 11 b (by omega), kk 8 b (by omega), kk 8 (b - 1) (by omega)]; exact t1 b hb'
    · rw [a, if_neg (by omega), if_neg (by omega), kk 11 b (by omega), kk 8 b (by omega)]; exact (hK.2.1 b hb').1
    · rw [a, if_neg (by omega), if_neg (by omega)]; exact (hK.2.1 b hb').2
    · rw [a]
      show _ = if 10 = 10 ∧ k = ix x then _ else _
      by_cases h : k = ix x
      · rw [if_pos ⟨rfl, h⟩, if_pos ⟨rfl, h⟩]
      · rw [if_neg (fun e => h e.2), if_neg (by omega), if_neg (fun e => h e.2)]; exact hK.2.2 k hk
    · rw [a, if_neg (by omega), if_pos ⟨rfl, rfl⟩]
    · funext j; rw [a, if_neg (by omega), if_neg (by omega)]
  refine ⟨fun hn2 => ⟨fun hn4 => md_in ?_, fun h4 => md_in ?_⟩, fun h2' => md_in ?_⟩
  · rw [bi_0, Classical.not_not, e0, e1]
    rw [if_neg hn2, if_neg hn4] at st h1
    exact ⟨st, fun h => h1 (fun hh => h hh.2)⟩
  · rw [bi_0, Classical.not_not, e0, e2]
    rw [if_neg hn2, if_pos h4] at st h1
    exact ⟨st, fun h => h1 (fun hh => h hh.2)⟩
  · rw [bi_0, Classical.not_not, e0, e15]
    rw [if_pos h2'] at st h1
    exact ⟨st, fun h => h1 (fun hh => h hh.2)⟩
end
