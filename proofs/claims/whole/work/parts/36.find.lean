/-! class Signs: a chord is decided, the states change, all signs are found -/
def DcI (S : Sc) (o : Nat → Nat) (p : Nat) (μ : Mem) (i : Nat) (w : Mem) : Prop := (∀ c, c ≠ 22 → c ≠ 25 → c ≠ 26 → w c = μ c) ∧ (∀ s, s < 280 → w 22 s = CB S o i s) ∧ (∀ r, p ≤ r → r < i → w 25 (o r) = KND S o r ∧ w 26 (o r) = NTL S o r) ∧ (∀ j, (∀ r, p ≤ r → r < i → j ≠ o r) → w 25 j = μ 25 j ∧ w 26 j = μ 26 j)
def FndI (S : Sc) (o : Nat → Nat) (μ : Mem) : Prop := StI S μ ∧ ∀ i, i < S.1 → μ 25 (o i) = KND S o i ∧ μ 26 (o i) = NTL S o i
section
variable {G : Gp} {d : Nat} {S : Sc} {o : Nat → Nat} {μ : Mem} {Q : Int32 → Mem → Prop} {p q : Nat}
theorem DcI_step (hO : Ord S o) {i : Nat} (hp : p ≤ i) (hi : i < S.1) {w w' : Mem} (h : DcI S o p μ i w) (h1 : ∀ c, c ≠ 22 → c ≠ 25 → c ≠ 26 → w' c = w c) (h2 : ∀ s, s < 280 → w' 22 s = CB S o (i + 1) s) (h3 : ∀ j, w' 25 j = if j = o i then KND S o i else w 25 j) (h4 : ∀ j, w' 26 j = if j = o i then NTL S o i else w 26 j) : DcI S o p μ (i + 1) w' := by
  obtain ⟨g1, g2, g3, g4⟩ := h
  refine ⟨fun c a b e => (h1 c a b e).trans (g1 c a b e), h2, fun r a b => ?_, fun j hj => ?_⟩
  · rw [h3, h4]
    rcases Nat.lt_or_ge r i with h5 | h5
    · have hne : o r ≠ o i := fun e => absurd (hO.inj (by omega) hi e) (by omega)
      rw [if_neg hne, if_neg hne]; exact g3 r a h5
    · rw [show r = i by omega, if_pos rfl, if_pos rfl]; exact ⟨rfl, rfl⟩
  · have hne : j ≠ o i := hj i hp (Nat.lt_succ_self i)
    rw [h3, h4, if_neg hne, if_neg hne]
    exact g4 j (fun r a b => hj r a (by omega))
theorem ChI.congr (h : ChI S o p q μ) {u : Mem} (hu : ∀ c, c ≠ 18 → c ≠ 19 → c ≠ 20 → c ≠ 21 → c ≠ 22 → c ≠ 25 → c ≠ 26 → u c = μ c) : ChI S o p q u := by
  obtain ⟨h1, h2, h3, h4, h5, h6⟩ := h
  refine ⟨h1.congr (fun c a b => hu c (by omega) (by omega) (by omega) (by omega) (by omega) (by omega) (by omega)), ⟨?_, ?_⟩, ⟨?_, ?_⟩, ?_, ?_, h6⟩
  · intro b hb; rw [hu 10 (by omega) (by omega) (by omega) (by omega) (by omega) (by omega) (by omega)]; exact h2.1 b hb
  · intro b hb; rw [hu 15 (by omega) (by omega) (by omega) (by omega) (by omega) (by omega) (by omega)]; exact h2.2 b hb
  · intro b hb; rw [hu 23 (by omega) (by omega) (by omega) (by omega) (by omega) (by omega) (by omega)]; exact h3.1 b hb
  · intro b hb; rw [hu 24 (by omega) (by omega) (by omega) (by omega) (by omega) (by omega) (by omega)]; exact h3.2 b hb
  · rw [hu 16 (by omega) (by omega) (by omega) (by omega) (by omega) (by omega) (by omega)]; exact h4
  · rw [hu 16 (by omega) (by omega) (by omega) (by omega) (by omega) (by omega) (by omega)]; exact h5
theorem SeI.congr {z z2 : Nat → Int32} {k : Nat} (h : SeI S o z z2 k μ) {u : Mem} (hu : ∀ c, 18 ≤ c → c ≤ 21 → u c = μ c) : SeI S o z z2 k u := by
  intro s hs
  rw [hu 18 (by omega) (by omega), hu 19 (by omega) (by omega), hu 20 (by omega) (by omega), hu 21 (by omega) (by omega)]
  exact h s hs
theorem sp_decideChord (hC : ChI S o p q μ) {z z2 : Nat → Int32} (hS : SeI S o z z2 p μ) (hcb : ∀ s, s < 280 → μ 22 s = CB S o p s) (hq : ∀ u, DcI S o p μ q u → Q 0 u) : Ct G (d + 4) M_SG_decideChord [.inr 16] μ Q := by
  obtain ⟨c1, c2, c3⟩ := hC.q60
  have hO := hC.1.2.1
  have hB := hC.1.1
  refine en_SG_decideChord (vc_SG_decideChord_0 ?_)
  intro y hy
  rw [hC.2.2.2.1] at hy
  subst hy
  have key : ∀ m i w, i + m = q → p ≤ i → DcI S o p μ i w → AW G (d + 4) M_SG_decideChord Q 5 [some (.inr 16), some (.inl (nI i)), none, none] [] w := by
    intro m
    induction m with
    | zero =>
      intro i w hi hpi hw
      have h9 : w 16 9 = nI q := by rw [hw.1 16 (by omega) (by omega) (by omega)]; exact hC.2.2.2.2.1
      refine vc_SG_decideChord_5 ?_
      rw [h9]
      refine ⟨fun _ => hq w (by rw [show q = i by omega]; exact hw), fun h => absurd ((n_le (by omega) (by omega)).mpr (by omega)) h⟩
    | succ m ih =>
      intro i w hi hpi hw
      have h9 : w 16 9 = nI q := by rw [hw.1 16 (by omega) (by omega) (by omega)]; exact hC.2.2.2.2.1
      have hi2 : i < q := by omega
      have hoi := hO.1 i (by omega)
      have e1 : vp_in (nI (o i)) 60 := n_in (by omega) (by omega)
      have ixo : ix (nI (o i)) = o i := n_ix (by omega)
      have hsl := sea_lt hB hO (show i < S.1 by omega)
      have hcs := hC.cs hpi hi2
      have hCw : ChI S o p q w := hC.congr (fun c _ _ _ _ a b e => hw.1 c a b e)
      have hSw : SeI S o z z2 p w := hS.congr (fun c a b => hw.1 c (by omega) (by omega) (by omega))
      refine vc_SG_decideChord_5 ?_
      rw [h9]
      refine ⟨fun h => absurd ((n_le (by omega) (by omega)).mp h) (by omega), fun _ => ⟨n_in (by omega) (by omega), fun y hy => ?_⟩⟩
      rw [n_ix (by omega), hCw.1.2.2.2.1 i (by omega)] at hy
      subst hy
      refine sp_stateAhead hCw hSw hpi hi2 ⟨e1, fun u4 h4 => ⟨e1, fun u5 h5 => ⟨e1, ?_⟩⟩⟩
      rw [ixo] at h4 h5
      rw [n_p1]
      have h25 : ∀ j, u5 25 j = if j = o i then 0 else w 25 j := fun j => by
        rw [h5, up_at, if_neg (by omega), h4, up_at]; simp
      have h26 : ∀ j, u5 26 j = if j = o i then 0 else w 26 j := fun j => by
        rw [h5, up_at, h4, up_at, if_neg (show ¬ (26 = 25 ∧ j = o i) by omega)]; simp
      have hoth : ∀ c, c ≠ 25 → c ≠ 26 → u5 c = w c := fun c a b => by
        funext j; rw [h5, up_at, if_neg (by omega), h4, up_at, if_neg (by omega)]
      have hC5 : ChI S o p q u5 := hCw.congr (fun c _ _ _ _ _ a b => hoth c a b)
      have hS5 : SeI S o z z2 p u5 := hSw.congr (fun c a b => hoth c (by omega) (by omega))
      have hcb5 : ∀ s, s < 280 → u5 22 s = CB S o i s := fun s hs => by rw [hoth 22 (by omega) (by omega)]; exact hw.2.1 s hs
      rw [ixo, hC5.2.2.1.2 _ hoi]
      have cbn : ¬ crt S o i → ∀ s, CB S o (i + 1) s = CB S o i s := fun hn s => by
        show cite _ _ _ = _
        rw [cite_f (fun hc => hn hc.2)]
      -- where nothing is shown
      have none' : ¬ ned S o i → ¬ crt S o i → AW G (d + 4) M_SG_decideChord Q 5 [some (.inr 16), some (.inl (nI (i + 1))), none, none] [] u5 := fun n1 n2 => by
        refine ih (i + 1) u5 (by omega) (by omega) (DcI_step hO hpi (by omega) hw (fun c _ a b => hoth c a b) (fun s hs => by rw [cbn n2]; exact hcb5 s hs) (fun j => ?_) (fun j => ?_))
        · rw [h25, show KND S o i = 0 from by unfold KND; rw [cite_f n1, cite_f n2]]
        · rw [h26, show NTL S o i = 0 from by unfold NTL; rw [cite_f (fun h => n1 h.1)]]
      refine ⟨fun hf => ?_, fun hf => none' (fun h => hf h.1) (fun h => hf h.1.1)⟩
      have hned : ned S o i ↔ ((unl S o i ∧ fstP S o True i) ∨ (¬ unl S o i ∧ STT S o (bar S o i) p (sea S o i) ≠ S.2 1 (o i) ∧ fstP S o False i)) := by
        unfold ned
        rw [hcs]
        exact ⟨fun h => h.2, fun h => ⟨hf, h⟩⟩
      refine sp_needsSign hC5 hpi hi2 ?_
      rw [← hned, bc_0]
      refine ⟨fun hn => sp_isCourtesy hC5 hS5 hpi hi2 hcb5 ?_, fun hn => ?_⟩
      · have hcrt : crt S o i ↔ ((¬ ∃ r, r < i ∧ bar S o r = bar S o i ∧ sea S o r = sea S o i ∧ crt S o r) ∧ fstP S o False i ∧ bts S o i) := by
          rw [crt_iff]
          exact ⟨fun h => ⟨h.2, h.1.2.2.1, h.1.2.2.2⟩, fun h => ⟨⟨hf, hn, h.2.1, h.2.2⟩, h.1⟩⟩
        rw [← hcrt, bc_0]
        refine ⟨fun hc => none' hn hc, fun hc => ⟨e1, fun u10 h10 => ⟨e1, e1, ?_⟩⟩⟩
        have hc : crt S o i := Classical.not_not.mp hc
        have g23 : u10 23 (o i) = nI (sea S o i) := by rw [h10, up_at, if_neg (by omega)]; exact hC5.2.2.1.1 _ hoi
        have g4 : u10 4 (o i) = S.2 2 (o i) := by rw [h10, up_at, if_neg (by omega)]; exact hC5.1.at hoi (k := 2) (by omega) rfl
        rw [g23, g4]
        refine sp_setCourtesy hsl ?_
        refine ih (i + 1) _ (by omega) (by omega) (DcI_step hO hpi (by omega) hw (fun c a b e => ?_) (fun s hs => ?_) (fun j => ?_) (fun j => ?_))
        · funext j; rw [up_at, if_neg (by omega), h10, up_at, if_neg (by omega), hoth c b e]
        · rw [up_at]
          show _ = cite _ _ _
          by_cases h : s = sea S o i
          · rw [if_pos ⟨rfl, h⟩, cite_t ⟨h.symm, hc⟩]
          · rw [if_neg (fun h2 => h h2.2), cite_f (fun h2 => h h2.1.symm), h10, up_at, if_neg (by omega)]; exact hcb5 s hs
        · rw [up_at, if_neg (by omega), h10, up_at, h25, show KND S o i = 2 from by unfold KND; rw [cite_f hn, cite_t hc]]
          by_cases h : j = o i
          · rw [if_pos ⟨rfl, h⟩, if_pos h]
          · rw [if_neg (fun h2 => h h2.2), if_neg h, if_neg h]
        · rw [up_at, if_neg (by omega), h10, up_at, if_neg (by omega), h26, show NTL S o i = 0 from by unfold NTL; rw [cite_f (fun h => hn h.1)]]
      · have hn : ned S o i := Classical.not_not.mp hn
        have hnc : ¬ crt S o i := fun h => h.1.2.1 hn
        refine ⟨e1, fun u12 h12 => ⟨e1, ?_⟩⟩
        have hoth12 : ∀ c, c ≠ 25 → u12 c = u5 c := fun c a => by funext j; rw [h12, up_at, if_neg (by omega)]
        have hC12 : ChI S o p q u12 := hC5.congr (fun c _ _ _ _ _ a _ => hoth12 c a)
        rw [hC12.1.at hoi (k := 1) (by omega) rfl]
        refine sp_wantsNatural hC12.2.1 ?_
        have hntl : ntl S o i ↔ (S.2 10 3 = 1 ∧ (S.2 1 (o i) = 2 ∨ S.2 1 (o i) = -2) ∧ STT S o (bar S o i) p (sea S o i) = 2 * S.2 1 (o i)) := by
          unfold ntl
          rw [hcs]
          exact ⟨fun h => h.2, fun h => ⟨hn, h⟩⟩
        rw [← hntl, bc_0]
        have fin : ∀ x : Int32, NTL S o i = x → ∀ u15, u15 = up u12 26 (o i) x → AW G (d + 4) M_SG_decideChord Q 5 [some (.inr 16), some (.inl (nI (i + 1))), none, none] [] u15 := fun x hx u15 h15 => by
          refine ih (i + 1) _ (by omega) (by omega) (DcI_step hO hpi (by omega) hw (fun c a b e => ?_) (fun s hs => ?_) (fun j => ?_) (fun j => ?_))
          · funext j; rw [h15, up_at, if_neg (by omega), hoth12 c b, hoth c b e]
          · rw [cbn hnc, h15, up_at, if_neg (by omega), hoth12 22 (by omega)]; exact hcb5 s hs
          · rw [h15, up_at, if_neg (by omega), h12, up_at, h25, show KND S o i = 1 from by unfold KND; rw [cite_t hn]]
            by_cases h : j = o i
            · rw [if_pos ⟨rfl, h⟩, if_pos h]
            · rw [if_neg (fun h2 => h h2.2), if_neg h, if_neg h]
          · rw [h15, up_at, hoth12 26 (by omega), h26, hx]
            by_cases h : j = o i
            · rw [if_pos ⟨rfl, h⟩, if_pos h]
            · rw [if_neg (fun h2 => h h2.2), if_neg h, if_neg h]
        exact ⟨fun h => ⟨e1, fin 0 (cite_f h)⟩, fun h => ⟨e1, fin 1 (cite_t (Classical.not_not.mp h))⟩⟩
  exact key (q - p) p μ (by omega) (Nat.le_refl _) ⟨fun _ _ _ _ => rfl, hcb, fun r a b => absurd a (by omega), fun j _ => ⟨rfl, rfl⟩⟩
theorem entM_at {w : Mem} {s : Nat} {x y : Int32} (c j : Nat) : entM w s x y c j = if w 18 s = x then w c j else if j = s then (if c = 19 then y else if c = 18 then x else if c = 21 then w 19 s else if c = 20 then w 18 s else w c j) else w c j := by
  unfold entM
  by_cases h : w 18 s = x
  · rw [if_pos h, if_pos h]
  · rw [if_neg h, if_neg h]
    by_cases hj : j = s
    · subst hj
      simp only [up_at]
      by_cases c19 : c = 19
      · simp [c19]
      · by_cases c18 : c = 18
        · simp [c18]
        · by_cases c21 : c = 21
          · simp [c21]
          · by_cases c20 : c = 20
            · simp [c20]
            · simp [c19, c18, c21, c20]
    · simp [up_at, hj]
theorem sp_changeStates (hC : ChI S o p q μ) {z z2 : Nat → Int32} (hS : SeI S o z z2 p μ) (hq : ∀ u, (∀ c, (c < 18 ∨ 21 < c) → u c = μ c) → SeI S o z z2 q u → Q 0 u) : Ct G (d + 2) M_SG_changeStates [.inr 16] μ Q := by
  obtain ⟨c1, c2, c3⟩ := hC.q60
  have hO := hC.1.2.1
  have hB := hC.1.1
  refine en_SG_changeStates (vc_SG_changeStates_0 ?_)
  intro y hy
  rw [hC.2.2.2.1] at hy
  subst hy
  have key : ∀ m i w, i + m = q → p ≤ i → (∀ c, (c < 18 ∨ 21 < c) → w c = μ c) → SeI S o z z2 i w → AW G (d + 2) M_SG_changeStates Q 5 [some (.inr 16), some (.inl (nI i)), none, none] [] w := by
    intro m
    induction m with
    | zero =>
      intro i w hi hpi hw hSw
      refine vc_SG_changeStates_5 ?_
      rw [hw 16 (by omega), hC.2.2.2.2.1]
      exact ⟨fun _ => hq w hw (by rw [show q = i by omega]; exact hSw), fun h => absurd ((n_le (by omega) (by omega)).mpr (by omega)) h⟩
    | succ m ih =>
      intro i w hi hpi hw hSw
      have hi2 : i < q := by omega
      have hoi := hO.1 i (by omega)
      have e1 : vp_in (nI (o i)) 60 := n_in (by omega) (by omega)
      have ixo : ix (nI (o i)) = o i := n_ix (by omega)
      have hsl := sea_lt hB hO (show i < S.1 by omega)
      have hbl := bar_lt hB hO (show i < S.1 by omega)
      have hbe := bar_eq hB hO (show i < S.1 by omega)
      have hCw : ChI S o p q w := hC.congr (fun c _ _ _ _ _ _ _ => hw c (by omega))
      refine vc_SG_changeStates_5 ?_
      rw [hw 16 (by omega), hC.2.2.2.2.1]
      refine ⟨fun h => absurd ((n_le (by omega) (by omega)).mp h) (by omega), fun _ => ⟨n_in (by omega) (by omega), fun y hy => ?_⟩⟩
      rw [n_ix (by omega), hCw.1.2.2.2.1 i (by omega)] at hy
      subst hy
      refine ⟨e1, fun y2 hy2 => ?_⟩
      rw [ixo, hCw.1.at hoi (k := 2) (by omega) rfl, hbe] at hy2
      subst hy2
      rw [ixo, hCw.1.at hoi (k := 0) (by omega) rfl, hCw.2.2.1.1 _ hoi]
      refine ⟨e1, e1, sp_kA hCw hbl (by omega) (sp_enter (s := sea S o i) hsl ?_)⟩
      generalize hE : entM w (sea S o i) (nI (bar S o i)) (kA S (bar S o i) (sea S o i)) = E
      have hEo : ∀ c, (c < 18 ∨ 21 < c) → E c = w c := fun c hc => by
        funext j; rw [← hE, entM_at]
        split
        · rfl
        · split
          · rw [if_neg (by omega), if_neg (by omega), if_neg (by omega), if_neg (by omega)]
          · rfl
      have hCE : ChI S o p q E := hCw.congr (fun c a b e f _ _ _ => hEo c (by omega))
      refine sp_hasUnlike hCE hpi hi2 ?_
      rw [bc_0, hCE.2.2.1.2 _ hoi, hCE.2.2.1.1 _ hoi, hCE.1.at hoi (k := 1) (by omega) rfl, n_p1]
      have fin : ∀ (X : Int32) (F : Mem), (∀ c j, ¬ (c = 19 ∧ j = sea S o i) → F c j = E c j) → F 19 (sea S o i) = X → CS S o z (i + 1) (sea S o i) = X → AW G (d + 2) M_SG_changeStates Q 5 [some (.inr 16), some (.inl (nI (i + 1))), none, none] [] F := by
        intro X F hF hF19 hX
        refine ih (i + 1) F (by omega) (by omega) (fun c hc => ?_) (fun s hs => ?_)
        · funext j; rw [hF c j (by omega), hEo c hc, hw c hc]
        · obtain ⟨s1, s2, s3, s4⟩ := hSw s hs
          by_cases h : sea S o i = s
          · subst h
            rw [hF 18 _ (by omega), hF 20 _ (by omega), hF 21 _ (by omega), hF19, hX, ← hE, entM_at, entM_at, entM_at]
            rw [s1, s2, s3, s4]
            refine ⟨?_, rfl, ?_, ?_⟩
            · show _ = cite _ _ _
              rw [cite_t rfl]
              split
              · rw [hbe]; assumption
              · simp [hbe]
            · show _ = cite _ _ _
              by_cases hl : LB S o i (sea S o i) = nI (bar S o i)
              · rw [if_pos hl, cite_f (fun hc => hc.2 (by rw [hbe]; exact hl))]
              · rw [if_neg hl, cite_t ⟨rfl, fun hc => hl (by rw [hc, hbe])⟩]; simp
            · show _ = cite _ _ _
              by_cases hl : LB S o i (sea S o i) = nI (bar S o i)
              · rw [if_pos hl, cite_f (fun hc => hc.2 (by rw [hbe]; exact hl))]
              · rw [if_neg hl, cite_t ⟨rfl, fun hc => hl (by rw [hc, hbe])⟩]; simp
          · have hEs : ∀ c, E c s = w c s := fun c => by
              rw [← hE, entM_at]
              split
              · rfl
              · rw [if_neg (fun e => h e.symm)]
            rw [hF 18 _ (by omega), hF 19 _ (fun e => h e.2.symm), hF 20 _ (by omega), hF 21 _ (by omega), hEs, hEs, hEs, hEs]
            refine ⟨?_, ?_, ?_, ?_⟩
            · show _ = cite _ _ _; rw [cite_f h]; exact s1
            · show _ = cite _ _ _; rw [cite_f h]; exact s2
            · show _ = cite _ _ _; rw [cite_f (fun e => h e.1)]; exact s3
            · show _ = cite _ _ _; rw [cite_f (fun e => h e.1)]; exact s4
      obtain ⟨s1, s2, s3, s4⟩ := hSw (sea S o i) hsl
      refine ⟨fun hu => ⟨e1, fun hf => ?_, fun hf => ⟨e1, e1, sp_setState (s := sea S o i) hsl ?_⟩⟩, fun hu => ⟨e1, sp_setState (s := sea S o i) hsl ?_⟩⟩
      · refine fin _ E (fun _ _ _ => rfl) rfl ?_
        show cite _ _ _ = _
        rw [cite_t rfl, cite_f hu, cite_f (show ¬ fre S o i from hf), ← hE, entM_at, s1, s2, hbe]
        by_cases hl : LB S o i (sea S o i) = nI (bar S o i)
        · rw [cite_t hl, if_pos hl]
        · rw [cite_f hl, if_neg hl]; simp
      · refine fin (S.2 1 (o i)) _ (fun c j h => by rw [up_at, if_neg h]) (by rw [up_at, if_pos ⟨rfl, rfl⟩]) ?_
        show cite _ _ _ = _
        rw [cite_t rfl, cite_f hu, cite_t (show fre S o i from hf)]
      · refine fin 99 _ (fun c j h => by rw [up_at, if_neg h]) (by rw [up_at, if_pos ⟨rfl, rfl⟩]) ?_
        show cite _ _ _ = _
        rw [cite_t rfl, cite_t (Classical.not_not.mp hu)]
  exact key (q - p) p μ (by omega) (Nat.le_refl _) (fun _ _ => rfl) hS
/-- what find leaves: all signs; nothing else of the score changes -/
theorem sp_find (hI : NoI S o μ) (hK : KrI S μ) (hF : μ 16 10 ≠ 0 → FndI S o μ) (hq : ∀ u, FndI S o u → u 16 10 ≠ 0 → (∀ c, c ≠ 16 → (c < 18 ∨ 26 < c) → u c = μ c) → Q 0 u) : Ct G (d + 5) M_SG_find [.inr 16] μ Q := by
  have h60 := hI.n60
  have hO := hI.2.1
  have hB := hI.1
  refine en_SG_find (vc_SG_find_0 ⟨fun _ => ?_, fun h => hq μ (hF h) h (fun _ _ _ => rfl)⟩)
  intro u1 h1
  refine sp_clear ?_
  generalize hu2 : fil (fil (fil u1 18 280 (-1)) 20 280 (-1)) 22 280 (-1) = u2
  have a18 : ∀ s, s < 280 → u2 18 s = -1 ∧ u2 20 s = -1 ∧ u2 22 s = -1 := fun s hs => by
    rw [← hu2]; unfold fil; simp [hs]
  have aoth : ∀ c, c ≠ 16 → (c < 18 ∨ 26 < c) → u2 c = μ c := fun c a b => by
    funext j
    rw [← hu2]; unfold fil
    rw [if_neg (by omega), if_neg (by omega), if_neg (by omega), h1, up_at, if_neg (by omega)]
  have a10 : u2 16 10 = 1 := by
    rw [← hu2]; unfold fil
    rw [if_neg (by omega), if_neg (by omega), if_neg (by omega), h1, up_at, if_pos ⟨rfl, rfl⟩]
  -- seats and ties
  have key1 : ∀ m k w, k + m = S.1 → (∀ c, c ≠ 23 → c ≠ 24 → w c = u2 c) → (∀ j, j < k → w 23 j = nI (seatN S j) ∧ w 24 j = tieF S j) → AW G (d + 5) M_SG_find Q 22 [some (.inr 16), some (.inl (nI k))] [] w := by
    intro m
    induction m with
    | succ m ih =>
      intro k w hk w1 w2
      have wo : ∀ c, c ≠ 16 → (c < 18 ∨ 26 < c) → w c = μ c := fun c a b => (w1 c (by omega) (by omega)).trans (aoth c a b)
      have hIw : NoI S o w := hI.congr (fun c a b => wo c (by omega) (by omega))
      have hKw : KrI S w := ⟨fun b hb => by rw [wo 10 (by omega) (by omega)]; exact hK.1 b hb, fun b hb => by rw [wo 15 (by omega) (by omega)]; exact hK.2 b hb⟩
      have e1 : vp_in (nI k) 60 := n_in (by omega) (by omega)
      obtain ⟨t1, t2⟩ := st_n hB (show k < S.1 by omega)
      obtain ⟨v1, v2⟩ := vo_n hB (show k < S.1 by omega)
      refine vc_SG_find_22 ?_
      rw [hIw.2.2.1]
      refine ⟨fun h => absurd ((n_le (by omega) (by omega)).mp h) (by omega), fun _ => ⟨e1, e1, ?_⟩⟩
      rw [n_ix (by omega), hIw.at (show k < S.1 by omega) (k := 0) (by omega) rfl, hIw.at (show k < S.1 by omega) (k := 4) (by omega) rfl, t1, v1]
      refine sp_seatFor hKw.2 t2 v2 ⟨e1, fun u3 h3 => ?_⟩
      have hI3 : NoI S o u3 := hIw.congr (fun c a b => by funext j; rw [h3, up_at, if_neg (by omega)])
      refine sp_tieOf hI3 (show k < S.1 by omega) ⟨e1, fun u6 h6 => ?_⟩
      rw [n_p1]
      refine ih (k + 1) u6 (by omega) (fun c a b => ?_) (fun j hj => ?_)
      · funext j; rw [h6, up_at, if_neg (by omega), h3, up_at, if_neg (by omega)]; rw [w1 c a b]
      · rw [h6, up_at, up_at, h3, up_at, up_at]
        by_cases h : j = k
        · subst h; simp; rfl
        · simp [h]; exact w2 j (by omega)
    | zero =>
      intro k w hk w1 w2
      have wo : ∀ c, c ≠ 16 → (c < 18 ∨ 26 < c) → w c = μ c := fun c a b => (w1 c (by omega) (by omega)).trans (aoth c a b)
      have hIw : NoI S o w := hI.congr (fun c a b => wo c (by omega) (by omega))
      refine vc_SG_find_22 ?_
      rw [hIw.2.2.1]
      refine ⟨fun _ => ?_, fun h => absurd ((n_le (by omega) (by omega)).mpr (by omega)) h⟩
      -- chord by chord
      have key2 : ∀ m k v, k + m = S.1 → (∀ c, c ≠ 16 → (c < 18 ∨ 26 < c) → v c = μ c) → v 16 10 = 1 → StI S v → (∀ s, s < 280 → v 22 s = CB S o (if k = S.1 then S.1 else (if Beg S o k then k else S.1)) s ∨ True) → True → (∃ e, k ≤ e ∧ e ≤ S.1 ∧ (∀ r, k ≤ r → r < e → ¬ Beg S o r) ∧ (e < S.1 → Beg S o e) ∧ SeI S o (u2 19) (u2 21) e v ∧ (∀ s, s < 280 → v 22 s = CB S o e s) ∧ (∀ r, r < e → v 25 (o r) = KND S o r ∧ v 26 (o r) = NTL S o r)) → AW G (d + 5) M_SG_find Q 83 [some (.inr 16), some (.inl (nI k))] [] v := by
        intro m
        induction m with
        | zero =>
          intro k v hk vo v10 vst _ _ hv
          obtain ⟨e, g1, g2, g3, g4, g5, g6, g7⟩ := hv
          have hIv : NoI S o v := hI.congr (fun c a b => vo c (by omega) (by omega))
          refine vc_SG_find_83 ?_
          rw [hIv.2.2.1]
          refine ⟨fun _ => hq v ⟨vst, fun i hi => g7 i (by omega)⟩ (by rw [v10]; decide) vo, fun h => absurd ((n_le (by omega) (by omega)).mpr (by omega)) h⟩
        | succ m ih =>
          intro k v hk vo v10 vst _ _ hv
          obtain ⟨e, g1, g2, g3, g4, g5, g6, g7⟩ := hv
          have hIv : NoI S o v := hI.congr (fun c a b => vo c (by omega) (by omega))
          refine vc_SG_find_83 ?_
          rw [hIv.2.2.1]
          refine ⟨fun h => absurd ((n_le (by omega) (by omega)).mp h) (by omega), fun _ => sp_beginsChord hIv (by omega) ?_⟩
          rw [bi_0, n_p1]
          refine ⟨fun hb => ?_, fun hb => ?_⟩
          · have hke : k ≠ e := fun h => hb (by rw [h]; exact g4 (by omega))
            exact ih (k + 1) v (by omega) vo v10 vst (fun _ _ => Or.inr trivial) trivial ⟨e, by omega, g2, fun r a b => g3 r (by omega) b, g4, g5, g6, g7⟩
          · have hb : Beg S o k := Decidable.not_not.mp hb
            have hke : k = e := by
              rcases Nat.lt_or_ge k e with h | h
              · exact absurd hb (g3 k (Nat.le_refl _) h)
              · omega
            subst hke
            intro u3 h3
            have hI3 : NoI S o u3 := hIv.congr (fun c a b => by funext j; rw [h3, up_at, if_neg (by omega)])
            refine sp_chordEnd hI3 (by omega) (fun q hE => ?_)
            intro u6 h6
            have u6o : ∀ c j, ¬ (c = 16 ∧ (j = 8 ∨ j = 9)) → u6 c j = v c j := fun c j h => by rw [h6, up_at, if_neg (by omega), h3, up_at, if_neg (by omega)]
            have u6c : ∀ c, c ≠ 16 → u6 c = v c := fun c h => by funext j; exact u6o c j (by omega)
            have hKv : KrI S v := ⟨fun b hb => by rw [vo 10 (by omega) (by omega)]; exact hK.1 b hb, fun b hb => by rw [vo 15 (by omega) (by omega)]; exact hK.2 b hb⟩
            have hC6 : ChI S o k q u6 := by
              refine ⟨hIv.congr (fun c a b => u6c c (by omega)), ⟨fun b hb => ?_, fun b hb => ?_⟩, ⟨fun b hb => ?_, fun b hb => ?_⟩, ?_, ?_, hE, hb⟩
              · rw [u6c 10 (by omega)]; exact hKv.1 b hb
              · rw [u6c 15 (by omega)]; exact hKv.2 b hb
              · rw [u6c 23 (by omega)]; exact vst.1 b hb
              · rw [u6c 24 (by omega)]; exact vst.2 b hb
              · rw [h6, up_at, if_neg (by omega), h3, up_at, if_pos ⟨rfl, rfl⟩]
              · rw [h6, up_at, if_pos ⟨rfl, rfl⟩]
            have hS6 : SeI S o (u2 19) (u2 21) k u6 := g5.congr (fun c a b => u6c c (by omega))
            refine sp_decideChord hC6 hS6 (fun s hs => by rw [u6c 22 (by omega)]; exact g6 s hs) (fun u7 h7 => ?_)
            have hC7 : ChI S o k q u7 := hC6.congr (fun c _ _ _ _ a b e => h7.1 c a b e)
            have hS7 : SeI S o (u2 19) (u2 21) k u7 := hS6.congr (fun c a b => h7.1 c (by omega) (by omega) (by omega))
            refine sp_changeStates hC7 hS7 (fun u8 h8 hS8 => ?_)
            have u8o : ∀ c, c ≠ 16 → (c < 18 ∨ 26 < c) → u8 c = μ c := fun c a b => by
              rw [h8 c (by omega), h7.1 c (by omega) (by omega) (by omega), u6c c a, vo c a b]
            have u8s : ∀ c, 22 < c → c < 25 → u8 c = v c := fun c a b => by
              rw [h8 c (by omega), h7.1 c (by omega) (by omega) (by omega), u6c c (by omega)]
            refine ih (k + 1) u8 (by omega) u8o ?_ ⟨fun j hj => by rw [u8s 23 (by omega) (by omega)]; exact vst.1 j hj, fun j hj => by rw [u8s 24 (by omega) (by omega)]; exact vst.2 j hj⟩ (fun _ _ => Or.inr trivial) trivial ⟨q, hE.1, hE.2.1, fun r a b => ?_, fun hq' => ?_, hS8, fun s hs => ?_, fun r hr => ?_⟩
            · rw [h8 16 (by omega), h7.1 16 (by omega) (by omega) (by omega), u6o 16 10 (by omega)]; exact v10
            · rintro (h | h)
              · omega
              · exact h (by rw [hE.2.2.1 (r - 1) (by omega) (by omega), hE.2.2.1 r (by omega) b])
            · right
              have h9 := hE.2.2.2 hq'
              rw [← hE.2.2.1 (q - 1) (by have := hE.1; omega) (by have := hE.1; omega)] at h9
              exact fun h => h9 h.symm
            · rw [h8 22 (by omega)]; exact h7.2.1 s hs
            · rw [h8 25 (by omega), h8 26 (by omega)]
              rcases Nat.lt_or_ge r k with h10 | h10
              · have hne : ∀ r', k ≤ r' → r' < q → o r ≠ o r' := fun r' a b e => absurd (hO.inj (by omega) (by have := hE.2.1; omega) e) (by omega)
                obtain ⟨w1', w2'⟩ := h7.2.2.2 (o r) hne
                rw [w1', w2', u6c 25 (by omega), u6c 26 (by omega)]
                exact g7 r h10
              · exact h7.2.2.1 r h10 hr
      refine key2 S.1 0 w (by omega) wo ?_ ⟨fun j hj => (w2 j (by omega)).1, fun j hj => (w2 j (by omega)).2⟩ (fun _ _ => Or.inr trivial) trivial ⟨0, Nat.le_refl _, by omega, fun r a b => absurd b (Nat.not_lt_zero r), fun _ => Or.inl rfl, fun s hs => ?_, fun s hs => ?_, fun r hr => absurd hr (Nat.not_lt_zero r)⟩
      · rw [w1 16 (by omega) (by omega)]; exact a10
      · obtain ⟨b1, b2, b3⟩ := a18 s hs
        rw [w1 18 (by omega) (by omega), w1 19 (by omega) (by omega), w1 20 (by omega) (by omega), w1 21 (by omega) (by omega)]
        exact ⟨b1, rfl, b2, rfl⟩
      · rw [w1 22 (by omega) (by omega)]; exact (a18 s hs).2.2
  exact key1 S.1 0 u2 (by omega) (fun _ _ _ => rfl) (fun j hj => absurd hj (Nat.not_lt_zero j))
end
