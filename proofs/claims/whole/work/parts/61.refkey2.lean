/-! the reference: keySigns, keySign -/
section
variable {G : Gp} {d : Nat} {S : Sc} {o : Nat → Nat} {K KT : Nat → Int32} {μ : Mem} {Q : Int32 → Mem → Prop}
theorem nl_len (bf nw : Int32) (cl : Nat) (cn : Int32) (h : rg bf (-7) 7) : (nlR bf nw cl cn).length ≤ 7 := by
  unfold rg at h
  unfold nlR
  split
  · exact Nat.zero_le _
  · split
    · have := natR_len bf nw cl bf.toInt.natAbs; omega
    · exact Nat.zero_le _
theorem md_keySigns (hR : RN S μ) (hK : RK S K KT μ) {x : Int32} (hq : ∀ r u, aKs S K x r → FrK μ u → Q r u) : Ct G (d + 3) M_MD_keySigns [.inr 42, .inl x] μ Q := by
  have e0 : (0 : Int32).toInt = 0 := by decide
  have e19 : (19 : Int32).toInt = 19 := by decide
  refine en_MD_keySigns (vc_MD_keySigns_0 (md_in ?_))
  rw [bi_0, Classical.not_not, e0, e19]
  refine ⟨fun hx => ?_, fun h => hq _ _ (Or.inl ⟨h, rfl⟩) FrK.rfl⟩
  have hix := ix_i hx.1
  have hxx : x = nI (ix x) := n_of hx.1
  generalize hj : ix x = b at hix hxx
  have hb : b < 20 := by omega
  have hB := hR.1
  have hnw := (hB.2.2.1 b hb).1
  have hnw' := hnw
  unfold rg at hnw'
  have hneg : (-S.2 8 b).toInt = -(S.2 8 b).toInt := i_neg (by omega)
  rw [hxx]
  refine md_keyOf hK hB b hb (md_keyBefore hR hK hb ⟨fun hne => ?_, fun he => hq _ _ (Or.inr ⟨hx, ?_⟩) FrK.rfl⟩)
  · refine md_naturals hR hK hb (ix (K b)) (fun u fu _ => ?_)
    have hl := nl_len (bfK S b) (S.2 8 b) (ix (K b)) (S.2 10 4) (bf_rg hB hb)
    have el : (kRow (bfK S b) (S.2 8 b) (ix (K b)) (S.2 10 4)).length = (nlR (bfK S b) (S.2 8 b) (ix (K b)) (S.2 10 4)).length + (S.2 8 b).toInt.natAbs := by
      rw [kRow_eq, if_neg (fun e => hne e.symm), List.length_append, ownR_len]
    refine ⟨fun h => hq _ u (Or.inr ⟨hx, ?_⟩) fu, fun h => hq _ u (Or.inr ⟨hx, ?_⟩) fu⟩
    · rw [i_le, e0] at h
      rw [hj, el, ← nI_add, show nI (S.2 8 b).toInt.natAbs = S.2 8 b by rw [i_eq, n_i (by omega)]; omega]
    · rw [i_le, e0] at h
      rw [hj, el, ← nI_add, show nI (S.2 8 b).toInt.natAbs = -S.2 8 b by rw [i_eq, n_i (by omega), hneg]; omega]
  · rw [hj, kRow_eq, if_pos he.symm]; rfl
theorem md_keySign (hR : RN S μ) (hK : RK S K KT μ) {x i y : Int32} (hq : ∀ r u, aKey S K x i y r → FrK μ u → Q r u) : Ct G (d + 4) M_MD_keySign [.inr 42, .inl x, .inl i, .inl y] μ Q := by
  have e0 : (0 : Int32).toInt = 0 := by decide
  have e2 : (2 : Int32).toInt = 2 := by decide
  have e19 : (19 : Int32).toInt = 19 := by decide
  refine en_MD_keySign (vc_MD_keySign_0 (md_in ?_))
  rw [bi_0, Classical.not_not, e0, e19]
  refine ⟨fun h => hq _ _ (Or.inl ⟨fun hh => h hh.1, rfl⟩) FrK.rfl, fun hx => md_in ?_⟩
  rw [bi_0, Classical.not_not, e0, e2]
  refine ⟨fun hy => ?_, fun h => hq _ _ (Or.inl ⟨fun hh => h hh.2, rfl⟩) FrK.rfl⟩
  have hix := ix_i hx.1
  have hxx : x = nI (ix x) := n_of hx.1
  have hgd : isB x ∧ 0 ≤ y.toInt ∧ y.toInt ≤ 2 := ⟨hx, hy⟩
  have hB := hR.1
  refine md_keySigns hR hK (fun r6 u5 hr6 f5 => ?_)
  rcases hr6 with ⟨h, _⟩ | ⟨_, hr6⟩
  · exact absurd hx h
  have hb : ix x < 20 := by omega
  have hnw := (hB.2.2.1 (ix x) hb).1
  have hnw' := hnw
  unfold rg at hnw'
  have hbf := bf_rg hB hb
  have hcl := (hK.1 (ix x) hb).2.2.2.2
  have hl := nl_len (bfK S (ix x)) (S.2 8 (ix x)) (ix (K (ix x))) (S.2 10 4) hbf
  have el : bfK S (ix x) ≠ S.2 8 (ix x) → (kRow (bfK S (ix x)) (S.2 8 (ix x)) (ix (K (ix x))) (S.2 10 4)).length = (nlR (bfK S (ix x)) (S.2 8 (ix x)) (ix (K (ix x))) (S.2 10 4)).length + (S.2 8 (ix x)).toInt.natAbs := fun h => by
    rw [kRow_eq, if_neg h, List.length_append, ownR_len]
  have hkl : (kRow (bfK S (ix x)) (S.2 8 (ix x)) (ix (K (ix x))) (S.2 10 4)).length ≤ 14 := by
    by_cases h : bfK S (ix x) = S.2 8 (ix x)
    · rw [kRow_eq, if_pos h]; exact Nat.zero_le _
    · rw [el h]; omega
  refine md_in ?_
  rw [bi_0, Classical.not_not, e0, hr6, n_m1i (by omega)]
  refine ⟨fun hi => ?_, fun h => hq _ _ (Or.inr ⟨hgd, Or.inl ⟨by omega, rfl⟩⟩) f5⟩
  have hne : bfK S (ix x) ≠ S.2 8 (ix x) := fun h => by
    rw [kRow_eq, if_pos h] at hi
    simp at hi; omega
  have hii := ix_i hi.1
  have hin : i = nI (ix i) := n_of hi.1
  have hil : ix i < (kRow (bfK S (ix x)) (S.2 8 (ix x)) (ix (K (ix x))) (S.2 10 4)).length := by omega
  have kr : kRow (bfK S (ix x)) (S.2 8 (ix x)) (ix (K (ix x))) (S.2 10 4) = nlR (bfK S (ix x)) (S.2 8 (ix x)) (ix (K (ix x))) (S.2 10 4) ++ ownR (S.2 8 (ix x)) (ix (K (ix x))) (S.2 8 (ix x)).toInt.natAbs := by rw [kRow_eq, if_neg hne]
  have elx := el hne
  have hiy : 0 ≤ i.toInt ∧ i.toInt < (kRow (bfK S (ix x)) (S.2 8 (ix x)) (ix (K (ix x))) (S.2 10 4)).length := by omega
  -- the answers
  have ans : ∀ r, (r = if y = 0 then ((kRow (bfK S (ix x)) (S.2 8 (ix x)) (ix (K (ix x))) (S.2 10 4)).getD (ix i) (0, 0, 0)).1 else if y = 1 then ((kRow (bfK S (ix x)) (S.2 8 (ix x)) (ix (K (ix x))) (S.2 10 4)).getD (ix i) (0, 0, 0)).2.1 + 10 else ((kRow (bfK S (ix x)) (S.2 8 (ix x)) (ix (K (ix x))) (S.2 10 4)).getD (ix i) (0, 0, 0)).2.2 + 100) → ∀ u, FrK μ u → Q r u := fun r hr u fu => hq r u (Or.inr ⟨hgd, Or.inr ⟨hiy, hr⟩⟩) fu
  have y3 : y = 0 ∨ y = 1 ∨ y = 2 := rg_012 hy
  -- the way down
  have way : ∀ (f : Int32) (l : Nat), l < 7 → ∀ u, FrK μ u → y = 2 → ((kRow (bfK S (ix x)) (S.2 8 (ix x)) (ix (K (ix x))) (S.2 10 4)).getD (ix i) (0, 0, 0)).2.2 = plF (nI l) f (ix (K (ix x))) → ∀ P base : Int32, P = (if f ≤ 0 then 7 else 9) - ([0, 2, 1] : List Int32).getD (ix (K (ix x))) 0 → base = ([30, 18, 24] : List Int32).getD (ix (K (ix x))) 0 → AW G (d + 4) M_MD_keySign Q 204 [none, none, none, none, none, none, some (.inl (nI l)), none, some (.inl base), some (.inl P)] [] u := by
    intro f l hl7 u fu hy2 hrow P base hP hbase
    have hc3 : ix (K (ix x)) < 3 := by unfold rg at hcl; have := ix_i hcl.1; omega
    have hs : (if f ≤ 0 then (0 : Int32) else 1) ∈ ([0, 1] : List Int32) := by split <;> simp
    obtain ⟨n, n7, n1, n2, n3⟩ := pl_tab (ix (K (ix x))) hc3 _ hs l hl7
    have hPs : (if (if f ≤ 0 then (0 : Int32) else 1) ≤ 0 then (7 : Int32) else 9) = if f ≤ 0 then 7 else 9 := by
      by_cases h : f ≤ 0
      · rw [if_pos h, if_pos h, if_pos (by decide)]
      · rw [if_neg h, if_neg h, if_neg (by decide)]
    rw [hPs, ← hP, ← hbase] at n1
    rw [hPs, ← hP] at n3
    simp only [hPs, ← hP, ← hbase] at n2
    rw [← plF_s] at n3
    have key : ∀ r k, k + r = n → AW G (d + 4) M_MD_keySign Q 204 [none, none, none, none, none, none, some (.inl (nI l)), none, some (.inl base), some (.inl (dnp P k))] [] u := by
      intro r
      induction r with
      | zero =>
        intro k hk
        have hk : k = n := by omega
        subst hk
        refine vc_MD_keySign_204 ⟨fun _ => ans _ ?_ u fu, fun h => absurd n1 h⟩
        rw [if_neg (by rw [hy2]; decide), if_neg (by rw [hy2]; decide), hrow, n3]
      | succ r ih =>
        intro k hk
        exact vc_MD_keySign_204 ⟨fun h => absurd h (n2 k (by omega)), fun _ => ih (k + 1) (by omega)⟩
    exact key n 0 (by omega)
  -- what is asked
  have a99 : ∀ (f : Int32) (l : Nat) (n : Int32), l < 7 → ∀ u, FrK μ u → (kRow (bfK S (ix x)) (S.2 8 (ix x)) (ix (K (ix x))) (S.2 10 4)).getD (ix i) (0, 0, 0) = (nI l, (if n ≤ i then (if f ≤ 0 then -2 else 2) else 0), plF (nI l) f (ix (K (ix x)))) → AW G (d + 4) M_MD_keySign Q 99 [some (.inr 42), some (.inl x), some (.inl i), some (.inl y), some (.inl n), some (.inl f), none, none, none, none] [.inl (nI l)] u := by
    intro f l n hl7 u fu hrow
    refine vc_MD_keySign_99 ⟨fun h0 => ⟨fun h1 => ?_, fun h1 => ⟨fun h2 => ⟨fun h3 => ans _ ?_ u fu, fun h3 => ans _ ?_ u fu⟩, fun h2 => ans _ ?_ u fu⟩⟩, fun h0 => ans _ ?_ u fu⟩
    · have hy2 : y = 2 := y3.elim (fun h => absurd h h0) (fun h => h.elim (fun h => absurd h h1) id)
      rw [hxx]
      refine md_clefOf (hK.frk fu) (ix x) hb ?_
      have row2 := congrArg (fun t => t.2.2) hrow
      dsimp only at row2
      have a167 : ∀ (base : Int32), base = ([30, 18, 24] : List Int32).getD (ix (K (ix x))) 0 → AW G (d + 4) M_MD_keySign Q 167 [none, none, none, none, none, some (.inl f), some (.inl (nI l)), some (.inl (K (ix x))), none, none] [.inl base] u := by
        intro base hbase
        have go : ∀ P : Int32, P = (if f ≤ 0 then 7 else 9) - ([0, 2, 1] : List Int32).getD (ix (K (ix x))) 0 → AW G (d + 4) M_MD_keySign Q 204 [none, none, none, none, none, none, some (.inl (nI l)), none, some (.inl base), some (.inl P)] [] u := fun P hP => way f l hl7 u fu hy2 row2 P base hP hbase
        rcases rg_012 hcl with hc | hc | hc
        · rw [hc] at go ⊢
          refine vc_MD_keySign_167 ⟨fun hf => ⟨fun h => absurd rfl h, fun _ P hP => go P (by rw [hP, if_pos hf]; rfl)⟩, fun hf => ⟨fun h => absurd rfl h, fun _ P hP => go P (by rw [hP, if_neg hf]; rfl)⟩⟩
        · rw [hc] at go ⊢
          refine vc_MD_keySign_167 ⟨fun hf => ⟨fun _ => ⟨fun h => absurd rfl h, fun _ P hP => go P (by rw [hP, if_pos hf]; rfl)⟩, fun h => absurd h (by decide)⟩, fun hf => ⟨fun _ => ⟨fun h => absurd rfl h, fun _ P hP => go P (by rw [hP, if_neg hf]; rfl)⟩, fun h => absurd h (by decide)⟩⟩
        · rw [hc] at go ⊢
          refine vc_MD_keySign_167 ⟨fun hf => ⟨fun _ => ⟨fun _ P hP => go P (by rw [hP, if_pos hf]; rfl), fun h => absurd h (by decide)⟩, fun h => absurd h (by decide)⟩, fun hf => ⟨fun _ => ⟨fun _ P hP => go P (by rw [hP, if_neg hf]; rfl), fun h => absurd h (by decide)⟩, fun h => absurd h (by decide)⟩⟩
      rcases rg_012 hcl with hc | hc | hc
      · rw [hc] at a167 ⊢
        exact ⟨fun h => absurd rfl h, fun _ => a167 30 rfl⟩
      · rw [hc] at a167 ⊢
        exact ⟨fun _ => ⟨fun h => absurd rfl h, fun _ => a167 18 rfl⟩, fun h => absurd h (by decide)⟩
      · rw [hc] at a167 ⊢
        exact ⟨fun _ => ⟨fun _ => a167 24 rfl, fun h => absurd h (by decide)⟩, fun h => absurd h (by decide)⟩
    · rw [if_neg h0, if_pos h1, hrow]; dsimp only; rw [if_pos h2, if_pos h3]; rfl
    · rw [if_neg h0, if_pos h1, hrow]; dsimp only; rw [if_pos h2, if_neg h3]; rfl
    · rw [if_neg h0, if_pos h1, hrow]; dsimp only; rw [if_neg h2]; rfl
    · rw [if_pos h0, hrow]
  rw [hxx]
  refine md_naturals (hR.frk f5) (hK.frk f5) hb (ix (K (ix x))) (fun u9 f9 h30 => ?_)
  rw [← hxx]
  have f59 := f5.trans f9
  have hle : nI (nlR (bfK S (ix x)) (S.2 8 (ix x)) (ix (K (ix x))) (S.2 10 4)).length ≤ i ↔ (nlR (bfK S (ix x)) (S.2 8 (ix x)) (ix (K (ix x))) (S.2 10 4)).length ≤ ix i := by rw [i_le, n_i (by omega)]; omega
  refine ⟨fun h => ?_, fun h => ?_⟩
  · have hlt := hle.mp h
    rw [hxx]
    refine md_keyOf (hK.frk f59) hB (ix x) hb ?_
    rw [← hxx]
    generalize hk : ix i - (nlR (bfK S (ix x)) (S.2 8 (ix x)) (ix (K (ix x))) (S.2 10 4)).length = k
    have hka : k < (S.2 8 (ix x)).toInt.natAbs := by omega
    have hk7 : k < 7 := by omega
    have hsub : i - nI (nlR (bfK S (ix x)) (S.2 8 (ix x)) (ix (K (ix x))) (S.2 10 4)).length = nI k := by
      rw [i_eq, i_sub (by rw [n_i (by omega)]; omega) (by rw [n_i (by omega)]; omega), n_i (by omega), n_i (by omega)]; omega
    have row : (kRow (bfK S (ix x)) (S.2 8 (ix x)) (ix (K (ix x))) (S.2 10 4)).getD (ix i) (0, 0, 0) = (nI (lnF (S.2 8 (ix x)) k), (if nI (nlR (bfK S (ix x)) (S.2 8 (ix x)) (ix (K (ix x))) (S.2 10 4)).length ≤ i then (if S.2 8 (ix x) ≤ 0 then -2 else 2) else 0), plF (nI (lnF (S.2 8 (ix x)) k)) (S.2 8 (ix x)) (ix (K (ix x)))) := by
      rw [kr, List.getD_eq_getElem?_getD, List.getElem?_append_right hlt, hk, ← List.getD_eq_getElem?_getD, ownR_get _ _ _ (by omega) k hka, if_pos h, al_tab2 (S.2 8 (ix x)) (rg_15 hnw) _ (lnF_lt _ k hk7) k hka rfl]
    refine vc_MD_keySign_67 ⟨fun _ => ⟨fun hf => vc_MD_keySign_96 ?_, fun hf => vc_MD_keySign_96 ?_⟩, fun h2 => absurd h h2⟩
    · rw [hsub]
      refine md_letter hk7 ?_
      rw [ltM_ln (f := S.2 8 (ix x)) ⟨fun _ => hf, fun _ => rfl⟩]
      exact a99 _ _ _ (lnF_lt _ k hk7) u9 f59 row
    · rw [hsub]
      refine md_letter hk7 ?_
      rw [ltM_ln (f := S.2 8 (ix x)) ⟨fun e => absurd e (by decide), fun e => absurd e hf⟩]
      exact a99 _ _ _ (lnF_lt _ k hk7) u9 f59 row
  · have hlt : ix i < (nlR (bfK S (ix x)) (S.2 8 (ix x)) (ix (K (ix x))) (S.2 10 4)).length := Nat.lt_of_not_le (fun g => h (hle.mpr g))
    rw [hxx]
    refine md_keyBefore (hR.frk f59) (hK.frk f59) hb ?_
    rw [← hxx]
    have e30 := h30 (ix i) (by omega) hin hlt
    have hnl : ∃ k, k ≤ 7 ∧ nlR (bfK S (ix x)) (S.2 8 (ix x)) (ix (K (ix x))) (S.2 10 4) = natR (bfK S (ix x)) (S.2 8 (ix x)) (ix (K (ix x))) k := by
      unfold rg at hbf
      unfold nlR
      rw [if_neg hne]
      split
      · exact ⟨_, by omega, rfl⟩
      · exact ⟨0, by omega, rfl⟩
    obtain ⟨k, k7, hnl⟩ := hnl
    obtain ⟨l, l7, hl2⟩ := natR_get (bfK S (ix x)) (S.2 8 (ix x)) (ix (K (ix x))) k k7 (ix i) (by rw [← hnl]; exact hlt)
    rw [← hnl] at hl2
    rw [hl2] at e30
    have row : (kRow (bfK S (ix x)) (S.2 8 (ix x)) (ix (K (ix x))) (S.2 10 4)).getD (ix i) (0, 0, 0) = (nI l, (if nI (nlR (bfK S (ix x)) (S.2 8 (ix x)) (ix (K (ix x))) (S.2 10 4)).length ≤ i then (if bfK S (ix x) ≤ 0 then -2 else 2) else 0), plF (nI l) (bfK S (ix x)) (ix (K (ix x)))) := by
      rw [kr, List.getD_eq_getElem?_getD, List.getElem?_append_left hlt, ← List.getD_eq_getElem?_getD, hl2, if_neg h]
    refine vc_MD_keySign_67 ⟨fun h2 => absurd h2 h, fun _ => ?_⟩
    rw [e30]
    exact a99 _ _ _ l7 u9 f59 row
end
