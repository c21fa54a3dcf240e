/-! class KeyRow; ByBar.tell -/
def lnF (f : Int32) (i : Nat) : Nat := if f ≤ 0 then ([6, 2, 5, 1, 4, 0, 3] : List Nat).getD i 0 else ([3, 0, 4, 1, 5, 2, 6] : List Nat).getD i 0
def plF (l : Int32) (f : Int32) (c : Nat) : Int32 := if f ≤ 0 then (([7, 5, 6] : List Int32).getD c 0) - ((((((([30, 18, 24] : List Int32).getD c 0) + (([7, 5, 6] : List Int32).getD c 0)) - ((([30, 18, 24] : List Int32).getD c 0) + (([7, 5, 6] : List Int32).getD c 0)) / 7 * 7) - l) + 7) - ((((((([30, 18, 24] : List Int32).getD c 0) + (([7, 5, 6] : List Int32).getD c 0)) - ((([30, 18, 24] : List Int32).getD c 0) + (([7, 5, 6] : List Int32).getD c 0)) / 7 * 7) - l) + 7) / 7 * 7)) else (([9, 7, 8] : List Int32).getD c 0) - ((((((([30, 18, 24] : List Int32).getD c 0) + (([9, 7, 8] : List Int32).getD c 0)) - ((([30, 18, 24] : List Int32).getD c 0) + (([9, 7, 8] : List Int32).getD c 0)) / 7 * 7) - l) + 7) - ((((((([30, 18, 24] : List Int32).getD c 0) + (([9, 7, 8] : List Int32).getD c 0)) - ((([30, 18, 24] : List Int32).getD c 0) + (([9, 7, 8] : List Int32).getD c 0)) / 7 * 7) - l) + 7) / 7 * 7))
abbrev KRow : Type := List (Int32 × Int32 × Int32)
def natR (bf nw : Int32) (cl : Nat) : Nat → KRow
  | 0 => []
  | i + 1 => natR bf nw cl i ++ (if alF nw (lnF bf i) = 0 then [(nI (lnF bf i), 0, plF (nI (lnF bf i)) bf cl)] else [])
def ownR (nw : Int32) (cl : Nat) : Nat → KRow
  | 0 => []
  | i + 1 => ownR nw cl i ++ [(nI (lnF nw i), alF nw (lnF nw i), plF (nI (lnF nw i)) nw cl)]
def kRow (bf nw : Int32) (cl : Nat) (cn : Int32) : KRow := if bf = nw then [] else (if cn = 1 ∨ (cn = 2 ∧ ¬ ((0 < bf ∧ 0 < nw) ∨ (bf < 0 ∧ nw < 0))) then natR bf nw cl bf.toInt.natAbs else []) ++ ownR nw cl nw.toInt.natAbs
theorem natR_len (bf nw : Int32) (cl : Nat) : ∀ i, (natR bf nw cl i).length ≤ i := by
  intro i
  induction i with
  | zero => exact Nat.le_refl _
  | succ i ih => unfold natR; rw [List.length_append]; split <;> simp <;> omega
theorem ownR_len (nw : Int32) (cl : Nat) : ∀ i, (ownR nw cl i).length = i := by
  intro i
  induction i with
  | zero => rfl
  | succ i ih => unfold ownR; rw [List.length_append, ih]; rfl
def RowI (l : KRow) (μ : Mem) : Prop := μ 38 3 = nI l.length ∧ ∀ i, i < l.length → μ 39 i = (l.getD i (0, 0, 0)).1 ∧ μ 40 i = (l.getD i (0, 0, 0)).2.1 ∧ μ 41 i = (l.getD i (0, 0, 0)).2.2
theorem lnF_lt (f : Int32) : ∀ i, i < 7 → lnF f i < 7 := by
  have h1 : ∀ i, i < 7 → ([6, 2, 5, 1, 4, 0, 3] : List Nat).getD i 0 < 7 := by decide
  have h2 : ∀ i, i < 7 → ([3, 0, 4, 1, 5, 2, 6] : List Nat).getD i 0 < 7 := by decide
  intro i hi
  unfold lnF
  split
  · exact h1 i hi
  · exact h2 i hi
theorem ln_t1 : ∀ i, i < 7 → ([6, 2, 5, 1, 4, 0, 3] : List Int32).getD i 0 = nI (([6, 2, 5, 1, 4, 0, 3] : List Nat).getD i 0) := by decide
theorem ln_t2 : ∀ i, i < 7 → ([3, 0, 4, 1, 5, 2, 6] : List Int32).getD i 0 = nI (([3, 0, 4, 1, 5, 2, 6] : List Nat).getD i 0) := by decide
section
variable {G : Gp} {d : Nat} {μ : Mem} {Q : Int32 → Mem → Prop}
theorem sp_letterOf {f : Int32} {i : Nat} (hi : i < 7) (hq : Q (nI (lnF f i)) μ) : Ct G d M_KR_letterOf [.inl f, .inl (nI i)] μ Q := by
  refine en_KR_letterOf (vc_KR_letterOf_0 ?_)
  rw [n_ix (by omega), ln_t1 i hi, ln_t2 i hi]
  unfold lnF at hq
  exact ⟨fun h => ⟨n_in hi (by omega), by rw [if_pos h] at hq; exact hq⟩, fun h => ⟨n_in hi (by omega), by rw [if_neg h] at hq; exact hq⟩⟩
theorem sp_placeFor {l f : Int32} {c : Nat} (hc : c < 3) (hq : Q (plF l f c) μ) : Ct G d M_KR_placeFor [.inl l, .inl f, .inl (nI c)] μ Q := by
  refine en_KR_placeFor (vc_KR_placeFor_0 ?_)
  rw [n_ix (by omega)]
  unfold plF at hq
  refine ⟨fun h => ⟨n_in hc (by omega), fun y1 hy1 => ⟨n_in hc (by omega), fun y2 hy2 => ?_⟩⟩, fun h => ⟨n_in hc (by omega), fun y1 hy1 => ⟨n_in hc (by omega), fun y2 hy2 => ?_⟩⟩⟩
  · rw [if_pos h] at hq; rw [hy2, hy1]; exact hq
  · rw [if_neg h] at hq; rw [hy2, hy1]; exact hq
theorem sp_append {l : KRow} (hR : RowI l μ) (hl : l.length < 14) {a b c : Int32} (hq : ∀ u, RowI (l ++ [(a, b, c)]) u → (∀ k, (k < 38 ∨ 41 < k) → u k = μ k) → Q 0 u) : Ct G d M_KR_append [.inr 38, .inl a, .inl b, .inl c] μ Q := by
  refine en_KR_append (vc_KR_append_0 ?_)
  rw [hR.1]
  refine ⟨fun _ => ⟨n_in hl (by omega), fun u1 h1 => ?_⟩, fun h => absurd ((n_lt (b := 14) (by omega) (by omega)).mpr hl) h⟩
  have e1 : u1 38 3 = nI l.length := by rw [h1, up_at, if_neg (by omega)]; exact hR.1
  rw [e1]
  refine ⟨n_in hl (by omega), fun u2 h2 => ?_⟩
  have e2 : u2 38 3 = nI l.length := by rw [h2, up_at, if_neg (by omega)]; exact e1
  rw [e2]
  refine ⟨n_in hl (by omega), fun u3 h3 u4 h4 => ?_⟩
  have e3 : u3 38 3 = nI l.length := by rw [h3, up_at, if_neg (by omega)]; exact e2
  rw [e3, n_p1] at h4
  rw [n_ix (by omega)] at h1 h2 h3
  refine hq u4 ⟨?_, fun i hi => ?_⟩ (fun k hk => ?_)
  · rw [h4, up_at, if_pos ⟨rfl, rfl⟩, List.length_append]; rfl
  · rw [List.length_append] at hi
    have hi : i < l.length + 1 := hi
    have r39 : u4 39 i = if i = l.length then a else μ 39 i := by
      rw [h4, up_at, if_neg (by omega), h3, up_at, if_neg (by omega), h2, up_at, if_neg (by omega), h1, up_at]; simp
    have r40 : u4 40 i = if i = l.length then b else μ 40 i := by
      rw [h4, up_at, if_neg (by omega), h3, up_at, if_neg (by omega), h2, up_at, h1, up_at, if_neg (show ¬ (40 = 39 ∧ i = l.length) by omega)]; simp
    have r41 : u4 41 i = if i = l.length then c else μ 41 i := by
      rw [h4, up_at, if_neg (by omega), h3, up_at, h2, up_at, if_neg (show ¬ (41 = 40 ∧ i = l.length) by omega), h1, up_at, if_neg (show ¬ (41 = 39 ∧ i = l.length) by omega)]; simp
    rw [r39, r40, r41]
    by_cases h : i = l.length
    · subst h
      rw [if_pos rfl, if_pos rfl, if_pos rfl, List.getD_eq_getElem?_getD, List.getElem?_append_right (Nat.le_refl _), Nat.sub_self]
      exact ⟨rfl, rfl, rfl⟩
    · rw [if_neg h, if_neg h, if_neg h, List.getD_eq_getElem?_getD, List.getElem?_append_left (by omega), ← List.getD_eq_getElem?_getD]
      exact hR.2 i (by omega)
  · funext j; rw [h4, up_at, if_neg (by omega), h3, up_at, if_neg (by omega), h2, up_at, if_neg (by omega), h1, up_at, if_neg (by omega)]
theorem sp_addNaturals {l0 : KRow} {bf nw : Int32} {cl : Nat} (hbf : rg bf (-7) 7) (hcl : cl < 3) (hl0 : l0 = []) (hR : RowI l0 μ) (hq : ∀ u, RowI (natR bf nw cl bf.toInt.natAbs) u → (∀ k, (k < 38 ∨ 41 < k) → u k = μ k) → Q 0 u) : Ct G (d + 1) M_KR_addNaturals [.inr 38, .inl bf, .inl nw, .inl (nI cl)] μ Q := by
  unfold rg at hbf
  refine en_KR_addNaturals (vc_KR_addNaturals_0 ?_)
  have hab : mabs bf = nI bf.toInt.natAbs := mabs_n rfl (by omega)
  have hn7 : bf.toInt.natAbs ≤ 7 := by omega
  generalize hM : bf.toInt.natAbs = M at hab hn7 hq
  have key : ∀ n i (w : Mem), i + n = M → RowI (natR bf nw cl i) w → (∀ k, (k < 38 ∨ 41 < k) → w k = μ k) → AW G (d + 1) M_KR_addNaturals Q 3 [some (.inr 38), some (.inl bf), some (.inl nw), some (.inl (nI cl)), some (.inl (nI i)), none] [] w := by
    intro n
    induction n with
    | zero =>
      intro i w hi w1 w2
      refine vc_KR_addNaturals_3 ?_
      rw [hab]
      exact ⟨fun _ => hq w (by rw [show M = i by omega]; exact w1) w2, fun h => absurd ((n_le (by omega) (by omega)).mpr (by omega)) h⟩
    | succ n ih =>
      intro i w hi w1 w2
      have hln := lnF_lt bf i (by omega)
      have hlen := natR_len bf nw cl i
      refine vc_KR_addNaturals_3 ?_
      rw [hab, n_p1]
      refine ⟨fun h => absurd ((n_le (by omega) (by omega)).mp h) (by omega), fun _ => sp_letterOf (by omega) (sp_alterOf hln ⟨fun h => ?_, fun h => sp_placeFor hcl (sp_append w1 (by omega) (fun u a1 a2 => ?_))⟩)⟩
      · refine ih (i + 1) w (by omega) ?_ w2
        unfold natR; rw [if_neg h, List.append_nil]; exact w1
      · refine ih (i + 1) u (by omega) ?_ (fun k hk => (a2 k hk).trans (w2 k hk))
        unfold natR; rw [if_pos h]; exact a1
  subst hl0
  exact key M 0 μ (by omega) hR (fun _ _ => rfl)
theorem sp_krLayOut {bf nw cn : Int32} {cl : Nat} (hbf : rg bf (-7) 7) (hnw : rg nw (-7) 7) (hcl : cl < 3) (hq : ∀ u, RowI (kRow bf nw cl cn) u → (∀ k, (k < 38 ∨ 41 < k) → u k = μ k) → Q 0 u) : Ct G (d + 2) M_KR_layOut [.inr 38, .inl bf, .inl nw, .inl (nI cl), .inl cn] μ Q := by
  have hbf' := hbf
  unfold rg at hbf hnw
  refine en_KR_layOut (vc_KR_layOut_0 ?_)
  intro u1 h1
  have hR0 : RowI [] u1 := ⟨by rw [h1, up_at, if_pos ⟨rfl, rfl⟩]; rfl, fun i hi => absurd hi (Nat.not_lt_zero i)⟩
  have h1o : ∀ k, (k < 38 ∨ 41 < k) → u1 k = μ k := fun k hk => by funext j; rw [h1, up_at, if_neg (by omega)]
  have hab : mabs nw = nI nw.toInt.natAbs := mabs_n rfl (by omega)
  have hn7 : nw.toInt.natAbs ≤ 7 := by omega
  by_cases heq : bf = nw
  · refine ⟨fun h => absurd heq h, fun _ => hq u1 ?_ h1o⟩
    unfold kRow; rw [if_pos heq]; exact hR0
  · refine ⟨fun _ => ?_, fun h => absurd h heq⟩
    unfold kRow at hq
    rw [if_neg heq] at hq
    generalize hM : nw.toInt.natAbs = M at hab hn7 hq
    -- its own signs, behind what stands
    have own : ∀ (l : KRow) (v : Mem), l.length ≤ 7 → RowI l v → (∀ k, (k < 38 ∨ 41 < k) → v k = μ k) → (∀ u, RowI (l ++ ownR nw cl M) u → (∀ k, (k < 38 ∨ 41 < k) → u k = μ k) → Q 0 u) → AW G (d + 2) M_KR_layOut Q 61 [some (.inr 38), none, some (.inl nw), some (.inl (nI cl)), none, none, some (.inl 0), none] [] v := by
      intro l v hl hv vo hq
      have key : ∀ n i (w : Mem), i + n = M → RowI (l ++ ownR nw cl i) w → (∀ k, (k < 38 ∨ 41 < k) → w k = μ k) → AW G (d + 2) M_KR_layOut Q 61 [some (.inr 38), none, some (.inl nw), some (.inl (nI cl)), none, none, some (.inl (nI i)), none] [] w := by
        intro n
        induction n with
        | zero =>
          intro i w hi w1 w2
          refine vc_KR_layOut_61 ?_
          rw [hab]
          exact ⟨fun _ => hq w (by rw [show M = i by omega]; exact w1) w2, fun h => absurd ((n_le (by omega) (by omega)).mpr (by omega)) h⟩
        | succ n ih =>
          intro i w hi w1 w2
          have hln := lnF_lt nw i (by omega)
          have hlen : (l ++ ownR nw cl i).length < 14 := by rw [List.length_append, ownR_len]; omega
          refine vc_KR_layOut_61 ?_
          rw [hab, n_p1]
          refine ⟨fun h => absurd ((n_le (by omega) (by omega)).mp h) (by omega), fun _ => sp_letterOf (by omega) (sp_alterOf hln (sp_placeFor hcl (sp_append w1 hlen (fun u a1 a2 => ih (i + 1) u (by omega) ?_ (fun k hk => (a2 k hk).trans (w2 k hk))))))⟩
          unfold ownR; rw [← List.append_assoc]; exact a1
      exact key M 0 v (by omega) (by show RowI (l ++ []) v; rw [List.append_nil]; exact hv) vo
    have hnl := natR_len bf nw cl bf.toInt.natAbs
    have hb7 : bf.toInt.natAbs ≤ 7 := by omega
    have wnat : (cn = 1 ∨ (cn = 2 ∧ ¬ ((0 < bf ∧ 0 < nw) ∨ (bf < 0 ∧ nw < 0)))) → Ct G (d + 1) M_KR_addNaturals [.inr 38, .inl bf, .inl nw, .inl (nI cl)] u1 (fun _ u2 => AW G (d + 2) M_KR_layOut Q 61 [some (.inr 38), none, some (.inl nw), some (.inl (nI cl)), none, none, some (.inl 0), none] [] u2) := fun hc =>
      sp_addNaturals hbf' hcl rfl hR0 (fun u2 a1 a2 => own _ u2 (by omega) a1 (fun k hk => (a2 k hk).trans (h1o k hk)) (by rw [if_pos hc] at hq; exact hq))
    have nnat : ¬ (cn = 1 ∨ (cn = 2 ∧ ¬ ((0 < bf ∧ 0 < nw) ∨ (bf < 0 ∧ nw < 0)))) → AW G (d + 2) M_KR_layOut Q 61 [some (.inr 38), none, some (.inl nw), some (.inl (nI cl)), none, none, some (.inl 0), none] [] u1 := fun hc => own [] u1 (by simp) hR0 h1o (by rw [if_neg hc] at hq; exact hq)
    -- with the answer of 'same side' known
    have three : ∀ ss : Int32, (ss = 0 ∨ ss = 1) → (ss = 1 ↔ ((0 < bf ∧ 0 < nw) ∨ (bf < 0 ∧ nw < 0))) → ((cn = 1 → Ct G (d + 1) M_KR_addNaturals [.inr 38, .inl bf, .inl nw, .inl (nI cl)] u1 (fun _ u2 => AW G (d + 2) M_KR_layOut Q 61 [some (.inr 38), none, some (.inl nw), some (.inl (nI cl)), none, none, some (.inl 0), none] [] u2)) ∧ (¬ cn = 1 → (¬ cn = 2 → AW G (d + 2) M_KR_layOut Q 61 [some (.inr 38), none, some (.inl nw), some (.inl (nI cl)), none, none, some (.inl 0), none] [] u1) ∧ (cn = 2 → (¬ ss = 0 → AW G (d + 2) M_KR_layOut Q 61 [some (.inr 38), none, some (.inl nw), some (.inl (nI cl)), none, none, some (.inl 0), none] [] u1) ∧ (ss = 0 → Ct G (d + 1) M_KR_addNaturals [.inr 38, .inl bf, .inl nw, .inl (nI cl)] u1 (fun _ u3 => AW G (d + 2) M_KR_layOut Q 61 [some (.inr 38), none, some (.inl nw), some (.inl (nI cl)), none, none, some (.inl 0), none] [] u3))))) := by
      intro ss h01 hss
      refine ⟨fun h => wnat (Or.inl h), fun h => ⟨fun h2 => nnat (by rintro (e | e); exact h e; exact h2 e.1), fun h2 => ⟨fun h3 => nnat ?_, fun h3 => wnat (Or.inr ⟨h2, fun e => ?_⟩)⟩⟩⟩
      · rintro (e | e)
        · exact h e
        · exact e.2 (hss.mp (h01.resolve_left h3))
      · have := hss.mpr e; rw [h3] at this; exact absurd this (by decide)
    have l19 : ¬ (0 < bf ∧ 0 < nw) → AW G (d + 2) M_KR_layOut Q 19 [some (.inr 38), some (.inl bf), some (.inl nw), some (.inl (nI cl)), some (.inl cn), none, none, none] [] u1 := by
      intro hpp
      refine vc_KR_layOut_19 ⟨fun h0 => three 0 (Or.inl rfl) ⟨fun h => absurd h (by decide), fun h => ?_⟩, fun h0 => ⟨fun h2 => three 0 (Or.inl rfl) ⟨fun h => absurd h (by decide), fun h => ?_⟩, fun h2 => three 1 (Or.inr rfl) ⟨fun _ => Or.inr ?_, fun _ => rfl⟩⟩⟩
      · rcases h with h | h
        · exact absurd h hpp
        · rw [i_le] at h0; have := i_lt.mp h.1; omega
      · rcases h with h | h
        · exact absurd h hpp
        · rw [i_le] at h2; have := i_lt.mp h.2; omega
      · rw [i_le] at h0 h2; rw [i_lt, i_lt]; omega
    refine ⟨fun h0 => l19 (fun h => ?_), fun h0 => ⟨fun h2 => three 1 (Or.inr rfl) ⟨fun _ => Or.inl ⟨?_, h2⟩, fun _ => rfl⟩, fun h2 => l19 (fun h => h2 h.2)⟩⟩
    · rw [i_le] at h0; have := i_lt.mp h.1; omega
    · rw [i_le] at h0; rw [i_lt]; omega
/-- what holds from a bar on until the next one told -/
def tlF (told val : Nat → Int32) (b : Nat) (x : Int32) (b' : Nat) : Int32 := if b ≤ b' ∧ ∀ c, c < b' + 1 → b < c → told c = 0 then x else val b'
theorem sp_tell_k {b : Nat} {x : Int32} (hb : b < 20) (hq : ∀ u, (∀ b', b' < 20 → u 10 b' = tlF (μ 11) (μ 10) b x b') → (∀ b', u 11 b' = if b' = b then 1 else μ 11 b') → (∀ k, k ≠ 10 → k ≠ 11 → u k = μ k) → Q (μ 10 b) u) : Ct G d M_BB_tell [.inr 9, .inl (nI b), .inl x] μ Q := by
  have e1 : vp_in (nI b) 20 := n_in hb (by omega)
  refine en_BB_tell_k (vc_BB_tell_k_0 ?_)
  rw [n_ix (by omega)]
  refine ⟨e1, fun y hy => ⟨e1, fun u2 h2 => ⟨e1, fun u3 h3 y4 hy4 => ?_⟩⟩⟩
  rw [n_p1] at hy4
  subst hy4
  have t3 : ∀ b', u3 11 b' = if b' = b then 1 else μ 11 b' := fun b' => by rw [h3, up_at, if_neg (by omega), h2, up_at]; simp
  have key : ∀ n k (w : Mem), k + n = 20 → b < k → (∀ c, b < c → c < k → μ 11 c = 0) → (∀ b', w 11 b' = if b' = b then 1 else μ 11 b') → (∀ b', w 10 b' = if b ≤ b' ∧ b' < k then x else μ 10 b') → (∀ k, k ≠ 10 → k ≠ 11 → w k = μ k) → AW G d M_BB_tell Q 26 [some (.inr 9), none, some (.inl x), some (.inl y), some (.inl (nI k))] [] w := by
    intro n
    induction n with
    | zero =>
      intro k w hk hbk hz w1 w2 w3
      refine vc_BB_tell_k_26 ⟨fun _ => ?_, fun h => absurd ((n_le (a := 20) (by omega) (by omega)).mpr (by omega)) h⟩
      rw [hy]
      refine hq w (fun b' hb' => ?_) w1 w3
      rw [w2]; unfold tlF
      by_cases h : b ≤ b'
      · rw [if_pos ⟨h, by omega⟩, if_pos ⟨h, fun c a e => hz c e (by omega)⟩]
      · rw [if_neg (fun e => h e.1), if_neg (fun e => h e.1)]
    | succ n ih =>
      intro k w hk hbk hz w1 w2 w3
      have wk : w 11 k = μ 11 k := by rw [w1, if_neg (by omega)]
      refine vc_BB_tell_k_26 ⟨fun h => absurd ((n_le (a := 20) (by omega) (by omega)).mp h) (by omega), fun _ => ⟨n_in (by omega) (by omega), ?_⟩⟩
      rw [n_ix (by omega), wk, n_p1]
      refine ⟨fun h => ?_, fun h => ⟨n_in (by omega) (by omega), fun u1 hu1 => ih (k + 1) u1 (by omega) (by omega) (fun c a e => ?_) (fun b' => ?_) (fun b' => ?_) (fun k' a e => ?_)⟩⟩
      · rw [hy]
        refine hq w (fun b' hb' => ?_) w1 w3
        rw [w2]; unfold tlF
        by_cases h2 : b ≤ b' ∧ b' < k
        · rw [if_pos h2, if_pos ⟨h2.1, fun c a e => hz c e (by omega)⟩]
        · rw [if_neg h2, if_neg (fun e => ?_)]
          exact h (e.2 k (by omega) (by omega))
      · rcases Nat.lt_or_ge c k with h3 | h3
        · exact hz c a h3
        · rw [show c = k by omega]; exact h
      · rw [hu1, up_at, if_neg (by omega)]; exact w1 b'
      · rw [hu1, up_at]
        by_cases h3 : b' = k
        · rw [if_pos ⟨rfl, h3⟩, if_pos (by omega)]
        · rw [if_neg (fun e => h3 e.2), w2]
          by_cases h4 : b ≤ b' ∧ b' < k
          · rw [if_pos h4, if_pos (by omega)]
          · rw [if_neg h4, if_neg (by omega)]
      · funext j; rw [hu1, up_at, if_neg (by omega), w3 k' a e]
  refine key (20 - (b + 1)) (b + 1) u3 (by omega) (by omega) (fun c a e => absurd a (by omega)) t3 (fun b' => ?_) (fun k a e => ?_)
  · rw [h3, up_at, h2, up_at, if_neg (show ¬ (10 = 11 ∧ b' = b) by omega)]
    by_cases h : b' = b
    · rw [if_pos ⟨rfl, h⟩, if_pos (by omega)]
    · rw [if_neg (fun e => h e.2), if_neg (by omega)]
  · funext j; rw [h3, up_at, if_neg (by omega), h2, up_at, if_neg (by omega)]
theorem sp_tell_c {b : Nat} {x : Int32} (hb : b < 20) (hq : ∀ u, (∀ b', b' < 20 → u 13 b' = tlF (μ 14) (μ 13) b x b') → (∀ b', u 14 b' = if b' = b then 1 else μ 14 b') → (∀ k, k ≠ 13 → k ≠ 14 → u k = μ k) → Q (μ 13 b) u) : Ct G d M_BB_tell [.inr 12, .inl (nI b), .inl x] μ Q := by
  have e1 : vp_in (nI b) 20 := n_in hb (by omega)
  refine en_BB_tell_c (vc_BB_tell_c_0 ?_)
  rw [n_ix (by omega)]
  refine ⟨e1, fun y hy => ⟨e1, fun u2 h2 => ⟨e1, fun u3 h3 y4 hy4 => ?_⟩⟩⟩
  rw [n_p1] at hy4
  subst hy4
  have t3 : ∀ b', u3 14 b' = if b' = b then 1 else μ 14 b' := fun b' => by rw [h3, up_at, if_neg (by omega), h2, up_at]; simp
  have key : ∀ n k (w : Mem), k + n = 20 → b < k → (∀ c, b < c → c < k → μ 14 c = 0) → (∀ b', w 14 b' = if b' = b then 1 else μ 14 b') → (∀ b', w 13 b' = if b ≤ b' ∧ b' < k then x else μ 13 b') → (∀ k, k ≠ 13 → k ≠ 14 → w k = μ k) → AW G d M_BB_tell Q 26 [some (.inr 12), none, some (.inl x), some (.inl y), some (.inl (nI k))] [] w := by
    intro n
    induction n with
    | zero =>
      intro k w hk hbk hz w1 w2 w3
      refine vc_BB_tell_c_26 ⟨fun _ => ?_, fun h => absurd ((n_le (a := 20) (by omega) (by omega)).mpr (by omega)) h⟩
      rw [hy]
      refine hq w (fun b' hb' => ?_) w1 w3
      rw [w2]; unfold tlF
      by_cases h : b ≤ b'
      · rw [if_pos ⟨h, by omega⟩, if_pos ⟨h, fun c a e => hz c e (by omega)⟩]
      · rw [if_neg (fun e => h e.1), if_neg (fun e => h e.1)]
    | succ n ih =>
      intro k w hk hbk hz w1 w2 w3
      have wk : w 14 k = μ 14 k := by rw [w1, if_neg (by omega)]
      refine vc_BB_tell_c_26 ⟨fun h => absurd ((n_le (a := 20) (by omega) (by omega)).mp h) (by omega), fun _ => ⟨n_in (by omega) (by omega), ?_⟩⟩
      rw [n_ix (by omega), wk, n_p1]
      refine ⟨fun h => ?_, fun h => ⟨n_in (by omega) (by omega), fun u1 hu1 => ih (k + 1) u1 (by omega) (by omega) (fun c a e => ?_) (fun b' => ?_) (fun b' => ?_) (fun k' a e => ?_)⟩⟩
      · rw [hy]
        refine hq w (fun b' hb' => ?_) w1 w3
        rw [w2]; unfold tlF
        by_cases h2 : b ≤ b' ∧ b' < k
        · rw [if_pos h2, if_pos ⟨h2.1, fun c a e => hz c e (by omega)⟩]
        · rw [if_neg h2, if_neg (fun e => ?_)]
          exact h (e.2 k (by omega) (by omega))
      · rcases Nat.lt_or_ge c k with h3 | h3
        · exact hz c a h3
        · rw [show c = k by omega]; exact h
      · rw [hu1, up_at, if_neg (by omega)]; exact w1 b'
      · rw [hu1, up_at]
        by_cases h3 : b' = k
        · rw [if_pos ⟨rfl, h3⟩, if_pos (by omega)]
        · rw [if_neg (fun e => h3 e.2), w2]
          by_cases h4 : b ≤ b' ∧ b' < k
          · rw [if_pos h4, if_pos (by omega)]
          · rw [if_neg h4, if_neg (by omega)]
      · funext j; rw [hu1, up_at, if_neg (by omega), w3 k' a e]
  refine key (20 - (b + 1)) (b + 1) u3 (by omega) (by omega) (fun c a e => absurd a (by omega)) t3 (fun b' => ?_) (fun k a e => ?_)
  · rw [h3, up_at, h2, up_at, if_neg (show ¬ (13 = 14 ∧ b' = b) by omega)]
    by_cases h : b' = b
    · rw [if_pos ⟨rfl, h⟩, if_pos (by omega)]
    · rw [if_neg (fun e => h e.2), if_neg (by omega)]
  · funext j; rw [h3, up_at, if_neg (by omega), h2, up_at, if_neg (by omega)]
end
