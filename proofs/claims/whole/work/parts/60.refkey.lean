/-! the reference: the signs of keys -/
def FrK (μ u : Mem) : Prop := (∀ c, c ≠ 42 → u c = μ c) ∧ ∀ j, j ≠ 30 → u 42 j = μ 42 j
def nlR (bf nw : Int32) (cl : Nat) (cn : Int32) : KRow := if bf = nw then [] else if cn = 1 ∨ (cn = 2 ∧ ¬ ((0 < bf ∧ 0 < nw) ∨ (bf < 0 ∧ nw < 0))) then natR bf nw cl bf.toInt.natAbs else []
theorem kRow_eq (bf nw : Int32) (cl : Nat) (cn : Int32) : kRow bf nw cl cn = if bf = nw then [] else nlR bf nw cl cn ++ ownR nw cl nw.toInt.natAbs := by
  unfold kRow nlR
  by_cases h : bf = nw
  · rw [if_pos h, if_pos h]
  · rw [if_neg h, if_neg h, if_neg h]
theorem natR_get (bf nw : Int32) (cl : Nat) : ∀ k, k ≤ 7 → ∀ i, i < (natR bf nw cl k).length → ∃ l, l < 7 ∧ (natR bf nw cl k).getD i (0, 0, 0) = (nI l, 0, plF (nI l) bf cl) := by
  intro k
  induction k with
  | zero => intro _ i hi; exact absurd hi (Nat.not_lt_zero i)
  | succ k ih =>
    intro hk i hi
    unfold natR at hi ⊢
    by_cases h : alF nw (lnF bf k) = 0
    · rw [if_pos h] at hi ⊢
      rw [List.length_append] at hi
      rw [List.getD_eq_getElem?_getD]
      by_cases hl : i < (natR bf nw cl k).length
      · rw [List.getElem?_append_left hl, ← List.getD_eq_getElem?_getD]; exact ih (by omega) i hl
      · have hi : i < (natR bf nw cl k).length + 1 := hi
        rw [List.getElem?_append_right (by omega), show i - (natR bf nw cl k).length = 0 by omega]
        exact ⟨lnF bf k, lnF_lt bf k (by omega), rfl⟩
    · rw [if_neg h] at hi ⊢
      rw [List.append_nil] at hi ⊢
      exact ih (by omega) i hi
theorem ownR_get (nw : Int32) (cl : Nat) : ∀ k, k ≤ 7 → ∀ i, i < k → (ownR nw cl k).getD i (0, 0, 0) = (nI (lnF nw i), alF nw (lnF nw i), plF (nI (lnF nw i)) nw cl) := by
  intro k
  induction k with
  | zero => intro _ i hi; exact absurd hi (Nat.not_lt_zero i)
  | succ k ih =>
    intro hk i hi
    unfold ownR
    rw [List.getD_eq_getElem?_getD]
    by_cases hl : i < k
    · rw [List.getElem?_append_left (by rw [ownR_len]; exact hl), ← List.getD_eq_getElem?_getD]; exact ih (by omega) i hl
    · rw [List.getElem?_append_right (by rw [ownR_len]; omega), ownR_len, show i - k = 0 by omega, show i = k by omega]; rfl
def dnp (P : Int32) : Nat → Int32
  | 0 => P
  | k + 1 => dnp P k + -1
theorem pl_tab : ∀ cl, cl < 3 → ∀ s ∈ ([0, 1] : List Int32), ∀ l, l < 7 → ∃ n, n < 7 ∧ ((dnp ((if s ≤ 0 then 7 else 9) - ([0, 2, 1] : List Int32).getD cl 0) n + ([30, 18, 24] : List Int32).getD cl 0) - (dnp ((if s ≤ 0 then 7 else 9) - ([0, 2, 1] : List Int32).getD cl 0) n + ([30, 18, 24] : List Int32).getD cl 0) / 7 * 7 = nI l) ∧ (∀ k, k < n → ¬ (dnp ((if s ≤ 0 then 7 else 9) - ([0, 2, 1] : List Int32).getD cl 0) k + ([30, 18, 24] : List Int32).getD cl 0) - (dnp ((if s ≤ 0 then 7 else 9) - ([0, 2, 1] : List Int32).getD cl 0) k + ([30, 18, 24] : List Int32).getD cl 0) / 7 * 7 = nI l) ∧ dnp ((if s ≤ 0 then 7 else 9) - ([0, 2, 1] : List Int32).getD cl 0) n = plF (nI l) s cl := by decide +kernel
theorem plF_s (l f : Int32) (cl : Nat) : plF l f cl = plF l (if f ≤ 0 then 0 else 1) cl := by
  by_cases h : f ≤ 0
  · rw [if_pos h]; unfold plF; rw [if_pos h, if_pos (by decide)]
  · rw [if_neg h]; unfold plF; rw [if_neg h, if_neg (by decide)]
section
variable {G : Gp} {d : Nat} {S : Sc} {o : Nat → Nat} {K KT : Nat → Int32} {μ : Mem} {Q : Int32 → Mem → Prop}
theorem FrK.rfl : FrK μ μ := ⟨fun _ _ => Eq.refl _, fun _ _ => Eq.refl _⟩
theorem FrK.trans {u v : Mem} (h : FrK μ u) (h2 : FrK u v) : FrK μ v := ⟨fun c hc => (h2.1 c hc).trans (h.1 c hc), fun j hj => (h2.2 j hj).trans (h.2 j hj)⟩
theorem FrK.up {x : Int32} : FrK μ (up μ 42 30 x) := ⟨fun c hc => by funext j; rw [up_at, if_neg (by omega)], fun j hj => by rw [up_at, if_neg (by omega)]⟩
theorem FrK.R {u : Mem} (h : FrK μ u) : FrR μ u := fun c hc => h.1 c (by omega)
theorem RN.frk {u : Mem} (hR : RN S μ) (h : FrK μ u) : RN S u := hR.congr (h.2 8 (by omega)) (fun c _ _ => h.1 c (by omega))
theorem RK.frk {u : Mem} (hK : RK S K KT μ) (h : FrK μ u) : RK S K KT u := hK.congr (fun c _ _ => h.1 c (by omega))
theorem RI.frk {u : Mem} (hI : RI S o K KT μ) (h : FrK μ u) : RI S o K KT u := by
  obtain ⟨hR, hK, hO, hW⟩ := hI
  refine ⟨hR.frk h, hK.frk h, hO, fun h21 => ?_⟩
  rw [h.2 21 (by omega)] at h21
  obtain ⟨w1, w2⟩ := hW h21
  refine ⟨w1.congr (fun c _ _ => h.1 c (by omega)), ?_⟩
  unfold PlI
  rw [h.2 22 (by omega), h.2 25 (by omega), h.1 64 (by omega), h.1 66 (by omega)]
  exact w2
theorem md_keyBefore (hR : RN S μ) (hK : RK S K KT μ) {b : Nat} (hb : b < 20) (hq : Q (bfK S b) μ) : Ct G (d + 1) M_MD_keyBefore [.inr 42, .inl (nI b)] μ Q := by
  refine en_MD_keyBefore (vc_MD_keyBefore_0 ?_)
  unfold bfK at hq
  rw [show (0 : Int32) = nI 0 from rfl, n_inj (by omega) (by omega)]
  refine ⟨fun h => ?_, fun h => by rw [if_pos h] at hq; exact hq⟩
  rw [if_neg h] at hq
  obtain ⟨b', hb'⟩ : ∃ b', b = b' + 1 := ⟨b - 1, by omega⟩
  rw [hb', n_s1]
  rw [hb', Nat.add_sub_cancel] at hq
  exact md_keyOf hK hR.1 b' (by omega) hq
theorem bf_rg (hB : Bd S) {b : Nat} (hb : b < 20) : rg (bfK S b) (-7) 7 := by
  unfold bfK
  split
  · exact ⟨by decide, by decide⟩
  · exact (hB.2.2.1 (b - 1) (by omega)).1
theorem md_naturals (hR : RN S μ) (hK : RK S K KT μ) {b : Nat} (hb : b < 20) {x : Int32} (cl : Nat) (hq : ∀ u, FrK μ u → (∀ i : Nat, i < 7 → x = nI i → i < (nlR (bfK S b) (S.2 8 b) cl (S.2 10 4)).length → u 42 30 = ((nlR (bfK S b) (S.2 8 b) cl (S.2 10 4)).getD i (0, 0, 0)).1) → Q (nI (nlR (bfK S b) (S.2 8 b) cl (S.2 10 4)).length) u) : Ct G (d + 2) M_MD_naturals [.inr 42, .inl (nI b), .inl x] μ Q := by
  have hB := hR.1
  have hbf := bf_rg hB hb
  have hnw := (hB.2.2.1 b hb).1
  have hbf' := hbf
  unfold rg at hbf'
  have hneg : (-bfK S b).toInt = -(bfK S b).toInt := i_neg (by omega)
  have e0 : (0 : Int32).toInt = 0 := by decide
  refine en_MD_naturals (vc_MD_naturals_0 (md_keyBefore hR hK hb (md_keyOf hK hB b hb (fun u5 hu5 => ?_))))
  have f5 : FrK μ u5 := by rw [hu5]; exact FrK.up
  have nil : nlR (bfK S b) (S.2 8 b) cl (S.2 10 4) = [] → Q 0 u5 := fun h => by
    have := hq u5 f5
    rw [h] at this
    exact this (fun i _ _ h => absurd h (Nat.not_lt_zero i))
  -- the loop
  have a82 : nlR (bfK S b) (S.2 8 b) cl (S.2 10 4) = natR (bfK S b) (S.2 8 b) cl (bfK S b).toInt.natAbs → AW G (d + 2) M_MD_naturals Q 82 [some (.inr 42), none, some (.inl x), some (.inl (bfK S b)), some (.inl (S.2 8 b)), some (.inl 0), some (.inl 0), none] [] u5 := by
    intro hnl
    rw [hnl] at hq
    have key : ∀ n k, k + n = (bfK S b).toInt.natAbs → ∀ u, FrK μ u → (∀ i : Nat, i < 7 → x = nI i → i < (natR (bfK S b) (S.2 8 b) cl k).length → u 42 30 = ((natR (bfK S b) (S.2 8 b) cl k).getD i (0, 0, 0)).1) → AW G (d + 2) M_MD_naturals Q 82 [some (.inr 42), none, some (.inl x), some (.inl (bfK S b)), some (.inl (S.2 8 b)), some (.inl (nI (natR (bfK S b) (S.2 8 b) cl k).length)), some (.inl (nI k)), none] [] u := by
      intro n
      induction n with
      | zero =>
        intro k hk u fu hu
        refine vc_MD_naturals_82 ⟨fun h => vc_MD_naturals_94 ⟨fun _ => ?_, fun h2 => absurd ?_ h2⟩, fun h => vc_MD_naturals_94 ⟨fun _ => ?_, fun h2 => absurd ?_ h2⟩⟩
        · have hk : k = (bfK S b).toInt.natAbs := by omega
          subst hk; exact hq u fu hu
        · rw [i_le, n_i (by omega)]; rw [i_le, e0] at h; omega
        · have hk : k = (bfK S b).toInt.natAbs := by omega
          subst hk; exact hq u fu hu
        · rw [i_le, n_i (by omega), hneg]; rw [i_le, e0] at h; omega
      | succ n ih =>
        intro k hk u fu hu
        have hk7 : k < 7 := by omega
        have hln := lnF_lt (bfK S b) k hk7
        have hlen := natR_len (bfK S b) (S.2 8 b) cl k
        have ih := ih (k + 1) (by omega)
        have body : (¬ alF (S.2 8 b) (lnF (bfK S b) k) = 0 → AW G (d + 2) M_MD_naturals Q 82 [some (.inr 42), none, some (.inl x), some (.inl (bfK S b)), some (.inl (S.2 8 b)), some (.inl (nI (natR (bfK S b) (S.2 8 b) cl k).length)), some (.inl (nI k + 1)), none] [] u) ∧ (alF (S.2 8 b) (lnF (bfK S b) k) = 0 → (¬ nI (natR (bfK S b) (S.2 8 b) cl k).length = x → ∀ u5 : Mem, u5 = up u 42 30 (u 42 30) → AW G (d + 2) M_MD_naturals Q 82 [some (.inr 42), none, some (.inl x), some (.inl (bfK S b)), some (.inl (S.2 8 b)), some (.inl (nI (natR (bfK S b) (S.2 8 b) cl k).length + 1)), some (.inl (nI k + 1)), none] [] u5) ∧ (nI (natR (bfK S b) (S.2 8 b) cl k).length = x → ∀ u6 : Mem, u6 = up u 42 30 (nI (lnF (bfK S b) k)) → AW G (d + 2) M_MD_naturals Q 82 [some (.inr 42), none, some (.inl x), some (.inl (bfK S b)), some (.inl (S.2 8 b)), some (.inl (nI (natR (bfK S b) (S.2 8 b) cl k).length + 1)), some (.inl (nI k + 1)), none] [] u6)) := by
          rw [n_p1, n_p1]
          unfold natR at ih
          refine ⟨fun h => ?_, fun h => ⟨fun hx v hv => ?_, fun hx v hv => ?_⟩⟩
          · rw [if_neg h, List.append_nil] at ih; exact ih u fu hu
          · rw [if_pos h, List.length_append] at ih
            have fv : FrK μ v := by rw [hv]; exact fu.trans FrK.up
            have ev : v 42 30 = u 42 30 := by rw [hv, up_at, if_pos ⟨rfl, rfl⟩]
            refine ih v fv (fun i hi7 hi hl => ?_)
            have hl : i < (natR (bfK S b) (S.2 8 b) cl k).length + 1 := hl
            by_cases hil : i = (natR (bfK S b) (S.2 8 b) cl k).length
            · exact absurd (by rw [hi, hil]) hx
            · rw [ev, List.getD_eq_getElem?_getD, List.getElem?_append_left (by omega), ← List.getD_eq_getElem?_getD]
              exact hu i hi7 hi (by omega)
          · rw [if_pos h, List.length_append] at ih
            have fv : FrK μ v := by rw [hv]; exact fu.trans FrK.up
            have ev : v 42 30 = nI (lnF (bfK S b) k) := by rw [hv, up_at, if_pos ⟨rfl, rfl⟩]
            refine ih v fv (fun i hi7 hi hl => ?_)
            have hil : i = (natR (bfK S b) (S.2 8 b) cl k).length := by
              rw [hi] at hx
              exact ((n_inj (by omega) (by omega)).mp hx).symm
            rw [ev, List.getD_eq_getElem?_getD, List.getElem?_append_right (by omega), hil, Nat.sub_self]; rfl
        have ask : ∀ s0 : Int32, nI k < s0 → AW G (d + 2) M_MD_naturals Q 94 [some (.inr 42), none, some (.inl x), some (.inl (bfK S b)), some (.inl (S.2 8 b)), some (.inl (nI (natR (bfK S b) (S.2 8 b) cl k).length)), some (.inl (nI k)), none] [.inl s0, .inl (nI k)] u := by
          intro s0 hs
          refine vc_MD_naturals_94 ⟨fun h => absurd h (by rw [i_le]; rw [i_lt] at hs; omega), fun _ => ⟨fun h => md_letter hk7 ?_, fun h => md_letter hk7 ?_⟩⟩
          · rw [ltM_ln (f := bfK S b) ⟨fun _ => h, fun _ => rfl⟩]
            exact md_keyAlter hnw hln body
          · rw [ltM_ln (f := bfK S b) ⟨fun e => absurd e (by decide), fun e => absurd e h⟩]
            exact md_keyAlter hnw hln body
        refine vc_MD_naturals_82 ⟨fun h => ask _ ?_, fun h => ask _ ?_⟩
        · rw [i_lt, n_i (by omega)]; rw [i_le, e0] at h; omega
        · rw [i_lt, n_i (by omega), hneg]; rw [i_le, e0] at h; omega
    exact key (bfK S b).toInt.natAbs 0 (by omega) u5 f5 (fun i _ _ h => absurd h (Nat.not_lt_zero i))
  have e53 : u5 53 (ix 4) = S.2 10 4 := by rw [f5.1 53 (by omega)]; exact hK.2.2 4 (by omega)
  have w4 : vp_in (4 : Int32) 5 := n_in (k := 4) (by omega) (by omega)
  rw [e53]
  have cn := rg_012 hB.2.2.2.2.2.2.2
  have nz : ∀ h : ¬ bfK S b = S.2 8 b, (S.2 10 4 = 1 ∨ (S.2 10 4 = 2 ∧ ¬ ((0 < bfK S b ∧ 0 < S.2 8 b) ∨ (bfK S b < 0 ∧ S.2 8 b < 0)))) → nlR (bfK S b) (S.2 8 b) cl (S.2 10 4) = natR (bfK S b) (S.2 8 b) cl (bfK S b).toInt.natAbs := fun h hc => by unfold nlR; rw [if_neg h, if_pos hc]
  have ns : ¬ (S.2 10 4 = 1 ∨ (S.2 10 4 = 2 ∧ ¬ ((0 < bfK S b ∧ 0 < S.2 8 b) ∨ (bfK S b < 0 ∧ S.2 8 b < 0)))) → nlR (bfK S b) (S.2 8 b) cl (S.2 10 4) = [] := fun hc => by unfold nlR; rw [if_neg hc]; split <;> rfl
  refine ⟨fun h => nil (by unfold nlR; rw [if_pos h.symm]), fun h => ⟨w4, fun h0 => nil (ns ?_), fun h0 => ⟨w4, fun h2 => a82 (nz (fun e => h e.symm) (Or.inl ?_)), fun h2 => ⟨fun h3 => a82 (nz (fun e => h e.symm) (Or.inr ⟨h2, ?_⟩)), fun h3 => ?_⟩⟩⟩⟩
  · rw [h0]; rintro (e | ⟨e, _⟩)
    · exact absurd e (by decide)
    · exact absurd e (by decide)
  · exact cn.elim (fun e => absurd e h0) (fun e => e.elim id (fun e => absurd e h2))
  · rw [h3]; rintro (⟨_, e⟩ | ⟨_, e⟩)
    · exact absurd e (by decide)
    · exact absurd e (by decide)
  · have h3' : ¬ (S.2 8 b).toInt = 0 := fun e => h3 (i_eq.mpr (by rw [e, e0]))
    have g82 : ¬ ((0 < bfK S b ∧ 0 < S.2 8 b) ∨ (bfK S b < 0 ∧ S.2 8 b < 0)) → AW G (d + 2) M_MD_naturals Q 82 [some (.inr 42), none, some (.inl x), some (.inl (bfK S b)), some (.inl (S.2 8 b)), some (.inl 0), some (.inl 0), none] [] u5 := fun hc => a82 (nz (fun e => h e.symm) (Or.inr ⟨h2, hc⟩))
    have gn : ((0 < bfK S b ∧ 0 < S.2 8 b) ∨ (bfK S b < 0 ∧ S.2 8 b < 0)) → Q 0 u5 := fun hc => nil (ns (by
      rintro (e | ⟨_, e⟩)
      · rw [h2] at e; exact absurd e (by decide)
      · exact e hc))
    simp only [i_lt, e0] at g82 gn
    have z : ∀ y : Int32, y = 0 ↔ y.toInt = 0 := fun y => by rw [i_eq, e0]
    have t01 : ¬ (0 : Int32) = 1 := by decide
    have t10 : ¬ (1 : Int32) = 0 := by decide
    refine ⟨fun h4 => vc_MD_naturals_58 ?_, fun h4 => vc_MD_naturals_58 ?_⟩
    · rw [i_le, e0] at h4
      simp only [i_le, e0, z]
      refine ⟨fun h5 => ⟨fun h6 => absurd trivial (by simpa using h6), fun _ => ⟨fun h6 => g82 (by omega), fun h6 => gn (by omega)⟩⟩, fun h5 => ⟨fun _ => g82 (by omega), fun h6 => absurd h6 t01⟩⟩
    · rw [i_le, e0] at h4
      simp only [i_le, e0, z]
      refine ⟨fun h5 => ⟨fun _ => g82 (by omega), fun h6 => ?_⟩, fun h5 => ⟨fun h6 => absurd trivial (by simpa using h6), fun _ => ⟨fun h6 => g82 (by omega), fun h6 => gn (by omega)⟩⟩⟩
      have e1 : (1 : Int32).toInt = 1 := by decide
      rw [e1] at h6; omega
end
