/-! widths, reaches; listings of a finite set in a strict order -/
def posF (o : Nat → Nat) : Nat → Nat → Nat
  | 0, _ => 0
  | k + 1, j => if o k = j then k else posF o k j
theorem posF_at {S : Sc} {o : Nat → Nat} (hO : Ord S o) : ∀ n i, i < n → n ≤ S.1 → posF o n (o i) = i := by
  intro n
  induction n with
  | zero => intro i hi; exact absurd hi (Nat.not_lt_zero i)
  | succ n ih =>
    intro i hi hn
    unfold posF
    by_cases h : o n = o i
    · rw [if_pos h]; exact hO.inj (by omega) (by omega) h
    · rw [if_neg h]
      exact ih i (by rcases Nat.lt_or_ge i n with h2 | h2; exact h2; exact absurd (by rw [show i = n by omega]) h) (by omega)
/-- kind and natural of a note -/
noncomputable def KJ (S : Sc) (o : Nat → Nat) (j : Nat) : Int32 := KND S o (posF o S.1 j)
noncomputable def NJ (S : Sc) (o : Nat → Nat) (j : Nat) : Int32 := NTL S o (posF o S.1 j)
def wd0 (a : Int32) : Int32 := ([16, 12, 9, 9, 7, 8, 10, 14, 10] : List Int32).getD (ix (a + 4)) 0
def wd1 (a k : Int32) : Int32 := if k = 2 then wd0 a + 8 else wd0 a
def wd2 (a k t : Int32) : Int32 := if t = 1 then wd1 a k + 7 else wd1 a k
def wdF (a k t g : Int32) : Int32 := if g = 1 then ((2 * wd2 a k t) + 2) / 3 else wd2 a k t
noncomputable def wdJ (S : Sc) (o : Nat → Nat) (j : Nat) : Int32 := wdF (S.2 1 j) (KJ S o j) (NJ S o j) (S.2 6 j)
def lvR (a k : Int32) : Int32 := if 4 ≤ a then (if k = 2 then 2 else 1) else 3
def upF (a k : Int32) : Int32 := if 0 ≤ a then lvR a k else 4
def dnF (a k : Int32) : Int32 := if 0 ≤ a then lvR a k else 2
/-- two signs can stand in one column -/
def shJ (S : Sc) (o : Nat → Nat) (a b : Nat) : Prop := ((S.2 0 b).toInt < (S.2 0 a).toInt ∧ (dnF (S.2 1 a) (KJ S o a)).toInt + (upF (S.2 1 b) (KJ S o b)).toInt ≤ (S.2 0 a).toInt - (S.2 0 b).toInt) ∨ ((S.2 0 a).toInt < (S.2 0 b).toInt ∧ (dnF (S.2 1 b) (KJ S o b)).toInt + (upF (S.2 1 a) (KJ S o a)).toInt ≤ (S.2 0 b).toInt - (S.2 0 a).toInt)
def FnJ (S : Sc) (o : Nat → Nat) (μ : Mem) : Prop := ∀ j, j < S.1 → μ 25 j = KJ S o j ∧ μ 26 j = NJ S o j
theorem FndI.J {S : Sc} {o : Nat → Nat} {μ : Mem} (hO : Ord S o) (h : FndI S o μ) : FnJ S o μ := by
  intro j hj
  obtain ⟨i, hi, rfl⟩ := hO.2.2 j hj
  unfold KJ NJ
  rw [posF_at hO S.1 i hi (Nat.le_refl _)]
  exact h.2 i hi
theorem KJ_012 (S : Sc) (o : Nat → Nat) (j : Nat) : KJ S o j = 0 ∨ KJ S o j = 1 ∨ KJ S o j = 2 := by
  unfold KJ KND
  by_cases h : ned S o (posF o S.1 j)
  · rw [cite_t h]; exact Or.inr (Or.inl rfl)
  · rw [cite_f h]
    by_cases h2 : crt S o (posF o S.1 j)
    · rw [cite_t h2]; exact Or.inr (Or.inr rfl)
    · rw [cite_f h2]; exact Or.inl rfl
theorem NJ_01 (S : Sc) (o : Nat → Nat) (j : Nat) : NJ S o j = 0 ∨ NJ S o j = 1 := bc_01
theorem rg_9 {a : Int32} (h : rg a (-4) 4) : a = -4 ∨ a = -3 ∨ a = -2 ∨ a = -1 ∨ a = 0 ∨ a = 1 ∨ a = 2 ∨ a = 3 ∨ a = 4 := by
  unfold rg at h
  simp only [i_eq]
  have e : ((-4 : Int32).toInt = -4 ∧ (-3 : Int32).toInt = -3 ∧ (-2 : Int32).toInt = -2 ∧ (-1 : Int32).toInt = -1 ∧ (0 : Int32).toInt = 0 ∧ (1 : Int32).toInt = 1 ∧ (2 : Int32).toInt = 2 ∧ (3 : Int32).toInt = 3 ∧ (4 : Int32).toInt = 4) := by decide
  omega
theorem wd_tab : ∀ a ∈ ([-4, -3, -2, -1, 0, 1, 2, 3, 4] : List Int32), ∀ k ∈ ([0, 1, 2] : List Int32), ∀ t ∈ ([0, 1] : List Int32), ∀ g ∈ ([0, 1] : List Int32), 1 ≤ (wdF a k t g).toInt ∧ (wdF a k t g).toInt ≤ 31 := by decide +kernel
theorem rch_tab : ∀ a ∈ ([-4, -3, -2, -1, 0, 1, 2, 3, 4] : List Int32), ∀ k ∈ ([0, 1, 2] : List Int32), 1 ≤ (upF a k).toInt ∧ (upF a k).toInt ≤ 4 ∧ 1 ≤ (dnF a k).toInt ∧ (dnF a k).toInt ≤ 4 := by decide +kernel
theorem rg_01 {a : Int32} (h : rg a 0 1) : a = 0 ∨ a = 1 := by
  unfold rg at h
  simp only [i_eq]
  have e : (0 : Int32).toInt = 0 ∧ (1 : Int32).toInt = 1 := by decide
  omega
theorem wdJ_bd {S : Sc} (o : Nat → Nat) (hB : Bd S) {j : Nat} (hj : j < S.1) : 1 ≤ (wdJ S o j).toInt ∧ (wdJ S o j).toInt ≤ 31 := by
  obtain ⟨-, h1, -, -, -, -, h6, -⟩ := hB.2.1 j hj
  refine wd_tab _ ?_ _ ?_ _ ?_ _ ?_
  · simp; have := rg_9 h1; omega
  · simp; exact KJ_012 S o j
  · simp; exact NJ_01 S o j
  · simp; exact rg_01 h6
theorem rch_bd {S : Sc} (o : Nat → Nat) (hB : Bd S) {j : Nat} (hj : j < S.1) : 1 ≤ (upF (S.2 1 j) (KJ S o j)).toInt ∧ (upF (S.2 1 j) (KJ S o j)).toInt ≤ 4 ∧ 1 ≤ (dnF (S.2 1 j) (KJ S o j)).toInt ∧ (dnF (S.2 1 j) (KJ S o j)).toInt ≤ 4 := by
  obtain ⟨-, h1, -⟩ := hB.2.1 j hj
  refine rch_tab _ ?_ _ ?_
  · simp; have := rg_9 h1; omega
  · simp; exact KJ_012 S o j
section
variable {G : Gp} {d : Nat} {S : Sc} {o : Nat → Nat} {μ : Mem} {Q : Int32 → Mem → Prop}
theorem sp_widthOf (hI : NoI S o μ) (hF : FnJ S o μ) {j : Nat} (hj : j < S.1) (hq : Q (if KJ S o j = 0 then 0 else wdJ S o j) μ) : Ct G (d + 1) M_SG_widthOf [.inr 16, .inl (nI j)] μ Q := by
  have h60 := hI.n60
  have e1 : vp_in (nI j) 60 := n_in (by omega) (by omega)
  obtain ⟨f1, f2⟩ := hF j hj
  have ha := (hI.1.2.1 j hj).2.1
  unfold rg at ha
  have e4 : (4 : Int32).toInt = 4 := by decide
  have hin : vp_in (S.2 1 j + 4) 9 := in_of (by rw [i_add (by omega) (by omega)]; omega) (by rw [i_add (by omega) (by omega)]; omega)
  refine en_SG_widthOf (vc_SG_widthOf_0 ⟨e1, ?_⟩)
  rw [n_ix (by omega), f1, f2, hI.at hj (k := 1) (by omega) rfl]
  unfold wdJ wdF wd2 wd1 wd0 at hq
  refine ⟨fun hk => ⟨e1, hin, fun y hy => ⟨e1, fun h2 => ⟨e1, fun ht => sp_markOf hI hj (k := 1) (by omega) ⟨fun hg => ?_, fun hg => ?_⟩, fun ht => sp_markOf hI hj (k := 1) (by omega) ⟨fun hg => ?_, fun hg => ?_⟩⟩, fun h2 => ⟨e1, fun ht => sp_markOf hI hj (k := 1) (by omega) ⟨fun hg => ?_, fun hg => ?_⟩, fun ht => sp_markOf hI hj (k := 1) (by omega) ⟨fun hg => ?_, fun hg => ?_⟩⟩⟩⟩, fun hk => by rw [if_pos hk] at hq; exact hq⟩
  all_goals
    rw [if_neg hk, ← hy] at hq
    first
    | rw [if_neg hg, if_neg ht, if_neg h2] at hq; exact hq
    | rw [if_pos hg, if_neg ht, if_neg h2] at hq; exact hq
    | rw [if_neg hg, if_pos ht, if_neg h2] at hq; exact hq
    | rw [if_pos hg, if_pos ht, if_neg h2] at hq; exact hq
    | rw [if_neg hg, if_neg ht, if_pos h2] at hq; exact hq
    | rw [if_pos hg, if_neg ht, if_pos h2] at hq; exact hq
    | rw [if_neg hg, if_pos ht, if_pos h2] at hq; exact hq
    | rw [if_pos hg, if_pos ht, if_pos h2] at hq; exact hq
theorem sp_levelReach (hF : FnJ S o μ) (h60 : S.1 ≤ 60) {j : Nat} (hj : j < S.1) {a : Int32} (hq : Q (lvR a (KJ S o j)) μ) : Ct G d M_CO_levelReach [.inr 27, .inl (nI j), .inl a] μ Q := by
  have e1 : vp_in (nI j) 60 := n_in (by omega) (by omega)
  refine en_CO_levelReach (vc_CO_levelReach_0 ?_)
  rw [n_ix (by omega), (hF j hj).1]
  unfold lvR at hq
  exact ⟨fun h => ⟨e1, fun h2 => by rw [if_pos h, if_neg h2] at hq; exact hq, fun h2 => by rw [if_pos h, if_pos h2] at hq; exact hq⟩, fun h => by rw [if_neg h] at hq; exact hq⟩
theorem sp_up (hI : NoI S o μ) (hF : FnJ S o μ) {j : Nat} (hj : j < S.1) (hq : Q (upF (S.2 1 j) (KJ S o j)) μ) : Ct G (d + 1) M_CO_up [.inr 27, .inl (nI j)] μ Q := by
  have h60 := hI.n60
  refine en_CO_up (vc_CO_up_0 ⟨n_in (by omega) (by omega), fun y hy => ?_⟩)
  rw [n_ix (by omega), hI.at hj (k := 1) (by omega) rfl] at hy
  subst hy
  unfold upF at hq
  exact ⟨fun h => sp_levelReach hF h60 hj (by rw [if_pos h] at hq; exact hq), fun h => by rw [if_neg h] at hq; exact hq⟩
theorem sp_down (hI : NoI S o μ) (hF : FnJ S o μ) {j : Nat} (hj : j < S.1) (hq : Q (dnF (S.2 1 j) (KJ S o j)) μ) : Ct G (d + 1) M_CO_down [.inr 27, .inl (nI j)] μ Q := by
  have h60 := hI.n60
  refine en_CO_down (vc_CO_down_0 ⟨n_in (by omega) (by omega), fun y hy => ?_⟩)
  rw [n_ix (by omega), hI.at hj (k := 1) (by omega) rfl] at hy
  subst hy
  unfold dnF at hq
  exact ⟨fun h => sp_levelReach hF h60 hj (by rw [if_pos h] at hq; exact hq), fun h => by rw [if_neg h] at hq; exact hq⟩
theorem sp_canShare (hI : NoI S o μ) (hF : FnJ S o μ) {a b : Nat} (ha : a < S.1) (hb : b < S.1) (hq : Q (bc (shJ S o a b)) μ) : Ct G (d + 2) M_CO_canShare [.inr 27, .inl (nI a), .inl (nI b)] μ Q := by
  have h60 := hI.n60
  have sa := (hI.1.2.1 a ha).1
  have sb := (hI.1.2.1 b hb).1
  have ra := rch_bd o hI.1 ha
  have rb := rch_bd o hI.1 hb
  unfold rg at sa sb
  refine en_CO_canShare (vc_CO_canShare_0 ⟨n_in (by omega) (by omega), n_in (by omega) (by omega), fun y hy => ?_⟩)
  rw [n_ix (by omega), n_ix (by omega), hI.at ha (k := 0) (by omega) rfl, hI.at hb (k := 0) (by omega) rfl] at hy
  have hyi : y.toInt = (S.2 0 a).toInt - (S.2 0 b).toInt := by rw [hy, i_sub (by omega) (by omega)]
  have hyn : (-y).toInt = -((S.2 0 a).toInt - (S.2 0 b).toInt) := by rw [i_neg (by omega), hyi]
  have s1 : (dnF (S.2 1 b) (KJ S o b) + upF (S.2 1 a) (KJ S o a)).toInt = (dnF (S.2 1 b) (KJ S o b)).toInt + (upF (S.2 1 a) (KJ S o a)).toInt := i_add (by omega) (by omega)
  have s2 : (dnF (S.2 1 a) (KJ S o a) + upF (S.2 1 b) (KJ S o b)).toInt = (dnF (S.2 1 a) (KJ S o a)).toInt + (upF (S.2 1 b) (KJ S o b)).toInt := i_add (by omega) (by omega)
  unfold shJ at hq
  rw [i_le, hyi, Int32.toInt_zero]
  refine ⟨fun h => sp_down hI hF hb (sp_up hI hF ha ?_), fun h => sp_down hI hF ha (sp_up hI hF hb ?_)⟩
  · rw [i_lt, hyn, s1]
    exact ⟨fun h2 => q_cf hq (by omega), fun h2 => q_ct hq (by omega)⟩
  · rw [i_lt, hyi, s2]
    exact ⟨fun h2 => q_cf hq (by omega), fun h2 => q_ct hq (by omega)⟩
end
/-- f lists the set P on [0, m) in the strict order R -/
def Lst (R : Nat → Nat → Prop) (P : Nat → Prop) (m : Nat) (f : Nat → Nat) : Prop := (∀ i, i < m → P (f i)) ∧ (∀ i j, i < j → j < m → R (f i) (f j)) ∧ ∀ x, P x → ∃ i, i < m ∧ f i = x
theorem Lst.inj {R : Nat → Nat → Prop} {P : Nat → Prop} {m : Nat} {f : Nat → Nat} (irr : ∀ x, ¬ R x x) (h : Lst R P m f) {i j : Nat} (hi : i < m) (hj : j < m) (e : f i = f j) : i = j := by
  rcases Nat.lt_trichotomy i j with h1 | h1 | h1
  · have := h.2.1 i j h1 hj; rw [e] at this; exact absurd this (irr _)
  · exact h1
  · have := h.2.1 j i h1 hi; rw [e] at this; exact absurd this (irr _)
theorem Lst.uniq {R : Nat → Nat → Prop} {P : Nat → Prop} {m m' : Nat} {f f' : Nat → Nat} (irr : ∀ x, ¬ R x x) (tr : ∀ x y z, R x y → R y z → R x z) (h : Lst R P m f) (h' : Lst R P m' f') : m = m' ∧ ∀ i, i < m → f i = f' i := by
  have key : ∀ p, p < m → p < m' → f p = f' p := by
    intro p
    induction p using Nat.strongRecOn with
    | ind p ih =>
      intro hp hp'
      obtain ⟨q, hq, e⟩ := h'.2.2 (f p) (h.1 p hp)
      obtain ⟨r, hr, e2⟩ := h.2.2 (f' p) (h'.1 p hp')
      have hqp : p ≤ q := by
        rcases Nat.lt_or_ge q p with h1 | h1
        · have := ih q h1 (by omega) hq; rw [e] at this; exact absurd (h.inj irr (by omega) hp this) (by omega)
        · exact h1
      have hrp : p ≤ r := by
        rcases Nat.lt_or_ge r p with h1 | h1
        · have := ih r h1 hr (by omega); rw [e2] at this; exact absurd (h'.inj irr hp' (by omega) this) (by omega)
        · exact h1
      by_cases hpq : p = q
      · subst hpq; exact e.symm
      · have h1 : R (f' p) (f p) := by rw [← e]; exact h'.2.1 p q (by omega) hq
        by_cases hpr : p = r
        · subst hpr; exact e2
        · have h2 : R (f p) (f' p) := by rw [← e2]; exact h.2.1 p r (by omega) hr
          exact absurd (tr _ _ _ h1 h2) (irr _)
  have hm : m = m' := by
    rcases Nat.lt_trichotomy m m' with h1 | h1 | h1
    · obtain ⟨r, hr, e⟩ := h.2.2 (f' m) (h'.1 m h1)
      rw [key r hr (by omega)] at e
      exact absurd (h'.inj irr (by omega) h1 e) (by omega)
    · exact h1
    · obtain ⟨r, hr, e⟩ := h'.2.2 (f m') (h.1 m' h1)
      rw [← key r (by omega) hr] at e
      exact absurd (h.inj irr (by omega) h1 e) (by omega)
  exact ⟨hm, fun i hi => key i hi (by omega)⟩
/-- one element more is put at its place -/
theorem Lst.ins {R : Nat → Nat → Prop} {P : Nat → Prop} {m : Nat} {f : Nat → Nat} (tr : ∀ x y z, R x y → R y z → R x z) (h : Lst R P m f) {k x : Nat} (hk : k ≤ m) (hlo : k = 0 ∨ R (f (k - 1)) x) (hhi : ∀ i, k ≤ i → i < m → R x (f i)) : Lst R (fun y => P y ∨ y = x) (m + 1) (insO f x k) := by
  have hlow : ∀ i, i < k → R (f i) x := by
    intro i hi
    rcases hlo with h1 | h1
    · omega
    · rcases Nat.lt_or_ge i (k - 1) with h2 | h2
      · exact tr _ _ _ (h.2.1 i (k - 1) h2 (by omega)) h1
      · rw [show i = k - 1 by omega]; exact h1
  refine ⟨fun i hi => ?_, fun i j hij hj => ?_, fun y hy => ?_⟩
  · unfold insO
    split
    · exact Or.inl (h.1 i (by omega))
    · split
      · exact Or.inr rfl
      · exact Or.inl (h.1 _ (by omega))
  · unfold insO
    by_cases h1 : j < k
    · rw [if_pos h1, if_pos (by omega)]; exact h.2.1 i j hij (by omega)
    · rw [if_neg h1]
      by_cases h2 : j = k
      · rw [if_pos h2, if_pos (by omega)]; exact hlow i (by omega)
      · rw [if_neg h2]
        by_cases h3 : i < k
        · rw [if_pos h3]; exact tr _ _ _ (hlow i h3) (hhi (j - 1) (by omega) (by omega))
        · rw [if_neg h3]
          by_cases h4 : i = k
          · rw [if_pos h4]; exact hhi (j - 1) (by omega) (by omega)
          · rw [if_neg h4]; exact h.2.1 (i - 1) (j - 1) (by omega) (by omega)
  · rcases hy with hy | hy
    · obtain ⟨i, hi, e⟩ := h.2.2 y hy
      by_cases h2 : i < k
      · exact ⟨i, by omega, by unfold insO; rw [if_pos h2, e]⟩
      · exact ⟨i + 1, by omega, by unfold insO; rw [if_neg (by omega), if_neg (by omega)]; exact e⟩
    · exact ⟨k, by omega, by unfold insO; rw [if_neg (by omega), if_pos rfl, hy]⟩
theorem Lst.congrP {R : Nat → Nat → Prop} {P P' : Nat → Prop} {m : Nat} {f : Nat → Nat} (h : Lst R P m f) (e : ∀ x, P x ↔ P' x) : Lst R P' m f := ⟨fun i hi => (e _).mp (h.1 i hi), h.2.1, fun x hx => h.2.2 x ((e x).mpr hx)⟩
theorem Lst.congrF {R : Nat → Nat → Prop} {P : Nat → Prop} {m : Nat} {f f' : Nat → Nat} (h : Lst R P m f) (e : ∀ i, i < m → f' i = f i) : Lst R P m f' := ⟨fun i hi => by rw [e i hi]; exact h.1 i hi, fun i j hij hj => by rw [e i (by omega), e j hj]; exact h.2.1 i j hij hj, fun x hx => by obtain ⟨i, hi, he⟩ := h.2.2 x hx; exact ⟨i, hi, by rw [e i hi]; exact he⟩⟩
