/-! spaces of dots: the table of least sums, in a range that begins at lo -/
def hqM (g : Nat → Nat) (k : Nat) : Nat → Nat
  | 0 => g k
  | j + 1 => if j ≤ k then g k else min (hqM g k j) (g j)
def GQ (D : Nat → Int) (lo : Int) (m : Nat) : Nat → Nat → Nat
  | 0, j => (lo + 2 * (j : Int) - D (m - 1)).natAbs
  | k + 1, j => (lo + 2 * (j : Int) - D (m - 1 - (k + 1))).natAbs + hqM (GQ D lo m k) k j
theorem hq_spec (g : Nat → Nat) (k : Nat) : ∀ j, k < j → (∃ j', k ≤ j' ∧ j' < j ∧ hqM g k j = g j') ∧ ∀ j', k ≤ j' → j' < j → hqM g k j ≤ g j' := by
  intro j
  induction j with
  | zero => intro h; omega
  | succ j ih =>
    intro h
    unfold hqM
    by_cases hj : j ≤ k
    · rw [if_pos hj]
      exact ⟨⟨k, Nat.le_refl _, by omega, rfl⟩, fun j' a b => by rw [show j' = k by omega]; exact Nat.le_refl _⟩
    · rw [if_neg hj]
      obtain ⟨⟨j1, a1, a2, a3⟩, b⟩ := ih (by omega)
      refine ⟨?_, fun j' a c => ?_⟩
      · by_cases hm : hqM g k j ≤ g j
        · exact ⟨j1, a1, by omega, by omega⟩
        · exact ⟨j, by omega, by omega, by omega⟩
      · rcases Nat.lt_or_ge j' j with h1 | h1
        · have := b j' a h1; omega
        · rw [show j' = j by omega]; omega
theorem hq_mono {g : Nat → Nat} {k j : Nat} (h : k < j) : hqM g k (j + 1) ≤ hqM g k j := by
  obtain ⟨⟨j1, a1, a2, a3⟩, -⟩ := hq_spec g k j h
  rw [a3]
  exact (hq_spec g k (j + 1) (by omega)).2 j1 a1 (by omega)
theorem GQ_dec {D : Nat → Int} {lo : Int} {m k j : Nat} (hk : k ≤ j) (h : lo + 2 * ((j : Int) + 1) ≤ D (m - 1 - k)) : GQ D lo m k (j + 1) + 2 ≤ GQ D lo m k j := by
  cases k with
  | zero =>
    unfold GQ
    rw [Nat.sub_zero] at h
    omega
  | succ k =>
    unfold GQ
    have := hq_mono (g := GQ D lo m k) (k := k) (j := j) (by omega)
    omega
theorem GQ_down {D : Nat → Int} {lo : Int} {m k : Nat} : ∀ (e j : Nat), k ≤ j → lo + 2 * ((j : Int) + (e : Int)) ≤ D (m - 1 - k) → GQ D lo m k (j + e) ≤ GQ D lo m k j := by
  intro e
  induction e with
  | zero => intro j _ _; exact Nat.le_refl _
  | succ e ih =>
    intro j hk h
    have h1 := ih j hk (by omega)
    have h2 := GQ_dec (D := D) (lo := lo) (m := m) (k := k) (j := j + e) (by omega) (by omega)
    rw [← Nat.add_assoc]
    omega
/-- more room below changes nothing -/
theorem GQ_shift {D : Nat → Int} {lo : Int} {m : Nat} (hlow : ∀ k, k < m → lo + 2 * (k : Int) ≤ D (m - 1 - k)) (e : Nat) : ∀ k, k < m → ∀ j, k ≤ j → GQ D (lo - 2 * (e : Int)) m k (j + e) = GQ D lo m k j := by
  intro k
  induction k with
  | zero => intro _ j _; unfold GQ; congr 1; omega
  | succ k ih =>
    intro hk j hj
    have hb := hlow k (by omega)
    unfold GQ
    have e1 : (lo - 2 * (e : Int) + 2 * ((j + e : Nat) : Int) - D (m - 1 - (k + 1))).natAbs = (lo + 2 * (j : Int) - D (m - 1 - (k + 1))).natAbs := by congr 1; omega
    rw [e1]
    congr 1
    obtain ⟨⟨a, a1, a2, a3⟩, b⟩ := hq_spec (GQ D (lo - 2 * (e : Int)) m k) k (j + e) (by omega)
    obtain ⟨⟨c, c1, c2, c3⟩, f⟩ := hq_spec (GQ D lo m k) k j (by omega)
    apply Nat.le_antisymm
    · rw [c3, ← ih (by omega) c c1]; exact b (c + e) (by omega) (by omega)
    · rw [a3]
      by_cases h : k + e ≤ a
      · have := ih (by omega) (a - e) (by omega)
        rw [show a - e + e = a by omega] at this
        rw [this]; exact f (a - e) (by omega) (by omega)
      · have h1 := GQ_down (D := D) (lo := lo - 2 * (e : Int)) (m := m) (k := k) (k + e - a) a a1 (by omega)
        rw [show a + (k + e - a) = k + e by omega, ih (by omega) k (Nat.le_refl _)] at h1
        exact Nat.le_trans (f k (Nat.le_refl _) (by omega)) h1
/-- above the places T k the sums grow -/
theorem GQ_top {D : Nat → Int} {lo : Int} {m : Nat} (T : Nat → Nat) (hT : ∀ k, T (k + 1) = T k + 1) (hk : ∀ k, k < m → k ≤ T k) (hup : ∀ k, k < m → D (m - 1 - k) ≤ lo + 2 * (T k : Int)) : ∀ k, k < m → ∀ j, T k < j → GQ D lo m k (T k) < GQ D lo m k j := by
  intro k
  induction k with
  | zero =>
    intro h0 j hj
    have := hup 0 h0
    rw [Nat.sub_zero] at this
    unfold GQ; omega
  | succ k ih =>
    intro hkm j hj
    have hu := hup (k + 1) hkm
    have hk0 := hk k (by omega)
    have hTk := hT k
    unfold GQ
    obtain ⟨⟨a, a1, a2, a3⟩, b⟩ := hq_spec (GQ D lo m k) k j (by omega)
    have h1 : hqM (GQ D lo m k) k (T (k + 1)) ≤ hqM (GQ D lo m k) k j := by
      rw [a3]
      obtain ⟨-, c⟩ := hq_spec (GQ D lo m k) k (T (k + 1)) (by omega)
      by_cases h : a < T (k + 1)
      · exact c a a1 h
      · have := ih (by omega) a (by omega)
        have := c (T k) hk0 (by omega)
        omega
    omega
/-- the highest of the least, on [a, b) -/
def HiM (g : Nat → Nat) (a b r : Nat) : Prop := a ≤ r ∧ r < b ∧ (∀ j, a ≤ j → j < b → g r ≤ g j) ∧ ∀ j, r < j → j < b → g r < g j
theorem HiM.uniq {g : Nat → Nat} {a b r s : Nat} (h : HiM g a b r) (h' : HiM g a b s) : r = s := by
  rcases Nat.lt_trichotomy r s with h1 | h1 | h1
  · have := h.2.2.2 s h1 h'.2.1
    have := h'.2.2.1 r h.1 h.2.1
    omega
  · exact h1
  · have := h'.2.2.2 r h1 h.2.1
    have := h.2.2.1 s h'.1 h'.2.1
    omega
/-- the spaces of all, from the highest note on: N of them in the range -/
def Chs (D : Nat → Int) (lo : Int) (m N : Nat) (b : Nat → Nat) : Prop := ∀ i, i < m → HiM (GQ D lo m (m - 1 - i)) (m - 1 - i) (if i = 0 then N else b (i - 1)) (b i)
theorem Chs_shift {D : Nat → Int} {lo : Int} {m N N' e : Nat} {b b' : Nat → Nat} (hlow : ∀ k, k < m → lo + 2 * (k : Int) ≤ D (m - 1 - k)) (hN : m ≤ N) (hup : ∀ k, k < m → D (m - 1 - k) ≤ lo + 2 * ((N - m + k : Nat) : Int)) (hN' : N + e ≤ N') (h : Chs D lo m N b) (h' : Chs D (lo - 2 * (e : Int)) m N' b') : ∀ i, i < m → b' i = b i + e := by
  have trans : ∀ k u r, k < m → HiM (GQ D lo m k) k u r → HiM (GQ D (lo - 2 * (e : Int)) m k) k (u + e) (r + e) := by
    intro k u r hk ⟨h1, h2, h3, h4⟩
    have hs := GQ_shift hlow e k hk
    refine ⟨by omega, by omega, fun j a c => ?_, fun j a c => ?_⟩
    · rw [hs r h1]
      by_cases hj : k + e ≤ j
      · have := hs (j - e) (by omega)
        rw [show j - e + e = j by omega] at this
        rw [this]; exact h3 (j - e) (by omega) (by omega)
      · have hb := hlow k hk
        have hd := GQ_down (D := D) (lo := lo - 2 * (e : Int)) (m := m) (k := k) (k + e - j) j a (by omega)
        rw [show j + (k + e - j) = k + e by omega, hs k (Nat.le_refl _)] at hd
        have := h3 k (Nat.le_refl _) (by omega)
        omega
    · rw [hs r h1]
      have := hs (j - e) (by omega)
      rw [show j - e + e = j by omega] at this
      rw [this]; exact h4 (j - e) (by omega) (by omega)
  intro i
  induction i using Nat.strongRecOn with
  | ind i ih =>
    intro hi
    have hb := trans (m - 1 - i) _ _ (by omega) (h i hi)
    have hb' := h' i hi
    by_cases h0 : i = 0
    · subst h0
      rw [if_pos rfl] at hb hb'
      refine hb'.uniq ⟨hb.1, by have := hb.2.1; omega, fun j a c => ?_, fun j a c => ?_⟩
      · by_cases hj : j < N + e
        · exact hb.2.2.1 j a hj
        · have ht := GQ_top (D := D) (lo := lo - 2 * (e : Int)) (m := m) (fun k => N - m + k + e) (fun k => by show N - m + (k + 1) + e = N - m + k + e + 1; omega) (fun k hk => by show k ≤ N - m + k + e; omega) (fun k hk => by have := hup k hk; show _ ≤ _ + 2 * ((N - m + k + e : Nat) : Int); omega) (m - 1 - 0) (by omega) j (by show N - m + (m - 1 - 0) + e < j; omega)
          have := hb.2.2.1 (N - m + (m - 1 - 0) + e) (by omega) (by omega)
          have ht : GQ D (lo - 2 * (e : Int)) m (m - 1 - 0) (N - m + (m - 1 - 0) + e) < _ := ht
          omega
      · by_cases hj : j < N + e
        · exact hb.2.2.2 j a hj
        · have ht := GQ_top (D := D) (lo := lo - 2 * (e : Int)) (m := m) (fun k => N - m + k + e) (fun k => by show N - m + (k + 1) + e = N - m + k + e + 1; omega) (fun k hk => by show k ≤ N - m + k + e; omega) (fun k hk => by have := hup k hk; show _ ≤ _ + 2 * ((N - m + k + e : Nat) : Int); omega) (m - 1 - 0) (by omega) j (by show N - m + (m - 1 - 0) + e < j; omega)
          have := hb.2.2.1 (N - m + (m - 1 - 0) + e) (by omega) (by omega)
          have ht : GQ D (lo - 2 * (e : Int)) m (m - 1 - 0) (N - m + (m - 1 - 0) + e) < _ := ht
          omega
    · rw [if_neg h0] at hb hb'
      rw [ih (i - 1) (by omega) (by omega)] at hb'
      exact hb'.uniq hb
theorem GQ_bd {D : Nat → Int} {lo : Int} {m N B : Nat} (hd : ∀ i j, i < m → j < N → (lo + 2 * (j : Int) - D i).natAbs ≤ B) : ∀ k, k < m → ∀ j, k ≤ j → j < N → GQ D lo m k j ≤ B * (k + 1) := by
  intro k
  induction k with
  | zero => intro h j _ hj; unfold GQ; have := hd (m - 1) j (by omega) hj; omega
  | succ k ih =>
    intro h j hkj hj
    unfold GQ
    obtain ⟨⟨a, a1, a2, a3⟩, -⟩ := hq_spec (GQ D lo m k) k j (by omega)
    have h1 := hd (m - 1 - (k + 1)) j (by omega) hj
    have h2 := ih (by omega) a a1 (by omega)
    rw [a3, Nat.mul_succ B (k + 1)]
    omega
theorem pigeon : ∀ n (g : Nat → Nat), (∀ i, i ≤ n → g i < n) → ∃ i j, i < j ∧ j ≤ n ∧ g i = g j := by
  intro n
  induction n with
  | zero => intro g h; exact absurd (h 0 (Nat.le_refl _)) (Nat.not_lt_zero _)
  | succ n ih =>
    intro g h
    by_cases hv : ∃ i, i ≤ n ∧ g i = g (n + 1)
    · obtain ⟨i, h1, h2⟩ := hv
      exact ⟨i, n + 1, by omega, by omega, h2⟩
    · have hne : ∀ i, i ≤ n → g i ≠ g (n + 1) := fun i hi e => hv ⟨i, hi, e⟩
      obtain ⟨i, j, h1, h2, h3⟩ := ih (fun i => if g (n + 1) < g i then g i - 1 else g i) (fun i hi => by
        have a := h i (by omega)
        have b := h (n + 1) (by omega)
        have c := hne i hi
        show (if g (n + 1) < g i then g i - 1 else g i) < n
        split <;> omega)
      refine ⟨i, j, h1, by omega, ?_⟩
      have h3 : (if g (n + 1) < g i then g i - 1 else g i) = (if g (n + 1) < g j then g j - 1 else g j) := h3
      have a := hne i (by omega)
      have b := hne j h2
      split at h3 <;> split at h3 <;> omega
