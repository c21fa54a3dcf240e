/-! columns: sums of widths, the least ways, restricted growth -/
def cMx (w col : Nat → Nat) : Nat → Nat → Nat
  | 0, _ => 0
  | n + 1, c => if col n = c then max (cMx w col n c) (w n) else cMx w col n c
def sWd (w col : Nat → Nat) (n : Nat) : Nat → Nat
  | 0 => 0
  | C + 1 => sWd w col n C + cMx w col n C
theorem sWd_same {w col : Nat → Nat} {n : Nat} : ∀ C, C ≤ col n → sWd w col (n + 1) C = sWd w col n C := by
  intro C
  induction C with
  | zero => intro _; rfl
  | succ C ih => intro h; unfold sWd; rw [ih (by omega)]; show _ + (if col n = C then _ else _) = _; rw [if_neg (by omega)]
theorem sWd_step {w col : Nat → Nat} {n : Nat} : ∀ C, col n < C → sWd w col (n + 1) C + cMx w col n (col n) = sWd w col n C + max (cMx w col n (col n)) (w n) := by
  intro C
  induction C with
  | zero => intro h; exact absurd h (Nat.not_lt_zero _)
  | succ C ih =>
    intro h
    unfold sWd
    by_cases hc : col n = C
    · rw [sWd_same C (by omega)]
      show _ + (if col n = C then _ else _) + _ = _
      rw [if_pos hc, hc]; omega
    · have := ih (by omega)
      show _ + (if col n = C then _ else _) + _ = _
      rw [if_neg hc]; omega
theorem sWd_le {w col : Nat → Nat} {n : Nat} (C : Nat) : sWd w col n C ≤ sWd w col (n + 1) C := by
  rcases Nat.lt_or_ge (col n) C with h | h
  · have := sWd_step (w := w) C h; omega
  · rw [sWd_same C h]; exact Nat.le_refl _
theorem sWd_mono {w col : Nat → Nat} {n C : Nat} : ∀ k, sWd w col n C ≤ sWd w col (n + k) C := by
  intro k
  induction k with
  | zero => exact Nat.le_refl _
  | succ k ih => exact Nat.le_trans ih (sWd_le C)
theorem cMx_congr {w a b : Nat → Nat} : ∀ n, (∀ i, i < n → a i = b i) → ∀ c, cMx w a n c = cMx w b n c := by
  intro n
  induction n with
  | zero => intro _ c; rfl
  | succ n ih => intro h c; unfold cMx; rw [h n (by omega), ih (fun i hi => h i (by omega))]
theorem sWd_congr {w a b : Nat → Nat} {n : Nat} (h : ∀ i, i < n → a i = b i) : ∀ C, sWd w a n C = sWd w b n C := by
  intro C
  induction C with
  | zero => rfl
  | succ C ih => unfold sWd; rw [ih, cMx_congr n h]
theorem sWd_ext {w col : Nat → Nat} {n C : Nat} (h : ∀ i, i < n → col i < C) : ∀ k, sWd w col n (C + k) = sWd w col n C := by
  have z : ∀ n, (∀ i, i < n → col i < C) → ∀ c, C ≤ c → cMx w col n c = 0 := by
    intro n
    induction n with
    | zero => intro _ c _; rfl
    | succ n ih => intro h c hc; unfold cMx; rw [if_neg (by have := h n (by omega); omega)]; exact ih (fun i hi => h i (by omega)) c hc
  intro k
  induction k with
  | zero => rfl
  | succ k ih => show sWd w col n (C + k) + cMx w col n (C + k) = _; rw [ih, z n h (C + k) (by omega)]; rfl
theorem cMx_ker {w a b : Nat → Nat} : ∀ n, ∀ x y, (∀ i, i < n → (a i = x ↔ b i = y)) → cMx w a n x = cMx w b n y := by
  intro n
  induction n with
  | zero => intro x y _; rfl
  | succ n ih =>
    intro x y h
    unfold cMx
    rw [ih x y (fun i hi => h i (by omega))]
    by_cases hx : a n = x
    · rw [if_pos hx, if_pos ((h n (by omega)).mp hx)]
    · rw [if_neg hx, if_neg (fun e => hx ((h n (by omega)).mpr e))]
theorem sWd_0 {w a : Nat → Nat} : ∀ C, sWd w a 0 C = 0 := by
  intro C
  induction C with
  | zero => rfl
  | succ C ih => unfold sWd; rw [ih]; rfl
theorem sWd_ker {w a b : Nat → Nat} {C : Nat} : ∀ n, (∀ i j, i < n → j < n → (a i = a j ↔ b i = b j)) → (∀ i, i < n → a i < C ∧ b i < C) → sWd w a n C = sWd w b n C := by
  intro n
  induction n with
  | zero => intro _ _; rw [sWd_0, sWd_0]
  | succ n ih =>
    intro hk hl
    have h0 := ih (fun i j hi hj => hk i j (by omega) (by omega)) (fun i hi => hl i (by omega))
    have h1 := sWd_step (w := w) (col := a) C (hl n (by omega)).1
    have h2 := sWd_step (w := w) (col := b) C (hl n (by omega)).2
    have h3 := cMx_ker (w := w) n (a n) (b n) (fun i hi => hk i n (by omega) (by omega))
    rw [h3] at h1
    omega
def Vd (sh : Nat → Nat → Prop) (m : Nat) (col : Nat → Nat) : Prop := (∀ i, i < m → col i < 6) ∧ ∀ j i, j < i → i < m → col j = col i → sh j i
def Fl (m : Nat) (col : Nat → Nat) : Prop := ∀ i, i < m → ∀ c, c < col i → ∃ j, j < m ∧ col j = c
def tk (col : Nat → Nat) : Nat → Nat
  | 0 => 0
  | i + 1 => max (tk col i) (col i + 1)
def Rg (m : Nat) (col : Nat → Nat) : Prop := ∀ i, i < m → col i ≤ tk col i
def lxL (m : Nat) (a b : Nat → Nat) : Prop := ∃ i, i < m ∧ (∀ j, j < i → a j = b j) ∧ a i < b i
def VF (sh : Nat → Nat → Prop) (m : Nat) (col : Nat → Nat) : Prop := Vd sh m col ∧ Fl m col
def VR (sh : Nat → Nat → Prop) (m : Nat) (col : Nat → Nat) : Prop := Vd sh m col ∧ Rg m col
def Opt (X : (Nat → Nat) → Prop) (w : Nat → Nat) (m : Nat) (col : Nat → Nat) : Prop := X col ∧ ∀ v, X v → sWd w col m 6 ≤ sWd w v m 6 ∧ (sWd w v m 6 = sWd w col m 6 → ¬ lxL m v col)
theorem lx_tri (a b : Nat → Nat) : ∀ m, (∀ i, i < m → a i = b i) ∨ lxL m a b ∨ lxL m b a := by
  intro m
  induction m with
  | zero => exact Or.inl (fun i h => absurd h (Nat.not_lt_zero i))
  | succ m ih =>
    rcases ih with h | ⟨i, h1, h2⟩ | ⟨i, h1, h2⟩
    · rcases Nat.lt_trichotomy (a m) (b m) with h3 | h3 | h3
      · exact Or.inr (Or.inl ⟨m, by omega, h, h3⟩)
      · exact Or.inl (fun i hi => by rcases Nat.lt_or_ge i m with h4 | h4; exact h i h4; rw [show i = m by omega]; exact h3)
      · exact Or.inr (Or.inr ⟨m, by omega, fun j hj => (h j hj).symm, h3⟩)
    · exact Or.inr (Or.inl ⟨i, by omega, h2⟩)
    · exact Or.inr (Or.inr ⟨i, by omega, h2⟩)
theorem lx_trans {a b c : Nat → Nat} {m : Nat} (h1 : lxL m a b) (h2 : lxL m b c) : lxL m a c := by
  obtain ⟨i, i1, i2, i3⟩ := h1
  obtain ⟨k, k1, k2, k3⟩ := h2
  rcases Nat.lt_trichotomy i k with h | h | h
  · exact ⟨i, i1, fun j hj => (i2 j hj).trans (k2 j (by omega)), by rw [← k2 i h]; exact i3⟩
  · subst h; exact ⟨i, i1, fun j hj => (i2 j hj).trans (k2 j hj), by omega⟩
  · exact ⟨k, k1, fun j hj => (i2 j (by omega)).trans (k2 j hj), by rw [i2 k h]; exact k3⟩
theorem lx_congr {a a' b : Nat → Nat} {m : Nat} (h : ∀ i, i < m → a' i = a i) (h1 : lxL m a b) : lxL m a' b := by
  obtain ⟨i, i1, i2, i3⟩ := h1
  exact ⟨i, i1, fun j hj => (h j (by omega)).trans (i2 j hj), by rw [h i i1]; exact i3⟩
theorem Opt.uniq {X : (Nat → Nat) → Prop} {w : Nat → Nat} {m : Nat} {a b : Nat → Nat} (ha : Opt X w m a) (hb : Opt X w m b) : ∀ i, i < m → a i = b i := by
  have h1 := ha.2 b hb.1
  have h2 := hb.2 a ha.1
  rcases lx_tri a b m with h | h | h
  · exact h
  · exact absurd h (h2.2 (by omega))
  · exact absurd h (h1.2 (by omega))
/-- columns numbered anew, as they are first taken -/
def fo (v : Nat → Nat) (i : Nat) : Nat → Nat
  | 0 => 0
  | k + 1 => if v (fo v i k) = v i then fo v i k else k + 1
def dc (v : Nat → Nat) : Nat → Nat
  | 0 => 0
  | i + 1 => if fo v i i = i then dc v i + 1 else dc v i
def rn (v : Nat → Nat) (i : Nat) : Nat := dc v (fo v i i)
theorem fo_spec (v : Nat → Nat) (i : Nat) : ∀ k, fo v i k ≤ k ∧ (∀ j, j < fo v i k → v j ≠ v i) ∧ ((∃ j, j ≤ k ∧ v j = v i) → v (fo v i k) = v i) := by
  intro k
  induction k with
  | zero => exact ⟨Nat.le_refl _, fun j h => absurd h (Nat.not_lt_zero j), fun ⟨j, h1, h2⟩ => by rw [show j = 0 by omega] at h2; exact h2⟩
  | succ k ih =>
    obtain ⟨a, b, c⟩ := ih
    unfold fo
    by_cases h : v (fo v i k) = v i
    · rw [if_pos h]; exact ⟨by omega, b, fun _ => h⟩
    · rw [if_neg h]
      have hno : ∀ j, j ≤ k → v j ≠ v i := fun j hj e => h (c ⟨j, hj, e⟩)
      refine ⟨Nat.le_refl _, fun j hj => hno j (by omega), fun ⟨j, h1, h2⟩ => ?_⟩
      rcases Nat.lt_or_ge k j with h3 | h3
      · rw [show j = k + 1 by omega] at h2; exact h2
      · exact absurd h2 (hno j h3)
theorem fo_at (v : Nat → Nat) (i : Nat) : fo v i i ≤ i ∧ v (fo v i i) = v i ∧ ∀ j, j < fo v i i → v j ≠ v i := by
  obtain ⟨a, b, c⟩ := fo_spec v i i
  exact ⟨a, c ⟨i, Nat.le_refl _, rfl⟩, b⟩
theorem fo_eq {v : Nat → Nat} {i k : Nat} (h : v i = v k) : fo v i i = fo v k k := by
  obtain ⟨a1, a2, a3⟩ := fo_at v i
  obtain ⟨b1, b2, b3⟩ := fo_at v k
  rcases Nat.lt_trichotomy (fo v i i) (fo v k k) with h1 | h1 | h1
  · exact absurd (a2.trans h) (b3 _ h1)
  · exact h1
  · exact absurd (b2.trans h.symm) (a3 _ h1)
theorem fo_fo (v : Nat → Nat) (i : Nat) : fo v (fo v i i) (fo v i i) = fo v i i := fo_eq (fo_at v i).2.1
theorem dc_le (v : Nat → Nat) : ∀ i, dc v i ≤ i := by
  intro i
  induction i with
  | zero => exact Nat.le_refl _
  | succ i ih => unfold dc; split <;> omega
theorem dc_mono (v : Nat → Nat) (i : Nat) : ∀ k, dc v i ≤ dc v (i + k) := by
  intro k
  induction k with
  | zero => exact Nat.le_refl _
  | succ k ih => show _ ≤ (if fo v (i + k) (i + k) = i + k then dc v (i + k) + 1 else dc v (i + k)); split <;> omega
theorem dc_lt {v : Nat → Nat} {i k : Nat} (h : i < k) (hf : fo v i i = i) : dc v i < dc v k := by
  have h1 : dc v (i + 1) = dc v i + 1 := by show (if fo v i i = i then dc v i + 1 else dc v i) = _; rw [if_pos hf]
  have h2 := dc_mono v (i + 1) (k - (i + 1))
  rw [show i + 1 + (k - (i + 1)) = k by omega] at h2
  omega
theorem rn_ker (v : Nat → Nat) (i k : Nat) : rn v i = rn v k ↔ v i = v k := by
  constructor
  · intro h
    unfold rn at h
    rcases Nat.lt_trichotomy (fo v i i) (fo v k k) with h1 | h1 | h1
    · have := dc_lt h1 (fo_fo v i); omega
    · rw [← (fo_at v i).2.1, h1, (fo_at v k).2.1]
    · have := dc_lt h1 (fo_fo v k); omega
  · intro h; unfold rn; rw [fo_eq h]
theorem rn_tk (v : Nat → Nat) : ∀ i, tk (rn v) i = dc v i := by
  intro i
  induction i with
  | zero => rfl
  | succ i ih =>
    unfold tk dc
    rw [ih]
    by_cases h : fo v i i = i
    · rw [if_pos h]
      have : rn v i = dc v i := by unfold rn; rw [h]
      omega
    · rw [if_neg h]
      have h1 := (fo_at v i).1
      have : rn v i < dc v i := by unfold rn; exact dc_lt (by omega) (fo_fo v i)
      omega
theorem rn_rg (v : Nat → Nat) (m : Nat) : Rg m (rn v) := by
  intro i _
  rw [rn_tk]
  unfold rn
  have h1 := (fo_at v i).1
  have h2 := dc_mono v (fo v i i) (i - fo v i i)
  rw [show fo v i i + (i - fo v i i) = i by omega] at h2
  exact h2
theorem rg_used {m : Nat} {col : Nat → Nat} (h : Rg m col) : ∀ i, i ≤ m → ∀ c, c < tk col i → ∃ j, j < i ∧ col j = c := by
  intro i
  induction i with
  | zero => intro _ c hc; exact absurd hc (Nat.not_lt_zero c)
  | succ i ih =>
    intro hi c hc
    unfold tk at hc
    rcases Nat.lt_or_ge c (tk col i) with h1 | h1
    · obtain ⟨j, a, b⟩ := ih (by omega) c h1; exact ⟨j, by omega, b⟩
    · have := h i (by omega)
      exact ⟨i, by omega, by omega⟩
theorem rg_full {m : Nat} {col : Nat → Nat} (h : Rg m col) : Fl m col := by
  intro i hi c hc
  obtain ⟨j, a, b⟩ := rg_used h i (by omega) c (by have := h i hi; omega)
  exact ⟨j, by omega, b⟩
theorem tk_congr {a b : Nat → Nat} : ∀ i, (∀ j, j < i → a j = b j) → tk a i = tk b i := by
  intro i
  induction i with
  | zero => intro _; rfl
  | succ i ih => intro h; unfold tk; rw [ih (fun j hj => h j (by omega)), h i (by omega)]
theorem tk_le {col : Nat → Nat} {m : Nat} (h : Rg m col) : ∀ i, i ≤ m → tk col i ≤ i := by
  intro i
  induction i with
  | zero => intro _; exact Nat.le_refl _
  | succ i ih => intro hi; have := ih (by omega); have := h i (by omega); unfold tk; omega
theorem tk_ge {col : Nat → Nat} {i j : Nat} (h : j < i) : col j < tk col i := by
  induction i with
  | zero => exact absurd h (Nat.not_lt_zero j)
  | succ i ih =>
    unfold tk
    rcases Nat.lt_or_ge j i with h1 | h1
    · have := ih h1; omega
    · rw [show j = i by omega]; omega
theorem rn_lx (v : Nat → Nat) (m : Nat) : (∀ i, i < m → rn v i = v i) ∨ lxL m (rn v) v := by
  rcases lx_tri (rn v) v m with h | h | h
  · exact Or.inl h
  · exact Or.inr h
  · obtain ⟨i, h1, h2, h3⟩ := h
    exfalso
    by_cases hf : fo v i i = i
    · have hr : rn v i = dc v i := by unfold rn; rw [hf]
      rw [hr, ← rn_tk] at h3
      obtain ⟨j, j1, j2⟩ := rg_used (rn_rg v m) i (by omega) (v i) h3
      rw [← h2 j j1] at j2
      obtain ⟨-, -, a3⟩ := fo_at v i
      rw [hf] at a3
      exact a3 j j1 j2
    · have h4 := (fo_at v i).1
      have h5 : rn v (fo v i i) = rn v i := by unfold rn; rw [fo_fo]
      rw [← h5, ← h2 (fo v i i) (by omega), (fo_at v i).2.1] at h3
      omega
theorem rn_V {sh : Nat → Nat → Prop} {m : Nat} (hm : m ≤ 6) {v : Nat → Nat} (h : Vd sh m v) : VR sh m (rn v) := by
  refine ⟨⟨fun i hi => ?_, fun j i hj hi he => h.2 j i hj hi ((rn_ker v j i).mp he)⟩, rn_rg v m⟩
  have h1 := (fo_at v i).1
  have h2 := dc_le v (fo v i i)
  unfold rn; omega
theorem rn_sum {sh : Nat → Nat → Prop} {m : Nat} (hm : m ≤ 6) {v w : Nat → Nat} (h : Vd sh m v) : sWd w (rn v) m 6 = sWd w v m 6 :=
  sWd_ker m (fun i j _ _ => rn_ker v i j) (fun i hi => ⟨(rn_V hm h).1.1 i hi, h.1 i hi⟩)
/-- the least way among those numbered as they are taken is the least of all -/
theorem Opt.full {sh : Nat → Nat → Prop} {m : Nat} (hm : m ≤ 6) {w col : Nat → Nat} (h : Opt (VR sh m) w m col) : Opt (VF sh m) w m col := by
  refine ⟨⟨h.1.1, rg_full h.1.2⟩, fun v hv => ?_⟩
  obtain ⟨h1, h2⟩ := h.2 (rn v) (rn_V hm hv.1)
  rw [rn_sum hm hv.1] at h1 h2
  refine ⟨h1, fun he hl => h2 he ?_⟩
  rcases rn_lx v m with h3 | h3
  · exact lx_congr h3 hl
  · exact lx_trans h3 hl
theorem id_VR (sh : Nat → Nat → Prop) {m : Nat} (hm : m ≤ 6) : VR sh m (fun i => i) := by
  refine ⟨⟨fun i hi => by show i < 6; omega, fun j i h1 h2 h3 => ?_⟩, fun i hi => ?_⟩
  · have h3 : j = i := h3
    omega
  · show i ≤ tk (fun i => i) i
    rcases Nat.eq_zero_or_pos i with h | h
    · omega
    · have := tk_ge (col := fun i => i) (i := i) (j := i - 1) (by omega)
      have : i - 1 < tk (fun i => i) i := this
      omega
