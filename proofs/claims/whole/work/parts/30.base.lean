/-! numbers; the score; the order -/
theorem i_eq {a b : Int32} : a = b ↔ a.toInt = b.toInt := Int32.toInt_inj.symm
theorem i_lt {a b : Int32} : a < b ↔ a.toInt < b.toInt := Int32.lt_iff_toInt_lt
theorem i_le {a b : Int32} : a ≤ b ↔ a.toInt ≤ b.toInt := Int32.le_iff_toInt_le
theorem i_bd (a : Int32) : -2147483648 ≤ a.toInt ∧ a.toInt ≤ 2147483647 := ⟨by have := Int32.le_toInt a; omega, by have := Int32.toInt_lt a; omega⟩
theorem bm_id {z : Int} (h1 : -2147483648 ≤ z) (h2 : z ≤ 2147483647) : z.bmod (2 ^ 32) = z := by
  rw [Int.bmod_def]; omega
theorem i_add {a b : Int32} (h1 : -2147483648 ≤ a.toInt + b.toInt) (h2 : a.toInt + b.toInt ≤ 2147483647) : (a + b).toInt = a.toInt + b.toInt := by
  rw [Int32.toInt_add]; exact bm_id h1 h2
theorem i_sub {a b : Int32} (h1 : -2147483648 ≤ a.toInt - b.toInt) (h2 : a.toInt - b.toInt ≤ 2147483647) : (a - b).toInt = a.toInt - b.toInt := by
  rw [Int32.toInt_sub]; exact bm_id h1 h2
theorem i_mul {a b : Int32} (h1 : -2147483648 ≤ a.toInt * b.toInt) (h2 : a.toInt * b.toInt ≤ 2147483647) : (a * b).toInt = a.toInt * b.toInt := by
  rw [Int32.toInt_mul]; exact bm_id h1 h2
theorem i_neg {a : Int32} (h1 : -2147483647 ≤ a.toInt) : (-a).toInt = -a.toInt := by
  have := i_bd a
  rw [Int32.toInt_neg]; exact bm_id (by omega) (by omega)
theorem n_i {k : Nat} (h : k < 2147483648) : (nI k).toInt = (k : Int) := nI_toInt (by omega)
theorem n_ix {k : Nat} (h : k < 2147483648) : ix (nI k) = k := nI_clamp (by omega)
theorem n_in {k N : Nat} (h : k < N) (hN : N < 2147483648) : vp_in (nI k) N := vp_in_nI h (by omega)
theorem in_of {x : Int32} {N : Nat} (h0 : 0 ≤ x.toInt) (h1 : x.toInt < N) : vp_in x N := vp_in_iff.mpr ⟨h0, h1⟩
theorem ix_i {x : Int32} (h : 0 ≤ x.toInt) : (ix x : Int) = x.toInt := by
  have := i_bd x
  rw [ix, Int32.toNatClampNeg]; omega
theorem n_of {x : Int32} (h : 0 ≤ x.toInt) : x = nI (ix x) := by
  have := i_bd x
  rw [i_eq, n_i (by have := ix_i h; omega), ix_i h]
theorem n_inj {a b : Nat} (ha : a < 2147483648) (hb : b < 2147483648) : nI a = nI b ↔ a = b := nI_eq (by omega) (by omega)
theorem n_le {a b : Nat} (ha : a < 2147483648) (hb : b < 2147483648) : nI a ≤ nI b ↔ a ≤ b := nI_leI (by omega) (by omega)
theorem n_lt {a b : Nat} (ha : a < 2147483648) (hb : b < 2147483648) : nI a < nI b ↔ a < b := nI_ltI (by omega) (by omega)
theorem n_m1 {k : Nat} : nI (k + 1) + (-1) = nI k := pk_m1 k
theorem n_p1 {k : Nat} : nI k + 1 = nI (k + 1) := nI_1 k
theorem n_s1 {k : Nat} : nI (k + 1) - 1 = nI k := nI_pred k
def bi (p : Prop) [Decidable p] : Int32 := if p then 1 else 0
theorem bi_0 {p : Prop} [Decidable p] : bi p = 0 ↔ ¬ p := by unfold bi; split <;> simp_all
theorem bi_1 {p : Prop} [Decidable p] : bi p = 1 ↔ p := by unfold bi; split <;> simp_all
theorem bi_t {p : Prop} [Decidable p] (h : p) : bi p = 1 := bi_1.mpr h
theorem bi_f {p : Prop} [Decidable p] (h : ¬ p) : bi p = 0 := bi_0.mpr h
theorem bi_01 {p : Prop} [Decidable p] : bi p = 0 ∨ bi p = 1 := by unfold bi; split <;> simp
/-- the score: how many notes; 0 step 1 alter 2 bar 3 time 4 voice 5 tied 6 grace 7 dots (by note), 8 key 9 clef (by bar), 10 rule -/
abbrev Sc : Type := Nat × (Nat → Nat → Int32)
def wh (S : Sc) (j : Nat) : Int := 1000 * (S.2 2 j).toInt + (S.2 3 j).toInt
def ltN (S : Sc) (i j : Nat) : Prop := wh S i < wh S j ∨ (wh S i = wh S j ∧ i < j)
def Ord (S : Sc) (o : Nat → Nat) : Prop := (∀ p, p < S.1 → o p < S.1) ∧ (∀ p q, p < q → q < S.1 → ltN S (o p) (o q)) ∧ ∀ j, j < S.1 → ∃ p, p < S.1 ∧ o p = j
def rg (x : Int32) (lo hi : Int) : Prop := lo ≤ x.toInt ∧ x.toInt ≤ hi
def Bd (S : Sc) : Prop := S.1 ≤ 60 ∧ (∀ j, j < S.1 → rg (S.2 0 j) 0 69 ∧ rg (S.2 1 j) (-4) 4 ∧ rg (S.2 2 j) 0 19 ∧ rg (S.2 3 j) 0 999 ∧ rg (S.2 4 j) 0 3 ∧ rg (S.2 5 j) 0 1 ∧ rg (S.2 6 j) 0 1 ∧ rg (S.2 7 j) 0 3) ∧ (∀ b, b < 20 → rg (S.2 8 b) (-7) 7 ∧ rg (S.2 9 b) 0 2) ∧ rg (S.2 10 0) 0 1 ∧ rg (S.2 10 1) 0 1 ∧ rg (S.2 10 2) 0 15 ∧ rg (S.2 10 3) 0 1 ∧ rg (S.2 10 4) 0 2
theorem ltN_irr {S : Sc} {i : Nat} : ¬ ltN S i i := by unfold ltN; omega
theorem ltN_tr {S : Sc} {i j k : Nat} (h1 : ltN S i j) (h2 : ltN S j k) : ltN S i k := by unfold ltN at *; omega
theorem ltN_tot (S : Sc) {i j : Nat} (h : i ≠ j) : ltN S i j ∨ ltN S j i := by unfold ltN; omega
theorem Ord.inj {S : Sc} {o : Nat → Nat} (h : Ord S o) {p q : Nat} (hp : p < S.1) (hq : q < S.1) (e : o p = o q) : p = q := by
  rcases Nat.lt_trichotomy p q with h1 | h1 | h1
  · have := h.2.1 p q h1 hq; rw [e] at this; exact absurd this ltN_irr
  · exact h1
  · have := h.2.1 q p h1 hp; rw [e] at this; exact absurd this ltN_irr
theorem Ord.lt_iff {S : Sc} {o : Nat → Nat} (h : Ord S o) {p q : Nat} (hp : p < S.1) (hq : q < S.1) : ltN S (o p) (o q) ↔ p < q := by
  constructor
  · intro hl
    rcases Nat.lt_trichotomy p q with h1 | h1 | h1
    · exact h1
    · subst h1; exact absurd hl ltN_irr
    · exact absurd (ltN_tr hl (h.2.1 q p h1 hp)) ltN_irr
  · exact fun hl => h.2.1 p q hl hq
theorem Ord.uniq {S : Sc} {o o' : Nat → Nat} (h : Ord S o) (h' : Ord S o') : ∀ p, p < S.1 → o p = o' p := by
  intro p
  induction p using Nat.strongRecOn with
  | ind p ih =>
    intro hp
    obtain ⟨q, hq, e⟩ := h'.2.2 (o p) (h.1 p hp)
    obtain ⟨r, hr, e2⟩ := h.2.2 (o' p) (h'.1 p hp)
    have hqp : p ≤ q := by
      rcases Nat.lt_or_ge q p with h1 | h1
      · have := ih q h1 hq; rw [e] at this; exact absurd (h.inj hq hp this) (by omega)
      · exact h1
    have hrp : p ≤ r := by
      rcases Nat.lt_or_ge r p with h1 | h1
      · have := ih r h1 hr; rw [e2] at this; exact absurd (h'.inj hp hr this) (by omega)
      · exact h1
    by_cases hpq : p = q
    · subst hpq; exact e.symm
    · have h1 : ltN S (o' p) (o p) := by rw [← e]; exact h'.2.1 p q (by omega) hq
      rw [← e2] at h1
      have := (h.lt_iff hr hp).mp h1
      omega
/-- a candidate for a tie of note j -/
abbrev Cand (S : Sc) (j m : Nat) : Prop := S.2 4 m = S.2 4 j ∧ S.2 0 m = S.2 0 j ∧ wh S m < wh S j
def bestC (S : Sc) (j : Nat) : Nat → Option Nat
  | 0 => none
  | k + 1 => match bestC S j k with
    | none => if Cand S j k then some k else none
    | some b => if Cand S j k ∧ wh S b ≤ wh S k then some k else some b
def mateF (S : Sc) (j : Nat) : Int32 := match bestC S j S.1 with
  | none => -1
  | some b => if S.2 1 b = S.2 1 j then nI b else -1
def tieF (S : Sc) (j : Nat) : Int32 := if S.2 5 j = 1 then mateF S j else -1
theorem bestC_spec (S : Sc) (j : Nat) : ∀ k, (bestC S j k = none → ∀ m, m < k → ¬ Cand S j m) ∧ ∀ b, bestC S j k = some b → b < k ∧ Cand S j b ∧ ∀ m, m < k → Cand S j m → m = b ∨ ltN S m b := by
  intro k
  induction k with
  | zero => exact ⟨fun _ m h => absurd h (Nat.not_lt_zero m), fun b h => by simp [bestC] at h⟩
  | succ k ih =>
    cases hb : bestC S j k with
    | none =>
      have h0 := ih.1 hb
      simp only [bestC, hb]
      by_cases hc : Cand S j k
      · rw [if_pos hc]
        refine ⟨fun h => by simp at h, fun b h => ?_⟩
        cases h
        exact ⟨Nat.lt_succ_self _, hc, fun m hm hcm => Or.inl (by rcases Nat.lt_or_ge m k with h1 | h1; exact absurd hcm (h0 m h1); omega)⟩
      · rw [if_neg hc]
        exact ⟨fun _ m hm => by rcases Nat.lt_or_ge m k with h1 | h1; exact h0 m h1; rw [show m = k by omega]; exact hc, fun b h => by simp at h⟩
    | some b0 =>
      obtain ⟨h1, h2, h3⟩ := ih.2 b0 hb
      simp only [bestC, hb]
      by_cases hc : Cand S j k ∧ wh S b0 ≤ wh S k
      · rw [if_pos hc]
        refine ⟨fun h => by simp at h, fun b h => ?_⟩
        cases h
        refine ⟨Nat.lt_succ_self _, hc.1, fun m hm hcm => ?_⟩
        rcases Nat.lt_or_ge m k with h4 | h4
        · right
          have hbk : ltN S b0 k := by unfold ltN; omega
          rcases h3 m h4 hcm with rfl | h5
          · exact hbk
          · exact ltN_tr h5 hbk
        · left; omega
      · rw [if_neg hc]
        refine ⟨fun h => by simp at h, fun b h => ?_⟩
        cases h
        refine ⟨by omega, h2, fun m hm hcm => ?_⟩
        rcases Nat.lt_or_ge m k with h4 | h4
        · exact h3 m h4 hcm
        · have hmk : m = k := by omega
          subst hmk
          right
          have : ¬ wh S b0 ≤ wh S m := fun h => hc ⟨hcm, h⟩
          unfold ltN; omega
theorem bestC_eq {S : Sc} {j k b : Nat} (h1 : b < k) (h2 : Cand S j b) (h3 : ∀ m, m < k → Cand S j m → m = b ∨ ltN S m b) : bestC S j k = some b := by
  cases hb : bestC S j k with
  | none => exact absurd h2 ((bestC_spec S j k).1 hb b h1)
  | some c =>
    obtain ⟨c1, c2, c3⟩ := (bestC_spec S j k).2 c hb
    rcases h3 c c1 c2 with rfl | h4
    · rfl
    · rcases c3 b h1 h2 with rfl | h5
      · rfl
      · exact absurd (ltN_tr h4 h5) ltN_irr
theorem bestC_no {S : Sc} {j k : Nat} (h : ∀ m, m < k → ¬ Cand S j m) : bestC S j k = none := by
  cases hb : bestC S j k with
  | none => rfl
  | some c => obtain ⟨c1, c2, c3⟩ := (bestC_spec S j k).2 c hb; exact absurd c2 (h c c1)
