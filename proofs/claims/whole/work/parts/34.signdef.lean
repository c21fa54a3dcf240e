/-! which notes have signs: in closed form, over the places of the order -/
noncomputable def cite {α : Type} (P : Prop) (a b : α) : α := @ite α P (Classical.propDecidable P) a b
theorem cite_t {α : Type} {P : Prop} {a b : α} (h : P) : cite P a b = a := by unfold cite; exact if_pos h
theorem cite_f {α : Type} {P : Prop} {a b : α} (h : ¬ P) : cite P a b = b := by unfold cite; exact if_neg h
def fre (S : Sc) (o : Nat → Nat) (i : Nat) : Prop := tieF S (o i) = -1
def sea (S : Sc) (o : Nat → Nat) (i : Nat) : Nat := seatN S (o i)
def bar (S : Sc) (o : Nat → Nat) (i : Nat) : Nat := baN S (o i)
def unl (S : Sc) (o : Nat → Nat) (i : Nat) : Prop := ∃ r, r < S.1 ∧ wh S (o r) = wh S (o i) ∧ sea S o r = sea S o i ∧ S.2 1 (o r) ≠ S.2 1 (o i)
def fstP (S : Sc) (o : Nat → Nat) (a : Prop) (i : Nat) : Prop := ∀ r, r < i → wh S (o r) = wh S (o i) → fre S o r → sea S o r = sea S o i → S.2 0 (o r) = S.2 0 (o i) → ¬ (a → S.2 1 (o r) = S.2 1 (o i))
noncomputable def STT (S : Sc) (o : Nat → Nat) (b : Nat) : Nat → Nat → Int32
  | 0, s => kA S b s
  | p + 1, s => cite (bar S o p = b ∧ sea S o p = s) (cite (unl S o p) 99 (cite (fre S o p) (S.2 1 (o p)) (STT S o b p s))) (STT S o b p s)
noncomputable def csF (S : Sc) (o : Nat → Nat) : Nat → Nat
  | 0 => 0
  | i + 1 => cite (Beg S o (i + 1)) (i + 1) (csF S o i)
def ned (S : Sc) (o : Nat → Nat) (i : Nat) : Prop := fre S o i ∧ ((unl S o i ∧ fstP S o True i) ∨ (¬ unl S o i ∧ STT S o (bar S o i) (csF S o i) (sea S o i) ≠ S.2 1 (o i) ∧ fstP S o False i))
def hadP (S : Sc) (o : Nat → Nat) (b p t : Nat) : Prop := ∃ r, r < p ∧ bar S o r = b ∧ sea S o r = t
def cb1 (S : Sc) (o : Nat → Nat) (i : Nat) : Prop := bar S o i ≠ 0 ∧ STT S o (bar S o i - 1) S.1 (sea S o i) ≠ S.2 1 (o i)
def cb2 (S : Sc) (o : Nat → Nat) (i : Nat) : Prop := S.2 10 0 = 0 ∧ ∃ t, t < 280 ∧ t % 28 = sea S o i % 28 ∧ t ≠ sea S o i ∧ hadP S o (bar S o i) (csF S o i) t ∧ STT S o (bar S o i) (csF S o i) t ≠ S.2 1 (o i)
def cb3 (S : Sc) (o : Nat → Nat) (i : Nat) : Prop := ∃ r, r < csF S o i ∧ bar S o r = bar S o i ∧ sea S o r = sea S o i ∧ ¬ fre S o r ∧ S.2 2 (ix (tieF S (o r))) < S.2 2 (o i) ∧ S.2 1 (o r) ≠ S.2 1 (o i)
def cb4 (S : Sc) (o : Nat → Nat) (i : Nat) : Prop := bar S o i ≠ 0 ∧ kA S (bar S o i - 1) (sea S o i) ≠ kA S (bar S o i) (sea S o i)
def bts (S : Sc) (o : Nat → Nat) (i : Nat) : Prop := (S.2 10 2 &&& 1 ≠ 0 ∧ cb1 S o i) ∨ (S.2 10 2 &&& 2 ≠ 0 ∧ cb2 S o i) ∨ (S.2 10 2 &&& 4 ≠ 0 ∧ cb3 S o i) ∨ (S.2 10 2 &&& 8 ≠ 0 ∧ cb4 S o i)
def bas (S : Sc) (o : Nat → Nat) (i : Nat) : Prop := fre S o i ∧ ¬ ned S o i ∧ fstP S o False i ∧ bts S o i
def crt (S : Sc) (o : Nat → Nat) (i : Nat) : Prop := bas S o i ∧ ∀ r, r < i → bar S o r = bar S o i → sea S o r = sea S o i → ¬ bas S o r
def ntl (S : Sc) (o : Nat → Nat) (i : Nat) : Prop := ned S o i ∧ S.2 10 3 = 1 ∧ (S.2 1 (o i) = 2 ∨ S.2 1 (o i) = -2) ∧ STT S o (bar S o i) (csF S o i) (sea S o i) = 2 * S.2 1 (o i)
noncomputable def KND (S : Sc) (o : Nat → Nat) (i : Nat) : Int32 := cite (ned S o i) 1 (cite (crt S o i) 2 0)
noncomputable def NTL (S : Sc) (o : Nat → Nat) (i : Nat) : Int32 := cite (ntl S o i) 1 0
/-! the class's seats, place by place -/
noncomputable def LB (S : Sc) (o : Nat → Nat) : Nat → Nat → Int32
  | 0, _ => -1
  | p + 1, s => cite (sea S o p = s) (S.2 2 (o p)) (LB S o p s)
noncomputable def EB (S : Sc) (o : Nat → Nat) : Nat → Nat → Int32
  | 0, _ => -1
  | p + 1, s => cite (sea S o p = s ∧ LB S o p s ≠ S.2 2 (o p)) (LB S o p s) (EB S o p s)
noncomputable def CS (S : Sc) (o : Nat → Nat) (z : Nat → Int32) : Nat → Nat → Int32
  | 0, s => z s
  | p + 1, s => cite (sea S o p = s) (cite (unl S o p) 99 (cite (fre S o p) (S.2 1 (o p)) (cite (LB S o p s = S.2 2 (o p)) (CS S o z p s) (kA S (bar S o p) s)))) (CS S o z p s)
noncomputable def ES (S : Sc) (o : Nat → Nat) (z z2 : Nat → Int32) : Nat → Nat → Int32
  | 0, s => z2 s
  | p + 1, s => cite (sea S o p = s ∧ LB S o p s ≠ S.2 2 (o p)) (CS S o z p s) (ES S o z z2 p s)
noncomputable def CB (S : Sc) (o : Nat → Nat) : Nat → Nat → Int32
  | 0, _ => -1
  | p + 1, s => cite (sea S o p = s ∧ crt S o p) (S.2 2 (o p)) (CB S o p s)
section
variable {S : Sc} {o : Nat → Nat}
theorem wh_bar (hB : Bd S) {i j : Nat} (hi : i < S.1) (hj : j < S.1) (h : wh S i ≤ wh S j) : baN S i ≤ baN S j := by
  obtain ⟨-, -, a1, a2, -⟩ := hB.2.1 i hi
  obtain ⟨-, -, b1, b2, -⟩ := hB.2.1 j hj
  unfold rg at *
  unfold wh at h
  have := ix_i a1.1
  have := ix_i b1.1
  unfold baN; omega
theorem wh_bar_eq (hB : Bd S) {i j : Nat} (hi : i < S.1) (hj : j < S.1) (h : wh S i = wh S j) : baN S i = baN S j := Nat.le_antisymm (wh_bar hB hi hj (by omega)) (wh_bar hB hj hi (by omega))
theorem wh_mono (hO : Ord S o) {r q : Nat} (h : r ≤ q) (hq : q < S.1) : wh S (o r) ≤ wh S (o q) := by
  rcases Nat.lt_or_ge r q with h1 | h1
  · have := hO.2.1 r q h1 hq; unfold ltN at this; omega
  · rw [show r = q by omega]; omega
theorem bar_mono (hB : Bd S) (hO : Ord S o) {r q : Nat} (h : r ≤ q) (hq : q < S.1) : bar S o r ≤ bar S o q := wh_bar hB (hO.1 r (by omega)) (hO.1 q hq) (wh_mono hO h hq)
theorem bar_lt (hB : Bd S) (hO : Ord S o) {r : Nat} (hr : r < S.1) : bar S o r < 20 := (ba_n hB (hO.1 r hr)).2
theorem bar_eq (hB : Bd S) (hO : Ord S o) {r : Nat} (hr : r < S.1) : S.2 2 (o r) = nI (bar S o r) := (ba_n hB (hO.1 r hr)).1
theorem sea_lt (hB : Bd S) (hO : Ord S o) {r : Nat} (hr : r < S.1) : sea S o r < 280 := seat_lt hB (hO.1 r hr)
theorem n_ne1 {k : Nat} (h : k < 2147483648) : nI k ≠ -1 := by
  intro e
  have := i_eq.mp e
  rw [n_i h] at this
  have e2 : (-1 : Int32).toInt = -1 := by decide
  omega
/-- the last place of a seat ahead of place p -/
theorem LB_last (p s : Nat) : (LB S o p s = -1 ∧ ∀ r, r < p → sea S o r ≠ s) ∨ ∃ r, r < p ∧ sea S o r = s ∧ LB S o p s = S.2 2 (o r) ∧ ∀ r', r < r' → r' < p → sea S o r' ≠ s := by
  induction p with
  | zero => exact Or.inl ⟨rfl, fun r h => absurd h (Nat.not_lt_zero r)⟩
  | succ p ih =>
    unfold LB
    by_cases h : sea S o p = s
    · rw [cite_t h]
      exact Or.inr ⟨p, Nat.lt_succ_self p, h, rfl, fun r' h1 h2 => absurd h1 (by omega)⟩
    · rw [cite_f h]
      rcases ih with ⟨h1, h2⟩ | ⟨r, h1, h2, h3, h4⟩
      · exact Or.inl ⟨h1, fun r hr => by rcases Nat.lt_or_ge r p with h3 | h3; exact h2 r h3; rw [show r = p by omega]; exact h⟩
      · exact Or.inr ⟨r, by omega, h2, h3, fun r' a b => by rcases Nat.lt_or_ge r' p with h5 | h5; exact h4 r' a h5; rw [show r' = p by omega]; exact h⟩
theorem LB_of (hB : Bd S) (hO : Ord S o) {p s b : Nat} (hp : p ≤ S.1) (hle : ∀ r, r < p → bar S o r ≤ b) (h : ∃ r, r < p ∧ sea S o r = s ∧ bar S o r = b) : LB S o p s = nI b := by
  obtain ⟨r, h1, h2, h3⟩ := h
  rcases LB_last (S := S) (o := o) p s with ⟨-, h4⟩ | ⟨r', g1, g2, g3, g4⟩
  · exact absurd h2 (h4 r h1)
  · have hr : r ≤ r' := by
      rcases Nat.lt_or_ge r' r with h | h
      · exact absurd h2 (g4 r h h1)
      · exact h
    have := bar_mono hB hO hr (show r' < S.1 by omega)
    have := hle r' g1
    rw [g3, bar_eq hB hO (by omega), show bar S o r' = b by omega]
theorem LB_iff (hB : Bd S) (hO : Ord S o) {p s b : Nat} (hp : p ≤ S.1) (hb : b < 20) (hle : ∀ r, r < p → bar S o r ≤ b) : LB S o p s = nI b ↔ ∃ r, r < p ∧ bar S o r = b ∧ sea S o r = s := by
  constructor
  · intro h
    rcases LB_last (S := S) (o := o) p s with ⟨h1, -⟩ | ⟨r, g1, g2, g3, -⟩
    · rw [h1] at h; exact absurd h.symm (n_ne1 (by omega))
    · rw [g3, bar_eq hB hO (by omega)] at h
      have hbl := bar_lt hB hO (show r < S.1 by omega)
      exact ⟨r, g1, (n_inj (by omega) (by omega)).mp h, g2⟩
  · rintro ⟨r, h1, h2, h3⟩
    exact LB_of hB hO hp hle ⟨r, h1, h3, h2⟩
theorem STT_keep {b s p : Nat} : ∀ m, (∀ r, p ≤ r → r < p + m → ¬ (bar S o r = b ∧ sea S o r = s)) → STT S o b (p + m) s = STT S o b p s := by
  intro m
  induction m with
  | zero => intro _; rfl
  | succ m ih =>
    intro h
    rw [← Nat.add_assoc]
    show cite _ _ _ = _
    rw [cite_f (h (p + m) (by omega) (by omega))]
    exact ih (fun r h1 h2 => h r h1 (by omega))
theorem STT_key {b s p : Nat} (h : ∀ r, r < p → ¬ (bar S o r = b ∧ sea S o r = s)) : STT S o b p s = kA S b s := by
  have := STT_keep (S := S) (o := o) (b := b) (s := s) (p := 0) p (fun r _ h2 => h r (by omega))
  rw [Nat.zero_add] at this
  exact this
theorem STT_end (hB : Bd S) (hO : Ord S o) {b s p : Nat} (hp : p ≤ S.1) (h : ∀ r, p ≤ r → r < S.1 → b < bar S o r) : STT S o b S.1 s = STT S o b p s := by
  have := STT_keep (S := S) (o := o) (b := b) (s := s) (p := p) (S.1 - p) (fun r h1 h2 h3 => by have := h r h1 (by omega); omega)
  rw [show p + (S.1 - p) = S.1 by omega] at this
  exact this
theorem CS_eq (hB : Bd S) (hO : Ord S o) {z : Nat → Int32} (s : Nat) : ∀ p, p ≤ S.1 → ∀ b, b < 20 → LB S o p s = nI b → CS S o z p s = STT S o b p s := by
  intro p
  induction p with
  | zero => intro _ b hb h; exact absurd h.symm (n_ne1 (by omega))
  | succ p ih =>
    intro hp b hb h
    have hbl := bar_lt hB hO (show p < S.1 by omega)
    unfold LB at h
    unfold CS STT
    by_cases hs : sea S o p = s
    · rw [cite_t hs] at h
      rw [bar_eq hB hO (by omega)] at h
      have hbp : bar S o p = b := (n_inj (by omega) (by omega)).mp h
      rw [cite_t hs, cite_t (show bar S o p = b ∧ sea S o p = s from ⟨hbp, hs⟩)]
      by_cases hu : unl S o p
      · rw [cite_t hu, cite_t hu]
      · rw [cite_f hu, cite_f hu]
        by_cases hf : fre S o p
        · rw [cite_t hf, cite_t hf]
        · rw [cite_f hf, cite_f hf]
          by_cases hl : LB S o p s = S.2 2 (o p)
          · rw [cite_t hl]
            exact ih (by omega) b hb (by rw [hl, bar_eq hB hO (by omega), hbp])
          · rw [cite_f hl, hbp]
            refine (STT_key (fun r hr hc => hl ?_)).symm
            rw [bar_eq hB hO (by omega), hbp]
            exact LB_of hB hO (by omega) (fun r' h' => by rw [← hbp]; exact bar_mono hB hO (by omega) (by omega)) ⟨r, hr, hc.2, hc.1⟩
    · rw [cite_f hs] at h
      rw [cite_f hs, cite_f (fun hc => hs hc.2)]
      exact ih (by omega) b hb h
theorem EB_inv (hB : Bd S) (hO : Ord S o) (s : Nat) : ∀ p, p ≤ S.1 → (∀ r, r < p → sea S o r = s → LB S o p s = nI (bar S o r) ∨ ∃ e, EB S o p s = nI e ∧ bar S o r ≤ e ∧ e < 20) ∧ (∀ e, e < 20 → EB S o p s = nI e → ∃ l, l < 20 ∧ LB S o p s = nI l ∧ e < l) := by
  intro p
  induction p with
  | zero => intro _; exact ⟨fun r h => absurd h (Nat.not_lt_zero r), fun e he h => absurd h.symm (n_ne1 (by omega))⟩
  | succ p ih =>
    intro hp
    obtain ⟨i1, i2⟩ := ih (by omega)
    have hbl := bar_lt hB hO (show p < S.1 by omega)
    unfold LB EB
    by_cases hs : sea S o p = s
    · rw [cite_t hs]
      by_cases hl : LB S o p s = S.2 2 (o p)
      · rw [cite_f (fun hc => hc.2 hl), ← hl]
        refine ⟨fun r hr hrs => ?_, i2⟩
        rcases Nat.lt_or_ge r p with h1 | h1
        · exact i1 r h1 hrs
        · left; rw [show r = p by omega, hl, bar_eq hB hO (by omega)]
      · rw [cite_t ⟨hs, hl⟩]
        refine ⟨fun r hr hrs => ?_, fun e he h => ⟨bar S o p, hbl, bar_eq hB hO (by omega), ?_⟩⟩
        · rcases Nat.lt_or_ge r p with h1 | h1
          · right
            have hrl := bar_lt hB hO (show r < S.1 by omega)
            rcases i1 r h1 hrs with h2 | ⟨e, h2, h3, h4⟩
            · exact ⟨bar S o r, h2, Nat.le_refl _, hrl⟩
            · obtain ⟨l, hl1, hl2, hl3⟩ := i2 e h4 h2
              exact ⟨l, hl2, by omega, hl1⟩
          · left; rw [show r = p by omega, bar_eq hB hO (by omega)]
        · rcases LB_last (S := S) (o := o) p s with ⟨g1, -⟩ | ⟨r, g1, g2, g3, -⟩
          · rw [g1] at h; exact absurd h.symm (n_ne1 (by omega))
          · have hrl := bar_lt hB hO (show r < S.1 by omega)
            have hm := bar_mono hB hO (show r ≤ p by omega) (show p < S.1 by omega)
            rw [g3, bar_eq hB hO (by omega)] at h
            have he2 := (n_inj (by omega) (by omega)).mp h
            have hne : bar S o r ≠ bar S o p := fun e => hl (by rw [g3, bar_eq hB hO (by omega), bar_eq hB hO (show p < S.1 by omega), e])
            omega
    · rw [cite_f hs, cite_f (fun hc => hs hc.1)]
      refine ⟨fun r hr hrs => ?_, i2⟩
      rcases Nat.lt_or_ge r p with h1 | h1
      · exact i1 r h1 hrs
      · rw [show r = p by omega] at hrs; exact absurd hrs hs
theorem ES_eq (hB : Bd S) (hO : Ord S o) {z z2 : Nat → Int32} (s : Nat) : ∀ p, p ≤ S.1 → ∀ e, e < 20 → EB S o p s = nI e → ES S o z z2 p s = STT S o e p s := by
  intro p
  induction p with
  | zero => intro _ e he h; exact absurd h.symm (n_ne1 (by omega))
  | succ p ih =>
    intro hp e he h
    have hbl := bar_lt hB hO (show p < S.1 by omega)
    have hinv := (EB_inv hB hO s p (by omega)).2
    unfold EB at h
    unfold ES STT
    by_cases hc : sea S o p = s ∧ LB S o p s ≠ S.2 2 (o p)
    · rw [cite_t hc] at h
      rw [cite_t hc]
      have hne : ¬ (bar S o p = e ∧ sea S o p = s) := fun h2 => hc.2 (by rw [h, bar_eq hB hO (by omega), h2.1])
      rw [cite_f hne]
      exact CS_eq hB hO s p (by omega) e he h
    · rw [cite_f hc] at h
      rw [cite_f hc]
      have hne : ¬ (bar S o p = e ∧ sea S o p = s) := by
        rintro ⟨h2, h3⟩
        obtain ⟨l, hl1, hl2, hl3⟩ := hinv e he h
        refine hc ⟨h3, ?_⟩
        rw [hl2, bar_eq hB hO (by omega)]
        intro h4
        have := (n_inj (by omega) (by omega)).mp h4
        omega
      rw [cite_f hne]
      exact ih (by omega) e he h
/-- what the class finds as the state ahead of a chord at place p in bar b -/
theorem st_ahead (hB : Bd S) (hO : Ord S o) {z : Nat → Int32} {p s b : Nat} (hp : p ≤ S.1) (hb : b < 20) (hle : ∀ r, r < p → bar S o r ≤ b) : (if LB S o p s = nI b then CS S o z p s else kA S b s) = STT S o b p s := by
  by_cases h : LB S o p s = nI b
  · rw [if_pos h]; exact CS_eq hB hO s p hp b hb h
  · rw [if_neg h]
    exact (STT_key (fun r hr hc => h (LB_of hB hO hp hle ⟨r, hr, hc.2, hc.1⟩))).symm
/-- and as that at the end of the bar before -/
theorem st_before (hB : Bd S) (hO : Ord S o) {z z2 : Nat → Int32} {p s b : Nat} (hp : p ≤ S.1) (hb : b + 1 < 20) (hle : ∀ r, r < p → bar S o r ≤ b + 1) (hge : ∀ r, p ≤ r → r < S.1 → b < bar S o r) : (if LB S o p s = nI b then CS S o z p s else if LB S o p s = nI (b + 1) ∧ EB S o p s = nI b then ES S o z z2 p s else kA S b s) = STT S o b S.1 s := by
  rw [STT_end hB hO hp hge]
  by_cases h : LB S o p s = nI b
  · rw [if_pos h]; exact CS_eq hB hO s p hp b (by omega) h
  · rw [if_neg h]
    by_cases h2 : LB S o p s = nI (b + 1) ∧ EB S o p s = nI b
    · rw [if_pos h2]; exact ES_eq hB hO s p hp b (by omega) h2.2
    · rw [if_neg h2]
      refine (STT_key (fun r hr hc => ?_)).symm
      obtain ⟨i1, i2⟩ := EB_inv hB hO s p hp
      rcases i1 r hr hc.2 with h3 | ⟨e, h3, h4, h5⟩
      · rw [hc.1] at h3; exact h h3
      · obtain ⟨l, l1, l2, l3⟩ := i2 e h5 h3
        have hl : l ≤ b + 1 := by
          rcases LB_last (S := S) (o := o) p s with ⟨g1, -⟩ | ⟨r', g1, g2, g3, -⟩
          · rw [g1] at l2; exact absurd l2.symm (n_ne1 (by omega))
          · have hrl := bar_lt hB hO (show r' < S.1 by omega)
            rw [g3, bar_eq hB hO (by omega)] at l2
            have := (n_inj (by omega) (by omega)).mp l2
            have := hle r' g1
            omega
        rw [hc.1] at h4
        exact h2 ⟨by rw [l2, show l = b + 1 by omega], by rw [h3, show e = b by omega]⟩
theorem CB_iff (hB : Bd S) (hO : Ord S o) {i s b : Nat} (hi : i ≤ S.1) (hb : b < 20) (hle : ∀ r, r < i → bar S o r ≤ b) : CB S o i s = nI b ↔ ∃ r, r < i ∧ bar S o r = b ∧ sea S o r = s ∧ crt S o r := by
  induction i with
  | zero =>
    constructor
    · intro h; exact absurd h.symm (n_ne1 (by omega))
    · rintro ⟨r, h, -⟩; exact absurd h (Nat.not_lt_zero r)
  | succ i ih =>
    have hbl := bar_lt hB hO (show i < S.1 by omega)
    have ih := ih (by omega) (fun r hr => hle r (by omega))
    unfold CB
    by_cases hc : sea S o i = s ∧ crt S o i
    · rw [cite_t hc, bar_eq hB hO (by omega)]
      constructor
      · intro h
        exact ⟨i, Nat.lt_succ_self i, (n_inj (by omega) (by omega)).mp h, hc⟩
      · rintro ⟨r, h1, h2, h3⟩
        have := bar_mono hB hO (show r ≤ i by omega) (show i < S.1 by omega)
        have := hle i (Nat.lt_succ_self i)
        rw [show bar S o i = b by omega]
    · rw [cite_f hc, ih]
      constructor
      · rintro ⟨r, h1, h2⟩; exact ⟨r, by omega, h2⟩
      · rintro ⟨r, h1, h2, h3, h4⟩
        rcases Nat.lt_or_ge r i with h5 | h5
        · exact ⟨r, h5, h2, h3, h4⟩
        · rw [show r = i by omega] at h3 h4; exact absurd ⟨h3, h4⟩ hc
/-- a note shown a courtesy: it may be, and none was in its seat and bar -/
theorem crt_iff (i : Nat) : crt S o i ↔ bas S o i ∧ ¬ ∃ r, r < i ∧ bar S o r = bar S o i ∧ sea S o r = sea S o i ∧ crt S o r := by
  constructor
  · rintro ⟨h1, h2⟩
    exact ⟨h1, fun ⟨r, a, b, c, e⟩ => h2 r a b c e.1⟩
  · rintro ⟨h1, h2⟩
    refine ⟨h1, ?_⟩
    intro r
    induction r using Nat.strongRecOn with
    | ind r ih =>
      intro a b c hb
      exact h2 ⟨r, a, b, c, hb, fun r' h3 h4 h5 => ih r' h3 (by omega) (h4.trans b) (h5.trans c)⟩
theorem cs_at {i p q : Nat} (hE : EndIs S o p q) (hbeg : Beg S o p) (h1 : p ≤ i) (h2 : i < q) : csF S o i = p := by
  induction i with
  | zero => show 0 = p; omega
  | succ i ih =>
    unfold csF
    by_cases hp : p = i + 1
    · rw [cite_t (by rw [← hp]; exact hbeg), hp]
    · have hnb : ¬ Beg S o (i + 1) := by
        rintro (h | h)
        · omega
        · rw [Nat.add_sub_cancel] at h
          exact h (by rw [hE.2.2.1 i (by omega) (by omega), hE.2.2.1 (i + 1) (by omega) h2])
      rw [cite_f hnb]
      exact ih (by omega) (by omega)
end
