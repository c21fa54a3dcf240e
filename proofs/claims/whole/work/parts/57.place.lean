/-! the reference: columns -/
def Cc (i c : Nat) (t v : Nat → Nat) : Prop := Cn i t v ∨ (Ex i t v ∧ v i < c)
def BR (S : Sc) (o z : Nat → Nat) (m : Nat) (C : (Nat → Nat) → Prop) (w : Mem) (x : Int32) : Prop := (x = -1 ∧ ∀ v, VF (shN S o z) m v → ¬ C v) ∨ ∃ col, x = nI (sWd (wN S o z) col m 6) ∧ VF (shN S o z) m col ∧ (∀ i, i < m → w 66 i = nI (col i)) ∧ C col ∧ ∀ v, VF (shN S o z) m v → C v → sWd (wN S o z) col m 6 ≤ sWd (wN S o z) v m 6 ∧ (sWd (wN S o z) v m 6 = sWd (wN S o z) col m 6 → ¬ lxL m v col)
section
variable {G : Gp} {d : Nat} {S : Sc} {o : Nat → Nat} {K KT : Nat → Int32} {μ : Mem} {Q : Int32 → Mem → Prop}
theorem ZR.congr {z : Nat → Nat} {m : Nat} (h : ZR S o K KT z m μ) {u : Mem} (hu : ∀ c, c ≠ 65 → c ≠ 66 → u c = μ c) : ZR S o K KT z m u := by
  obtain ⟨a, b, c, e, f⟩ := h
  refine ⟨a.congr (by rw [hu 42 (by omega) (by omega)]) (fun c _ _ => hu c (by omega) (by omega)), b.congr (fun c _ _ => hu c (by omega) (by omega)), c.congr (fun c _ _ => hu c (by omega) (by omega)), e, ?_⟩
  rw [hu 64 (by omega) (by omega)]; exact f
theorem BR.congr {z : Nat → Nat} {m : Nat} {C C' : (Nat → Nat) → Prop} {w w' : Mem} {x : Int32} (h : BR S o z m C w x) (hC : ∀ v, VF (shN S o z) m v → (C v ↔ C' v)) (h66 : w' 66 = w 66) : BR S o z m C' w' x := by
  rcases h with ⟨h1, h2⟩ | ⟨col, h1, h2, h3, h4, h5⟩
  · exact Or.inl ⟨h1, fun v hv hc => h2 v hv ((hC v hv).mpr hc)⟩
  · exact Or.inr ⟨col, h1, h2, by rw [h66]; exact h3, (hC col h2).mp h4, fun v hv hc => h5 v hv ((hC v hv).mpr hc)⟩
theorem Cc_s {i c : Nat} {t v : Nat → Nat} : Cc i (c + 1) t v ↔ Cc i c t v ∨ (Ex i t v ∧ v i = c) := by
  unfold Cc
  constructor
  · rintro (h | ⟨h1, h2⟩)
    · exact Or.inl (Or.inl h)
    · rcases Nat.lt_or_ge (v i) c with h3 | h3
      · exact Or.inl (Or.inr ⟨h1, h3⟩)
      · exact Or.inr ⟨h1, by omega⟩
  · rintro ((h | ⟨h1, h2⟩) | ⟨h1, h2⟩)
    · exact Or.inl h
    · exact Or.inr ⟨h1, by omega⟩
    · exact Or.inr ⟨h1, by omega⟩
def stT (t : Nat → Nat) (i c : Nat) : Nat → Nat := fun j => if j = i then c else t j
theorem stT_lt {t : Nat → Nat} {i c j : Nat} (h : j < i) : stT t i c j = t j := by unfold stT; rw [if_neg (by omega)]
theorem stT_at {t : Nat → Nat} {i c : Nat} : stT t i c i = c := by unfold stT; rw [if_pos rfl]
theorem Ex_st {t v : Nat → Nat} {i c : Nat} : Ex (i + 1) (stT t i c) v ↔ Ex i t v ∧ v i = c := by
  constructor
  · intro h
    exact ⟨fun j hj => by rw [h j (by omega), stT_lt hj], by rw [h i (by omega), stT_at]⟩
  · rintro ⟨h1, h2⟩ j hj
    rcases Nat.lt_or_ge j i with h3 | h3
    · rw [stT_lt h3]; exact h1 j h3
    · rw [show j = i by omega, stT_at]; exact h2
theorem Cn_st {t v : Nat → Nat} {i c : Nat} : Cn (i + 1) (stT t i c) v ↔ Cc i c t v := by
  constructor
  · rintro ⟨k, h1, h2, h3⟩
    rcases Nat.lt_or_ge k i with h4 | h4
    · rw [stT_lt h4] at h3
      exact Or.inl ⟨k, h4, fun j hj => by rw [h2 j hj, stT_lt (by omega)], h3⟩
    · have hk : k = i := by omega
      subst hk
      rw [stT_at] at h3
      exact Or.inr ⟨fun j hj => by rw [h2 j hj, stT_lt hj], h3⟩
  · rintro (⟨k, h1, h2, h3⟩ | ⟨h1, h2⟩)
    · exact ⟨k, by omega, fun j hj => by rw [h2 j hj, stT_lt (by omega)], by rw [stT_lt h1]; exact h3⟩
    · exact ⟨i, by omega, fun j hj => by rw [h1 j hj, stT_lt hj], by rw [stT_at]; exact h2⟩
theorem Cc_lx {i c m : Nat} {t v col : Nat → Nat} (hi : i < m) (hc : Cc i c t col) (h1 : Ex i t v) (h2 : v i = c) : lxL m col v := by
  rcases hc with ⟨k, k1, k2, k3⟩ | ⟨k1, k2⟩
  · exact ⟨k, by omega, fun j hj => by rw [k2 j hj, h1 j (by omega)], by rw [h1 k k1]; exact k3⟩
  · exact ⟨i, hi, fun j hj => by rw [k1 j hj, h1 j hj], by omega⟩
theorem Fl_congr {m : Nat} {a b : Nat → Nat} (h : ∀ i, i < m → a i = b i) (hf : Fl m a) : Fl m b := by
  intro i hi c hc
  rw [← h i hi] at hc
  obtain ⟨j, j1, j2⟩ := hf i hi c hc
  exact ⟨j, j1, by rw [← h j j1]; exact j2⟩
theorem md_search {z : Nat → Nat} {m : Nat} (hm : m ≤ 6) (hZ : ZR S o K KT z m μ) : ∀ k i, i + k = m → 0 < k → ∀ t : Nat → Nat, (∀ j, j < i → t j < 6) → (∀ a b, a < b → b < i → t a = t b → shN S o z a b) →
    (∀ (w : Mem) (x : Int32), (∀ c, c ≠ 65 → c ≠ 66 → w c = μ c) → (∀ j, j < i → w 65 j = nI (t j)) → BR S o z m (Cc i 6 t) w x → AW G (d + 4) M_MD_place Q 117 [some (.inr 42), none, none, some (.inl (nI m)), some (.inl x), some (.inl (nI i + -1)), none, none] [] w) →
    ∀ n c, c + n = 6 → ∀ (w : Mem) (x : Int32), (∀ c, c ≠ 65 → c ≠ 66 → w c = μ c) → (∀ j, j < i → w 65 j = nI (t j)) → w 65 i = nI c + -1 → BR S o z m (Cc i c t) w x → AW G (d + 4) M_MD_place Q 117 [some (.inr 42), none, none, some (.inl (nI m)), some (.inl x), some (.inl (nI i)), none, none] [] w := by
  intro k
  induction k with
  | zero => intro i _ h; exact absurd h (Nat.lt_irrefl 0)
  | succ k ihk =>
    intro i hi _ t ht hv after n
    induction n with
    | zero =>
      intro c hc w x w1 w2 w3 w4
      have hc : c = 6 := by omega
      subst hc
      refine vc_MD_place_117 ⟨fun h => absurd h ?_, fun _ => ⟨fun h => absurd h ?_, fun _ => ⟨n_in (by omega) (by omega), n_in (by omega) (by omega), fun u1 hu1 => ⟨n_in (by omega) (by omega), ?_⟩⟩⟩⟩
      · rw [i_le, n_i (by omega), Int32.toInt_zero]; omega
      · rw [i_lt, n_i (by omega), Int32.toInt_zero]; omega
      · rw [n_ix (by omega), w3] at hu1
        have e1 : u1 65 i = 6 := by rw [hu1, up_at, if_pos ⟨rfl, rfl⟩]; rfl
        rw [n_ix (by omega), e1]
        refine ⟨fun h => absurd h (by decide), fun _ => after u1 x (fun c a b => ?_) (fun j hj => ?_) (w4.congr (fun v _ => Iff.rfl) ?_)⟩
        · rw [← w1 c a b, hu1]; funext j; rw [up_at, if_neg (by omega)]
        · rw [hu1, up_at, if_neg (by omega)]; exact w2 j hj
        · rw [hu1]; funext j; rw [up_at, if_neg (by omega)]
    | succ n ihn =>
      intro c hc w x w1 w2 w3 w4
      have hc6 : c < 6 := by omega
      have hB := hZ.1.1
      have hw31 : ∀ j, j < m → wN S o z j ≤ 31 := fun j hj => (wN_eq (o := o) hB (hZ.2.2.2.2 j hj).2.1).2.1
      have hsb : ∀ a b, b ≤ m → sWd (wN S o z) a b 6 ≤ 186 := fun a b hb => by have := sWd_bd (w := wN S o z) (col := a) (B := 31) (n := b) (fun j hj => hw31 j (by omega)) 6; omega
      refine vc_MD_place_117 ⟨fun h => absurd h ?_, fun _ => ⟨fun h => absurd h ?_, fun _ => ⟨n_in (by omega) (by omega), n_in (by omega) (by omega), fun u1 hu1 => ⟨n_in (by omega) (by omega), ?_⟩⟩⟩⟩
      · rw [i_le, n_i (by omega), Int32.toInt_zero]; omega
      · rw [i_lt, n_i (by omega), Int32.toInt_zero]; omega
      rw [n_ix (by omega), w3, Int32.add_assoc, show (-1 : Int32) + 1 = 0 from rfl, Int32.add_zero] at hu1
      have e1 : u1 65 i = nI c := by rw [hu1, up_at, if_pos ⟨rfl, rfl⟩]
      have f1 : ∀ c, c ≠ 65 → u1 c = w c := fun c a => by rw [hu1]; funext j; rw [up_at, if_neg (by omega)]
      have f2 : ∀ j, j < i → u1 65 j = nI (t j) := fun j hj => by rw [hu1, up_at, if_neg (by omega)]; exact w2 j hj
      have fr1 : ∀ c, c ≠ 65 → c ≠ 66 → u1 c = μ c := fun c a b => by rw [f1 c a]; exact w1 c a b
      have hZ1 : ZR S o K KT z m u1 := hZ.congr fr1
      have t1 : ∀ j, j ≤ i → u1 65 j = nI (stT t i c j) ∧ stT t i c j < 6 := fun j hj => by
        rcases Nat.lt_or_ge j i with h | h
        · rw [stT_lt h]; exact ⟨f2 j h, ht j h⟩
        · rw [show j = i by omega, stT_at]; exact ⟨e1, hc6⟩
      have br1 : BR S o z m (Cc i c t) u1 x := w4.congr (fun v _ => Iff.rfl) (f1 66 (by omega))
      -- the next column
      have nxt : ∀ (u : Mem) (y : Int32), (∀ c, c ≠ 65 → c ≠ 66 → u c = μ c) → (∀ j, j ≤ i → u 65 j = u1 65 j) → BR S o z m (Cc i (c + 1) t) u y → AW G (d + 4) M_MD_place Q 117 [some (.inr 42), none, none, some (.inl (nI m)), some (.inl y), some (.inl (nI i)), none, none] [] u := fun u y a b e => ihn (c + 1) (by omega) u y a (fun j hj => by rw [b j (by omega)]; exact f2 j hj) (by rw [b i (Nat.le_refl i), e1, n_m1]) e
      have skip : (∀ v, VF (shN S o z) m v → Ex i t v → v i = c → False) → BR S o z m (Cc i (c + 1) t) u1 x := fun h => br1.congr (fun v hv => ⟨fun a => Cc_s.mpr (Or.inl a), fun a => (Cc_s.mp a).elim id (fun b => (h v hv b.1 b.2).elim)⟩) rfl
      have cst : (if 6 ≤ i + 1 then i + 1 else 6) = 6 := by split <;> omega
      have cst' : (if 6 ≤ m then m else 6) = 6 := by split <;> omega
      rw [n_ix (show i < 2147483648 by omega), e1]
      refine ⟨fun _ => md_fits hZ1 (t := stT t i c) (by omega) (fun j hj => ⟨(t1 j hj).1, by have := (t1 j hj).2; omega⟩) ?_, fun h => absurd ((n_le (b := 5) (by omega) (by omega)).mpr (by omega)) h⟩
      rw [bc_0, Classical.not_not]
      refine ⟨fun hf => nxt u1 x fr1 (fun _ _ => rfl) (skip (fun v hv h1 h2 => hf (fun j hj he => ?_))), fun hf => ?_⟩
      · rw [stT_at, stT_lt hj] at he
        exact hv.1.2 j i hj (by omega) (by rw [h1 j hj, h2]; exact he)
      have hv' : ∀ a b, a < b → b < i + 1 → stT t i c a = stT t i c b → shN S o z a b := fun a b h1 h2 h3 => by
        rcases Nat.lt_or_ge b i with h4 | h4
        · rw [stT_lt (by omega), stT_lt h4] at h3; exact hv a b h1 h4 h3
        · rw [show b = i by omega] at h3 h1 ⊢; exact hf a h1 h3
      -- deeper, or a whole way
      have a185 : (x = -1 ∨ ∃ s, x = nI s ∧ s ≤ 186 ∧ sWd (wN S o z) (stT t i c) (i + 1) 6 < s) → AW G (d + 4) M_MD_place Q 185 [some (.inr 42), none, none, some (.inl (nI m)), some (.inl x), some (.inl (nI i)), none, none] [] u1 := by
        intro hx
        refine vc_MD_place_185 ?_
        obtain ⟨m', hm'⟩ : ∃ m', m = m' + 1 := ⟨m - 1, by omega⟩
        rw [show nI m - 1 = nI m' by rw [hm', n_s1], n_le (by omega) (by omega)]
        refine ⟨fun hl => ?_, fun hl => ?_⟩
        · have him : i + 1 = m := by omega
          have tm : ∀ j, j < m → u1 65 j = nI (stT t i c j) ∧ stT t i c j < 6 := fun j hj => t1 j (by omega)
          refine md_isFull hm tm ?_
          rw [bc_0, Classical.not_not]
          have same : ∀ v, Ex i t v → v i = c → ∀ j, j < m → v j = stT t i c j := fun v h1 h2 j hj => (Ex_st.mpr ⟨h1, h2⟩) j (by omega)
          refine ⟨fun hfl => nxt u1 x fr1 (fun _ _ => rfl) (skip (fun v hv2 h1 h2 => hfl (Fl_congr (same v h1 h2) hv2.2))), fun hfl => ?_⟩
          have hVF : VF (shN S o z) m (stT t i c) := ⟨⟨fun j hj => (tm j hj).2, fun a b h1 h2 => hv' a b h1 (by omega)⟩, hfl⟩
          refine md_widths_c hZ1 (t := stT t i c) (Nat.le_refl m) (fun j hj => ⟨(tm j hj).1, by have := (tm j hj).2; omega⟩) ?_
          rw [cst']
          -- the new best
          have cp : ∀ n k, k + n = m → ∀ w' : Mem, (∀ c, c ≠ 66 → w' c = u1 c) → (∀ j, j < k → w' 66 j = nI (stT t i c j)) → AW G (d + 4) M_MD_place Q 245 [some (.inr 42), none, none, some (.inl (nI m)), some (.inl (nI (sWd (wN S o z) (stT t i c) m 6))), some (.inl (nI i)), none, some (.inl (nI k))] [] w' := by
            intro n
            induction n with
            | zero =>
              intro k hk w' c1 c2
              have hk : k = m := by omega
              subst hk
              refine vc_MD_place_245 ⟨fun _ => nxt w' _ (fun c a b => by rw [c1 c b]; exact fr1 c a b) (fun j _ => by rw [c1 65 (by omega)]) (Or.inr ⟨stT t i c, rfl, hVF, c2, Cc_s.mpr (Or.inr ⟨fun j hj => stT_lt hj, stT_at⟩), fun v hv2 hcv => ?_⟩), fun h => absurd ((n_le (by omega) (by omega)).mpr (Nat.le_refl _)) h⟩
              rcases Cc_s.mp hcv with h1 | ⟨h1, h2⟩
              · have hlt : sWd (wN S o z) (stT t i c) k 6 < sWd (wN S o z) v k 6 := by
                  rcases br1 with ⟨_, b2⟩ | ⟨col, b1, b2, b3, b4, b5⟩
                  · exact absurd h1 (b2 v hv2)
                  · have := (b5 v hv2 h1).1
                    have hb := hsb col k (Nat.le_refl _)
                    rcases hx with h3 | ⟨s, h3, h4, h5⟩
                    · rw [b1] at h3; exact absurd h3 (n_ne1 (by omega))
                    · rw [b1] at h3
                      have := (n_inj (by omega) (by omega)).mp h3
                      rw [him] at h5
                      omega
                exact ⟨by omega, fun h => by omega⟩
              · have e : sWd (wN S o z) v k 6 = sWd (wN S o z) (stT t i c) k 6 := sWd_congr (same v h1 h2) 6
                exact ⟨by omega, fun _ ⟨a, a1, a2, a3⟩ => by rw [same v h1 h2 a a1] at a3; omega⟩
            | succ n ihc =>
              intro k hk w' c1 c2
              have ek : vp_in (nI k) 60 := n_in (by omega) (by omega)
              refine vc_MD_place_245 ⟨fun h => absurd ((n_le (by omega) (by omega)).mp h) (by omega), fun _ => ⟨ek, ek, fun u3 hu3 => ?_⟩⟩
              rw [n_ix (by omega), c1 65 (by omega), (tm k (by omega)).1] at hu3
              rw [n_p1]
              refine ihc (k + 1) (by omega) u3 (fun c a => ?_) (fun j hj => ?_)
              · rw [← c1 c a, hu3]; funext j; rw [up_at, if_neg (by omega)]
              · rw [hu3, up_at]
                by_cases h : j = k
                · rw [if_pos ⟨rfl, h⟩, h]
                · rw [if_neg (by omega)]; exact c2 j (by omega)
          have go := cp m 0 (by omega) u1 (fun c _ => rfl) (fun j hj => absurd hj (Nat.not_lt_zero j))
          refine ⟨fun _ => go, fun h => ⟨fun h2 => ?_, fun _ => go⟩⟩
          exfalso
          rcases hx with h3 | ⟨s, h3, h4, h5⟩
          · rw [h3] at h; exact h (by decide)
          · have := hsb (stT t i c) m (Nat.le_refl _)
            rw [h3, n_le (by omega) (by omega)] at h2
            rw [him] at h5; omega
        · refine ⟨by rw [n_p1]; exact n_in (by omega) (by omega), fun u5 hu5 => ?_⟩
          rw [n_p1, n_ix (by omega)] at hu5
          rw [n_p1]
          have g1 : ∀ c, c ≠ 65 → u5 c = u1 c := fun c a => by rw [hu5]; funext j; rw [up_at, if_neg (by omega)]
          refine ihk (i + 1) (by omega) (by omega) (stT t i c) (fun j hj => (t1 j (by omega)).2) hv' (fun w' y a1 a2 a3 => ?_) 6 0 (by omega) u5 x (fun c a b => by rw [g1 c a]; exact fr1 c a b) (fun j hj => by rw [hu5, up_at, if_neg (by omega)]; exact (t1 j (by omega)).1) (by rw [hu5, up_at, if_pos ⟨rfl, rfl⟩]; rfl) (br1.congr (fun v _ => ?_) (g1 66 (by omega)))
          · rw [n_m1]
            refine nxt w' y a1 (fun j hj => by rw [a2 j (by omega), (t1 j hj).1]) (a3.congr (fun v hv2 => ?_) rfl)
            rw [Cc_s (i := i) (c := c) (t := t)]
            constructor
            · rintro (h | ⟨h, _⟩)
              · exact Or.inl (Cn_st.mp h)
              · exact Or.inr (Ex_st.mp h)
            · rintro (h | h)
              · exact Or.inl (Cn_st.mpr h)
              · exact Or.inr ⟨Ex_st.mpr h, hv2.1.1 (i + 1) (by omega)⟩
          · constructor
            · intro h; exact Or.inl (Cn_st.mpr h)
            · rintro (h | ⟨_, h⟩)
              · exact Cn_st.mp h
              · exact absurd h (Nat.not_lt_zero _)
      have m1 : (-1 : Int32) < 0 := by decide
      rcases hbr : br1 with ⟨b1, b2⟩ | ⟨col, b1, b2, b3, b4, b5⟩
      · exact ⟨fun _ => a185 (Or.inl b1), fun h => absurd (by rw [b1]; exact m1) h⟩
      · have hb := hsb col m (Nat.le_refl _)
        refine ⟨fun h => absurd h ?_, fun _ => ?_⟩
        · rw [b1, i_lt, n_i (by omega), Int32.toInt_zero]; omega
        rw [n_p1]
        refine md_widths_c hZ1 (t := stT t i c) (n := i + 1) (by omega) (fun j hj => ⟨(t1 j (by omega)).1, by have := (t1 j (by omega)).2; omega⟩) ?_
        have hb2 := hsb (stT t i c) (i + 1) (by omega)
        rw [cst, show (x ≤ nI (sWd (wN S o z) (stT t i c) (i + 1) 6)) ↔ sWd (wN S o z) col m 6 ≤ sWd (wN S o z) (stT t i c) (i + 1) 6 by rw [b1]; exact n_le (by omega) (by omega)]
        refine ⟨fun hle => nxt u1 x fr1 (fun _ _ => rfl) (Or.inr ⟨col, b1, b2, b3, Cc_s.mpr (Or.inl b4), fun v hv2 hcv => ?_⟩), fun hle => a185 (Or.inr ⟨_, b1, hb, by omega⟩)⟩
        rcases Cc_s.mp hcv with h1 | ⟨h1, h2⟩
        · exact b5 v hv2 h1
        · have e : sWd (wN S o z) v (i + 1) 6 = sWd (wN S o z) (stT t i c) (i + 1) 6 := sWd_congr (Ex_st.mpr ⟨h1, h2⟩) 6
          have e2 := sWd_mono (w := wN S o z) (col := v) (n := i + 1) (C := 6) (m - (i + 1))
          rw [show i + 1 + (m - (i + 1)) = m by omega] at e2
          exact ⟨by omega, fun _ h3 => lx_asym h3 (Cc_lx (by omega) b4 h1 h2)⟩
theorem md_greedy {z : Nat → Nat} {m : Nat} (hZ : ZR S o K KT z m μ) (hq : ∀ (u : Mem) col, (∀ c, c ≠ 65 → c ≠ 66 → u c = μ c) → GrI (shN S o z) m col → (∀ i, i < m → u 66 i = nI (col i)) → Q 0 u) : ∀ n k, k + n = m → ∀ (w : Mem) t, (∀ c, c ≠ 65 → c ≠ 66 → w c = μ c) → GrI (shN S o z) k t → (∀ i, i < k → w 65 i = nI (t i) ∧ w 66 i = nI (t i)) → AW G (d + 4) M_MD_place Q 42 [some (.inr 42), none, none, some (.inl (nI m)), some (.inl (nI k)), none, none, none] [] w := by
  have hm := hZ.2.2.2.1
  intro n
  induction n with
  | zero =>
    intro k hk w t w1 w2 w3
    have hk : k = m := by omega
    subst hk
    exact vc_MD_place_42 ⟨fun _ => hq w t w1 w2 (fun i hi => (w3 i hi).2), fun h => absurd ((n_le (by omega) (by omega)).mpr (Nat.le_refl _)) h⟩
  | succ n ih =>
    intro k hk w t w1 w2 w3
    have ek : vp_in (nI k) 60 := n_in (by omega) (by omega)
    have hle := w2.le
    have inn : ∀ r c, c + r = k → ∀ v : Mem, (∀ c, c ≠ 65 → c ≠ 66 → v c = μ c) → (∀ i, i < k → v 65 i = nI (t i) ∧ v 66 i = nI (t i)) → v 65 k = nI c → (∀ c', c' < c → ∃ j, j < k ∧ t j = c' ∧ ¬ shN S o z j k) → AW G (d + 4) M_MD_place Q 56 [some (.inr 42), none, none, some (.inl (nI m)), some (.inl (nI k)), none, none, none] [] v := by
      intro r
      have ok : ∀ c, c ≤ k → ∀ v : Mem, (∀ c, c ≠ 65 → c ≠ 66 → v c = μ c) → (∀ i, i < k → v 65 i = nI (t i) ∧ v 66 i = nI (t i)) → v 65 k = nI c → (∀ c', c' < c → ∃ j, j < k ∧ t j = c' ∧ ¬ shN S o z j k) → (∀ i, i < k → t i = c → shN S o z i k) → ∀ u3 : Mem, u3 = up v 66 k (v 65 k) → AW G (d + 4) M_MD_place Q 42 [some (.inr 42), none, none, some (.inl (nI m)), some (.inl (nI k + 1)), none, none, none] [] u3 := by
        intro c hck v v1 v2 v3 v4 hf u3 hu3
        rw [v3] at hu3
        rw [n_p1]
        refine ih (k + 1) (by omega) u3 (stT t k c) (fun c a b => ?_) (fun i hi => ?_) (fun i hi => ?_)
        · rw [← v1 c a b, hu3]; funext j; rw [up_at, if_neg (by omega)]
        · rcases Nat.lt_or_ge i k with h | h
          · obtain ⟨g1, g2⟩ := w2 i h
            refine ⟨fun j hj => by rw [stT_lt h, stT_lt (by omega)]; exact g1 j hj, fun c' hc' => ?_⟩
            rw [stT_lt h] at hc'
            obtain ⟨j, j1, j2⟩ := g2 c' hc'
            exact ⟨j, j1, by rw [stT_lt (by omega)]; exact j2⟩
          · have h : i = k := by omega
            subst h
            rw [stT_at]
            refine ⟨fun j hj => by rw [stT_lt hj]; exact hf j hj, fun c' hc' => ?_⟩
            obtain ⟨j, j1, j2⟩ := v4 c' hc'
            exact ⟨j, j1, by rw [stT_lt j1]; exact j2⟩
        · rw [hu3, up_at, up_at]
          rcases Nat.lt_or_ge i k with h | h
          · rw [if_neg (by omega), if_neg (by omega), stT_lt h]; exact v2 i h
          · rw [show i = k by omega, if_neg (by omega), if_pos ⟨rfl, rfl⟩, stT_at]; exact ⟨v3, rfl⟩
      have tt : ∀ c, c ≤ k → ∀ v : Mem, (∀ i, i < k → v 65 i = nI (t i) ∧ v 66 i = nI (t i)) → v 65 k = nI c → ∀ i, i ≤ k → v 65 i = nI (stT t k c i) ∧ stT t k c i < 60 := fun c hc v v2 v3 i hi => by
        rcases Nat.lt_or_ge i k with h | h
        · rw [stT_lt h]; exact ⟨(v2 i h).1, by have := hle i h; omega⟩
        · rw [show i = k by omega, stT_at]; exact ⟨v3, by omega⟩
      induction r with
      | zero =>
        intro c hc v v1 v2 v3 v4
        have hf : ∀ i, i < k → t i = c → shN S o z i k := fun i hi he => absurd (hle i hi) (by omega)
        refine vc_MD_place_56 (md_fits (hZ.congr v1) (by omega) (tt c (by omega) v v2 v3) ?_)
        rw [bc_0, Classical.not_not]
        refine ⟨fun _ => ⟨ek, ek, ?_⟩, fun h => absurd (fun i hi he => ?_) h⟩
        · rw [n_ix (by omega)]; exact ok c (by omega) v v1 v2 v3 v4 hf
        · rw [stT_at, stT_lt hi] at he; exact hf i hi he
      | succ r ihr =>
        intro c hc v v1 v2 v3 v4
        refine vc_MD_place_56 (md_fits (hZ.congr v1) (by omega) (tt c (by omega) v v2 v3) ?_)
        rw [bc_0, Classical.not_not]
        refine ⟨fun hf => ⟨ek, ek, ?_⟩, fun hf => ⟨ek, ek, fun u4 hu4 => ?_⟩⟩
        · rw [n_ix (by omega)]
          exact ok c (by omega) v v1 v2 v3 v4 (fun i hi he => hf i hi (by rw [stT_at, stT_lt hi]; exact he))
        · rw [n_ix (by omega), v3, n_p1] at hu4
          refine ihr (c + 1) (by omega) u4 (fun c a b => ?_) (fun i hi => ?_) ?_ (fun c' hc' => ?_)
          · rw [← v1 c a b, hu4]; funext j; rw [up_at, if_neg (by omega)]
          · rw [hu4, up_at, up_at, if_neg (by omega), if_neg (by omega)]; exact v2 i hi
          · rw [hu4, up_at, if_pos ⟨rfl, rfl⟩]
          · rcases Nat.lt_or_ge c' c with h | h
            · exact v4 c' h
            · have h : c' = c := by omega
              subst h
              refine Classical.byContradiction (fun hno => hf (fun i hi he => Classical.byContradiction (fun hs => hno ⟨i, hi, ?_, hs⟩)))
              rw [stT_at, stT_lt hi] at he; exact he
    refine vc_MD_place_42 ⟨fun h => absurd ((n_le (by omega) (by omega)).mp h) (by omega), fun _ => ⟨ek, fun u1 hu1 => ?_⟩⟩
    rw [n_ix (by omega)] at hu1
    refine inn k 0 (by omega) u1 (fun c a b => ?_) (fun i hi => ?_) ?_ (fun c' hc' => absurd hc' (Nat.not_lt_zero c'))
    · rw [← w1 c a b, hu1]; funext j; rw [up_at, if_neg (by omega)]
    · rw [hu1, up_at, up_at, if_neg (by omega), if_neg (by omega)]; exact w3 i hi
    · rw [hu1, up_at, if_pos ⟨rfl, rfl⟩]; rfl
end
