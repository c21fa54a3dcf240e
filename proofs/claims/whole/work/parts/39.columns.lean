/-! class Columns -/
def tR (S : Sc) (a b : Nat) : Prop := (S.2 0 b).toInt < (S.2 0 a).toInt ∨ ((S.2 0 a).toInt = (S.2 0 b).toInt ∧ a < b)
theorem tR_irr {S : Sc} (x : Nat) : ¬ tR S x x := by unfold tR; omega
theorem tR_tr {S : Sc} (x y z : Nat) (h1 : tR S x y) (h2 : tR S y z) : tR S x z := by unfold tR at *; omega
/-- the notes of the chord at place p that have signs -/
def sgP (S : Sc) (o : Nat → Nat) (p q x : Nat) : Prop := ∃ r, p ≤ r ∧ r < q ∧ o r = x ∧ KJ S o x ≠ 0
def zzF (f : Nat → Nat) (m i : Nat) : Nat := if i % 2 = 0 then f (i / 2) else f (m - 1 - i / 2)
def GrI (sh : Nat → Nat → Prop) (m : Nat) (col : Nat → Nat) : Prop := ∀ i, i < m → (∀ j, j < i → col j = col i → sh j i) ∧ ∀ c, c < col i → ∃ j, j < i ∧ col j = c ∧ ¬ sh j i
theorem GrI.le {sh : Nat → Nat → Prop} {m : Nat} {col : Nat → Nat} (h : GrI sh m col) : ∀ i, i < m → col i ≤ i := by
  intro i
  induction i using Nat.strongRecOn with
  | ind i ih =>
    intro hi
    rcases Nat.lt_or_ge i (col i) with h1 | h1
    · obtain ⟨j, h2, h3, -⟩ := (h i hi).2 i h1
      have := ih j h2 (by omega)
      omega
    · exact h1
theorem GrI.uniq {sh : Nat → Nat → Prop} {m : Nat} {a b : Nat → Nat} (ha : GrI sh m a) (hb : GrI sh m b) : ∀ i, i < m → a i = b i := by
  intro i
  induction i using Nat.strongRecOn with
  | ind i ih =>
    intro hi
    rcases Nat.lt_trichotomy (a i) (b i) with h | h | h
    · obtain ⟨j, h2, h3, h4⟩ := (hb i hi).2 (a i) h
      exact absurd ((ha i hi).1 j h2 ((ih j h2 (by omega)).trans h3)) h4
    · exact h
    · obtain ⟨j, h2, h3, h4⟩ := (ha i hi).2 (b i) h
      exact absurd ((hb i hi).1 j h2 ((ih j h2 (by omega)).symm.trans h3)) h4
def CoX (S : Sc) (o : Nat → Nat) (μ : Mem) : Prop := NoI S o μ ∧ FnJ S o μ
theorem CoX.congr {S : Sc} {o : Nat → Nat} {μ u : Mem} (h : CoX S o μ) (hu : ∀ c, c < 27 → u c = μ c) : CoX S o u :=
  ⟨h.1.congr (fun c _ _ => hu c (by omega)), fun j hj => by rw [hu 25 (by omega), hu 26 (by omega)]; exact h.2 j hj⟩
noncomputable def wN (S : Sc) (o z : Nat → Nat) (i : Nat) : Nat := ix (wdJ S o (z i))
def shN (S : Sc) (o z : Nat → Nat) (i j : Nat) : Prop := shJ S o (z i) (z j)
section
variable {G : Gp} {d : Nat} {S : Sc} {o : Nat → Nat} {μ : Mem} {Q : Int32 → Mem → Prop}
theorem sp_collect (hX : CoX S o μ) {p q : Nat} (hE : EndIs S o p q) (hq : ∀ u m f, (∀ c, c ≠ 27 → c ≠ 28 → u c = μ c) → (∀ j, j ≠ 7 → u 27 j = μ 27 j) → u 27 7 = nI m → m ≤ 60 → (∀ i, i < m → u 28 i = nI (f i)) → Lst (tR S) (sgP S o p q) m f → Q 0 u) : Ct G d M_CO_collectFromTop [.inr 27, .inl (nI p), .inl (nI q)] μ Q := by
  have h60 := hX.1.n60
  have hO := hX.1.2.1
  have hqn := hE.2.1
  refine en_CO_collectFromTop (vc_CO_collectFromTop_0 ?_)
  intro u1 h1
  have key : ∀ n k (w : Mem) m f, k + n = q → p ≤ k → m ≤ k - p → (∀ c, c ≠ 27 → c ≠ 28 → w c = μ c) → (∀ j, j ≠ 7 → w 27 j = μ 27 j) → w 27 7 = nI m → (∀ i, i < m → w 28 i = nI (f i)) → Lst (tR S) (sgP S o p k) m f → AW G d M_CO_collectFromTop Q 7 [some (.inr 27), none, some (.inl (nI q)), some (.inl (nI k)), none, none] [] w := by
    intro n
    induction n with
    | zero =>
      intro k w m f hk hpk hm w1 w2 w3 w4 w5
      refine vc_CO_collectFromTop_7 ⟨fun _ => hq w m f w1 w2 w3 (by omega) w4 (by rw [show q = k by omega]; exact w5), fun h => absurd ((n_le (by omega) (by omega)).mpr (by omega)) h⟩
    | succ n ih =>
      intro k w m f hk hpk hm w1 w2 w3 w4 w5
      have hok := hO.1 k (by omega)
      have hXw : CoX S o w := hX.congr (fun c hc => w1 c (by omega) (by omega))
      have ixo : ix (nI (o k)) = o k := n_ix (by omega)
      have e1 : vp_in (nI (o k)) 60 := n_in (by omega) (by omega)
      refine vc_CO_collectFromTop_7 ⟨fun h => absurd ((n_le (by omega) (by omega)).mp h) (by omega), fun _ => ⟨n_in (by omega) (by omega), fun y hy => ?_⟩⟩
      rw [n_ix (by omega), hXw.1.2.2.2.1 k (by omega)] at hy
      subst hy
      rw [ixo, (hXw.2 _ hok).1, n_p1]
      refine ⟨e1, fun hk0 y2 hy2 => ?_, fun hk0 => ?_⟩
      · rw [w3] at hy2
        subst hy2
        have lt_o : ∀ r, p ≤ r → r < k → o r < o k := fun r a b => by
          have h2 := hO.2.1 r k b (by omega)
          have h3 := hE.2.2.1 r a (by omega)
          have h4 := hE.2.2.1 k hpk (by omega)
          unfold ltN at h2; omega
        have fmem : ∀ i, i < m → f i < S.1 ∧ f i < o k := fun i hi => by
          obtain ⟨r, a, b, e, -⟩ := w5.1 i hi
          rw [← e]; exact ⟨hO.1 r (by omega), lt_o r a b⟩
        have fin : ∀ c (v : Mem), c ≤ m → (∀ c', c' ≠ 28 → v c' = w c') → (∀ i, i < c → v 28 i = nI (f i)) → (∀ i, c < i → i ≤ m → v 28 i = nI (f (i - 1))) → (∀ i, c ≤ i → i < m → (S.2 0 (f i)).toInt < (S.2 0 (o k)).toInt) → (c = 0 ∨ (S.2 0 (o k)).toInt ≤ (S.2 0 (f (c - 1))).toInt) → ∀ u1 : Mem, u1 = up v 28 c (nI (o k)) → ∀ u2 : Mem, u2 = up u1 27 7 (u1 27 7 + 1) → AW G d M_CO_collectFromTop Q 7 [some (.inr 27), none, some (.inl (nI q)), some (.inl (nI (k + 1))), none, none] [] u2 := by
          intro c v hc v1 v2 v3 v4 hlo u1 hu1 u2 hu2
          have e7 : u1 27 7 = nI m := by rw [hu1, up_at, if_neg (by omega), v1 27 (by omega)]; exact w3
          rw [e7, n_p1] at hu2
          refine ih (k + 1) u2 (m + 1) (insO f (o k) c) (by omega) (by omega) (by omega) (fun c' a b => ?_) (fun j hj => ?_) ?_ (fun i hi => ?_) ?_
          · funext j; rw [hu2, up_at, if_neg (by omega), hu1, up_at, if_neg (by omega), v1 c' b, w1 c' a b]
          · rw [hu2, up_at, if_neg (by omega), hu1, up_at, if_neg (by omega), v1 27 (by omega), w2 j hj]
          · rw [hu2, up_at, if_pos ⟨rfl, rfl⟩]
          · rw [hu2, up_at, if_neg (by omega), hu1, up_at]
            unfold insO
            by_cases h1 : i < c
            · rw [if_neg (by omega), if_pos h1]; exact v2 i h1
            · rw [if_neg h1]
              by_cases h2 : i = c
              · rw [if_pos ⟨rfl, h2⟩, if_pos h2]
              · rw [if_neg (by omega), if_neg h2]; exact v3 i (by omega) (by omega)
          · refine (w5.ins tR_tr hc ?_ (fun i a b => Or.inl (v4 i a b))).congrP (fun x => ?_)
            · rcases hlo with h | h
              · exact Or.inl h
              · by_cases hc0 : c = 0
                · exact Or.inl hc0
                · right
                  have := fmem (c - 1) (by omega)
                  unfold tR; omega
            · constructor
              · rintro (⟨r, a, b, e, g⟩ | e)
                · exact ⟨r, a, by omega, e, g⟩
                · exact ⟨k, hpk, by omega, e.symm, by rw [e]; exact hk0⟩
              · rintro ⟨r, a, b, e, g⟩
                rcases Nat.lt_or_ge r k with h2 | h2
                · exact Or.inl ⟨r, a, h2, e, g⟩
                · right; rw [← e, show r = k by omega]
        have key2 : ∀ c (v : Mem), c ≤ m → (∀ c', c' ≠ 28 → v c' = w c') → (∀ i, i < c → v 28 i = nI (f i)) → (∀ i, c < i → i ≤ m → v 28 i = nI (f (i - 1))) → (∀ i, c ≤ i → i < m → (S.2 0 (f i)).toInt < (S.2 0 (o k)).toInt) → AW G d M_CO_collectFromTop Q 45 [some (.inr 27), none, some (.inl (nI q)), some (.inl (nI k)), some (.inl (nI (o k))), some (.inl (nI c))] [] v := by
          intro c
          induction c with
          | zero =>
            intro v hc v1 v2 v3 v4
            refine vc_CO_collectFromTop_45 ⟨fun _ => ⟨n_in (by omega) (by omega), fun u1 hu1 u2 hu2 => ?_⟩, fun h => absurd (by decide) h⟩
            rw [n_ix (by omega)] at hu1
            rw [n_p1]
            exact fin 0 v hc v1 v2 v3 v4 (Or.inl rfl) u1 hu1 u2 hu2
          | succ c ihc =>
            intro v hc v1 v2 v3 v4
            obtain ⟨g1, g2⟩ := fmem c (by omega)
            have hXv : CoX S o v := hXw.congr (fun c' hc' => v1 c' (by omega))
            refine vc_CO_collectFromTop_45 ⟨fun h => absurd h (by rw [i_le, n_i (by omega), Int32.toInt_zero]; omega), fun _ => ?_⟩
            rw [n_s1, n_ix (show c < 2147483648 by omega), n_ix (show c + 1 < 2147483648 by omega), ixo, v2 c (by omega), n_ix (show f c < 2147483648 by omega), hXv.1.at hok (k := 0) (by omega) rfl, hXv.1.at g1 (k := 0) (by omega) rfl, i_le, n_p1, n_m1]
            refine ⟨n_in (by omega) (by omega), n_in (by omega) (by omega), e1, fun h => ⟨n_in (by omega) (by omega), fun u1 hu1 u2 hu2 => ?_⟩, fun h => ⟨n_in (by omega) (by omega), n_in (by omega) (by omega), fun u5 hu5 => ?_⟩⟩
            · exact fin (c + 1) v hc v1 v2 v3 v4 (Or.inr (by rw [Nat.add_sub_cancel]; exact h)) u1 hu1 u2 hu2
            · refine ihc u5 (by omega) (fun c' a => ?_) (fun i hi => ?_) (fun i a b => ?_) (fun i a b => ?_)
              · funext j; rw [hu5, up_at, if_neg (by omega), v1 c' a]
              · rw [hu5, up_at, if_neg (by omega)]; exact v2 i (by omega)
              · rw [hu5, up_at]
                by_cases h3 : i = c + 1
                · rw [if_pos ⟨rfl, h3⟩, h3, Nat.add_sub_cancel]
                · rw [if_neg (by omega)]; exact v3 i (by omega) b
              · rcases Nat.lt_or_ge c i with h3 | h3
                · exact v4 i (by omega) b
                · rw [show i = c by omega]; omega
        exact key2 m w (Nat.le_refl _) (fun _ _ => rfl) w4 (fun i a b => absurd a (by omega)) (fun i a b => absurd a (by omega))
      · refine ih (k + 1) w m f (by omega) (by omega) (by omega) w1 w2 w3 w4 (w5.congrP (fun x => ?_))
        constructor
        · rintro ⟨r, a, b, e, g⟩; exact ⟨r, a, by omega, e, g⟩
        · rintro ⟨r, a, b, e, g⟩
          rcases Nat.lt_or_ge r k with h2 | h2
          · exact ⟨r, a, h2, e, g⟩
          · rw [← e, show r = k by omega] at g; exact absurd hk0 g
  exact key (q - p) p u1 0 (fun _ => 0) (by have := hE.1; omega) (Nat.le_refl _) (Nat.zero_le _) (fun c a b => by funext j; rw [h1, up_at, if_neg (by omega)]) (fun j hj => by rw [h1, up_at, if_neg (by omega)]) (by rw [h1, up_at, if_pos ⟨rfl, rfl⟩]; rfl) (fun i hi => absurd hi (Nat.not_lt_zero i)) ⟨fun i hi => absurd hi (Nat.not_lt_zero i), fun i j _ hj => absurd hj (Nat.not_lt_zero j), fun x ⟨r, a, b, _⟩ => absurd a (by omega)⟩
theorem sp_zigzag {m : Nat} {f : Nat → Nat} (hm : m ≤ 60) (h7 : μ 27 7 = nI m) (h28 : ∀ i, i < m → μ 28 i = nI (f i)) (hq : ∀ u, (∀ c, c ≠ 29 → u c = μ c) → (∀ i, i < m → u 29 i = nI (zzF f m i)) → Q 0 u) : Ct G d M_CO_bringToZigzag [.inr 27] μ Q := by
  refine en_CO_bringToZigzag (vc_CO_bringToZigzag_0 ?_)
  have key : ∀ n k (w : Mem), k + n = m → (∀ c, c ≠ 29 → w c = μ c) → (∀ i, i < k → w 29 i = nI (zzF f m i)) → AW G d M_CO_bringToZigzag Q 2 [some (.inr 27), some (.inl (nI k))] [] w := by
    intro n
    induction n with
    | zero =>
      intro k w hk w1 w2
      refine vc_CO_bringToZigzag_2 ?_
      rw [w1 27 (by omega), h7]
      exact ⟨fun _ => hq w w1 (fun i hi => w2 i (by omega)), fun h => absurd ((n_le (by omega) (by omega)).mpr (by omega)) h⟩
    | succ n ih =>
      intro k w hk w1 w2
      refine vc_CO_bringToZigzag_2 ?_
      rw [w1 27 (by omega), h7, w1 28 (by omega)]
      obtain ⟨m', rfl⟩ : ∃ m', m = m' + 1 := ⟨m - 1, by omega⟩
      rw [show (2 : Int32) = nI 2 from rfl, n_rem (by omega) (by omega) (by omega), n_div (by omega) (by omega) (by omega), n_s1, pk_sub (show k / 2 ≤ m' by omega), n_p1, n_ix (by omega), n_ix (by omega), n_ix (by omega)]
      have step : ∀ u, u = up w 29 k (nI (zzF f (m' + 1) k)) → AW G d M_CO_bringToZigzag Q 2 [some (.inr 27), some (.inl (nI (k + 1)))] [] u := fun u hu => by
        refine ih (k + 1) u (by omega) (fun c hc => ?_) (fun i hi => ?_)
        · funext j; rw [hu, up_at, if_neg (by omega), w1 c hc]
        · rw [hu, up_at]
          by_cases h : i = k
          · rw [if_pos ⟨rfl, h⟩, h]
          · rw [if_neg (by omega)]; exact w2 i (by omega)
      refine ⟨fun h => absurd ((n_le (by omega) (by omega)).mp h) (by omega), fun _ => ⟨fun h => ⟨n_in (by omega) (by omega), n_in (by omega) (by omega), fun u hu => step u ?_⟩, fun h => ⟨n_in (by omega) (by omega), n_in (by omega) (by omega), fun u hu => step u ?_⟩⟩⟩
      · have h2 : k % 2 ≠ 0 := fun e => h (by rw [e]; rfl)
        rw [hu, h28 _ (by omega)]; unfold zzF; rw [if_neg h2, Nat.add_sub_cancel]
      · have h2 : k % 2 = 0 := (n_inj (b := 0) (by omega) (by omega)).mp h
        rw [hu, h28 _ (by omega)]; unfold zzF; rw [if_pos h2]
  exact key m 0 μ (by omega) (fun _ _ => rfl) (fun i hi => absurd hi (Nat.not_lt_zero i))
theorem sp_canStand_t (hX : CoX S o μ) {m : Nat} {z t : Nat → Nat} (hm : m ≤ 60) (hz : ∀ i, i < m → μ 29 i = nI (z i) ∧ z i < S.1) {k c : Nat} (hk : k < m) (hc : c < 60) (ht : ∀ i, i < k → μ 31 i = nI (t i) ∧ t i < 60) (hq : Q (bc (∀ i, i < k → t i = c → shN S o z i k)) μ) : Ct G (d + 3) M_CO_canStand [.inr 27, .inl (nI k), .inl (nI c), .inr 31] μ Q := by
  have h60 := hX.1.n60
  refine en_CO_canStand_t (vc_CO_canStand_t_0 ?_)
  have key : ∀ n i, i + n = k → (∀ j, j < i → t j = c → shN S o z j k) → AW G (d + 3) M_CO_canStand Q 3 [some (.inr 27), some (.inl (nI k)), some (.inl (nI c)), some (.inr 31), some (.inl (nI i))] [] μ := by
    intro n
    induction n with
    | zero =>
      intro i hi h
      exact vc_CO_canStand_t_3 ⟨fun _ => q_ct hq (fun j hj => h j (by omega)), fun h2 => absurd ((n_le (by omega) (by omega)).mpr (by omega)) h2⟩
    | succ n ih =>
      intro i hi h
      obtain ⟨z1, z2⟩ := hz i (by omega)
      obtain ⟨k1, k2⟩ := hz k hk
      obtain ⟨t1, t2⟩ := ht i (by omega)
      have go : (t i = c → shN S o z i k) → AW G (d + 3) M_CO_canStand Q 3 [some (.inr 27), some (.inl (nI k)), some (.inl (nI c)), some (.inr 31), some (.inl (nI (i + 1)))] [] μ := fun h2 => ih (i + 1) (by omega) (fun j hj hjc => by
        rcases Nat.lt_or_ge j i with h3 | h3
        · exact h j h3 hjc
        · rw [show j = i by omega] at hjc ⊢; exact h2 hjc)
      refine vc_CO_canStand_t_3 ⟨fun h2 => absurd ((n_le (by omega) (by omega)).mp h2) (by omega), fun _ => ⟨n_in (by omega) (by omega), ?_⟩⟩
      rw [n_ix (by omega), n_ix (by omega), t1, z1, k1, n_p1]
      refine ⟨fun h2 => go (fun e => absurd (by rw [e]) h2), fun h2 => ⟨n_in (by omega) (by omega), n_in (by omega) (by omega), sp_canShare hX.1 hX.2 z2 k2 ?_⟩⟩
      rw [bc_0]
      exact ⟨fun h3 => go (fun _ => Classical.not_not.mp h3), fun h3 => q_cf hq (fun h4 => h3 (h4 i (by omega) ((n_inj (by omega) (by omega)).mp h2)))⟩
  exact key k 0 (by omega) (fun j hj => absurd hj (Nat.not_lt_zero j))
theorem sp_canStand_c (hX : CoX S o μ) {m : Nat} {z t : Nat → Nat} (hm : m ≤ 60) (hz : ∀ i, i < m → μ 29 i = nI (z i) ∧ z i < S.1) {k c : Nat} (hk : k < m) (hc : c < 60) (ht : ∀ i, i < k → μ 30 i = nI (t i) ∧ t i < 60) (hq : Q (bc (∀ i, i < k → t i = c → shN S o z i k)) μ) : Ct G (d + 3) M_CO_canStand [.inr 27, .inl (nI k), .inl (nI c), .inr 30] μ Q := by
  have h60 := hX.1.n60
  refine en_CO_canStand_c (vc_CO_canStand_c_0 ?_)
  have key : ∀ n i, i + n = k → (∀ j, j < i → t j = c → shN S o z j k) → AW G (d + 3) M_CO_canStand Q 3 [some (.inr 27), some (.inl (nI k)), some (.inl (nI c)), some (.inr 30), some (.inl (nI i))] [] μ := by
    intro n
    induction n with
    | zero =>
      intro i hi h
      exact vc_CO_canStand_c_3 ⟨fun _ => q_ct hq (fun j hj => h j (by omega)), fun h2 => absurd ((n_le (by omega) (by omega)).mpr (by omega)) h2⟩
    | succ n ih =>
      intro i hi h
      obtain ⟨z1, z2⟩ := hz i (by omega)
      obtain ⟨k1, k2⟩ := hz k hk
      obtain ⟨t1, t2⟩ := ht i (by omega)
      have go : (t i = c → shN S o z i k) → AW G (d + 3) M_CO_canStand Q 3 [some (.inr 27), some (.inl (nI k)), some (.inl (nI c)), some (.inr 30), some (.inl (nI (i + 1)))] [] μ := fun h2 => ih (i + 1) (by omega) (fun j hj hjc => by
        rcases Nat.lt_or_ge j i with h3 | h3
        · exact h j h3 hjc
        · rw [show j = i by omega] at hjc ⊢; exact h2 hjc)
      refine vc_CO_canStand_c_3 ⟨fun h2 => absurd ((n_le (by omega) (by omega)).mp h2) (by omega), fun _ => ⟨n_in (by omega) (by omega), ?_⟩⟩
      rw [n_ix (by omega), n_ix (by omega), t1, z1, k1, n_p1]
      refine ⟨fun h2 => go (fun e => absurd (by rw [e]) h2), fun h2 => ⟨n_in (by omega) (by omega), n_in (by omega) (by omega), sp_canShare hX.1 hX.2 z2 k2 ?_⟩⟩
      rw [bc_0]
      exact ⟨fun h3 => go (fun _ => Classical.not_not.mp h3), fun h3 => q_cf hq (fun h4 => h3 (h4 i (by omega) ((n_inj (by omega) (by omega)).mp h2)))⟩
  exact key k 0 (by omega) (fun j hj => absurd hj (Nat.not_lt_zero j))
end
