/-! class DotSpaces -/
def dtP (S : Sc) (o : Nat → Nat) (p q x : Nat) : Prop := ∃ r, p ≤ r ∧ r < q ∧ S.2 7 (o r) ≠ 0 ∧ stN S (o r) = x
abbrev gtR (a b : Nat) : Prop := b < a
def cst (D : Nat → Int) (lo : Int) (m k j : Nat) : Nat := if j < k then 1000000 else GQ D lo m k j
def blw (D : Nat → Int) (lo : Int) (m k j : Nat) : Nat := if j ≤ k then 1000000 else hqM (GQ D lo m k) k j
theorem mmin_n {a b : Nat} (ha : a < 2147483648) (hb : b < 2147483648) : mmin (nI a) (nI b) = nI (min a b) := by
  unfold mmin
  by_cases h : b < a
  · rw [if_pos ((n_lt hb ha).mpr h), show min a b = b by omega]
  · rw [if_neg (fun e => h ((n_lt hb ha).mp e)), show min a b = a by omega]
theorem n_of' {x : Int32} {k : Nat} (h : x.toInt = (k : Int)) : x = nI k := by
  have := i_bd x
  rw [i_eq, n_i (by omega), h]
theorem mabs_n {x : Int32} {z : Int} (h : x.toInt = z) (h1 : -2147483647 ≤ z) : mabs x = nI z.natAbs := by
  have hb := i_bd x
  unfold mabs
  have e0 : (0 : Int32).toInt = 0 := by decide
  by_cases hx : 0 ≤ x
  · rw [if_pos hx]
    rw [i_le, e0] at hx
    exact n_of' (by omega)
  · rw [if_neg hx]
    rw [i_le, e0] at hx
    exact n_of' (by rw [i_sub (by omega) (by omega), e0]; omega)
theorem rem2_0 {x : Int32} {z : Int} (h : x.toInt = z) : x - x / 2 * 2 = 0 ↔ z % 2 = 0 := by
  have e2 : (2 : Int32).toInt = 2 := by decide
  rw [i_eq, rem_toInt, h, e2, Int32.toInt_zero, ← Int.dvd_iff_tmod_eq_zero]
  omega
section
variable {G : Gp} {d : Nat} {S : Sc} {o : Nat → Nat} {μ : Mem} {Q : Int32 → Mem → Prop}
theorem sp_dcollect (hI : NoI S o μ) {p q : Nat} (hE : EndIs S o p q) (hq : ∀ u m f, (∀ c, c ≠ 33 → c ≠ 34 → c ≠ 35 → u c = μ c) → (∀ j, j ≠ 5 → u 33 j = μ 33 j) → u 33 5 = nI m → m ≤ 60 → (∀ i, i < m → u 35 i = nI (f i)) → Lst gtR (dtP S o p q) m f → Q 0 u) : Ct G (d + 1) M_DS_collectFromTop [.inr 33, .inl (nI p), .inl (nI q)] μ Q := by
  have h60 := hI.n60
  have hO := hI.2.1
  have hB := hI.1
  have hqn := hE.2.1
  refine en_DS_collectFromTop (vc_DS_collectFromTop_0 (sp_fill_34 ?_))
  generalize hu1 : fil μ 34 70 0 = u1
  have u1at : ∀ c, c ≠ 34 → u1 c = μ c := fun c hc => by funext j; rw [← hu1]; unfold fil; rw [if_neg (by omega)]
  have u1z : ∀ s, s < 70 → u1 34 s = 0 := fun s hs => by rw [← hu1]; unfold fil; rw [if_pos ⟨rfl, hs⟩]
  have key : ∀ n k (w : Mem), k + n = q → p ≤ k → (∀ c, c ≠ 34 → w c = μ c) → (∀ s, s < 70 → (dtP S o p k s → w 34 s = 1) ∧ (¬ dtP S o p k s → w 34 s = 0)) → AW G (d + 1) M_DS_collectFromTop Q 10 [some (.inr 33), none, some (.inl (nI q)), some (.inl (nI k)), none] [] w := by
    intro n
    induction n with
    | succ n ih =>
      intro k w hk hpk w1 w2
      have hok := hO.1 k (by omega)
      have hIw : NoI S o w := hI.congr (fun c a b => w1 c (by omega))
      obtain ⟨t1, t2⟩ := st_n hB hok
      have hdt := (hB.2.1 (o k) hok).2.2.2.2.2.2.2
      unfold rg at hdt
      refine vc_DS_collectFromTop_10 ⟨fun h => absurd ((n_le (by omega) (by omega)).mp h) (by omega), fun _ => ⟨n_in (by omega) (by omega), fun y hy => ?_⟩⟩
      rw [n_ix (by omega), hIw.2.2.2.1 k (by omega)] at hy
      subst hy
      refine sp_markOf hIw hok (k := 2) (by omega) ?_
      rw [n_ix (show o k < 2147483648 by omega), hIw.at hok (k := 0) (by omega) rfl, t1, n_ix (by omega), n_p1]
      refine ⟨fun h => ih (k + 1) w (by omega) (by omega) w1 (fun s hs => ?_), fun h => ⟨n_in (by omega) (by omega), n_in t2 (by omega), fun u5 h5 => ih (k + 1) u5 (by omega) (by omega) (fun c hc => ?_) (fun s hs => ?_)⟩⟩
      · have h0 : S.2 7 (o k) = 0 := by
          show S.2 (5 + 2) (o k) = 0
          have h : (S.2 (5 + 2) (o k)) ≤ 0 := h
          rw [i_le, Int32.toInt_zero] at h
          rw [i_eq, Int32.toInt_zero]
          have : (S.2 (5 + 2) (o k)).toInt = (S.2 7 (o k)).toInt := rfl
          omega
        have e : dtP S o p (k + 1) s ↔ dtP S o p k s := by
          constructor
          · rintro ⟨r, a, b, c, e⟩
            rcases Nat.lt_or_ge r k with h3 | h3
            · exact ⟨r, a, h3, c, e⟩
            · rw [show r = k by omega] at c; exact absurd h0 c
          · rintro ⟨r, a, b, c, e⟩; exact ⟨r, a, by omega, c, e⟩
        rw [e]; exact w2 s hs
      · funext j; rw [h5, up_at, if_neg (by omega), w1 c hc]
      · have h0 : S.2 7 (o k) ≠ 0 := by
          intro e
          have h : ¬ (S.2 7 (o k)) ≤ 0 := h
          rw [e] at h; exact h (by decide)
        rw [h5, up_at]
        by_cases hs2 : s = stN S (o k)
        · rw [if_pos ⟨rfl, hs2⟩]
          exact ⟨fun _ => rfl, fun hn => absurd ⟨k, hpk, by omega, h0, hs2.symm⟩ hn⟩
        · rw [if_neg (fun e => hs2 e.2)]
          have e : dtP S o p (k + 1) s ↔ dtP S o p k s := by
            constructor
            · rintro ⟨r, a, b, c, e⟩
              rcases Nat.lt_or_ge r k with h3 | h3
              · exact ⟨r, a, h3, c, e⟩
              · rw [show r = k by omega] at e; exact absurd e.symm hs2
            · rintro ⟨r, a, b, c, e⟩; exact ⟨r, a, by omega, c, e⟩
          rw [e]; exact w2 s hs
    | zero =>
      intro k w hk hpk w1 w2
      have hkq : k = q := by omega
      subst hkq
      refine vc_DS_collectFromTop_10 ⟨fun _ u2 hu2 => ?_, fun h => absurd ((n_le (by omega) (by omega)).mpr (by omega)) h⟩
      have key2 : ∀ c (v : Mem) m f, c ≤ 70 → (∀ c', c' ≠ 33 → c' ≠ 35 → v c' = w c') → (∀ j, j ≠ 5 → v 33 j = w 33 j) → v 33 5 = nI m → m ≤ 60 → (∀ i, i < m → v 35 i = nI (f i)) → Lst gtR (fun x => dtP S o p k x ∧ c ≤ x) m f → AW G (d + 1) M_DS_collectFromTop Q 69 [some (.inr 33), none, none, some (.inl (nI c + (-1))), none] [] v := by
        intro c
        induction c with
        | zero =>
          intro v m f _ v1 v2 v3 v4 v5 v6
          refine vc_DS_collectFromTop_69 ⟨fun _ => hq v m f (fun c a b e => by rw [v1 c a e, w1 c b]) (fun j hj => by rw [v2 j hj, w1 33 (by omega)]) v3 v4 v5 (v6.congrP (fun x => ⟨fun h => h.1, fun h => ⟨h, Nat.zero_le _⟩⟩)), fun h => absurd (by decide) h⟩
        | succ c ihc =>
          intro v m f hc v1 v2 v3 v4 v5 v6
          rw [n_m1]
          refine vc_DS_collectFromTop_69 ⟨fun h => absurd h (by rw [i_lt, n_i (by omega)]; simp), fun _ => ⟨n_in (by omega) (by omega), ?_⟩⟩
          rw [n_ix (by omega), v1 34 (by omega) (by omega), v3]
          obtain ⟨g1, g2⟩ := w2 c (by omega)
          refine ⟨fun h => ?_, fun h => ?_⟩
          · have hnd : ¬ dtP S o p k c := fun hd => h (g1 hd)
            refine ihc v m f (by omega) v1 v2 v3 v4 v5 (v6.congrP (fun x => ⟨fun h2 => ⟨h2.1, by omega⟩, fun h2 => ⟨h2.1, ?_⟩⟩))
            rcases Nat.lt_or_ge c x with h3 | h3
            · omega
            · rw [show x = c by have := h2.2; omega] at h2; exact absurd h2.1 hnd
          · have hd : dtP S o p k c := by
              apply Classical.byContradiction
              intro hn
              rw [g2 hn] at h; exact absurd h (by decide)
            have hm60 : m < 60 := by
              rcases Nat.lt_or_ge m 60 with h2 | h2
              · exact h2
              · exfalso
                have hl2 : Lst gtR (fun x => (dtP S o p k x ∧ c + 1 ≤ x) ∨ x = c) (m + 1) (insO f c m) := v6.ins (fun x y z (a : y < x) (b : z < y) => show z < x by omega) (Nat.le_refl _) (by
                  rcases Nat.eq_zero_or_pos m with h3 | h3
                  · exact Or.inl h3
                  · right
                    have := (v6.1 (m - 1) (by omega)).2
                    show c < f (m - 1)
                    omega) (fun i a b => absurd a (by omega))
                have hex : ∀ i, i ≤ 60 → ∃ r, r < k ∧ stN S (o r) = insO f c m i := fun i hi => by
                  rcases hl2.1 i (by omega) with h4 | h4
                  · obtain ⟨r, a, b, _, e⟩ := h4.1; exact ⟨r, b, e⟩
                  · obtain ⟨r, a, b, _, e⟩ := hd; exact ⟨r, b, by rw [h4]; exact e⟩
                have hfun : ∃ g : Nat → Nat, ∀ i, i ≤ 60 → g i < k ∧ stN S (o (g i)) = insO f c m i := by
                  refine ⟨fun i => if h : i ≤ 60 then Classical.choose (hex i h) else 0, fun i hi => ?_⟩
                  have := Classical.choose_spec (hex i hi)
                  simp only [hi, dite_true]
                  exact this
                obtain ⟨g, hg⟩ := hfun
                obtain ⟨i, j, e1, e2, e3⟩ := pigeon 60 g (fun i hi => by have := (hg i hi).1; omega)
                have e4 : insO f c m i = insO f c m j := by rw [← (hg i (by omega)).2, ← (hg j e2).2, e3]
                exact absurd (Lst.inj (R := gtR) (fun x (h : x < x) => Nat.lt_irrefl x h) hl2 (show i < m + 1 by omega) (show j < m + 1 by omega) e4) (by omega)
            refine ⟨fun h2 => absurd ((n_le (a := 60) (by omega) (by omega)).mp h2) (by omega), fun _ => ⟨n_in hm60 (by omega), fun a1 ha1 a2 ha2 => ?_⟩⟩
            rw [n_ix (by omega)] at ha1
            have e5 : a1 33 5 = nI m := by rw [ha1, up_at, if_neg (by omega)]; exact v3
            rw [e5, n_p1] at ha2
            refine ihc a2 (m + 1) (insO f c m) (by omega) (fun c' a b => ?_) (fun j hj => ?_) ?_ (by omega) (fun i hi => ?_) ?_
            · funext j; rw [ha2, up_at, if_neg (by omega), ha1, up_at, if_neg (by omega), v1 c' a b]
            · rw [ha2, up_at, if_neg (by omega), ha1, up_at, if_neg (by omega), v2 j hj]
            · rw [ha2, up_at, if_pos ⟨rfl, rfl⟩]
            · rw [ha2, up_at, if_neg (by omega), ha1, up_at]
              unfold insO
              rcases Nat.lt_or_ge i m with h3 | h3
              · rw [if_neg (by omega), if_pos h3]; exact v5 i h3
              · rw [if_pos ⟨rfl, by omega⟩, if_neg (by omega), if_pos (by omega)]
            · refine (v6.ins (fun x y z (a : y < x) (b : z < y) => show z < x by omega) (Nat.le_refl _) ?_ (fun i a b => absurd a (by omega))).congrP (fun x => ?_)
              · rcases Nat.eq_zero_or_pos m with h3 | h3
                · exact Or.inl h3
                · right
                  have := (v6.1 (m - 1) (by omega)).2
                  show c < f (m - 1)
                  omega
              · constructor
                · rintro (h3 | h3)
                  · exact ⟨h3.1, by omega⟩
                  · rw [h3]; exact ⟨hd, Nat.le_refl _⟩
                · rintro ⟨h3, h4⟩
                  rcases Nat.lt_or_ge c x with h5 | h5
                  · exact Or.inl ⟨h3, by omega⟩
                  · exact Or.inr (by omega)
      exact key2 70 u2 0 (fun _ => 0) (Nat.le_refl _) (fun c a b => by funext j; rw [hu2, up_at, if_neg (by omega)]) (fun j hj => by rw [hu2, up_at, if_neg (by omega)]) (by rw [hu2, up_at, if_pos ⟨rfl, rfl⟩]; rfl) (by omega) (fun i hi => absurd hi (Nat.not_lt_zero i)) ⟨fun i hi => absurd hi (Nat.not_lt_zero i), fun i j _ hj => absurd hj (Nat.not_lt_zero j), fun x hx => by
        obtain ⟨⟨r, a, b, c, e⟩, h2⟩ := hx
        have := (st_n hB (hO.1 r (by omega))).2
        omega⟩
  exact key (q - p) p u1 (by have := hE.1; omega) (Nat.le_refl _) u1at (fun s hs => ⟨fun ⟨r, a, b, _⟩ => absurd a (by omega), fun _ => u1z s hs⟩)
/-- the table's frame: m notes at the steps f, N spaces from lo on -/
def DtX (f : Nat → Nat) (m N : Nat) (lo : Int) (w : Mem) : Prop := 1 ≤ m ∧ m ≤ 60 ∧ m ≤ N ∧ N ≤ 96 ∧ w 33 5 = nI m ∧ (w 33 6).toInt = lo ∧ w 33 7 = nI N ∧ -100 ≤ lo ∧ lo ≤ 100 ∧ (∀ i, i < m → w 35 i = nI (f i) ∧ f i < 70)
theorem DtX.congr {f : Nat → Nat} {m N : Nat} {lo : Int} {w u : Mem} (h : DtX f m N lo w) (hu : ∀ c, c = 33 ∨ c = 35 → u c = w c) : DtX f m N lo u := by
  obtain ⟨a, b, c, e, g, i, j, k, l, n⟩ := h
  refine ⟨a, b, c, e, by rw [hu 33 (Or.inl rfl)]; exact g, by rw [hu 33 (Or.inl rfl)]; exact i, by rw [hu 33 (Or.inl rfl)]; exact j, k, l, fun i hi => by rw [hu 35 (Or.inr rfl)]; exact n i hi⟩
theorem sp_spaceAt {lo : Int} (h6 : (μ 33 6).toInt = lo) (hl : -100 ≤ lo ∧ lo ≤ 100) {j : Nat} (hj : j < 100) (hq : ∀ x : Int32, x.toInt = lo + 2 * (j : Int) → Q x μ) : Ct G d M_DS_spaceAt [.inr 33, .inl (nI j)] μ Q := by
  refine en_DS_spaceAt (vc_DS_spaceAt_0 (hq _ ?_))
  have e2 : (2 : Int32).toInt = 2 := by decide
  have hm : ((2 : Int32) * nI j).toInt = 2 * (j : Int) := by rw [i_mul (by rw [e2, n_i (by omega)]; omega) (by rw [e2, n_i (by omega)]; omega), e2, n_i (by omega)]
  rw [i_add (by rw [hm, h6]; omega) (by rw [hm, h6]; omega), hm, h6]
theorem tix {i j : Nat} : nI i * 96 + nI j = nI (96 * i + j) := by rw [show (96 : Int32) = nI 96 from rfl, pk_mul, nI_add, Nat.mul_comm]
theorem sp_fillCosts {f : Nat → Nat} {m N : Nat} {lo : Int} (hX : DtX f m N lo μ) (hq : ∀ u, (∀ c, c ≠ 37 → u c = μ c) → (∀ i j, i < m → j < N → u 37 (96 * i + j) = nI (cst (fun i => (f i : Int)) lo m (m - 1 - i) j)) → Q 0 u) : Ct G (d + 1) M_DS_fillCosts [.inr 33] μ Q := by
  obtain ⟨x1, x2, x3, x4, x5, x6, x7, x8, x9, x10⟩ := hX
  have hX : DtX f m N lo μ := ⟨x1, x2, x3, x4, x5, x6, x7, x8, x9, x10⟩
  have hdist : ∀ i j, i < m → j < N → (lo + 2 * (j : Int) - (f i : Int)).natAbs ≤ 400 := fun i j hi hj => by have := (x10 i hi).2; omega
  have hbd := GQ_bd (D := fun i => (f i : Int)) (lo := lo) (m := m) (N := N) (B := 400) hdist
  refine en_DS_fillCosts (vc_DS_fillCosts_0 ?_)
  intro y hy
  -- rows k and below are done
  have key : ∀ i (w : Mem), i ≤ m → (∀ c, c ≠ 37 → w c = μ c) → (∀ i' j, i ≤ i' → i' < m → j < N → w 37 (96 * i' + j) = nI (cst (fun i => (f i : Int)) lo m (m - 1 - i') j)) → AW G (d + 1) M_DS_fillCosts Q 7 [some (.inr 33), some (.inl (nI i + (-1))), none, none, none, none] [] w := by
    intro i
    induction i with
    | zero =>
      intro w _ w1 w2
      exact vc_DS_fillCosts_7 ⟨fun _ => hq w w1 (fun i' j a b => w2 i' j (Nat.zero_le _) a b), fun h => absurd (by decide) h⟩
    | succ i ih =>
      intro w him w1 w2
      have h5 : w 33 5 = nI m := by rw [w1 33 (by omega)]; exact x5
      have h6 : (w 33 6).toInt = lo := by rw [w1 33 (by omega)]; exact x6
      have h7 : w 33 7 = nI N := by rw [w1 33 (by omega)]; exact x7
      have hfi := x10 i (by omega)
      have h35 : w 35 i = nI (f i) := by rw [w1 35 (by omega)]; exact hfi.1
      rw [n_m1]
      -- the loop over the spaces; fl: the lowest note's row
      have row : ∀ (fl : Int32) (bl : Nat → Nat), (∀ j, j < N → bl j ≤ 1000000) → ((¬ fl = 0 ∧ ∀ j, bl j = 0) ∨ (fl = 0 ∧ i + 1 < m ∧ bl 0 = 1000000 ∧ ∀ j, j + 1 < N → bl (j + 1) = min (bl j) (cst (fun i => (f i : Int)) lo m (m - 1 - (i + 1)) j))) → (∀ j, j < N → min (bl j + (lo + 2 * (j : Int) - (f i : Int)).natAbs) 1000000 = cst (fun i => (f i : Int)) lo m (m - 1 - i) j) →
          ∀ n j (v : Mem), j + n = N → (∀ c, c ≠ 37 → v c = μ c) → (∀ i' j, i + 1 ≤ i' → i' < m → j < N → v 37 (96 * i' + j) = nI (cst (fun i => (f i : Int)) lo m (m - 1 - i') j)) → (∀ j', j' < j → v 37 (96 * i + j') = nI (cst (fun i => (f i : Int)) lo m (m - 1 - i) j')) → AW G (d + 1) M_DS_fillCosts Q 41 [some (.inr 33), some (.inl (nI i)), some (.inl fl), some (.inl (nI (bl (j - 1)))), some (.inl (nI j)), none] [] v := by
        intro fl bl hbl hcase hcst n
        induction n with
        | zero =>
          intro j v hj v1 v2 v3
          refine vc_DS_fillCosts_41 ?_
          rw [v1 33 (by omega), x7]
          refine ⟨fun _ => ih v (by omega) v1 (fun i' j' a b c => ?_), fun h => absurd ((n_le (by omega) (by omega)).mpr (by omega)) h⟩
          rcases Nat.lt_or_ge i i' with h | h
          · exact v2 i' j' (by omega) b c
          · rw [show i' = i by omega]; exact v3 j' (by omega)
        | succ n ihn =>
          intro j v hj v1 v2 v3
          have v6 : (v 33 6).toInt = lo := by rw [v1 33 (by omega)]; exact x6
          have hbj := hbl j (by omega)
          -- the place is written with bl j
          have wr : ∀ r2 : Int32, r2.toInt = lo + 2 * (j : Int) → (vp_in (nI i) 60 ∧ ∀ y3 : Int32, y3 = mabs (r2 - v 35 (ix (nI i))) → vp_in (nI i * 96 + nI j) 5760 ∧ ∀ u4 : Mem, u4 = up v 37 (ix (nI i * 96 + nI j)) (mmin (nI (bl j) + y3) 1000000) → AW G (d + 1) M_DS_fillCosts Q 41 [some (.inr 33), some (.inl (nI i)), some (.inl fl), some (.inl (nI (bl j))), some (.inl (nI j + 1)), none] [] u4) := by
            intro r2 hr2
            refine ⟨n_in (by omega) (by omega), fun y3 hy3 => ⟨by rw [tix]; exact n_in (by omega) (by omega), fun u4 h4 => ?_⟩⟩
            have hfl := hfi.2
            have v35 : v 35 i = nI (f i) := by rw [v1 35 (by omega)]; exact hfi.1
            rw [n_ix (by omega), v35] at hy3
            have hdi := hdist i j (by omega) (by omega)
            have e1 : (r2 - nI (f i)).toInt = lo + 2 * (j : Int) - (f i : Int) := by rw [i_sub (by rw [hr2, n_i (by omega)]; omega) (by rw [hr2, n_i (by omega)]; omega), hr2, n_i (by omega)]
            rw [mabs_n e1 (by omega)] at hy3
            subst hy3
            rw [tix, n_ix (by omega), nI_add, show (1000000 : Int32) = nI 1000000 from rfl, mmin_n (by omega) (by omega), hcst j (by omega)] at h4
            rw [n_p1]
            have hn := ihn (j + 1) u4 (by omega) (fun c hc => by funext j'; rw [h4, up_at, if_neg (by omega), v1 c hc]) (fun i' j' a b c => by rw [h4, up_at, if_neg (by omega)]; exact v2 i' j' a b c) (fun j' hj' => by
              rw [h4, up_at]
              by_cases h : j' = j
              · rw [if_pos ⟨rfl, by rw [h]⟩, h]
              · rw [if_neg (by omega)]; exact v3 j' (by omega))
            rw [Nat.add_sub_cancel] at hn
            exact hn
          refine vc_DS_fillCosts_41 ?_
          rw [v1 33 (by omega), x7]
          refine ⟨fun h => absurd ((n_le (by omega) (by omega)).mp h) (by omega), fun _ => ⟨fun hfl => ?_, fun hfl => ⟨fun h0 => ?_, fun h0 => ?_⟩⟩⟩
          · have hb0 : ∀ j, bl j = 0 := by
              rcases hcase with h | h
              · exact h.2
              · exact absurd h.1 hfl
            rw [hb0 (j - 1), ← hb0 j]
            exact sp_spaceAt v6 ⟨x8, x9⟩ (by omega) wr
          · have hj0 : j = 0 := by rw [i_le, n_i (by omega), Int32.toInt_zero] at h0; omega
            rw [show j - 1 = j by omega]
            exact sp_spaceAt v6 ⟨x8, x9⟩ (by omega) wr
          · have hj0 : j ≠ 0 := fun e => h0 (by rw [e]; decide)
            obtain ⟨j', rfl⟩ : ∃ j', j = j' + 1 := ⟨j - 1, by omega⟩
            obtain ⟨-, c2, c3, c4⟩ : fl = 0 ∧ i + 1 < m ∧ bl 0 = 1000000 ∧ ∀ j, j + 1 < N → bl (j + 1) = min (bl j) (cst (fun i => (f i : Int)) lo m (m - 1 - (i + 1)) j) := by
              rcases hcase with h | h
              · exact absurd hfl h.1
              · exact h
            have hix : (nI i + 1) * 96 + nI (j' + 1) - 1 = nI (96 * (i + 1) + j') := by
              rw [n_p1, tix, show 96 * (i + 1) + (j' + 1) = 96 * (i + 1) + j' + 1 by omega, n_s1]
            rw [hix, n_ix (by omega), v2 (i + 1) j' (by omega) (by omega) (by omega), Nat.add_sub_cancel]
            refine ⟨n_in (by omega) (by omega), fun y9 hy9 => ?_⟩
            have hb1 := hbl j' (by omega)
            have hc6 : cst (fun i => (f i : Int)) lo m (m - 1 - (i + 1)) j' ≤ 1000000 := by
              unfold cst
              split
              · omega
              · have hk60 : m - 1 - (i + 1) + 1 ≤ 60 := by omega
                have h1 := hbd (m - 1 - (i + 1)) (by omega) j' (by omega) (by omega)
                have h2 : 400 * (m - 1 - (i + 1) + 1) ≤ 400 * 60 := Nat.mul_le_mul_left 400 hk60
                omega
            rw [mmin_n (by omega) (by omega), ← c4 j' (by omega)] at hy9
            subst hy9
            exact sp_spaceAt v6 ⟨x8, x9⟩ (by omega) wr
      refine vc_DS_fillCosts_7 ⟨fun h => absurd h (by rw [i_lt, n_i (by omega)]; simp), fun _ => ?_⟩
      obtain ⟨m', hm'⟩ : ∃ m', m = m' + 1 := ⟨m - 1, by omega⟩
      have e5 : w 33 5 - 1 = nI (m - 1) := by rw [h5, hm', n_s1, Nat.add_sub_cancel]
      rw [e5]
      refine ⟨fun hne => ⟨fun _ => ?_, fun h => absurd rfl h⟩, fun heq => ⟨fun h => absurd h (by decide), fun _ => ?_⟩⟩
      · have hi1 : i + 1 < m := by
          rcases Nat.lt_or_ge (i + 1) m with h | h
          · exact h
          · exact absurd (by rw [show i = m - 1 by omega]) hne
        have hk : m - 1 - i = (m - 1 - (i + 1)) + 1 := by omega
        have hr := row 0 (fun j => blw (fun i => (f i : Int)) lo m (m - 1 - (i + 1)) j) (fun j hj => ?_) (Or.inr ⟨rfl, hi1, ?_, fun j hj => ?_⟩) (fun j hj => ?_) N 0 w (by omega) w1 (fun i' j a b c => w2 i' j a b c) (fun j' hj' => absurd hj' (Nat.not_lt_zero j'))
        · have hz : blw (fun i => (f i : Int)) lo m (m - 1 - (i + 1)) (0 - 1) = 1000000 := by unfold blw; rw [if_pos (by omega)]
          have hr : AW G (d + 1) M_DS_fillCosts Q 41 [some (.inr 33), some (.inl (nI i)), some (.inl 0), some (.inl (nI (blw (fun i => (f i : Int)) lo m (m - 1 - (i + 1)) (0 - 1)))), some (.inl (nI 0)), none] [] w := hr
          rw [hz] at hr
          exact hr
        · show blw _ _ _ _ _ ≤ _
          unfold blw
          split
          · exact Nat.le_refl _
          · rename_i hjk
            obtain ⟨⟨a, a1, a2, a3⟩, -⟩ := hq_spec (GQ (fun i => (f i : Int)) lo m (m - 1 - (i + 1))) (m - 1 - (i + 1)) j (by omega)
            have hk60 : m - 1 - (i + 1) + 1 ≤ 60 := by omega
            have h1 := hbd (m - 1 - (i + 1)) (by omega) a a1 (by omega)
            have h2 : 400 * (m - 1 - (i + 1) + 1) ≤ 400 * 60 := Nat.mul_le_mul_left 400 hk60
            rw [a3]; omega
        · show blw _ _ _ _ _ = _
          unfold blw; rw [if_pos (by omega)]
        · show blw _ _ _ _ _ = min (blw _ _ _ _ _) _
          unfold blw cst
          have hk60 : m - 1 - (i + 1) + 1 ≤ 60 := by omega
          have h2 : 400 * (m - 1 - (i + 1) + 1) ≤ 400 * 60 := Nat.mul_le_mul_left 400 hk60
          rcases Nat.lt_trichotomy j (m - 1 - (i + 1)) with h | h | h
          · rw [if_pos (by omega), if_pos (by omega), if_pos h]; rfl
          · have h1 := hbd (m - 1 - (i + 1)) (by omega) j (by omega) (by omega)
            rw [if_neg (by omega), if_pos (by omega), if_neg (by omega)]
            show (if j ≤ _ then _ else _) = _
            rw [if_pos (by omega), h]
            rw [h] at h1
            omega
          · rw [if_neg (by omega), if_neg (by omega), if_neg (by omega)]
            show (if j ≤ _ then _ else _) = _
            rw [if_neg (by omega)]
        · show min (blw _ _ _ _ _ + _) _ = _
          rw [hk]
          unfold blw cst
          have hk60 : m - 1 - i + 1 ≤ 60 := by omega
          have h2 : 400 * (m - 1 - i + 1) ≤ 400 * 60 := Nat.mul_le_mul_left 400 hk60
          rcases Nat.lt_or_ge j (m - 1 - (i + 1) + 1) with h | h
          · rw [if_pos (by omega), if_pos h]; omega
          · rw [if_neg (by omega), if_neg (by omega)]
            have h1 := hbd (m - 1 - i) (by omega) j (by omega) hj
            have e : GQ (fun i => (f i : Int)) lo m (m - 1 - (i + 1) + 1) j = (lo + 2 * (j : Int) - (f i : Int)).natAbs + hqM (GQ (fun i => (f i : Int)) lo m (m - 1 - (i + 1))) (m - 1 - (i + 1)) j := by
              show (lo + 2 * (j : Int) - (f (m - 1 - (m - 1 - (i + 1) + 1)) : Int)).natAbs + _ = _
              rw [show m - 1 - (m - 1 - (i + 1) + 1) = i by omega]
            rw [hk] at h1
            omega
      · have him1 : i = m - 1 := (n_inj (by omega) (by omega)).mp heq
        have hr := row 1 (fun _ => 0) (fun j hj => by omega) (Or.inl ⟨by decide, fun _ => rfl⟩) (fun j hj => ?_) N 0 w (by omega) w1 (fun i' j a b c => w2 i' j a b c) (fun j' hj' => absurd hj' (Nat.not_lt_zero j'))
        · exact hr
        · have h1 := hdist i j (by omega) hj
          rw [show m - 1 - i = 0 by omega]
          unfold cst
          rw [if_neg (by omega)]
          show _ = (lo + 2 * (j : Int) - (f (m - 1) : Int)).natAbs
          rw [← him1]; omega
  have hk := key m μ (Nat.le_refl _) (fun _ _ => rfl) (fun i' j a b => absurd b (by omega))
  have e : y = nI m + (-1) := by rw [hy, x5, Int32.sub_eq_add_neg]
  rw [e]; exact hk
end
