/-! class Columns: taking in turn, the lay-out of a chord, its questions -/
section
variable {G : Gp} {d : Nat} {S : Sc} {o : Nat → Nat} {μ : Mem} {Q : Int32 → Mem → Prop}
theorem sp_takeInTurn {z : Nat → Nat} {m : Nat} (hm : m ≤ 60) (hZ : ZzI S o z m μ) (h32 : ∀ c, c < 60 → μ 32 c = 0) (hq : ∀ u col, (∀ c, c ≠ 27 → c ≠ 30 → c ≠ 32 → u c = μ c) → (∀ j, j ≠ 8 → u 27 j = μ 27 j) → GrI (shN S o z) m col → (∀ i, i < m → u 30 i = nI (col i)) → u 27 8 = nI (sWd (wN S o z) col m 60) → Q 0 u) : Ct G (d + 4) M_CO_takeInTurn [.inr 27] μ Q := by
  refine en_CO_takeInTurn (vc_CO_takeInTurn_0 ?_)
  intro u1 h1
  have hw31 : ∀ i, i < m → wN S o z i ≤ 31 := fun i hi => (wN_eq hZ.1.1.1 (hZ.2.2 i hi).2.1).2.1
  have key : ∀ n i (w : Mem) col, i + n = m → (∀ c, c ≠ 27 → c ≠ 30 → c ≠ 32 → w c = μ c) → (∀ j, j ≠ 8 → w 27 j = μ 27 j) → GrI (shN S o z) i col → (∀ j, j < i → w 30 j = nI (col j)) → (∀ c, c < 60 → w 32 c = nI (cMx (wN S o z) col i c)) → w 27 8 = nI (sWd (wN S o z) col i 60) → AW G (d + 4) M_CO_takeInTurn Q 7 [some (.inr 27), some (.inl (nI i)), none, none] [] w := by
    intro n
    induction n with
    | zero =>
      intro i w col hi w1 w2 w3 w4 w5 w6
      have him : i = m := by omega
      subst him
      refine vc_CO_takeInTurn_7 ?_
      rw [w2 7 (by omega), hZ.2.1]
      exact ⟨fun _ => hq w col w1 w2 w3 w4 w6, fun h => absurd ((n_le (by omega) (by omega)).mpr (by omega)) h⟩
    | succ n ih =>
      intro i w col hi w1 w2 w3 w4 w5 w6
      have hZw : ZzI S o z m w := hZ.congr (fun c a b _ e => w1 c a b e) (w2 7 (by omega))
      obtain ⟨zd1, zd2, zd3⟩ := hZw.2.2 i (by omega)
      obtain ⟨we, wl, wg⟩ := wN_eq (o := o) hZw.1.1.1 zd2
      have hle := w3.le
      refine vc_CO_takeInTurn_7 ?_
      rw [w2 7 (by omega), hZ.2.1]
      refine ⟨fun h => absurd ((n_le (by omega) (by omega)).mp h) (by omega), fun _ => ?_⟩
      -- the sign takes column c
      have take : ∀ c, c ≤ i → (∀ j, j < i → col j = c → shN S o z j i) → (∀ c', c' < c → ∃ j, j < i ∧ col j = c' ∧ ¬ shN S o z j i) → ∀ y3 : Int32, y3 = mmax (w 32 c) (nI (wN S o z i)) → ∀ u4 : Mem, u4 = up w 27 8 (w 27 8 + (y3 - w 32 c)) → ∀ u5 : Mem, u5 = up u4 30 i (nI c) → ∀ u6 : Mem, u6 = up u5 32 c y3 → AW G (d + 4) M_CO_takeInTurn Q 7 [some (.inr 27), some (.inl (nI (i + 1))), none, none] [] u6 := by
        intro c hc hs hl y3 hy3 u4 h4 u5 h5 u6 h6
        have hcm := cMx_le i (fun j hj => hw31 j (show j < m by omega)) (col := col) c
        rw [w5 c (by omega), mmax_n (by omega) (by omega)] at hy3
        subst hy3
        rw [w5 c (by omega), w6, pk_sub (show cMx (wN S o z) col i c ≤ max (cMx (wN S o z) col i c) (wN S o z i) by omega), nI_add] at h4
        have tp : ∀ j, j < i → (fun k => if k = i then c else col k) j = col j := fun j hj => by show (if j = i then c else col j) = _; rw [if_neg (by omega)]
        generalize hcol : (fun k => if k = i then c else col k) = col' at tp
        have tpi : col' i = c := by rw [← hcol]; show (if i = i then c else col i) = c; rw [if_pos rfl]
        have ecm : ∀ c', cMx (wN S o z) col' i c' = cMx (wN S o z) col i c' := fun c' => cMx_congr i tp c'
        have esw : sWd (wN S o z) col' i 60 = sWd (wN S o z) col i 60 := sWd_congr tp 60
        have estep := sWd_step (w := wN S o z) (col := col') (n := i) 60 (by rw [tpi]; omega)
        rw [tpi, ecm, esw] at estep
        have u6at : ∀ c' j, ¬ (c' = 27 ∧ j = 8) → ¬ (c' = 30 ∧ j = i) → ¬ (c' = 32 ∧ j = c) → u6 c' j = w c' j := fun c' j a b e => by rw [h6, up_at, if_neg e, h5, up_at, if_neg b, h4, up_at, if_neg a]
        refine ih (i + 1) u6 col' (by omega) (fun c' a b e => ?_) (fun j hj => ?_) (fun k hk => ?_) (fun j hj => ?_) (fun c' hc' => ?_) ?_
        · funext j; rw [u6at c' j (by omega) (by omega) (by omega), w1 c' a b e]
        · rw [u6at 27 j (by omega) (by omega) (by omega), w2 j hj]
        · rcases Nat.lt_or_ge k i with h | h
          · rw [tp k h]
            obtain ⟨g1, g2⟩ := w3 k h
            refine ⟨fun j hj he => g1 j hj (by rw [← tp j (by omega)]; exact he), fun c' hc' => ?_⟩
            obtain ⟨j, j1, j2, j3⟩ := g2 c' hc'
            exact ⟨j, j1, by rw [tp j (by omega)]; exact j2, j3⟩
          · have hki : k = i := by omega
            subst hki
            rw [tpi]
            refine ⟨fun j hj he => hs j hj (by rw [← tp j hj]; exact he), fun c' hc' => ?_⟩
            obtain ⟨j, j1, j2, j3⟩ := hl c' hc'
            exact ⟨j, j1, by rw [tp j j1]; exact j2, j3⟩
        · rcases Nat.lt_or_ge j i with h | h
          · rw [u6at 30 j (by omega) (by omega) (by omega), w4 j h, tp j h]
          · rw [show j = i by omega, h6, up_at, if_neg (by omega), h5, up_at, if_pos ⟨rfl, rfl⟩, tpi]
        · show _ = nI (if col' i = c' then _ else _)
          rw [tpi, ecm]
          by_cases h : c = c'
          · rw [if_pos h, h6, up_at, if_pos ⟨rfl, h.symm⟩, h]
          · rw [if_neg h, u6at 32 c' (by omega) (by omega) (fun e => h e.2.symm), w5 c' hc']
        · rw [h6, up_at, if_neg (by omega), h5, up_at, if_neg (by omega), h4, up_at, if_pos ⟨rfl, rfl⟩]
          congr 1
          omega
      have key2 : ∀ n c, c + n = i → (∀ c', c' < c → ∃ j, j < i ∧ col j = c' ∧ ¬ shN S o z j i) → AW G (d + 4) M_CO_takeInTurn Q 17 [some (.inr 27), some (.inl (nI i)), some (.inl (nI c)), none] [] w := by
        intro n
        induction n with
        | zero =>
          intro c hc hl
          have hci : c = i := by omega
          subst hci
          refine vc_CO_takeInTurn_17 ⟨fun _ => ⟨n_in (by omega) (by omega), n_in (by omega) (by omega), ?_⟩, fun h => absurd ((n_le (by omega) (by omega)).mpr (Nat.le_refl _)) h⟩
          rw [n_ix (by omega), zd1]
          refine sp_widthOf hZw.1.1 hZw.1.2 zd2 ?_
          rw [if_neg zd3, we, n_p1]
          exact fun y3 hy3 => ⟨n_in (by omega) (by omega), fun u4 h4 => ⟨n_in (by omega) (by omega), fun u5 h5 => ⟨n_in (by omega) (by omega), fun u6 h6 => take c (Nat.le_refl _) (fun j hj he => absurd (hle j hj) (by omega)) hl y3 hy3 u4 h4 u5 h5 u6 h6⟩⟩⟩
        | succ n ihn =>
          intro c hc hl
          refine vc_CO_takeInTurn_17 ⟨fun h => absurd ((n_le (by omega) (by omega)).mp h) (by omega), fun _ => ?_⟩
          refine sp_canStand_c hZw.1 hm (fun k hk => ⟨(hZw.2.2 k hk).1, (hZw.2.2 k hk).2.1⟩) (t := col) (show i < m by omega) (show c < 60 by omega) (fun j hj => ⟨w4 j hj, by have := hle j hj; omega⟩) ?_
          rw [bc_0]
          refine ⟨fun hs => ⟨n_in (by omega) (by omega), n_in (by omega) (by omega), ?_⟩, fun hs => ?_⟩
          · rw [n_ix (show i < 2147483648 by omega), n_ix (show c < 2147483648 by omega), zd1]
            refine sp_widthOf hZw.1.1 hZw.1.2 zd2 ?_
            rw [if_neg zd3, we, n_p1]
            exact fun y3 hy3 => ⟨n_in (by omega) (by omega), fun u4 h4 => ⟨n_in (by omega) (by omega), fun u5 h5 => ⟨n_in (by omega) (by omega), fun u6 h6 => take c (by omega) (Classical.not_not.mp hs) hl y3 hy3 u4 h4 u5 h5 u6 h6⟩⟩⟩
          · rw [n_p1]
            refine ihn (c + 1) (by omega) (fun c' hc' => ?_)
            rcases Nat.lt_or_ge c' c with h | h
            · exact hl c' h
            · have hcc : c' = c := by omega
              subst hcc
              apply Classical.byContradiction
              intro hno
              exact hs (fun j hj he => Classical.byContradiction (fun hns => hno ⟨j, hj, he, hns⟩))
      exact key2 i 0 (by omega) (fun c' hc' => absurd hc' (Nat.not_lt_zero c'))
  exact key m 0 u1 (fun _ => 0) (by omega) (fun c a b e => by funext j; rw [h1, up_at, if_neg (by omega)]) (fun j hj => by rw [h1, up_at, if_neg (by omega)]) (fun i hi => absurd hi (Nat.not_lt_zero i)) (fun j hj => absurd hj (Nat.not_lt_zero j)) (fun c hc => by rw [h1, up_at, if_neg (by omega), h32 c hc]; rfl) (by rw [h1, up_at, if_pos ⟨rfl, rfl⟩, sWd_0]; rfl)
end
/-- the columns of the chord at place p, by the document: m signs in zigzag z, their columns, the sum -/
def ColS (S : Sc) (o : Nat → Nat) (p m : Nat) (z col : Nat → Nat) : Prop := p < S.1 ∧ Beg S o p ∧ m ≤ 60 ∧ (∃ q f, EndIs S o p q ∧ Lst (tR S) (sgP S o p q) m f ∧ ∀ i, i < m → z i = zzF f m i) ∧ (m ≤ 6 → Opt (VF (shN S o z) m) (wN S o z) m col) ∧ (6 < m → GrI (shN S o z) m col)
def ColI (S : Sc) (o : Nat → Nat) (p : Nat) (μ : Mem) : Prop := ∃ m z col, ColS S o p m z col ∧ μ 27 7 = nI m ∧ (∀ i, i < m → μ 29 i = nI (z i)) ∧ (∀ i, i < m → μ 30 i = nI (col i)) ∧ μ 27 8 = nI (sWd (wN S o z) col m 60)
theorem zz_mem {m i : Nat} {f : Nat → Nat} (hi : i < m) : ∃ r, r < m ∧ zzF f m i = f r := by
  unfold zzF
  split
  · exact ⟨i / 2, by omega, rfl⟩
  · exact ⟨m - 1 - i / 2, by omega, rfl⟩
theorem zz_sur {m r : Nat} (f : Nat → Nat) (hr : r < m) : ∃ i, i < m ∧ zzF f m i = f r := by
  by_cases h : 2 * r < m
  · exact ⟨2 * r, h, by unfold zzF; rw [if_pos (by omega), show 2 * r / 2 = r by omega]⟩
  · exact ⟨2 * (m - 1 - r) + 1, by omega, by unfold zzF; rw [if_neg (by omega), show m - 1 - (2 * (m - 1 - r) + 1) / 2 = r by omega]⟩
section
variable {G : Gp} {d : Nat} {S : Sc} {o : Nat → Nat} {μ : Mem} {Q : Int32 → Mem → Prop}
theorem sp_colLayOut (hX : CoX S o μ) {p : Nat} (hp : p < S.1) (hb : Beg S o p) (hC : μ 27 9 = -1 ∨ ∃ p', μ 27 9 = nI p' ∧ p' < S.1 ∧ ColI S o p' μ) (hq : ∀ u, (∀ c, (c < 27 ∨ 32 < c) → u c = μ c) → u 27 9 = nI p → ColI S o p u → Q 0 u) : Ct G (d + 12) M_CO_layOut [.inr 27, .inl (nI p)] μ Q := by
  have h60 := hX.1.n60
  refine en_CO_layOut (vc_CO_layOut_0 ⟨fun _ u1 h1 => ?_, fun h => ?_⟩)
  · have hX1 : CoX S o u1 := hX.congr (fun c hc => by funext j; rw [h1, up_at, if_neg (by omega)])
    refine sp_chordEnd hX1.1 hp (fun q hE => ?_)
    refine sp_collect hX1 hE (fun u4 m f a1 a2 a3 a4 a5 a6 => ?_)
    refine sp_zigzag a4 a3 a5 (fun u5 b1 b2 => ?_)
    refine sp_fill_32 ?_
    generalize hu6 : fil u5 32 60 0 = u6
    have u6at : ∀ c j, c ≠ 32 → u6 c j = u5 c j := fun c j hc => by rw [← hu6]; unfold fil; rw [if_neg (by omega)]
    have u6z : ∀ c, c < 60 → u6 32 c = 0 := fun c hc => by rw [← hu6]; unfold fil; rw [if_pos ⟨rfl, hc⟩]
    have hX6 : CoX S o u6 := hX1.congr (fun c hc => by funext j; rw [u6at c j (by omega), b1 c (by omega), a1 c (by omega) (by omega)])
    have h7 : u6 27 7 = nI m := by rw [u6at 27 7 (by omega), b1 27 (by omega)]; exact a3
    have h9 : u6 27 9 = nI p := by rw [u6at 27 9 (by omega), b1 27 (by omega), a2 9 (by omega), h1, up_at, if_pos ⟨rfl, rfl⟩]
    have hZ6 : ZzI S o (zzF f m) m u6 := by
      refine ⟨hX6, h7, fun i hi => ?_⟩
      obtain ⟨r, r1, r2⟩ := zz_mem (f := f) hi
      obtain ⟨r', g1, g2, g3, g4⟩ := a6.1 r r1
      rw [u6at 29 i (by omega), b2 i hi, r2]
      refine ⟨rfl, ?_, g4⟩
      rw [← g3]; exact hX.1.2.1.1 r' (by have := hE.2.1; omega)
    have hout : ∀ c, (c < 27 ∨ 32 < c) → u6 c = μ c := fun c hc => by funext j; rw [u6at c j (by omega), b1 c (by omega), a1 c (by omega) (by omega), h1, up_at, if_neg (by omega)]
    have hS0 : ∀ col, (m ≤ 6 → Opt (VF (shN S o (zzF f m)) m) (wN S o (zzF f m)) m col) → (6 < m → GrI (shN S o (zzF f m)) m col) → ColS S o p m (zzF f m) col := fun col c1 c2 => ⟨hp, hb, a4, ⟨q, f, hE, a6, fun _ _ => rfl⟩, c1, c2⟩
    rw [h7]
    refine ⟨fun h6 => ?_, fun h6 u8 h8 => ?_⟩
    · have h6 : 6 < m := (n_lt (a := 6) (by omega) (by omega)).mp h6
      refine sp_takeInTurn a4 hZ6 u6z (fun u7 col e1 e2 e3 e4 e5 => hq u7 (fun c hc => by rw [e1 c (by omega) (by omega) (by omega), hout c hc]) (by rw [e2 9 (by omega)]; exact h9) ⟨m, zzF f m, col, hS0 col (fun h => absurd h (by omega)) (fun _ => e3), by rw [e2 7 (by omega)]; exact h7, fun i hi => by rw [e1 29 (by omega) (by omega) (by omega)]; exact (hZ6.2.2 i hi).1, e4, e5⟩)
    · have h6 : m ≤ 6 := by
        rcases Nat.lt_or_ge 6 m with h | h
        · exact absurd ((n_lt (a := 6) (by omega) (by omega)).mpr h) h6
        · exact h
      have hZ8 : ZzI S o (zzF f m) m u8 := hZ6.congr (fun c a b e g => by funext j; rw [h8, up_at, if_neg (by omega)]) (by rw [h8, up_at, if_neg (by omega)])
      have hX8 : SrX S o (zzF f m) (fun _ => 0) m 0 u8 := ⟨hZ8, fun i hi => absurd hi (Nat.not_lt_zero i), fun c hc => by rw [h8, up_at, if_neg (by omega), u6z c (by omega)]; rfl⟩
      have hs := sp_search (G := G) (d := d + 7 - m) (S := S) (o := o) (z := zzF f m) h6 m 0 (fun _ => 0) u8 (fun _ u9 => Q 0 u9) (by omega) hX8 ⟨fun i hi => absurd hi (Nat.not_lt_zero i), fun j i _ hi => absurd hi (Nat.not_lt_zero i)⟩ (fun i hi => absurd hi (Nat.not_lt_zero i)) (Or.inl ⟨by rw [h8, up_at, if_pos ⟨rfl, rfl⟩], fun v _ ⟨k, hk, _⟩ => absurd hk (Nat.not_lt_zero k)⟩) (fun u9 e1 e2 e3 e4 e5 => ?_)
      · rw [show d + 7 - m + m + 4 = d + 11 by omega, sWd_0] at hs
        exact hs
      · have u9o : ∀ c, (c < 27 ∨ 32 < c) → u9 c = μ c := fun c hc => by rw [e1 c (by omega) (by omega) (by omega) (by omega)]; funext j; rw [h8, up_at, if_neg (by omega), hout c hc]
        have u99 : u9 27 9 = nI p := by rw [e2 9 (by omega), h8, up_at, if_neg (by omega)]; exact h9
        rcases e5 with ⟨-, b⟩ | ⟨col, a, b, c, e, f'⟩
        · exact absurd (Or.inr (fun j hj => absurd hj (Nat.not_lt_zero j))) (b (fun i => i) (id_VR _ h6))
        · have hopt : Opt (VR (shN S o (zzF f m)) m) (wN S o (zzF f m)) m col := ⟨b, fun v hv => f' v hv (Or.inr (fun j hj => absurd hj (Nat.not_lt_zero j)))⟩
          refine hq u9 u9o u99 ⟨m, zzF f m, col, hS0 col (fun _ => hopt.full h6) (fun h => absurd h (by omega)), ?_, fun i hi => ?_, c, ?_⟩
          · rw [e2 7 (by omega)]; exact hZ8.2.1
          · rw [e1 29 (by omega) (by omega) (by omega) (by omega)]; exact (hZ8.2.2 i hi).1
          · rw [a, ← sWd_ext (w := wN S o (zzF f m)) (C := 6) b.1.1 54]
  · rcases hC with hC | ⟨p', h1, h2, h3⟩
    · rw [hC] at h; exact absurd h (n_ne1 (by omega))
    · rw [h1] at h
      have hpp : p = p' := (n_inj (by omega) (by omega)).mp h
      subst hpp
      exact hq μ (fun _ _ => rfl) h1 h3
theorem sp_columnOf {m j : Nat} {z : Nat → Nat} (hm : m ≤ 60) (hj : j < 2147483648) (h7 : μ 27 7 = nI m) (h29 : ∀ i, i < m → μ 29 i = nI (z i) ∧ z i < 60) (hn : (∀ i, i < m → z i ≠ j) → Q (-1) μ) (hq : ∀ i, i < m → z i = j → (∀ i', i' < i → z i' ≠ j) → Q (μ 30 i) μ) : Ct G d M_CO_columnOf [.inr 27, .inl (nI j)] μ Q := by
  refine en_CO_columnOf (vc_CO_columnOf_0 ?_)
  have key : ∀ n k, k + n = m → (∀ i', i' < k → z i' ≠ j) → AW G d M_CO_columnOf Q 2 [some (.inr 27), some (.inl (nI j)), some (.inl (nI k))] [] μ := by
    intro n
    induction n with
    | zero =>
      intro k hk h
      refine vc_CO_columnOf_2 ?_
      rw [h7]
      exact ⟨fun _ => hn (fun i hi => h i (by omega)), fun h2 => absurd ((n_le (by omega) (by omega)).mpr (by omega)) h2⟩
    | succ n ih =>
      intro k hk h
      obtain ⟨z1, z2⟩ := h29 k (by omega)
      refine vc_CO_columnOf_2 ?_
      rw [h7, n_ix (by omega), z1, n_p1]
      refine ⟨fun h2 => absurd ((n_le (by omega) (by omega)).mp h2) (by omega), fun _ => ⟨n_in (by omega) (by omega), fun h2 => ?_, fun h2 => ⟨n_in (by omega) (by omega), hq k (by omega) ((n_inj (by omega) hj).mp h2) h⟩⟩⟩
      refine ih (k + 1) (by omega) (fun i' hi' => ?_)
      rcases Nat.lt_or_ge i' k with h3 | h3
      · exact h i' h3
      · rw [show i' = k by omega]; exact fun e => h2 (by rw [e])
  exact key m 0 (by omega) (fun i' hi' => absurd hi' (Nat.not_lt_zero i'))
end
