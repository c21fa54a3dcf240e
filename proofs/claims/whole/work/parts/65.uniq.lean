/-! answers are told apart by nothing -/
theorem end_uniq {S : Sc} {o : Nat → Nat} {p q q' : Nat} (h : EndIs S o p q) (h' : EndIs S o p q') : q = q' := by
  obtain ⟨a1, a2, a3, a4⟩ := h
  obtain ⟨b1, b2, b3, b4⟩ := h'
  rcases Nat.lt_trichotomy q q' with h | h | h
  · exact absurd (b3 q (by omega) h) (a4 (by omega))
  · exact h
  · exact absurd (a3 q' (by omega) h) (b4 (by omega))
theorem VF_congr {sh sh' : Nat → Nat → Prop} {m : Nat} (h : ∀ i j, i < m → j < m → (sh i j ↔ sh' i j)) {v : Nat → Nat} (hv : VF sh m v) : VF sh' m v :=
  ⟨⟨hv.1.1, fun j i a b c => (h j i (by omega) b).mp (hv.1.2 j i a b c)⟩, hv.2⟩
theorem cMx_w {w w' col : Nat → Nat} : ∀ n, (∀ i, i < n → w i = w' i) → ∀ c, cMx w col n c = cMx w' col n c := by
  intro n
  induction n with
  | zero => intro _ c; rfl
  | succ n ih => intro h c; unfold cMx; rw [h n (by omega), ih (fun i hi => h i (by omega))]
theorem sWd_w {w w' col : Nat → Nat} {n : Nat} (h : ∀ i, i < n → w i = w' i) : ∀ C, sWd w col n C = sWd w' col n C := by
  intro C
  induction C with
  | zero => rfl
  | succ C ih => unfold sWd; rw [ih, cMx_w n h]
theorem col_uniq {S : Sc} {o : Nat → Nat} (hO : Ord S o) {p p' m m' : Nat} {z z' col col' : Nat → Nat} (h : ColS S o p m z col) (h' : ColS S o p' m' z' col') (hw : wh S (o p) = wh S (o p')) : m = m' ∧ (∀ i, i < m → z i = z' i) ∧ (∀ i, i < m → col i = col' i) ∧ sWd (wN S o z) col m 60 = sWd (wN S o z') col' m' 60 := by
  obtain ⟨a1, a2, a3, ⟨q, f, a4, a5, a6⟩, a7, a8⟩ := h
  obtain ⟨b1, b2, b3, ⟨q', f', b4, b5, b6⟩, b7, b8⟩ := h'
  have hp : p = p' := beg_uniq hO a1 b1 a2 b2 hw
  subst hp
  have hq := end_uniq a4 b4
  subst hq
  obtain ⟨hm, hf⟩ := a5.uniq tR_irr tR_tr b5
  subst hm
  have hz : ∀ i, i < m → z i = z' i := fun i hi => by
    rw [a6 i hi, b6 i hi]
    unfold zzF
    split
    · exact hf _ (by omega)
    · exact hf _ (by omega)
  have hsh : ∀ i j, i < m → j < m → (shN S o z i j ↔ shN S o z' i j) := fun i j hi hj => by unfold shN; rw [hz i hi, hz j hj]
  have hwn : ∀ i, i < m → wN S o z i = wN S o z' i := fun i hi => by unfold wN; rw [hz i hi]
  have hcol : ∀ i, i < m → col i = col' i := by
    rcases Nat.lt_or_ge 6 m with h | h
    · refine (a8 h).uniq (fun i hi => ?_)
      obtain ⟨c1, c2⟩ := b8 h i hi
      exact ⟨fun j hj e => (hsh j i (by omega) hi).mpr (c1 j hj e), fun c hc => by obtain ⟨j, j1, j2, j3⟩ := c2 c hc; exact ⟨j, j1, j2, fun e => j3 ((hsh j i (by omega) hi).mp e)⟩⟩
    · have o1 := a7 h
      have o2 := b7 h
      refine o1.uniq ⟨VF_congr (fun i j hi hj => (hsh i j hi hj).symm) o2.1, fun v hv => ?_⟩
      have := o2.2 v (VF_congr hsh hv)
      rw [sWd_w hwn, sWd_w hwn]; exact this
  refine ⟨rfl, hz, hcol, ?_⟩
  rw [sWd_w hwn, sWd_congr hcol]
theorem aCol_u {S : Sc} {o : Nat → Nat} (hO : Ord S o) {j : Nat} {r r' : Int32} (h : aCol S o j r) (h' : aCol S o j r') : r = r' := by
  rcases h with ⟨h1, h2⟩ | ⟨h1, p, m, z, col, i, c1, c2, c3, c4, c5, c6⟩
  · rcases h' with ⟨g1, g2⟩ | ⟨g1, -⟩
    · rw [h2, g2]
    · exact absurd h1 g1
  · rcases h' with ⟨g1, g2⟩ | ⟨g1, p', m', z', col', i', d1, d2, d3, d4, d5, d6⟩
    · exact absurd g1 h1
    · obtain ⟨e1, e2, e3, -⟩ := col_uniq hO c1 d1 (by rw [c2, d2])
      subst e1
      have hi : i = i' := by
        rcases Nat.lt_trichotomy i i' with h | h | h
        · exact absurd ((e2 i c3).symm.trans c4) (d5 i h)
        · exact h
        · exact absurd ((e2 i' d3).trans d4) (c5 i' h)
      subst hi
      rw [c6, d6, e3 i c3]
theorem n_ne {a b : Nat} (ha : a < 100) (hb : b < 100) (h : a ≠ b) {x : Int32} (h1 : x = nI a) (h2 : x = nI b) : False := h ((n_inj (by omega) (by omega)).mp (h1.symm.trans h2))
theorem aSign_u {S : Sc} {o : Nat → Nat} (hO : Ord S o) {K : Nat → Int32} {x y r r' : Int32} (h : aSign S o K x y r) (h' : aSign S o K x y r') : r = r' := by
  have z0 : (nI 0).toInt = 0 := n_i (by omega)
  have z1 : (nI 1).toInt = 1 := n_i (by omega)
  have z2 : (nI 2).toInt = 2 := n_i (by omega)
  have z3 : (nI 3).toInt = 3 := n_i (by omega)
  have z4 : (nI 4).toInt = 4 := n_i (by omega)
  have z5 : (nI 5).toInt = 5 := n_i (by omega)
  rcases h with ⟨h1, h2⟩ | ⟨h1, h2⟩
  · rcases h' with ⟨g1, g2⟩ | ⟨g1, -⟩
    · rw [h2, g2]
    · exact absurd g1 h1
  · rcases h' with ⟨g1, -⟩ | ⟨g1, g2⟩
    · exact absurd h1 g1
    · simp only [i_eq (a := y), z0, z1, z2, z3, z4, z5] at h2 g2
      rcases h2 with ⟨a, b⟩ | ⟨a, b⟩ | ⟨a, b⟩ | ⟨a, b⟩ | ⟨a, b⟩ | ⟨a, b⟩ | ⟨a, b⟩ <;> rcases g2 with ⟨c, e⟩ | ⟨c, e⟩ | ⟨c, e⟩ | ⟨c, e⟩ | ⟨c, e⟩ | ⟨c, e⟩ | ⟨c, e⟩ <;> first | (exfalso; omega) | (exact b.trans e.symm) | (exact aCol_u hO b e)
theorem aCount_u {S : Sc} {o : Nat → Nat} {x r r' : Int32} (h : aCount S o x r) (h' : aCount S o x r') : r = r' := by
  have z0 : (nI 0).toInt = 0 := n_i (by omega)
  have z1 : (nI 1).toInt = 1 := n_i (by omega)
  have z2 : (nI 2).toInt = 2 := n_i (by omega)
  have z3 : (nI 3).toInt = 3 := n_i (by omega)
  unfold aCount at h h'
  simp only [i_eq (a := x), z0, z1, z2, z3] at h h'
  rcases h with ⟨a, b⟩ | ⟨a, b⟩ | ⟨a, b⟩ | ⟨a, b⟩ | ⟨a, b⟩ <;> rcases h' with ⟨c, e⟩ | ⟨c, e⟩ | ⟨c, e⟩ | ⟨c, e⟩ | ⟨c, e⟩ <;> first | (exfalso; omega) | (exact b.trans e.symm)
theorem aOrd_u {S : Sc} {o : Nat → Nat} {x r r' : Int32} (h : aOrd S o x r) (h' : aOrd S o x r') : r = r' := by
  rcases h with ⟨a, b⟩ | ⟨a, b⟩ <;> rcases h' with ⟨c, e⟩ | ⟨c, e⟩
  · rw [b, e]
  · exact absurd c a
  · exact absurd a c
  · rw [b, e]
theorem aExt_u {S : Sc} {o : Nat → Nat} (hO : Ord S o) {b t r r' : Int32} (h : aExt S o b t r) (h' : aExt S o b t r') : r = r' := by
  rcases h with ⟨h1, h2⟩ | ⟨p, m, z, col, c1, c2, c3, c4, c5⟩
  · rcases h' with ⟨g1, g2⟩ | ⟨p', m', z', col', d1, d2, d3, d4, d5⟩
    · rw [h2, g2]
    · exact absurd ⟨d2, d3⟩ (h1 (o p') (hO.1 p' d1))
  · rcases h' with ⟨g1, g2⟩ | ⟨p', m', z', col', d1, d2, d3, d4, d5⟩
    · exact absurd ⟨c2, c3⟩ (g1 (o p) (hO.1 p c1))
    · obtain ⟨-, -, -, e⟩ := col_uniq hO c4 d4 (by unfold wh; rw [c2, c3, d2, d3])
      rw [c5, d5, e]
theorem aKs_u {S : Sc} {K : Nat → Int32} {x r r' : Int32} (h : aKs S K x r) (h' : aKs S K x r') : r = r' := by
  rcases h with ⟨a, b⟩ | ⟨a, b⟩ <;> rcases h' with ⟨c, e⟩ | ⟨c, e⟩
  · rw [b, e]
  · exact absurd c a
  · exact absurd a c
  · rw [b, e]
theorem aKey_u {S : Sc} {K : Nat → Int32} {x i y r r' : Int32} (h : aKey S K x i y r) (h' : aKey S K x i y r') : r = r' := by
  rcases h with ⟨a, b⟩ | ⟨a, b⟩ <;> rcases h' with ⟨c, e⟩ | ⟨c, e⟩
  · rw [b, e]
  · exact absurd c a
  · exact absurd a c
  · rcases b with ⟨a, b⟩ | ⟨a, b⟩ <;> rcases e with ⟨c, e⟩ | ⟨c, e⟩
    · rw [b, e]
    · exact absurd c a
    · exact absurd a c
    · rw [b, e]
theorem aDot_u {S : Sc} {o : Nat → Nat} (hB : Bd S) (hO : Ord S o) {K : Nat → Int32} (hK : ∀ b, b < 20 → rg (K b) 0 2) {x r r' : Int32} (h : aDot S o K x r) (h' : aDotR S K x r') : r = r' := by
  rcases h with ⟨h1, h2⟩ | ⟨h1, h2⟩
  · rcases h' with ⟨g1, g2⟩ | ⟨g1, -⟩
    · rw [h2, g2]
    · exact absurd g1 h1
  · rcases h' with ⟨g1, -⟩ | ⟨g1, g2⟩
    · exact absurd h1 g1
    · rcases h2 with ⟨a, b⟩ | ⟨a, p, m, f, lo, N, b, i, d1, d2, d3, d4, d5⟩
      · rcases g2 with ⟨c, e⟩ | ⟨c, -⟩
        · rw [b, e]
        · exact absurd a c
      · rcases g2 with ⟨c, e⟩ | ⟨c, m', f', b', i', e1, e2, e3, e4, e5, e6⟩
        · exact absurd c a
        · have hix := ix_i h1.1
          have hjS : ix x < S.1 := by have := h1.2; omega
          obtain ⟨s1, s2, s3, s4, ⟨q, s5, s6⟩, s7, s8, s9, s10, s11, s12, s13, s14, s15, s16⟩ := d1
          have hL : Lst gtR (rdP S (ix x) S.1) m f := s6.congrP (fun y => by
            constructor
            · rintro ⟨t, t1, t2, t3, t4⟩
              have ht : t < S.1 := by have := s5.2.1; omega
              exact ⟨o t, hO.1 t ht, t3, by rw [s5.2.2.1 t t1 t2]; exact d2, t4⟩
            · rintro ⟨w, w1, w2, w3, w4⟩
              obtain ⟨t, ht, e⟩ := hO.2.2 w w1
              obtain ⟨g1, g2⟩ := ch_in hO s5 s2 (Nat.le_refl p) s5.1 ht (by rw [e, w3, d2])
              exact ⟨t, g1, g2, by rw [e]; exact w2, by rw [e]; exact w4⟩)
          have irr : ∀ y, ¬ gtR y y := fun y => Nat.lt_irrefl y
          obtain ⟨hm, hf⟩ := hL.uniq irr (fun x y z (h1 : y < x) (h2 : z < y) => (by show z < x; omega)) e1
          subst hm
          have hii : i = i' := hL.inj irr d3 e4 (by rw [d4, hf i' e4, e5])
          subst hii
          obtain ⟨-, hb20⟩ := ba_n hB hjS
          obtain ⟨l1, l2, l3⟩ := lo_bd (hK (baN S (ix x)) hb20)
          generalize (loF (K (baN S (ix x)))).toInt = B at *
          have hE : ∃ e : Nat, lo - 2 * (e : Int) = B - 199 := ⟨((lo - B + 199) / 2).toNat, by omega⟩
          obtain ⟨e, he⟩ := hE
          have e3' : Chs (fun i => (f i : Int)) (lo - 2 * (e : Int)) m 200 b' := by
            rw [he]
            intro t ht
            have := e3 t ht
            have gq : ∀ k, k < m → ∀ jj, GQ (fun i => (f' i : Int)) (B - 199) m k jj = GQ (fun i => (f i : Int)) (B - 199) m k jj := by
              intro k
              induction k with
              | zero => intro _ jj; unfold GQ; rw [hf (m - 1) (by omega)]
              | succ k ih =>
                intro hk jj
                unfold GQ
                rw [hf (m - 1 - (k + 1)) (by omega), show GQ (fun i => (f' i : Int)) (B - 199) m k = GQ (fun i => (f i : Int)) (B - 199) m k from funext (ih (by omega))]
            rw [show GQ (fun i => (f' i : Int)) (B - 199) m (m - 1 - t) = GQ (fun i => (f i : Int)) (B - 199) m (m - 1 - t) from funext (gq _ (by omega))] at this
            exact this
          have hsh := Chs_shift (e := e) (N' := 200) s13 s10 s14 (by omega) s15 e3' i d3
          rw [i_eq, d5, e6, hsh]
          omega
