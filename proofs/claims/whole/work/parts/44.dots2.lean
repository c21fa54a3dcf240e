/-! class DotSpaces: the choice, the lay-out, the question -/
section
variable {G : Gp} {d : Nat} {S : Sc} {o : Nat → Nat} {μ : Mem} {Q : Int32 → Mem → Prop}
theorem sp_chooseSpaces {f : Nat → Nat} {m N : Nat} {lo : Int} (hX : DtX f m N lo μ) (hT : ∀ i j, i < m → j < N → μ 37 (96 * i + j) = nI (cst (fun i => (f i : Int)) lo m (m - 1 - i) j)) (hq : ∀ u b, (∀ c, c ≠ 36 → u c = μ c) → Chs (fun i => (f i : Int)) lo m N b → (∀ i, i < m → (u 36 i).toInt = lo + 2 * (b i : Int) ∧ b i < N) → Q 0 u) : Ct G (d + 1) M_DS_chooseSpaces [.inr 33] μ Q := by
  obtain ⟨x1, x2, x3, x4, x5, x6, x7, x8, x9, x10⟩ := hX
  have hdist : ∀ i j, i < m → j < N → (lo + 2 * (j : Int) - (f i : Int)).natAbs ≤ 400 := fun i j hi hj => by have := (x10 i hi).2; omega
  have hbd := GQ_bd (D := fun i => (f i : Int)) (lo := lo) (m := m) (N := N) (B := 400) hdist
  have hlt6 : ∀ k j, k < m → k ≤ j → j < N → GQ (fun i => (f i : Int)) lo m k j < 1000000 := fun k j hk hj hN => by
    have h1 := hbd k hk j hj hN
    have h2 : 400 * (k + 1) ≤ 400 * 60 := Nat.mul_le_mul_left 400 (by omega)
    omega
  refine en_DS_chooseSpaces (vc_DS_chooseSpaces_0 ?_)
  intro y hy
  rw [x7] at hy
  subst hy
  have key : ∀ n i (w : Mem) (b : Nat → Nat) (un : Nat), i + n = m → (∀ c, c ≠ 36 → w c = μ c) → (∀ i', i' < i → HiM (GQ (fun i => (f i : Int)) lo m (m - 1 - i')) (m - 1 - i') (if i' = 0 then N else b (i' - 1)) (b i')) → un = (if i = 0 then N else b (i - 1)) → m - i ≤ un → un ≤ N → (∀ i', i' < i → (w 36 i').toInt = lo + 2 * (b i' : Int) ∧ b i' < N) → AW G (d + 1) M_DS_chooseSpaces Q 7 [some (.inr 33), some (.inl (nI un)), some (.inl (nI i)), none, none] [] w := by
    intro n
    induction n with
    | zero =>
      intro i w b un hi w1 w2 hun h1 h2 w3
      have him : i = m := by omega
      subst him
      refine vc_DS_chooseSpaces_7 ?_
      rw [w1 33 (by omega), x5]
      exact ⟨fun _ => hq w b w1 w2 w3, fun h => absurd ((n_le (by omega) (by omega)).mpr (by omega)) h⟩
    | succ n ih =>
      intro i w b un hi w1 w2 hun h1 h2 w3
      refine vc_DS_chooseSpaces_7 ?_
      rw [w1 33 (by omega), x5]
      refine ⟨fun h => absurd ((n_le (by omega) (by omega)).mp h) (by omega), fun _ y1 hy1 y2 hy2 => ?_⟩
      obtain ⟨un', rfl⟩ : ∃ un', un = un' + 1 := ⟨un - 1, by omega⟩
      rw [n_s1] at hy1
      subst hy1
      have hy2' : y2 = nI un' + (-1) := by
        rw [hy2, show (2 : Int32) = 1 + 1 from rfl, ← Int32.sub_sub, n_s1, Int32.sub_eq_add_neg]
      rw [hy2']
      have h6 : (w 33 6).toInt = lo := by rw [w1 33 (by omega)]; exact x6
      have tab : ∀ j, j < N → w 37 (96 * i + j) = nI (cst (fun i => (f i : Int)) lo m (m - 1 - i) j) := fun j hj => by rw [w1 37 (by omega)]; exact hT i j (by omega) hj
      have hcl : ∀ j, j < N → cst (fun i => (f i : Int)) lo m (m - 1 - i) j ≤ 1000000 := fun j hj => by
        unfold cst
        split
        · exact Nat.le_refl _
        · rename_i hk; have := hlt6 (m - 1 - i) j (by omega) (by omega) hj; omega
      have key2 : ∀ c r, c ≤ un' → c ≤ r → r ≤ un' → (∀ j, c ≤ j → j ≤ un' → cst (fun i => (f i : Int)) lo m (m - 1 - i) r ≤ cst (fun i => (f i : Int)) lo m (m - 1 - i) j) → (∀ j, r < j → j ≤ un' → cst (fun i => (f i : Int)) lo m (m - 1 - i) r < cst (fun i => (f i : Int)) lo m (m - 1 - i) j) → AW G (d + 1) M_DS_chooseSpaces Q 24 [some (.inr 33), none, some (.inl (nI i)), some (.inl (nI r)), some (.inl (nI c + (-1)))] [] w := by
        intro c
        induction c with
        | zero =>
          intro r _ hcr hru g1 g2
          refine vc_DS_chooseSpaces_24 ⟨fun _ => sp_spaceAt h6 ⟨x8, x9⟩ (by omega) (fun x hx => ⟨n_in (by omega) (by omega), fun u3 h3 => ?_⟩), fun h => absurd (by decide) h⟩
          rw [n_ix (by omega)] at h3
          have hrk : m - 1 - i ≤ r := by
            rcases Nat.lt_or_ge r (m - 1 - i) with h | h
            · have e1 := g1 un' (Nat.zero_le _) (Nat.le_refl _)
              have e2 : cst (fun i => (f i : Int)) lo m (m - 1 - i) r = 1000000 := by unfold cst; rw [if_pos h]
              have e3 : cst (fun i => (f i : Int)) lo m (m - 1 - i) un' = GQ (fun i => (f i : Int)) lo m (m - 1 - i) un' := by unfold cst; rw [if_neg (by omega)]
              have := hlt6 (m - 1 - i) un' (by omega) (by omega) (by omega)
              omega
            · exact h
          have er : cst (fun i => (f i : Int)) lo m (m - 1 - i) r = GQ (fun i => (f i : Int)) lo m (m - 1 - i) r := by unfold cst; rw [if_neg (by omega)]
          have hH : HiM (GQ (fun i => (f i : Int)) lo m (m - 1 - i)) (m - 1 - i) (un' + 1) r := by
            refine ⟨hrk, by omega, fun j a c => ?_, fun j a c => ?_⟩
            · have := g1 j (Nat.zero_le _) (by omega)
              rw [er] at this
              unfold cst at this
              rw [if_neg (by omega)] at this; exact this
            · have := g2 j a (by omega)
              rw [er] at this
              unfold cst at this
              rw [if_neg (by omega)] at this; exact this
          rw [n_p1]
          refine ih (i + 1) u3 (fun i' => if i' = i then r else b i') r (by omega) (fun c hc => by funext j; rw [h3, up_at, if_neg (by omega), w1 c hc]) (fun i' hi' => ?_) ?_ (by omega) (by omega) (fun i' hi' => ?_)
          · show HiM _ _ (if i' = 0 then N else (if i' - 1 = i then r else b (i' - 1))) (if i' = i then r else b i')
            rcases Nat.lt_or_ge i' i with h | h
            · rw [if_neg (show ¬ i' - 1 = i by omega), if_neg (show ¬ i' = i by omega)]; exact w2 i' h
            · have e : i' = i := by omega
              subst e
              rw [if_pos rfl]
              by_cases h0 : i' = 0
              · rw [if_pos h0] at hun ⊢; rw [← hun]; exact hH
              · rw [if_neg h0] at hun ⊢; rw [if_neg (by omega), ← hun]; exact hH
          · rw [if_neg (by omega), Nat.add_sub_cancel, if_pos rfl]
          · show _ = _ + 2 * (((if i' = i then r else b i') : Nat) : Int) ∧ (if i' = i then r else b i') < N
            rcases Nat.lt_or_ge i' i with h | h
            · rw [if_neg (show ¬ i' = i by omega), h3, up_at, if_neg (by omega)]; exact w3 i' h
            · have e : i' = i := by omega
              subst e
              rw [if_pos rfl, h3, up_at, if_pos ⟨rfl, rfl⟩]
              exact ⟨hx, by omega⟩
        | succ c ihc =>
          intro r hcu hcr hru g1 g2
          rw [n_m1]
          refine vc_DS_chooseSpaces_24 ⟨fun h => absurd h (by rw [i_lt, n_i (by omega)]; simp), fun _ => ?_⟩
          rw [tix, tix, n_ix (by omega), n_ix (by omega), tab c (by omega), tab r (by omega)]
          have l1 := hcl c (by omega)
          have l2 := hcl r (by omega)
          refine ⟨n_in (by omega) (by omega), n_in (by omega) (by omega), fun h => ?_, fun h => ?_⟩
          · have h := (n_le (by omega) (by omega)).mp h
            refine ihc r (by omega) (by omega) hru (fun j a e => ?_) g2
            rcases Nat.lt_or_ge c j with h3 | h3
            · exact g1 j (by omega) e
            · rw [show j = c by omega]; exact h
          · have h : ¬ cst (fun i => (f i : Int)) lo m (m - 1 - i) r ≤ cst (fun i => (f i : Int)) lo m (m - 1 - i) c := fun e => h ((n_le (by omega) (by omega)).mpr e)
            refine ihc c (by omega) (Nat.le_refl _) (by omega) (fun j a e => ?_) (fun j a e => ?_)
            · rcases Nat.lt_or_ge c j with h3 | h3
              · have := g1 j (by omega) e; omega
              · rw [show j = c by omega]; exact Nat.le_refl _
            · have := g1 j (by omega) e; omega
      exact key2 un' un' (Nat.le_refl _) (Nat.le_refl _) (Nat.le_refl _) (fun j a e => by rw [show j = un' by omega]; exact Nat.le_refl _) (fun j a e => absurd a (by omega))
  exact key m 0 μ (fun _ => 0) N (by omega) (fun _ _ => rfl) (fun i' h => absurd h (Nat.not_lt_zero i')) (by rw [if_pos rfl]) (by omega) (Nat.le_refl _) (fun i' h => absurd h (Nat.not_lt_zero i'))
end
/-- the dots of the chord at place p, by the document, in a range that holds all that matters -/
def DotS (S : Sc) (o : Nat → Nat) (p m : Nat) (f : Nat → Nat) (lo : Int) (N : Nat) (b : Nat → Nat) : Prop := p < S.1 ∧ Beg S o p ∧ 1 ≤ m ∧ m ≤ 60 ∧ (∃ q, EndIs S o p q ∧ Lst gtR (dtP S o p q) m f) ∧ lo % 2 = 1 ∧ -100 ≤ lo ∧ lo ≤ 100 ∧ m ≤ N ∧ N ≤ 96 ∧ lo + 2 * (N : Int) ≤ 135 ∧ (∀ k, k < m → lo + 2 * (k : Int) ≤ (f (m - 1 - k) : Int)) ∧ (∀ k, k < m → (f (m - 1 - k) : Int) ≤ lo + 2 * ((N - m + k : Nat) : Int)) ∧ Chs (fun i => (f i : Int)) lo m N b ∧ ∀ i, i < m → b i < N
def DotI (S : Sc) (o : Nat → Nat) (p : Nat) (μ : Mem) : Prop := ∃ m f lo N b, DotS S o p m f lo N b ∧ μ 33 5 = nI m ∧ (∀ i, i < m → μ 35 i = nI (f i)) ∧ ∀ i, i < m → (μ 36 i).toInt = lo + 2 * (b i : Int)
theorem gt_gap {P : Nat → Prop} {m : Nat} {f : Nat → Nat} (h : Lst gtR P m f) : ∀ j i, i + j < m → f (i + j) + j ≤ f i := by
  intro j
  induction j with
  | zero => intro i _; exact Nat.le_refl _
  | succ j ih =>
    intro i hi
    have h1 := ih i (by omega)
    have h2 : f (i + (j + 1)) < f (i + j) := h.2.1 (i + j) (i + (j + 1)) (by omega) hi
    omega
section
variable {G : Gp} {d : Nat} {S : Sc} {o : Nat → Nat} {μ : Mem} {Q : Int32 → Mem → Prop}
theorem sp_dotLayOut (hI : NoI S o μ) {p j : Nat} (hp : p < S.1) (hb : Beg S o p) (hj : j < S.1) (hjw : wh S j = wh S (o p)) (hjd : S.2 7 j ≠ 0) (hC : μ 33 8 = -1 ∨ ∃ p', μ 33 8 = nI p' ∧ p' < S.1 ∧ DotI S o p' μ) (hq : ∀ u, (∀ c, (c < 33 ∨ 37 < c) → u c = μ c) → u 33 8 = nI p → DotI S o p u → Q 0 u) : Ct G (d + 4) M_DS_layOut [.inr 33, .inl (nI p)] μ Q := by
  have h60 := hI.n60
  have hB := hI.1
  have hO := hI.2.1
  refine en_DS_layOut (vc_DS_layOut_0 ⟨fun _ u1 h1 => ?_, fun h => ?_⟩)
  · have hI1 : NoI S o u1 := hI.congr (fun c a b => by funext j; rw [h1, up_at, if_neg (by omega)])
    refine sp_chordEnd hI1 hp (fun q hE => ?_)
    refine sp_dcollect hI1 hE (fun u4 m f a1 a2 a3 a4 a5 a6 => ?_)
    have hf70 : ∀ i, i < m → f i < 70 := fun i hi => by
      obtain ⟨r, e1, e2, e3, e4⟩ := a6.1 i hi
      rw [← e4]; exact (st_n hB (hO.1 r (by have := hE.2.1; omega))).2
    have hm1 : 1 ≤ m := by
      obtain ⟨r, hr, e⟩ := hO.2.2 j hj
      obtain ⟨e1, e2⟩ := ch_in hO hE hb (Nat.le_refl p) hE.1 hr (by rw [e]; exact hjw)
      obtain ⟨i, hi, -⟩ := a6.2.2 (stN S j) ⟨r, e1, e2, by rw [e]; exact hjd, by rw [e]⟩
      omega
    have gap := gt_gap a6
    rw [a3]
    refine ⟨fun _ => ?_, fun h => absurd ((n_inj (b := 0) (by omega) (by omega)).mp h) (by omega)⟩
    obtain ⟨m', hm'⟩ : ∃ m', m = m' + 1 := ⟨m - 1, by omega⟩
    have em : nI m - 1 = nI (m - 1) := by rw [hm', n_s1, Nat.add_sub_cancel]
    rw [em, n_ix (by omega), a5 (m - 1) (by omega)]
    refine ⟨n_in (by omega) (by omega), fun y5 hy5 => ?_⟩
    have hfl := hf70 (m - 1) (by omega)
    have hf0 := hf70 0 (by omega)
    have hy5i : y5.toInt = (f (m - 1) : Int) - (m : Int) := by rw [hy5, i_sub (by rw [n_i (by omega), n_i (by omega)]; omega) (by rw [n_i (by omega), n_i (by omega)]; omega), n_i (by omega), n_i (by omega)]
    -- what follows once lowest is set
    have rest : ∀ (lo : Int) (x : Int32), x.toInt = lo → lo % 2 = 1 → (f (m - 1) : Int) - m ≤ lo → lo ≤ (f (m - 1) : Int) - m + 1 → ∀ u6 : Mem, u6 = up u4 33 6 x → (vp_in 0 60 ∧ ∀ u7 : Mem, u7 = up u6 33 7 (mmin ((((u6 35 (ix 0)) + (u6 33 5)) - (u6 33 6)) / 2 + 1) 96) → Ct G (d + 3) M_DS_fillCosts [.inr 33] u7 (fun _ u8 => Ct G (d + 3) M_DS_chooseSpaces [.inr 33] u8 (fun _ u9 => Q 0 u9))) := by
      intro lo x hx hodd hlo1 hlo2 u6 h6
      refine ⟨n_in (k := 0) (by omega) (by omega), fun u7 h7 => ?_⟩
      have c35 : u6 35 (ix 0) = nI (f 0) := by rw [h6, up_at, if_neg (by omega)]; exact a5 0 (by omega)
      have c5 : u6 33 5 = nI m := by rw [h6, up_at, if_neg (by omega)]; exact a3
      have c6 : u6 33 6 = x := by rw [h6, up_at, if_pos ⟨rfl, rfl⟩]
      have g0 := gap (m - 1) 0 (by omega)
      rw [Nat.zero_add] at g0
      have e1 : (nI (f 0) + nI m - x) = nI (((f 0 : Int) + m - lo).toNat) := by
        apply n_of'
        rw [nI_add, i_sub (by rw [n_i (by omega), hx]; omega) (by rw [n_i (by omega), hx]; omega), n_i (by omega), hx]
        omega
      generalize hV : ((f 0 : Int) + m - lo).toNat = V at e1
      have hVb : V < 200 := by omega
      have eN : mmin ((nI V) / 2 + 1) 96 = nI (V / 2 + 1) := by
        rw [show (2 : Int32) = nI 2 from rfl, n_div (by omega) (by omega) (by omega), n_p1, show (96 : Int32) = nI 96 from rfl, mmin_n (by omega) (by omega)]
        congr 1; omega
      rw [c35, c5, c6, e1, eN] at h7
      have hX7 : DtX f m (V / 2 + 1) lo u7 := by
        refine ⟨hm1, a4, by omega, by omega, ?_, ?_, ?_, by omega, by omega, fun i hi => ⟨?_, hf70 i hi⟩⟩
        · rw [h7, up_at, if_neg (by omega)]; exact c5
        · rw [h7, up_at, if_neg (by omega), c6]; exact hx
        · rw [h7, up_at, if_pos ⟨rfl, rfl⟩]
        · rw [h7, up_at, if_neg (by omega), h6, up_at, if_neg (by omega)]; exact a5 i hi
      refine sp_fillCosts hX7 (fun u8 b1 b2 => ?_)
      refine sp_chooseSpaces (hX7.congr (fun c hc => b1 c (by omega))) b2 (fun u9 b' e1 e2 e3 => ?_)
      have u9at : ∀ c j, c ≠ 36 → c ≠ 37 → u9 c j = u7 c j := fun c j a b => by rw [e1 c a, b1 c b]
      have u7at : ∀ c j, ¬ (c = 33 ∧ (j = 6 ∨ j = 7)) → u7 c j = u4 c j := fun c j h => by rw [h7, up_at, if_neg (by omega), h6, up_at, if_neg (by omega)]
      refine hq u9 (fun c hc => ?_) ?_ ⟨m, f, lo, V / 2 + 1, b', ⟨hp, hb, hm1, a4, ⟨q, hE, a6⟩, hodd, by omega, by omega, by omega, by omega, by omega, fun k hk => ?_, fun k hk => ?_, e2, fun i hi => (e3 i hi).2⟩, ?_, fun i hi => ?_, fun i hi => (e3 i hi).1⟩
      · funext j; rw [u9at c j (by omega) (by omega), u7at c j (by omega), a1 c (by omega) (by omega) (by omega), h1, up_at, if_neg (by omega)]
      · rw [u9at 33 8 (by omega) (by omega), u7at 33 8 (by omega), a2 8 (by omega), h1, up_at, if_pos ⟨rfl, rfl⟩]
      · have := gap k (m - 1 - k) (by omega)
        rw [show m - 1 - k + k = m - 1 by omega] at this
        omega
      · have := gap (m - 1 - k) 0 (by omega)
        rw [Nat.zero_add] at this
        omega
      · rw [u9at 33 5 (by omega) (by omega), u7at 33 5 (by omega)]; exact a3
      · rw [u9at 35 i (by omega) (by omega), u7at 35 i (by omega)]; exact a5 i hi
    have hrem := rem2_0 hy5i
    refine ⟨fun h u6 h6 => rest _ y5 hy5i ?_ (by omega) (by omega) u6 h6, fun h u10 h10 => rest ((f (m - 1) : Int) - m + 1) (y5 + 1) ?_ ?_ (by omega) (by omega) u10 h10⟩
    · rw [hrem] at h; omega
    · have e1 : (1 : Int32).toInt = 1 := by decide
      rw [i_add (by rw [hy5i, e1]; omega) (by rw [hy5i, e1]; omega), hy5i, e1]
    · rw [hrem] at h; omega
  · rcases hC with hC | ⟨p', h1, h2, h3⟩
    · rw [hC] at h; exact absurd h (n_ne1 (by omega))
    · rw [h1] at h
      have hpp : p = p' := (n_inj (by omega) (by omega)).mp h
      subst hpp
      exact hq μ (fun _ _ => rfl) h1 h3
theorem sp_distanceFrom {m s : Nat} {f : Nat → Nat} (hm : m ≤ 60) (hs : s < 70) (h5 : μ 33 5 = nI m) (h35 : ∀ i, i < m → μ 35 i = nI (f i) ∧ f i < 70) {i0 : Nat} (hi0 : i0 < m) (hf : f i0 = s) (hq : ∀ i, i < m → f i = s → Q (μ 36 i - nI s) μ) : Ct G d M_DS_distanceFrom [.inr 33, .inl (nI s)] μ Q := by
  refine en_DS_distanceFrom (vc_DS_distanceFrom_0 ?_)
  have key : ∀ n k, k + n = m → k ≤ i0 → AW G d M_DS_distanceFrom Q 2 [some (.inr 33), some (.inl (nI s)), some (.inl (nI k))] [] μ := by
    intro n
    induction n with
    | zero => intro k hk hk0; omega
    | succ n ih =>
      intro k hk hk0
      obtain ⟨z1, z2⟩ := h35 k (by omega)
      refine vc_DS_distanceFrom_2 ?_
      rw [h5, n_ix (by omega), z1, n_p1]
      refine ⟨fun h2 => absurd ((n_le (by omega) (by omega)).mp h2) (by omega), fun _ => ⟨n_in (by omega) (by omega), fun h2 => ?_, fun h2 => ⟨n_in (by omega) (by omega), hq k (by omega) ((n_inj (by omega) (by omega)).mp h2)⟩⟩⟩
      rcases Nat.lt_or_ge k i0 with h3 | h3
      · exact ih (k + 1) (by omega) (by omega)
      · exact absurd (by rw [show k = i0 by omega, hf]) h2
  exact key m 0 (by omega) (Nat.zero_le _)
end
