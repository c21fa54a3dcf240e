/-! the reference: questions on signs -/
def PlI (S : Sc) (o : Nat → Nat) (u : Mem) : Prop := u 42 22 = -1 ∨ ∃ p m z col, ColS S o p m z col ∧ (u 42 22).toInt = wh S (o p) ∧ u 42 25 = nI m ∧ (∀ i, i < m → u 64 i = nI (z i)) ∧ ∀ i, i < m → u 66 i = nI (col i)
def RI (S : Sc) (o : Nat → Nat) (K KT : Nat → Int32) (μ : Mem) : Prop := RN S μ ∧ RK S K KT μ ∧ Ord S o ∧ (μ 42 21 ≠ 0 → RW S o μ ∧ PlI S o μ)
def sm : Nat → (Nat → Nat) → Nat
  | 0, _ => 0
  | n + 1, f => sm n f + f n
theorem sm_congr {f g : Nat → Nat} : ∀ n, (∀ i, i < n → f i = g i) → sm n f = sm n g := by
  intro n
  induction n with
  | zero => intro _; rfl
  | succ n ih => intro h; unfold sm; rw [ih (fun i hi => h i (by omega)), h n (by omega)]
theorem sm_zero {f : Nat → Nat} : ∀ n, (∀ i, i < n → f i = 0) → sm n f = 0 := by
  intro n
  induction n with
  | zero => intro _; rfl
  | succ n ih => intro h; unfold sm; rw [ih (fun i hi => h i (by omega)), h n (by omega)]
theorem sm_add {f g : Nat → Nat} : ∀ n, sm n (fun i => f i + g i) = sm n f + sm n g := by
  intro n
  induction n with
  | zero => rfl
  | succ n ih => unfold sm; rw [ih]; dsimp only; omega
theorem sm_swap {g : Nat → Nat → Nat} {m : Nat} : ∀ n, sm n (fun i => sm m (fun j => g i j)) = sm m (fun j => sm n (fun i => g i j)) := by
  intro n
  induction n with
  | zero => exact (sm_zero m (fun _ _ => rfl)).symm
  | succ n ih =>
    show sm n _ + _ = sm m (fun j => sm n (fun i => g i j) + g n j)
    rw [sm_add, ih]
theorem sm_one {f : Nat → Nat} {a : Nat} : ∀ n i0, i0 < n → f i0 = a → (∀ i, i < n → i ≠ i0 → f i = 0) → sm n f = a := by
  intro n
  induction n with
  | zero => intro i0 h; exact absurd h (Nat.not_lt_zero i0)
  | succ n ih =>
    intro i0 h1 h2 h3
    unfold sm
    by_cases h : i0 = n
    · rw [sm_zero n (fun i hi => h3 i (by omega) (by omega)), ← h, h2, Nat.zero_add]
    · rw [ih i0 (by omega) h2 (fun i hi => h3 i (by omega)), h3 n (by omega) (fun e => h e.symm), Nat.add_zero]
theorem sm_le {f : Nat → Nat} : ∀ n, (∀ i, f i ≤ 1) → sm n f ≤ n := by
  intro n
  induction n with
  | zero => intro _; exact Nat.le_refl _
  | succ n ih => intro h; have := ih h; have := h n; unfold sm; omega
section
variable {G : Gp} {d : Nat} {S : Sc} {o : Nat → Nat} {K KT : Nat → Int32} {μ : Mem} {Q : Int32 → Mem → Prop}
theorem sm_ord (hO : Ord S o) (f : Nat → Nat) : sm S.1 (fun i => f (o i)) = sm S.1 f := by
  have e1 : sm S.1 (fun i => f (o i)) = sm S.1 (fun i => sm S.1 (fun j => if o i = j then f j else 0)) :=
    sm_congr S.1 (fun i hi => (sm_one (f := fun j => if o i = j then f j else 0) S.1 (o i) (hO.1 i hi) (by rw [if_pos rfl]) (fun j _ h => by rw [if_neg (fun e : o i = j => h e.symm)])).symm)
  rw [e1, sm_swap]
  refine sm_congr S.1 (fun j hj => ?_)
  obtain ⟨p, hp, e⟩ := hO.2.2 j hj
  exact sm_one (f := fun i => if o i = j then f j else 0) S.1 p hp (by rw [if_pos e]) (fun i hi h => by rw [if_neg (fun e2 : o i = j => h (hO.inj hi hp (by rw [e2, e])))])
theorem cnt_sm (x : Int32) : ∀ k, cntJ S o x k = sm k (fun j => cite (KJ S o j = x) 1 0) := by
  intro k
  induction k with
  | zero => rfl
  | succ k ih =>
    unfold cntJ sm
    rw [← ih]
    dsimp only
    by_cases h : KJ S o k = x
    · rw [cite_t h, cite_t h]
    · rw [cite_f h, cite_f h]; rfl
theorem cntB_sm : ∀ k, cntB S o k = sm k (fun j => cite (Beg S o j) 1 0) := by
  intro k
  induction k with
  | zero => rfl
  | succ k ih =>
    unfold cntB sm
    rw [← ih]
    dsimp only
    by_cases h : Beg S o k
    · rw [if_pos h, cite_t h]
    · rw [if_neg h, cite_f h]; rfl
theorem wh_pair (hB : Bd S) {i j : Nat} (hi : i < S.1) (hj : j < S.1) (h : wh S i = wh S j) : S.2 2 i = S.2 2 j ∧ S.2 3 i = S.2 3 j := by
  obtain ⟨-, -, a1, a2, -⟩ := hB.2.1 i hi
  obtain ⟨-, -, b1, b2, -⟩ := hB.2.1 j hj
  unfold rg at a1 a2 b1 b2
  unfold wh at h
  exact ⟨i_eq.mpr (by omega), i_eq.mpr (by omega)⟩
theorem ch_start (S : Sc) (o : Nat → Nat) : ∀ r, ∃ p, p ≤ r ∧ Beg S o p ∧ wh S (o p) = wh S (o r) := by
  intro r
  induction r with
  | zero => exact ⟨0, Nat.le_refl _, Or.inl rfl, rfl⟩
  | succ r ih =>
    by_cases h : wh S (o r) = wh S (o (r + 1))
    · obtain ⟨p, a, b, c⟩ := ih
      exact ⟨p, by omega, b, c.trans h⟩
    · exact ⟨r + 1, Nat.le_refl _, Or.inr (by rw [Nat.add_sub_cancel]; exact h), rfl⟩
theorem end_ex {p : Nat} (hp : p < S.1) : ∃ q, EndIs S o p q := by
  have key : ∀ n k, k + n = S.1 → p < k → (∀ r, p ≤ r → r < k → wh S (o r) = wh S (o p)) → ∃ q, EndIs S o p q := by
    intro n
    induction n with
    | zero => intro k hk hp h; exact ⟨k, hp, by omega, h, fun h2 => absurd h2 (by omega)⟩
    | succ n ih =>
      intro k hk hp h
      by_cases he : wh S (o k) = wh S (o p)
      · refine ih (k + 1) (by omega) (by omega) (fun r a b => ?_)
        by_cases hr : r = k
        · rw [hr]; exact he
        · exact h r a (by omega)
      · exact ⟨k, hp, by omega, h, fun _ => he⟩
  exact key (S.1 - (p + 1)) (p + 1) (by omega) (by omega) (fun r a b => by rw [show r = p by omega])
theorem beg_uniq (hO : Ord S o) {p p' : Nat} (hp : p < S.1) (hp' : p' < S.1) (hb : Beg S o p) (hb' : Beg S o p') (h : wh S (o p) = wh S (o p')) : p = p' := by
  have one : ∀ a b, a < S.1 → b < S.1 → Beg S o b → wh S (o a) = wh S (o b) → ¬ a < b := by
    intro a b ha hb hbb h hlt
    rcases hbb with h1 | h1
    · omega
    · have m1 := wh_mono hO (show a ≤ b - 1 by omega) (show b - 1 < S.1 by omega)
      have m2 := wh_mono hO (show b - 1 ≤ b by omega) hb
      omega
  have := one p p' hp hp' hb' h
  have := one p' p hp' hp hb h.symm
  omega
theorem ri_work (hI : RI S o K KT μ) (hq : ∀ u, RI S o K KT u → u 42 21 ≠ 0 → FrR μ u → Q 0 u) : Ct G (d + 4) M_MD_work [.inr 42] μ Q := by
  obtain ⟨hR, hK, hO, hW⟩ := hI
  refine md_work hR hK hO (fun h => hq μ ⟨hR, hK, hO, hW⟩ h (fun _ _ => rfl)) (fun h u a1 a2 a3 a4 a5 => hq u ⟨hR.congr (a4 8 (by omega) (by omega)) (fun c _ _ => a5 c (by omega) (by omega)), hK.congr (fun c _ _ => a5 c (by omega) (by omega)), hO, fun _ => ⟨a1, Or.inl a3⟩⟩ (by rw [a2]; decide) (fun c hc => a5 c (by omega) (by omega)))
theorem ColS.zz (hO : Ord S o) {p m : Nat} {z col : Nat → Nat} (h : ColS S o p m z col) {i : Nat} (hi : i < m) : z i < S.1 ∧ KJ S o (z i) ≠ 0 ∧ wh S (z i) = wh S (o p) := by
  obtain ⟨a1, a2, a3, ⟨q, f, e1, e2, e3⟩, -⟩ := h
  obtain ⟨r, r1, r2⟩ := zz_mem (f := f) hi
  obtain ⟨r', g1, g2, g3, g4⟩ := e2.1 r r1
  rw [e3 i hi, r2]
  refine ⟨?_, g4, ?_⟩
  · rw [← g3]; exact hO.1 r' (by have := e1.2.1; omega)
  · rw [← g3]; exact e1.2.2.1 r' g1 g2
theorem ColS.iz (hO : Ord S o) {p m j : Nat} {z col : Nat → Nat} (h : ColS S o p m z col) (hj : j < S.1) (hw : wh S j = wh S (o p)) (hk : KJ S o j ≠ 0) : ∃ i, i < m ∧ z i = j := by
  obtain ⟨a1, a2, a3, ⟨q, f, e1, e2, e3⟩, -⟩ := h
  obtain ⟨r, hr, e⟩ := hO.2.2 j hj
  obtain ⟨g1, g2⟩ := ch_in hO e1 a2 (Nat.le_refl p) e1.1 hr (by rw [e]; exact hw)
  obtain ⟨k, k1, k2⟩ := e2.2.2 j ⟨r, g1, g2, e, hk⟩
  obtain ⟨i, i1, i2⟩ := zz_sur f k1
  exact ⟨i, i1, by rw [e3 i i1, i2, k2]⟩
theorem md_place (hI : RI S o K KT μ) (hk : μ 42 21 ≠ 0) {p : Nat} (hp : p < S.1) (hb : Beg S o p) (hq : ∀ (u : Mem) m z col, RI S o K KT u → u 42 21 ≠ 0 → FrR μ u → ColS S o p m z col → u 42 25 = nI m → (∀ i, i < m → u 64 i = nI (z i)) → (∀ i, i < m → u 66 i = nI (col i)) → Q 0 u) : Ct G (d + 5) M_MD_place [.inr 42, .inl (S.2 2 (o p)), .inl (S.2 3 (o p))] μ Q := by
  obtain ⟨hR, hK, hO, hW⟩ := hI
  obtain ⟨hW, hP⟩ := hW hk
  have hB := hR.1
  have h60 := hR.n60
  have hop := hO.1 p hp
  obtain ⟨-, -, b1, b2, -⟩ := hB.2.1 (o p) hop
  have wbd : 0 ≤ wh S (o p) ∧ wh S (o p) ≤ 19999 := by unfold rg at b1 b2; unfold wh; omega
  refine en_MD_place (vc_MD_place_0 (md_when b1 b2 (fun x hx => ⟨fun hne => md_when b1 b2 (fun y hy => ?_), fun he => ?_⟩)))
  · intro u5 hu5
    have hx : y.toInt = wh S (o p) := hy
    have c5 : ∀ c, c ≠ 42 → u5 c = μ c := fun c hc => by rw [hu5]; funext j; rw [up_at, if_neg (by omega)]
    have d5 : ∀ j, j ≠ 22 → u5 42 j = μ 42 j := fun j hj => by rw [hu5, up_at, if_neg (by omega)]
    have hR5 : RN S u5 := hR.congr (d5 8 (by omega)) (fun c _ _ => c5 c (by omega))
    have hK5 : RK S K KT u5 := hK.congr (fun c _ _ => c5 c (by omega))
    have hW5 : RW S o u5 := hW.congr (fun c _ _ => c5 c (by omega))
    refine md_listSigns hR5 hK5 hW5 (fun u6 m f l1 l2 l3 l4 l5 l6 => ?_)
    intro y7 hy7
    rw [l3] at hy7
    subst hy7
    obtain ⟨q, hE⟩ := end_ex (o := o) hp
    have hL : Lst (tR S) (sgP S o p q) m f := l1.congrP (fun x => by
      constructor
      · rintro ⟨x1, x2, x3, x4⟩
        obtain ⟨r, hr, e⟩ := hO.2.2 x x1
        obtain ⟨g1, g2⟩ := ch_in hO hE hb (Nat.le_refl p) hE.1 hr (by rw [e]; unfold wh; rw [x2, x3])
        exact ⟨r, g1, g2, e, x4⟩
      · rintro ⟨r, g1, g2, e, x4⟩
        have hr : r < S.1 := by have := hE.2.1; omega
        have := wh_pair hB (hO.1 r hr) hop (hE.2.2.1 r g1 g2)
        rw [e] at this
        exact ⟨by rw [← e]; exact hO.1 r hr, this.1, this.2, x4⟩)
    have c6 : ∀ c, c ≠ 42 → c ≠ 63 → c ≠ 64 → u6 c = μ c := fun c a b e => by rw [l6 c a b e, c5 c a]
    have d6 : ∀ j, j ≠ 22 → j ≠ 25 → u6 42 j = μ 42 j := fun j a b => by rw [l5 j b, d5 j a]
    have e22 : u6 42 22 = y := by rw [l5 22 (by omega), hu5, up_at, if_pos ⟨rfl, rfl⟩]
    have hZ : ZR S o K KT (zzF f m) m u6 := by
      refine ⟨hR.congr (d6 8 (by omega) (by omega)) (fun c _ _ => c6 c (by omega) (by omega) (by omega)), hK.congr (fun c _ _ => c6 c (by omega) (by omega) (by omega)), hW.congr (fun c _ _ => c6 c (by omega) (by omega) (by omega)), by omega, fun i hi => ?_⟩
      obtain ⟨r, r1, r2⟩ := zz_mem (f := f) hi
      have g := l1.1 r r1
      refine ⟨l4 i hi, by rw [r2]; exact g.1, by rw [r2]; exact g.2.2.2, fun j hj => ?_⟩
      obtain ⟨r', r1', r2'⟩ := zz_mem (f := f) hj
      rw [r2, r2', g.2.1, (l1.1 r' r1').2.1]
    have don : ∀ (u : Mem) col, (∀ c, c ≠ 65 → c ≠ 66 → u c = u6 c) → (m ≤ 6 → Opt (VF (shN S o (zzF f m)) m) (wN S o (zzF f m)) m col) → (6 < m → GrI (shN S o (zzF f m)) m col) → (∀ i, i < m → u 66 i = nI (col i)) → Q 0 u := by
      intro u col a1 a2 a3 a4
      have hC : ColS S o p m (zzF f m) col := ⟨hp, hb, by omega, ⟨q, f, hE, hL, fun _ _ => rfl⟩, a2, a3⟩
      have f42 := a1 42 (by omega) (by omega)
      have e64 : ∀ i, i < m → u 64 i = nI (zzF f m i) := by rw [a1 64 (by omega) (by omega)]; exact l4
      have cu : ∀ c, c ≠ 42 → (c < 63 ∨ 66 < c) → u c = μ c := fun c a b => by rw [a1 c (by omega) (by omega), c6 c a (by omega) (by omega)]
      refine hq u m (zzF f m) col ⟨hR.congr (by rw [f42]; exact d6 8 (by omega) (by omega)) (fun c _ _ => cu c (by omega) (by omega)), hK.congr (fun c _ _ => cu c (by omega) (by omega)), hO, fun _ => ⟨hW.congr (fun c _ _ => cu c (by omega) (by omega)), Or.inr ⟨p, m, zzF f m, col, hC, ?_, ?_, e64, a4⟩⟩⟩ ?_ (fun c hc => cu c (by omega) (by omega)) hC ?_ e64 a4
      · rw [f42, e22]; exact hx
      · rw [f42]; exact l3
      · rw [f42, d6 21 (by omega) (by omega)]; exact hk
      · rw [f42]; exact l3
    rw [show (6 : Int32) = nI 6 from rfl, n_le (by omega) (by omega)]
    refine ⟨fun h6 => ⟨fun h0 => ?_, fun h0 => ⟨n_in (k := 0) (by omega) (by omega), fun u8 hu8 => ?_⟩⟩, fun h6 => ?_⟩
    · rw [i_le, n_i (by omega), Int32.toInt_zero] at h0
      have hm0 : m = 0 := by omega
      subst hm0
      refine vc_MD_place_117 ⟨fun _ => don u6 (fun i => i) (fun _ _ _ => rfl) (fun _ => ⟨⟨⟨fun i hi => absurd hi (Nat.not_lt_zero i), fun j i _ hi => absurd hi (Nat.not_lt_zero i)⟩, fun i hi => absurd hi (Nat.not_lt_zero i)⟩, fun v _ => ⟨by rw [sWd_0, sWd_0]; exact Nat.le_refl _, fun _ ⟨i, hi, _⟩ => absurd hi (Nat.not_lt_zero i)⟩⟩) (fun h => absurd h (by omega)) (fun i hi => absurd hi (Nat.not_lt_zero i)), fun h => absurd (by decide) h⟩
    · rw [i_le, n_i (by omega), Int32.toInt_zero] at h0
      have g8 : ∀ c, c ≠ 65 → u8 c = u6 c := fun c hc => by rw [hu8]; funext j; rw [up_at, if_neg (by omega)]
      refine md_search h6 hZ m 0 (by omega) (by omega) (fun i => i) (fun j hj => absurd hj (Nat.not_lt_zero j)) (fun a b _ hb => absurd hb (Nat.not_lt_zero b)) (fun w x a1 a2 a3 => ?_) 6 0 (by omega) u8 (-1) (fun c a b => g8 c a) (fun j hj => absurd hj (Nat.not_lt_zero j)) (by rw [hu8, up_at, if_pos ⟨rfl, rfl⟩]; rfl) (Or.inl ⟨rfl, fun v _ hc => ?_⟩)
      · refine vc_MD_place_117 ⟨fun h => absurd h ?_, fun _ => ⟨fun _ => ?_, fun h => absurd (by decide) h⟩⟩
        · rw [i_le, n_i (by omega), Int32.toInt_zero]; omega
        · have all : ∀ v, VF (shN S o (zzF f m)) m v → Cc 0 6 (fun i => i) v := fun v hv => Or.inr ⟨fun j hj => absurd hj (Nat.not_lt_zero j), hv.1.1 0 (by omega)⟩
          rcases a3 with ⟨-, n2⟩ | ⟨col, n1, n2, n3, n4, n5⟩
          · have hid := id_VR (shN S o (zzF f m)) h6
            have hvf : VF (shN S o (zzF f m)) m (fun i => i) := ⟨hid.1, rg_full hid.2⟩
            exact absurd (all _ hvf) (n2 _ hvf)
          · exact don w col a1 (fun _ => ⟨n2, fun v hv => n5 v hv (all v hv)⟩) (fun h => absurd h (by omega)) n3
      · rcases hc with ⟨k, h, _⟩ | ⟨_, h⟩
        · exact absurd h (Nat.not_lt_zero k)
        · exact absurd h (Nat.not_lt_zero _)
    · exact md_greedy hZ (fun u col a1 a2 a3 => don u col a1 (fun h => absurd h h6) (fun _ => a2) a3) m 0 (by omega) u6 (fun _ => 0) (fun _ _ _ => rfl) (fun i hi => absurd hi (Nat.not_lt_zero i)) (fun i hi => absurd hi (Nat.not_lt_zero i))
  · rcases hP with h | ⟨p', m, z, col, a1, a2, a3, a4, a5⟩
    · rw [h] at he
      have e : (-1 : Int32).toInt = -1 := by decide
      have hx : x.toInt = wh S (o p) := hx
      rw [← he, e] at hx; omega
    · have hx : x.toInt = wh S (o p) := hx
      have hpp : p = p' := beg_uniq hO hp a1.1 hb a1.2.1 (by rw [← a2, ← hx, he])
      subst hpp
      exact hq μ m z col ⟨hR, hK, hO, fun _ => ⟨hW, Or.inr ⟨p, m, z, col, a1, a2, a3, a4, a5⟩⟩⟩ hk (fun _ _ => rfl) a1 a3 a4 a5
theorem md_columnOf (hI : RI S o K KT μ) (hk : μ 42 21 ≠ 0) {j : Nat} (hj : j < S.1) (hq : ∀ r u, aCol S o j r → RI S o K KT u → FrR μ u → Q r u) : Ct G (d + 6) M_MD_columnOf [.inr 42, .inl (nI j)] μ Q := by
  have hI0 := hI
  obtain ⟨hR, hK, hO, hW⟩ := hI
  obtain ⟨hW, hP⟩ := hW hk
  have h60 := hR.n60
  have ej : vp_in (nI j) 60 := n_in (by omega) (by omega)
  refine en_MD_columnOf (vc_MD_columnOf_0 ⟨ej, ?_⟩)
  rw [n_ix (by omega), (hW.2 j hj).2.1, hR.at hj (k := 2) (by omega) rfl, hR.at hj (k := 3) (by omega) rfl]
  refine ⟨fun hs => ⟨ej, ej, ?_⟩, fun hs => hq (-1) μ (Or.inl ⟨hs, rfl⟩) hI0 (fun _ _ => rfl)⟩
  obtain ⟨r, hr, e⟩ := hO.2.2 j hj
  obtain ⟨p, p1, p2, p3⟩ := ch_start S o r
  rw [e] at p3
  have hp : p < S.1 := by omega
  obtain ⟨e2, e3⟩ := wh_pair hR.1 (hO.1 p hp) hj p3
  rw [← e2, ← e3]
  refine md_place hI0 hk hp p2 (fun u m z col a1 a2 a3 a4 a5 a6 a7 => ?_)
  obtain ⟨i0, i1, i2⟩ := a4.iz hO hj p3.symm hs
  have hm := a4.2.2.1
  have key : ∀ n i, i + n = i0 → (∀ i', i' < i → z i' ≠ j) → AW G (d + 6) M_MD_columnOf Q 29 [some (.inr 42), some (.inl (nI j)), some (.inl (nI i))] [] u := by
    intro n
    have hit : ∀ i, i < m → z i = j → (∀ i', i' < i → z i' ≠ j) → Q (u 66 i) u := fun i hi he hn => by
      rw [a7 i hi]
      exact hq _ u (Or.inr ⟨hs, p, m, z, col, i, a4, p3, hi, he, hn, rfl⟩) a1 a3
    induction n with
    | zero =>
      intro i hi hn
      have hi : i = i0 := by omega
      subst hi
      refine vc_MD_columnOf_29 ⟨n_in (by omega) (by omega), fun _ => ⟨n_in (by omega) (by omega), ?_⟩, fun h => absurd ?_ h⟩
      · rw [n_ix (by omega)]; exact hit i i1 i2 hn
      · rw [n_ix (by omega), a6 i i1, i2]
    | succ n ih =>
      intro i hi hn
      have him : i < m := by omega
      have hzi := (a4.zz hO him).1
      refine vc_MD_columnOf_29 ⟨n_in (by omega) (by omega), ?_⟩
      rw [n_ix (by omega), a6 i him, n_inj (by omega) (by omega), n_p1]
      refine ⟨fun h => ⟨n_in (by omega) (by omega), hit i him h hn⟩, fun h => ih (i + 1) (by omega) (fun i' hi' => ?_)⟩
      by_cases h2 : i' = i
      · rw [h2]; exact h
      · exact hn i' (by omega)
  exact key i0 0 (by omega) (fun i' hi' => absurd hi' (Nat.not_lt_zero i'))
theorem ColS.sum {p m : Nat} {z col : Nat → Nat} (h : ColS S o p m z col) : sWd (wN S o z) col m (if 6 ≤ m then m else 6) = sWd (wN S o z) col m 60 := by
  obtain ⟨a1, a2, a3, a4, a5, a6⟩ := h
  have hc : ∀ i, i < m → col i < (if 6 ≤ m then m else 6) := fun i hi => by
    rcases Nat.lt_or_ge 6 m with h | h
    · have := (a6 h).le i hi; rw [if_pos (by omega)]; omega
    · have := (a5 h).1.1.1 i hi; split <;> omega
  have e := sWd_ext (w := wN S o z) hc (60 - (if 6 ≤ m then m else 6))
  rw [show (if 6 ≤ m then m else 6) + (60 - (if 6 ≤ m then m else 6)) = 60 by split <;> omega] at e
  exact e.symm
theorem md_extent (hI : RI S o K KT μ) {b t : Int32} (hq : ∀ r u, aExt S o b t r → RI S o K KT u → FrR μ u → Q r u) : Ct G (d + 6) M_MD_extent [.inr 42, .inl b, .inl t] μ Q := by
  have hI0 := hI
  obtain ⟨hR, hK, hO, hW⟩ := hI
  have h60 := hR.n60
  have key : ∀ n k, k + n = S.1 → ∀ x : Int32, (x = 1 ∧ ∃ j, j < S.1 ∧ S.2 2 j = b ∧ S.2 3 j = t) ∨ (x = 0 ∧ ∀ j, j < k → ¬ (S.2 2 j = b ∧ S.2 3 j = t)) → AW G (d + 6) M_MD_extent Q 5 [some (.inr 42), some (.inl b), some (.inl t), some (.inl x), some (.inl (nI k))] [] μ := by
    intro n
    have t1 : ¬ (1 : Int32) = 0 := by decide
    induction n with
    | zero =>
      intro k hk x hx
      have hk : k = S.1 := by omega
      subst hk
      refine vc_MD_extent_5 ?_
      rw [hR.2.1]
      refine ⟨fun _ => ⟨fun h => ?_, fun h => ?_⟩, fun h => absurd ((n_le (by omega) (by omega)).mpr (Nat.le_refl _)) h⟩
      · rcases hx with ⟨_, j, j1, j2, j3⟩ | ⟨h2, _⟩
        · obtain ⟨r, hr, e⟩ := hO.2.2 j j1
          obtain ⟨p, p1, p2, p3⟩ := ch_start S o r
          rw [e] at p3
          have hp : p < S.1 := by omega
          obtain ⟨e2, e3⟩ := wh_pair hR.1 (hO.1 p hp) j1 p3
          rw [j2] at e2
          rw [j3] at e3
          refine ri_work hI0 (fun u b1 b2 b3 => ?_)
          rw [← e2, ← e3]
          refine md_place b1 b2 hp p2 (fun u m z col a1 a2 a3 a4 a5 a6 a7 => ?_)
          obtain ⟨c1, c2, c3, c4⟩ := a1
          have hm := a4.2.2.1
          rw [a5]
          have hZ : ZR S o K KT z m u := by
            refine ⟨c1, c2, (c4 a2).1, a4.2.2.1, fun i hi => ?_⟩
            obtain ⟨g1, g2, g3⟩ := a4.zz hO hi
            refine ⟨a6 i hi, g1, g2, fun i' hi' => ?_⟩
            obtain ⟨g1', g2', g3'⟩ := a4.zz hO hi'
            exact (wh_pair hR.1 g1 g1' (by rw [g3, g3'])).1
          refine md_widths_b hZ (t := col) (Nat.le_refl m) (fun i hi => ⟨a7 i hi, ?_⟩) (hq _ u (Or.inr ⟨p, m, z, col, hp, e2, e3, a4, by rw [a4.sum]⟩) ⟨c1, c2, c3, c4⟩ (fun c hc => by rw [a3 c hc, b3 c hc]))
          rcases Nat.lt_or_ge 6 m with h | h
          · have := (a4.2.2.2.2.2 h).le i hi; omega
          · have := (a4.2.2.2.2.1 h).1.1.1 i hi; omega
        · exact absurd h2 h
      · rcases hx with ⟨h2, _⟩ | ⟨h2, h3⟩
        · rw [h2] at h; exact absurd h t1
        · exact hq (-2) μ (Or.inl ⟨h3, rfl⟩) hI0 (fun _ _ => rfl)
    | succ n ih =>
      intro k hk x hx
      have hkS : k < S.1 := by omega
      have ek : vp_in (nI k) 60 := n_in (by omega) (by omega)
      refine vc_MD_extent_5 ?_
      rw [hR.2.1, n_le (by omega) (by omega), n_ix (by omega), hR.at hkS (k := 2) (by omega) rfl, hR.at hkS (k := 3) (by omega) rfl, n_p1]
      refine ⟨fun h => absurd h (by omega), fun _ => ⟨fun h => ih (k + 1) (by omega) 1 (Or.inl ⟨rfl, ?_⟩), fun h => ?_⟩⟩
      · rcases hx with h2 | h2
        · exact h2.2
        · exact absurd h2.1 h
      · have hn : ∀ j, j < k → ¬ (S.2 2 j = b ∧ S.2 3 j = t) := by
          rcases hx with h2 | h2
          · rw [h2.1] at h; exact absurd h t1
          · exact h2.2
        have go : ¬ (S.2 2 k = b ∧ S.2 3 k = t) → AW G (d + 6) M_MD_extent Q 5 [some (.inr 42), some (.inl b), some (.inl t), some (.inl 0), some (.inl (nI (k + 1)))] [] μ := fun h2 => ih (k + 1) (by omega) 0 (Or.inr ⟨rfl, fun j hj => by
          by_cases hjk : j = k
          · rw [hjk]; exact h2
          · exact hn j (by omega)⟩)
        exact ⟨ek, fun h2 => go (fun h3 => h2 h3.1), fun h2 => ⟨ek, fun h3 => go (fun h4 => h3 h4.2), fun h3 => ih (k + 1) (by omega) 1 (Or.inl ⟨rfl, k, hkS, h2, h3⟩)⟩⟩
  exact en_MD_extent (vc_MD_extent_0 (key S.1 0 (by omega) 0 (Or.inr ⟨rfl, fun j hj => absurd hj (Nat.not_lt_zero j)⟩)))
end
