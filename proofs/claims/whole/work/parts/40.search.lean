/-! class Columns: the search, the taking in turn, the lay-out -/
theorem cMx_le {w col : Nat → Nat} {B : Nat} : ∀ n, (∀ i, i < n → w i ≤ B) → ∀ c, cMx w col n c ≤ B := by
  intro n
  induction n with
  | zero => intro _ c; exact Nat.zero_le _
  | succ n ih => intro h c; unfold cMx; have := ih (fun i hi => h i (by omega)) c; have := h n (by omega); split <;> omega
theorem sWd_bd {w col : Nat → Nat} {B n : Nat} (h : ∀ i, i < n → w i ≤ B) : ∀ C, sWd w col n C ≤ B * C := by
  intro C
  induction C with
  | zero => exact Nat.zero_le _
  | succ C ih => unfold sWd; have := cMx_le n h (col := col) C; rw [Nat.mul_succ]; omega
theorem mmax_n {a b : Nat} (ha : a < 2147483648) (hb : b < 2147483648) : mmax (nI a) (nI b) = nI (max a b) := by
  unfold mmax
  by_cases h : a < b
  · rw [if_pos ((n_lt ha hb).mpr h), show max a b = b by omega]
  · rw [if_neg (fun e => h ((n_lt ha hb).mp e)), show max a b = a by omega]
/-- all before the branch t of length dep; all in it -/
def Cn (dep : Nat) (t v : Nat → Nat) : Prop := ∃ k, k < dep ∧ (∀ j, j < k → v j = t j) ∧ v k < t k
def Ex (dep : Nat) (t v : Nat → Nat) : Prop := ∀ j, j < dep → v j = t j
def BSt (S : Sc) (o z : Nat → Nat) (m : Nat) (C : (Nat → Nat) → Prop) (w : Mem) : Prop := (w 27 8 = 2147483647 ∧ ∀ v, VR (shN S o z) m v → ¬ C v) ∨ ∃ col, w 27 8 = nI (sWd (wN S o z) col m 6) ∧ VR (shN S o z) m col ∧ (∀ i, i < m → w 30 i = nI (col i)) ∧ C col ∧ ∀ v, VR (shN S o z) m v → C v → sWd (wN S o z) col m 6 ≤ sWd (wN S o z) v m 6 ∧ (sWd (wN S o z) v m 6 = sWd (wN S o z) col m 6 → ¬ lxL m v col)
def ZzI (S : Sc) (o z : Nat → Nat) (m : Nat) (w : Mem) : Prop := CoX S o w ∧ w 27 7 = nI m ∧ ∀ i, i < m → w 29 i = nI (z i) ∧ z i < S.1 ∧ KJ S o (z i) ≠ 0
def SrX (S : Sc) (o z t : Nat → Nat) (m dep : Nat) (w : Mem) : Prop := ZzI S o z m w ∧ (∀ i, i < dep → w 31 i = nI (t i)) ∧ ∀ c, c < 6 → w 32 c = nI (cMx (wN S o z) t dep c)
theorem lx_asym {a b : Nat → Nat} {m : Nat} (h1 : lxL m a b) (h2 : lxL m b a) : False := by
  obtain ⟨i, i1, i2, i3⟩ := h1
  obtain ⟨k, k1, k2, k3⟩ := h2
  rcases Nat.lt_trichotomy i k with h | h | h
  · have := k2 i h; omega
  · subst h; omega
  · have := i2 k h; omega
theorem BSt.congr {S : Sc} {o z : Nat → Nat} {m : Nat} {C C' : (Nat → Nat) → Prop} {w w' : Mem} (h : BSt S o z m C w) (hC : ∀ v, VR (shN S o z) m v → (C v ↔ C' v)) (h8 : w' 27 8 = w 27 8) (h30 : w' 30 = w 30) : BSt S o z m C' w' := by
  rcases h with ⟨a, b⟩ | ⟨col, a, b, c, e, f⟩
  · exact Or.inl ⟨h8.trans a, fun v hv hc => b v hv ((hC v hv).mpr hc)⟩
  · exact Or.inr ⟨col, h8.trans a, b, fun i hi => by rw [h30]; exact c i hi, (hC col b).mp e, fun v hv hc => f v hv ((hC v hv).mpr hc)⟩
theorem ZzI.congr {S : Sc} {o z : Nat → Nat} {m : Nat} {w u : Mem} (h : ZzI S o z m w) (hu : ∀ c, c ≠ 27 → c ≠ 30 → c ≠ 31 → c ≠ 32 → u c = w c) (h7 : u 27 7 = w 27 7) : ZzI S o z m u :=
  ⟨h.1.congr (fun c hc => hu c (by omega) (by omega) (by omega) (by omega)), h7.trans h.2.1, fun i hi => by rw [hu 29 (by omega) (by omega) (by omega) (by omega)]; exact h.2.2 i hi⟩
section
variable {G : Gp} {d : Nat} {S : Sc} {o : Nat → Nat} {μ : Mem}
theorem wN_eq {z : Nat → Nat} (hB : Bd S) {i : Nat} (h : z i < S.1) : wdJ S o (z i) = nI (wN S o z i) ∧ wN S o z i ≤ 31 ∧ 1 ≤ wN S o z i := by
  have hb := wdJ_bd o hB h
  have h0 : 0 ≤ (wdJ S o (z i)).toInt := by omega
  have := ix_i h0
  exact ⟨n_of h0, by unfold wN; omega, by unfold wN; omega⟩
theorem sp_search {z : Nat → Nat} {m : Nat} (hm6 : m ≤ 6) : ∀ (k dep : Nat) (t : Nat → Nat) (w : Mem) (Q : Int32 → Mem → Prop), dep + k = m → SrX S o z t m dep w → Vd (shN S o z) dep t → Rg dep t → BSt S o z m (Cn dep t) w →
    (∀ u, (∀ c, c ≠ 27 → c ≠ 30 → c ≠ 31 → c ≠ 32 → u c = w c) → (∀ j, j ≠ 8 → u 27 j = w 27 j) → (∀ i, i < dep → u 31 i = w 31 i) → (∀ c, c < 6 → u 32 c = w 32 c) → BSt S o z m (fun v => Cn dep t v ∨ Ex dep t v) u → Q 0 u) →
    Ct G (d + k + 4) M_CO_search [.inr 27, .inl (nI dep), .inl (nI (tk t dep)), .inl (nI (sWd (wN S o z) t dep 6))] w Q := by
  intro k
  induction k with
  | zero =>
    intro dep t w Q hk hX hV hR hB hq
    have hdm : dep = m := by omega
    subst hdm
    have hw31 : ∀ i, i < dep → wN S o z i ≤ 31 := fun i hi => (wN_eq hX.1.1.1.1 (hX.1.2.2 i hi).2.1).2.1
    have hsum := sWd_bd hw31 (col := t) 6
    refine en_CO_search (vc_CO_search_0 ⟨fun hlt => ⟨fun h => ?_, fun _ u1 h1 => ?_⟩, fun hge => ?_⟩)
    · rw [hX.1.2.1] at h; exact absurd ((n_lt (by omega) (by omega)).mp h) (by omega)
    · have h7 : u1 27 7 = nI dep := by rw [h1, up_at, if_neg (by omega)]; exact hX.1.2.1
      rw [h7, n_ix (by omega)]
      refine ⟨by rw [i_lt, n_i (by omega)]; simp, by omega, fun u2 h2 => ?_⟩
      have u2at : ∀ c j, c ≠ 30 → u2 c j = u1 c j := fun c j hc => by rw [h2]; unfold cpm; rw [if_neg hc]
      have u1at : ∀ c j, ¬ (c = 27 ∧ j = 8) → u1 c j = w c j := fun c j hc => by rw [h1, up_at, if_neg hc]
      refine hq u2 (fun c a b e f => by funext j; rw [u2at c j b, u1at c j (by omega)]) (fun j hj => by rw [u2at 27 j (by omega), u1at 27 j (by omega)]) (fun i hi => by rw [u2at 31 i (by omega), u1at 31 i (by omega)]) (fun c hc => by rw [u2at 32 c (by omega), u1at 32 c (by omega)]) (Or.inr ⟨t, ?_, ⟨⟨hV.1, hV.2⟩, hR⟩, fun i hi => ?_, Or.inr (fun _ _ => rfl), fun v hv hc => ?_⟩)
      · rw [u2at 27 8 (by omega), h1, up_at, if_pos ⟨rfl, rfl⟩]
      · rw [h2]; unfold cpm; rw [if_pos rfl]; unfold va_cpy; rw [if_pos (by omega)]
        rw [u1at 31 _ (by omega), show 0 + (i - 0) = i by omega]; exact hX.2.1 i hi
      · rcases hc with hc | hc
        · rcases hB with ⟨-, b⟩ | ⟨col, a, b, c, e, f⟩
          · exact absurd hc (b v hv)
          · rw [a] at hlt
            have hcs := sWd_bd hw31 (col := col) 6
            have := (n_lt (by omega) (by omega)).mp hlt
            have h3 := (f v hv hc).1
            exact ⟨by omega, fun he => absurd he (by omega)⟩
        · refine ⟨Nat.le_of_eq (sWd_congr (fun i hi => (hc i hi).symm) 6), fun _ hl => ?_⟩
          obtain ⟨i, i1, -, i3⟩ := hl
          have := hc i i1; omega
    · rcases hB with ⟨a, b⟩ | ⟨col, a, b, c, e, f⟩
      · exact absurd (by rw [a, i_lt, n_i (by omega)]; have : (2147483647 : Int32).toInt = 2147483647 := by decide
                         omega) hge
      · refine hq w (fun _ _ _ _ _ => rfl) (fun _ _ => rfl) (fun _ _ => rfl) (fun _ _ => rfl) (Or.inr ⟨col, a, b, c, Or.inl e, fun v hv hc => ?_⟩)
        rcases hc with hc | hc
        · exact f v hv hc
        · have hcs := sWd_bd hw31 (col := col) 6
          rw [a] at hge
          have h1 : ¬ _ := fun h => hge ((n_lt (by omega) (by omega)).mpr h)
          have h2 := sWd_congr (w := wN S o z) (fun i hi => hc i hi) 6
          refine ⟨by omega, fun _ hl => ?_⟩
          obtain ⟨k, k1, k2, k3⟩ := e
          exact lx_asym hl ⟨k, k1, fun j hj => (k2 j hj).trans (hc j (by omega)).symm, by rw [hc k k1]; exact k3⟩
  | succ k ih =>
    intro dep t w Q hk hX hV hR hB hq
    have hw31 : ∀ i, i < m → wN S o z i ≤ 31 := fun i hi => (wN_eq hX.1.1.1.1 (hX.1.2.2 i hi).2.1).2.1
    have hsum := sWd_bd (fun i hi => hw31 i (show i < m by omega)) (n := dep) (col := t) 6
    have htk := tk_le hR dep (Nat.le_refl _)
    refine en_CO_search (vc_CO_search_0 ⟨fun hlt => ⟨fun _ => ?_, fun h => ?_⟩, fun hge => ?_⟩)
    · have key : ∀ n c (w' : Mem), c + n = 6 → (∀ c', c' ≠ 27 → c' ≠ 30 → c' ≠ 31 → c' ≠ 32 → w' c' = w c') → (∀ j, j ≠ 8 → w' 27 j = w 27 j) → (∀ i, i < dep → w' 31 i = w 31 i) → (∀ c', c' < 6 → w' 32 c' = w 32 c') → BSt S o z m (fun v => Cn dep t v ∨ (Ex dep t v ∧ v dep < c)) w' → AW G (d + (k + 1) + 4) M_CO_search Q 43 [some (.inr 27), some (.inl (nI dep)), some (.inl (nI (tk t dep))), some (.inl (nI (sWd (wN S o z) t dep 6))), some (.inl (nI c)), none, none] [] w' := by
        intro n
        have done : ∀ c (w' : Mem), (tk t dep < c ∨ 6 ≤ c) → (∀ c', c' ≠ 27 → c' ≠ 30 → c' ≠ 31 → c' ≠ 32 → w' c' = w c') → (∀ j, j ≠ 8 → w' 27 j = w 27 j) → (∀ i, i < dep → w' 31 i = w 31 i) → (∀ c', c' < 6 → w' 32 c' = w 32 c') → BSt S o z m (fun v => Cn dep t v ∨ (Ex dep t v ∧ v dep < c)) w' → Q 0 w' := by
          intro c w' hc w1 w2 w3 w4 w5
          refine hq w' w1 w2 w3 w4 (w5.congr (fun v hv => ?_) rfl rfl)
          constructor
          · rintro (h | h)
            · exact Or.inl h
            · exact Or.inr h.1
          · rintro (h | h)
            · exact Or.inl h
            · right
              refine ⟨h, ?_⟩
              have h1 := hv.2 dep (by omega)
              rw [tk_congr dep (fun j hj => h j hj)] at h1
              have h2 := hv.1.1 dep (by omega)
              omega
        induction n with
        | zero =>
          intro c w' hc w1 w2 w3 w4 w5
          refine vc_CO_search_43 ⟨fun _ => done c w' (Or.inr (by omega)) w1 w2 w3 w4 w5, fun _ => ⟨fun _ => done c w' (Or.inr (by omega)) w1 w2 w3 w4 w5, fun h => absurd ((n_le (a := 6) (by omega) (by omega)).mpr (by omega)) h⟩⟩
        | succ n ihn =>
          intro c w' hc w1 w2 w3 w4 w5
          have hZ : ZzI S o z m w' := hX.1.congr w1 (w2 7 (by omega))
          obtain ⟨zd1, zd2, zd3⟩ := hZ.2.2 dep (by omega)
          obtain ⟨we, wl, wg⟩ := wN_eq (o := o) hZ.1.1.1 zd2
          refine vc_CO_search_43 ⟨fun h => done c w' (Or.inl ((n_lt (by omega) (by omega)).mp h)) w1 w2 w3 w4 w5, fun hnt => ⟨fun h => absurd ((n_le (a := 6) (by omega) (by omega)).mp h) (by omega), fun _ => ?_⟩⟩
          have hct : c ≤ tk t dep := by
            rcases Nat.lt_or_ge (tk t dep) c with h | h
            · exact absurd ((n_lt (by omega) (by omega)).mpr h) hnt
            · exact h
          refine sp_canStand_t hZ.1 (show m ≤ 60 by omega) (fun i hi => ⟨(hZ.2.2 i hi).1, (hZ.2.2 i hi).2.1⟩) (t := t) (show dep < m by omega) (show c < 60 by omega) (fun i hi => ⟨by rw [w3 i hi]; exact hX.2.1 i hi, by have := hV.1 i hi; omega⟩) ?_
          rw [bc_0, n_p1]
          refine ⟨fun hs => ⟨n_in (by omega) (by omega), fun y3 hy3 => ⟨n_in (by omega) (by omega), ?_⟩⟩, fun hs => ?_⟩
          · have hs : ∀ i, i < dep → t i = c → shN S o z i dep := Classical.not_not.mp hs
            rw [n_ix (by omega), w4 c (by omega), hX.2.2 c (by omega)] at hy3
            subst hy3
            have hcm := cMx_le dep (fun i hi => hw31 i (show i < m by omega)) (col := t) c
            rw [n_ix (show dep < 2147483648 by omega), zd1]
            refine sp_widthOf hZ.1.1 hZ.1.2 zd2 ?_
            rw [if_neg zd3, we, mmax_n (by omega) (by omega)]
            intro y6 hy6
            subst hy6
            refine ⟨n_in (by omega) (by omega), fun u7 h7 => ⟨n_in (by omega) (by omega), fun u8 h8 => ?_⟩⟩
            rw [n_ix (by omega)] at h8
            -- the branch taken
            have tp : ∀ j, j < dep → (fun i => if i = dep then c else t i) j = t j := fun j hj => by show (if j = dep then c else t j) = _; rw [if_neg (by omega)]
            generalize ht' : (fun i => if i = dep then c else t i) = t' at tp
            have tpd : t' dep = c := by rw [← ht']; show (if dep = dep then c else t dep) = c; rw [if_pos rfl]
            have ecm : ∀ c', cMx (wN S o z) t' dep c' = cMx (wN S o z) t dep c' := fun c' => cMx_congr dep tp c'
            have esw : sWd (wN S o z) t' dep 6 = sWd (wN S o z) t dep 6 := sWd_congr tp 6
            have estep := sWd_step (w := wN S o z) (col := t') (n := dep) 6 (by rw [tpd]; omega)
            rw [tpd, ecm, esw] at estep
            have ecnn : ∀ v, Cn (dep + 1) t' v ↔ (Cn dep t v ∨ (Ex dep t v ∧ v dep < c)) := by
              intro v
              constructor
              · rintro ⟨k', k1, k2, k3⟩
                rcases Nat.lt_or_ge k' dep with h | h
                · exact Or.inl ⟨k', h, fun j hj => (k2 j hj).trans (tp j (by omega)), by rw [← tp k' h]; exact k3⟩
                · have hkd : k' = dep := by omega
                  subst hkd
                  exact Or.inr ⟨fun j hj => (k2 j hj).trans (tp j hj), by rw [tpd] at k3; exact k3⟩
              · rintro (⟨k', k1, k2, k3⟩ | ⟨h1, h2⟩)
                · exact ⟨k', by omega, fun j hj => (k2 j hj).trans (tp j (by omega)).symm, by rw [tp k' k1]; exact k3⟩
                · exact ⟨dep, by omega, fun j hj => (h1 j hj).trans (tp j hj).symm, by rw [tpd]; exact h2⟩
            have eexx : ∀ v, Ex (dep + 1) t' v ↔ (Ex dep t v ∧ v dep = c) := by
              intro v
              constructor
              · intro h; exact ⟨fun j hj => (h j (by omega)).trans (tp j hj), by rw [h dep (by omega), tpd]⟩
              · rintro ⟨h1, h2⟩ j hj
                rcases Nat.lt_or_ge j dep with h | h
                · rw [h1 j h, tp j h]
                · rw [show j = dep by omega, h2, tpd]
            have u8at : ∀ c' j, ¬ (c' = 31 ∧ j = dep) → ¬ (c' = 32 ∧ j = c) → u8 c' j = w' c' j := fun c' j a b => by rw [h8, up_at, if_neg b, h7, up_at, if_neg a]
            have hX8 : SrX S o z t' m (dep + 1) u8 := by
              refine ⟨hZ.congr (fun c' a b e f => by funext j; exact u8at c' j (by omega) (by omega)) (u8at 27 7 (by omega) (by omega)), fun i hi => ?_, fun c' hc' => ?_⟩
              · rcases Nat.lt_or_ge i dep with h | h
                · rw [u8at 31 i (by omega) (by omega), w3 i h, hX.2.1 i h, tp i h]
                · rw [show i = dep by omega, h8, up_at, if_neg (by omega), h7, up_at, if_pos ⟨rfl, rfl⟩, tpd]
              · show _ = nI (if t' dep = c' then _ else _)
                rw [tpd, ecm]
                by_cases h : c = c'
                · rw [if_pos h, h8, up_at, if_pos ⟨rfl, h.symm⟩, h]
                · rw [if_neg h, u8at 32 c' (by omega) (fun e => h e.2.symm), w4 c' hc', hX.2.2 c' hc']
            have hV8 : Vd (shN S o z) (dep + 1) t' := by
              refine ⟨fun i hi => ?_, fun j i hj hi he => ?_⟩
              · rcases Nat.lt_or_ge i dep with h | h
                · rw [tp i h]; exact hV.1 i h
                · rw [show i = dep by omega, tpd]; omega
              · rcases Nat.lt_or_ge i dep with h | h
                · rw [tp i h, tp j (by omega)] at he; exact hV.2 j i hj h he
                · have hid : i = dep := by omega
                  subst hid
                  rw [tpd, tp j hj] at he
                  exact hs j hj he
            have etk : tk t' dep = tk t dep := tk_congr dep tp
            have hR8 : Rg (dep + 1) t' := by
              intro i hi
              rcases Nat.lt_or_ge i dep with h | h
              · rw [tp i h, tk_congr i (fun j hj => tp j (by omega))]; exact hR i h
              · rw [show i = dep by omega, tpd, etk]; exact hct
            have etk2 : mmax (nI (tk t dep)) (nI (c + 1)) = nI (tk t' (dep + 1)) := by
              rw [mmax_n (by omega) (by omega)]
              show _ = nI (max (tk t' dep) (t' dep + 1))
              rw [etk, tpd]
            have esum : nI (sWd (wN S o z) t dep 6) - nI (cMx (wN S o z) t dep c) + nI (max (cMx (wN S o z) t dep c) (wN S o z dep)) = nI (sWd (wN S o z) t' (dep + 1) 6) := by
              have hle : cMx (wN S o z) t dep c ≤ sWd (wN S o z) t dep 6 := by
                have : ∀ C, c < C → cMx (wN S o z) t dep c ≤ sWd (wN S o z) t dep C := by
                  intro C
                  induction C with
                  | zero => intro h; omega
                  | succ C ihC =>
                    intro h
                    unfold sWd
                    by_cases hcC : c = C
                    · rw [hcC]; omega
                    · have := ihC (by omega); omega
                exact this 6 (by omega)
              rw [pk_sub hle, nI_add]
              congr 1
              omega
            rw [n_p1, etk2, esum]
            have hB8 : BSt S o z m (Cn (dep + 1) t') u8 := w5.congr (fun v _ => (ecnn v).symm) (u8at 27 8 (by omega) (by omega)) (by funext j; exact u8at 30 j (by omega) (by omega))
            refine ih (dep + 1) t' u8 _ (by omega) hX8 hV8 hR8 hB8 (fun u9 a1 a2 a3 a4 a5 => ⟨n_in (by omega) (by omega), fun u10 h10 => ?_⟩)
            rw [n_ix (by omega)] at h10
            have u10at : ∀ c' j, ¬ (c' = 32 ∧ j = c) → u10 c' j = u9 c' j := fun c' j h => by rw [h10, up_at, if_neg h]
            refine ihn (c + 1) u10 (by omega) (fun c' a b e f => ?_) (fun j hj => ?_) (fun i hi => ?_) (fun c' hc' => ?_) (a5.congr (fun v _ => ?_) (u10at 27 8 (by omega)) (by funext j; exact u10at 30 j (by omega)))
            · funext j; rw [u10at c' j (by omega), a1 c' a b e f, u8at c' j (by omega) (by omega), w1 c' a b e f]
            · rw [u10at 27 j (by omega), a2 j hj, u8at 27 j (by omega) (by omega), w2 j hj]
            · rw [u10at 31 i (by omega), a3 i (by omega), u8at 31 i (by omega) (by omega), w3 i hi]
            · by_cases h : c' = c
              · rw [h10, up_at, if_pos ⟨rfl, h⟩, h, hX.2.2 c (by omega)]
              · rw [u10at 32 c' (fun e => h e.2), a4 c' hc', u8at 32 c' (by omega) (fun e => h e.2), w4 c' hc']
            · rw [ecnn, eexx]
              constructor
              · rintro ((h | h) | h)
                · exact Or.inl h
                · exact Or.inr ⟨h.1, by omega⟩
                · exact Or.inr ⟨h.1, by omega⟩
              · rintro (h | h)
                · exact Or.inl (Or.inl h)
                · rcases Nat.lt_or_ge (v dep) c with h2 | h2
                  · exact Or.inl (Or.inr ⟨h.1, h2⟩)
                  · exact Or.inr ⟨h.1, by omega⟩
          · rw [n_p1 (k := c)]
            refine ihn (c + 1) w' (by omega) w1 w2 w3 w4 (w5.congr (fun v hv => ?_) rfl rfl)
            constructor
            · rintro (h | h)
              · exact Or.inl h
              · exact Or.inr ⟨h.1, by omega⟩
            · rintro (h | h)
              · exact Or.inl h
              · rcases Nat.lt_or_ge (v dep) c with h2 | h2
                · exact Or.inr ⟨h.1, h2⟩
                · exfalso
                  have hvd : v dep = c := by omega
                  exact hs (fun i hi hic => hv.1.2 i dep hi (by omega) (by rw [h.1 i hi, hic, hvd]))
      exact key 6 0 w (by omega) (fun _ _ _ _ _ => rfl) (fun _ _ => rfl) (fun _ _ => rfl) (fun _ _ => rfl) (hB.congr (fun v _ => ⟨fun h => Or.inl h, fun h => h.elim id (fun h2 => absurd h2.2 (Nat.not_lt_zero _))⟩) rfl rfl)
    · rw [hX.1.2.1] at h; exact absurd ((n_lt (by omega) (by omega)).mpr (by omega)) h
    · rcases hB with ⟨a, b⟩ | ⟨col, a, b, c, e, f⟩
      · exact absurd (by rw [a, i_lt, n_i (by omega)]; have : (2147483647 : Int32).toInt = 2147483647 := by decide
                         omega) hge
      · refine hq w (fun _ _ _ _ _ => rfl) (fun _ _ => rfl) (fun _ _ => rfl) (fun _ _ => rfl) (Or.inr ⟨col, a, b, c, Or.inl e, fun v hv hc => ?_⟩)
        rcases hc with hc | hc
        · exact f v hv hc
        · have hcs := sWd_bd (fun i hi => hw31 i hi) (n := m) (col := col) 6
          rw [a] at hge
          have h1 : ¬ _ := fun h => hge ((n_lt (by omega) (by omega)).mpr h)
          have h2 := sWd_congr (w := wN S o z) (fun i hi => hc i hi) 6
          have h3 := sWd_mono (w := wN S o z) (col := v) (n := dep) (C := 6) (k + 1)
          rw [hk] at h3
          refine ⟨by omega, fun _ hl => ?_⟩
          obtain ⟨k', k1, k2, k3⟩ := e
          exact lx_asym hl ⟨k', by omega, fun j hj => (k2 j hj).trans (hc j (by omega)).symm, by rw [hc k' k1]; exact k3⟩
end
