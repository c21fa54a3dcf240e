/-! the reference: the list of a chord's signs -/
def lsP (S : Sc) (o : Nat → Nat) (b t : Int32) (k x : Nat) : Prop := x < k ∧ S.2 2 x = b ∧ S.2 3 x = t ∧ KJ S o x ≠ 0
section
variable {G : Gp} {d : Nat} {S : Sc} {o : Nat → Nat} {K KT : Nat → Int32} {μ : Mem} {Q : Int32 → Mem → Prop}
theorem RW.congr {u : Mem} (h : RW S o μ) (hu : ∀ c, 54 ≤ c → c ≤ 57 → u c = μ c) : RW S o u := by
  refine ⟨fun p hp => by rw [hu 54 (by omega) (by omega)]; exact h.1 p hp, fun j hj => ?_⟩
  rw [hu 55 (by omega) (by omega), hu 56 (by omega) (by omega), hu 57 (by omega) (by omega)]; exact h.2 j hj
theorem md_listSigns (hR : RN S μ) (hK : RK S K KT μ) (hW : RW S o μ) {b t : Int32} (hq : ∀ (u : Mem) m f, Lst (tR S) (lsP S o b t S.1) m f → m ≤ S.1 → u 42 25 = nI m → (∀ i, i < m → u 64 i = nI (zzF f m i)) → (∀ j, j ≠ 25 → u 42 j = μ 42 j) → (∀ c, c ≠ 42 → c ≠ 63 → c ≠ 64 → u c = μ c) → Q 0 u) : Ct G (d + 2) M_MD_listSigns [.inr 42, .inl b, .inl t] μ Q := by
  have h60 := hR.n60
  -- the zigzag
  have zig : ∀ (w : Mem) m f, Lst (tR S) (lsP S o b t S.1) m f → m ≤ S.1 → w 42 25 = nI m → (∀ i, i < m → w 63 i = nI (f i)) → (∀ j, j ≠ 25 → w 42 j = μ 42 j) → (∀ c, c ≠ 42 → c ≠ 63 → w c = μ c) → AW G (d + 2) M_MD_listSigns Q 124 [some (.inr 42), none, none, some (.inl (nI 0)), none] [] w := by
    intro w m f hL hm w1 w2 w3 w4
    have key : ∀ n k, k + n = m → ∀ v : Mem, (∀ c, c ≠ 64 → v c = w c) → (∀ i, i < k → v 64 i = nI (zzF f m i)) → AW G (d + 2) M_MD_listSigns Q 124 [some (.inr 42), none, none, some (.inl (nI k)), none] [] v := by
      intro n
      induction n with
      | zero =>
        intro k hk v v1 v2
        have hk : k = m := by omega
        subst hk
        refine vc_MD_listSigns_124 ?_
        rw [v1 42 (by omega), w1]
        refine ⟨fun _ => hq v k f hL hm (by rw [v1 42 (by omega)]; exact w1) v2 (fun j hj => by rw [v1 42 (by omega)]; exact w3 j hj) (fun c a b' e => by rw [v1 c e]; exact w4 c a b'), fun h => absurd ((n_le (by omega) (by omega)).mpr (Nat.le_refl _)) h⟩
      | succ n ih =>
        intro k hk v v1 v2
        have ek : vp_in (nI k) 60 := n_in (by omega) (by omega)
        have nxt : ∀ r, r < m → zzF f m k = f r → ∀ u1 : Mem, u1 = up v 64 k (v 63 r) → AW G (d + 2) M_MD_listSigns Q 124 [some (.inr 42), none, none, some (.inl (nI (k + 1))), none] [] u1 := by
          intro r hr hz u1 hu
          refine ih (k + 1) (by omega) u1 (fun c hc => ?_) (fun i hi => ?_)
          · rw [← v1 c hc, hu]; funext j; rw [up_at, if_neg (by omega)]
          · rw [hu, up_at]
            by_cases h : i = k
            · rw [if_pos ⟨rfl, h⟩, h, hz, v1 63 (by omega), w2 r hr]
            · rw [if_neg (by omega)]; exact v2 i (by omega)
        have es : nI m - 1 - nI (k / 2) = nI (m - 1 - k / 2) := by
          rw [i_eq, i_sub, i_sub, n_i (by omega), n_i (by omega), n_i (by omega)]
          · have e1 : (1 : Int32).toInt = 1 := by decide
            rw [e1]; omega
          · have e1 : (1 : Int32).toInt = 1 := by decide
            rw [n_i (by omega), e1]; omega
          · have e1 : (1 : Int32).toInt = 1 := by decide
            rw [n_i (by omega), e1]; omega
          · have e1 : (1 : Int32).toInt = 1 := by decide
            rw [i_sub (by rw [n_i (by omega), e1]; omega) (by rw [n_i (by omega), e1]; omega), n_i (by omega), n_i (by omega), e1]; omega
          · have e1 : (1 : Int32).toInt = 1 := by decide
            rw [i_sub (by rw [n_i (by omega), e1]; omega) (by rw [n_i (by omega), e1]; omega), n_i (by omega), n_i (by omega), e1]; omega
        refine vc_MD_listSigns_124 ?_
        rw [v1 42 (by omega), w1, n_le (by omega) (by omega), show (2 : Int32) = nI 2 from rfl, n_rem (by omega) (by omega) (by omega), n_div (by omega) (by omega) (by omega), es, n_ix (show m - 1 - k / 2 < 2147483648 by omega), n_ix (show k / 2 < 2147483648 by omega), n_ix (show k < 2147483648 by omega), n_p1, show (0 : Int32) = nI 0 from rfl, n_inj (by omega) (by omega)]
        refine ⟨fun h => absurd h (by omega), fun _ => ⟨fun h => ⟨n_in (by omega) (by omega), ek, nxt _ (by omega) (by unfold zzF; rw [if_neg h])⟩, fun h => ⟨n_in (by omega) (by omega), ek, nxt _ (by omega) (by unfold zzF; rw [if_pos h])⟩⟩⟩
    exact key m 0 (by omega) w (fun c _ => rfl) (fun i hi => absurd hi (Nat.not_lt_zero i))
  -- the list
  have key : ∀ n k, k + n = S.1 → ∀ (w : Mem) m f, Lst (tR S) (lsP S o b t k) m f → m ≤ k → w 42 25 = nI m → (∀ i, i < m → w 63 i = nI (f i)) → (∀ j, j ≠ 25 → w 42 j = μ 42 j) → (∀ c, c ≠ 42 → c ≠ 63 → w c = μ c) → AW G (d + 2) M_MD_listSigns Q 7 [some (.inr 42), some (.inl b), some (.inl t), some (.inl (nI k)), none] [] w := by
    intro n
    induction n with
    | zero =>
      intro k hk w m f hL hm w1 w2 w3 w4
      have hk : k = S.1 := by omega
      subst hk
      refine vc_MD_listSigns_7 ?_
      rw [w3 8 (by omega), hR.2.1]
      exact ⟨fun _ => zig w m f hL hm w1 w2 w3 w4, fun h => absurd ((n_le (by omega) (by omega)).mpr (Nat.le_refl _)) h⟩
    | succ n ih =>
      intro k hk w m f hL hm w1 w2 w3 w4
      have hkS : k < S.1 := by omega
      have ek : vp_in (nI k) 60 := n_in (by omega) (by omega)
      have hRw : RN S w := hR.congr (w3 8 (by omega)) (fun c _ _ => w4 c (by omega) (by omega))
      have k56 : w 56 k = KJ S o k := by rw [w4 56 (by omega) (by omega)]; exact (hW.2 k hkS).2.1
      have no : ¬ (S.2 2 k = b ∧ S.2 3 k = t ∧ KJ S o k ≠ 0) → AW G (d + 2) M_MD_listSigns Q 7 [some (.inr 42), some (.inl b), some (.inl t), some (.inl (nI k + 1)), none] [] w := by
        intro h
        rw [n_p1]
        refine ih (k + 1) (by omega) w m f (hL.congrP (fun x => ⟨fun hx => ⟨by have := hx.1; omega, hx.2⟩, fun hx => ⟨?_, hx.2⟩⟩)) (by omega) w1 w2 w3 w4
        by_cases hxk : x = k
        · rw [hxk] at hx; exact absurd hx.2 h
        · have := hx.1; omega
      refine vc_MD_listSigns_7 ?_
      rw [w3 8 (by omega), hR.2.1, n_le (by omega) (by omega), n_ix (by omega), hRw.at hkS (k := 2) (by omega) rfl, hRw.at hkS (k := 3) (by omega) rfl, k56]
      refine ⟨fun h => absurd h (by omega), fun _ => ⟨ek, fun h => no (fun h3 => h h3.1), fun hb => ⟨ek, fun h => no (fun h3 => h h3.2.1), fun ht => ⟨ek, fun h => no (fun h3 => ?_), fun hs y hy => ?_⟩⟩⟩⟩
      · rcases KJ_012 S o k with e | e | e
        · exact h3.2.2 e
        · rw [e] at h; exact absurd h (by decide)
        · rw [e] at h; exact absurd h (by decide)
      · have hkj : KJ S o k ≠ 0 := fun e => by rw [e] at hs; exact hs (by decide)
        rw [w1] at hy
        subst hy
        have fin : ∀ a (v : Mem), a ≤ m → (∀ c, c ≠ 63 → v c = w c) → (∀ p, p < a → v 63 p = nI (f p)) → (∀ p, a < p → p ≤ m → v 63 p = nI (f (p - 1))) → (∀ p, a ≤ p → p < m → (S.2 0 (f p)).toInt < (S.2 0 k).toInt) → (a = 0 ∨ (S.2 0 k).toInt ≤ (S.2 0 (f (a - 1))).toInt) → vp_in (nI a) 60 ∧ ∀ u1 : Mem, u1 = up v 63 a (nI k) → ∀ u2 : Mem, u2 = up u1 42 25 (u1 42 25 + 1) → AW G (d + 2) M_MD_listSigns Q 7 [some (.inr 42), some (.inl b), some (.inl t), some (.inl (nI k + 1)), none] [] u2 := by
          intro a v ha v1 v2 v3 v4 hlo
          refine ⟨n_in (by omega) (by omega), fun u1 hu1 u2 hu2 => ?_⟩
          have e25 : u1 42 25 = nI m := by rw [hu1, up_at, if_neg (by omega), v1 42 (by omega)]; exact w1
          rw [e25, n_p1] at hu2
          rw [n_p1]
          have hfk : ∀ p, p < m → f p < k := fun p hp => (hL.1 p hp).1
          have hL2 := hL.ins (tR_tr (S := S)) (k := a) (x := k) ha (by
            rcases Nat.eq_zero_or_pos a with h0 | h0
            · exact Or.inl h0
            · have := hfk (a - 1) (by omega)
              right; unfold tR; omega) (fun i h1 h2 => Or.inl (v4 i h1 h2))
          refine ih (k + 1) (by omega) u2 (m + 1) (insO f k a) (hL2.congrP (fun x => ?_)) (by omega) ?_ (fun i hi => ?_) (fun j hj => ?_) (fun c h1 h2 => ?_)
          · constructor
            · rintro (h | h)
              · exact ⟨by have := h.1; omega, h.2⟩
              · rw [h]; exact ⟨by omega, hb, ht, hkj⟩
            · intro h
              by_cases hx : x = k
              · exact Or.inr hx
              · exact Or.inl ⟨by have := h.1; omega, h.2⟩
          · rw [hu2, up_at, if_pos ⟨rfl, rfl⟩]
          · rw [hu2, up_at, if_neg (by omega), hu1, up_at]
            unfold insO
            by_cases h1 : i < a
            · rw [if_neg (by omega), if_pos h1]; exact v2 i h1
            · rw [if_neg h1]
              by_cases h2 : i = a
              · rw [if_pos ⟨rfl, h2⟩, if_pos h2]
              · rw [if_neg (by omega), if_neg h2]; exact v3 i (by omega) (by omega)
          · rw [hu2, up_at, if_neg (by omega), hu1, up_at, if_neg (by omega), v1 42 (by omega)]; exact w3 j hj
          · rw [← w4 c h1 h2, ← v1 c h2, hu2]; funext j; rw [up_at, if_neg (by omega), hu1, up_at, if_neg (by omega)]
        have inn : ∀ a (v : Mem), a ≤ m → (∀ c, c ≠ 63 → v c = w c) → (∀ p, p < a → v 63 p = nI (f p)) → (∀ p, a < p → p ≤ m → v 63 p = nI (f (p - 1))) → (∀ p, a ≤ p → p < m → (S.2 0 (f p)).toInt < (S.2 0 k).toInt) → AW G (d + 2) M_MD_listSigns Q 50 [some (.inr 42), some (.inl b), some (.inl t), some (.inl (nI k)), some (.inl (nI a))] [] v := by
          intro a
          induction a with
          | zero =>
            intro v ha v1 v2 v3 v4
            refine vc_MD_listSigns_50 ⟨fun _ => ?_, fun h => absurd (by decide) h⟩
            rw [n_ix (by omega)]
            exact fin 0 v ha v1 v2 v3 v4 (Or.inl rfl)
          | succ a iha =>
            intro v ha v1 v2 v3 v4
            have hRv : RN S v := hRw.congr (by rw [v1 42 (by omega)]) (fun c _ _ => v1 c (by omega))
            have hKv : RK S K KT v := hK.congr (fun c _ _ => by rw [v1 c (by omega), w4 c (by omega) (by omega)])
            have hfa := hL.1 a (by omega)
            have hfS : f a < S.1 := by have := hfa.1; omega
            refine vc_MD_listSigns_50 ⟨fun h => absurd h ?_, fun _ => ?_⟩
            · rw [i_le, n_i (by omega), Int32.toInt_zero]; omega
            rw [n_s1, n_ix (show a < 2147483648 by omega), n_ix (show a + 1 < 2147483648 by omega), v2 a (by omega)]
            obtain ⟨p1, l1⟩ := pl_i hR.1 hK.1 hkS
            obtain ⟨p2, l2⟩ := pl_i hR.1 hK.1 hfS
            have eb : baN S (f a) = baN S k := by unfold baN; rw [hfa.2.1, hb]
            rw [eb] at p2
            refine ⟨n_in (by omega) (by omega), md_placeOf hRv hKv hfS (md_placeOf hRv hKv hkS ?_)⟩
            rw [i_le, p1, p2]
            refine ⟨fun h => fin (a + 1) v ha v1 v2 v3 v4 (Or.inr (by rw [Nat.add_sub_cancel]; omega)), fun h => ⟨n_in (by omega) (by omega), n_in (by omega) (by omega), fun u1 hu1 => ?_⟩⟩
            rw [n_m1]
            refine iha u1 (by omega) (fun c hc => ?_) (fun p hp => ?_) (fun p h1 h2 => ?_) (fun p h1 h2 => ?_)
            · rw [← v1 c hc, hu1]; funext j; rw [up_at, if_neg (by omega)]
            · rw [hu1, up_at, if_neg (by omega)]; exact v2 p (by omega)
            · rw [hu1, up_at]
              by_cases hp : p = a + 1
              · rw [if_pos ⟨rfl, hp⟩, hp, Nat.add_sub_cancel, v2 a (by omega)]
              · rw [if_neg (by omega)]; exact v3 p (by omega) h2
            · by_cases hp : p = a
              · rw [hp]; omega
              · exact v4 p (by omega) h2
        exact inn m w (Nat.le_refl m) (fun c _ => rfl) w2 (fun p h1 h2 => absurd h1 (by omega)) (fun p h1 h2 => absurd h1 (by omega))
  refine en_MD_listSigns (vc_MD_listSigns_0 (fun u1 hu1 => ?_))
  refine key S.1 0 (by omega) u1 0 (fun i => i) ⟨fun i hi => absurd hi (Nat.not_lt_zero i), fun i j _ hj => absurd hj (Nat.not_lt_zero j), fun x hx => absurd hx.1 (Nat.not_lt_zero x)⟩ (Nat.le_refl 0) (by rw [hu1, up_at, if_pos ⟨rfl, rfl⟩]; rfl) (fun i hi => absurd hi (Nat.not_lt_zero i)) (fun j hj => by rw [hu1, up_at, if_neg (by omega)]) (fun c h1 h2 => by rw [hu1]; funext j; rw [up_at, if_neg (by omega)])
end
