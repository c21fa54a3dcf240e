/-! the reference: dots -/
def rdP (S : Sc) (j k x : Nat) : Prop := ∃ r, r < k ∧ S.2 7 r ≠ 0 ∧ wh S r = wh S j ∧ stN S r = x
def vl (D : Nat → Int) (lo : Int) (m k s : Nat) : Nat := if s % 2 = 0 then 1000000 else cst D lo m k (s / 2)
section
variable {G : Gp} {d : Nat} {S : Sc} {o : Nat → Nat} {K KT : Nat → Int32} {μ : Mem} {Q : Int32 → Mem → Prop}
theorem md_dcol (hR : RN S μ) (hK : RK S K KT μ) {j : Nat} (hj : j < S.1) (nxt : ∀ (w : Mem) m f, (∀ c, c ≠ 67 → w c = μ c) → Lst gtR (rdP S j S.1) m f → m ≤ S.1 → (∀ i, i < m → (w 67 i).toInt = (f i : Int) - (loF (K (baN S j))).toInt) → AW G (d + 2) M_MD_dot Q 201 [some (.inr 42), some (.inl (nI j)), some (.inl (nI m)), some (.inl (nI m + -1)), none, none, none, none, none] [] w) : AW G (d + 2) M_MD_dot Q 32 [some (.inr 42), some (.inl (nI j)), some (.inl 0), some (.inl 0), none, none, none, none, none] [] μ := by
  have h60 := hR.n60
  have hB := hR.1
  have key : ∀ n k, k + n = S.1 → ∀ (w : Mem) m f, (∀ c, c ≠ 67 → w c = μ c) → Lst gtR (rdP S j k) m f → m ≤ k → (∀ i, i < m → (w 67 i).toInt = (f i : Int) - (loF (K (baN S j))).toInt) → AW G (d + 2) M_MD_dot Q 32 [some (.inr 42), some (.inl (nI j)), some (.inl (nI m)), some (.inl (nI k)), none, none, none, none, none] [] w := by
    intro n
    induction n with
    | zero =>
      intro k hk w m f w1 w2 w3 w4
      have hk : k = S.1 := by omega
      subst hk
      refine vc_MD_dot_32 ?_
      rw [w1 42 (by omega), hR.2.1]
      refine ⟨fun _ y hy => ?_, fun h => absurd ((n_le (by omega) (by omega)).mpr (Nat.le_refl _)) h⟩
      rw [Int32.sub_eq_add_neg] at hy
      subst hy
      exact nxt w m f w1 w2 w3 w4
    | succ n ih =>
      intro k hk w m f w1 w2 w3 w4
      have hkS : k < S.1 := by omega
      have ek : vp_in (nI k) 60 := n_in (by omega) (by omega)
      have hRw : RN S w := hR.congr (by rw [w1 42 (by omega)]) (fun c _ _ => w1 c (by omega))
      have hKw : RK S K KT w := hK.congr (fun c _ _ => w1 c (by omega))
      have stop : (∀ x, rdP S j (k + 1) x → rdP S j k x) → ∀ x5 x6 : Int32, AW G (d + 2) M_MD_dot Q 75 [some (.inr 42), some (.inl (nI j)), some (.inl (nI m)), some (.inl (nI k)), some (.inl 0), some (.inl x5), some (.inl x6), none, none] [] w := by
        intro hsub x5 x6
        have go : AW G (d + 2) M_MD_dot Q 32 [some (.inr 42), some (.inl (nI j)), some (.inl (nI m)), some (.inl (nI k + 1)), none, none, none, none, none] [] w := by
          rw [n_p1]
          exact ih (k + 1) (by omega) w m f w1 (w2.congrP (fun x => ⟨fun ⟨r, a, b⟩ => ⟨r, by omega, b⟩, hsub x⟩)) (by omega) w4
        exact vc_MD_dot_75 ⟨fun _ => ⟨fun _ => go, fun h => absurd rfl h⟩, fun _ => ⟨fun _ => ⟨fun _ => go, fun h => absurd rfl h⟩, fun h => absurd rfl h⟩⟩
      have nsub : ¬ (S.2 7 k ≠ 0 ∧ wh S k = wh S j) → ∀ x, rdP S j (k + 1) x → rdP S j k x := fun h x ⟨r, a, b, c, e⟩ => ⟨r, by
        by_cases hr : r = k
        · rw [hr] at b c; exact absurd ⟨b, c⟩ h
        · omega, b, c, e⟩
      have h7 := (hB.2.1 k hkS).2.2.2.2.2.2.2
      unfold rg at h7
      have e70 : S.2 7 k ≤ 0 ↔ S.2 7 k = 0 := by rw [i_le, i_eq, Int32.toInt_zero]; omega
      refine vc_MD_dot_32 ?_
      rw [w1 42 (by omega), hR.2.1, n_le (by omega) (by omega), n_ix (by omega), hRw.at hkS (k := 7) (by omega) rfl, e70]
      refine ⟨fun h => absurd h (by omega), fun _ => ⟨ek, fun h => stop (nsub (fun h2 => h2.1 h)) 0 0, fun hd => md_whenOf hRw hkS (fun x hx => md_whenOf hRw hj (fun y hy => ?_))⟩⟩
      rw [i_eq (a := x), hx, hy]
      refine ⟨fun h => stop (nsub (fun h2 => h h2.2)) 0 0, fun hwh => ?_⟩
      -- a dotted note of the chord
      have ebk : baN S k = baN S j := wh_bar_eq hB hkS hj hwh
      have hpl : (plJ S K k).toInt = (stN S k : Int) - (loF (K (baN S j))).toInt := by
        have := (pl_i hB hK.1 hkS).1
        rw [ebk] at this
        obtain ⟨s1, s2⟩ := st_n hB hkS
        rw [this, s1, n_i (by omega)]
      have hmem : ∀ i, i < m → (w 67 i = plJ S K k ↔ f i = stN S k) := fun i hi => by rw [i_eq, w4 i hi, hpl]; omega
      have hgt : ∀ i, i < m → (w 67 i ≤ plJ S K k ↔ f i ≤ stN S k) := fun i hi => by rw [i_le, w4 i hi, hpl]; omega
      have hds : ∀ i i', i < i' → i' < m → f i' < f i := fun i i' h1 h2 => w2.2.1 i i' h1 h2
      have ins : ∀ a, a ≤ m → (∀ i, i < a → stN S k < f i) → (∀ i, a ≤ i → i < m → f i < stN S k) → AW G (d + 2) M_MD_dot Q 147 [some (.inr 42), some (.inl (nI j)), some (.inl (nI m)), some (.inl (nI k)), none, some (.inl (nI a)), some (.inl (nI m)), none, none] [] w := by
        intro a ha l1 l2
        have sh : ∀ n' c, c = a + n' → c ≤ m → ∀ v : Mem, (∀ c, c ≠ 67 → v c = μ c) → (∀ i, i < c → v 67 i = w 67 i) → (∀ i, c < i → i ≤ m → v 67 i = w 67 (i - 1)) → AW G (d + 2) M_MD_dot Q 147 [some (.inr 42), some (.inl (nI j)), some (.inl (nI m)), some (.inl (nI k)), none, some (.inl (nI a)), some (.inl (nI c)), none, none] [] v := by
          intro n'
          induction n' with
          | zero =>
            intro c hc hcm v v1 v2 v3
            have hc : c = a := by omega
            subst hc
            have hRv : RN S v := hR.congr (by rw [v1 42 (by omega)]) (fun c _ _ => v1 c (by omega))
            have hKv : RK S K KT v := hK.congr (fun c _ _ => v1 c (by omega))
            refine vc_MD_dot_147 ⟨fun _ => md_placeOf hRv hKv hkS ⟨n_in (by omega) (by omega), fun u3 hu3 => ?_⟩, fun h => absurd ((n_le (by omega) (by omega)).mpr (Nat.le_refl _)) h⟩
            rw [n_ix (by omega)] at hu3
            rw [n_p1, n_p1]
            refine ih (k + 1) (by omega) u3 (m + 1) (insO f (stN S k) c) (fun c' hc' => by rw [← v1 c' hc', hu3]; funext j'; rw [up_at, if_neg (by omega)]) ?_ (by omega) (fun i hi => ?_)
            · refine (w2.ins (fun x y z (h1 : y < x) (h2 : z < y) => (by show z < x; omega)) (k := c) (x := stN S k) ha ?_ (fun i h1 h2 => l2 i h1 h2)).congrP (fun x => ?_)
              · rcases Nat.eq_zero_or_pos c with h0 | h0
                · exact Or.inl h0
                · exact Or.inr (l1 (c - 1) (by omega))
              · constructor
                · rintro (⟨r, a1, a2⟩ | h)
                  · exact ⟨r, by omega, a2⟩
                  · exact ⟨k, by omega, hd, hwh, h.symm⟩
                · rintro ⟨r, a1, a2, a3, a4⟩
                  by_cases hr : r = k
                  · right; rw [← a4, hr]
                  · exact Or.inl ⟨r, by omega, a2, a3, a4⟩
            · rw [hu3, up_at]
              unfold insO
              by_cases h1 : i < c
              · rw [if_neg (by omega), if_pos h1, v2 i h1]; exact w4 i (by omega)
              · rw [if_neg h1]
                by_cases h2 : i = c
                · rw [if_pos ⟨rfl, h2⟩, if_pos h2]; exact hpl
                · rw [if_neg (by omega), if_neg h2, v3 i (by omega) (by omega)]; exact w4 (i - 1) (by omega)
          | succ n' ihn =>
            intro c hc hcm v v1 v2 v3
            obtain ⟨c', hc'⟩ : ∃ c', c = c' + 1 := ⟨c - 1, by omega⟩
            subst hc'
            refine vc_MD_dot_147 ⟨fun h => absurd ((n_le (by omega) (by omega)).mp h) (by omega), fun _ => ?_⟩
            rw [n_s1, n_m1]
            refine ⟨n_in (by omega) (by omega), n_in (by omega) (by omega), fun u4 hu4 => ?_⟩
            rw [n_ix (by omega), n_ix (by omega), v2 c' (by omega)] at hu4
            refine ihn c' (by omega) (by omega) u4 (fun c hc => by rw [← v1 c hc, hu4]; funext j'; rw [up_at, if_neg (by omega)]) (fun i hi => by rw [hu4, up_at, if_neg (by omega)]; exact v2 i (by omega)) (fun i h1 h2 => ?_)
            rw [hu4, up_at]
            by_cases h : i = c' + 1
            · rw [if_pos ⟨rfl, h⟩, h, Nat.add_sub_cancel]
            · rw [if_neg (by omega)]; exact v3 i (by omega) h2
        exact sh (m - a) m (by omega) (Nat.le_refl m) w w1 (fun _ _ => rfl) (fun i h1 h2 => absurd h1 (by omega))
      have sc : ∀ r i, i + r = m → ∀ a, a ≤ i → (∀ i', i' < a → stN S k < f i') → (∀ i', a ≤ i' → i' < i → f i' < stN S k) → AW G (d + 2) M_MD_dot Q 75 [some (.inr 42), some (.inl (nI j)), some (.inl (nI m)), some (.inl (nI k)), some (.inl 1), some (.inl (nI a)), some (.inl (nI i)), none, none] [] w := by
        intro r
        have t10 : ¬ (1 : Int32) = 0 := by decide
        induction r with
        | zero =>
          intro i hi a ha l1 l2
          have hi : i = m := by omega
          subst hi
          exact vc_MD_dot_75 ⟨fun _ => ⟨fun h => absurd h t10, fun _ => ins a ha l1 l2⟩, fun h => absurd ((n_le (by omega) (by omega)).mpr (Nat.le_refl _)) h⟩
        | succ r ihr =>
          intro i hi a ha l1 l2
          have him : i < m := by omega
          have ei : vp_in (nI i) 60 := n_in (by omega) (by omega)
          refine vc_MD_dot_75 ⟨fun h => absurd ((n_le (by omega) (by omega)).mp h) (by omega), fun _ => ⟨fun h => absurd h t10, fun _ => ⟨ei, md_placeOf hRw hKw hkS ?_⟩⟩⟩
          rw [n_ix (by omega), hmem i him]
          refine ⟨fun he => ⟨ei, md_placeOf hRw hKw hkS ?_⟩, fun hne => ⟨ei, md_placeOf hRw hKw hkS ?_⟩⟩
          · have hs : ∀ x, rdP S j (k + 1) x → rdP S j k x := fun x ⟨r, a1, a2, a3, a4⟩ => by
              by_cases hr : r = k
              · rw [← a4, hr, ← he]; exact w2.1 i him
              · exact ⟨r, by omega, a2, a3, a4⟩
            exact ⟨fun _ y _ => stop hs y _, fun _ y _ => stop hs y _⟩
          · rw [hgt i him]
            refine ⟨fun hle y hy => ?_, fun hle y hy => ?_⟩
            · rw [Int32.add_zero] at hy
              rw [hy, n_p1]
              refine ihr (i + 1) (by omega) a (by omega) l1 (fun i' h1 h2 => ?_)
              by_cases h : i' = i
              · rw [h]; omega
              · exact l2 i' h1 (by omega)
            · rw [n_p1] at hy
              rw [hy, n_p1]
              have hai : a = i := by
                rcases Nat.lt_or_ge a i with h | h
                · have := l2 a (Nat.le_refl a) h
                  have := hds a i h him
                  omega
                · omega
              subst hai
              refine ihr (a + 1) (by omega) (a + 1) (by omega) (fun i' h1 => ?_) (fun i' h1 h2 => absurd h1 (by omega))
              by_cases h : i' = a
              · rw [h]; omega
              · exact l1 i' (by omega)
      exact sc m 0 (by omega) 0 (Nat.le_refl 0) (fun i' h => absurd h (Nat.not_lt_zero i')) (fun i' _ h => absurd h (Nat.not_lt_zero i'))
  exact key S.1 0 (by omega) μ 0 (fun i => i) (fun _ _ => rfl) ⟨fun i hi => absurd hi (Nat.not_lt_zero i), fun i i' _ hi => absurd hi (Nat.not_lt_zero i'), fun x ⟨r, h, _⟩ => absurd h (Nat.not_lt_zero r)⟩ (Nat.le_refl 0) (fun i hi => absurd hi (Nat.not_lt_zero i))
end
