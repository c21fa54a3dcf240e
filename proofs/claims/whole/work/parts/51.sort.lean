/-! the reference: its order and ties -/
def RS (S : Sc) (o : Nat → Nat) (K KT : Nat → Int32) (μ : Mem) : Prop := RN S μ ∧ RK S K KT μ ∧ Ord S o ∧ (∀ p, p < S.1 → μ 54 p = nI (o p)) ∧ ∀ j, j < S.1 → μ 55 j = tieF S j
def SoI (S : Sc) (μ : Mem) (k : Nat) (o' : Nat → Nat) (u : Mem) : Prop := Ord (k, S.2) o' ∧ (∀ p, p < k → u 54 p = nI (o' p)) ∧ (∀ j, j < k → u 55 j = tieF S j ∧ u 56 j = 0 ∧ u 57 j = 0) ∧ ∀ c, (c < 54 ∨ 57 < c) → u c = μ c
section
variable {G : Gp} {d : Nat} {S : Sc} {o : Nat → Nat} {K KT : Nat → Int32} {μ : Mem} {Q : Int32 → Mem → Prop}
theorem RS.congr (h : RS S o K KT μ) {u : Mem} (h8 : u 42 8 = μ 42 8) (hu : ∀ c, 43 ≤ c → c ≤ 55 → u c = μ c) : RS S o K KT u := ⟨h.1.congr h8 (fun c a b => hu c a (by omega)), h.2.1.congr (fun c a b => hu c (by omega) (by omega)), h.2.2.1, fun p hp => by rw [hu 54 (by omega) (by omega)]; exact h.2.2.2.1 p hp, fun j hj => by rw [hu 55 (by omega) (by omega)]; exact h.2.2.2.2 j hj⟩
theorem add_self (k : Nat) (a : Nat → Nat → Int32) : addS (k, a) (fun k' => a k' k) = (k + 1, a) := by
  unfold addS
  congr 1
  funext k' j
  dsimp only
  split
  · rename_i h; rw [h.1]
  · rfl
theorem md_sort (hR : RN S μ) (hO : Ord S o) (hq : ∀ u, (∀ p, p < S.1 → u 54 p = nI (o p)) → (∀ j, j < S.1 → u 55 j = tieF S j ∧ u 56 j = 0 ∧ u 57 j = 0) → (∀ c, (c < 54 ∨ 57 < c) → u c = μ c) → Q 0 u) : Ct G (d + 3) M_MD_sort [.inr 42] μ Q := by
  have h60 := hR.n60
  refine en_MD_sort (vc_MD_sort_0 ?_)
  have key : ∀ n k, k + n = S.1 → ∀ o' u, SoI S μ k o' u → AW G (d + 3) M_MD_sort Q 2 [some (.inr 42), some (.inl (nI k)), none] [] u := by
    intro n
    induction n with
    | zero =>
      intro k hk o' u hu
      have hk : k = S.1 := by omega
      subst hk
      refine vc_MD_sort_2 ⟨fun _ => ?_, fun h => absurd ?_ h⟩
      · exact hq u (fun p hp => by rw [hu.2.1 p hp, hu.1.uniq (show Ord (S.1, S.2) o from hO) p hp]) hu.2.2.1 hu.2.2.2
      · rw [hu.2.2.2 42 (by omega), hR.2.1]; exact (n_le (by omega) (by omega)).mpr (Nat.le_refl _)
    | succ n ih =>
      intro k hk o' u hu
      have hRu : RN S u := hR.congr (by rw [hu.2.2.2 42 (by omega)]) (fun c _ _ => hu.2.2.2 c (by omega))
      refine vc_MD_sort_2 ⟨fun h => absurd h ?_, fun _ => ?_⟩
      · rw [hu.2.2.2 42 (by omega), hR.2.1, n_le (by omega) (by omega)]; omega
      have ek : vp_in (nI k) 60 := n_in (by omega) (by omega)
      have ik : ix (nI k) = k := n_ix (by omega)
      -- the inner loop's memories
      have fin : ∀ a w, a ≤ k → (∀ c, c ≠ 54 → w c = u c) → (∀ p, p < a → w 54 p = nI (o' p)) → (∀ p, a < p → p ≤ k → w 54 p = nI (o' (p - 1))) → (∀ p, a ≤ p → p < k → wh S k < wh S (o' p)) → (a = 0 ∨ wh S (o' (a - 1)) ≤ wh S k) →
          vp_in (nI a) 60 ∧ ∀ u1 : Mem, u1 = up w 54 a (nI k) → vp_in (nI k) 60 ∧ (¬ (u1 48 k) = 1 → vp_in (nI k) 60 ∧ ∀ u2 : Mem, u2 = up u1 55 k (-1) → vp_in (nI k) 60 ∧ ∀ u3 : Mem, u3 = up u2 56 k 0 → vp_in (nI k) 60 ∧ ∀ u4 : Mem, u4 = up u3 57 k 0 → AW G (d + 3) M_MD_sort Q 2 [some (.inr 42), some (.inl (nI k + 1)), none] [] u4) ∧ ((u1 48 k) = 1 → Ct G (d + 2) M_MD_mate [.inr 42, .inl (nI k)] u1 (fun r6 u5 => vp_in (nI k) 60 ∧ ∀ u7 : Mem, u7 = up u5 55 k r6 → vp_in (nI k) 60 ∧ ∀ u8 : Mem, u8 = up u7 56 k 0 → vp_in (nI k) 60 ∧ ∀ u9 : Mem, u9 = up u8 57 k 0 → AW G (d + 3) M_MD_sort Q 2 [some (.inr 42), some (.inl (nI k + 1)), none] [] u9)) := by
        intro a w ha w1 w2 w3 w4 hlo
        refine ⟨n_in (by omega) (by omega), fun u1 hu1 => ⟨ek, ?_⟩⟩
        have c1 : ∀ c, c ≠ 54 → u1 c = u c := fun c hc => by rw [← w1 c hc, hu1]; funext j; rw [up_at, if_neg (by omega)]
        have hR1 : RN S u1 := hRu.congr (by rw [c1 42 (by omega)]) (fun c _ _ => c1 c (by omega))
        have end' : ∀ x : Int32, x = tieF S k → ∀ u2 : Mem, u2 = up u1 55 k x → ∀ u3 : Mem, u3 = up u2 56 k 0 → ∀ u4 : Mem, u4 = up u3 57 k 0 → AW G (d + 3) M_MD_sort Q 2 [some (.inr 42), some (.inl (nI k + 1)), none] [] u4 := by
          intro x hx u2 h2 u3 h3 u4 h4
          have a4 : ∀ c j, u4 c j = if j = k ∧ c = 55 then x else if j = k ∧ (c = 56 ∨ c = 57) then 0 else u1 c j := by
            intro c j
            rw [h4, up_at, h3, up_at, h2, up_at]
            by_cases hj : j = k
            · by_cases g7 : c = 57
              · subst g7; simp [hj]
              · by_cases g6 : c = 56
                · subst g6; simp [hj]
                · by_cases g5 : c = 55
                  · subst g5; simp [hj]
                  · simp [g5, g6, g7]
            · simp [hj]
          rw [n_p1]
          refine ih (k + 1) (by omega) (insO o' k a) u4 ⟨?_, fun p hp => ?_, fun j hj => ?_, fun c hc => ?_⟩
          · have := ord_ins (S := (k, S.2)) (v := fun k' => S.2 k' k) (k := a) hu.1 ha
            rw [add_self] at this
            exact this hlo w4
          · rw [a4, if_neg (by omega), if_neg (by omega), hu1, up_at]
            unfold insO
            by_cases h1 : p < a
            · rw [if_neg (by omega), if_pos h1]; exact w2 p h1
            · rw [if_neg h1]
              by_cases h2 : p = a
              · rw [if_pos ⟨rfl, h2⟩, if_pos h2]
              · rw [if_neg (by omega), if_neg h2]; exact w3 p (by omega) (by omega)
          · rw [a4, a4, a4]
            by_cases h : j = k
            · subst h; simp [hx]
            · have := hu.2.2.1 j (by omega)
              rw [if_neg (by omega), if_neg (by omega), if_neg (by omega), if_neg (by omega), if_neg (by omega), if_neg (by omega), c1 55 (by omega), c1 56 (by omega), c1 57 (by omega)]
              exact this
          · funext j
            rw [a4, if_neg (by omega), if_neg (by omega), c1 c (by omega), hu.2.2.2 c hc]
        refine ⟨fun h => ⟨ek, fun u2 h2 => ⟨ek, fun u3 h3 => ⟨ek, fun u4 h4 => end' (-1) ?_ u2 h2 u3 h3 u4 h4⟩⟩⟩, fun h => md_mate hR1 (by omega) ⟨ek, fun u2 h2 => ⟨ek, fun u3 h3 => ⟨ek, fun u4 h4 => end' _ ?_ u2 h2 u3 h3 u4 h4⟩⟩⟩⟩
        · rw [hR1.at (k := 5) (by omega) (by omega) rfl] at h; unfold tieF; rw [if_neg h]
        · rw [hR1.at (k := 5) (by omega) (by omega) rfl] at h; unfold tieF; rw [if_pos h]
      have inn : ∀ a w, a ≤ k → (∀ c, c ≠ 54 → w c = u c) → (∀ p, p < a → w 54 p = nI (o' p)) → (∀ p, a < p → p ≤ k → w 54 p = nI (o' (p - 1))) → (∀ p, a ≤ p → p < k → wh S k < wh S (o' p)) → AW G (d + 3) M_MD_sort Q 12 [some (.inr 42), some (.inl (nI k)), some (.inl (nI a))] [] w := by
        intro a
        induction a with
        | zero =>
          intro w ha w1 w2 w3 w4
          refine vc_MD_sort_12 ⟨fun _ => ?_, fun h => absurd (by decide) h⟩
          rw [ik, n_ix (by omega)]
          exact fin 0 w ha w1 w2 w3 w4 (Or.inl rfl)
        | succ a iha =>
          intro w ha w1 w2 w3 w4
          have ho : o' a < k := hu.1.1 a (by show a < k; omega)
          have hRw : RN S w := hRu.congr (by rw [w1 42 (by omega)]) (fun c _ _ => w1 c (by omega))
          refine vc_MD_sort_12 ⟨fun h => absurd h ?_, fun _ => ?_⟩
          · rw [i_le, n_i (by omega), Int32.toInt_zero]; omega
          rw [n_s1, n_ix (show a < 2147483648 by omega), ik, n_ix (show a + 1 < 2147483648 by omega), w2 a (by omega)]
          refine ⟨n_in (by omega) (by omega), md_whenOf hRw (by omega) (fun x hx => md_whenOf hRw (by omega) (fun y hy => ?_))⟩
          rw [i_le, hx, hy]
          refine ⟨fun h => fin (a + 1) w ha w1 w2 w3 w4 (Or.inr h), fun h => ⟨n_in (by omega) (by omega), n_in (by omega) (by omega), fun u1 hu1 => ?_⟩⟩
          rw [n_m1]
          refine iha u1 (by omega) (fun c hc => ?_) (fun p hp => ?_) (fun p h1 h2 => ?_) (fun p h1 h2 => ?_)
          · rw [← w1 c hc, hu1]; funext j; rw [up_at, if_neg (by omega)]
          · rw [hu1, up_at, if_neg (by omega)]; exact w2 p (by omega)
          · rw [hu1, up_at]
            by_cases hp : p = a + 1
            · rw [if_pos ⟨rfl, hp⟩, hp, Nat.add_sub_cancel, w2 a (by omega)]
            · rw [if_neg (by omega)]; exact w3 p (by omega) h2
          · by_cases hp : p = a
            · rw [hp]; omega
            · exact w4 p (by omega) h2
      exact inn k u (Nat.le_refl k) (fun c _ => rfl) hu.2.1 (fun p h1 h2 => absurd h1 (by omega)) (fun p h1 h2 => absurd h1 (by omega))
  exact key S.1 0 (by omega) (fun p => p) μ ⟨⟨fun p hp => absurd hp (Nat.not_lt_zero p), fun p q _ hp => absurd hp (Nat.not_lt_zero q), fun j hj => absurd hj (Nat.not_lt_zero j)⟩, fun p hp => absurd hp (Nat.not_lt_zero p), fun j hj => absurd hj (Nat.not_lt_zero j), fun c _ => rfl⟩
end
