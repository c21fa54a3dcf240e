/-! the reference: courtesy -/
section
variable {G : Gp} {d : Nat} {S : Sc} {o : Nat → Nat} {K KT : Nat → Int32} {μ : Mem} {Q : Int32 → Mem → Prop} {p q : Nat}
theorem md_otherSeat (hC : CR S o K KT p q μ) {i : Nat} (h1 : p ≤ i) (h2 : i < q) (h0 : S.2 10 0 = 0) (hst : ∀ s, s < 280 → μ 58 s = STT S o (bar S o p) p s) (hhd : ∀ s, s < 280 → (¬ μ 61 s = 0 ↔ hadP S o (bar S o p) p s)) (hq : Q (bc (cb2 S o i)) μ) : Ct G (d + 1) M_MD_otherSeat [.inr 42, .inl (nI (o i))] μ Q := by
  obtain ⟨q1, q2, h60⟩ := hC.q60
  have hB := hC.bd
  have hO := hC.ord
  have hi : i < S.1 := by omega
  have hoi := hO.1 i hi
  have hsi := sea_lt hB hO hi
  have hcs := hC.cs h1 h2
  have hba := hC.ba h1 h2
  have e28 : ∀ t : Nat, nI t + 28 = nI (t + 28) := fun t => nI_add t 28
  have key : ∀ n t, 280 ≤ t + 28 * n → t < 1000 → t % 28 = sea S o i % 28 → (∀ t', t' < t → t' < 280 → t' % 28 = sea S o i % 28 → t' ≠ sea S o i → hadP S o (bar S o p) p t' → STT S o (bar S o p) p t' = S.2 1 (o i)) → AW G (d + 1) M_MD_otherSeat Q 11 [some (.inr 42), some (.inl (nI (o i))), some (.inl (nI (sea S o i))), some (.inl (nI t))] [] μ := by
    intro n
    have out : ∀ t, 280 ≤ t → (∀ t', t' < t → t' < 280 → t' % 28 = sea S o i % 28 → t' ≠ sea S o i → hadP S o (bar S o p) p t' → STT S o (bar S o p) p t' = S.2 1 (o i)) → Q 0 μ := fun t ht hn => q_cf hq (fun ⟨_, t', a, b, c, e, f⟩ => by
      rw [hcs, hba] at e f
      exact f (hn t' (by omega) a b c e))
    induction n with
    | zero =>
      intro t ht ht2 hm hn
      refine vc_MD_otherSeat_11 ⟨fun _ => out t (by omega) hn, fun h => absurd ((n_le (a := 280) (by omega) (by omega)).mpr (by omega)) h⟩
    | succ n ih =>
      intro t ht ht2 hm hn
      by_cases h280 : 280 ≤ t
      · exact vc_MD_otherSeat_11 ⟨fun _ => out t h280 hn, fun h => absurd ((n_le (a := 280) (by omega) (by omega)).mpr (by omega)) h⟩
      have go : (t ≠ sea S o i → hadP S o (bar S o p) p t → STT S o (bar S o p) p t = S.2 1 (o i)) → AW G (d + 1) M_MD_otherSeat Q 11 [some (.inr 42), some (.inl (nI (o i))), some (.inl (nI (sea S o i))), some (.inl (nI t + 28))] [] μ := fun h => by
        rw [e28]
        refine ih (t + 28) (by omega) (by omega) (by omega) (fun t' a b c e f => ?_)
        rcases Nat.lt_or_ge t' t with h3 | h3
        · exact hn t' h3 b c e f
        · have : t' = t := by omega
          subst this
          exact h e f
      have et : vp_in (nI t) 280 := n_in (by omega) (by omega)
      refine vc_MD_otherSeat_11 ⟨fun h => absurd ((n_le (a := 280) (by omega) (by omega)).mp h) (by omega), fun _ => ?_⟩
      rw [n_inj (by omega) (by omega), n_ix (by omega), n_ix (show o i < 2147483648 by omega), hst t (by omega), hC.1.1.at hoi (k := 1) (by omega) rfl]
      refine ⟨fun h => go (fun h3 => absurd h h3), fun h => ⟨et, fun h3 => go (fun _ h4 => absurd h3 ((hhd t (by omega)).mpr h4)), fun h3 => ⟨et, n_in (by omega) (by omega), fun h4 => go (fun _ _ => h4), fun h4 => q_ct hq ⟨h0, t, by omega, hm, h, ?_, ?_⟩⟩⟩⟩
      · rw [hcs, hba]; exact (hhd t (by omega)).mp h3
      · rw [hcs, hba]; exact h4
  refine en_MD_otherSeat (vc_MD_otherSeat_0 (hC.seat hi (fun y hy => ?_)))
  rw [show (28 : Int32) = nI 28 from rfl, n_rem (by omega) (by omega) (by omega)] at hy
  subst hy
  exact key 10 _ (by omega) (by omega) (by omega) (fun t' a b c => by omega)
theorem md_tiedAhead (hC : CR S o K KT p q μ) {i : Nat} (h1 : p ≤ i) (h2 : i < q) (hq : Q (bc (cb3 S o i)) μ) : Ct G (d + 1) M_MD_tiedAhead [.inr 42, .inl (nI (o i)), .inl (nI p)] μ Q := by
  obtain ⟨q1, q2, h60⟩ := hC.q60
  have hB := hC.bd
  have hO := hC.ord
  have hi : i < S.1 := by omega
  have hoi := hO.1 i hi
  have hcs := hC.cs h1 h2
  have hba := hC.ba h1 h2
  have hR := hC.1.1
  have eo : vp_in (nI (o i)) 60 := n_in (by omega) (by omega)
  have io : ix (nI (o i)) = o i := n_ix (by omega)
  have bl := bar_lt hB hO hi
  have bi' := bar_eq hB hO hi
  have key : ∀ k, k ≤ p → (∀ r, k ≤ r → r < p → ¬ (bar S o r = bar S o i ∧ sea S o r = sea S o i ∧ ¬ fre S o r ∧ S.2 2 (ix (tieF S (o r))) < S.2 2 (o i) ∧ S.2 1 (o r) ≠ S.2 1 (o i))) → AW G (d + 1) M_MD_tiedAhead Q 4 [some (.inr 42), some (.inl (nI (o i))), none, some (.inl (nI k + -1)), none] [] μ := by
    intro k
    induction k with
    | zero =>
      intro hk hn
      refine vc_MD_tiedAhead_4 ⟨fun _ => q_cf hq (fun ⟨r, a, b⟩ => hn r (by omega) (by rw [hcs] at a; exact a) b), fun h => absurd (by decide) h⟩
    | succ k ih =>
      intro hk hn
      have hkS : k < S.1 := by omega
      have hok := hO.1 k hkS
      have ek : vp_in (nI k) 60 := n_in (by omega) (by omega)
      have eok : vp_in (nI (o k)) 60 := n_in (by omega) (by omega)
      have iok : ix (nI (o k)) = o k := n_ix (by omega)
      have kl := bar_lt hB hO hkS
      have bk := bar_eq hB hO hkS
      have go : ¬ (bar S o k = bar S o i ∧ sea S o k = sea S o i ∧ ¬ fre S o k ∧ S.2 2 (ix (tieF S (o k))) < S.2 2 (o i) ∧ S.2 1 (o k) ≠ S.2 1 (o i)) → AW G (d + 1) M_MD_tiedAhead Q 4 [some (.inr 42), some (.inl (nI (o i))), none, some (.inl (nI k + -1)), none] [] μ := fun h => ih (by omega) (fun r a b => by
        rcases Nat.lt_or_ge k r with h3 | h3
        · exact hn r (by omega) b
        · rw [show r = k by omega]; exact h)
      refine vc_MD_tiedAhead_4 ⟨fun h => absurd h ?_, fun _ => ?_⟩
      · rw [n_m1, i_lt, n_i (by omega), Int32.toInt_zero]; omega
      rw [n_m1, n_ix (show k < 2147483648 by omega), hC.1.2.2.2.1 k hkS, io, iok, hR.at hoi (k := 2) (by omega) rfl, hR.at hok (k := 2) (by omega) rfl]
      refine ⟨ek, eok, eo, fun h => q_cf hq (fun ⟨r, a, b, c⟩ => ?_), fun h => ⟨ek, fun y hy => ?_⟩⟩
      · rw [hcs] at a
        rcases Nat.lt_or_ge k r with h3 | h3
        · exact hn r (by omega) a ⟨b, c⟩
        · have m1 := bar_mono hB hO (show k ≤ i by omega) hi
          have m2 := bar_mono hB hO h3 hkS
          exact h (by rw [bi', bk, show bar S o k = bar S o i by omega])
      · subst hy
        have hbe : bar S o k = bar S o i := by rw [bi', bk] at h; exact (n_inj (by omega) (by omega)).mp h
        refine hC.seat hkS (hC.seat hi ?_)
        rw [hC.sEq hi hkS, iok, hC.1.2.2.2.2 (o k) hok, tie_lt h60, hR.at hok (k := 1) (by omega) rfl, hR.at hoi (k := 1) (by omega) rfl, hR.at hok (k := 2) (by omega) rfl]
        refine ⟨fun hs => go (fun h3 => hs h3.2.1), fun hs => ⟨eok, fun hf => go (fun h3 => h3.2.2.1 hf), fun hf => ?_⟩⟩
        rcases tie_n S (o k) with h3 | ⟨m, hm, h3⟩
        · exact absurd h3 hf
        have em : S.2 2 (ix (tieF S (o k))) = S.2 2 m := by rw [h3, n_ix (by omega)]
        rw [show μ 45 (ix (tieF S (o k))) = S.2 2 (ix (tieF S (o k))) by rw [em, h3, n_ix (by omega)]; exact hR.at hm (by omega) rfl, h]
        refine ⟨eok, by rw [h3]; exact n_in (by omega) (by omega), eok, fun h4 => go (fun h5 => ?_), fun h4 => ⟨eok, eo, fun h5 => go (fun h6 => h6.2.2.2.2 h5), fun h5 => q_ct hq ⟨k, by rw [hcs]; omega, hbe, hs, hf, ?_, h5⟩⟩⟩
        · have := h5.2.2.2.1; rw [i_lt] at this; rw [i_le] at h4; omega
        · rw [i_le] at h4; rw [i_lt]; omega
  refine en_MD_tiedAhead (vc_MD_tiedAhead_0 (fun y hy => ?_))
  rw [Int32.sub_eq_add_neg] at hy
  subst hy
  exact key p (Nat.le_refl p) (fun r a b => by omega)
theorem md_court (hC : CR S o K KT p q μ) {i : Nat} (h1 : p ≤ i) (h2 : i < q) (hst : ∀ s, s < 280 → μ 58 s = STT S o (bar S o p) p s) (hbf : bar S o p ≠ 0 → ∀ s, s < 280 → μ 59 s = STT S o (bar S o p - 1) S.1 s) (hhd : ∀ s, s < 280 → (¬ μ 61 s = 0 ↔ hadP S o (bar S o p) p s)) (hsh : ∀ s, s < 280 → (¬ μ 62 s = 0 ↔ ∃ r, r < i ∧ bar S o r = bar S o p ∧ sea S o r = s ∧ crt S o r)) (h0 : μ 56 (o i) = bc (ned S o i)) (hq : ∀ u : Mem, (∀ c j, ¬ (c = 56 ∧ j = o i) → ¬ (c = 62 ∧ j = sea S o i) → u c j = μ c j) → u 56 (o i) = KND S o i → u 62 (sea S o i) = cite (crt S o i) 1 (μ 62 (sea S o i)) → Q 0 u) : Ct G (d + 2) M_MD_court [.inr 42, .inl (nI i), .inl (nI p)] μ Q := by
  obtain ⟨q1, q2, h60⟩ := hC.q60
  have hB := hC.bd
  have hO := hC.ord
  have hi : i < S.1 := by omega
  have hoi := hO.1 i hi
  have hsi := sea_lt hB hO hi
  have eo : vp_in (nI (o i)) 60 := n_in (by omega) (by omega)
  have es : vp_in (nI (sea S o i)) 280 := n_in (by omega) (by omega)
  have io : ix (nI (o i)) = o i := n_ix (by omega)
  have is' : ix (nI (sea S o i)) = sea S o i := n_ix (by omega)
  have hcs := hC.cs h1 h2
  have hba := hC.ba h1 h2
  have hR := hC.1.1
  have hK := hC.1.2.1
  have bl := bar_lt hB hO hi
  have bi' := bar_eq hB hO hi
  have no : ¬ crt S o i → Q 0 μ := fun h => hq μ (fun c j _ _ => rfl) (by rw [h0]; unfold KND bc; rw [cite_f h]) (cite_f h).symm
  have ye : crt S o i → ∀ u1 : Mem, u1 = up μ 56 (o i) 2 → vp_in (nI (sea S o i)) 280 ∧ ∀ u2 : Mem, u2 = up u1 62 (sea S o i) 1 → Q 0 u2 := fun h u1 hu1 => ⟨es, fun u2 hu2 => by
    refine hq u2 (fun c j a b => ?_) ?_ ?_
    · rw [hu2, up_at, if_neg b, hu1, up_at, if_neg a]
    · rw [hu2, up_at, if_neg (by omega), hu1, up_at, if_pos ⟨rfl, rfl⟩]; unfold KND; rw [cite_f h.1.2.1, cite_t h]
    · rw [hu2, up_at, if_pos ⟨rfl, rfl⟩, cite_t h]⟩
  have w0 : vp_in (0 : Int32) 5 := n_in (k := 0) (by omega) (by omega)
  have w2 : vp_in (2 : Int32) 5 := n_in (k := 2) (by omega) (by omega)
  have e2 : μ 53 (ix 2) = S.2 10 2 := hK.2.2 2 (by omega)
  have e0 : μ 53 (ix 0) = S.2 10 0 := hK.2.2 0 (by omega)
  refine en_MD_court (vc_MD_court_0 ⟨n_in (by omega) (by omega), fun y hy => ?_⟩)
  rw [n_ix (by omega), hC.1.2.2.2.1 i hi] at hy
  subst hy
  refine hC.seat hi ?_
  rw [io, is', hC.1.2.2.2.2 (o i) hoi, tie_ge h60, Classical.not_not, h0, bc_0, Classical.not_not]
  refine ⟨eo, fun hf => no (fun h => hf h.1.1), fun hf => ⟨eo, fun hn => no (fun h => h.1.2.1 hn), fun hn => ⟨es, fun hs => ?_, fun hs => no (fun h => ?_)⟩⟩⟩
  rotate_left
  · obtain ⟨r, a, b, c, e⟩ := (hsh _ hsi).mp hs
    rw [← hba] at b
    exact ((crt_iff i).mp h).2 ⟨r, a, b, c, e⟩
  have hnc : ¬ ∃ r, r < i ∧ bar S o r = bar S o i ∧ sea S o r = sea S o i ∧ crt S o r := fun h => by rw [hba] at h; exact (hsh _ hsi).mpr h hs
  -- the loop's end
  have lst : fstP S o False i → AW G (d + 2) M_MD_court Q 46 [some (.inr 42), some (.inl (nI i)), some (.inl (nI p)), some (.inl (nI (o i))), some (.inl (nI (sea S o i))), some (.inl (nI i))] [] μ := by
    intro hfs
    have yes : bts S o i → crt S o i := fun h => (crt_iff i).mpr ⟨⟨hf, hn, hfs, h⟩, hnc⟩
    have nob : ¬ bts S o i → ¬ crt S o i := fun h hc => h hc.1.2.2.2
    have t1 : ¬ (1 : Int32) = 0 := by decide
    have a219 : bts S o i → AW G (d + 2) M_MD_court Q 219 [some (.inr 42), none, none, some (.inl (nI (o i))), some (.inl (nI (sea S o i))), none] [] μ := by
      intro hb
      refine vc_MD_court_219 ⟨fun _ => ⟨fun h => absurd h t1, fun _ => ⟨eo, ?_⟩⟩, fun h => absurd h t1⟩
      rw [io, is']; exact ye (yes hb)
    have a223 : ¬ (S.2 10 2 &&& 1 ≠ 0 ∧ cb1 S o i) → ¬ (S.2 10 2 &&& 2 ≠ 0 ∧ cb2 S o i) → ¬ (S.2 10 2 &&& 4 ≠ 0 ∧ cb3 S o i) → AW G (d + 2) M_MD_court Q 223 [some (.inr 42), none, none, some (.inl (nI (o i))), some (.inl (nI (sea S o i))), none] [] μ := by
      intro n1 n2 n3
      have no4 : ¬ (S.2 10 2 &&& 8 ≠ 0 ∧ cb4 S o i) → Q 0 μ := fun h => no (nob (fun hb => hb.elim n1 (fun h3 => h3.elim n2 (fun h4 => h4.elim n3 h))))
      refine vc_MD_court_223 ⟨fun h => absurd rfl h, fun _ => ?_⟩
      obtain ⟨t1', t2⟩ := st_n hB hoi
      rw [e2, io, is', hR.at hoi (k := 2) (by omega) rfl, bi']
      refine ⟨w2, fun h => ⟨fun _ => no4 (fun h3 => h3.1 h), fun h3 => absurd rfl h3⟩, fun h => ⟨eo, fun h3 => ⟨fun _ => no4 (fun h4 => ?_), fun h4 => absurd rfl h4⟩, fun h3 => ?_⟩⟩
      · have := h4.2.1
        rw [i_le, n_i (by omega), Int32.toInt_zero] at h3; omega
      · rw [i_le, n_i (by omega), Int32.toInt_zero] at h3
        obtain ⟨b', hb'⟩ : ∃ b', bar S o i = b' + 1 := ⟨bar S o i - 1, by omega⟩
        rw [hb', n_s1]
        have sl : sea S o i / 4 % 7 = stN S (o i) % 7 := seat_let hB hoi
        refine ⟨eo, md_keyOf hK hB b' (by omega) ⟨eo, ?_⟩⟩
        rw [hR.at hoi (k := 0) (by omega) rfl, t1', show (7 : Int32) = nI 7 from rfl, n_rem (by omega) (by omega) (by omega)]
        refine md_keyAlter (hB.2.2.1 b' (by omega)).1 (by omega) ⟨eo, ?_⟩
        rw [hR.at hoi (k := 2) (by omega) rfl, bi', hb']
        refine md_keyOf hK hB (b' + 1) (by omega) ⟨eo, ?_⟩
        rw [hR.at hoi (k := 0) (by omega) rfl, t1', n_rem (by omega) (by omega) (by omega)]
        refine md_keyAlter (hB.2.2.1 (b' + 1) (by omega)).1 (by omega) ?_
        have ek : ∀ b, alF (S.2 8 b) (stN S (o i) % 7) = kA S b (sea S o i) := fun b => by unfold kA; rw [sl]
        rw [ek, ek]
        refine ⟨fun h4 => ⟨fun _ => no4 (fun h5 => h5.2.2 ?_), fun h5 => absurd rfl h5⟩, fun h4 => ⟨fun h5 => absurd h5 t1, fun _ => ⟨eo, ?_⟩⟩⟩
        · rw [hb', Nat.add_sub_cancel]; exact h4
        · exact ye (yes (Or.inr (Or.inr (Or.inr ⟨h, by omega, by rw [hb', Nat.add_sub_cancel]; exact h4⟩))))
    have a192 : ∀ s0 : Int32, (s0 = 1 ∧ bts S o i) ∨ (s0 = 0 ∧ ¬ (S.2 10 2 &&& 1 ≠ 0 ∧ cb1 S o i) ∧ ¬ (S.2 10 2 &&& 2 ≠ 0 ∧ cb2 S o i)) → AW G (d + 2) M_MD_court Q 192 [some (.inr 42), none, some (.inl (nI p)), some (.inl (nI (o i))), some (.inl (nI (sea S o i))), none] [.inl s0] μ := by
      intro s0 hs0
      refine vc_MD_court_192 ⟨fun h => ?_, fun h => ?_⟩
      · rcases hs0 with h3 | h3
        · exact a219 h3.2
        · exact absurd h3.1 h
      · rcases hs0 with h3 | ⟨_, n1, n2⟩
        · rw [h3.1] at h; exact absurd h t1
        · rw [e2]
          refine ⟨w2, fun h4 => a223 n1 n2 (fun h5 => h5.1 h4), fun h4 => md_tiedAhead hC h1 h2 ⟨fun h5 => a223 n1 n2 (fun h6 => bc_0.mp h5 h6.2), fun h5 => a219 (Or.inr (Or.inr (Or.inl ⟨h4, bc_n0.mp h5⟩)))⟩⟩
    have a152 : ∀ s0 : Int32, (s0 = 1 ∧ bts S o i) ∨ (s0 = 0 ∧ ¬ (S.2 10 2 &&& 1 ≠ 0 ∧ cb1 S o i)) → AW G (d + 2) M_MD_court Q 152 [some (.inr 42), none, some (.inl (nI p)), some (.inl (nI (o i))), some (.inl (nI (sea S o i))), none] [.inl s0] μ := by
      intro s0 hs0
      refine vc_MD_court_152 ⟨fun h => ?_, fun h => ?_⟩
      · rcases hs0 with h3 | h3
        · exact vc_MD_court_187 (a192 1 (Or.inl ⟨rfl, h3.2⟩))
        · exact absurd h3.1 h
      · rcases hs0 with h3 | ⟨_, n1⟩
        · rw [h3.1] at h; exact absurd h t1
        · rw [e2, e0]
          refine ⟨w2, fun h4 => vc_MD_court_191 (a192 0 (Or.inr ⟨rfl, n1, fun h5 => h5.1 h4⟩)), fun h4 => ⟨w0, fun h5 => vc_MD_court_191 (a192 0 (Or.inr ⟨rfl, n1, fun h6 => h5 h6.2.1⟩)), fun h5 => md_otherSeat hC h1 h2 h5 hst hhd ⟨fun h6 => vc_MD_court_191 (a192 0 (Or.inr ⟨rfl, n1, fun h7 => bc_0.mp h6 h7.2⟩)), fun h6 => vc_MD_court_187 (a192 1 (Or.inl ⟨rfl, Or.inr (Or.inl ⟨h4, bc_n0.mp h6⟩)⟩))⟩⟩⟩
    have a151 : ¬ (S.2 10 2 &&& 1 ≠ 0 ∧ cb1 S o i) → AW G (d + 2) M_MD_court Q 151 [some (.inr 42), none, some (.inl (nI p)), some (.inl (nI (o i))), some (.inl (nI (sea S o i))), none] [] μ := fun h => vc_MD_court_151 (a152 0 (Or.inr ⟨rfl, h⟩))
    refine vc_MD_court_46 ⟨fun _ => ⟨w2, ?_⟩, fun h => absurd ((n_le (by omega) (by omega)).mpr (Nat.le_refl _)) h⟩
    rw [e2, io, is', hR.at hoi (k := 2) (by omega) rfl, hR.at hoi (k := 1) (by omega) rfl, bi']
    refine ⟨fun h => a151 (fun h3 => h3.1 h), fun h => ⟨eo, fun h3 => a151 (fun h4 => ?_), fun h3 => ?_⟩⟩
    · have := h4.2.1
      rw [i_le, n_i (by omega), Int32.toInt_zero] at h3; omega
    · rw [i_le, n_i (by omega), Int32.toInt_zero] at h3
      rw [hbf (by omega) _ hsi]
      refine ⟨es, eo, fun h4 => a151 (fun h5 => h5.2.2 (by rw [hba]; exact h4)), fun h4 => a152 1 (Or.inl ⟨rfl, Or.inl ⟨h, by omega, by rw [hba]; exact h4⟩⟩)⟩
  have key : ∀ n k, k + n = i → p ≤ k → (∀ r, p ≤ r → r < k → ¬ (sea S o r = sea S o i ∧ S.2 0 (o r) = S.2 0 (o i) ∧ fre S o r)) → AW G (d + 2) M_MD_court Q 46 [some (.inr 42), some (.inl (nI i)), some (.inl (nI p)), some (.inl (nI (o i))), some (.inl (nI (sea S o i))), some (.inl (nI k))] [] μ := by
    intro n
    induction n with
    | zero =>
      intro k hk hp hn
      have hk : k = i := by omega
      subst hk
      refine lst (fun r a b c e f _ => hn r ?_ a ⟨e, f, c⟩)
      exact ((hC.wq h1 h2 (by omega)).mp b).1
    | succ n ih =>
      intro k hk hp hn
      have hkS : k < S.1 := by omega
      have hok := hO.1 k hkS
      have ek : vp_in (nI k) 60 := n_in (by omega) (by omega)
      have eok : vp_in (nI (o k)) 60 := n_in (by omega) (by omega)
      have go : ¬ (sea S o k = sea S o i ∧ S.2 0 (o k) = S.2 0 (o i) ∧ fre S o k) → AW G (d + 2) M_MD_court Q 46 [some (.inr 42), some (.inl (nI i)), some (.inl (nI p)), some (.inl (nI (o i))), some (.inl (nI (sea S o i))), some (.inl (nI k + 1))] [] μ := fun h => by
        rw [n_p1]
        exact ih (k + 1) (by omega) (by omega) (fun r a b => by
          rcases Nat.lt_or_ge r k with h3 | h3
          · exact hn r a h3
          · rw [show r = k by omega]; exact h)
      refine vc_MD_court_46 ⟨fun h => absurd ((n_le (by omega) (by omega)).mp h) (by omega), fun _ => ⟨ek, ?_⟩⟩
      rw [n_ix (show k < 2147483648 by omega), hC.1.2.2.2.1 k hkS]
      refine hC.seat hkS ?_
      rw [hC.sEq hi hkS, hC.1.2.2.2.1 k hkS, n_ix (show o k < 2147483648 by omega), io, hC.1.2.2.2.2 (o k) hok, hR.at hok (k := 0) (by omega) rfl, hR.at hoi (k := 0) (by omega) rfl, tie_ge h60, Classical.not_not]
      refine ⟨fun h => go (fun h3 => h h3.1), fun h => ⟨ek, eok, eo, fun h3 => go (fun h4 => h3 h4.2.1), fun h3 => ⟨ek, eok, fun h4 => go (fun h5 => h4 h5.2.2), fun h4 => no (fun hc => ?_)⟩⟩⟩
      exact hc.1.2.2.1 k (by omega) ((hC.wq h1 h2 hkS).mpr ⟨hp, by omega⟩) h4 h h3 (fun hf => hf.elim)
  exact key (i - p) p (by omega) (Nat.le_refl p) (fun r a b => by omega)
end
