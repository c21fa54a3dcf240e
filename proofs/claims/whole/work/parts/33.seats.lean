/-! keys by bar, seats: small methods -/
def alF (f : Int32) (l : Nat) : Int32 := if f ≤ ([1, 3, 5, 0, 2, 4, 6] : List Int32).getD l 0 then (if (-f) ≤ 6 - ([1, 3, 5, 0, 2, 4, 6] : List Int32).getD l 0 then 0 else -2) else 2
def kA (S : Sc) (b s : Nat) : Int32 := alF (S.2 8 b) (s / 4 % 7)
def stN (S : Sc) (j : Nat) : Nat := ix (S.2 0 j)
def baN (S : Sc) (j : Nat) : Nat := ix (S.2 2 j)
def voN (S : Sc) (j : Nat) : Nat := ix (S.2 4 j)
def seF (S : Sc) (k v : Nat) : Nat := (if S.2 10 0 = 0 then k else k % 7) * 4 + (if S.2 10 1 = 0 then 0 else v)
def seatN (S : Sc) (j : Nat) : Nat := seF S (stN S j) (voN S j)
section
variable {S : Sc} {j : Nat}
theorem st_n (hB : Bd S) (hj : j < S.1) : S.2 0 j = nI (stN S j) ∧ stN S j < 70 := by
  have h := (hB.2.1 j hj).1
  exact ⟨n_of h.1, by have := ix_i h.1; have := h.2; unfold stN; omega⟩
theorem ba_n (hB : Bd S) (hj : j < S.1) : S.2 2 j = nI (baN S j) ∧ baN S j < 20 := by
  have h := (hB.2.1 j hj).2.2.1
  exact ⟨n_of h.1, by have := ix_i h.1; have := h.2; unfold baN; omega⟩
theorem vo_n (hB : Bd S) (hj : j < S.1) : S.2 4 j = nI (voN S j) ∧ voN S j < 4 := by
  have h := (hB.2.1 j hj).2.2.2.2.1
  exact ⟨n_of h.1, by have := ix_i h.1; have := h.2; unfold voN; omega⟩
theorem seF_lt {k v : Nat} (hk : k < 70) (hv : v < 4) : seF S k v < 280 := by unfold seF; split <;> split <;> omega
theorem seF_let {k v : Nat} (hv : v < 4) : seF S k v / 4 % 7 = k % 7 := by unfold seF; split <;> split <;> omega
theorem seat_lt (hB : Bd S) (hj : j < S.1) : seatN S j < 280 := seF_lt (st_n hB hj).2 (vo_n hB hj).2
theorem seat_let (hB : Bd S) (hj : j < S.1) : seatN S j / 4 % 7 = stN S j % 7 := seF_let (vo_n hB hj).2
theorem n_rem {a m : Nat} (ha : a < 2147483648) (h0 : 0 < m) (hm : m < 2147483648) : nI a - nI a / nI m * nI m = nI (a % m) := pk_rem (by omega) h0 (by omega)
theorem n_div {a m : Nat} (ha : a < 2147483648) (h0 : 0 < m) (hm : m < 2147483648) : nI a / nI m = nI (a / m) := pk_div (by omega) h0 (by omega)
end
section
variable {G : Gp} {d : Nat} {S : Sc} {μ : Mem} {Q : Int32 → Mem → Prop}
theorem sp_alterOf {f : Int32} {l : Nat} (hl : l < 7) (hq : Q (alF f l) μ) : Ct G d M_KR_alterOf [.inl f, .inl (nI l)] μ Q := by
  refine en_KR_alterOf (vc_KR_alterOf_0 ⟨n_in hl (by omega), fun y hy => ?_⟩)
  rw [n_ix (by omega)] at hy
  unfold alF at hq
  rw [← hy] at hq
  refine ⟨fun q => ⟨fun q2 => ?_, fun q2 => ?_⟩, fun q => ?_⟩
  · rw [if_pos q, if_pos q2] at hq; exact hq
  · rw [if_pos q, if_neg q2] at hq; exact hq
  · rw [if_neg q] at hq; exact hq
theorem sp_kat {b : Nat} (hb : b < 20) (hq : Q (μ 10 b) μ) : Ct G d M_BB_at [.inr 9, .inl (nI b)] μ Q := by
  refine en_BB_at_k (vc_BB_at_k_0 ⟨n_in hb (by omega), ?_⟩)
  rw [n_ix (by omega)]; exact hq
theorem sp_cat {b : Nat} (hb : b < 20) (hq : Q (μ 13 b) μ) : Ct G d M_BB_at [.inr 12, .inl (nI b)] μ Q := by
  refine en_BB_at_c (vc_BB_at_c_0 ⟨n_in hb (by omega), ?_⟩)
  rw [n_ix (by omega)]; exact hq
theorem sp_alterByKey (hk : ∀ b, b < 20 → μ 10 b = S.2 8 b) {b k : Nat} (hb : b < 20) (hk7 : k < 70) (hq : Q (alF (S.2 8 b) (k % 7)) μ) : Ct G (d + 1) M_SG_alterByKey [.inr 16, .inl (nI b), .inl (nI k)] μ Q := by
  refine en_SG_alterByKey (vc_SG_alterByKey_0 (sp_kat hb ?_))
  rw [hk b hb, show (7 : Int32) = nI 7 from rfl, n_rem (by omega) (by omega) (by omega)]
  exact sp_alterOf (by omega) hq
theorem sp_seatFor (hr : ∀ k, k < 5 → μ 15 k = S.2 10 k) {k v : Nat} (hk : k < 70) (hv : v < 4) (hq : Q (nI (seF S k v)) μ) : Ct G d M_SG_seatFor [.inr 16, .inl (nI k), .inl (nI v)] μ Q := by
  have i0 : ix (0 : Int32) = 0 := rfl
  have i1 : ix (1 : Int32) = 1 := rfl
  have e4 : ∀ a b : Nat, nI a * 4 + nI b = nI (a * 4 + b) := fun a b => by rw [show (4 : Int32) = nI 4 from rfl, pk_mul, nI_add]
  have e40 : ∀ a : Nat, nI a * 4 + 0 = nI (a * 4 + 0) := fun a => e4 a 0
  refine en_SG_seatFor (vc_SG_seatFor_0 ?_)
  rw [i0, i1, hr 0 (by omega), hr 1 (by omega), show (7 : Int32) = nI 7 from rfl, n_rem (by omega) (by omega) (by omega)]
  unfold seF at hq
  have v0 : vp_in (0 : Int32) 5 := n_in (k := 0) (by omega) (by omega)
  have v1 : vp_in (1 : Int32) 5 := n_in (k := 1) (by omega) (by omega)
  refine ⟨v0, fun q y hy => ⟨v1, fun q2 => ?_, fun q2 => ?_⟩, fun q => ⟨v1, fun q2 => ?_, fun q2 => ?_⟩⟩
  · rw [hy, e4]; rw [if_neg q, if_neg q2] at hq; exact hq
  · rw [hy, e40]; rw [if_neg q, if_pos q2] at hq; exact hq
  · rw [e4]; rw [if_pos q, if_neg q2] at hq; exact hq
  · rw [e40]; rw [if_pos q, if_pos q2] at hq; exact hq
/-- an array that is filled -/
def fil (μ : Mem) (c n : Nat) (x : Int32) : Mem := fun c' j => if c' = c ∧ j < n then x else μ c' j
theorem fil_step {μ : Mem} {c n : Nat} {x : Int32} : up (fil μ c n x) c n x = fil μ c (n + 1) x := by
  funext c' j
  unfold up fil
  by_cases h1 : c' = c
  · by_cases h2 : j = n
    · rw [if_pos ⟨h1, h2⟩, if_pos ⟨h1, by omega⟩]
    · rw [if_neg (by omega)]
      by_cases h3 : j < n
      · rw [if_pos ⟨h1, h3⟩, if_pos ⟨h1, by omega⟩]
      · rw [if_neg (by omega), if_neg (by omega)]
  · rw [if_neg (by omega), if_neg (by omega), if_neg (by omega)]
theorem fil_0 {μ : Mem} {c : Nat} {x : Int32} : fil μ c 0 x = μ := by
  funext c' j
  unfold fil
  rw [if_neg (by omega)]
theorem sp_fill_18 {x : Int32} (hq : Q 0 (fil μ 18 280 x)) : Ct G d M_JA_fill [.inr 18, .inl x] μ Q := by
  refine en_JA_fill_18 (vc_JA_fill_18_0 ?_)
  have key : ∀ m k, k + m = 280 → AW G d M_JA_fill Q 5 [some (.inr 18), some (.inl x), some (.inl (nI k)), some (.inl 280)] [] (fil μ 18 k x) := by
    intro m
    induction m with
    | zero =>
      intro k hk
      refine vc_JA_fill_18_5 ⟨fun _ => by rw [show k = 280 by omega]; exact hq, fun q => absurd ((n_le (a := 280) (by omega) (by omega)).mpr (by omega)) q⟩
    | succ m ih =>
      intro k hk
      refine vc_JA_fill_18_5 ⟨fun q => absurd ((n_le (a := 280) (by omega) (by omega)).mp q) (by omega), fun _ => ⟨n_in (by omega) (by omega), fun u hu => ?_⟩⟩
      rw [n_ix (by omega), fil_step] at hu
      rw [hu, n_p1]
      exact ih (k + 1) (by omega)
  have h0 := key 280 0 (by omega)
  rw [fil_0] at h0
  exact h0
theorem sp_fill_20 {x : Int32} (hq : Q 0 (fil μ 20 280 x)) : Ct G d M_JA_fill [.inr 20, .inl x] μ Q := by
  refine en_JA_fill_20 (vc_JA_fill_20_0 ?_)
  have key : ∀ m k, k + m = 280 → AW G d M_JA_fill Q 5 [some (.inr 20), some (.inl x), some (.inl (nI k)), some (.inl 280)] [] (fil μ 20 k x) := by
    intro m
    induction m with
    | zero =>
      intro k hk
      refine vc_JA_fill_20_5 ⟨fun _ => by rw [show k = 280 by omega]; exact hq, fun q => absurd ((n_le (a := 280) (by omega) (by omega)).mpr (by omega)) q⟩
    | succ m ih =>
      intro k hk
      refine vc_JA_fill_20_5 ⟨fun q => absurd ((n_le (a := 280) (by omega) (by omega)).mp q) (by omega), fun _ => ⟨n_in (by omega) (by omega), fun u hu => ?_⟩⟩
      rw [n_ix (by omega), fil_step] at hu
      rw [hu, n_p1]
      exact ih (k + 1) (by omega)
  have h0 := key 280 0 (by omega)
  rw [fil_0] at h0
  exact h0
theorem sp_fill_22 {x : Int32} (hq : Q 0 (fil μ 22 280 x)) : Ct G d M_JA_fill [.inr 22, .inl x] μ Q := by
  refine en_JA_fill_22 (vc_JA_fill_22_0 ?_)
  have key : ∀ m k, k + m = 280 → AW G d M_JA_fill Q 5 [some (.inr 22), some (.inl x), some (.inl (nI k)), some (.inl 280)] [] (fil μ 22 k x) := by
    intro m
    induction m with
    | zero =>
      intro k hk
      refine vc_JA_fill_22_5 ⟨fun _ => by rw [show k = 280 by omega]; exact hq, fun q => absurd ((n_le (a := 280) (by omega) (by omega)).mpr (by omega)) q⟩
    | succ m ih =>
      intro k hk
      refine vc_JA_fill_22_5 ⟨fun q => absurd ((n_le (a := 280) (by omega) (by omega)).mp q) (by omega), fun _ => ⟨n_in (by omega) (by omega), fun u hu => ?_⟩⟩
      rw [n_ix (by omega), fil_step] at hu
      rw [hu, n_p1]
      exact ih (k + 1) (by omega)
  have h0 := key 280 0 (by omega)
  rw [fil_0] at h0
  exact h0
theorem sp_fill_32 {x : Int32} (hq : Q 0 (fil μ 32 60 x)) : Ct G d M_JA_fill [.inr 32, .inl x] μ Q := by
  refine en_JA_fill_32 (vc_JA_fill_32_0 ?_)
  have key : ∀ m k, k + m = 60 → AW G d M_JA_fill Q 5 [some (.inr 32), some (.inl x), some (.inl (nI k)), some (.inl 60)] [] (fil μ 32 k x) := by
    intro m
    induction m with
    | zero =>
      intro k hk
      refine vc_JA_fill_32_5 ⟨fun _ => by rw [show k = 60 by omega]; exact hq, fun q => absurd ((n_le (a := 60) (by omega) (by omega)).mpr (by omega)) q⟩
    | succ m ih =>
      intro k hk
      refine vc_JA_fill_32_5 ⟨fun q => absurd ((n_le (a := 60) (by omega) (by omega)).mp q) (by omega), fun _ => ⟨n_in (by omega) (by omega), fun u hu => ?_⟩⟩
      rw [n_ix (by omega), fil_step] at hu
      rw [hu, n_p1]
      exact ih (k + 1) (by omega)
  have h0 := key 60 0 (by omega)
  rw [fil_0] at h0
  exact h0
theorem sp_fill_34 {x : Int32} (hq : Q 0 (fil μ 34 70 x)) : Ct G d M_JA_fill [.inr 34, .inl x] μ Q := by
  refine en_JA_fill_34 (vc_JA_fill_34_0 ?_)
  have key : ∀ m k, k + m = 70 → AW G d M_JA_fill Q 5 [some (.inr 34), some (.inl x), some (.inl (nI k)), some (.inl 70)] [] (fil μ 34 k x) := by
    intro m
    induction m with
    | zero =>
      intro k hk
      refine vc_JA_fill_34_5 ⟨fun _ => by rw [show k = 70 by omega]; exact hq, fun q => absurd ((n_le (a := 70) (by omega) (by omega)).mpr (by omega)) q⟩
    | succ m ih =>
      intro k hk
      refine vc_JA_fill_34_5 ⟨fun q => absurd ((n_le (a := 70) (by omega) (by omega)).mp q) (by omega), fun _ => ⟨n_in (by omega) (by omega), fun u hu => ?_⟩⟩
      rw [n_ix (by omega), fil_step] at hu
      rw [hu, n_p1]
      exact ih (k + 1) (by omega)
  have h0 := key 70 0 (by omega)
  rw [fil_0] at h0
  exact h0
theorem sp_isEntered {s : Nat} {x : Int32} (hs : s < 280) (hq : Q (bi (μ 18 s = x)) μ) : Ct G d M_SE_isEntered [.inr 17, .inl (nI s), .inl x] μ Q := by
  refine en_SE_isEntered (vc_SE_isEntered_0 ?_)
  rw [n_ix (by omega)]
  exact ⟨n_in hs (by omega), fun q => q_f hq q, fun q => q_t hq q⟩
theorem sp_stateIn {s : Nat} {x y : Int32} (hs : s < 280) (hq : Q (if μ 18 s = x then μ 19 s else y) μ) : Ct G (d + 1) M_SE_stateIn [.inr 17, .inl (nI s), .inl x, .inl y] μ Q := by
  refine en_SE_stateIn (vc_SE_stateIn_0 (sp_isEntered hs ?_))
  rw [n_ix (by omega), bi_0]
  exact ⟨fun q => by rw [if_neg q] at hq; exact hq, fun q => ⟨n_in hs (by omega), by rw [if_pos (Decidable.not_not.mp q)] at hq; exact hq⟩⟩
theorem sp_stateBefore {s : Nat} {x y : Int32} (hs : s < 280) (hq : Q (if μ 18 s = x - 1 then μ 19 s else if μ 18 s = x ∧ μ 20 s = x - 1 then μ 21 s else y) μ) : Ct G (d + 1) M_SE_stateBefore [.inr 17, .inl (nI s), .inl x, .inl y] μ Q := by
  have e1 : vp_in (nI s) 280 := n_in hs (by omega)
  refine en_SE_stateBefore (vc_SE_stateBefore_0 (sp_isEntered hs ?_))
  rw [n_ix (by omega), bi_0]
  refine ⟨fun q => sp_isEntered hs ?_, fun q => ⟨e1, by rw [if_pos (Decidable.not_not.mp q)] at hq; exact hq⟩⟩
  rw [if_neg q] at hq
  rw [bi_0]
  refine ⟨fun q2 => ⟨fun _ => by rw [if_neg (fun h => q2 h.1)] at hq; exact hq, fun h => absurd rfl h⟩, fun q2 => ⟨e1, fun q3 => ⟨fun _ => by rw [if_neg (fun h => q3 h.2)] at hq; exact hq, fun h => absurd rfl h⟩, fun q3 => ⟨fun h => absurd h (by decide), fun _ => ⟨e1, ?_⟩⟩⟩⟩
  rw [if_pos ⟨Decidable.not_not.mp q2, q3⟩] at hq; exact hq
def entM (μ : Mem) (s : Nat) (x y : Int32) : Mem := if μ 18 s = x then μ else up (up (up (up μ 20 s (μ 18 s)) 21 s (μ 19 s)) 18 s x) 19 s y
theorem sp_enter {s : Nat} {x y : Int32} (hs : s < 280) (hq : Q 0 (entM μ s x y)) : Ct G (d + 1) M_SE_enter [.inr 17, .inl (nI s), .inl x, .inl y] μ Q := by
  have e1 : vp_in (nI s) 280 := n_in hs (by omega)
  refine en_SE_enter (vc_SE_enter_0 (sp_isEntered hs ?_))
  rw [n_ix (by omega), bi_0]
  unfold entM at hq
  refine ⟨fun q => ⟨e1, e1, fun u3 h3 => ⟨e1, e1, fun u4 h4 => ⟨e1, fun u5 h5 => ⟨e1, fun u6 h6 => ?_⟩⟩⟩⟩, fun q => by rw [if_pos (Decidable.not_not.mp q)] at hq; exact hq⟩
  rw [if_neg q] at hq
  have h19 : u3 19 s = μ 19 s := by rw [h3, up_at, if_neg (by omega)]
  rw [h19] at h4
  rw [h6, h5, h4, h3]; exact hq
theorem sp_setState {s : Nat} {x : Int32} (hs : s < 280) (hq : Q 0 (up μ 19 s x)) : Ct G d M_SE_setState [.inr 17, .inl (nI s), .inl x] μ Q := by
  refine en_SE_setState (vc_SE_setState_0 ⟨n_in hs (by omega), fun u hu => ?_⟩)
  rw [n_ix (by omega)] at hu
  rw [hu]; exact hq
theorem sp_setCourtesy {s : Nat} {x : Int32} (hs : s < 280) (hq : Q 0 (up μ 22 s x)) : Ct G d M_SE_setCourtesy [.inr 17, .inl (nI s), .inl x] μ Q := by
  refine en_SE_setCourtesy (vc_SE_setCourtesy_0 ⟨n_in hs (by omega), fun u hu => ?_⟩)
  rw [n_ix (by omega)] at hu
  rw [hu]; exact hq
theorem sp_hasCourtesy {s : Nat} {x : Int32} (hs : s < 280) (hq : Q (bi (μ 22 s = x)) μ) : Ct G d M_SE_hasCourtesy [.inr 17, .inl (nI s), .inl x] μ Q := by
  refine en_SE_hasCourtesy (vc_SE_hasCourtesy_0 ?_)
  rw [n_ix (by omega)]
  exact ⟨n_in hs (by omega), fun q => q_f hq q, fun q => q_t hq q⟩
theorem sp_clear (hq : Q 0 (fil (fil (fil μ 18 280 (-1)) 20 280 (-1)) 22 280 (-1))) : Ct G (d + 1) M_SE_clear [.inr 17] μ Q :=
  en_SE_clear (vc_SE_clear_0 (sp_fill_18 (sp_fill_20 (sp_fill_22 hq))))
end
