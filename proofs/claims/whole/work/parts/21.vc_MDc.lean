/-! verification conditions, by program -/
set_option maxRecDepth 100000 in
theorem vc_MD_fits_0 {G : Gp} {d : Nat} {Q : Int32 → Mem → Prop} {x1 : Int32} {μ : Mem}
    (h : AW G (d + 1) M_MD_fits Q 2 [some (.inr 42), some (.inl x1), some (.inl (0 : Int32))] [] μ) :
    AW G (d + 1) M_MD_fits Q 0 [some (.inr 42), some (.inl x1), none] [] μ := by
  refine aw_iconst (v := 0) d_MD_fits_0 (by decide) ?_
  refine aw_istore_n d_MD_fits_1 (Nat.le_of_ble_eq_true rfl) ?_
  exact h
theorem en_MD_fits {G : Gp} {d : Nat} {Q : Int32 → Mem → Prop} {x1 : Int32} {μ : Mem}
    (h : AW G (d + 1) M_MD_fits Q 0 [some (.inr 42), some (.inl x1), none] [] μ) :
    Ct G (d + 1) M_MD_fits [.inr 42, .inl x1] μ Q := ct_of (by decide) (Nat.le_of_ble_eq_true rfl) h
set_option maxRecDepth 100000 in
theorem vc_MD_fits_2 {G : Gp} {d : Nat} {Q : Int32 → Mem → Prop} {x1 x2 : Int32} {μ : Mem}
    (h : (x1 ≤ x2 → Q (1 : Int32) μ) ∧ (¬ x1 ≤ x2 → vp_in x2 60 ∧ vp_in x1 60 ∧ (¬ (μ 65 (ix x2)) = (μ 65 (ix x1)) → AW G (d + 1) M_MD_fits Q 2 [some (.inr 42), some (.inl x1), some (.inl (x2 + (1 : Int32)))] [] μ) ∧ ((μ 65 (ix x2)) = (μ 65 (ix x1)) → vp_in x2 60 ∧ vp_in x1 60 ∧ Ct G d M_MD_canShare [.inr 42, .inl (μ 64 (ix x2)), .inl (μ 64 (ix x1))] μ (fun r2 u1 => (¬ r2 = 0 → AW G (d + 1) M_MD_fits Q 2 [some (.inr 42), some (.inl x1), some (.inl (x2 + (1 : Int32)))] [] u1) ∧ (r2 = 0 → Q (0 : Int32) u1))))) :
    AW G (d + 1) M_MD_fits Q 2 [some (.inr 42), some (.inl x1), some (.inl x2)] [] μ := by
  refine aw_iload_n d_MD_fits_2 rfl ?_
  refine aw_iload_n d_MD_fits_3 rfl ?_
  refine aw_icmp_ge (tgt := 49) d_MD_fits_4 (by decide) (fun q => ?_) (fun q => ?_)
  · replace h := h.1 q
    refine aw_iconst (v := 1) d_MD_fits_49 (by decide) ?_
    exact aw_zret d_MD_fits_50 rfl (Or.inr rfl) h
  · replace h := h.2 q
    refine aw_aload_n d_MD_fits_7 rfl ?_
    refine aw_getR (t := 65) d_MD_fits_8 lf_MD_81 rfl rfl ?_
    refine aw_iload_n d_MD_fits_11 rfl ?_
    refine aw_iald d_MD_fits_12 rfl h.1 ?_
    replace h := h.2
    refine aw_aload_n d_MD_fits_13 rfl ?_
    refine aw_getR (t := 65) d_MD_fits_14 lf_MD_81 rfl rfl ?_
    refine aw_iload_n d_MD_fits_17 rfl ?_
    refine aw_iald d_MD_fits_18 rfl h.1 ?_
    replace h := h.2
    refine aw_icmp_ne (tgt := 43) d_MD_fits_19 (by decide) (fun q => ?_) (fun q => ?_)
    · replace h := h.1 q
      refine aw_iinc (v := 1) d_MD_fits_43 rfl (by decide) ?_
      refine aw_goto (tgt := 2) d_MD_fits_46 (by decide) ?_
      exact h
    · replace h := h.2 q
      refine aw_aload_n d_MD_fits_22 rfl ?_
      refine aw_aload_n d_MD_fits_23 rfl ?_
      refine aw_getR (t := 64) d_MD_fits_24 lf_MD_78 rfl rfl ?_
      refine aw_iload_n d_MD_fits_27 rfl ?_
      refine aw_iald d_MD_fits_28 rfl h.1 ?_
      replace h := h.2
      refine aw_aload_n d_MD_fits_29 rfl ?_
      refine aw_getR (t := 64) d_MD_fits_30 lf_MD_78 rfl rfl ?_
      refine aw_iload_n d_MD_fits_33 rfl ?_
      refine aw_iald d_MD_fits_34 rfl h.1 ?_
      replace h := h.2
      refine aw_callV (as := [.inl (μ 64 (ix x2)), .inl (μ 64 (ix x1))]) d_MD_fits_35 lm_MD_165 rfl rfl (by decide) rfl (Nat.le_of_ble_eq_true rfl) rfl h (fun r2 u1 h => ?_)
      refine aw_if_ne (tgt := 43) d_MD_fits_38 (by decide) (fun q => ?_) (fun q => ?_)
      · replace h := h.1 q
        refine aw_iinc (v := 1) d_MD_fits_43 rfl (by decide) ?_
        refine aw_goto (tgt := 2) d_MD_fits_46 (by decide) ?_
        exact h
      · replace h := h.2 q
        refine aw_iconst (v := 0) d_MD_fits_41 (by decide) ?_
        exact aw_zret d_MD_fits_42 rfl (Or.inl rfl) h
set_option maxRecDepth 100000 in
theorem vc_MD_isFull_0 {G : Gp} {d : Nat} {Q : Int32 → Mem → Prop} {x1 : Int32} {μ : Mem}
    (h : AW G d M_MD_isFull Q 4 [some (.inr 42), some (.inl x1), some (.inl (0 : Int32)), some (.inl (0 : Int32))] [] μ) :
    AW G d M_MD_isFull Q 0 [some (.inr 42), some (.inl x1), none, none] [] μ := by
  refine aw_iconst (v := 0) d_MD_isFull_0 (by decide) ?_
  refine aw_istore_n d_MD_isFull_1 (Nat.le_of_ble_eq_true rfl) ?_
  refine aw_iconst (v := 0) d_MD_isFull_2 (by decide) ?_
  refine aw_istore_n d_MD_isFull_3 (Nat.le_of_ble_eq_true rfl) ?_
  exact h
theorem en_MD_isFull {G : Gp} {d : Nat} {Q : Int32 → Mem → Prop} {x1 : Int32} {μ : Mem}
    (h : AW G d M_MD_isFull Q 0 [some (.inr 42), some (.inl x1), none, none] [] μ) :
    Ct G d M_MD_isFull [.inr 42, .inl x1] μ Q := ct_of (by decide) (Nat.le_of_ble_eq_true rfl) h
set_option maxRecDepth 100000 in
theorem vc_MD_isFull_4 {G : Gp} {d : Nat} {Q : Int32 → Mem → Prop} {x1 x2 x3 : Int32} {μ : Mem}
    (h : (x1 ≤ x3 → (¬ (x2 &&& (x2 + (1 : Int32))) = 0 → Q (0 : Int32) μ) ∧ ((x2 &&& (x2 + (1 : Int32))) = 0 → Q (1 : Int32) μ)) ∧ (¬ x1 ≤ x3 → vp_in x3 60 ∧ ∀ y1 : Int32, y1 = (x2 ||| ((1 : Int32) <<< ((μ 65 (ix x3)) &&& 31))) → AW G d M_MD_isFull Q 4 [some (.inr 42), some (.inl x1), some (.inl y1), some (.inl (x3 + (1 : Int32)))] [] μ)) :
    AW G d M_MD_isFull Q 4 [some (.inr 42), some (.inl x1), some (.inl x2), some (.inl x3)] [] μ := by
  refine aw_iload_n d_MD_isFull_4 rfl ?_
  refine aw_iload_n d_MD_isFull_5 rfl ?_
  refine aw_icmp_ge (tgt := 26) d_MD_isFull_6 (by decide) (fun q => ?_) (fun q => ?_)
  · replace h := h.1 q
    refine aw_iload_n d_MD_isFull_26 rfl ?_
    refine aw_iload_n d_MD_isFull_27 rfl ?_
    refine aw_iconst (v := 1) d_MD_isFull_28 (by decide) ?_
    refine aw_iadd d_MD_isFull_29 ?_
    refine aw_iand d_MD_isFull_30 ?_
    refine aw_if_ne (tgt := 38) d_MD_isFull_31 (by decide) (fun q => ?_) (fun q => ?_)
    · replace h := h.1 q
      refine aw_iconst (v := 0) d_MD_isFull_38 (by decide) ?_
      exact aw_zret d_MD_isFull_39 rfl (Or.inl rfl) h
    · replace h := h.2 q
      refine aw_iconst (v := 1) d_MD_isFull_34 (by decide) ?_
      refine aw_goto (tgt := 39) d_MD_isFull_35 (by decide) ?_
      exact aw_zret d_MD_isFull_39 rfl (Or.inr rfl) h
  · replace h := h.2 q
    refine aw_iload_n d_MD_isFull_9 rfl ?_
    refine aw_iconst (v := 1) d_MD_isFull_10 (by decide) ?_
    refine aw_aload_n d_MD_isFull_11 rfl ?_
    refine aw_getR (t := 65) d_MD_isFull_12 lf_MD_81 rfl rfl ?_
    refine aw_iload_n d_MD_isFull_15 rfl ?_
    refine aw_iald d_MD_isFull_16 rfl h.1 ?_
    replace h := h.2
    refine aw_ishl d_MD_isFull_17 ?_
    refine aw_ior d_MD_isFull_18 ?_
    refine aw_top (fun y1 e => ?_)
    replace h := h _ e
    refine aw_istore_n d_MD_isFull_19 (Nat.le_of_ble_eq_true rfl) ?_
    refine aw_iinc (v := 1) d_MD_isFull_20 rfl (by decide) ?_
    refine aw_goto (tgt := 4) d_MD_isFull_23 (by decide) ?_
    exact h
set_option maxRecDepth 100000 in
theorem vc_MD_place_0 {G : Gp} {d : Nat} {Q : Int32 → Mem → Prop} {x1 x2 : Int32} {μ : Mem}
    (h : Ct G d M_MD_when [.inl x1, .inl x2] μ (fun r2 u1 => (¬ (μ 42 22) = r2 → Ct G d M_MD_when [.inl x1, .inl x2] u1 (fun r4 u3 => ∀ u5 : Mem, u5 = up u3 42 22 r4 → Ct G d M_MD_listSigns [.inr 42, .inl x1, .inl x2] u5 (fun _ u6 => ∀ y7 : Int32, y7 = (u6 42 25) → (y7 ≤ (6 : Int32) → (y7 ≤ 0 → AW G (d + 1) M_MD_place Q 117 [some (.inr 42), none, none, some (.inl y7), some (.inl (-1 : Int32)), some (.inl (0 : Int32)), none, none] [] u6) ∧ (¬ y7 ≤ 0 → vp_in (0 : Int32) 60 ∧ ∀ u8 : Mem, u8 = up u6 65 (ix (0 : Int32)) (-1 : Int32) → AW G (d + 1) M_MD_place Q 117 [some (.inr 42), none, none, some (.inl y7), some (.inl (-1 : Int32)), some (.inl (0 : Int32)), none, none] [] u8)) ∧ (¬ y7 ≤ (6 : Int32) → AW G (d + 1) M_MD_place Q 42 [some (.inr 42), none, none, some (.inl y7), some (.inl (0 : Int32)), none, none, none] [] u6)))) ∧ ((μ 42 22) = r2 → Q 0 u1))) :
    AW G (d + 1) M_MD_place Q 0 [some (.inr 42), some (.inl x1), some (.inl x2), none, none, none, none, none] [] μ := by
  refine aw_aload_n d_MD_place_0 rfl ?_
  refine aw_getI d_MD_place_1 lf_MD_71 rfl rfl ?_
  refine aw_iload_n d_MD_place_4 rfl ?_
  refine aw_iload_n d_MD_place_5 rfl ?_
  refine aw_callS (as := [.inl x1, .inl x2]) d_MD_place_6 lm_MD_104 rfl (Nat.le_of_ble_eq_true rfl) rfl h (fun r2 u1 h => ?_)
  refine aw_icmp_ne (tgt := 13) d_MD_place_9 (by decide) (fun q => ?_) (fun q => ?_)
  · replace h := h.1 q
    refine aw_aload_n d_MD_place_13 rfl ?_
    refine aw_iload_n d_MD_place_14 rfl ?_
    refine aw_iload_n d_MD_place_15 rfl ?_
    refine aw_callS (as := [.inl x1, .inl x2]) d_MD_place_16 lm_MD_104 rfl (Nat.le_of_ble_eq_true rfl) rfl h (fun r4 u3 h => ?_)
    refine aw_putI d_MD_place_19 lf_MD_71 ⟨_, _, _, rfl, rfl, rfl⟩ rfl rfl ?_
    refine aw_mem (fun u5 e => ?_)
    replace h := h _ e
    refine aw_aload_n d_MD_place_22 rfl ?_
    refine aw_iload_n d_MD_place_23 rfl ?_
    refine aw_iload_n d_MD_place_24 rfl ?_
    refine aw_callVv (as := [.inl x1, .inl x2]) d_MD_place_25 lm_MD_168 rfl rfl (by decide) rfl (Nat.le_of_ble_eq_true rfl) rfl h (fun u6 h => ?_)
    refine aw_aload_n d_MD_place_28 rfl ?_
    refine aw_getI d_MD_place_29 lf_MD_159 rfl rfl ?_
    refine aw_top (fun y7 e => ?_)
    replace h := h _ e
    refine aw_istore_n d_MD_place_32 (Nat.le_of_ble_eq_true rfl) ?_
    refine aw_iload_n d_MD_place_33 rfl ?_
    refine aw_bipush (v := 6) d_MD_place_34 (by decide) ?_
    refine aw_icmp_le (tgt := 100) d_MD_place_36 (by decide) (fun q => ?_) (fun q => ?_)
    · replace h := h.1 q
      refine aw_iconst (v := (-1)) d_MD_place_100 (by decide) ?_
      refine aw_istore d_MD_place_101 (Nat.le_of_ble_eq_true rfl) ?_
      refine aw_iconst (v := 0) d_MD_place_103 (by decide) ?_
      refine aw_istore d_MD_place_104 (Nat.le_of_ble_eq_true rfl) ?_
      refine aw_iload_n d_MD_place_106 rfl ?_
      refine aw_if_le (tgt := 117) d_MD_place_107 (by decide) (fun q => ?_) (fun q => ?_)
      · replace h := h.1 q
        refine aw_drop 1 ?_
        refine aw_drop 2 ?_
        exact h
      · replace h := h.2 q
        refine aw_aload_n d_MD_place_110 rfl ?_
        refine aw_getR (t := 65) d_MD_place_111 lf_MD_81 rfl rfl ?_
        refine aw_iconst (v := 0) d_MD_place_114 (by decide) ?_
        refine aw_iconst (v := (-1)) d_MD_place_115 (by decide) ?_
        refine aw_iast d_MD_place_116 rfl h.1 ?_
        replace h := h.2
        refine aw_mem (fun u8 e => ?_)
        replace h := h _ e
        refine aw_drop 1 ?_
        refine aw_drop 2 ?_
        exact h
    · replace h := h.2 q
      refine aw_iconst (v := 0) d_MD_place_39 (by decide) ?_
      refine aw_istore d_MD_place_40 (Nat.le_of_ble_eq_true rfl) ?_
      refine aw_drop 1 ?_
      refine aw_drop 2 ?_
      exact h
  · replace h := h.2 q
    exact aw_vret d_MD_place_12 rfl h
theorem en_MD_place {G : Gp} {d : Nat} {Q : Int32 → Mem → Prop} {x1 x2 : Int32} {μ : Mem}
    (h : AW G (d + 1) M_MD_place Q 0 [some (.inr 42), some (.inl x1), some (.inl x2), none, none, none, none, none] [] μ) :
    Ct G (d + 1) M_MD_place [.inr 42, .inl x1, .inl x2] μ Q := ct_of (by decide) (Nat.le_of_ble_eq_true rfl) h
set_option maxRecDepth 100000 in
theorem vc_MD_place_42 {G : Gp} {d : Nat} {Q : Int32 → Mem → Prop} {x3 x4 : Int32} {μ : Mem}
    (h : (x3 ≤ x4 → Q 0 μ) ∧ (¬ x3 ≤ x4 → vp_in x4 60 ∧ ∀ u1 : Mem, u1 = up μ 65 (ix x4) (0 : Int32) → AW G (d + 1) M_MD_place Q 56 [some (.inr 42), none, none, some (.inl x3), some (.inl x4), none, none, none] [] u1)) :
    AW G (d + 1) M_MD_place Q 42 [some (.inr 42), none, none, some (.inl x3), some (.inl x4), none, none, none] [] μ := by
  refine aw_iload d_MD_place_42 rfl ?_
  refine aw_iload_n d_MD_place_44 rfl ?_
  refine aw_icmp_ge (tgt := 99) d_MD_place_45 (by decide) (fun q => ?_) (fun q => ?_)
  · replace h := h.1 q
    exact aw_vret d_MD_place_99 rfl h
  · replace h := h.2 q
    refine aw_aload_n d_MD_place_48 rfl ?_
    refine aw_getR (t := 65) d_MD_place_49 lf_MD_81 rfl rfl ?_
    refine aw_iload d_MD_place_52 rfl ?_
    refine aw_iconst (v := 0) d_MD_place_54 (by decide) ?_
    refine aw_iast d_MD_place_55 rfl h.1 ?_
    replace h := h.2
    refine aw_mem (fun u1 e => ?_)
    replace h := h _ e
    exact h
set_option maxRecDepth 100000 in
theorem vc_MD_place_56 {G : Gp} {d : Nat} {Q : Int32 → Mem → Prop} {x3 x4 : Int32} {μ : Mem}
    (h : Ct G d M_MD_fits [.inr 42, .inl x4] μ (fun r2 u1 => (¬ r2 = 0 → vp_in x4 60 ∧ vp_in x4 60 ∧ ∀ u3 : Mem, u3 = up u1 66 (ix x4) (u1 65 (ix x4)) → AW G (d + 1) M_MD_place Q 42 [some (.inr 42), none, none, some (.inl x3), some (.inl (x4 + (1 : Int32))), none, none, none] [] u3) ∧ (r2 = 0 → vp_in x4 60 ∧ vp_in x4 60 ∧ ∀ u4 : Mem, u4 = up u1 65 (ix x4) ((u1 65 (ix x4)) + (1 : Int32)) → AW G (d + 1) M_MD_place Q 56 [some (.inr 42), none, none, some (.inl x3), some (.inl x4), none, none, none] [] u4))) :
    AW G (d + 1) M_MD_place Q 56 [some (.inr 42), none, none, some (.inl x3), some (.inl x4), none, none, none] [] μ := by
  refine aw_aload_n d_MD_place_56 rfl ?_
  refine aw_iload d_MD_place_57 rfl ?_
  refine aw_callV (as := [.inl x4]) d_MD_place_59 lm_MD_171 rfl rfl (by decide) rfl (Nat.le_of_ble_eq_true rfl) rfl h (fun r2 u1 h => ?_)
  refine aw_if_ne (tgt := 79) d_MD_place_62 (by decide) (fun q => ?_) (fun q => ?_)
  · replace h := h.1 q
    refine aw_aload_n d_MD_place_79 rfl ?_
    refine aw_getR (t := 66) d_MD_place_80 lf_MD_84 rfl rfl ?_
    refine aw_iload d_MD_place_83 rfl ?_
    refine aw_aload_n d_MD_place_85 rfl ?_
    refine aw_getR (t := 65) d_MD_place_86 lf_MD_81 rfl rfl ?_
    refine aw_iload d_MD_place_89 rfl ?_
    refine aw_iald d_MD_place_91 rfl h.1 ?_
    replace h := h.2
    refine aw_iast d_MD_place_92 rfl h.1 ?_
    replace h := h.2
    refine aw_mem (fun u3 e => ?_)
    replace h := h _ e
    refine aw_iinc (v := 1) d_MD_place_93 rfl (by decide) ?_
    refine aw_goto (tgt := 42) d_MD_place_96 (by decide) ?_
    exact h
  · replace h := h.2 q
    refine aw_aload_n d_MD_place_65 rfl ?_
    refine aw_getR (t := 65) d_MD_place_66 lf_MD_81 rfl rfl ?_
    refine aw_iload d_MD_place_69 rfl ?_
    refine aw_dup2 d_MD_place_71 ?_
    refine aw_iald d_MD_place_72 rfl h.1 ?_
    replace h := h.2
    refine aw_iconst (v := 1) d_MD_place_73 (by decide) ?_
    refine aw_iadd d_MD_place_74 ?_
    refine aw_iast d_MD_place_75 rfl h.1 ?_
    replace h := h.2
    refine aw_mem (fun u4 e => ?_)
    replace h := h _ e
    refine aw_goto (tgt := 56) d_MD_place_76 (by decide) ?_
    exact h
set_option maxRecDepth 100000 in
theorem vc_MD_place_117 {G : Gp} {d : Nat} {Q : Int32 → Mem → Prop} {x3 x4 x5 : Int32} {μ : Mem}
    (h : (x3 ≤ 0 → Q 0 μ) ∧ (¬ x3 ≤ 0 → (x5 < 0 → Q 0 μ) ∧ (¬ x5 < 0 → vp_in x5 60 ∧ vp_in x5 60 ∧ ∀ u1 : Mem, u1 = up μ 65 (ix x5) ((μ 65 (ix x5)) + (1 : Int32)) → vp_in x5 60 ∧ ((u1 65 (ix x5)) ≤ (5 : Int32) → Ct G d M_MD_fits [.inr 42, .inl x5] u1 (fun r3 u2 => (r3 = 0 → AW G (d + 1) M_MD_place Q 117 [some (.inr 42), none, none, some (.inl x3), some (.inl x4), some (.inl x5), none, none] [] u2) ∧ (¬ r3 = 0 → (x4 < 0 → AW G (d + 1) M_MD_place Q 185 [some (.inr 42), none, none, some (.inl x3), some (.inl x4), some (.inl x5), none, none] [] u2) ∧ (¬ x4 < 0 → Ct G d M_MD_widths [.inr 42, .inr 65, .inl (x5 + (1 : Int32))] u2 (fun r5 u4 => (x4 ≤ r5 → AW G (d + 1) M_MD_place Q 117 [some (.inr 42), none, none, some (.inl x3), some (.inl x4), some (.inl x5), none, none] [] u4) ∧ (¬ x4 ≤ r5 → AW G (d + 1) M_MD_place Q 185 [some (.inr 42), none, none, some (.inl x3), some (.inl x4), some (.inl x5), none, none] [] u4)))))) ∧ (¬ (u1 65 (ix x5)) ≤ (5 : Int32) → AW G (d + 1) M_MD_place Q 117 [some (.inr 42), none, none, some (.inl x3), some (.inl x4), some (.inl (x5 + (-1 : Int32))), none, none] [] u1)))) :
    AW G (d + 1) M_MD_place Q 117 [some (.inr 42), none, none, some (.inl x3), some (.inl x4), some (.inl x5), none, none] [] μ := by
  refine aw_iload_n d_MD_place_117 rfl ?_
  refine aw_if_le (tgt := 274) d_MD_place_118 (by decide) (fun q => ?_) (fun q => ?_)
  · replace h := h.1 q
    exact aw_vret d_MD_place_274 rfl h
  · replace h := h.2 q
    refine aw_iload d_MD_place_121 rfl ?_
    refine aw_if_lt (tgt := 274) d_MD_place_123 (by decide) (fun q => ?_) (fun q => ?_)
    · replace h := h.1 q
      exact aw_vret d_MD_place_274 rfl h
    · replace h := h.2 q
      refine aw_aload_n d_MD_place_126 rfl ?_
      refine aw_getR (t := 65) d_MD_place_127 lf_MD_81 rfl rfl ?_
      refine aw_iload d_MD_place_130 rfl ?_
      refine aw_dup2 d_MD_place_132 ?_
      refine aw_iald d_MD_place_133 rfl h.1 ?_
      replace h := h.2
      refine aw_iconst (v := 1) d_MD_place_134 (by decide) ?_
      refine aw_iadd d_MD_place_135 ?_
      refine aw_iast d_MD_place_136 rfl h.1 ?_
      replace h := h.2
      refine aw_mem (fun u1 e => ?_)
      replace h := h _ e
      refine aw_aload_n d_MD_place_137 rfl ?_
      refine aw_getR (t := 65) d_MD_place_138 lf_MD_81 rfl rfl ?_
      refine aw_iload d_MD_place_141 rfl ?_
      refine aw_iald d_MD_place_143 rfl h.1 ?_
      replace h := h.2
      refine aw_iconst (v := 5) d_MD_place_144 (by decide) ?_
      refine aw_icmp_le (tgt := 154) d_MD_place_145 (by decide) (fun q => ?_) (fun q => ?_)
      · replace h := h.1 q
        refine aw_aload_n d_MD_place_154 rfl ?_
        refine aw_iload d_MD_place_155 rfl ?_
        refine aw_callV (as := [.inl x5]) d_MD_place_157 lm_MD_171 rfl rfl (by decide) rfl (Nat.le_of_ble_eq_true rfl) rfl h (fun r3 u2 h => ?_)
        refine aw_if_eq (tgt := 117) d_MD_place_160 (by decide) (fun q => ?_) (fun q => ?_)
        · replace h := h.1 q
          exact h
        · replace h := h.2 q
          refine aw_iload d_MD_place_163 rfl ?_
          refine aw_if_lt (tgt := 185) d_MD_place_165 (by decide) (fun q => ?_) (fun q => ?_)
          · replace h := h.1 q
            exact h
          · replace h := h.2 q
            refine aw_aload_n d_MD_place_168 rfl ?_
            refine aw_aload_n d_MD_place_169 rfl ?_
            refine aw_getR (t := 65) d_MD_place_170 lf_MD_81 rfl rfl ?_
            refine aw_iload d_MD_place_173 rfl ?_
            refine aw_iconst (v := 1) d_MD_place_175 (by decide) ?_
            refine aw_iadd d_MD_place_176 ?_
            refine aw_callV (as := [.inr 65, .inl (x5 + (1 : Int32))]) d_MD_place_177 lm_MD_174 rfl rfl (by decide) rfl (Nat.le_of_ble_eq_true rfl) rfl h (fun r5 u4 h => ?_)
            refine aw_iload d_MD_place_180 rfl ?_
            refine aw_icmp_ge (tgt := 117) d_MD_place_182 (by decide) (fun q => ?_) (fun q => ?_)
            · replace h := h.1 q
              exact h
            · replace h := h.2 q
              exact h
      · replace h := h.2 q
        refine aw_iinc (v := (-1)) d_MD_place_148 rfl (by decide) ?_
        refine aw_goto (tgt := 117) d_MD_place_151 (by decide) ?_
        exact h
set_option maxRecDepth 100000 in
theorem vc_MD_place_185 {G : Gp} {d : Nat} {Q : Int32 → Mem → Prop} {x3 x4 x5 : Int32} {μ : Mem}
    (h : ((x3 - (1 : Int32)) ≤ x5 → Ct G d M_MD_isFull [.inr 42, .inl x3] μ (fun r2 u1 => (r2 = 0 → AW G (d + 1) M_MD_place Q 117 [some (.inr 42), none, none, some (.inl x3), some (.inl x4), some (.inl x5), none, none] [] u1) ∧ (¬ r2 = 0 → Ct G d M_MD_widths [.inr 42, .inr 65, .inl x3] u1 (fun r4 u3 => (x4 < 0 → AW G (d + 1) M_MD_place Q 245 [some (.inr 42), none, none, some (.inl x3), some (.inl r4), some (.inl x5), none, some (.inl (0 : Int32))] [] u3) ∧ (¬ x4 < 0 → (x4 ≤ r4 → AW G (d + 1) M_MD_place Q 117 [some (.inr 42), none, none, some (.inl x3), some (.inl x4), some (.inl x5), none, none] [] u3) ∧ (¬ x4 ≤ r4 → AW G (d + 1) M_MD_place Q 245 [some (.inr 42), none, none, some (.inl x3), some (.inl r4), some (.inl x5), none, some (.inl (0 : Int32))] [] u3)))))) ∧ (¬ (x3 - (1 : Int32)) ≤ x5 → vp_in (x5 + (1 : Int32)) 60 ∧ ∀ u5 : Mem, u5 = up μ 65 (ix (x5 + (1 : Int32))) (-1 : Int32) → AW G (d + 1) M_MD_place Q 117 [some (.inr 42), none, none, some (.inl x3), some (.inl x4), some (.inl (x5 + (1 : Int32))), none, none] [] u5)) :
    AW G (d + 1) M_MD_place Q 185 [some (.inr 42), none, none, some (.inl x3), some (.inl x4), some (.inl x5), none, none] [] μ := by
  refine aw_iload d_MD_place_185 rfl ?_
  refine aw_iload_n d_MD_place_187 rfl ?_
  refine aw_iconst (v := 1) d_MD_place_188 (by decide) ?_
  refine aw_isub d_MD_place_189 ?_
  refine aw_icmp_ge (tgt := 207) d_MD_place_190 (by decide) (fun q => ?_) (fun q => ?_)
  · replace h := h.1 q
    refine aw_aload_n d_MD_place_207 rfl ?_
    refine aw_iload_n d_MD_place_208 rfl ?_
    refine aw_callV (as := [.inl x3]) d_MD_place_209 lm_MD_178 rfl rfl (by decide) rfl (Nat.le_of_ble_eq_true rfl) rfl h (fun r2 u1 h => ?_)
    refine aw_if_eq (tgt := 117) d_MD_place_212 (by decide) (fun q => ?_) (fun q => ?_)
    · replace h := h.1 q
      exact h
    · replace h := h.2 q
      refine aw_aload_n d_MD_place_215 rfl ?_
      refine aw_aload_n d_MD_place_216 rfl ?_
      refine aw_getR (t := 65) d_MD_place_217 lf_MD_81 rfl rfl ?_
      refine aw_iload_n d_MD_place_220 rfl ?_
      refine aw_callV (as := [.inr 65, .inl x3]) d_MD_place_221 lm_MD_174 rfl rfl (by decide) rfl (Nat.le_of_ble_eq_true rfl) rfl h (fun r4 u3 h => ?_)
      refine aw_istore d_MD_place_224 (Nat.le_of_ble_eq_true rfl) ?_
      refine aw_iload d_MD_place_226 rfl ?_
      refine aw_if_lt (tgt := 238) d_MD_place_228 (by decide) (fun q => ?_) (fun q => ?_)
      · replace h := h.1 q
        refine aw_iload d_MD_place_238 rfl ?_
        refine aw_istore d_MD_place_240 (Nat.le_of_ble_eq_true rfl) ?_
        refine aw_iconst (v := 0) d_MD_place_242 (by decide) ?_
        refine aw_istore d_MD_place_243 (Nat.le_of_ble_eq_true rfl) ?_
        refine aw_drop 6 ?_
        exact h
      · replace h := h.2 q
        refine aw_iload d_MD_place_231 rfl ?_
        refine aw_iload d_MD_place_233 rfl ?_
        refine aw_icmp_ge (tgt := 271) d_MD_place_235 (by decide) (fun q => ?_) (fun q => ?_)
        · replace h := h.1 q
          refine aw_goto (tgt := 117) d_MD_place_271 (by decide) ?_
          refine aw_drop 6 ?_
          exact h
        · replace h := h.2 q
          refine aw_iload d_MD_place_238 rfl ?_
          refine aw_istore d_MD_place_240 (Nat.le_of_ble_eq_true rfl) ?_
          refine aw_iconst (v := 0) d_MD_place_242 (by decide) ?_
          refine aw_istore d_MD_place_243 (Nat.le_of_ble_eq_true rfl) ?_
          refine aw_drop 6 ?_
          exact h
  · replace h := h.2 q
    refine aw_iinc (v := 1) d_MD_place_193 rfl (by decide) ?_
    refine aw_aload_n d_MD_place_196 rfl ?_
    refine aw_getR (t := 65) d_MD_place_197 lf_MD_81 rfl rfl ?_
    refine aw_iload d_MD_place_200 rfl ?_
    refine aw_iconst (v := (-1)) d_MD_place_202 (by decide) ?_
    refine aw_iast d_MD_place_203 rfl h.1 ?_
    replace h := h.2
    refine aw_mem (fun u5 e => ?_)
    replace h := h _ e
    refine aw_goto (tgt := 117) d_MD_place_204 (by decide) ?_
    exact h
set_option maxRecDepth 100000 in
theorem vc_MD_place_245 {G : Gp} {d : Nat} {Q : Int32 → Mem → Prop} {x3 x4 x5 x7 : Int32} {μ : Mem}
    (h : (x3 ≤ x7 → AW G (d + 1) M_MD_place Q 117 [some (.inr 42), none, none, some (.inl x3), some (.inl x4), some (.inl x5), none, none] [] μ) ∧ (¬ x3 ≤ x7 → vp_in x7 60 ∧ vp_in x7 60 ∧ ∀ u1 : Mem, u1 = up μ 66 (ix x7) (μ 65 (ix x7)) → AW G (d + 1) M_MD_place Q 245 [some (.inr 42), none, none, some (.inl x3), some (.inl x4), some (.inl x5), none, some (.inl (x7 + (1 : Int32)))] [] u1)) :
    AW G (d + 1) M_MD_place Q 245 [some (.inr 42), none, none, some (.inl x3), some (.inl x4), some (.inl x5), none, some (.inl x7)] [] μ := by
  refine aw_iload d_MD_place_245 rfl ?_
  refine aw_iload_n d_MD_place_247 rfl ?_
  refine aw_icmp_ge (tgt := 271) d_MD_place_248 (by decide) (fun q => ?_) (fun q => ?_)
  · replace h := h.1 q
    refine aw_goto (tgt := 117) d_MD_place_271 (by decide) ?_
    refine aw_drop 7 ?_
    exact h
  · replace h := h.2 q
    refine aw_aload_n d_MD_place_251 rfl ?_
    refine aw_getR (t := 66) d_MD_place_252 lf_MD_84 rfl rfl ?_
    refine aw_iload d_MD_place_255 rfl ?_
    refine aw_aload_n d_MD_place_257 rfl ?_
    refine aw_getR (t := 65) d_MD_place_258 lf_MD_81 rfl rfl ?_
    refine aw_iload d_MD_place_261 rfl ?_
    refine aw_iald d_MD_place_263 rfl h.1 ?_
    replace h := h.2
    refine aw_iast d_MD_place_264 rfl h.1 ?_
    replace h := h.2
    refine aw_mem (fun u1 e => ?_)
    replace h := h _ e
    refine aw_iinc (v := 1) d_MD_place_265 rfl (by decide) ?_
    refine aw_goto (tgt := 245) d_MD_place_268 (by decide) ?_
    exact h
set_option maxRecDepth 100000 in
theorem vc_MD_count_0 {G : Gp} {d : Nat} {Q : Int32 → Mem → Prop} {x1 : Int32} {μ : Mem}
    (h : Ct G d M_MD_in [.inl x1, .inl (0 : Int32), .inl (3 : Int32)] μ (fun r2 u1 => (¬ r2 = 0 → Ct G d M_MD_work [.inr 42] u1 (fun _ u3 => AW G (d + 1) M_MD_count Q 20 [some (.inr 42), some (.inl x1), some (.inl (0 : Int32)), some (.inl (0 : Int32)), none, none] [] u3)) ∧ (r2 = 0 → Q (-3 : Int32) u1))) :
    AW G (d + 1) M_MD_count Q 0 [some (.inr 42), some (.inl x1), none, none, none, none] [] μ := by
  refine aw_iload_n d_MD_count_0 rfl ?_
  refine aw_iconst (v := 0) d_MD_count_1 (by decide) ?_
  refine aw_iconst (v := 3) d_MD_count_2 (by decide) ?_
  refine aw_callS (as := [.inl x1, .inl (0 : Int32), .inl (3 : Int32)]) d_MD_count_3 lm_MD_93 rfl (Nat.le_of_ble_eq_true rfl) rfl h (fun r2 u1 h => ?_)
  refine aw_if_ne (tgt := 12) d_MD_count_6 (by decide) (fun q => ?_) (fun q => ?_)
  · replace h := h.1 q
    refine aw_aload_n d_MD_count_12 rfl ?_
    refine aw_callVv (as := []) d_MD_count_13 lm_MD_181 rfl rfl (by decide) rfl (Nat.le_of_ble_eq_true rfl) rfl h (fun u3 h => ?_)
    refine aw_iconst (v := 0) d_MD_count_16 (by decide) ?_
    refine aw_istore_n d_MD_count_17 (Nat.le_of_ble_eq_true rfl) ?_
    refine aw_iconst (v := 0) d_MD_count_18 (by decide) ?_
    refine aw_istore_n d_MD_count_19 (Nat.le_of_ble_eq_true rfl) ?_
    exact h
  · replace h := h.2 q
    refine aw_bipush (v := (-3)) d_MD_count_9 (by decide) ?_
    exact aw_iret d_MD_count_11 rfl h
theorem en_MD_count {G : Gp} {d : Nat} {Q : Int32 → Mem → Prop} {x1 : Int32} {μ : Mem}
    (h : AW G (d + 1) M_MD_count Q 0 [some (.inr 42), some (.inl x1), none, none, none, none] [] μ) :
    Ct G (d + 1) M_MD_count [.inr 42, .inl x1] μ Q := ct_of (by decide) (Nat.le_of_ble_eq_true rfl) h
set_option maxRecDepth 100000 in
theorem vc_MD_count_20 {G : Gp} {d : Nat} {Q : Int32 → Mem → Prop} {x1 x2 x3 : Int32} {μ : Mem}
    (h : ((μ 42 8) ≤ x3 → Q x2 μ) ∧ (¬ (μ 42 8) ≤ x3 → vp_in x3 60 ∧ ∀ y1 : Int32, y1 = (μ 54 (ix x3)) → (x3 = 0 → AW G (d + 1) M_MD_count Q 61 [some (.inr 42), some (.inl x1), some (.inl x2), some (.inl x3), some (.inl y1), none] [] μ) ∧ (¬ x3 = 0 → vp_in (x3 - (1 : Int32)) 60 ∧ Ct G d M_MD_whenOf [.inr 42, .inl (μ 54 (ix (x3 - (1 : Int32))))] μ (fun r3 u2 => Ct G d M_MD_whenOf [.inr 42, .inl y1] u2 (fun r5 u4 => (r3 = r5 → (x1 = 0 → ∀ y6 : Int32, y6 = (x2 + (1 : Int32)) → AW G (d + 1) M_MD_count Q 20 [some (.inr 42), some (.inl x1), some (.inl y6), some (.inl (x3 + (1 : Int32))), none, none] [] u4) ∧ (¬ x1 = 0 → (¬ x1 = (3 : Int32) → vp_in y1 60 ∧ (¬ (u4 56 (ix y1)) = x1 → ∀ y7 : Int32, y7 = (x2 + (0 : Int32)) → AW G (d + 1) M_MD_count Q 20 [some (.inr 42), some (.inl x1), some (.inl y7), some (.inl (x3 + (1 : Int32))), none, none] [] u4) ∧ ((u4 56 (ix y1)) = x1 → ∀ y8 : Int32, y8 = (x2 + (1 : Int32)) → AW G (d + 1) M_MD_count Q 20 [some (.inr 42), some (.inl x1), some (.inl y8), some (.inl (x3 + (1 : Int32))), none, none] [] u4)) ∧ (x1 = (3 : Int32) → ((0 : Int32) = 0 → ∀ y9 : Int32, y9 = (x2 + (0 : Int32)) → AW G (d + 1) M_MD_count Q 20 [some (.inr 42), some (.inl x1), some (.inl y9), some (.inl (x3 + (1 : Int32))), none, none] [] u4) ∧ (¬ (0 : Int32) = 0 → ∀ y10 : Int32, y10 = (x2 + (1 : Int32)) → AW G (d + 1) M_MD_count Q 20 [some (.inr 42), some (.inl x1), some (.inl y10), some (.inl (x3 + (1 : Int32))), none, none] [] u4)))) ∧ (¬ r3 = r5 → AW G (d + 1) M_MD_count Q 61 [some (.inr 42), some (.inl x1), some (.inl x2), some (.inl x3), some (.inl y1), none] [] u4)))))) :
    AW G (d + 1) M_MD_count Q 20 [some (.inr 42), some (.inl x1), some (.inl x2), some (.inl x3), none, none] [] μ := by
  refine aw_iload_n d_MD_count_20 rfl ?_
  refine aw_aload_n d_MD_count_21 rfl ?_
  refine aw_getI d_MD_count_22 lf_MD_97 rfl rfl ?_
  refine aw_icmp_ge (tgt := 110) d_MD_count_25 (by decide) (fun q => ?_) (fun q => ?_)
  · replace h := h.1 q
    refine aw_iload_n d_MD_count_110 rfl ?_
    exact aw_iret d_MD_count_111 rfl h
  · replace h := h.2 q
    refine aw_aload_n d_MD_count_28 rfl ?_
    refine aw_getR (t := 54) d_MD_count_29 lf_MD_43 rfl rfl ?_
    refine aw_iload_n d_MD_count_32 rfl ?_
    refine aw_iald d_MD_count_33 rfl h.1 ?_
    replace h := h.2
    refine aw_top (fun y1 e => ?_)
    replace h := h _ e
    refine aw_istore d_MD_count_34 (Nat.le_of_ble_eq_true rfl) ?_
    refine aw_iload_n d_MD_count_36 rfl ?_
    refine aw_if_eq (tgt := 61) d_MD_count_37 (by decide) (fun q => ?_) (fun q => ?_)
    · replace h := h.1 q
      exact h
    · replace h := h.2 q
      refine aw_aload_n d_MD_count_40 rfl ?_
      refine aw_aload_n d_MD_count_41 rfl ?_
      refine aw_getR (t := 54) d_MD_count_42 lf_MD_43 rfl rfl ?_
      refine aw_iload_n d_MD_count_45 rfl ?_
      refine aw_iconst (v := 1) d_MD_count_46 (by decide) ?_
      refine aw_isub d_MD_count_47 ?_
      refine aw_iald d_MD_count_48 rfl h.1 ?_
      replace h := h.2
      refine aw_callV (as := [.inl (μ 54 (ix (x3 - (1 : Int32))))]) d_MD_count_49 lm_MD_108 rfl rfl (by decide) rfl (Nat.le_of_ble_eq_true rfl) rfl h (fun r3 u2 h => ?_)
      refine aw_aload_n d_MD_count_52 rfl ?_
      refine aw_iload d_MD_count_53 rfl ?_
      refine aw_callV (as := [.inl y1]) d_MD_count_55 lm_MD_108 rfl rfl (by decide) rfl (Nat.le_of_ble_eq_true rfl) rfl h (fun r5 u4 h => ?_)
      refine aw_icmp_eq (tgt := 65) d_MD_count_58 (by decide) (fun q => ?_) (fun q => ?_)
      · replace h := h.1 q
        refine aw_iconst (v := 0) d_MD_count_65 (by decide) ?_
        refine aw_istore d_MD_count_66 (Nat.le_of_ble_eq_true rfl) ?_
        refine aw_iload_n d_MD_count_68 rfl ?_
        refine aw_iload_n d_MD_count_69 rfl ?_
        refine aw_if_eq (tgt := 97) d_MD_count_70 (by decide) (fun q => ?_) (fun q => ?_)
        · replace h := h.1 q
          refine aw_iconst (v := 1) d_MD_count_97 (by decide) ?_
          refine aw_goto (tgt := 102) d_MD_count_98 (by decide) ?_
          refine aw_iadd d_MD_count_102 ?_
          refine aw_top (fun y6 e => ?_)
          replace h := h _ e
          refine aw_istore_n d_MD_count_103 (Nat.le_of_ble_eq_true rfl) ?_
          refine aw_iinc (v := 1) d_MD_count_104 rfl (by decide) ?_
          refine aw_goto (tgt := 20) d_MD_count_107 (by decide) ?_
          refine aw_drop 4 ?_
          refine aw_drop 5 ?_
          exact h
        · replace h := h.2 q
          refine aw_iload_n d_MD_count_73 rfl ?_
          refine aw_iconst (v := 3) d_MD_count_74 (by decide) ?_
          refine aw_icmp_ne (tgt := 86) d_MD_count_75 (by decide) (fun q => ?_) (fun q => ?_)
          · replace h := h.1 q
            refine aw_aload_n d_MD_count_86 rfl ?_
            refine aw_getR (t := 56) d_MD_count_87 lf_MD_49 rfl rfl ?_
            refine aw_iload d_MD_count_90 rfl ?_
            refine aw_iald d_MD_count_92 rfl h.1 ?_
            replace h := h.2
            refine aw_iload_n d_MD_count_93 rfl ?_
            refine aw_icmp_ne (tgt := 101) d_MD_count_94 (by decide) (fun q => ?_) (fun q => ?_)
            · replace h := h.1 q
              refine aw_iconst (v := 0) d_MD_count_101 (by decide) ?_
              refine aw_iadd d_MD_count_102 ?_
              refine aw_top (fun y7 e => ?_)
              replace h := h _ e
              refine aw_istore_n d_MD_count_103 (Nat.le_of_ble_eq_true rfl) ?_
              refine aw_iinc (v := 1) d_MD_count_104 rfl (by decide) ?_
              refine aw_goto (tgt := 20) d_MD_count_107 (by decide) ?_
              refine aw_drop 4 ?_
              refine aw_drop 5 ?_
              exact h
            · replace h := h.2 q
              refine aw_iconst (v := 1) d_MD_count_97 (by decide) ?_
              refine aw_goto (tgt := 102) d_MD_count_98 (by decide) ?_
              refine aw_iadd d_MD_count_102 ?_
              refine aw_top (fun y8 e => ?_)
              replace h := h _ e
              refine aw_istore_n d_MD_count_103 (Nat.le_of_ble_eq_true rfl) ?_
              refine aw_iinc (v := 1) d_MD_count_104 rfl (by decide) ?_
              refine aw_goto (tgt := 20) d_MD_count_107 (by decide) ?_
              refine aw_drop 4 ?_
              refine aw_drop 5 ?_
              exact h
          · replace h := h.2 q
            refine aw_iload d_MD_count_78 rfl ?_
            refine aw_if_eq (tgt := 101) d_MD_count_80 (by decide) (fun q => ?_) (fun q => ?_)
            · replace h := h.1 q
              refine aw_iconst (v := 0) d_MD_count_101 (by decide) ?_
              refine aw_iadd d_MD_count_102 ?_
              refine aw_top (fun y9 e => ?_)
              replace h := h _ e
              refine aw_istore_n d_MD_count_103 (Nat.le_of_ble_eq_true rfl) ?_
              refine aw_iinc (v := 1) d_MD_count_104 rfl (by decide) ?_
              refine aw_goto (tgt := 20) d_MD_count_107 (by decide) ?_
              refine aw_drop 4 ?_
              refine aw_drop 5 ?_
              exact h
            · replace h := h.2 q
              refine aw_goto (tgt := 97) d_MD_count_83 (by decide) ?_
              refine aw_iconst (v := 1) d_MD_count_97 (by decide) ?_
              refine aw_goto (tgt := 102) d_MD_count_98 (by decide) ?_
              refine aw_iadd d_MD_count_102 ?_
              refine aw_top (fun y10 e => ?_)
              replace h := h _ e
              refine aw_istore_n d_MD_count_103 (Nat.le_of_ble_eq_true rfl) ?_
              refine aw_iinc (v := 1) d_MD_count_104 rfl (by decide) ?_
              refine aw_goto (tgt := 20) d_MD_count_107 (by decide) ?_
              refine aw_drop 4 ?_
              refine aw_drop 5 ?_
              exact h
      · replace h := h.2 q
        exact h
set_option maxRecDepth 100000 in
theorem vc_MD_count_61 {G : Gp} {d : Nat} {Q : Int32 → Mem → Prop} {x1 x2 x3 x4 : Int32} {μ : Mem}
    (h : (x1 = 0 → ∀ y1 : Int32, y1 = (x2 + (1 : Int32)) → AW G (d + 1) M_MD_count Q 20 [some (.inr 42), some (.inl x1), some (.inl y1), some (.inl (x3 + (1 : Int32))), none, none] [] μ) ∧ (¬ x1 = 0 → (¬ x1 = (3 : Int32) → vp_in x4 60 ∧ (¬ (μ 56 (ix x4)) = x1 → ∀ y2 : Int32, y2 = (x2 + (0 : Int32)) → AW G (d + 1) M_MD_count Q 20 [some (.inr 42), some (.inl x1), some (.inl y2), some (.inl (x3 + (1 : Int32))), none, none] [] μ) ∧ ((μ 56 (ix x4)) = x1 → ∀ y3 : Int32, y3 = (x2 + (1 : Int32)) → AW G (d + 1) M_MD_count Q 20 [some (.inr 42), some (.inl x1), some (.inl y3), some (.inl (x3 + (1 : Int32))), none, none] [] μ)) ∧ (x1 = (3 : Int32) → ((1 : Int32) = 0 → ∀ y4 : Int32, y4 = (x2 + (0 : Int32)) → AW G (d + 1) M_MD_count Q 20 [some (.inr 42), some (.inl x1), some (.inl y4), some (.inl (x3 + (1 : Int32))), none, none] [] μ) ∧ (¬ (1 : Int32) = 0 → ∀ y5 : Int32, y5 = (x2 + (1 : Int32)) → AW G (d + 1) M_MD_count Q 20 [some (.inr 42), some (.inl x1), some (.inl y5), some (.inl (x3 + (1 : Int32))), none, none] [] μ)))) :
    AW G (d + 1) M_MD_count Q 61 [some (.inr 42), some (.inl x1), some (.inl x2), some (.inl x3), some (.inl x4), none] [] μ := by
  refine aw_iconst (v := 1) d_MD_count_61 (by decide) ?_
  refine aw_goto (tgt := 66) d_MD_count_62 (by decide) ?_
  refine aw_istore d_MD_count_66 (Nat.le_of_ble_eq_true rfl) ?_
  refine aw_iload_n d_MD_count_68 rfl ?_
  refine aw_iload_n d_MD_count_69 rfl ?_
  refine aw_if_eq (tgt := 97) d_MD_count_70 (by decide) (fun q => ?_) (fun q => ?_)
  · replace h := h.1 q
    refine aw_iconst (v := 1) d_MD_count_97 (by decide) ?_
    refine aw_goto (tgt := 102) d_MD_count_98 (by decide) ?_
    refine aw_iadd d_MD_count_102 ?_
    refine aw_top (fun y1 e => ?_)
    replace h := h _ e
    refine aw_istore_n d_MD_count_103 (Nat.le_of_ble_eq_true rfl) ?_
    refine aw_iinc (v := 1) d_MD_count_104 rfl (by decide) ?_
    refine aw_goto (tgt := 20) d_MD_count_107 (by decide) ?_
    refine aw_drop 4 ?_
    refine aw_drop 5 ?_
    exact h
  · replace h := h.2 q
    refine aw_iload_n d_MD_count_73 rfl ?_
    refine aw_iconst (v := 3) d_MD_count_74 (by decide) ?_
    refine aw_icmp_ne (tgt := 86) d_MD_count_75 (by decide) (fun q => ?_) (fun q => ?_)
    · replace h := h.1 q
      refine aw_aload_n d_MD_count_86 rfl ?_
      refine aw_getR (t := 56) d_MD_count_87 lf_MD_49 rfl rfl ?_
      refine aw_iload d_MD_count_90 rfl ?_
      refine aw_iald d_MD_count_92 rfl h.1 ?_
      replace h := h.2
      refine aw_iload_n d_MD_count_93 rfl ?_
      refine aw_icmp_ne (tgt := 101) d_MD_count_94 (by decide) (fun q => ?_) (fun q => ?_)
      · replace h := h.1 q
        refine aw_iconst (v := 0) d_MD_count_101 (by decide) ?_
        refine aw_iadd d_MD_count_102 ?_
        refine aw_top (fun y2 e => ?_)
        replace h := h _ e
        refine aw_istore_n d_MD_count_103 (Nat.le_of_ble_eq_true rfl) ?_
        refine aw_iinc (v := 1) d_MD_count_104 rfl (by decide) ?_
        refine aw_goto (tgt := 20) d_MD_count_107 (by decide) ?_
        refine aw_drop 4 ?_
        refine aw_drop 5 ?_
        exact h
      · replace h := h.2 q
        refine aw_iconst (v := 1) d_MD_count_97 (by decide) ?_
        refine aw_goto (tgt := 102) d_MD_count_98 (by decide) ?_
        refine aw_iadd d_MD_count_102 ?_
        refine aw_top (fun y3 e => ?_)
        replace h := h _ e
        refine aw_istore_n d_MD_count_103 (Nat.le_of_ble_eq_true rfl) ?_
        refine aw_iinc (v := 1) d_MD_count_104 rfl (by decide) ?_
        refine aw_goto (tgt := 20) d_MD_count_107 (by decide) ?_
        refine aw_drop 4 ?_
        refine aw_drop 5 ?_
        exact h
    · replace h := h.2 q
      refine aw_iload d_MD_count_78 rfl ?_
      refine aw_if_eq (tgt := 101) d_MD_count_80 (by decide) (fun q => ?_) (fun q => ?_)
      · replace h := h.1 q
        refine aw_iconst (v := 0) d_MD_count_101 (by decide) ?_
        refine aw_iadd d_MD_count_102 ?_
        refine aw_top (fun y4 e => ?_)
        replace h := h _ e
        refine aw_istore_n d_MD_count_103 (Nat.le_of_ble_eq_true rfl) ?_
        refine aw_iinc (v := 1) d_MD_count_104 rfl (by decide) ?_
        refine aw_goto (tgt := 20) d_MD_count_107 (by decide) ?_
        refine aw_drop 4 ?_
        refine aw_drop 5 ?_
        exact h
      · replace h := h.2 q
        refine aw_goto (tgt := 97) d_MD_count_83 (by decide) ?_
        refine aw_iconst (v := 1) d_MD_count_97 (by decide) ?_
        refine aw_goto (tgt := 102) d_MD_count_98 (by decide) ?_
        refine aw_iadd d_MD_count_102 ?_
        refine aw_top (fun y5 e => ?_)
        replace h := h _ e
        refine aw_istore_n d_MD_count_103 (Nat.le_of_ble_eq_true rfl) ?_
        refine aw_iinc (v := 1) d_MD_count_104 rfl (by decide) ?_
        refine aw_goto (tgt := 20) d_MD_count_107 (by decide) ?_
        refine aw_drop 4 ?_
        refine aw_drop 5 ?_
        exact h
set_option maxRecDepth 100000 in
theorem vc_MD_ordered_0 {G : Gp} {d : Nat} {Q : Int32 → Mem → Prop} {x1 : Int32} {μ : Mem}
    (h : Ct G d M_MD_in [.inl x1, .inl (0 : Int32), .inl ((μ 42 8) - (1 : Int32))] μ (fun r2 u1 => (¬ r2 = 0 → Ct G d M_MD_work [.inr 42] u1 (fun _ u3 => vp_in x1 60 ∧ Q (u3 54 (ix x1)) u3)) ∧ (r2 = 0 → Q (-2 : Int32) u1))) :
    AW G (d + 1) M_MD_ordered Q 0 [some (.inr 42), some (.inl x1)] [] μ := by
  refine aw_iload_n d_MD_ordered_0 rfl ?_
  refine aw_iconst (v := 0) d_MD_ordered_1 (by decide) ?_
  refine aw_aload_n d_MD_ordered_2 rfl ?_
  refine aw_getI d_MD_ordered_3 lf_MD_97 rfl rfl ?_
  refine aw_iconst (v := 1) d_MD_ordered_6 (by decide) ?_
  refine aw_isub d_MD_ordered_7 ?_
  refine aw_callS (as := [.inl x1, .inl (0 : Int32), .inl ((μ 42 8) - (1 : Int32))]) d_MD_ordered_8 lm_MD_93 rfl (Nat.le_of_ble_eq_true rfl) rfl h (fun r2 u1 h => ?_)
  refine aw_if_ne (tgt := 17) d_MD_ordered_11 (by decide) (fun q => ?_) (fun q => ?_)
  · replace h := h.1 q
    refine aw_aload_n d_MD_ordered_17 rfl ?_
    refine aw_callVv (as := []) d_MD_ordered_18 lm_MD_181 rfl rfl (by decide) rfl (Nat.le_of_ble_eq_true rfl) rfl h (fun u3 h => ?_)
    refine aw_aload_n d_MD_ordered_21 rfl ?_
    refine aw_getR (t := 54) d_MD_ordered_22 lf_MD_43 rfl rfl ?_
    refine aw_iload_n d_MD_ordered_25 rfl ?_
    refine aw_iald d_MD_ordered_26 rfl h.1 ?_
    replace h := h.2
    exact aw_iret d_MD_ordered_27 rfl h
  · replace h := h.2 q
    refine aw_bipush (v := (-2)) d_MD_ordered_14 (by decide) ?_
    exact aw_iret d_MD_ordered_16 rfl h
theorem en_MD_ordered {G : Gp} {d : Nat} {Q : Int32 → Mem → Prop} {x1 : Int32} {μ : Mem}
    (h : AW G (d + 1) M_MD_ordered Q 0 [some (.inr 42), some (.inl x1)] [] μ) :
    Ct G (d + 1) M_MD_ordered [.inr 42, .inl x1] μ Q := ct_of (by decide) (Nat.le_of_ble_eq_true rfl) h
set_option maxRecDepth 100000 in
theorem vc_MD_sign_0 {G : Gp} {d : Nat} {Q : Int32 → Mem → Prop} {x1 x2 : Int32} {μ : Mem}
    (h : Ct G d M_MD_in [.inl x1, .inl (0 : Int32), .inl ((μ 42 8) - (1 : Int32))] μ (fun r2 u1 => (¬ r2 = 0 → Ct G d M_MD_in [.inl x2, .inl (0 : Int32), .inl (5 : Int32)] u1 (fun r4 u3 => (¬ r4 = 0 → Ct G d M_MD_work [.inr 42] u3 (fun _ u5 => ((x2.toInt < 0 ∨ 4 < x2.toInt) → Ct G d M_MD_placeOf [.inr 42, .inl x1] u5 (fun r7 u6 => Q (r7 + (100 : Int32)) u6)) ∧ (x2 = nI 0 → vp_in x1 60 ∧ Q (u5 56 (ix x1)) u5) ∧ (x2 = nI 1 → vp_in x1 60 ∧ ((u5 55 (ix x1)) < 0 → Q (0 : Int32) u5) ∧ (¬ (u5 55 (ix x1)) < 0 → Q (1 : Int32) u5)) ∧ (x2 = nI 2 → vp_in x1 60 ∧ ((u5 57 (ix x1)) = 0 → Q (0 : Int32) u5) ∧ (¬ (u5 57 (ix x1)) = 0 → Q (1 : Int32) u5)) ∧ (x2 = nI 3 → vp_in x1 60 ∧ (¬ (u5 56 (ix x1)) = 0 → Ct G d M_MD_width [.inr 42, .inl x1] u5 (fun r9 u8 => Q r9 u8)) ∧ ((u5 56 (ix x1)) = 0 → Q (0 : Int32) u5)) ∧ (x2 = nI 4 → Ct G d M_MD_columnOf [.inr 42, .inl x1] u5 (fun r11 u10 => Q r11 u10)))) ∧ (r4 = 0 → Q (-3 : Int32) u3))) ∧ (r2 = 0 → Q (-2 : Int32) u1))) :
    AW G (d + 1) M_MD_sign Q 0 [some (.inr 42), some (.inl x1), some (.inl x2)] [] μ := by
  refine aw_iload_n d_MD_sign_0 rfl ?_
  refine aw_iconst (v := 0) d_MD_sign_1 (by decide) ?_
  refine aw_aload_n d_MD_sign_2 rfl ?_
  refine aw_getI d_MD_sign_3 lf_MD_97 rfl rfl ?_
  refine aw_iconst (v := 1) d_MD_sign_6 (by decide) ?_
  refine aw_isub d_MD_sign_7 ?_
  refine aw_callS (as := [.inl x1, .inl (0 : Int32), .inl ((μ 42 8) - (1 : Int32))]) d_MD_sign_8 lm_MD_93 rfl (Nat.le_of_ble_eq_true rfl) rfl h (fun r2 u1 h => ?_)
  refine aw_if_ne (tgt := 17) d_MD_sign_11 (by decide) (fun q => ?_) (fun q => ?_)
  · replace h := h.1 q
    refine aw_iload_n d_MD_sign_17 rfl ?_
    refine aw_iconst (v := 0) d_MD_sign_18 (by decide) ?_
    refine aw_iconst (v := 5) d_MD_sign_19 (by decide) ?_
    refine aw_callS (as := [.inl x2, .inl (0 : Int32), .inl (5 : Int32)]) d_MD_sign_20 lm_MD_93 rfl (Nat.le_of_ble_eq_true rfl) rfl h (fun r4 u3 h => ?_)
    refine aw_if_ne (tgt := 29) d_MD_sign_23 (by decide) (fun q => ?_) (fun q => ?_)
    · replace h := h.1 q
      refine aw_aload_n d_MD_sign_29 rfl ?_
      refine aw_callVv (as := []) d_MD_sign_30 lm_MD_181 rfl rfl (by decide) rfl (Nat.le_of_ble_eq_true rfl) rfl h (fun u5 h => ?_)
      refine aw_iload_n d_MD_sign_33 rfl ?_
      refine aw_table (dt := 130) (tg := [68, 75, 90, 105, 124]) d_MD_sign_34 (by decide) rfl (by decide) (by decide) (fun q => ?_) (fun j hj q => ?_)
      · replace h := h.1 q
        refine aw_aload_n d_MD_sign_130 rfl ?_
        refine aw_iload_n d_MD_sign_131 rfl ?_
        refine aw_callV (as := [.inl x1]) d_MD_sign_132 lm_MD_153 rfl rfl (by decide) rfl (Nat.le_of_ble_eq_true rfl) rfl h (fun r7 u6 h => ?_)
        refine aw_bipush (v := 100) d_MD_sign_135 (by decide) ?_
        refine aw_iadd d_MD_sign_137 ?_
        exact aw_iret d_MD_sign_138 rfl h
      · replace h := h.2
        match j, hj, q with
        | 0, _, q =>
          show AW G (d + 1) M_MD_sign Q 68 _ _ _
          replace h := h.1 q
          refine aw_aload_n d_MD_sign_68 rfl ?_
          refine aw_getR (t := 56) d_MD_sign_69 lf_MD_49 rfl rfl ?_
          refine aw_iload_n d_MD_sign_72 rfl ?_
          refine aw_iald d_MD_sign_73 rfl h.1 ?_
          replace h := h.2
          exact aw_iret d_MD_sign_74 rfl h
        | 1, _, q =>
          show AW G (d + 1) M_MD_sign Q 75 _ _ _
          replace h := h.2.1 q
          refine aw_aload_n d_MD_sign_75 rfl ?_
          refine aw_getR (t := 55) d_MD_sign_76 lf_MD_46 rfl rfl ?_
          refine aw_iload_n d_MD_sign_79 rfl ?_
          refine aw_iald d_MD_sign_80 rfl h.1 ?_
          replace h := h.2
          refine aw_if_lt (tgt := 88) d_MD_sign_81 (by decide) (fun q => ?_) (fun q => ?_)
          · replace h := h.1 q
            refine aw_iconst (v := 0) d_MD_sign_88 (by decide) ?_
            exact aw_iret d_MD_sign_89 rfl h
          · replace h := h.2 q
            refine aw_iconst (v := 1) d_MD_sign_84 (by decide) ?_
            refine aw_goto (tgt := 89) d_MD_sign_85 (by decide) ?_
            exact aw_iret d_MD_sign_89 rfl h
        | 2, _, q =>
          show AW G (d + 1) M_MD_sign Q 90 _ _ _
          replace h := h.2.2.1 q
          refine aw_aload_n d_MD_sign_90 rfl ?_
          refine aw_getR (t := 57) d_MD_sign_91 lf_MD_52 rfl rfl ?_
          refine aw_iload_n d_MD_sign_94 rfl ?_
          refine aw_zald d_MD_sign_95 rfl h.1 ?_
          replace h := h.2
          refine aw_if_eq (tgt := 103) d_MD_sign_96 (by decide) (fun q => ?_) (fun q => ?_)
          · replace h := h.1 q
            refine aw_iconst (v := 0) d_MD_sign_103 (by decide) ?_
            exact aw_iret d_MD_sign_104 rfl h
          · replace h := h.2 q
            refine aw_iconst (v := 1) d_MD_sign_99 (by decide) ?_
            refine aw_goto (tgt := 104) d_MD_sign_100 (by decide) ?_
            exact aw_iret d_MD_sign_104 rfl h
        | 3, _, q =>
          show AW G (d + 1) M_MD_sign Q 105 _ _ _
          replace h := h.2.2.2.1 q
          refine aw_aload_n d_MD_sign_105 rfl ?_
          refine aw_getR (t := 56) d_MD_sign_106 lf_MD_49 rfl rfl ?_
          refine aw_iload_n d_MD_sign_109 rfl ?_
          refine aw_iald d_MD_sign_110 rfl h.1 ?_
          replace h := h.2
          refine aw_if_ne (tgt := 118) d_MD_sign_111 (by decide) (fun q => ?_) (fun q => ?_)
          · replace h := h.1 q
            refine aw_aload_n d_MD_sign_118 rfl ?_
            refine aw_iload_n d_MD_sign_119 rfl ?_
            refine aw_callV (as := [.inl x1]) d_MD_sign_120 lm_MD_162 rfl rfl (by decide) rfl (Nat.le_of_ble_eq_true rfl) rfl h (fun r9 u8 h => ?_)
            exact aw_iret d_MD_sign_123 rfl h
          · replace h := h.2 q
            refine aw_iconst (v := 0) d_MD_sign_114 (by decide) ?_
            refine aw_goto (tgt := 123) d_MD_sign_115 (by decide) ?_
            exact aw_iret d_MD_sign_123 rfl h
        | 4, _, q =>
          show AW G (d + 1) M_MD_sign Q 124 _ _ _
          replace h := h.2.2.2.2 q
          refine aw_aload_n d_MD_sign_124 rfl ?_
          refine aw_iload_n d_MD_sign_125 rfl ?_
          refine aw_callV (as := [.inl x1]) d_MD_sign_126 lm_MD_184 rfl rfl (by decide) rfl (Nat.le_of_ble_eq_true rfl) rfl h (fun r11 u10 h => ?_)
          exact aw_iret d_MD_sign_129 rfl h
        | n + 5, hj, _ => exact absurd hj (by simp)
    · replace h := h.2 q
      refine aw_bipush (v := (-3)) d_MD_sign_26 (by decide) ?_
      exact aw_iret d_MD_sign_28 rfl h
  · replace h := h.2 q
    refine aw_bipush (v := (-2)) d_MD_sign_14 (by decide) ?_
    exact aw_iret d_MD_sign_16 rfl h
theorem en_MD_sign {G : Gp} {d : Nat} {Q : Int32 → Mem → Prop} {x1 x2 : Int32} {μ : Mem}
    (h : AW G (d + 1) M_MD_sign Q 0 [some (.inr 42), some (.inl x1), some (.inl x2)] [] μ) :
    Ct G (d + 1) M_MD_sign [.inr 42, .inl x1, .inl x2] μ Q := ct_of (by decide) (Nat.le_of_ble_eq_true rfl) h
set_option maxRecDepth 100000 in
theorem vc_MD_columnOf_0 {G : Gp} {d : Nat} {Q : Int32 → Mem → Prop} {x1 : Int32} {μ : Mem}
    (h : vp_in x1 60 ∧ (¬ (μ 56 (ix x1)) = 0 → vp_in x1 60 ∧ vp_in x1 60 ∧ Ct G d M_MD_place [.inr 42, .inl (μ 45 (ix x1)), .inl (μ 46 (ix x1))] μ (fun _ u1 => AW G (d + 1) M_MD_columnOf Q 29 [some (.inr 42), some (.inl x1), some (.inl (0 : Int32))] [] u1)) ∧ ((μ 56 (ix x1)) = 0 → Q (-1 : Int32) μ)) :
    AW G (d + 1) M_MD_columnOf Q 0 [some (.inr 42), some (.inl x1), none] [] μ := by
  refine aw_aload_n d_MD_columnOf_0 rfl ?_
  refine aw_getR (t := 56) d_MD_columnOf_1 lf_MD_49 rfl rfl ?_
  refine aw_iload_n d_MD_columnOf_4 rfl ?_
  refine aw_iald d_MD_columnOf_5 rfl h.1 ?_
  replace h := h.2
  refine aw_if_ne (tgt := 11) d_MD_columnOf_6 (by decide) (fun q => ?_) (fun q => ?_)
  · replace h := h.1 q
    refine aw_aload_n d_MD_columnOf_11 rfl ?_
    refine aw_aload_n d_MD_columnOf_12 rfl ?_
    refine aw_getR (t := 45) d_MD_columnOf_13 lf_MD_16 rfl rfl ?_
    refine aw_iload_n d_MD_columnOf_16 rfl ?_
    refine aw_iald d_MD_columnOf_17 rfl h.1 ?_
    replace h := h.2
    refine aw_aload_n d_MD_columnOf_18 rfl ?_
    refine aw_getR (t := 46) d_MD_columnOf_19 lf_MD_19 rfl rfl ?_
    refine aw_iload_n d_MD_columnOf_22 rfl ?_
    refine aw_iald d_MD_columnOf_23 rfl h.1 ?_
    replace h := h.2
    refine aw_callVv (as := [.inl (μ 45 (ix x1)), .inl (μ 46 (ix x1))]) d_MD_columnOf_24 lm_MD_187 rfl rfl (by decide) rfl (Nat.le_of_ble_eq_true rfl) rfl h (fun u1 h => ?_)
    refine aw_iconst (v := 0) d_MD_columnOf_27 (by decide) ?_
    refine aw_istore_n d_MD_columnOf_28 (Nat.le_of_ble_eq_true rfl) ?_
    exact h
  · replace h := h.2 q
    refine aw_iconst (v := (-1)) d_MD_columnOf_9 (by decide) ?_
    exact aw_iret d_MD_columnOf_10 rfl h
theorem en_MD_columnOf {G : Gp} {d : Nat} {Q : Int32 → Mem → Prop} {x1 : Int32} {μ : Mem}
    (h : AW G (d + 1) M_MD_columnOf Q 0 [some (.inr 42), some (.inl x1), none] [] μ) :
    Ct G (d + 1) M_MD_columnOf [.inr 42, .inl x1] μ Q := ct_of (by decide) (Nat.le_of_ble_eq_true rfl) h
set_option maxRecDepth 100000 in
theorem vc_MD_columnOf_29 {G : Gp} {d : Nat} {Q : Int32 → Mem → Prop} {x1 x2 : Int32} {μ : Mem}
    (h : vp_in x2 60 ∧ ((μ 64 (ix x2)) = x1 → vp_in x2 60 ∧ Q (μ 66 (ix x2)) μ) ∧ (¬ (μ 64 (ix x2)) = x1 → AW G (d + 1) M_MD_columnOf Q 29 [some (.inr 42), some (.inl x1), some (.inl (x2 + (1 : Int32)))] [] μ)) :
    AW G (d + 1) M_MD_columnOf Q 29 [some (.inr 42), some (.inl x1), some (.inl x2)] [] μ := by
  refine aw_aload_n d_MD_columnOf_29 rfl ?_
  refine aw_getR (t := 64) d_MD_columnOf_30 lf_MD_78 rfl rfl ?_
  refine aw_iload_n d_MD_columnOf_33 rfl ?_
  refine aw_iald d_MD_columnOf_34 rfl h.1 ?_
  replace h := h.2
  refine aw_iload_n d_MD_columnOf_35 rfl ?_
  refine aw_icmp_eq (tgt := 45) d_MD_columnOf_36 (by decide) (fun q => ?_) (fun q => ?_)
  · replace h := h.1 q
    refine aw_aload_n d_MD_columnOf_45 rfl ?_
    refine aw_getR (t := 66) d_MD_columnOf_46 lf_MD_84 rfl rfl ?_
    refine aw_iload_n d_MD_columnOf_49 rfl ?_
    refine aw_iald d_MD_columnOf_50 rfl h.1 ?_
    replace h := h.2
    exact aw_iret d_MD_columnOf_51 rfl h
  · replace h := h.2 q
    refine aw_iinc (v := 1) d_MD_columnOf_39 rfl (by decide) ?_
    refine aw_goto (tgt := 29) d_MD_columnOf_42 (by decide) ?_
    exact h
set_option maxRecDepth 100000 in
theorem vc_MD_extent_0 {G : Gp} {d : Nat} {Q : Int32 → Mem → Prop} {x1 x2 : Int32} {μ : Mem}
    (h : AW G (d + 1) M_MD_extent Q 5 [some (.inr 42), some (.inl x1), some (.inl x2), some (.inl (0 : Int32)), some (.inl (0 : Int32))] [] μ) :
    AW G (d + 1) M_MD_extent Q 0 [some (.inr 42), some (.inl x1), some (.inl x2), none, none] [] μ := by
  refine aw_iconst (v := 0) d_MD_extent_0 (by decide) ?_
  refine aw_istore_n d_MD_extent_1 (Nat.le_of_ble_eq_true rfl) ?_
  refine aw_iconst (v := 0) d_MD_extent_2 (by decide) ?_
  refine aw_istore d_MD_extent_3 (Nat.le_of_ble_eq_true rfl) ?_
  exact h
theorem en_MD_extent {G : Gp} {d : Nat} {Q : Int32 → Mem → Prop} {x1 x2 : Int32} {μ : Mem}
    (h : AW G (d + 1) M_MD_extent Q 0 [some (.inr 42), some (.inl x1), some (.inl x2), none, none] [] μ) :
    Ct G (d + 1) M_MD_extent [.inr 42, .inl x1, .inl x2] μ Q := ct_of (by decide) (Nat.le_of_ble_eq_true rfl) h
set_option maxRecDepth 100000 in
theorem vc_MD_extent_5 {G : Gp} {d : Nat} {Q : Int32 → Mem → Prop} {x1 x2 x3 x4 : Int32} {μ : Mem}
    (h : ((μ 42 8) ≤ x4 → (¬ x3 = 0 → Ct G d M_MD_work [.inr 42] μ (fun _ u1 => Ct G d M_MD_place [.inr 42, .inl x1, .inl x2] u1 (fun _ u2 => Ct G d M_MD_widths [.inr 42, .inr 66, .inl (u2 42 25)] u2 (fun r4 u3 => Q r4 u3)))) ∧ (x3 = 0 → Q (-2 : Int32) μ)) ∧ (¬ (μ 42 8) ≤ x4 → (¬ x3 = 0 → AW G (d + 1) M_MD_extent Q 5 [some (.inr 42), some (.inl x1), some (.inl x2), some (.inl (1 : Int32)), some (.inl (x4 + (1 : Int32)))] [] μ) ∧ (x3 = 0 → vp_in x4 60 ∧ (¬ (μ 45 (ix x4)) = x1 → AW G (d + 1) M_MD_extent Q 5 [some (.inr 42), some (.inl x1), some (.inl x2), some (.inl (0 : Int32)), some (.inl (x4 + (1 : Int32)))] [] μ) ∧ ((μ 45 (ix x4)) = x1 → vp_in x4 60 ∧ (¬ (μ 46 (ix x4)) = x2 → AW G (d + 1) M_MD_extent Q 5 [some (.inr 42), some (.inl x1), some (.inl x2), some (.inl (0 : Int32)), some (.inl (x4 + (1 : Int32)))] [] μ) ∧ ((μ 46 (ix x4)) = x2 → AW G (d + 1) M_MD_extent Q 5 [some (.inr 42), some (.inl x1), some (.inl x2), some (.inl (1 : Int32)), some (.inl (x4 + (1 : Int32)))] [] μ))))) :
    AW G (d + 1) M_MD_extent Q 5 [some (.inr 42), some (.inl x1), some (.inl x2), some (.inl x3), some (.inl x4)] [] μ := by
  refine aw_iload d_MD_extent_5 rfl ?_
  refine aw_aload_n d_MD_extent_7 rfl ?_
  refine aw_getI d_MD_extent_8 lf_MD_97 rfl rfl ?_
  refine aw_icmp_ge (tgt := 52) d_MD_extent_11 (by decide) (fun q => ?_) (fun q => ?_)
  · replace h := h.1 q
    refine aw_iload_n d_MD_extent_52 rfl ?_
    refine aw_if_ne (tgt := 59) d_MD_extent_53 (by decide) (fun q => ?_) (fun q => ?_)
    · replace h := h.1 q
      refine aw_aload_n d_MD_extent_59 rfl ?_
      refine aw_callVv (as := []) d_MD_extent_60 lm_MD_181 rfl rfl (by decide) rfl (Nat.le_of_ble_eq_true rfl) rfl h (fun u1 h => ?_)
      refine aw_aload_n d_MD_extent_63 rfl ?_
      refine aw_iload_n d_MD_extent_64 rfl ?_
      refine aw_iload_n d_MD_extent_65 rfl ?_
      refine aw_callVv (as := [.inl x1, .inl x2]) d_MD_extent_66 lm_MD_187 rfl rfl (by decide) rfl (Nat.le_of_ble_eq_true rfl) rfl h (fun u2 h => ?_)
      refine aw_aload_n d_MD_extent_69 rfl ?_
      refine aw_aload_n d_MD_extent_70 rfl ?_
      refine aw_getR (t := 66) d_MD_extent_71 lf_MD_84 rfl rfl ?_
      refine aw_aload_n d_MD_extent_74 rfl ?_
      refine aw_getI d_MD_extent_75 lf_MD_159 rfl rfl ?_
      refine aw_callV (as := [.inr 66, .inl (u2 42 25)]) d_MD_extent_78 lm_MD_174 rfl rfl (by decide) rfl (Nat.le_of_ble_eq_true rfl) rfl h (fun r4 u3 h => ?_)
      exact aw_iret d_MD_extent_81 rfl h
    · replace h := h.2 q
      refine aw_bipush (v := (-2)) d_MD_extent_56 (by decide) ?_
      exact aw_iret d_MD_extent_58 rfl h
  · replace h := h.2 q
    refine aw_iload_n d_MD_extent_14 rfl ?_
    refine aw_if_ne (tgt := 40) d_MD_extent_15 (by decide) (fun q => ?_) (fun q => ?_)
    · replace h := h.1 q
      refine aw_iconst (v := 1) d_MD_extent_40 (by decide) ?_
      refine aw_goto (tgt := 45) d_MD_extent_41 (by decide) ?_
      refine aw_istore_n d_MD_extent_45 (Nat.le_of_ble_eq_true rfl) ?_
      refine aw_iinc (v := 1) d_MD_extent_46 rfl (by decide) ?_
      refine aw_goto (tgt := 5) d_MD_extent_49 (by decide) ?_
      exact h
    · replace h := h.2 q
      refine aw_aload_n d_MD_extent_18 rfl ?_
      refine aw_getR (t := 45) d_MD_extent_19 lf_MD_16 rfl rfl ?_
      refine aw_iload d_MD_extent_22 rfl ?_
      refine aw_iald d_MD_extent_24 rfl h.1 ?_
      replace h := h.2
      refine aw_iload_n d_MD_extent_25 rfl ?_
      refine aw_icmp_ne (tgt := 44) d_MD_extent_26 (by decide) (fun q => ?_) (fun q => ?_)
      · replace h := h.1 q
        refine aw_iconst (v := 0) d_MD_extent_44 (by decide) ?_
        refine aw_istore_n d_MD_extent_45 (Nat.le_of_ble_eq_true rfl) ?_
        refine aw_iinc (v := 1) d_MD_extent_46 rfl (by decide) ?_
        refine aw_goto (tgt := 5) d_MD_extent_49 (by decide) ?_
        exact h
      · replace h := h.2 q
        refine aw_aload_n d_MD_extent_29 rfl ?_
        refine aw_getR (t := 46) d_MD_extent_30 lf_MD_19 rfl rfl ?_
        refine aw_iload d_MD_extent_33 rfl ?_
        refine aw_iald d_MD_extent_35 rfl h.1 ?_
        replace h := h.2
        refine aw_iload_n d_MD_extent_36 rfl ?_
        refine aw_icmp_ne (tgt := 44) d_MD_extent_37 (by decide) (fun q => ?_) (fun q => ?_)
        · replace h := h.1 q
          refine aw_iconst (v := 0) d_MD_extent_44 (by decide) ?_
          refine aw_istore_n d_MD_extent_45 (Nat.le_of_ble_eq_true rfl) ?_
          refine aw_iinc (v := 1) d_MD_extent_46 rfl (by decide) ?_
          refine aw_goto (tgt := 5) d_MD_extent_49 (by decide) ?_
          exact h
        · replace h := h.2 q
          refine aw_iconst (v := 1) d_MD_extent_40 (by decide) ?_
          refine aw_goto (tgt := 45) d_MD_extent_41 (by decide) ?_
          refine aw_istore_n d_MD_extent_45 (Nat.le_of_ble_eq_true rfl) ?_
          refine aw_iinc (v := 1) d_MD_extent_46 rfl (by decide) ?_
          refine aw_goto (tgt := 5) d_MD_extent_49 (by decide) ?_
          exact h
set_option maxRecDepth 100000 in
theorem vc_MD_dot_0 {G : Gp} {d : Nat} {Q : Int32 → Mem → Prop} {x1 : Int32} {μ : Mem}
    (h : Ct G d M_MD_in [.inl x1, .inl (0 : Int32), .inl ((μ 42 8) - (1 : Int32))] μ (fun r2 u1 => (¬ r2 = 0 → vp_in x1 60 ∧ (¬ (u1 50 (ix x1)) = 0 → AW G (d + 1) M_MD_dot Q 32 [some (.inr 42), some (.inl x1), some (.inl (0 : Int32)), some (.inl (0 : Int32)), none, none, none, none, none] [] u1) ∧ ((u1 50 (ix x1)) = 0 → Q (-1 : Int32) u1)) ∧ (r2 = 0 → Q (-2 : Int32) u1))) :
    AW G (d + 1) M_MD_dot Q 0 [some (.inr 42), some (.inl x1), none, none, none, none, none, none, none] [] μ := by
  refine aw_iload_n d_MD_dot_0 rfl ?_
  refine aw_iconst (v := 0) d_MD_dot_1 (by decide) ?_
  refine aw_aload_n d_MD_dot_2 rfl ?_
  refine aw_getI d_MD_dot_3 lf_MD_97 rfl rfl ?_
  refine aw_iconst (v := 1) d_MD_dot_6 (by decide) ?_
  refine aw_isub d_MD_dot_7 ?_
  refine aw_callS (as := [.inl x1, .inl (0 : Int32), .inl ((μ 42 8) - (1 : Int32))]) d_MD_dot_8 lm_MD_93 rfl (Nat.le_of_ble_eq_true rfl) rfl h (fun r2 u1 h => ?_)
  refine aw_if_ne (tgt := 17) d_MD_dot_11 (by decide) (fun q => ?_) (fun q => ?_)
  · replace h := h.1 q
    refine aw_aload_n d_MD_dot_17 rfl ?_
    refine aw_getR (t := 50) d_MD_dot_18 lf_MD_31 rfl rfl ?_
    refine aw_iload_n d_MD_dot_21 rfl ?_
    refine aw_iald d_MD_dot_22 rfl h.1 ?_
    replace h := h.2
    refine aw_if_ne (tgt := 28) d_MD_dot_23 (by decide) (fun q => ?_) (fun q => ?_)
    · replace h := h.1 q
      refine aw_iconst (v := 0) d_MD_dot_28 (by decide) ?_
      refine aw_istore_n d_MD_dot_29 (Nat.le_of_ble_eq_true rfl) ?_
      refine aw_iconst (v := 0) d_MD_dot_30 (by decide) ?_
      refine aw_istore_n d_MD_dot_31 (Nat.le_of_ble_eq_true rfl) ?_
      exact h
    · replace h := h.2 q
      refine aw_iconst (v := (-1)) d_MD_dot_26 (by decide) ?_
      exact aw_iret d_MD_dot_27 rfl h
  · replace h := h.2 q
    refine aw_bipush (v := (-2)) d_MD_dot_14 (by decide) ?_
    exact aw_iret d_MD_dot_16 rfl h
theorem en_MD_dot {G : Gp} {d : Nat} {Q : Int32 → Mem → Prop} {x1 : Int32} {μ : Mem}
    (h : AW G (d + 1) M_MD_dot Q 0 [some (.inr 42), some (.inl x1), none, none, none, none, none, none, none] [] μ) :
    Ct G (d + 1) M_MD_dot [.inr 42, .inl x1] μ Q := ct_of (by decide) (Nat.le_of_ble_eq_true rfl) h
set_option maxRecDepth 100000 in
theorem vc_MD_dot_32 {G : Gp} {d : Nat} {Q : Int32 → Mem → Prop} {x1 x2 x3 : Int32} {μ : Mem}
    (h : ((μ 42 8) ≤ x3 → ∀ y1 : Int32, y1 = (x2 - (1 : Int32)) → AW G (d + 1) M_MD_dot Q 201 [some (.inr 42), some (.inl x1), some (.inl x2), some (.inl y1), none, none, none, none, none] [] μ) ∧ (¬ (μ 42 8) ≤ x3 → vp_in x3 60 ∧ ((μ 50 (ix x3)) ≤ 0 → AW G (d + 1) M_MD_dot Q 75 [some (.inr 42), some (.inl x1), some (.inl x2), some (.inl x3), some (.inl (0 : Int32)), some (.inl (0 : Int32)), some (.inl (0 : Int32)), none, none] [] μ) ∧ (¬ (μ 50 (ix x3)) ≤ 0 → Ct G d M_MD_whenOf [.inr 42, .inl x3] μ (fun r3 u2 => Ct G d M_MD_whenOf [.inr 42, .inl x1] u2 (fun r5 u4 => (¬ r3 = r5 → AW G (d + 1) M_MD_dot Q 75 [some (.inr 42), some (.inl x1), some (.inl x2), some (.inl x3), some (.inl (0 : Int32)), some (.inl (0 : Int32)), some (.inl (0 : Int32)), none, none] [] u4) ∧ (r3 = r5 → AW G (d + 1) M_MD_dot Q 75 [some (.inr 42), some (.inl x1), some (.inl x2), some (.inl x3), some (.inl (1 : Int32)), some (.inl (0 : Int32)), some (.inl (0 : Int32)), none, none] [] u4)))))) :
    AW G (d + 1) M_MD_dot Q 32 [some (.inr 42), some (.inl x1), some (.inl x2), some (.inl x3), none, none, none, none, none] [] μ := by
  refine aw_iload_n d_MD_dot_32 rfl ?_
  refine aw_aload_n d_MD_dot_33 rfl ?_
  refine aw_getI d_MD_dot_34 lf_MD_97 rfl rfl ?_
  refine aw_icmp_ge (tgt := 197) d_MD_dot_37 (by decide) (fun q => ?_) (fun q => ?_)
  · replace h := h.1 q
    refine aw_iload_n d_MD_dot_197 rfl ?_
    refine aw_iconst (v := 1) d_MD_dot_198 (by decide) ?_
    refine aw_isub d_MD_dot_199 ?_
    refine aw_top (fun y1 e => ?_)
    replace h := h _ e
    refine aw_istore_n d_MD_dot_200 (Nat.le_of_ble_eq_true rfl) ?_
    exact h
  · replace h := h.2 q
    refine aw_aload_n d_MD_dot_40 rfl ?_
    refine aw_getR (t := 50) d_MD_dot_41 lf_MD_31 rfl rfl ?_
    refine aw_iload_n d_MD_dot_44 rfl ?_
    refine aw_iald d_MD_dot_45 rfl h.1 ?_
    replace h := h.2
    refine aw_if_le (tgt := 66) d_MD_dot_46 (by decide) (fun q => ?_) (fun q => ?_)
    · replace h := h.1 q
      refine aw_iconst (v := 0) d_MD_dot_66 (by decide) ?_
      refine aw_istore d_MD_dot_67 (Nat.le_of_ble_eq_true rfl) ?_
      refine aw_iconst (v := 0) d_MD_dot_69 (by decide) ?_
      refine aw_istore d_MD_dot_70 (Nat.le_of_ble_eq_true rfl) ?_
      refine aw_iconst (v := 0) d_MD_dot_72 (by decide) ?_
      refine aw_istore d_MD_dot_73 (Nat.le_of_ble_eq_true rfl) ?_
      exact h
    · replace h := h.2 q
      refine aw_aload_n d_MD_dot_49 rfl ?_
      refine aw_iload_n d_MD_dot_50 rfl ?_
      refine aw_callV (as := [.inl x3]) d_MD_dot_51 lm_MD_108 rfl rfl (by decide) rfl (Nat.le_of_ble_eq_true rfl) rfl h (fun r3 u2 h => ?_)
      refine aw_aload_n d_MD_dot_54 rfl ?_
      refine aw_iload_n d_MD_dot_55 rfl ?_
      refine aw_callV (as := [.inl x1]) d_MD_dot_56 lm_MD_108 rfl rfl (by decide) rfl (Nat.le_of_ble_eq_true rfl) rfl h (fun r5 u4 h => ?_)
      refine aw_icmp_ne (tgt := 66) d_MD_dot_59 (by decide) (fun q => ?_) (fun q => ?_)
      · replace h := h.1 q
        refine aw_iconst (v := 0) d_MD_dot_66 (by decide) ?_
        refine aw_istore d_MD_dot_67 (Nat.le_of_ble_eq_true rfl) ?_
        refine aw_iconst (v := 0) d_MD_dot_69 (by decide) ?_
        refine aw_istore d_MD_dot_70 (Nat.le_of_ble_eq_true rfl) ?_
        refine aw_iconst (v := 0) d_MD_dot_72 (by decide) ?_
        refine aw_istore d_MD_dot_73 (Nat.le_of_ble_eq_true rfl) ?_
        exact h
      · replace h := h.2 q
        refine aw_iconst (v := 1) d_MD_dot_62 (by decide) ?_
        refine aw_goto (tgt := 67) d_MD_dot_63 (by decide) ?_
        refine aw_istore d_MD_dot_67 (Nat.le_of_ble_eq_true rfl) ?_
        refine aw_iconst (v := 0) d_MD_dot_69 (by decide) ?_
        refine aw_istore d_MD_dot_70 (Nat.le_of_ble_eq_true rfl) ?_
        refine aw_iconst (v := 0) d_MD_dot_72 (by decide) ?_
        refine aw_istore d_MD_dot_73 (Nat.le_of_ble_eq_true rfl) ?_
        exact h
set_option maxRecDepth 100000 in
theorem vc_MD_dot_75 {G : Gp} {d : Nat} {Q : Int32 → Mem → Prop} {x1 x2 x3 x4 x5 x6 : Int32} {μ : Mem}
    (h : (x2 ≤ x6 → (x4 = 0 → AW G (d + 1) M_MD_dot Q 32 [some (.inr 42), some (.inl x1), some (.inl x2), some (.inl (x3 + (1 : Int32))), none, none, none, none, none] [] μ) ∧ (¬ x4 = 0 → AW G (d + 1) M_MD_dot Q 147 [some (.inr 42), some (.inl x1), some (.inl x2), some (.inl x3), none, some (.inl x5), some (.inl x2), none, none] [] μ)) ∧ (¬ x2 ≤ x6 → (x4 = 0 → (x4 = 0 → AW G (d + 1) M_MD_dot Q 32 [some (.inr 42), some (.inl x1), some (.inl x2), some (.inl (x3 + (1 : Int32))), none, none, none, none, none] [] μ) ∧ (¬ x4 = 0 → AW G (d + 1) M_MD_dot Q 147 [some (.inr 42), some (.inl x1), some (.inl x2), some (.inl x3), none, some (.inl x5), some (.inl x2), none, none] [] μ)) ∧ (¬ x4 = 0 → vp_in x6 60 ∧ Ct G d M_MD_placeOf [.inr 42, .inl x3] μ (fun r2 u1 => ((μ 67 (ix x6)) = r2 → vp_in x6 60 ∧ Ct G d M_MD_placeOf [.inr 42, .inl x3] u1 (fun r4 u3 => ((u1 67 (ix x6)) ≤ r4 → ∀ y5 : Int32, y5 = (x5 + (0 : Int32)) → AW G (d + 1) M_MD_dot Q 75 [some (.inr 42), some (.inl x1), some (.inl x2), some (.inl x3), some (.inl (0 : Int32)), some (.inl y5), some (.inl (x6 + (1 : Int32))), none, none] [] u3) ∧ (¬ (u1 67 (ix x6)) ≤ r4 → ∀ y6 : Int32, y6 = (x5 + (1 : Int32)) → AW G (d + 1) M_MD_dot Q 75 [some (.inr 42), some (.inl x1), some (.inl x2), some (.inl x3), some (.inl (0 : Int32)), some (.inl y6), some (.inl (x6 + (1 : Int32))), none, none] [] u3))) ∧ (¬ (μ 67 (ix x6)) = r2 → vp_in x6 60 ∧ Ct G d M_MD_placeOf [.inr 42, .inl x3] u1 (fun r8 u7 => ((u1 67 (ix x6)) ≤ r8 → ∀ y9 : Int32, y9 = (x5 + (0 : Int32)) → AW G (d + 1) M_MD_dot Q 75 [some (.inr 42), some (.inl x1), some (.inl x2), some (.inl x3), some (.inl (1 : Int32)), some (.inl y9), some (.inl (x6 + (1 : Int32))), none, none] [] u7) ∧ (¬ (u1 67 (ix x6)) ≤ r8 → ∀ y10 : Int32, y10 = (x5 + (1 : Int32)) → AW G (d + 1) M_MD_dot Q 75 [some (.inr 42), some (.inl x1), some (.inl x2), some (.inl x3), some (.inl (1 : Int32)), some (.inl y10), some (.inl (x6 + (1 : Int32))), none, none] [] u7))))))) :
    AW G (d + 1) M_MD_dot Q 75 [some (.inr 42), some (.inl x1), some (.inl x2), some (.inl x3), some (.inl x4), some (.inl x5), some (.inl x6), none, none] [] μ := by
  refine aw_iload d_MD_dot_75 rfl ?_
  refine aw_iload_n d_MD_dot_77 rfl ?_
  refine aw_icmp_ge (tgt := 139) d_MD_dot_78 (by decide) (fun q => ?_) (fun q => ?_)
  · replace h := h.1 q
    refine aw_iload d_MD_dot_139 rfl ?_
    refine aw_if_eq (tgt := 191) d_MD_dot_141 (by decide) (fun q => ?_) (fun q => ?_)
    · replace h := h.1 q
      refine aw_iinc (v := 1) d_MD_dot_191 rfl (by decide) ?_
      refine aw_goto (tgt := 32) d_MD_dot_194 (by decide) ?_
      refine aw_drop 4 ?_
      refine aw_drop 5 ?_
      refine aw_drop 6 ?_
      exact h
    · replace h := h.2 q
      refine aw_iload_n d_MD_dot_144 rfl ?_
      refine aw_istore d_MD_dot_145 (Nat.le_of_ble_eq_true rfl) ?_
      refine aw_drop 4 ?_
      exact h
  · replace h := h.2 q
    refine aw_iload d_MD_dot_81 rfl ?_
    refine aw_if_eq (tgt := 139) d_MD_dot_83 (by decide) (fun q => ?_) (fun q => ?_)
    · replace h := h.1 q
      refine aw_iload d_MD_dot_139 rfl ?_
      refine aw_if_eq (tgt := 191) d_MD_dot_141 (by decide) (fun q => ?_) (fun q => ?_)
      · replace h := h.1 q
        refine aw_iinc (v := 1) d_MD_dot_191 rfl (by decide) ?_
        refine aw_goto (tgt := 32) d_MD_dot_194 (by decide) ?_
        refine aw_drop 4 ?_
        refine aw_drop 5 ?_
        refine aw_drop 6 ?_
        exact h
      · replace h := h.2 q
        refine aw_iload_n d_MD_dot_144 rfl ?_
        refine aw_istore d_MD_dot_145 (Nat.le_of_ble_eq_true rfl) ?_
        refine aw_drop 4 ?_
        exact h
    · replace h := h.2 q
      refine aw_aload_n d_MD_dot_86 rfl ?_
      refine aw_getR (t := 67) d_MD_dot_87 lf_MD_87 rfl rfl ?_
      refine aw_iload d_MD_dot_90 rfl ?_
      refine aw_iald d_MD_dot_92 rfl h.1 ?_
      replace h := h.2
      refine aw_aload_n d_MD_dot_93 rfl ?_
      refine aw_iload_n d_MD_dot_94 rfl ?_
      refine aw_callV (as := [.inl x3]) d_MD_dot_95 lm_MD_153 rfl rfl (by decide) rfl (Nat.le_of_ble_eq_true rfl) rfl h (fun r2 u1 h => ?_)
      refine aw_icmp_eq (tgt := 105) d_MD_dot_98 (by decide) (fun q => ?_) (fun q => ?_)
      · replace h := h.1 q
        refine aw_iconst (v := 0) d_MD_dot_105 (by decide) ?_
        refine aw_istore d_MD_dot_106 (Nat.le_of_ble_eq_true rfl) ?_
        refine aw_iload d_MD_dot_108 rfl ?_
        refine aw_aload_n d_MD_dot_110 rfl ?_
        refine aw_getR (t := 67) d_MD_dot_111 lf_MD_87 rfl rfl ?_
        refine aw_iload d_MD_dot_114 rfl ?_
        refine aw_iald d_MD_dot_116 rfl h.1 ?_
        replace h := h.2
        refine aw_aload_n d_MD_dot_117 rfl ?_
        refine aw_iload_n d_MD_dot_118 rfl ?_
        refine aw_callV (as := [.inl x3]) d_MD_dot_119 lm_MD_153 rfl rfl (by decide) rfl (Nat.le_of_ble_eq_true rfl) rfl h (fun r4 u3 h => ?_)
        refine aw_icmp_le (tgt := 129) d_MD_dot_122 (by decide) (fun q => ?_) (fun q => ?_)
        · replace h := h.1 q
          refine aw_iconst (v := 0) d_MD_dot_129 (by decide) ?_
          refine aw_iadd d_MD_dot_130 ?_
          refine aw_top (fun y5 e => ?_)
          replace h := h _ e
          refine aw_istore d_MD_dot_131 (Nat.le_of_ble_eq_true rfl) ?_
          refine aw_iinc (v := 1) d_MD_dot_133 rfl (by decide) ?_
          refine aw_goto (tgt := 75) d_MD_dot_136 (by decide) ?_
          exact h
        · replace h := h.2 q
          refine aw_iconst (v := 1) d_MD_dot_125 (by decide) ?_
          refine aw_goto (tgt := 130) d_MD_dot_126 (by decide) ?_
          refine aw_iadd d_MD_dot_130 ?_
          refine aw_top (fun y6 e => ?_)
          replace h := h _ e
          refine aw_istore d_MD_dot_131 (Nat.le_of_ble_eq_true rfl) ?_
          refine aw_iinc (v := 1) d_MD_dot_133 rfl (by decide) ?_
          refine aw_goto (tgt := 75) d_MD_dot_136 (by decide) ?_
          exact h
      · replace h := h.2 q
        refine aw_iconst (v := 1) d_MD_dot_101 (by decide) ?_
        refine aw_goto (tgt := 106) d_MD_dot_102 (by decide) ?_
        refine aw_istore d_MD_dot_106 (Nat.le_of_ble_eq_true rfl) ?_
        refine aw_iload d_MD_dot_108 rfl ?_
        refine aw_aload_n d_MD_dot_110 rfl ?_
        refine aw_getR (t := 67) d_MD_dot_111 lf_MD_87 rfl rfl ?_
        refine aw_iload d_MD_dot_114 rfl ?_
        refine aw_iald d_MD_dot_116 rfl h.1 ?_
        replace h := h.2
        refine aw_aload_n d_MD_dot_117 rfl ?_
        refine aw_iload_n d_MD_dot_118 rfl ?_
        refine aw_callV (as := [.inl x3]) d_MD_dot_119 lm_MD_153 rfl rfl (by decide) rfl (Nat.le_of_ble_eq_true rfl) rfl h (fun r8 u7 h => ?_)
        refine aw_icmp_le (tgt := 129) d_MD_dot_122 (by decide) (fun q => ?_) (fun q => ?_)
        · replace h := h.1 q
          refine aw_iconst (v := 0) d_MD_dot_129 (by decide) ?_
          refine aw_iadd d_MD_dot_130 ?_
          refine aw_top (fun y9 e => ?_)
          replace h := h _ e
          refine aw_istore d_MD_dot_131 (Nat.le_of_ble_eq_true rfl) ?_
          refine aw_iinc (v := 1) d_MD_dot_133 rfl (by decide) ?_
          refine aw_goto (tgt := 75) d_MD_dot_136 (by decide) ?_
          exact h
        · replace h := h.2 q
          refine aw_iconst (v := 1) d_MD_dot_125 (by decide) ?_
          refine aw_goto (tgt := 130) d_MD_dot_126 (by decide) ?_
          refine aw_iadd d_MD_dot_130 ?_
          refine aw_top (fun y10 e => ?_)
          replace h := h _ e
          refine aw_istore d_MD_dot_131 (Nat.le_of_ble_eq_true rfl) ?_
          refine aw_iinc (v := 1) d_MD_dot_133 rfl (by decide) ?_
          refine aw_goto (tgt := 75) d_MD_dot_136 (by decide) ?_
          exact h
set_option maxRecDepth 100000 in
theorem vc_MD_dot_147 {G : Gp} {d : Nat} {Q : Int32 → Mem → Prop} {x1 x2 x3 x5 x6 : Int32} {μ : Mem}
    (h : (x6 ≤ x5 → Ct G d M_MD_placeOf [.inr 42, .inl x3] μ (fun r2 u1 => vp_in x5 60 ∧ ∀ u3 : Mem, u3 = up u1 67 (ix x5) r2 → AW G (d + 1) M_MD_dot Q 32 [some (.inr 42), some (.inl x1), some (.inl (x2 + (1 : Int32))), some (.inl (x3 + (1 : Int32))), none, none, none, none, none] [] u3)) ∧ (¬ x6 ≤ x5 → vp_in (x6 - (1 : Int32)) 60 ∧ vp_in x6 60 ∧ ∀ u4 : Mem, u4 = up μ 67 (ix x6) (μ 67 (ix (x6 - (1 : Int32)))) → AW G (d + 1) M_MD_dot Q 147 [some (.inr 42), some (.inl x1), some (.inl x2), some (.inl x3), none, some (.inl x5), some (.inl (x6 + (-1 : Int32))), none, none] [] u4)) :
    AW G (d + 1) M_MD_dot Q 147 [some (.inr 42), some (.inl x1), some (.inl x2), some (.inl x3), none, some (.inl x5), some (.inl x6), none, none] [] μ := by
  refine aw_iload d_MD_dot_147 rfl ?_
  refine aw_iload d_MD_dot_149 rfl ?_
  refine aw_icmp_le (tgt := 176) d_MD_dot_151 (by decide) (fun q => ?_) (fun q => ?_)
  · replace h := h.1 q
    refine aw_aload_n d_MD_dot_176 rfl ?_
    refine aw_getR (t := 67) d_MD_dot_177 lf_MD_87 rfl rfl ?_
    refine aw_iload d_MD_dot_180 rfl ?_
    refine aw_aload_n d_MD_dot_182 rfl ?_
    refine aw_iload_n d_MD_dot_183 rfl ?_
    refine aw_callV (as := [.inl x3]) d_MD_dot_184 lm_MD_153 rfl rfl (by decide) rfl (Nat.le_of_ble_eq_true rfl) rfl h (fun r2 u1 h => ?_)
    refine aw_iast d_MD_dot_187 rfl h.1 ?_
    replace h := h.2
    refine aw_mem (fun u3 e => ?_)
    replace h := h _ e
    refine aw_iinc (v := 1) d_MD_dot_188 rfl (by decide) ?_
    refine aw_iinc (v := 1) d_MD_dot_191 rfl (by decide) ?_
    refine aw_goto (tgt := 32) d_MD_dot_194 (by decide) ?_
    refine aw_drop 5 ?_
    refine aw_drop 6 ?_
    exact h
  · replace h := h.2 q
    refine aw_aload_n d_MD_dot_154 rfl ?_
    refine aw_getR (t := 67) d_MD_dot_155 lf_MD_87 rfl rfl ?_
    refine aw_iload d_MD_dot_158 rfl ?_
    refine aw_aload_n d_MD_dot_160 rfl ?_
    refine aw_getR (t := 67) d_MD_dot_161 lf_MD_87 rfl rfl ?_
    refine aw_iload d_MD_dot_164 rfl ?_
    refine aw_iconst (v := 1) d_MD_dot_166 (by decide) ?_
    refine aw_isub d_MD_dot_167 ?_
    refine aw_iald d_MD_dot_168 rfl h.1 ?_
    replace h := h.2
    refine aw_iast d_MD_dot_169 rfl h.1 ?_
    replace h := h.2
    refine aw_mem (fun u4 e => ?_)
    replace h := h _ e
    refine aw_iinc (v := (-1)) d_MD_dot_170 rfl (by decide) ?_
    refine aw_goto (tgt := 147) d_MD_dot_173 (by decide) ?_
    exact h
set_option maxRecDepth 100000 in
theorem vc_MD_dot_201 {G : Gp} {d : Nat} {Q : Int32 → Mem → Prop} {x1 x2 x3 : Int32} {μ : Mem}
    (h : (x3 < 0 → AW G (d + 1) M_MD_dot Q 383 [some (.inr 42), some (.inl x1), some (.inl x2), some (.inl (400 : Int32)), some (.inl (0 : Int32)), none, none, none, none] [] μ) ∧ (¬ x3 < 0 → AW G (d + 1) M_MD_dot Q 212 [some (.inr 42), some (.inl x1), some (.inl x2), some (.inl x3), some (.inl (1000000 : Int32)), some (.inl (0 : Int32)), none, none, none] [] μ)) :
    AW G (d + 1) M_MD_dot Q 201 [some (.inr 42), some (.inl x1), some (.inl x2), some (.inl x3), none, none, none, none, none] [] μ := by
  refine aw_iload_n d_MD_dot_201 rfl ?_
  refine aw_if_lt (tgt := 376) d_MD_dot_202 (by decide) (fun q => ?_) (fun q => ?_)
  · replace h := h.1 q
    refine aw_sipush (v := 400) d_MD_dot_376 (by decide) ?_
    refine aw_istore_n d_MD_dot_379 (Nat.le_of_ble_eq_true rfl) ?_
    refine aw_iconst (v := 0) d_MD_dot_380 (by decide) ?_
    refine aw_istore d_MD_dot_381 (Nat.le_of_ble_eq_true rfl) ?_
    exact h
  · replace h := h.2 q
    refine aw_ldc (v := 1000000) d_MD_dot_205 lc_MD_190 ?_
    refine aw_istore d_MD_dot_207 (Nat.le_of_ble_eq_true rfl) ?_
    refine aw_iconst (v := 0) d_MD_dot_209 (by decide) ?_
    refine aw_istore d_MD_dot_210 (Nat.le_of_ble_eq_true rfl) ?_
    exact h
set_option maxRecDepth 100000 in
theorem vc_MD_dot_212 {G : Gp} {d : Nat} {Q : Int32 → Mem → Prop} {x1 x2 x3 x4 x5 : Int32} {μ : Mem}
    (h : ((400 : Int32) ≤ x5 → AW G (d + 1) M_MD_dot Q 201 [some (.inr 42), some (.inl x1), some (.inl x2), some (.inl (x3 + (-1 : Int32))), none, none, none, none, none] [] μ) ∧ (¬ (400 : Int32) ≤ x5 → (((x5 - (200 : Int32)) - (x5 - (200 : Int32)) / (2 : Int32) * (2 : Int32)) = 0 → AW G (d + 1) M_MD_dot Q 236 [some (.inr 42), some (.inl x1), some (.inl x2), some (.inl x3), some (.inl x4), some (.inl x5), none, none, none] [.inl (0 : Int32)] μ) ∧ (¬ ((x5 - (200 : Int32)) - (x5 - (200 : Int32)) / (2 : Int32) * (2 : Int32)) = 0 → AW G (d + 1) M_MD_dot Q 236 [some (.inr 42), some (.inl x1), some (.inl x2), some (.inl x3), some (.inl x4), some (.inl x5), none, none, none] [.inl (1 : Int32)] μ))) :
    AW G (d + 1) M_MD_dot Q 212 [some (.inr 42), some (.inl x1), some (.inl x2), some (.inl x3), some (.inl x4), some (.inl x5), none, none, none] [] μ := by
  refine aw_iload d_MD_dot_212 rfl ?_
  refine aw_sipush (v := 400) d_MD_dot_214 (by decide) ?_
  refine aw_icmp_ge (tgt := 370) d_MD_dot_217 (by decide) (fun q => ?_) (fun q => ?_)
  · replace h := h.1 q
    refine aw_iinc (v := (-1)) d_MD_dot_370 rfl (by decide) ?_
    refine aw_goto (tgt := 201) d_MD_dot_373 (by decide) ?_
    refine aw_drop 4 ?_
    refine aw_drop 5 ?_
    exact h
  · replace h := h.2 q
    refine aw_iload d_MD_dot_220 rfl ?_
    refine aw_sipush (v := 200) d_MD_dot_222 (by decide) ?_
    refine aw_isub d_MD_dot_225 ?_
    refine aw_iconst (v := 2) d_MD_dot_226 (by decide) ?_
    refine aw_irem d_MD_dot_227 (by decide) ?_
    refine aw_if_eq (tgt := 235) d_MD_dot_228 (by decide) (fun q => ?_) (fun q => ?_)
    · replace h := h.1 q
      refine aw_iconst (v := 0) d_MD_dot_235 (by decide) ?_
      exact h
    · replace h := h.2 q
      refine aw_iconst (v := 1) d_MD_dot_231 (by decide) ?_
      refine aw_goto (tgt := 236) d_MD_dot_232 (by decide) ?_
      exact h
set_option maxRecDepth 100000 in
theorem vc_MD_dot_236 {G : Gp} {d : Nat} {Q : Int32 → Mem → Prop} {x1 x2 x3 x4 x5 s0 : Int32} {μ : Mem}
    (h : vp_in x3 60 ∧ ∀ y1 : Int32, y1 = ((x5 - (200 : Int32)) - (μ 67 (ix x3))) → (0 ≤ y1 → AW G (d + 1) M_MD_dot Q 266 [some (.inr 42), some (.inl x1), some (.inl x2), some (.inl x3), some (.inl x4), some (.inl x5), some (.inl s0), none, none] [.inl y1] μ) ∧ (¬ 0 ≤ y1 → AW G (d + 1) M_MD_dot Q 266 [some (.inr 42), some (.inl x1), some (.inl x2), some (.inl x3), some (.inl x4), some (.inl x5), some (.inl s0), none, none] [.inl (-y1)] μ)) :
    AW G (d + 1) M_MD_dot Q 236 [some (.inr 42), some (.inl x1), some (.inl x2), some (.inl x3), some (.inl x4), some (.inl x5), none, none, none] [.inl s0] μ := by
  refine aw_istore d_MD_dot_236 (Nat.le_of_ble_eq_true rfl) ?_
  refine aw_iload d_MD_dot_238 rfl ?_
  refine aw_sipush (v := 200) d_MD_dot_240 (by decide) ?_
  refine aw_isub d_MD_dot_243 ?_
  refine aw_aload_n d_MD_dot_244 rfl ?_
  refine aw_getR (t := 67) d_MD_dot_245 lf_MD_87 rfl rfl ?_
  refine aw_iload_n d_MD_dot_248 rfl ?_
  refine aw_iald d_MD_dot_249 rfl h.1 ?_
  replace h := h.2
  refine aw_isub d_MD_dot_250 ?_
  refine aw_top (fun y1 e => ?_)
  replace h := h _ e
  refine aw_istore d_MD_dot_251 (Nat.le_of_ble_eq_true rfl) ?_
  refine aw_iload d_MD_dot_253 rfl ?_
  refine aw_if_ge (tgt := 264) d_MD_dot_255 (by decide) (fun q => ?_) (fun q => ?_)
  · replace h := h.1 q
    refine aw_iload d_MD_dot_264 rfl ?_
    refine aw_drop 7 ?_
    exact h
  · replace h := h.2 q
    refine aw_iload d_MD_dot_258 rfl ?_
    refine aw_ineg d_MD_dot_260 ?_
    refine aw_goto (tgt := 266) d_MD_dot_261 (by decide) ?_
    refine aw_drop 7 ?_
    exact h
set_option maxRecDepth 100000 in
theorem vc_MD_dot_266 {G : Gp} {d : Nat} {Q : Int32 → Mem → Prop} {x1 x2 x3 x4 x5 x6 s0 : Int32} {μ : Mem}
    (h : (¬ x6 = 0 → (¬ x3 = (x2 - (1 : Int32)) → ((1000000 : Int32) ≤ x4 → AW G (d + 1) M_MD_dot Q 319 [some (.inr 42), some (.inl x1), some (.inl x2), some (.inl x3), some (.inl x4), some (.inl x5), none, none, none] [.inl (1000000 : Int32), .inl (((400 : Int32) * x3) + x5), .inr 68] μ) ∧ (¬ (1000000 : Int32) ≤ x4 → AW G (d + 1) M_MD_dot Q 319 [some (.inr 42), some (.inl x1), some (.inl x2), some (.inl x3), some (.inl x4), some (.inl x5), none, none, none] [.inl (s0 + x4), .inl (((400 : Int32) * x3) + x5), .inr 68] μ)) ∧ (x3 = (x2 - (1 : Int32)) → AW G (d + 1) M_MD_dot Q 319 [some (.inr 42), some (.inl x1), some (.inl x2), some (.inl x3), some (.inl x4), some (.inl x5), none, none, none] [.inl s0, .inl (((400 : Int32) * x3) + x5), .inr 68] μ)) ∧ (x6 = 0 → AW G (d + 1) M_MD_dot Q 319 [some (.inr 42), some (.inl x1), some (.inl x2), some (.inl x3), some (.inl x4), some (.inl x5), none, none, none] [.inl (1000000 : Int32), .inl (((400 : Int32) * x3) + x5), .inr 68] μ)) :
    AW G (d + 1) M_MD_dot Q 266 [some (.inr 42), some (.inl x1), some (.inl x2), some (.inl x3), some (.inl x4), some (.inl x5), some (.inl x6), none, none] [.inl s0] μ := by
  refine aw_istore d_MD_dot_266 (Nat.le_of_ble_eq_true rfl) ?_
  refine aw_aload_n d_MD_dot_268 rfl ?_
  refine aw_getR (t := 68) d_MD_dot_269 lf_MD_90 rfl rfl ?_
  refine aw_sipush (v := 400) d_MD_dot_272 (by decide) ?_
  refine aw_iload_n d_MD_dot_275 rfl ?_
  refine aw_imul d_MD_dot_276 ?_
  refine aw_iload d_MD_dot_277 rfl ?_
  refine aw_iadd d_MD_dot_279 ?_
  refine aw_iload d_MD_dot_280 rfl ?_
  refine aw_if_ne (tgt := 290) d_MD_dot_282 (by decide) (fun q => ?_) (fun q => ?_)
  · replace h := h.1 q
    refine aw_iload_n d_MD_dot_290 rfl ?_
    refine aw_iload_n d_MD_dot_291 rfl ?_
    refine aw_iconst (v := 1) d_MD_dot_292 (by decide) ?_
    refine aw_isub d_MD_dot_293 ?_
    refine aw_icmp_ne (tgt := 302) d_MD_dot_294 (by decide) (fun q => ?_) (fun q => ?_)
    · replace h := h.1 q
      refine aw_iload d_MD_dot_302 rfl ?_
      refine aw_ldc (v := 1000000) d_MD_dot_304 lc_MD_190 ?_
      refine aw_icmp_ge (tgt := 317) d_MD_dot_306 (by decide) (fun q => ?_) (fun q => ?_)
      · replace h := h.1 q
        refine aw_ldc (v := 1000000) d_MD_dot_317 lc_MD_190 ?_
        refine aw_drop 6 ?_
        refine aw_drop 8 ?_
        exact h
      · replace h := h.2 q
        refine aw_iload d_MD_dot_309 rfl ?_
        refine aw_iload d_MD_dot_311 rfl ?_
        refine aw_iadd d_MD_dot_313 ?_
        refine aw_goto (tgt := 319) d_MD_dot_314 (by decide) ?_
        refine aw_drop 6 ?_
        refine aw_drop 8 ?_
        exact h
    · replace h := h.2 q
      refine aw_iload d_MD_dot_297 rfl ?_
      refine aw_goto (tgt := 319) d_MD_dot_299 (by decide) ?_
      refine aw_drop 6 ?_
      refine aw_drop 8 ?_
      exact h
  · replace h := h.2 q
    refine aw_ldc (v := 1000000) d_MD_dot_285 lc_MD_190 ?_
    refine aw_goto (tgt := 319) d_MD_dot_287 (by decide) ?_
    refine aw_drop 6 ?_
    refine aw_drop 8 ?_
    exact h
set_option maxRecDepth 100000 in
theorem vc_MD_dot_319 {G : Gp} {d : Nat} {Q : Int32 → Mem → Prop} {x1 x2 x3 x4 x5 s0 s1 : Int32} {μ : Mem}
    (h : vp_in s1 24000 ∧ ∀ u1 : Mem, u1 = up μ 68 (ix s1) s0 → ((x2 - (1 : Int32)) ≤ x3 → AW G (d + 1) M_MD_dot Q 212 [some (.inr 42), some (.inl x1), some (.inl x2), some (.inl x3), some (.inl x4), some (.inl (x5 + (1 : Int32))), none, none, none] [] u1) ∧ (¬ (x2 - (1 : Int32)) ≤ x3 → vp_in (((400 : Int32) * (x3 + (1 : Int32))) + x5) 24000 ∧ (x4 ≤ (u1 68 (ix (((400 : Int32) * (x3 + (1 : Int32))) + x5))) → AW G (d + 1) M_MD_dot Q 212 [some (.inr 42), some (.inl x1), some (.inl x2), some (.inl x3), some (.inl x4), some (.inl (x5 + (1 : Int32))), none, none, none] [] u1) ∧ (¬ x4 ≤ (u1 68 (ix (((400 : Int32) * (x3 + (1 : Int32))) + x5))) → vp_in (((400 : Int32) * (x3 + (1 : Int32))) + x5) 24000 ∧ ∀ y2 : Int32, y2 = (u1 68 (ix (((400 : Int32) * (x3 + (1 : Int32))) + x5))) → AW G (d + 1) M_MD_dot Q 212 [some (.inr 42), some (.inl x1), some (.inl x2), some (.inl x3), some (.inl y2), some (.inl (x5 + (1 : Int32))), none, none, none] [] u1))) :
    AW G (d + 1) M_MD_dot Q 319 [some (.inr 42), some (.inl x1), some (.inl x2), some (.inl x3), some (.inl x4), some (.inl x5), none, none, none] [.inl s0, .inl s1, .inr 68] μ := by
  refine aw_iast d_MD_dot_319 rfl h.1 ?_
  replace h := h.2
  refine aw_mem (fun u1 e => ?_)
  replace h := h _ e
  refine aw_iload_n d_MD_dot_320 rfl ?_
  refine aw_iload_n d_MD_dot_321 rfl ?_
  refine aw_iconst (v := 1) d_MD_dot_322 (by decide) ?_
  refine aw_isub d_MD_dot_323 ?_
  refine aw_icmp_ge (tgt := 364) d_MD_dot_324 (by decide) (fun q => ?_) (fun q => ?_)
  · replace h := h.1 q
    refine aw_iinc (v := 1) d_MD_dot_364 rfl (by decide) ?_
    refine aw_goto (tgt := 212) d_MD_dot_367 (by decide) ?_
    exact h
  · replace h := h.2 q
    refine aw_aload_n d_MD_dot_327 rfl ?_
    refine aw_getR (t := 68) d_MD_dot_328 lf_MD_90 rfl rfl ?_
    refine aw_sipush (v := 400) d_MD_dot_331 (by decide) ?_
    refine aw_iload_n d_MD_dot_334 rfl ?_
    refine aw_iconst (v := 1) d_MD_dot_335 (by decide) ?_
    refine aw_iadd d_MD_dot_336 ?_
    refine aw_imul d_MD_dot_337 ?_
    refine aw_iload d_MD_dot_338 rfl ?_
    refine aw_iadd d_MD_dot_340 ?_
    refine aw_iald d_MD_dot_341 rfl h.1 ?_
    replace h := h.2
    refine aw_iload d_MD_dot_342 rfl ?_
    refine aw_icmp_ge (tgt := 364) d_MD_dot_344 (by decide) (fun q => ?_) (fun q => ?_)
    · replace h := h.1 q
      refine aw_iinc (v := 1) d_MD_dot_364 rfl (by decide) ?_
      refine aw_goto (tgt := 212) d_MD_dot_367 (by decide) ?_
      exact h
    · replace h := h.2 q
      refine aw_aload_n d_MD_dot_347 rfl ?_
      refine aw_getR (t := 68) d_MD_dot_348 lf_MD_90 rfl rfl ?_
      refine aw_sipush (v := 400) d_MD_dot_351 (by decide) ?_
      refine aw_iload_n d_MD_dot_354 rfl ?_
      refine aw_iconst (v := 1) d_MD_dot_355 (by decide) ?_
      refine aw_iadd d_MD_dot_356 ?_
      refine aw_imul d_MD_dot_357 ?_
      refine aw_iload d_MD_dot_358 rfl ?_
      refine aw_iadd d_MD_dot_360 ?_
      refine aw_iald d_MD_dot_361 rfl h.1 ?_
      replace h := h.2
      refine aw_top (fun y2 e => ?_)
      replace h := h _ e
      refine aw_istore d_MD_dot_362 (Nat.le_of_ble_eq_true rfl) ?_
      refine aw_iinc (v := 1) d_MD_dot_364 rfl (by decide) ?_
      refine aw_goto (tgt := 212) d_MD_dot_367 (by decide) ?_
      exact h
set_option maxRecDepth 100000 in
theorem vc_MD_dot_383 {G : Gp} {d : Nat} {Q : Int32 → Mem → Prop} {x1 x2 x3 x4 : Int32} {μ : Mem}
    (h : (x2 ≤ x4 → Q (-1 : Int32) μ) ∧ (¬ x2 ≤ x4 → ∀ y1 : Int32, y1 = (x3 - (1 : Int32)) → AW G (d + 1) M_MD_dot Q 397 [some (.inr 42), some (.inl x1), some (.inl x2), none, some (.inl x4), some (.inl (-1 : Int32)), some (.inl y1), none, none] [] μ)) :
    AW G (d + 1) M_MD_dot Q 383 [some (.inr 42), some (.inl x1), some (.inl x2), some (.inl x3), some (.inl x4), none, none, none, none] [] μ := by
  refine aw_iload d_MD_dot_383 rfl ?_
  refine aw_iload_n d_MD_dot_385 rfl ?_
  refine aw_icmp_ge (tgt := 482) d_MD_dot_386 (by decide) (fun q => ?_) (fun q => ?_)
  · replace h := h.1 q
    refine aw_iconst (v := (-1)) d_MD_dot_482 (by decide) ?_
    exact aw_iret d_MD_dot_483 rfl h
  · replace h := h.2 q
    refine aw_iconst (v := (-1)) d_MD_dot_389 (by decide) ?_
    refine aw_istore d_MD_dot_390 (Nat.le_of_ble_eq_true rfl) ?_
    refine aw_iload_n d_MD_dot_392 rfl ?_
    refine aw_iconst (v := 1) d_MD_dot_393 (by decide) ?_
    refine aw_isub d_MD_dot_394 ?_
    refine aw_top (fun y1 e => ?_)
    replace h := h _ e
    refine aw_istore d_MD_dot_395 (Nat.le_of_ble_eq_true rfl) ?_
    refine aw_drop 3 ?_
    exact h
set_option maxRecDepth 100000 in
theorem vc_MD_dot_397 {G : Gp} {d : Nat} {Q : Int32 → Mem → Prop} {x1 x2 x4 x5 x6 : Int32} {μ : Mem}
    (h : (x6 < 0 → vp_in x4 60 ∧ Ct G d M_MD_placeOf [.inr 42, .inl x1] μ (fun r2 u1 => (¬ (μ 67 (ix x4)) = r2 → AW G (d + 1) M_MD_dot Q 383 [some (.inr 42), some (.inl x1), some (.inl x2), some (.inl x5), some (.inl (x4 + (1 : Int32))), none, none, none, none] [] u1) ∧ ((μ 67 (ix x4)) = r2 → Q ((x5 - (200 : Int32)) + (100 : Int32)) u1))) ∧ (¬ x6 < 0 → (x5 < 0 → AW G (d + 1) M_MD_dot Q 397 [some (.inr 42), some (.inl x1), some (.inl x2), none, some (.inl x4), some (.inl x6), some (.inl (x6 + (-1 : Int32))), none, none] [] μ) ∧ (¬ x5 < 0 → vp_in (((400 : Int32) * x4) + x6) 24000 ∧ vp_in (((400 : Int32) * x4) + x5) 24000 ∧ ((μ 68 (ix (((400 : Int32) * x4) + x5))) ≤ (μ 68 (ix (((400 : Int32) * x4) + x6))) → AW G (d + 1) M_MD_dot Q 397 [some (.inr 42), some (.inl x1), some (.inl x2), none, some (.inl x4), some (.inl x5), some (.inl (x6 + (-1 : Int32))), none, none] [] μ) ∧ (¬ (μ 68 (ix (((400 : Int32) * x4) + x5))) ≤ (μ 68 (ix (((400 : Int32) * x4) + x6))) → AW G (d + 1) M_MD_dot Q 397 [some (.inr 42), some (.inl x1), some (.inl x2), none, some (.inl x4), some (.inl x6), some (.inl (x6 + (-1 : Int32))), none, none] [] μ)))) :
    AW G (d + 1) M_MD_dot Q 397 [some (.inr 42), some (.inl x1), some (.inl x2), none, some (.inl x4), some (.inl x5), some (.inl x6), none, none] [] μ := by
  refine aw_iload d_MD_dot_397 rfl ?_
  refine aw_if_lt (tgt := 448) d_MD_dot_399 (by decide) (fun q => ?_) (fun q => ?_)
  · replace h := h.1 q
    refine aw_aload_n d_MD_dot_448 rfl ?_
    refine aw_getR (t := 67) d_MD_dot_449 lf_MD_87 rfl rfl ?_
    refine aw_iload d_MD_dot_452 rfl ?_
    refine aw_iald d_MD_dot_454 rfl h.1 ?_
    replace h := h.2
    refine aw_aload_n d_MD_dot_455 rfl ?_
    refine aw_iload_n d_MD_dot_456 rfl ?_
    refine aw_callV (as := [.inl x1]) d_MD_dot_457 lm_MD_153 rfl rfl (by decide) rfl (Nat.le_of_ble_eq_true rfl) rfl h (fun r2 u1 h => ?_)
    refine aw_icmp_ne (tgt := 473) d_MD_dot_460 (by decide) (fun q => ?_) (fun q => ?_)
    · replace h := h.1 q
      refine aw_iload d_MD_dot_473 rfl ?_
      refine aw_istore_n d_MD_dot_475 (Nat.le_of_ble_eq_true rfl) ?_
      refine aw_iinc (v := 1) d_MD_dot_476 rfl (by decide) ?_
      refine aw_goto (tgt := 383) d_MD_dot_479 (by decide) ?_
      refine aw_drop 5 ?_
      refine aw_drop 6 ?_
      exact h
    · replace h := h.2 q
      refine aw_iload d_MD_dot_463 rfl ?_
      refine aw_sipush (v := 200) d_MD_dot_465 (by decide) ?_
      refine aw_isub d_MD_dot_468 ?_
      refine aw_bipush (v := 100) d_MD_dot_469 (by decide) ?_
      refine aw_iadd d_MD_dot_471 ?_
      exact aw_iret d_MD_dot_472 rfl h
  · replace h := h.2 q
    refine aw_iload d_MD_dot_402 rfl ?_
    refine aw_if_lt (tgt := 438) d_MD_dot_404 (by decide) (fun q => ?_) (fun q => ?_)
    · replace h := h.1 q
      refine aw_iload d_MD_dot_438 rfl ?_
      refine aw_istore d_MD_dot_440 (Nat.le_of_ble_eq_true rfl) ?_
      refine aw_iinc (v := (-1)) d_MD_dot_442 rfl (by decide) ?_
      refine aw_goto (tgt := 397) d_MD_dot_445 (by decide) ?_
      exact h
    · replace h := h.2 q
      refine aw_aload_n d_MD_dot_407 rfl ?_
      refine aw_getR (t := 68) d_MD_dot_408 lf_MD_90 rfl rfl ?_
      refine aw_sipush (v := 400) d_MD_dot_411 (by decide) ?_
      refine aw_iload d_MD_dot_414 rfl ?_
      refine aw_imul d_MD_dot_416 ?_
      refine aw_iload d_MD_dot_417 rfl ?_
      refine aw_iadd d_MD_dot_419 ?_
      refine aw_iald d_MD_dot_420 rfl h.1 ?_
      replace h := h.2
      refine aw_aload_n d_MD_dot_421 rfl ?_
      refine aw_getR (t := 68) d_MD_dot_422 lf_MD_90 rfl rfl ?_
      refine aw_sipush (v := 400) d_MD_dot_425 (by decide) ?_
      refine aw_iload d_MD_dot_428 rfl ?_
      refine aw_imul d_MD_dot_430 ?_
      refine aw_iload d_MD_dot_431 rfl ?_
      refine aw_iadd d_MD_dot_433 ?_
      refine aw_iald d_MD_dot_434 rfl h.1 ?_
      replace h := h.2
      refine aw_icmp_ge (tgt := 442) d_MD_dot_435 (by decide) (fun q => ?_) (fun q => ?_)
      · replace h := h.1 q
        refine aw_iinc (v := (-1)) d_MD_dot_442 rfl (by decide) ?_
        refine aw_goto (tgt := 397) d_MD_dot_445 (by decide) ?_
        exact h
      · replace h := h.2 q
        refine aw_iload d_MD_dot_438 rfl ?_
        refine aw_istore d_MD_dot_440 (Nat.le_of_ble_eq_true rfl) ?_
        refine aw_iinc (v := (-1)) d_MD_dot_442 rfl (by decide) ?_
        refine aw_goto (tgt := 397) d_MD_dot_445 (by decide) ?_
        exact h
set_option maxRecDepth 100000 in
theorem vc_MD_keyBefore_0 {G : Gp} {d : Nat} {Q : Int32 → Mem → Prop} {x1 : Int32} {μ : Mem}
    (h : (¬ x1 = 0 → Ct G d M_MD_keyOf [.inr 42, .inl (x1 - (1 : Int32))] μ (fun r2 u1 => Q r2 u1)) ∧ (x1 = 0 → Q (0 : Int32) μ)) :
    AW G (d + 1) M_MD_keyBefore Q 0 [some (.inr 42), some (.inl x1)] [] μ := by
  refine aw_iload_n d_MD_keyBefore_0 rfl ?_
  refine aw_if_ne (tgt := 8) d_MD_keyBefore_1 (by decide) (fun q => ?_) (fun q => ?_)
  · replace h := h.1 q
    refine aw_aload_n d_MD_keyBefore_8 rfl ?_
    refine aw_iload_n d_MD_keyBefore_9 rfl ?_
    refine aw_iconst (v := 1) d_MD_keyBefore_10 (by decide) ?_
    refine aw_isub d_MD_keyBefore_11 ?_
    refine aw_callV (as := [.inl (x1 - (1 : Int32))]) d_MD_keyBefore_12 lm_MD_115 rfl rfl (by decide) rfl (Nat.le_of_ble_eq_true rfl) rfl h (fun r2 u1 h => ?_)
    exact aw_iret d_MD_keyBefore_15 rfl h
  · replace h := h.2 q
    refine aw_iconst (v := 0) d_MD_keyBefore_4 (by decide) ?_
    refine aw_goto (tgt := 15) d_MD_keyBefore_5 (by decide) ?_
    exact aw_iret d_MD_keyBefore_15 rfl h
theorem en_MD_keyBefore {G : Gp} {d : Nat} {Q : Int32 → Mem → Prop} {x1 : Int32} {μ : Mem}
    (h : AW G (d + 1) M_MD_keyBefore Q 0 [some (.inr 42), some (.inl x1)] [] μ) :
    Ct G (d + 1) M_MD_keyBefore [.inr 42, .inl x1] μ Q := ct_of (by decide) (Nat.le_of_ble_eq_true rfl) h
set_option maxRecDepth 100000 in
theorem vc_MD_naturals_0 {G : Gp} {d : Nat} {Q : Int32 → Mem → Prop} {x1 x2 : Int32} {μ : Mem}
    (h : Ct G d M_MD_keyBefore [.inr 42, .inl x1] μ (fun r2 u1 => Ct G d M_MD_keyOf [.inr 42, .inl x1] u1 (fun r4 u3 => ∀ u5 : Mem, u5 = up u3 42 30 (-1 : Int32) → (r4 = r2 → Q (0 : Int32) u5) ∧ (¬ r4 = r2 → vp_in (4 : Int32) 5 ∧ ((u5 53 (ix (4 : Int32))) = 0 → Q (0 : Int32) u5) ∧ (¬ (u5 53 (ix (4 : Int32))) = 0 → vp_in (4 : Int32) 5 ∧ (¬ (u5 53 (ix (4 : Int32))) = (2 : Int32) → AW G (d + 1) M_MD_naturals Q 82 [some (.inr 42), none, some (.inl x2), some (.inl r2), some (.inl r4), some (.inl (0 : Int32)), some (.inl (0 : Int32)), none] [] u5) ∧ ((u5 53 (ix (4 : Int32))) = (2 : Int32) → (r4 = 0 → AW G (d + 1) M_MD_naturals Q 82 [some (.inr 42), none, some (.inl x2), some (.inl r2), some (.inl r4), some (.inl (0 : Int32)), some (.inl (0 : Int32)), none] [] u5) ∧ (¬ r4 = 0 → (r4 ≤ 0 → AW G (d + 1) M_MD_naturals Q 58 [some (.inr 42), none, some (.inl x2), some (.inl r2), some (.inl r4), none, none, none] [.inl (0 : Int32)] u5) ∧ (¬ r4 ≤ 0 → AW G (d + 1) M_MD_naturals Q 58 [some (.inr 42), none, some (.inl x2), some (.inl r2), some (.inl r4), none, none, none] [.inl (1 : Int32)] u5)))))))) :
    AW G (d + 1) M_MD_naturals Q 0 [some (.inr 42), some (.inl x1), some (.inl x2), none, none, none, none, none] [] μ := by
  refine aw_aload_n d_MD_naturals_0 rfl ?_
  refine aw_iload_n d_MD_naturals_1 rfl ?_
  refine aw_callV (as := [.inl x1]) d_MD_naturals_2 lm_MD_191 rfl rfl (by decide) rfl (Nat.le_of_ble_eq_true rfl) rfl h (fun r2 u1 h => ?_)
  refine aw_istore_n d_MD_naturals_5 (Nat.le_of_ble_eq_true rfl) ?_
  refine aw_aload_n d_MD_naturals_6 rfl ?_
  refine aw_iload_n d_MD_naturals_7 rfl ?_
  refine aw_callV (as := [.inl x1]) d_MD_naturals_8 lm_MD_115 rfl rfl (by decide) rfl (Nat.le_of_ble_eq_true rfl) rfl h (fun r4 u3 h => ?_)
  refine aw_istore d_MD_naturals_11 (Nat.le_of_ble_eq_true rfl) ?_
  refine aw_aload_n d_MD_naturals_13 rfl ?_
  refine aw_iconst (v := (-1)) d_MD_naturals_14 (by decide) ?_
  refine aw_putI d_MD_naturals_15 lf_MD_194 ⟨_, _, _, rfl, rfl, rfl⟩ rfl rfl ?_
  refine aw_mem (fun u5 e => ?_)
  replace h := h _ e
  refine aw_iload d_MD_naturals_18 rfl ?_
  refine aw_iload_n d_MD_naturals_20 rfl ?_
  refine aw_icmp_eq (tgt := 74) d_MD_naturals_21 (by decide) (fun q => ?_) (fun q => ?_)
  · replace h := h.1 q
    refine aw_iconst (v := 0) d_MD_naturals_74 (by decide) ?_
    exact aw_iret d_MD_naturals_75 rfl h
  · replace h := h.2 q
    refine aw_aload_n d_MD_naturals_24 rfl ?_
    refine aw_getR (t := 53) d_MD_naturals_25 lf_MD_40 rfl rfl ?_
    refine aw_iconst (v := 4) d_MD_naturals_28 (by decide) ?_
    refine aw_iald d_MD_naturals_29 rfl h.1 ?_
    replace h := h.2
    refine aw_if_eq (tgt := 74) d_MD_naturals_30 (by decide) (fun q => ?_) (fun q => ?_)
    · replace h := h.1 q
      refine aw_iconst (v := 0) d_MD_naturals_74 (by decide) ?_
      exact aw_iret d_MD_naturals_75 rfl h
    · replace h := h.2 q
      refine aw_aload_n d_MD_naturals_33 rfl ?_
      refine aw_getR (t := 53) d_MD_naturals_34 lf_MD_40 rfl rfl ?_
      refine aw_iconst (v := 4) d_MD_naturals_37 (by decide) ?_
      refine aw_iald d_MD_naturals_38 rfl h.1 ?_
      replace h := h.2
      refine aw_iconst (v := 2) d_MD_naturals_39 (by decide) ?_
      refine aw_icmp_ne (tgt := 76) d_MD_naturals_40 (by decide) (fun q => ?_) (fun q => ?_)
      · replace h := h.1 q
        refine aw_iconst (v := 0) d_MD_naturals_76 (by decide) ?_
        refine aw_istore d_MD_naturals_77 (Nat.le_of_ble_eq_true rfl) ?_
        refine aw_iconst (v := 0) d_MD_naturals_79 (by decide) ?_
        refine aw_istore d_MD_naturals_80 (Nat.le_of_ble_eq_true rfl) ?_
        refine aw_drop 1 ?_
        exact h
      · replace h := h.2 q
        refine aw_iload d_MD_naturals_43 rfl ?_
        refine aw_if_eq (tgt := 76) d_MD_naturals_45 (by decide) (fun q => ?_) (fun q => ?_)
        · replace h := h.1 q
          refine aw_iconst (v := 0) d_MD_naturals_76 (by decide) ?_
          refine aw_istore d_MD_naturals_77 (Nat.le_of_ble_eq_true rfl) ?_
          refine aw_iconst (v := 0) d_MD_naturals_79 (by decide) ?_
          refine aw_istore d_MD_naturals_80 (Nat.le_of_ble_eq_true rfl) ?_
          refine aw_drop 1 ?_
          exact h
        · replace h := h.2 q
          refine aw_iload d_MD_naturals_48 rfl ?_
          refine aw_if_le (tgt := 57) d_MD_naturals_50 (by decide) (fun q => ?_) (fun q => ?_)
          · replace h := h.1 q
            refine aw_iconst (v := 0) d_MD_naturals_57 (by decide) ?_
            refine aw_drop 1 ?_
            exact h
          · replace h := h.2 q
            refine aw_iconst (v := 1) d_MD_naturals_53 (by decide) ?_
            refine aw_goto (tgt := 58) d_MD_naturals_54 (by decide) ?_
            refine aw_drop 1 ?_
            exact h
theorem en_MD_naturals {G : Gp} {d : Nat} {Q : Int32 → Mem → Prop} {x1 x2 : Int32} {μ : Mem}
    (h : AW G (d + 1) M_MD_naturals Q 0 [some (.inr 42), some (.inl x1), some (.inl x2), none, none, none, none, none] [] μ) :
    Ct G (d + 1) M_MD_naturals [.inr 42, .inl x1, .inl x2] μ Q := ct_of (by decide) (Nat.le_of_ble_eq_true rfl) h
set_option maxRecDepth 100000 in
theorem vc_MD_naturals_58 {G : Gp} {d : Nat} {Q : Int32 → Mem → Prop} {x2 x3 x4 s0 : Int32} {μ : Mem}
    (h : (x3 ≤ 0 → (¬ s0 = (0 : Int32) → AW G (d + 1) M_MD_naturals Q 82 [some (.inr 42), none, some (.inl x2), some (.inl x3), some (.inl x4), some (.inl (0 : Int32)), some (.inl (0 : Int32)), none] [] μ) ∧ (s0 = (0 : Int32) → (x3 = 0 → AW G (d + 1) M_MD_naturals Q 82 [some (.inr 42), none, some (.inl x2), some (.inl x3), some (.inl x4), some (.inl (0 : Int32)), some (.inl (0 : Int32)), none] [] μ) ∧ (¬ x3 = 0 → Q (0 : Int32) μ))) ∧ (¬ x3 ≤ 0 → (¬ s0 = (1 : Int32) → AW G (d + 1) M_MD_naturals Q 82 [some (.inr 42), none, some (.inl x2), some (.inl x3), some (.inl x4), some (.inl (0 : Int32)), some (.inl (0 : Int32)), none] [] μ) ∧ (s0 = (1 : Int32) → (x3 = 0 → AW G (d + 1) M_MD_naturals Q 82 [some (.inr 42), none, some (.inl x2), some (.inl x3), some (.inl x4), some (.inl (0 : Int32)), some (.inl (0 : Int32)), none] [] μ) ∧ (¬ x3 = 0 → Q (0 : Int32) μ)))) :
    AW G (d + 1) M_MD_naturals Q 58 [some (.inr 42), none, some (.inl x2), some (.inl x3), some (.inl x4), none, none, none] [.inl s0] μ := by
  refine aw_iload_n d_MD_naturals_58 rfl ?_
  refine aw_if_le (tgt := 66) d_MD_naturals_59 (by decide) (fun q => ?_) (fun q => ?_)
  · replace h := h.1 q
    refine aw_iconst (v := 0) d_MD_naturals_66 (by decide) ?_
    refine aw_icmp_ne (tgt := 76) d_MD_naturals_67 (by decide) (fun q => ?_) (fun q => ?_)
    · replace h := h.1 q
      refine aw_iconst (v := 0) d_MD_naturals_76 (by decide) ?_
      refine aw_istore d_MD_naturals_77 (Nat.le_of_ble_eq_true rfl) ?_
      refine aw_iconst (v := 0) d_MD_naturals_79 (by decide) ?_
      refine aw_istore d_MD_naturals_80 (Nat.le_of_ble_eq_true rfl) ?_
      exact h
    · replace h := h.2 q
      refine aw_iload_n d_MD_naturals_70 rfl ?_
      refine aw_if_eq (tgt := 76) d_MD_naturals_71 (by decide) (fun q => ?_) (fun q => ?_)
      · replace h := h.1 q
        refine aw_iconst (v := 0) d_MD_naturals_76 (by decide) ?_
        refine aw_istore d_MD_naturals_77 (Nat.le_of_ble_eq_true rfl) ?_
        refine aw_iconst (v := 0) d_MD_naturals_79 (by decide) ?_
        refine aw_istore d_MD_naturals_80 (Nat.le_of_ble_eq_true rfl) ?_
        exact h
      · replace h := h.2 q
        refine aw_iconst (v := 0) d_MD_naturals_74 (by decide) ?_
        exact aw_iret d_MD_naturals_75 rfl h
  · replace h := h.2 q
    refine aw_iconst (v := 1) d_MD_naturals_62 (by decide) ?_
    refine aw_goto (tgt := 67) d_MD_naturals_63 (by decide) ?_
    refine aw_icmp_ne (tgt := 76) d_MD_naturals_67 (by decide) (fun q => ?_) (fun q => ?_)
    · replace h := h.1 q
      refine aw_iconst (v := 0) d_MD_naturals_76 (by decide) ?_
      refine aw_istore d_MD_naturals_77 (Nat.le_of_ble_eq_true rfl) ?_
      refine aw_iconst (v := 0) d_MD_naturals_79 (by decide) ?_
      refine aw_istore d_MD_naturals_80 (Nat.le_of_ble_eq_true rfl) ?_
      exact h
    · replace h := h.2 q
      refine aw_iload_n d_MD_naturals_70 rfl ?_
      refine aw_if_eq (tgt := 76) d_MD_naturals_71 (by decide) (fun q => ?_) (fun q => ?_)
      · replace h := h.1 q
        refine aw_iconst (v := 0) d_MD_naturals_76 (by decide) ?_
        refine aw_istore d_MD_naturals_77 (Nat.le_of_ble_eq_true rfl) ?_
        refine aw_iconst (v := 0) d_MD_naturals_79 (by decide) ?_
        refine aw_istore d_MD_naturals_80 (Nat.le_of_ble_eq_true rfl) ?_
        exact h
      · replace h := h.2 q
        refine aw_iconst (v := 0) d_MD_naturals_74 (by decide) ?_
        exact aw_iret d_MD_naturals_75 rfl h
set_option maxRecDepth 100000 in
theorem vc_MD_naturals_82 {G : Gp} {d : Nat} {Q : Int32 → Mem → Prop} {x2 x3 x4 x5 x6 : Int32} {μ : Mem}
    (h : (0 ≤ x3 → AW G (d + 1) M_MD_naturals Q 94 [some (.inr 42), none, some (.inl x2), some (.inl x3), some (.inl x4), some (.inl x5), some (.inl x6), none] [.inl x3, .inl x6] μ) ∧ (¬ 0 ≤ x3 → AW G (d + 1) M_MD_naturals Q 94 [some (.inr 42), none, some (.inl x2), some (.inl x3), some (.inl x4), some (.inl x5), some (.inl x6), none] [.inl (-x3), .inl x6] μ)) :
    AW G (d + 1) M_MD_naturals Q 82 [some (.inr 42), none, some (.inl x2), some (.inl x3), some (.inl x4), some (.inl x5), some (.inl x6), none] [] μ := by
  refine aw_iload d_MD_naturals_82 rfl ?_
  refine aw_iload_n d_MD_naturals_84 rfl ?_
  refine aw_if_ge (tgt := 93) d_MD_naturals_85 (by decide) (fun q => ?_) (fun q => ?_)
  · replace h := h.1 q
    refine aw_iload_n d_MD_naturals_93 rfl ?_
    exact h
  · replace h := h.2 q
    refine aw_iload_n d_MD_naturals_88 rfl ?_
    refine aw_ineg d_MD_naturals_89 ?_
    refine aw_goto (tgt := 94) d_MD_naturals_90 (by decide) ?_
    exact h
set_option maxRecDepth 100000 in
theorem vc_MD_naturals_94 {G : Gp} {d : Nat} {Q : Int32 → Mem → Prop} {x2 x3 x4 x5 x6 s0 s1 : Int32} {μ : Mem}
    (h : (s0 ≤ s1 → Q x5 μ) ∧ (¬ s0 ≤ s1 → (x3 ≤ 0 → Ct G d M_MD_letter [.inl x6, .inl (0 : Int32)] μ (fun r2 u1 => Ct G d M_MD_keyAlter [.inl x4, .inl r2] u1 (fun r4 u3 => (¬ r4 = 0 → AW G (d + 1) M_MD_naturals Q 82 [some (.inr 42), none, some (.inl x2), some (.inl x3), some (.inl x4), some (.inl x5), some (.inl (x6 + (1 : Int32))), none] [] u3) ∧ (r4 = 0 → (¬ x5 = x2 → ∀ u5 : Mem, u5 = up u3 42 30 (u3 42 30) → AW G (d + 1) M_MD_naturals Q 82 [some (.inr 42), none, some (.inl x2), some (.inl x3), some (.inl x4), some (.inl (x5 + (1 : Int32))), some (.inl (x6 + (1 : Int32))), none] [] u5) ∧ (x5 = x2 → ∀ u6 : Mem, u6 = up u3 42 30 r2 → AW G (d + 1) M_MD_naturals Q 82 [some (.inr 42), none, some (.inl x2), some (.inl x3), some (.inl x4), some (.inl (x5 + (1 : Int32))), some (.inl (x6 + (1 : Int32))), none] [] u6))))) ∧ (¬ x3 ≤ 0 → Ct G d M_MD_letter [.inl x6, .inl (1 : Int32)] μ (fun r8 u7 => Ct G d M_MD_keyAlter [.inl x4, .inl r8] u7 (fun r10 u9 => (¬ r10 = 0 → AW G (d + 1) M_MD_naturals Q 82 [some (.inr 42), none, some (.inl x2), some (.inl x3), some (.inl x4), some (.inl x5), some (.inl (x6 + (1 : Int32))), none] [] u9) ∧ (r10 = 0 → (¬ x5 = x2 → ∀ u11 : Mem, u11 = up u9 42 30 (u9 42 30) → AW G (d + 1) M_MD_naturals Q 82 [some (.inr 42), none, some (.inl x2), some (.inl x3), some (.inl x4), some (.inl (x5 + (1 : Int32))), some (.inl (x6 + (1 : Int32))), none] [] u11) ∧ (x5 = x2 → ∀ u12 : Mem, u12 = up u9 42 30 r8 → AW G (d + 1) M_MD_naturals Q 82 [some (.inr 42), none, some (.inl x2), some (.inl x3), some (.inl x4), some (.inl (x5 + (1 : Int32))), some (.inl (x6 + (1 : Int32))), none] [] u12))))))) :
    AW G (d + 1) M_MD_naturals Q 94 [some (.inr 42), none, some (.inl x2), some (.inl x3), some (.inl x4), some (.inl x5), some (.inl x6), none] [.inl s0, .inl s1] μ := by
  refine aw_icmp_ge (tgt := 151) d_MD_naturals_94 (by decide) (fun q => ?_) (fun q => ?_)
  · replace h := h.1 q
    refine aw_iload d_MD_naturals_151 rfl ?_
    exact aw_iret d_MD_naturals_153 rfl h
  · replace h := h.2 q
    refine aw_iload d_MD_naturals_97 rfl ?_
    refine aw_iload_n d_MD_naturals_99 rfl ?_
    refine aw_if_le (tgt := 107) d_MD_naturals_100 (by decide) (fun q => ?_) (fun q => ?_)
    · replace h := h.1 q
      refine aw_iconst (v := 0) d_MD_naturals_107 (by decide) ?_
      refine aw_callS (as := [.inl x6, .inl (0 : Int32)]) d_MD_naturals_108 lm_MD_121 rfl (Nat.le_of_ble_eq_true rfl) rfl h (fun r2 u1 h => ?_)
      refine aw_istore d_MD_naturals_111 (Nat.le_of_ble_eq_true rfl) ?_
      refine aw_iload d_MD_naturals_113 rfl ?_
      refine aw_iload d_MD_naturals_115 rfl ?_
      refine aw_callS (as := [.inl x4, .inl r2]) d_MD_naturals_117 lm_MD_128 rfl (Nat.le_of_ble_eq_true rfl) rfl h (fun r4 u3 h => ?_)
      refine aw_if_ne (tgt := 145) d_MD_naturals_120 (by decide) (fun q => ?_) (fun q => ?_)
      · replace h := h.1 q
        refine aw_iinc (v := 1) d_MD_naturals_145 rfl (by decide) ?_
        refine aw_goto (tgt := 82) d_MD_naturals_148 (by decide) ?_
        refine aw_drop 7 ?_
        exact h
      · replace h := h.2 q
        refine aw_aload_n d_MD_naturals_123 rfl ?_
        refine aw_iload d_MD_naturals_124 rfl ?_
        refine aw_iload_n d_MD_naturals_126 rfl ?_
        refine aw_icmp_ne (tgt := 135) d_MD_naturals_127 (by decide) (fun q => ?_) (fun q => ?_)
        · replace h := h.1 q
          refine aw_aload_n d_MD_naturals_135 rfl ?_
          refine aw_getI d_MD_naturals_136 lf_MD_194 rfl rfl ?_
          refine aw_putI d_MD_naturals_139 lf_MD_194 ⟨_, _, _, rfl, rfl, rfl⟩ rfl rfl ?_
          refine aw_mem (fun u5 e => ?_)
          replace h := h _ e
          refine aw_iinc (v := 1) d_MD_naturals_142 rfl (by decide) ?_
          refine aw_iinc (v := 1) d_MD_naturals_145 rfl (by decide) ?_
          refine aw_goto (tgt := 82) d_MD_naturals_148 (by decide) ?_
          refine aw_drop 7 ?_
          exact h
        · replace h := h.2 q
          refine aw_iload d_MD_naturals_130 rfl ?_
          refine aw_goto (tgt := 139) d_MD_naturals_132 (by decide) ?_
          refine aw_putI d_MD_naturals_139 lf_MD_194 ⟨_, _, _, rfl, rfl, rfl⟩ rfl rfl ?_
          refine aw_mem (fun u6 e => ?_)
          replace h := h _ e
          refine aw_iinc (v := 1) d_MD_naturals_142 rfl (by decide) ?_
          refine aw_iinc (v := 1) d_MD_naturals_145 rfl (by decide) ?_
          refine aw_goto (tgt := 82) d_MD_naturals_148 (by decide) ?_
          refine aw_drop 7 ?_
          exact h
    · replace h := h.2 q
      refine aw_iconst (v := 1) d_MD_naturals_103 (by decide) ?_
      refine aw_goto (tgt := 108) d_MD_naturals_104 (by decide) ?_
      refine aw_callS (as := [.inl x6, .inl (1 : Int32)]) d_MD_naturals_108 lm_MD_121 rfl (Nat.le_of_ble_eq_true rfl) rfl h (fun r8 u7 h => ?_)
      refine aw_istore d_MD_naturals_111 (Nat.le_of_ble_eq_true rfl) ?_
      refine aw_iload d_MD_naturals_113 rfl ?_
      refine aw_iload d_MD_naturals_115 rfl ?_
      refine aw_callS (as := [.inl x4, .inl r8]) d_MD_naturals_117 lm_MD_128 rfl (Nat.le_of_ble_eq_true rfl) rfl h (fun r10 u9 h => ?_)
      refine aw_if_ne (tgt := 145) d_MD_naturals_120 (by decide) (fun q => ?_) (fun q => ?_)
      · replace h := h.1 q
        refine aw_iinc (v := 1) d_MD_naturals_145 rfl (by decide) ?_
        refine aw_goto (tgt := 82) d_MD_naturals_148 (by decide) ?_
        refine aw_drop 7 ?_
        exact h
      · replace h := h.2 q
        refine aw_aload_n d_MD_naturals_123 rfl ?_
        refine aw_iload d_MD_naturals_124 rfl ?_
        refine aw_iload_n d_MD_naturals_126 rfl ?_
        refine aw_icmp_ne (tgt := 135) d_MD_naturals_127 (by decide) (fun q => ?_) (fun q => ?_)
        · replace h := h.1 q
          refine aw_aload_n d_MD_naturals_135 rfl ?_
          refine aw_getI d_MD_naturals_136 lf_MD_194 rfl rfl ?_
          refine aw_putI d_MD_naturals_139 lf_MD_194 ⟨_, _, _, rfl, rfl, rfl⟩ rfl rfl ?_
          refine aw_mem (fun u11 e => ?_)
          replace h := h _ e
          refine aw_iinc (v := 1) d_MD_naturals_142 rfl (by decide) ?_
          refine aw_iinc (v := 1) d_MD_naturals_145 rfl (by decide) ?_
          refine aw_goto (tgt := 82) d_MD_naturals_148 (by decide) ?_
          refine aw_drop 7 ?_
          exact h
        · replace h := h.2 q
          refine aw_iload d_MD_naturals_130 rfl ?_
          refine aw_goto (tgt := 139) d_MD_naturals_132 (by decide) ?_
          refine aw_putI d_MD_naturals_139 lf_MD_194 ⟨_, _, _, rfl, rfl, rfl⟩ rfl rfl ?_
          refine aw_mem (fun u12 e => ?_)
          replace h := h _ e
          refine aw_iinc (v := 1) d_MD_naturals_142 rfl (by decide) ?_
          refine aw_iinc (v := 1) d_MD_naturals_145 rfl (by decide) ?_
          refine aw_goto (tgt := 82) d_MD_naturals_148 (by decide) ?_
          refine aw_drop 7 ?_
          exact h
set_option maxRecDepth 100000 in
theorem vc_MD_keySigns_0 {G : Gp} {d : Nat} {Q : Int32 → Mem → Prop} {x1 : Int32} {μ : Mem}
    (h : Ct G d M_MD_in [.inl x1, .inl (0 : Int32), .inl (19 : Int32)] μ (fun r2 u1 => (¬ r2 = 0 → Ct G d M_MD_keyOf [.inr 42, .inl x1] u1 (fun r4 u3 => Ct G d M_MD_keyBefore [.inr 42, .inl x1] u3 (fun r6 u5 => (¬ r4 = r6 → Ct G d M_MD_naturals [.inr 42, .inl x1, .inl (-1 : Int32)] u5 (fun r8 u7 => (0 ≤ r4 → Q (r8 + r4) u7) ∧ (¬ 0 ≤ r4 → Q (r8 + (-r4)) u7))) ∧ (r4 = r6 → Q (0 : Int32) u5)))) ∧ (r2 = 0 → Q (-3 : Int32) u1))) :
    AW G (d + 1) M_MD_keySigns Q 0 [some (.inr 42), some (.inl x1), none] [] μ := by
  refine aw_iload_n d_MD_keySigns_0 rfl ?_
  refine aw_iconst (v := 0) d_MD_keySigns_1 (by decide) ?_
  refine aw_bipush (v := 19) d_MD_keySigns_2 (by decide) ?_
  refine aw_callS (as := [.inl x1, .inl (0 : Int32), .inl (19 : Int32)]) d_MD_keySigns_4 lm_MD_93 rfl (Nat.le_of_ble_eq_true rfl) rfl h (fun r2 u1 h => ?_)
  refine aw_if_ne (tgt := 13) d_MD_keySigns_7 (by decide) (fun q => ?_) (fun q => ?_)
  · replace h := h.1 q
    refine aw_aload_n d_MD_keySigns_13 rfl ?_
    refine aw_iload_n d_MD_keySigns_14 rfl ?_
    refine aw_callV (as := [.inl x1]) d_MD_keySigns_15 lm_MD_115 rfl rfl (by decide) rfl (Nat.le_of_ble_eq_true rfl) rfl h (fun r4 u3 h => ?_)
    refine aw_istore_n d_MD_keySigns_18 (Nat.le_of_ble_eq_true rfl) ?_
    refine aw_iload_n d_MD_keySigns_19 rfl ?_
    refine aw_aload_n d_MD_keySigns_20 rfl ?_
    refine aw_iload_n d_MD_keySigns_21 rfl ?_
    refine aw_callV (as := [.inl x1]) d_MD_keySigns_22 lm_MD_191 rfl rfl (by decide) rfl (Nat.le_of_ble_eq_true rfl) rfl h (fun r6 u5 h => ?_)
    refine aw_icmp_ne (tgt := 32) d_MD_keySigns_25 (by decide) (fun q => ?_) (fun q => ?_)
    · replace h := h.1 q
      refine aw_aload_n d_MD_keySigns_32 rfl ?_
      refine aw_iload_n d_MD_keySigns_33 rfl ?_
      refine aw_iconst (v := (-1)) d_MD_keySigns_34 (by decide) ?_
      refine aw_callV (as := [.inl x1, .inl (-1 : Int32)]) d_MD_keySigns_35 lm_MD_197 rfl rfl (by decide) rfl (Nat.le_of_ble_eq_true rfl) rfl h (fun r8 u7 h => ?_)
      refine aw_iload_n d_MD_keySigns_38 rfl ?_
      refine aw_if_ge (tgt := 47) d_MD_keySigns_39 (by decide) (fun q => ?_) (fun q => ?_)
      · replace h := h.1 q
        refine aw_iload_n d_MD_keySigns_47 rfl ?_
        refine aw_iadd d_MD_keySigns_48 ?_
        exact aw_iret d_MD_keySigns_49 rfl h
      · replace h := h.2 q
        refine aw_iload_n d_MD_keySigns_42 rfl ?_
        refine aw_ineg d_MD_keySigns_43 ?_
        refine aw_goto (tgt := 48) d_MD_keySigns_44 (by decide) ?_
        refine aw_iadd d_MD_keySigns_48 ?_
        exact aw_iret d_MD_keySigns_49 rfl h
    · replace h := h.2 q
      refine aw_iconst (v := 0) d_MD_keySigns_28 (by decide) ?_
      refine aw_goto (tgt := 49) d_MD_keySigns_29 (by decide) ?_
      exact aw_iret d_MD_keySigns_49 rfl h
  · replace h := h.2 q
    refine aw_bipush (v := (-3)) d_MD_keySigns_10 (by decide) ?_
    exact aw_iret d_MD_keySigns_12 rfl h
theorem en_MD_keySigns {G : Gp} {d : Nat} {Q : Int32 → Mem → Prop} {x1 : Int32} {μ : Mem}
    (h : AW G (d + 1) M_MD_keySigns Q 0 [some (.inr 42), some (.inl x1), none] [] μ) :
    Ct G (d + 1) M_MD_keySigns [.inr 42, .inl x1] μ Q := ct_of (by decide) (Nat.le_of_ble_eq_true rfl) h
set_option maxRecDepth 100000 in
theorem vc_MD_keySign_0 {G : Gp} {d : Nat} {Q : Int32 → Mem → Prop} {x1 x2 x3 : Int32} {μ : Mem}
    (h : Ct G d M_MD_in [.inl x1, .inl (0 : Int32), .inl (19 : Int32)] μ (fun r2 u1 => (r2 = 0 → Q (-3 : Int32) u1) ∧ (¬ r2 = 0 → Ct G d M_MD_in [.inl x3, .inl (0 : Int32), .inl (2 : Int32)] u1 (fun r4 u3 => (¬ r4 = 0 → Ct G d M_MD_keySigns [.inr 42, .inl x1] u3 (fun r6 u5 => Ct G d M_MD_in [.inl x2, .inl (0 : Int32), .inl (r6 - (1 : Int32))] u5 (fun r8 u7 => (¬ r8 = 0 → Ct G d M_MD_naturals [.inr 42, .inl x1, .inl x2] u7 (fun r10 u9 => (r10 ≤ x2 → Ct G d M_MD_keyOf [.inr 42, .inl x1] u9 (fun r12 u11 => AW G (d + 1) M_MD_keySign Q 67 [some (.inr 42), some (.inl x1), some (.inl x2), some (.inl x3), some (.inl r10), none, none, none, none, none] [.inl r12] u11)) ∧ (¬ r10 ≤ x2 → Ct G d M_MD_keyBefore [.inr 42, .inl x1] u9 (fun r14 u13 => AW G (d + 1) M_MD_keySign Q 67 [some (.inr 42), some (.inl x1), some (.inl x2), some (.inl x3), some (.inl r10), none, none, none, none, none] [.inl r14] u13)))) ∧ (r8 = 0 → Q (-2 : Int32) u7)))) ∧ (r4 = 0 → Q (-3 : Int32) u3))))) :
    AW G (d + 1) M_MD_keySign Q 0 [some (.inr 42), some (.inl x1), some (.inl x2), some (.inl x3), none, none, none, none, none, none] [] μ := by
  refine aw_iload_n d_MD_keySign_0 rfl ?_
  refine aw_iconst (v := 0) d_MD_keySign_1 (by decide) ?_
  refine aw_bipush (v := 19) d_MD_keySign_2 (by decide) ?_
  refine aw_callS (as := [.inl x1, .inl (0 : Int32), .inl (19 : Int32)]) d_MD_keySign_4 lm_MD_93 rfl (Nat.le_of_ble_eq_true rfl) rfl h (fun r2 u1 h => ?_)
  refine aw_if_eq (tgt := 19) d_MD_keySign_7 (by decide) (fun q => ?_) (fun q => ?_)
  · replace h := h.1 q
    refine aw_bipush (v := (-3)) d_MD_keySign_19 (by decide) ?_
    exact aw_iret d_MD_keySign_21 rfl h
  · replace h := h.2 q
    refine aw_iload_n d_MD_keySign_10 rfl ?_
    refine aw_iconst (v := 0) d_MD_keySign_11 (by decide) ?_
    refine aw_iconst (v := 2) d_MD_keySign_12 (by decide) ?_
    refine aw_callS (as := [.inl x3, .inl (0 : Int32), .inl (2 : Int32)]) d_MD_keySign_13 lm_MD_93 rfl (Nat.le_of_ble_eq_true rfl) rfl h (fun r4 u3 h => ?_)
    refine aw_if_ne (tgt := 22) d_MD_keySign_16 (by decide) (fun q => ?_) (fun q => ?_)
    · replace h := h.1 q
      refine aw_iload_n d_MD_keySign_22 rfl ?_
      refine aw_iconst (v := 0) d_MD_keySign_23 (by decide) ?_
      refine aw_aload_n d_MD_keySign_24 rfl ?_
      refine aw_iload_n d_MD_keySign_25 rfl ?_
      refine aw_callV (as := [.inl x1]) d_MD_keySign_26 lm_MD_200 rfl rfl (by decide) rfl (Nat.le_of_ble_eq_true rfl) rfl h (fun r6 u5 h => ?_)
      refine aw_iconst (v := 1) d_MD_keySign_29 (by decide) ?_
      refine aw_isub d_MD_keySign_30 ?_
      refine aw_callS (as := [.inl x2, .inl (0 : Int32), .inl (r6 - (1 : Int32))]) d_MD_keySign_31 lm_MD_93 rfl (Nat.le_of_ble_eq_true rfl) rfl h (fun r8 u7 h => ?_)
      refine aw_if_ne (tgt := 40) d_MD_keySign_34 (by decide) (fun q => ?_) (fun q => ?_)
      · replace h := h.1 q
        refine aw_aload_n d_MD_keySign_40 rfl ?_
        refine aw_iload_n d_MD_keySign_41 rfl ?_
        refine aw_iload_n d_MD_keySign_42 rfl ?_
        refine aw_callV (as := [.inl x1, .inl x2]) d_MD_keySign_43 lm_MD_197 rfl rfl (by decide) rfl (Nat.le_of_ble_eq_true rfl) rfl h (fun r10 u9 h => ?_)
        refine aw_istore d_MD_keySign_46 (Nat.le_of_ble_eq_true rfl) ?_
        refine aw_iload_n d_MD_keySign_48 rfl ?_
        refine aw_iload d_MD_keySign_49 rfl ?_
        refine aw_icmp_ge (tgt := 62) d_MD_keySign_51 (by decide) (fun q => ?_) (fun q => ?_)
        · replace h := h.1 q
          refine aw_aload_n d_MD_keySign_62 rfl ?_
          refine aw_iload_n d_MD_keySign_63 rfl ?_
          refine aw_callV (as := [.inl x1]) d_MD_keySign_64 lm_MD_115 rfl rfl (by decide) rfl (Nat.le_of_ble_eq_true rfl) rfl h (fun r12 u11 h => ?_)
          exact h
        · replace h := h.2 q
          refine aw_aload_n d_MD_keySign_54 rfl ?_
          refine aw_iload_n d_MD_keySign_55 rfl ?_
          refine aw_callV (as := [.inl x1]) d_MD_keySign_56 lm_MD_191 rfl rfl (by decide) rfl (Nat.le_of_ble_eq_true rfl) rfl h (fun r14 u13 h => ?_)
          refine aw_goto (tgt := 67) d_MD_keySign_59 (by decide) ?_
          exact h
      · replace h := h.2 q
        refine aw_bipush (v := (-2)) d_MD_keySign_37 (by decide) ?_
        exact aw_iret d_MD_keySign_39 rfl h
    · replace h := h.2 q
      refine aw_bipush (v := (-3)) d_MD_keySign_19 (by decide) ?_
      exact aw_iret d_MD_keySign_21 rfl h
theorem en_MD_keySign {G : Gp} {d : Nat} {Q : Int32 → Mem → Prop} {x1 x2 x3 : Int32} {μ : Mem}
    (h : AW G (d + 1) M_MD_keySign Q 0 [some (.inr 42), some (.inl x1), some (.inl x2), some (.inl x3), none, none, none, none, none, none] [] μ) :
    Ct G (d + 1) M_MD_keySign [.inr 42, .inl x1, .inl x2, .inl x3] μ Q := ct_of (by decide) (Nat.le_of_ble_eq_true rfl) h
set_option maxRecDepth 100000 in
theorem vc_MD_keySign_67 {G : Gp} {d : Nat} {Q : Int32 → Mem → Prop} {x1 x2 x3 x4 s0 : Int32} {μ : Mem}
    (h : (x4 ≤ x2 → (s0 ≤ 0 → AW G (d + 1) M_MD_keySign Q 96 [some (.inr 42), some (.inl x1), some (.inl x2), some (.inl x3), some (.inl x4), some (.inl s0), none, none, none, none] [.inl (0 : Int32), .inl (x2 - x4)] μ) ∧ (¬ s0 ≤ 0 → AW G (d + 1) M_MD_keySign Q 96 [some (.inr 42), some (.inl x1), some (.inl x2), some (.inl x3), some (.inl x4), some (.inl s0), none, none, none, none] [.inl (1 : Int32), .inl (x2 - x4)] μ)) ∧ (¬ x4 ≤ x2 → AW G (d + 1) M_MD_keySign Q 99 [some (.inr 42), some (.inl x1), some (.inl x2), some (.inl x3), some (.inl x4), some (.inl s0), none, none, none, none] [.inl (μ 42 30)] μ)) :
    AW G (d + 1) M_MD_keySign Q 67 [some (.inr 42), some (.inl x1), some (.inl x2), some (.inl x3), some (.inl x4), none, none, none, none, none] [.inl s0] μ := by
  refine aw_istore d_MD_keySign_67 (Nat.le_of_ble_eq_true rfl) ?_
  refine aw_iload_n d_MD_keySign_69 rfl ?_
  refine aw_iload d_MD_keySign_70 rfl ?_
  refine aw_icmp_ge (tgt := 82) d_MD_keySign_72 (by decide) (fun q => ?_) (fun q => ?_)
  · replace h := h.1 q
    refine aw_iload_n d_MD_keySign_82 rfl ?_
    refine aw_iload d_MD_keySign_83 rfl ?_
    refine aw_isub d_MD_keySign_85 ?_
    refine aw_iload d_MD_keySign_86 rfl ?_
    refine aw_if_le (tgt := 95) d_MD_keySign_88 (by decide) (fun q => ?_) (fun q => ?_)
    · replace h := h.1 q
      refine aw_iconst (v := 0) d_MD_keySign_95 (by decide) ?_
      exact h
    · replace h := h.2 q
      refine aw_iconst (v := 1) d_MD_keySign_91 (by decide) ?_
      refine aw_goto (tgt := 96) d_MD_keySign_92 (by decide) ?_
      exact h
  · replace h := h.2 q
    refine aw_aload_n d_MD_keySign_75 rfl ?_
    refine aw_getI d_MD_keySign_76 lf_MD_194 rfl rfl ?_
    refine aw_goto (tgt := 99) d_MD_keySign_79 (by decide) ?_
    exact h
set_option maxRecDepth 100000 in
theorem vc_MD_keySign_96 {G : Gp} {d : Nat} {Q : Int32 → Mem → Prop} {x1 x2 x3 x4 x5 s0 s1 : Int32} {μ : Mem}
    (h : Ct G d M_MD_letter [.inl s1, .inl s0] μ (fun r2 u1 => AW G (d + 1) M_MD_keySign Q 99 [some (.inr 42), some (.inl x1), some (.inl x2), some (.inl x3), some (.inl x4), some (.inl x5), none, none, none, none] [.inl r2] u1)) :
    AW G (d + 1) M_MD_keySign Q 96 [some (.inr 42), some (.inl x1), some (.inl x2), some (.inl x3), some (.inl x4), some (.inl x5), none, none, none, none] [.inl s0, .inl s1] μ := by
  refine aw_callS (as := [.inl s1, .inl s0]) d_MD_keySign_96 lm_MD_121 rfl (Nat.le_of_ble_eq_true rfl) rfl h (fun r2 u1 h => ?_)
  exact h
set_option maxRecDepth 100000 in
theorem vc_MD_keySign_99 {G : Gp} {d : Nat} {Q : Int32 → Mem → Prop} {x1 x2 x3 x4 x5 s0 : Int32} {μ : Mem}
    (h : (¬ x3 = 0 → (¬ x3 = (1 : Int32) → Ct G d M_MD_clefOf [.inr 42, .inl x1] μ (fun r2 u1 => (¬ r2 = 0 → (¬ r2 = (1 : Int32) → AW G (d + 1) M_MD_keySign Q 167 [none, none, none, none, none, some (.inl x5), some (.inl s0), some (.inl r2), none, none] [.inl (24 : Int32)] u1) ∧ (r2 = (1 : Int32) → AW G (d + 1) M_MD_keySign Q 167 [none, none, none, none, none, some (.inl x5), some (.inl s0), some (.inl r2), none, none] [.inl (18 : Int32)] u1)) ∧ (r2 = 0 → AW G (d + 1) M_MD_keySign Q 167 [none, none, none, none, none, some (.inl x5), some (.inl s0), some (.inl r2), none, none] [.inl (30 : Int32)] u1))) ∧ (x3 = (1 : Int32) → (x4 ≤ x2 → (x5 ≤ 0 → Q (8 : Int32) μ) ∧ (¬ x5 ≤ 0 → Q (12 : Int32) μ)) ∧ (¬ x4 ≤ x2 → Q (10 : Int32) μ))) ∧ (x3 = 0 → Q s0 μ)) :
    AW G (d + 1) M_MD_keySign Q 99 [some (.inr 42), some (.inl x1), some (.inl x2), some (.inl x3), some (.inl x4), some (.inl x5), none, none, none, none] [.inl s0] μ := by
  refine aw_istore d_MD_keySign_99 (Nat.le_of_ble_eq_true rfl) ?_
  refine aw_iload_n d_MD_keySign_101 rfl ?_
  refine aw_if_ne (tgt := 108) d_MD_keySign_102 (by decide) (fun q => ?_) (fun q => ?_)
  · replace h := h.1 q
    refine aw_iload_n d_MD_keySign_108 rfl ?_
    refine aw_iconst (v := 1) d_MD_keySign_109 (by decide) ?_
    refine aw_icmp_ne (tgt := 137) d_MD_keySign_110 (by decide) (fun q => ?_) (fun q => ?_)
    · replace h := h.1 q
      refine aw_aload_n d_MD_keySign_137 rfl ?_
      refine aw_iload_n d_MD_keySign_138 rfl ?_
      refine aw_callV (as := [.inl x1]) d_MD_keySign_139 lm_MD_118 rfl rfl (by decide) rfl (Nat.le_of_ble_eq_true rfl) rfl h (fun r2 u1 h => ?_)
      refine aw_istore d_MD_keySign_142 (Nat.le_of_ble_eq_true rfl) ?_
      refine aw_iload d_MD_keySign_144 rfl ?_
      refine aw_if_ne (tgt := 154) d_MD_keySign_146 (by decide) (fun q => ?_) (fun q => ?_)
      · replace h := h.1 q
        refine aw_iload d_MD_keySign_154 rfl ?_
        refine aw_iconst (v := 1) d_MD_keySign_156 (by decide) ?_
        refine aw_icmp_ne (tgt := 165) d_MD_keySign_157 (by decide) (fun q => ?_) (fun q => ?_)
        · replace h := h.1 q
          refine aw_bipush (v := 24) d_MD_keySign_165 (by decide) ?_
          refine aw_drop 0 ?_
          refine aw_drop 1 ?_
          refine aw_drop 2 ?_
          refine aw_drop 3 ?_
          refine aw_drop 4 ?_
          exact h
        · replace h := h.2 q
          refine aw_bipush (v := 18) d_MD_keySign_160 (by decide) ?_
          refine aw_goto (tgt := 167) d_MD_keySign_162 (by decide) ?_
          refine aw_drop 0 ?_
          refine aw_drop 1 ?_
          refine aw_drop 2 ?_
          refine aw_drop 3 ?_
          refine aw_drop 4 ?_
          exact h
      · replace h := h.2 q
        refine aw_bipush (v := 30) d_MD_keySign_149 (by decide) ?_
        refine aw_goto (tgt := 167) d_MD_keySign_151 (by decide) ?_
        refine aw_drop 0 ?_
        refine aw_drop 1 ?_
        refine aw_drop 2 ?_
        refine aw_drop 3 ?_
        refine aw_drop 4 ?_
        exact h
    · replace h := h.2 q
      refine aw_iload_n d_MD_keySign_113 rfl ?_
      refine aw_iload d_MD_keySign_114 rfl ?_
      refine aw_icmp_ge (tgt := 124) d_MD_keySign_116 (by decide) (fun q => ?_) (fun q => ?_)
      · replace h := h.1 q
        refine aw_iload d_MD_keySign_124 rfl ?_
        refine aw_if_le (tgt := 134) d_MD_keySign_126 (by decide) (fun q => ?_) (fun q => ?_)
        · replace h := h.1 q
          refine aw_bipush (v := 8) d_MD_keySign_134 (by decide) ?_
          exact aw_iret d_MD_keySign_136 rfl h
        · replace h := h.2 q
          refine aw_bipush (v := 12) d_MD_keySign_129 (by decide) ?_
          refine aw_goto (tgt := 136) d_MD_keySign_131 (by decide) ?_
          exact aw_iret d_MD_keySign_136 rfl h
      · replace h := h.2 q
        refine aw_bipush (v := 10) d_MD_keySign_119 (by decide) ?_
        refine aw_goto (tgt := 136) d_MD_keySign_121 (by decide) ?_
        exact aw_iret d_MD_keySign_136 rfl h
  · replace h := h.2 q
    refine aw_iload d_MD_keySign_105 rfl ?_
    exact aw_iret d_MD_keySign_107 rfl h
