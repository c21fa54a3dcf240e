/-! verification conditions, by program -/
set_option maxRecDepth 100000 in
theorem vc_DS_forget_0 {G : Gp} {d : Nat} {Q : Int32 → Mem → Prop} {μ : Mem}
    (h : ∀ u1 : Mem, u1 = up μ 33 8 (-1 : Int32) → Q 0 u1) :
    AW G d M_DS_forget Q 0 [some (.inr 33)] [] μ := by
  refine aw_aload_n d_DS_forget_0 rfl ?_
  refine aw_iconst (v := (-1)) d_DS_forget_1 (by decide) ?_
  refine aw_putI d_DS_forget_2 lf_DS_24 ⟨_, _, _, rfl, rfl, rfl⟩ rfl rfl ?_
  refine aw_mem (fun u1 e => ?_)
  replace h := h _ e
  exact aw_vret d_DS_forget_5 rfl h
theorem en_DS_forget {G : Gp} {d : Nat} {Q : Int32 → Mem → Prop} {μ : Mem}
    (h : AW G d M_DS_forget Q 0 [some (.inr 33)] [] μ) :
    Ct G d M_DS_forget [.inr 33] μ Q := ct_of (by decide) (Nat.le_of_ble_eq_true rfl) h
set_option maxRecDepth 100000 in
theorem vc_DS_layOut_0 {G : Gp} {d : Nat} {Q : Int32 → Mem → Prop} {x1 : Int32} {μ : Mem}
    (h : (¬ x1 = (μ 33 8) → ∀ u1 : Mem, u1 = up μ 33 8 x1 → Ct G d M_NO_chordEnd [.inr 1, .inl x1] u1 (fun r3 u2 => Ct G d M_DS_collectFromTop [.inr 33, .inl x1, .inl r3] u2 (fun _ u4 => (¬ (u4 33 5) = 0 → vp_in ((u4 33 5) - (1 : Int32)) 60 ∧ ∀ y5 : Int32, y5 = ((u4 35 (ix ((u4 33 5) - (1 : Int32)))) - (u4 33 5)) → (¬ (y5 - y5 / (2 : Int32) * (2 : Int32)) = 0 → ∀ u6 : Mem, u6 = up u4 33 6 y5 → vp_in (0 : Int32) 60 ∧ ∀ u7 : Mem, u7 = up u6 33 7 (mmin (((((u6 35 (ix (0 : Int32))) + (u6 33 5)) - (u6 33 6)) / (2 : Int32)) + (1 : Int32)) (96 : Int32)) → Ct G d M_DS_fillCosts [.inr 33] u7 (fun _ u8 => Ct G d M_DS_chooseSpaces [.inr 33] u8 (fun _ u9 => Q 0 u9))) ∧ ((y5 - y5 / (2 : Int32) * (2 : Int32)) = 0 → ∀ u10 : Mem, u10 = up u4 33 6 (y5 + (1 : Int32)) → vp_in (0 : Int32) 60 ∧ ∀ u11 : Mem, u11 = up u10 33 7 (mmin (((((u10 35 (ix (0 : Int32))) + (u10 33 5)) - (u10 33 6)) / (2 : Int32)) + (1 : Int32)) (96 : Int32)) → Ct G d M_DS_fillCosts [.inr 33] u11 (fun _ u12 => Ct G d M_DS_chooseSpaces [.inr 33] u12 (fun _ u13 => Q 0 u13)))) ∧ ((u4 33 5) = 0 → Q 0 u4)))) ∧ (x1 = (μ 33 8) → Q 0 μ)) :
    AW G (d + 1) M_DS_layOut Q 0 [some (.inr 33), some (.inl x1), none] [] μ := by
  refine aw_iload_n d_DS_layOut_0 rfl ?_
  refine aw_aload_n d_DS_layOut_1 rfl ?_
  refine aw_getI d_DS_layOut_2 lf_DS_24 rfl rfl ?_
  refine aw_icmp_ne (tgt := 9) d_DS_layOut_5 (by decide) (fun q => ?_) (fun q => ?_)
  · replace h := h.1 q
    refine aw_aload_n d_DS_layOut_9 rfl ?_
    refine aw_iload_n d_DS_layOut_10 rfl ?_
    refine aw_putI d_DS_layOut_11 lf_DS_24 ⟨_, _, _, rfl, rfl, rfl⟩ rfl rfl ?_
    refine aw_mem (fun u1 e => ?_)
    replace h := h _ e
    refine aw_aload_n d_DS_layOut_14 rfl ?_
    refine aw_iload_n d_DS_layOut_15 rfl ?_
    refine aw_aload_n d_DS_layOut_16 rfl ?_
    refine aw_getR (t := 1) d_DS_layOut_17 lf_DS_28 rfl rfl ?_
    refine aw_iload_n d_DS_layOut_20 rfl ?_
    refine aw_callV (as := [.inl x1]) d_DS_layOut_21 lm_DS_32 rfl rfl (by decide) rfl (Nat.le_of_ble_eq_true rfl) rfl h (fun r3 u2 h => ?_)
    refine aw_callVv (as := [.inl x1, .inl r3]) d_DS_layOut_24 lm_DS_38 rfl rfl (by decide) rfl (Nat.le_of_ble_eq_true rfl) rfl h (fun u4 h => ?_)
    refine aw_aload_n d_DS_layOut_27 rfl ?_
    refine aw_getI d_DS_layOut_28 lf_DS_42 rfl rfl ?_
    refine aw_if_ne (tgt := 35) d_DS_layOut_31 (by decide) (fun q => ?_) (fun q => ?_)
    · replace h := h.1 q
      refine aw_aload_n d_DS_layOut_35 rfl ?_
      refine aw_getR (t := 35) d_DS_layOut_36 lf_DS_15 rfl rfl ?_
      refine aw_aload_n d_DS_layOut_39 rfl ?_
      refine aw_getI d_DS_layOut_40 lf_DS_42 rfl rfl ?_
      refine aw_iconst (v := 1) d_DS_layOut_43 (by decide) ?_
      refine aw_isub d_DS_layOut_44 ?_
      refine aw_iald d_DS_layOut_45 rfl h.1 ?_
      replace h := h.2
      refine aw_aload_n d_DS_layOut_46 rfl ?_
      refine aw_getI d_DS_layOut_47 lf_DS_42 rfl rfl ?_
      refine aw_isub d_DS_layOut_50 ?_
      refine aw_top (fun y5 e => ?_)
      replace h := h _ e
      refine aw_istore_n d_DS_layOut_51 (Nat.le_of_ble_eq_true rfl) ?_
      refine aw_aload_n d_DS_layOut_52 rfl ?_
      refine aw_iload_n d_DS_layOut_53 rfl ?_
      refine aw_iconst (v := 2) d_DS_layOut_54 (by decide) ?_
      refine aw_irem d_DS_layOut_55 (by decide) ?_
      refine aw_if_ne (tgt := 65) d_DS_layOut_56 (by decide) (fun q => ?_) (fun q => ?_)
      · replace h := h.1 q
        refine aw_iload_n d_DS_layOut_65 rfl ?_
        refine aw_putI d_DS_layOut_66 lf_DS_45 ⟨_, _, _, rfl, rfl, rfl⟩ rfl rfl ?_
        refine aw_mem (fun u6 e => ?_)
        replace h := h _ e
        refine aw_aload_n d_DS_layOut_69 rfl ?_
        refine aw_aload_n d_DS_layOut_70 rfl ?_
        refine aw_getR (t := 35) d_DS_layOut_71 lf_DS_15 rfl rfl ?_
        refine aw_iconst (v := 0) d_DS_layOut_74 (by decide) ?_
        refine aw_iald d_DS_layOut_75 rfl h.1 ?_
        replace h := h.2
        refine aw_aload_n d_DS_layOut_76 rfl ?_
        refine aw_getI d_DS_layOut_77 lf_DS_42 rfl rfl ?_
        refine aw_iadd d_DS_layOut_80 ?_
        refine aw_aload_n d_DS_layOut_81 rfl ?_
        refine aw_getI d_DS_layOut_82 lf_DS_45 rfl rfl ?_
        refine aw_isub d_DS_layOut_85 ?_
        refine aw_iconst (v := 2) d_DS_layOut_86 (by decide) ?_
        refine aw_idiv d_DS_layOut_87 (by decide) ?_
        refine aw_iconst (v := 1) d_DS_layOut_88 (by decide) ?_
        refine aw_iadd d_DS_layOut_89 ?_
        refine aw_bipush (v := 96) d_DS_layOut_90 (by decide) ?_
        refine aw_mmin d_DS_layOut_92 lk_DS_48 (Nat.le_of_ble_eq_true rfl) (by omega) ?_
        refine aw_putI d_DS_layOut_95 lf_DS_54 ⟨_, _, _, rfl, rfl, rfl⟩ rfl rfl ?_
        refine aw_mem (fun u7 e => ?_)
        replace h := h _ e
        refine aw_aload_n d_DS_layOut_98 rfl ?_
        refine aw_callVv (as := []) d_DS_layOut_99 lm_DS_57 rfl rfl (by decide) rfl (Nat.le_of_ble_eq_true rfl) rfl h (fun u8 h => ?_)
        refine aw_aload_n d_DS_layOut_102 rfl ?_
        refine aw_callVv (as := []) d_DS_layOut_103 lm_DS_60 rfl rfl (by decide) rfl (Nat.le_of_ble_eq_true rfl) rfl h (fun u9 h => ?_)
        exact aw_vret d_DS_layOut_106 rfl h
      · replace h := h.2 q
        refine aw_iload_n d_DS_layOut_59 rfl ?_
        refine aw_iconst (v := 1) d_DS_layOut_60 (by decide) ?_
        refine aw_iadd d_DS_layOut_61 ?_
        refine aw_goto (tgt := 66) d_DS_layOut_62 (by decide) ?_
        refine aw_putI d_DS_layOut_66 lf_DS_45 ⟨_, _, _, rfl, rfl, rfl⟩ rfl rfl ?_
        refine aw_mem (fun u10 e => ?_)
        replace h := h _ e
        refine aw_aload_n d_DS_layOut_69 rfl ?_
        refine aw_aload_n d_DS_layOut_70 rfl ?_
        refine aw_getR (t := 35) d_DS_layOut_71 lf_DS_15 rfl rfl ?_
        refine aw_iconst (v := 0) d_DS_layOut_74 (by decide) ?_
        refine aw_iald d_DS_layOut_75 rfl h.1 ?_
        replace h := h.2
        refine aw_aload_n d_DS_layOut_76 rfl ?_
        refine aw_getI d_DS_layOut_77 lf_DS_42 rfl rfl ?_
        refine aw_iadd d_DS_layOut_80 ?_
        refine aw_aload_n d_DS_layOut_81 rfl ?_
        refine aw_getI d_DS_layOut_82 lf_DS_45 rfl rfl ?_
        refine aw_isub d_DS_layOut_85 ?_
        refine aw_iconst (v := 2) d_DS_layOut_86 (by decide) ?_
        refine aw_idiv d_DS_layOut_87 (by decide) ?_
        refine aw_iconst (v := 1) d_DS_layOut_88 (by decide) ?_
        refine aw_iadd d_DS_layOut_89 ?_
        refine aw_bipush (v := 96) d_DS_layOut_90 (by decide) ?_
        refine aw_mmin d_DS_layOut_92 lk_DS_48 (Nat.le_of_ble_eq_true rfl) (by omega) ?_
        refine aw_putI d_DS_layOut_95 lf_DS_54 ⟨_, _, _, rfl, rfl, rfl⟩ rfl rfl ?_
        refine aw_mem (fun u11 e => ?_)
        replace h := h _ e
        refine aw_aload_n d_DS_layOut_98 rfl ?_
        refine aw_callVv (as := []) d_DS_layOut_99 lm_DS_57 rfl rfl (by decide) rfl (Nat.le_of_ble_eq_true rfl) rfl h (fun u12 h => ?_)
        refine aw_aload_n d_DS_layOut_102 rfl ?_
        refine aw_callVv (as := []) d_DS_layOut_103 lm_DS_60 rfl rfl (by decide) rfl (Nat.le_of_ble_eq_true rfl) rfl h (fun u13 h => ?_)
        exact aw_vret d_DS_layOut_106 rfl h
    · replace h := h.2 q
      exact aw_vret d_DS_layOut_34 rfl h
  · replace h := h.2 q
    exact aw_vret d_DS_layOut_8 rfl h
theorem en_DS_layOut {G : Gp} {d : Nat} {Q : Int32 → Mem → Prop} {x1 : Int32} {μ : Mem}
    (h : AW G (d + 1) M_DS_layOut Q 0 [some (.inr 33), some (.inl x1), none] [] μ) :
    Ct G (d + 1) M_DS_layOut [.inr 33, .inl x1] μ Q := ct_of (by decide) (Nat.le_of_ble_eq_true rfl) h
set_option maxRecDepth 100000 in
theorem vc_DS_distanceFrom_0 {G : Gp} {d : Nat} {Q : Int32 → Mem → Prop} {x1 : Int32} {μ : Mem}
    (h : AW G d M_DS_distanceFrom Q 2 [some (.inr 33), some (.inl x1), some (.inl (0 : Int32))] [] μ) :
    AW G d M_DS_distanceFrom Q 0 [some (.inr 33), some (.inl x1), none] [] μ := by
  refine aw_iconst (v := 0) d_DS_distanceFrom_0 (by decide) ?_
  refine aw_istore_n d_DS_distanceFrom_1 (Nat.le_of_ble_eq_true rfl) ?_
  exact h
theorem en_DS_distanceFrom {G : Gp} {d : Nat} {Q : Int32 → Mem → Prop} {x1 : Int32} {μ : Mem}
    (h : AW G d M_DS_distanceFrom Q 0 [some (.inr 33), some (.inl x1), none] [] μ) :
    Ct G d M_DS_distanceFrom [.inr 33, .inl x1] μ Q := ct_of (by decide) (Nat.le_of_ble_eq_true rfl) h
set_option maxRecDepth 100000 in
theorem vc_DS_distanceFrom_2 {G : Gp} {d : Nat} {Q : Int32 → Mem → Prop} {x1 x2 : Int32} {μ : Mem}
    (h : ((μ 33 5) ≤ x2 → Q (0 : Int32) μ) ∧ (¬ (μ 33 5) ≤ x2 → vp_in x2 60 ∧ (¬ (μ 35 (ix x2)) = x1 → AW G d M_DS_distanceFrom Q 2 [some (.inr 33), some (.inl x1), some (.inl (x2 + (1 : Int32)))] [] μ) ∧ ((μ 35 (ix x2)) = x1 → vp_in x2 60 ∧ Q ((μ 36 (ix x2)) - x1) μ))) :
    AW G d M_DS_distanceFrom Q 2 [some (.inr 33), some (.inl x1), some (.inl x2)] [] μ := by
  refine aw_iload_n d_DS_distanceFrom_2 rfl ?_
  refine aw_aload_n d_DS_distanceFrom_3 rfl ?_
  refine aw_getI d_DS_distanceFrom_4 lf_DS_42 rfl rfl ?_
  refine aw_icmp_ge (tgt := 35) d_DS_distanceFrom_7 (by decide) (fun q => ?_) (fun q => ?_)
  · replace h := h.1 q
    refine aw_iconst (v := 0) d_DS_distanceFrom_35 (by decide) ?_
    exact aw_iret d_DS_distanceFrom_36 rfl h
  · replace h := h.2 q
    refine aw_aload_n d_DS_distanceFrom_10 rfl ?_
    refine aw_getR (t := 35) d_DS_distanceFrom_11 lf_DS_15 rfl rfl ?_
    refine aw_iload_n d_DS_distanceFrom_14 rfl ?_
    refine aw_iald d_DS_distanceFrom_15 rfl h.1 ?_
    replace h := h.2
    refine aw_iload_n d_DS_distanceFrom_16 rfl ?_
    refine aw_icmp_ne (tgt := 29) d_DS_distanceFrom_17 (by decide) (fun q => ?_) (fun q => ?_)
    · replace h := h.1 q
      refine aw_iinc (v := 1) d_DS_distanceFrom_29 rfl (by decide) ?_
      refine aw_goto (tgt := 2) d_DS_distanceFrom_32 (by decide) ?_
      exact h
    · replace h := h.2 q
      refine aw_aload_n d_DS_distanceFrom_20 rfl ?_
      refine aw_getR (t := 36) d_DS_distanceFrom_21 lf_DS_18 rfl rfl ?_
      refine aw_iload_n d_DS_distanceFrom_24 rfl ?_
      refine aw_iald d_DS_distanceFrom_25 rfl h.1 ?_
      replace h := h.2
      refine aw_iload_n d_DS_distanceFrom_26 rfl ?_
      refine aw_isub d_DS_distanceFrom_27 ?_
      exact aw_iret d_DS_distanceFrom_28 rfl h
set_option maxRecDepth 100000 in
theorem vc_DS_collectFromTop_0 {G : Gp} {d : Nat} {Q : Int32 → Mem → Prop} {x1 x2 : Int32} {μ : Mem}
    (h : Ct G d M_JA_fill [.inr 34, .inl (0 : Int32)] μ (fun _ u1 => AW G (d + 1) M_DS_collectFromTop Q 10 [some (.inr 33), none, some (.inl x2), some (.inl x1), none] [] u1)) :
    AW G (d + 1) M_DS_collectFromTop Q 0 [some (.inr 33), some (.inl x1), some (.inl x2), none, none] [] μ := by
  refine aw_aload_n d_DS_collectFromTop_0 rfl ?_
  refine aw_getR (t := 34) d_DS_collectFromTop_1 lf_DS_9 rfl rfl ?_
  refine aw_iconst (v := 0) d_DS_collectFromTop_4 (by decide) ?_
  refine aw_callSv (as := [.inr 34, .inl (0 : Int32)]) d_DS_collectFromTop_5 lm_DS_63 rfl (Nat.le_of_ble_eq_true rfl) rfl h (fun u1 h => ?_)
  refine aw_iload_n d_DS_collectFromTop_8 rfl ?_
  refine aw_istore_n d_DS_collectFromTop_9 (Nat.le_of_ble_eq_true rfl) ?_
  refine aw_drop 1 ?_
  exact h
theorem en_DS_collectFromTop {G : Gp} {d : Nat} {Q : Int32 → Mem → Prop} {x1 x2 : Int32} {μ : Mem}
    (h : AW G (d + 1) M_DS_collectFromTop Q 0 [some (.inr 33), some (.inl x1), some (.inl x2), none, none] [] μ) :
    Ct G (d + 1) M_DS_collectFromTop [.inr 33, .inl x1, .inl x2] μ Q := ct_of (by decide) (Nat.le_of_ble_eq_true rfl) h
set_option maxRecDepth 100000 in
theorem vc_DS_collectFromTop_10 {G : Gp} {d : Nat} {Q : Int32 → Mem → Prop} {x2 x3 : Int32} {μ : Mem}
    (h : (x2 ≤ x3 → ∀ u1 : Mem, u1 = up μ 33 5 (0 : Int32) → AW G (d + 1) M_DS_collectFromTop Q 69 [some (.inr 33), none, none, some (.inl (69 : Int32)), none] [] u1) ∧ (¬ x2 ≤ x3 → vp_in x3 60 ∧ ∀ y2 : Int32, y2 = (μ 7 (ix x3)) → Ct G d M_NO_markOf [.inr 1, .inl y2, .inl (2 : Int32)] μ (fun r4 u3 => (r4 ≤ 0 → AW G (d + 1) M_DS_collectFromTop Q 10 [some (.inr 33), none, some (.inl x2), some (.inl (x3 + (1 : Int32))), none] [] u3) ∧ (¬ r4 ≤ 0 → vp_in y2 60 ∧ vp_in (u3 2 (ix y2)) 70 ∧ ∀ u5 : Mem, u5 = up u3 34 (ix (u3 2 (ix y2))) (1 : Int32) → AW G (d + 1) M_DS_collectFromTop Q 10 [some (.inr 33), none, some (.inl x2), some (.inl (x3 + (1 : Int32))), none] [] u5)))) :
    AW G (d + 1) M_DS_collectFromTop Q 10 [some (.inr 33), none, some (.inl x2), some (.inl x3), none] [] μ := by
  refine aw_iload_n d_DS_collectFromTop_10 rfl ?_
  refine aw_iload_n d_DS_collectFromTop_11 rfl ?_
  refine aw_icmp_ge (tgt := 61) d_DS_collectFromTop_12 (by decide) (fun q => ?_) (fun q => ?_)
  · replace h := h.1 q
    refine aw_aload_n d_DS_collectFromTop_61 rfl ?_
    refine aw_iconst (v := 0) d_DS_collectFromTop_62 (by decide) ?_
    refine aw_putI d_DS_collectFromTop_63 lf_DS_42 ⟨_, _, _, rfl, rfl, rfl⟩ rfl rfl ?_
    refine aw_mem (fun u1 e => ?_)
    replace h := h _ e
    refine aw_bipush (v := 69) d_DS_collectFromTop_66 (by decide) ?_
    refine aw_istore_n d_DS_collectFromTop_68 (Nat.le_of_ble_eq_true rfl) ?_
    refine aw_drop 2 ?_
    exact h
  · replace h := h.2 q
    refine aw_aload_n d_DS_collectFromTop_15 rfl ?_
    refine aw_getR (t := 1) d_DS_collectFromTop_16 lf_DS_28 rfl rfl ?_
    refine aw_getR (t := 7) d_DS_collectFromTop_19 lf_DS_69 rfl rfl ?_
    refine aw_iload_n d_DS_collectFromTop_22 rfl ?_
    refine aw_iald d_DS_collectFromTop_23 rfl h.1 ?_
    replace h := h.2
    refine aw_top (fun y2 e => ?_)
    replace h := h _ e
    refine aw_istore d_DS_collectFromTop_24 (Nat.le_of_ble_eq_true rfl) ?_
    refine aw_aload_n d_DS_collectFromTop_26 rfl ?_
    refine aw_getR (t := 1) d_DS_collectFromTop_27 lf_DS_28 rfl rfl ?_
    refine aw_iload d_DS_collectFromTop_30 rfl ?_
    refine aw_iconst (v := 2) d_DS_collectFromTop_32 (by decide) ?_
    refine aw_callV (as := [.inl y2, .inl (2 : Int32)]) d_DS_collectFromTop_33 lm_DS_72 rfl rfl (by decide) rfl (Nat.le_of_ble_eq_true rfl) rfl h (fun r4 u3 h => ?_)
    refine aw_if_le (tgt := 55) d_DS_collectFromTop_36 (by decide) (fun q => ?_) (fun q => ?_)
    · replace h := h.1 q
      refine aw_iinc (v := 1) d_DS_collectFromTop_55 rfl (by decide) ?_
      refine aw_goto (tgt := 10) d_DS_collectFromTop_58 (by decide) ?_
      refine aw_drop 4 ?_
      exact h
    · replace h := h.2 q
      refine aw_aload_n d_DS_collectFromTop_39 rfl ?_
      refine aw_getR (t := 34) d_DS_collectFromTop_40 lf_DS_9 rfl rfl ?_
      refine aw_aload_n d_DS_collectFromTop_43 rfl ?_
      refine aw_getR (t := 1) d_DS_collectFromTop_44 lf_DS_28 rfl rfl ?_
      refine aw_getR (t := 2) d_DS_collectFromTop_47 lf_DS_75 rfl rfl ?_
      refine aw_iload d_DS_collectFromTop_50 rfl ?_
      refine aw_iald d_DS_collectFromTop_52 rfl h.1 ?_
      replace h := h.2
      refine aw_iconst (v := 1) d_DS_collectFromTop_53 (by decide) ?_
      refine aw_iast d_DS_collectFromTop_54 rfl h.1 ?_
      replace h := h.2
      refine aw_mem (fun u5 e => ?_)
      replace h := h _ e
      refine aw_iinc (v := 1) d_DS_collectFromTop_55 rfl (by decide) ?_
      refine aw_goto (tgt := 10) d_DS_collectFromTop_58 (by decide) ?_
      refine aw_drop 4 ?_
      exact h
set_option maxRecDepth 100000 in
theorem vc_DS_collectFromTop_69 {G : Gp} {d : Nat} {Q : Int32 → Mem → Prop} {x3 : Int32} {μ : Mem}
    (h : (x3 < 0 → Q 0 μ) ∧ (¬ x3 < 0 → vp_in x3 70 ∧ (¬ (μ 34 (ix x3)) = (1 : Int32) → AW G (d + 1) M_DS_collectFromTop Q 69 [some (.inr 33), none, none, some (.inl (x3 + (-1 : Int32))), none] [] μ) ∧ ((μ 34 (ix x3)) = (1 : Int32) → ((60 : Int32) ≤ (μ 33 5) → AW G (d + 1) M_DS_collectFromTop Q 69 [some (.inr 33), none, none, some (.inl (x3 + (-1 : Int32))), none] [] μ) ∧ (¬ (60 : Int32) ≤ (μ 33 5) → vp_in (μ 33 5) 60 ∧ ∀ u1 : Mem, u1 = up μ 35 (ix (μ 33 5)) x3 → ∀ u2 : Mem, u2 = up u1 33 5 ((u1 33 5) + (1 : Int32)) → AW G (d + 1) M_DS_collectFromTop Q 69 [some (.inr 33), none, none, some (.inl (x3 + (-1 : Int32))), none] [] u2)))) :
    AW G (d + 1) M_DS_collectFromTop Q 69 [some (.inr 33), none, none, some (.inl x3), none] [] μ := by
  refine aw_iload_n d_DS_collectFromTop_69 rfl ?_
  refine aw_if_lt (tgt := 118) d_DS_collectFromTop_70 (by decide) (fun q => ?_) (fun q => ?_)
  · replace h := h.1 q
    exact aw_vret d_DS_collectFromTop_118 rfl h
  · replace h := h.2 q
    refine aw_aload_n d_DS_collectFromTop_73 rfl ?_
    refine aw_getR (t := 34) d_DS_collectFromTop_74 lf_DS_9 rfl rfl ?_
    refine aw_iload_n d_DS_collectFromTop_77 rfl ?_
    refine aw_iald d_DS_collectFromTop_78 rfl h.1 ?_
    replace h := h.2
    refine aw_iconst (v := 1) d_DS_collectFromTop_79 (by decide) ?_
    refine aw_icmp_ne (tgt := 112) d_DS_collectFromTop_80 (by decide) (fun q => ?_) (fun q => ?_)
    · replace h := h.1 q
      refine aw_iinc (v := (-1)) d_DS_collectFromTop_112 rfl (by decide) ?_
      refine aw_goto (tgt := 69) d_DS_collectFromTop_115 (by decide) ?_
      exact h
    · replace h := h.2 q
      refine aw_aload_n d_DS_collectFromTop_83 rfl ?_
      refine aw_getI d_DS_collectFromTop_84 lf_DS_42 rfl rfl ?_
      refine aw_bipush (v := 60) d_DS_collectFromTop_87 (by decide) ?_
      refine aw_icmp_ge (tgt := 112) d_DS_collectFromTop_89 (by decide) (fun q => ?_) (fun q => ?_)
      · replace h := h.1 q
        refine aw_iinc (v := (-1)) d_DS_collectFromTop_112 rfl (by decide) ?_
        refine aw_goto (tgt := 69) d_DS_collectFromTop_115 (by decide) ?_
        exact h
      · replace h := h.2 q
        refine aw_aload_n d_DS_collectFromTop_92 rfl ?_
        refine aw_getR (t := 35) d_DS_collectFromTop_93 lf_DS_15 rfl rfl ?_
        refine aw_aload_n d_DS_collectFromTop_96 rfl ?_
        refine aw_getI d_DS_collectFromTop_97 lf_DS_42 rfl rfl ?_
        refine aw_iload_n d_DS_collectFromTop_100 rfl ?_
        refine aw_iast d_DS_collectFromTop_101 rfl h.1 ?_
        replace h := h.2
        refine aw_mem (fun u1 e => ?_)
        replace h := h _ e
        refine aw_aload_n d_DS_collectFromTop_102 rfl ?_
        refine aw_dup d_DS_collectFromTop_103 ?_
        refine aw_getI d_DS_collectFromTop_104 lf_DS_42 rfl rfl ?_
        refine aw_iconst (v := 1) d_DS_collectFromTop_107 (by decide) ?_
        refine aw_iadd d_DS_collectFromTop_108 ?_
        refine aw_putI d_DS_collectFromTop_109 lf_DS_42 ⟨_, _, _, rfl, rfl, rfl⟩ rfl rfl ?_
        refine aw_mem (fun u2 e => ?_)
        replace h := h _ e
        refine aw_iinc (v := (-1)) d_DS_collectFromTop_112 rfl (by decide) ?_
        refine aw_goto (tgt := 69) d_DS_collectFromTop_115 (by decide) ?_
        exact h
set_option maxRecDepth 100000 in
theorem vc_DS_spaceAt_0 {G : Gp} {d : Nat} {Q : Int32 → Mem → Prop} {x1 : Int32} {μ : Mem}
    (h : Q ((μ 33 6) + ((2 : Int32) * x1)) μ) :
    AW G d M_DS_spaceAt Q 0 [some (.inr 33), some (.inl x1)] [] μ := by
  refine aw_aload_n d_DS_spaceAt_0 rfl ?_
  refine aw_getI d_DS_spaceAt_1 lf_DS_45 rfl rfl ?_
  refine aw_iconst (v := 2) d_DS_spaceAt_4 (by decide) ?_
  refine aw_iload_n d_DS_spaceAt_5 rfl ?_
  refine aw_imul d_DS_spaceAt_6 ?_
  refine aw_iadd d_DS_spaceAt_7 ?_
  exact aw_iret d_DS_spaceAt_8 rfl h
theorem en_DS_spaceAt {G : Gp} {d : Nat} {Q : Int32 → Mem → Prop} {x1 : Int32} {μ : Mem}
    (h : AW G d M_DS_spaceAt Q 0 [some (.inr 33), some (.inl x1)] [] μ) :
    Ct G d M_DS_spaceAt [.inr 33, .inl x1] μ Q := ct_of (by decide) (Nat.le_of_ble_eq_true rfl) h
set_option maxRecDepth 100000 in
theorem vc_DS_fillCosts_0 {G : Gp} {d : Nat} {Q : Int32 → Mem → Prop} {μ : Mem}
    (h : ∀ y1 : Int32, y1 = ((μ 33 5) - (1 : Int32)) → AW G (d + 1) M_DS_fillCosts Q 7 [some (.inr 33), some (.inl y1), none, none, none, none] [] μ) :
    AW G (d + 1) M_DS_fillCosts Q 0 [some (.inr 33), none, none, none, none, none] [] μ := by
  refine aw_aload_n d_DS_fillCosts_0 rfl ?_
  refine aw_getI d_DS_fillCosts_1 lf_DS_42 rfl rfl ?_
  refine aw_iconst (v := 1) d_DS_fillCosts_4 (by decide) ?_
  refine aw_isub d_DS_fillCosts_5 ?_
  refine aw_top (fun y1 e => ?_)
  replace h := h _ e
  refine aw_istore_n d_DS_fillCosts_6 (Nat.le_of_ble_eq_true rfl) ?_
  exact h
theorem en_DS_fillCosts {G : Gp} {d : Nat} {Q : Int32 → Mem → Prop} {μ : Mem}
    (h : AW G (d + 1) M_DS_fillCosts Q 0 [some (.inr 33), none, none, none, none, none] [] μ) :
    Ct G (d + 1) M_DS_fillCosts [.inr 33] μ Q := ct_of (by decide) (Nat.le_of_ble_eq_true rfl) h
set_option maxRecDepth 100000 in
theorem vc_DS_fillCosts_7 {G : Gp} {d : Nat} {Q : Int32 → Mem → Prop} {x1 : Int32} {μ : Mem}
    (h : (x1 < 0 → Q 0 μ) ∧ (¬ x1 < 0 → (¬ x1 = ((μ 33 5) - (1 : Int32)) → ((0 : Int32) = 0 → AW G (d + 1) M_DS_fillCosts Q 41 [some (.inr 33), some (.inl x1), some (.inl (0 : Int32)), some (.inl (1000000 : Int32)), some (.inl (0 : Int32)), none] [] μ) ∧ (¬ (0 : Int32) = 0 → AW G (d + 1) M_DS_fillCosts Q 41 [some (.inr 33), some (.inl x1), some (.inl (0 : Int32)), some (.inl (0 : Int32)), some (.inl (0 : Int32)), none] [] μ)) ∧ (x1 = ((μ 33 5) - (1 : Int32)) → ((1 : Int32) = 0 → AW G (d + 1) M_DS_fillCosts Q 41 [some (.inr 33), some (.inl x1), some (.inl (1 : Int32)), some (.inl (1000000 : Int32)), some (.inl (0 : Int32)), none] [] μ) ∧ (¬ (1 : Int32) = 0 → AW G (d + 1) M_DS_fillCosts Q 41 [some (.inr 33), some (.inl x1), some (.inl (1 : Int32)), some (.inl (0 : Int32)), some (.inl (0 : Int32)), none] [] μ)))) :
    AW G (d + 1) M_DS_fillCosts Q 7 [some (.inr 33), some (.inl x1), none, none, none, none] [] μ := by
  refine aw_iload_n d_DS_fillCosts_7 rfl ?_
  refine aw_if_lt (tgt := 131) d_DS_fillCosts_8 (by decide) (fun q => ?_) (fun q => ?_)
  · replace h := h.1 q
    exact aw_vret d_DS_fillCosts_131 rfl h
  · replace h := h.2 q
    refine aw_iload_n d_DS_fillCosts_11 rfl ?_
    refine aw_aload_n d_DS_fillCosts_12 rfl ?_
    refine aw_getI d_DS_fillCosts_13 lf_DS_42 rfl rfl ?_
    refine aw_iconst (v := 1) d_DS_fillCosts_16 (by decide) ?_
    refine aw_isub d_DS_fillCosts_17 ?_
    refine aw_icmp_ne (tgt := 25) d_DS_fillCosts_18 (by decide) (fun q => ?_) (fun q => ?_)
    · replace h := h.1 q
      refine aw_iconst (v := 0) d_DS_fillCosts_25 (by decide) ?_
      refine aw_istore_n d_DS_fillCosts_26 (Nat.le_of_ble_eq_true rfl) ?_
      refine aw_iload_n d_DS_fillCosts_27 rfl ?_
      refine aw_if_eq (tgt := 35) d_DS_fillCosts_28 (by decide) (fun q => ?_) (fun q => ?_)
      · replace h := h.1 q
        refine aw_ldc (v := 1000000) d_DS_fillCosts_35 lc_DS_78 ?_
        refine aw_istore_n d_DS_fillCosts_37 (Nat.le_of_ble_eq_true rfl) ?_
        refine aw_iconst (v := 0) d_DS_fillCosts_38 (by decide) ?_
        refine aw_istore d_DS_fillCosts_39 (Nat.le_of_ble_eq_true rfl) ?_
        exact h
      · replace h := h.2 q
        refine aw_iconst (v := 0) d_DS_fillCosts_31 (by decide) ?_
        refine aw_goto (tgt := 37) d_DS_fillCosts_32 (by decide) ?_
        refine aw_istore_n d_DS_fillCosts_37 (Nat.le_of_ble_eq_true rfl) ?_
        refine aw_iconst (v := 0) d_DS_fillCosts_38 (by decide) ?_
        refine aw_istore d_DS_fillCosts_39 (Nat.le_of_ble_eq_true rfl) ?_
        exact h
    · replace h := h.2 q
      refine aw_iconst (v := 1) d_DS_fillCosts_21 (by decide) ?_
      refine aw_goto (tgt := 26) d_DS_fillCosts_22 (by decide) ?_
      refine aw_istore_n d_DS_fillCosts_26 (Nat.le_of_ble_eq_true rfl) ?_
      refine aw_iload_n d_DS_fillCosts_27 rfl ?_
      refine aw_if_eq (tgt := 35) d_DS_fillCosts_28 (by decide) (fun q => ?_) (fun q => ?_)
      · replace h := h.1 q
        refine aw_ldc (v := 1000000) d_DS_fillCosts_35 lc_DS_78 ?_
        refine aw_istore_n d_DS_fillCosts_37 (Nat.le_of_ble_eq_true rfl) ?_
        refine aw_iconst (v := 0) d_DS_fillCosts_38 (by decide) ?_
        refine aw_istore d_DS_fillCosts_39 (Nat.le_of_ble_eq_true rfl) ?_
        exact h
      · replace h := h.2 q
        refine aw_iconst (v := 0) d_DS_fillCosts_31 (by decide) ?_
        refine aw_goto (tgt := 37) d_DS_fillCosts_32 (by decide) ?_
        refine aw_istore_n d_DS_fillCosts_37 (Nat.le_of_ble_eq_true rfl) ?_
        refine aw_iconst (v := 0) d_DS_fillCosts_38 (by decide) ?_
        refine aw_istore d_DS_fillCosts_39 (Nat.le_of_ble_eq_true rfl) ?_
        exact h
set_option maxRecDepth 100000 in
theorem vc_DS_fillCosts_41 {G : Gp} {d : Nat} {Q : Int32 → Mem → Prop} {x1 x2 x3 x4 : Int32} {μ : Mem}
    (h : ((μ 33 7) ≤ x4 → AW G (d + 1) M_DS_fillCosts Q 7 [some (.inr 33), some (.inl (x1 + (-1 : Int32))), none, none, none, none] [] μ) ∧ (¬ (μ 33 7) ≤ x4 → (¬ x2 = 0 → Ct G d M_DS_spaceAt [.inr 33, .inl x4] μ (fun r2 u1 => vp_in x1 60 ∧ ∀ y3 : Int32, y3 = (mabs (r2 - (u1 35 (ix x1)))) → vp_in ((x1 * (96 : Int32)) + x4) 5760 ∧ ∀ u4 : Mem, u4 = up u1 37 (ix ((x1 * (96 : Int32)) + x4)) (mmin (x3 + y3) (1000000 : Int32)) → AW G (d + 1) M_DS_fillCosts Q 41 [some (.inr 33), some (.inl x1), some (.inl x2), some (.inl x3), some (.inl (x4 + (1 : Int32))), none] [] u4)) ∧ (x2 = 0 → (x4 ≤ 0 → Ct G d M_DS_spaceAt [.inr 33, .inl x4] μ (fun r6 u5 => vp_in x1 60 ∧ ∀ y7 : Int32, y7 = (mabs (r6 - (u5 35 (ix x1)))) → vp_in ((x1 * (96 : Int32)) + x4) 5760 ∧ ∀ u8 : Mem, u8 = up u5 37 (ix ((x1 * (96 : Int32)) + x4)) (mmin (x3 + y7) (1000000 : Int32)) → AW G (d + 1) M_DS_fillCosts Q 41 [some (.inr 33), some (.inl x1), some (.inl x2), some (.inl x3), some (.inl (x4 + (1 : Int32))), none] [] u8)) ∧ (¬ x4 ≤ 0 → vp_in ((((x1 + (1 : Int32)) * (96 : Int32)) + x4) - (1 : Int32)) 5760 ∧ ∀ y9 : Int32, y9 = (mmin x3 (μ 37 (ix ((((x1 + (1 : Int32)) * (96 : Int32)) + x4) - (1 : Int32))))) → Ct G d M_DS_spaceAt [.inr 33, .inl x4] μ (fun r11 u10 => vp_in x1 60 ∧ ∀ y12 : Int32, y12 = (mabs (r11 - (u10 35 (ix x1)))) → vp_in ((x1 * (96 : Int32)) + x4) 5760 ∧ ∀ u13 : Mem, u13 = up u10 37 (ix ((x1 * (96 : Int32)) + x4)) (mmin (y9 + y12) (1000000 : Int32)) → AW G (d + 1) M_DS_fillCosts Q 41 [some (.inr 33), some (.inl x1), some (.inl x2), some (.inl y9), some (.inl (x4 + (1 : Int32))), none] [] u13))))) :
    AW G (d + 1) M_DS_fillCosts Q 41 [some (.inr 33), some (.inl x1), some (.inl x2), some (.inl x3), some (.inl x4), none] [] μ := by
  refine aw_iload d_DS_fillCosts_41 rfl ?_
  refine aw_aload_n d_DS_fillCosts_43 rfl ?_
  refine aw_getI d_DS_fillCosts_44 lf_DS_54 rfl rfl ?_
  refine aw_icmp_ge (tgt := 125) d_DS_fillCosts_47 (by decide) (fun q => ?_) (fun q => ?_)
  · replace h := h.1 q
    refine aw_iinc (v := (-1)) d_DS_fillCosts_125 rfl (by decide) ?_
    refine aw_goto (tgt := 7) d_DS_fillCosts_128 (by decide) ?_
    refine aw_drop 2 ?_
    refine aw_drop 3 ?_
    refine aw_drop 4 ?_
    exact h
  · replace h := h.2 q
    refine aw_iload_n d_DS_fillCosts_50 rfl ?_
    refine aw_if_ne (tgt := 80) d_DS_fillCosts_51 (by decide) (fun q => ?_) (fun q => ?_)
    · replace h := h.1 q
      refine aw_aload_n d_DS_fillCosts_80 rfl ?_
      refine aw_iload d_DS_fillCosts_81 rfl ?_
      refine aw_callV (as := [.inl x4]) d_DS_fillCosts_83 lm_DS_79 rfl rfl (by decide) rfl (Nat.le_of_ble_eq_true rfl) rfl h (fun r2 u1 h => ?_)
      refine aw_aload_n d_DS_fillCosts_86 rfl ?_
      refine aw_getR (t := 35) d_DS_fillCosts_87 lf_DS_15 rfl rfl ?_
      refine aw_iload_n d_DS_fillCosts_90 rfl ?_
      refine aw_iald d_DS_fillCosts_91 rfl h.1 ?_
      replace h := h.2
      refine aw_isub d_DS_fillCosts_92 ?_
      refine aw_mabs d_DS_fillCosts_93 lk_DS_82 (Nat.le_of_ble_eq_true rfl) (by omega) ?_
      refine aw_top (fun y3 e => ?_)
      replace h := h _ e
      refine aw_istore d_DS_fillCosts_96 (Nat.le_of_ble_eq_true rfl) ?_
      refine aw_aload_n d_DS_fillCosts_98 rfl ?_
      refine aw_getR (t := 37) d_DS_fillCosts_99 lf_DS_21 rfl rfl ?_
      refine aw_iload_n d_DS_fillCosts_102 rfl ?_
      refine aw_bipush (v := 96) d_DS_fillCosts_103 (by decide) ?_
      refine aw_imul d_DS_fillCosts_105 ?_
      refine aw_iload d_DS_fillCosts_106 rfl ?_
      refine aw_iadd d_DS_fillCosts_108 ?_
      refine aw_iload_n d_DS_fillCosts_109 rfl ?_
      refine aw_iload d_DS_fillCosts_110 rfl ?_
      refine aw_iadd d_DS_fillCosts_112 ?_
      refine aw_ldc (v := 1000000) d_DS_fillCosts_113 lc_DS_78 ?_
      refine aw_mmin d_DS_fillCosts_115 lk_DS_48 (Nat.le_of_ble_eq_true rfl) (by omega) ?_
      refine aw_iast d_DS_fillCosts_118 rfl h.1 ?_
      replace h := h.2
      refine aw_mem (fun u4 e => ?_)
      replace h := h _ e
      refine aw_iinc (v := 1) d_DS_fillCosts_119 rfl (by decide) ?_
      refine aw_goto (tgt := 41) d_DS_fillCosts_122 (by decide) ?_
      refine aw_drop 5 ?_
      exact h
    · replace h := h.2 q
      refine aw_iload d_DS_fillCosts_54 rfl ?_
      refine aw_if_le (tgt := 80) d_DS_fillCosts_56 (by decide) (fun q => ?_) (fun q => ?_)
      · replace h := h.1 q
        refine aw_aload_n d_DS_fillCosts_80 rfl ?_
        refine aw_iload d_DS_fillCosts_81 rfl ?_
        refine aw_callV (as := [.inl x4]) d_DS_fillCosts_83 lm_DS_79 rfl rfl (by decide) rfl (Nat.le_of_ble_eq_true rfl) rfl h (fun r6 u5 h => ?_)
        refine aw_aload_n d_DS_fillCosts_86 rfl ?_
        refine aw_getR (t := 35) d_DS_fillCosts_87 lf_DS_15 rfl rfl ?_
        refine aw_iload_n d_DS_fillCosts_90 rfl ?_
        refine aw_iald d_DS_fillCosts_91 rfl h.1 ?_
        replace h := h.2
        refine aw_isub d_DS_fillCosts_92 ?_
        refine aw_mabs d_DS_fillCosts_93 lk_DS_82 (Nat.le_of_ble_eq_true rfl) (by omega) ?_
        refine aw_top (fun y7 e => ?_)
        replace h := h _ e
        refine aw_istore d_DS_fillCosts_96 (Nat.le_of_ble_eq_true rfl) ?_
        refine aw_aload_n d_DS_fillCosts_98 rfl ?_
        refine aw_getR (t := 37) d_DS_fillCosts_99 lf_DS_21 rfl rfl ?_
        refine aw_iload_n d_DS_fillCosts_102 rfl ?_
        refine aw_bipush (v := 96) d_DS_fillCosts_103 (by decide) ?_
        refine aw_imul d_DS_fillCosts_105 ?_
        refine aw_iload d_DS_fillCosts_106 rfl ?_
        refine aw_iadd d_DS_fillCosts_108 ?_
        refine aw_iload_n d_DS_fillCosts_109 rfl ?_
        refine aw_iload d_DS_fillCosts_110 rfl ?_
        refine aw_iadd d_DS_fillCosts_112 ?_
        refine aw_ldc (v := 1000000) d_DS_fillCosts_113 lc_DS_78 ?_
        refine aw_mmin d_DS_fillCosts_115 lk_DS_48 (Nat.le_of_ble_eq_true rfl) (by omega) ?_
        refine aw_iast d_DS_fillCosts_118 rfl h.1 ?_
        replace h := h.2
        refine aw_mem (fun u8 e => ?_)
        replace h := h _ e
        refine aw_iinc (v := 1) d_DS_fillCosts_119 rfl (by decide) ?_
        refine aw_goto (tgt := 41) d_DS_fillCosts_122 (by decide) ?_
        refine aw_drop 5 ?_
        exact h
      · replace h := h.2 q
        refine aw_iload_n d_DS_fillCosts_59 rfl ?_
        refine aw_aload_n d_DS_fillCosts_60 rfl ?_
        refine aw_getR (t := 37) d_DS_fillCosts_61 lf_DS_21 rfl rfl ?_
        refine aw_iload_n d_DS_fillCosts_64 rfl ?_
        refine aw_iconst (v := 1) d_DS_fillCosts_65 (by decide) ?_
        refine aw_iadd d_DS_fillCosts_66 ?_
        refine aw_bipush (v := 96) d_DS_fillCosts_67 (by decide) ?_
        refine aw_imul d_DS_fillCosts_69 ?_
        refine aw_iload d_DS_fillCosts_70 rfl ?_
        refine aw_iadd d_DS_fillCosts_72 ?_
        refine aw_iconst (v := 1) d_DS_fillCosts_73 (by decide) ?_
        refine aw_isub d_DS_fillCosts_74 ?_
        refine aw_iald d_DS_fillCosts_75 rfl h.1 ?_
        replace h := h.2
        refine aw_mmin d_DS_fillCosts_76 lk_DS_48 (Nat.le_of_ble_eq_true rfl) (by omega) ?_
        refine aw_top (fun y9 e => ?_)
        replace h := h _ e
        refine aw_istore_n d_DS_fillCosts_79 (Nat.le_of_ble_eq_true rfl) ?_
        refine aw_aload_n d_DS_fillCosts_80 rfl ?_
        refine aw_iload d_DS_fillCosts_81 rfl ?_
        refine aw_callV (as := [.inl x4]) d_DS_fillCosts_83 lm_DS_79 rfl rfl (by decide) rfl (Nat.le_of_ble_eq_true rfl) rfl h (fun r11 u10 h => ?_)
        refine aw_aload_n d_DS_fillCosts_86 rfl ?_
        refine aw_getR (t := 35) d_DS_fillCosts_87 lf_DS_15 rfl rfl ?_
        refine aw_iload_n d_DS_fillCosts_90 rfl ?_
        refine aw_iald d_DS_fillCosts_91 rfl h.1 ?_
        replace h := h.2
        refine aw_isub d_DS_fillCosts_92 ?_
        refine aw_mabs d_DS_fillCosts_93 lk_DS_82 (Nat.le_of_ble_eq_true rfl) (by omega) ?_
        refine aw_top (fun y12 e => ?_)
        replace h := h _ e
        refine aw_istore d_DS_fillCosts_96 (Nat.le_of_ble_eq_true rfl) ?_
        refine aw_aload_n d_DS_fillCosts_98 rfl ?_
        refine aw_getR (t := 37) d_DS_fillCosts_99 lf_DS_21 rfl rfl ?_
        refine aw_iload_n d_DS_fillCosts_102 rfl ?_
        refine aw_bipush (v := 96) d_DS_fillCosts_103 (by decide) ?_
        refine aw_imul d_DS_fillCosts_105 ?_
        refine aw_iload d_DS_fillCosts_106 rfl ?_
        refine aw_iadd d_DS_fillCosts_108 ?_
        refine aw_iload_n d_DS_fillCosts_109 rfl ?_
        refine aw_iload d_DS_fillCosts_110 rfl ?_
        refine aw_iadd d_DS_fillCosts_112 ?_
        refine aw_ldc (v := 1000000) d_DS_fillCosts_113 lc_DS_78 ?_
        refine aw_mmin d_DS_fillCosts_115 lk_DS_48 (Nat.le_of_ble_eq_true rfl) (by omega) ?_
        refine aw_iast d_DS_fillCosts_118 rfl h.1 ?_
        replace h := h.2
        refine aw_mem (fun u13 e => ?_)
        replace h := h _ e
        refine aw_iinc (v := 1) d_DS_fillCosts_119 rfl (by decide) ?_
        refine aw_goto (tgt := 41) d_DS_fillCosts_122 (by decide) ?_
        refine aw_drop 5 ?_
        exact h
set_option maxRecDepth 100000 in
theorem vc_DS_chooseSpaces_0 {G : Gp} {d : Nat} {Q : Int32 → Mem → Prop} {μ : Mem}
    (h : ∀ y1 : Int32, y1 = (μ 33 7) → AW G (d + 1) M_DS_chooseSpaces Q 7 [some (.inr 33), some (.inl y1), some (.inl (0 : Int32)), none, none] [] μ) :
    AW G (d + 1) M_DS_chooseSpaces Q 0 [some (.inr 33), none, none, none, none] [] μ := by
  refine aw_aload_n d_DS_chooseSpaces_0 rfl ?_
  refine aw_getI d_DS_chooseSpaces_1 lf_DS_54 rfl rfl ?_
  refine aw_top (fun y1 e => ?_)
  replace h := h _ e
  refine aw_istore_n d_DS_chooseSpaces_4 (Nat.le_of_ble_eq_true rfl) ?_
  refine aw_iconst (v := 0) d_DS_chooseSpaces_5 (by decide) ?_
  refine aw_istore_n d_DS_chooseSpaces_6 (Nat.le_of_ble_eq_true rfl) ?_
  exact h
theorem en_DS_chooseSpaces {G : Gp} {d : Nat} {Q : Int32 → Mem → Prop} {μ : Mem}
    (h : AW G (d + 1) M_DS_chooseSpaces Q 0 [some (.inr 33), none, none, none, none] [] μ) :
    Ct G (d + 1) M_DS_chooseSpaces [.inr 33] μ Q := ct_of (by decide) (Nat.le_of_ble_eq_true rfl) h
set_option maxRecDepth 100000 in
theorem vc_DS_chooseSpaces_7 {G : Gp} {d : Nat} {Q : Int32 → Mem → Prop} {x1 x2 : Int32} {μ : Mem}
    (h : ((μ 33 5) ≤ x2 → Q 0 μ) ∧ (¬ (μ 33 5) ≤ x2 → ∀ y1 : Int32, y1 = (x1 - (1 : Int32)) → ∀ y2 : Int32, y2 = (x1 - (2 : Int32)) → AW G (d + 1) M_DS_chooseSpaces Q 24 [some (.inr 33), none, some (.inl x2), some (.inl y1), some (.inl y2)] [] μ)) :
    AW G (d + 1) M_DS_chooseSpaces Q 7 [some (.inr 33), some (.inl x1), some (.inl x2), none, none] [] μ := by
  refine aw_iload_n d_DS_chooseSpaces_7 rfl ?_
  refine aw_aload_n d_DS_chooseSpaces_8 rfl ?_
  refine aw_getI d_DS_chooseSpaces_9 lf_DS_42 rfl rfl ?_
  refine aw_icmp_ge (tgt := 83) d_DS_chooseSpaces_12 (by decide) (fun q => ?_) (fun q => ?_)
  · replace h := h.1 q
    exact aw_vret d_DS_chooseSpaces_83 rfl h
  · replace h := h.2 q
    refine aw_iload_n d_DS_chooseSpaces_15 rfl ?_
    refine aw_iconst (v := 1) d_DS_chooseSpaces_16 (by decide) ?_
    refine aw_isub d_DS_chooseSpaces_17 ?_
    refine aw_top (fun y1 e => ?_)
    replace h := h _ e
    refine aw_istore_n d_DS_chooseSpaces_18 (Nat.le_of_ble_eq_true rfl) ?_
    refine aw_iload_n d_DS_chooseSpaces_19 rfl ?_
    refine aw_iconst (v := 2) d_DS_chooseSpaces_20 (by decide) ?_
    refine aw_isub d_DS_chooseSpaces_21 ?_
    refine aw_top (fun y2 e => ?_)
    replace h := h _ e
    refine aw_istore d_DS_chooseSpaces_22 (Nat.le_of_ble_eq_true rfl) ?_
    refine aw_drop 1 ?_
    exact h
set_option maxRecDepth 100000 in
theorem vc_DS_chooseSpaces_24 {G : Gp} {d : Nat} {Q : Int32 → Mem → Prop} {x2 x3 x4 : Int32} {μ : Mem}
    (h : (x4 < 0 → Ct G d M_DS_spaceAt [.inr 33, .inl x3] μ (fun r2 u1 => vp_in x2 60 ∧ ∀ u3 : Mem, u3 = up u1 36 (ix x2) r2 → AW G (d + 1) M_DS_chooseSpaces Q 7 [some (.inr 33), some (.inl x3), some (.inl (x2 + (1 : Int32))), none, none] [] u3)) ∧ (¬ x4 < 0 → vp_in ((x2 * (96 : Int32)) + x4) 5760 ∧ vp_in ((x2 * (96 : Int32)) + x3) 5760 ∧ ((μ 37 (ix ((x2 * (96 : Int32)) + x3))) ≤ (μ 37 (ix ((x2 * (96 : Int32)) + x4))) → AW G (d + 1) M_DS_chooseSpaces Q 24 [some (.inr 33), none, some (.inl x2), some (.inl x3), some (.inl (x4 + (-1 : Int32)))] [] μ) ∧ (¬ (μ 37 (ix ((x2 * (96 : Int32)) + x3))) ≤ (μ 37 (ix ((x2 * (96 : Int32)) + x4))) → AW G (d + 1) M_DS_chooseSpaces Q 24 [some (.inr 33), none, some (.inl x2), some (.inl x4), some (.inl (x4 + (-1 : Int32)))] [] μ))) :
    AW G (d + 1) M_DS_chooseSpaces Q 24 [some (.inr 33), none, some (.inl x2), some (.inl x3), some (.inl x4)] [] μ := by
  refine aw_iload d_DS_chooseSpaces_24 rfl ?_
  refine aw_if_lt (tgt := 64) d_DS_chooseSpaces_26 (by decide) (fun q => ?_) (fun q => ?_)
  · replace h := h.1 q
    refine aw_aload_n d_DS_chooseSpaces_64 rfl ?_
    refine aw_getR (t := 36) d_DS_chooseSpaces_65 lf_DS_18 rfl rfl ?_
    refine aw_iload_n d_DS_chooseSpaces_68 rfl ?_
    refine aw_aload_n d_DS_chooseSpaces_69 rfl ?_
    refine aw_iload_n d_DS_chooseSpaces_70 rfl ?_
    refine aw_callV (as := [.inl x3]) d_DS_chooseSpaces_71 lm_DS_79 rfl rfl (by decide) rfl (Nat.le_of_ble_eq_true rfl) rfl h (fun r2 u1 h => ?_)
    refine aw_iast d_DS_chooseSpaces_74 rfl h.1 ?_
    replace h := h.2
    refine aw_mem (fun u3 e => ?_)
    replace h := h _ e
    refine aw_iload_n d_DS_chooseSpaces_75 rfl ?_
    refine aw_istore_n d_DS_chooseSpaces_76 (Nat.le_of_ble_eq_true rfl) ?_
    refine aw_iinc (v := 1) d_DS_chooseSpaces_77 rfl (by decide) ?_
    refine aw_goto (tgt := 7) d_DS_chooseSpaces_80 (by decide) ?_
    refine aw_drop 3 ?_
    refine aw_drop 4 ?_
    exact h
  · replace h := h.2 q
    refine aw_aload_n d_DS_chooseSpaces_29 rfl ?_
    refine aw_getR (t := 37) d_DS_chooseSpaces_30 lf_DS_21 rfl rfl ?_
    refine aw_iload_n d_DS_chooseSpaces_33 rfl ?_
    refine aw_bipush (v := 96) d_DS_chooseSpaces_34 (by decide) ?_
    refine aw_imul d_DS_chooseSpaces_36 ?_
    refine aw_iload d_DS_chooseSpaces_37 rfl ?_
    refine aw_iadd d_DS_chooseSpaces_39 ?_
    refine aw_iald d_DS_chooseSpaces_40 rfl h.1 ?_
    replace h := h.2
    refine aw_aload_n d_DS_chooseSpaces_41 rfl ?_
    refine aw_getR (t := 37) d_DS_chooseSpaces_42 lf_DS_21 rfl rfl ?_
    refine aw_iload_n d_DS_chooseSpaces_45 rfl ?_
    refine aw_bipush (v := 96) d_DS_chooseSpaces_46 (by decide) ?_
    refine aw_imul d_DS_chooseSpaces_48 ?_
    refine aw_iload_n d_DS_chooseSpaces_49 rfl ?_
    refine aw_iadd d_DS_chooseSpaces_50 ?_
    refine aw_iald d_DS_chooseSpaces_51 rfl h.1 ?_
    replace h := h.2
    refine aw_icmp_ge (tgt := 58) d_DS_chooseSpaces_52 (by decide) (fun q => ?_) (fun q => ?_)
    · replace h := h.1 q
      refine aw_iinc (v := (-1)) d_DS_chooseSpaces_58 rfl (by decide) ?_
      refine aw_goto (tgt := 24) d_DS_chooseSpaces_61 (by decide) ?_
      exact h
    · replace h := h.2 q
      refine aw_iload d_DS_chooseSpaces_55 rfl ?_
      refine aw_istore_n d_DS_chooseSpaces_57 (Nat.le_of_ble_eq_true rfl) ?_
      refine aw_iinc (v := (-1)) d_DS_chooseSpaces_58 rfl (by decide) ?_
      refine aw_goto (tgt := 24) d_DS_chooseSpaces_61 (by decide) ?_
      exact h
