/-! verification conditions, by program -/
set_option maxRecDepth 100000 in
theorem vc_SE_clear_0 {G : Gp} {d : Nat} {Q : Int32 → Mem → Prop} {μ : Mem}
    (h : Ct G d M_JA_fill [.inr 18, .inl (-1 : Int32)] μ (fun _ u1 => Ct G d M_JA_fill [.inr 20, .inl (-1 : Int32)] u1 (fun _ u2 => Ct G d M_JA_fill [.inr 22, .inl (-1 : Int32)] u2 (fun _ u3 => Q 0 u3)))) :
    AW G (d + 1) M_SE_clear Q 0 [some (.inr 17)] [] μ := by
  refine aw_aload_n d_SE_clear_0 rfl ?_
  refine aw_getR (t := 18) d_SE_clear_1 lf_SE_11 rfl rfl ?_
  refine aw_iconst (v := (-1)) d_SE_clear_4 (by decide) ?_
  refine aw_callSv (as := [.inr 18, .inl (-1 : Int32)]) d_SE_clear_5 lm_SE_27 rfl (Nat.le_of_ble_eq_true rfl) rfl h (fun u1 h => ?_)
  refine aw_aload_n d_SE_clear_8 rfl ?_
  refine aw_getR (t := 20) d_SE_clear_9 lf_SE_18 rfl rfl ?_
  refine aw_iconst (v := (-1)) d_SE_clear_12 (by decide) ?_
  refine aw_callSv (as := [.inr 20, .inl (-1 : Int32)]) d_SE_clear_13 lm_SE_27 rfl (Nat.le_of_ble_eq_true rfl) rfl h (fun u2 h => ?_)
  refine aw_aload_n d_SE_clear_16 rfl ?_
  refine aw_getR (t := 22) d_SE_clear_17 lf_SE_24 rfl rfl ?_
  refine aw_iconst (v := (-1)) d_SE_clear_20 (by decide) ?_
  refine aw_callSv (as := [.inr 22, .inl (-1 : Int32)]) d_SE_clear_21 lm_SE_27 rfl (Nat.le_of_ble_eq_true rfl) rfl h (fun u3 h => ?_)
  exact aw_vret d_SE_clear_24 rfl h
theorem en_SE_clear {G : Gp} {d : Nat} {Q : Int32 → Mem → Prop} {μ : Mem}
    (h : AW G (d + 1) M_SE_clear Q 0 [some (.inr 17)] [] μ) :
    Ct G (d + 1) M_SE_clear [.inr 17] μ Q := ct_of (by decide) (Nat.le_of_ble_eq_true rfl) h
set_option maxRecDepth 100000 in
theorem vc_SE_isEntered_0 {G : Gp} {d : Nat} {Q : Int32 → Mem → Prop} {x1 x2 : Int32} {μ : Mem}
    (h : vp_in x1 280 ∧ (¬ (μ 18 (ix x1)) = x2 → Q (0 : Int32) μ) ∧ ((μ 18 (ix x1)) = x2 → Q (1 : Int32) μ)) :
    AW G d M_SE_isEntered Q 0 [some (.inr 17), some (.inl x1), some (.inl x2)] [] μ := by
  refine aw_aload_n d_SE_isEntered_0 rfl ?_
  refine aw_getR (t := 18) d_SE_isEntered_1 lf_SE_11 rfl rfl ?_
  refine aw_iload_n d_SE_isEntered_4 rfl ?_
  refine aw_iald d_SE_isEntered_5 rfl h.1 ?_
  replace h := h.2
  refine aw_iload_n d_SE_isEntered_6 rfl ?_
  refine aw_icmp_ne (tgt := 14) d_SE_isEntered_7 (by decide) (fun q => ?_) (fun q => ?_)
  · replace h := h.1 q
    refine aw_iconst (v := 0) d_SE_isEntered_14 (by decide) ?_
    exact aw_zret d_SE_isEntered_15 rfl (Or.inl rfl) h
  · replace h := h.2 q
    refine aw_iconst (v := 1) d_SE_isEntered_10 (by decide) ?_
    refine aw_goto (tgt := 15) d_SE_isEntered_11 (by decide) ?_
    exact aw_zret d_SE_isEntered_15 rfl (Or.inr rfl) h
theorem en_SE_isEntered {G : Gp} {d : Nat} {Q : Int32 → Mem → Prop} {x1 x2 : Int32} {μ : Mem}
    (h : AW G d M_SE_isEntered Q 0 [some (.inr 17), some (.inl x1), some (.inl x2)] [] μ) :
    Ct G d M_SE_isEntered [.inr 17, .inl x1, .inl x2] μ Q := ct_of (by decide) (Nat.le_of_ble_eq_true rfl) h
set_option maxRecDepth 100000 in
theorem vc_SE_stateIn_0 {G : Gp} {d : Nat} {Q : Int32 → Mem → Prop} {x1 x2 x3 : Int32} {μ : Mem}
    (h : Ct G d M_SE_isEntered [.inr 17, .inl x1, .inl x2] μ (fun r2 u1 => (r2 = 0 → Q x3 u1) ∧ (¬ r2 = 0 → vp_in x1 280 ∧ Q (u1 19 (ix x1)) u1))) :
    AW G (d + 1) M_SE_stateIn Q 0 [some (.inr 17), some (.inl x1), some (.inl x2), some (.inl x3)] [] μ := by
  refine aw_aload_n d_SE_stateIn_0 rfl ?_
  refine aw_iload_n d_SE_stateIn_1 rfl ?_
  refine aw_iload_n d_SE_stateIn_2 rfl ?_
  refine aw_callV (as := [.inl x1, .inl x2]) d_SE_stateIn_3 lm_SE_33 rfl rfl (by decide) rfl (Nat.le_of_ble_eq_true rfl) rfl h (fun r2 u1 h => ?_)
  refine aw_if_eq (tgt := 18) d_SE_stateIn_6 (by decide) (fun q => ?_) (fun q => ?_)
  · replace h := h.1 q
    refine aw_iload_n d_SE_stateIn_18 rfl ?_
    exact aw_iret d_SE_stateIn_19 rfl h
  · replace h := h.2 q
    refine aw_aload_n d_SE_stateIn_9 rfl ?_
    refine aw_getR (t := 19) d_SE_stateIn_10 lf_SE_15 rfl rfl ?_
    refine aw_iload_n d_SE_stateIn_13 rfl ?_
    refine aw_iald d_SE_stateIn_14 rfl h.1 ?_
    replace h := h.2
    refine aw_goto (tgt := 19) d_SE_stateIn_15 (by decide) ?_
    exact aw_iret d_SE_stateIn_19 rfl h
theorem en_SE_stateIn {G : Gp} {d : Nat} {Q : Int32 → Mem → Prop} {x1 x2 x3 : Int32} {μ : Mem}
    (h : AW G (d + 1) M_SE_stateIn Q 0 [some (.inr 17), some (.inl x1), some (.inl x2), some (.inl x3)] [] μ) :
    Ct G (d + 1) M_SE_stateIn [.inr 17, .inl x1, .inl x2, .inl x3] μ Q := ct_of (by decide) (Nat.le_of_ble_eq_true rfl) h
set_option maxRecDepth 100000 in
theorem vc_SE_stateBefore_0 {G : Gp} {d : Nat} {Q : Int32 → Mem → Prop} {x1 x2 x3 : Int32} {μ : Mem}
    (h : Ct G d M_SE_isEntered [.inr 17, .inl x1, .inl (x2 - (1 : Int32))] μ (fun r2 u1 => (r2 = 0 → Ct G d M_SE_isEntered [.inr 17, .inl x1, .inl x2] u1 (fun r4 u3 => (r4 = 0 → ((0 : Int32) = 0 → Q x3 u3) ∧ (¬ (0 : Int32) = 0 → vp_in x1 280 ∧ Q (u3 21 (ix x1)) u3)) ∧ (¬ r4 = 0 → vp_in x1 280 ∧ (¬ (u3 20 (ix x1)) = (x2 - (1 : Int32)) → ((0 : Int32) = 0 → Q x3 u3) ∧ (¬ (0 : Int32) = 0 → vp_in x1 280 ∧ Q (u3 21 (ix x1)) u3)) ∧ ((u3 20 (ix x1)) = (x2 - (1 : Int32)) → ((1 : Int32) = 0 → Q x3 u3) ∧ (¬ (1 : Int32) = 0 → vp_in x1 280 ∧ Q (u3 21 (ix x1)) u3))))) ∧ (¬ r2 = 0 → vp_in x1 280 ∧ Q (u1 19 (ix x1)) u1))) :
    AW G (d + 1) M_SE_stateBefore Q 0 [some (.inr 17), some (.inl x1), some (.inl x2), some (.inl x3), none] [] μ := by
  refine aw_aload_n d_SE_stateBefore_0 rfl ?_
  refine aw_iload_n d_SE_stateBefore_1 rfl ?_
  refine aw_iload_n d_SE_stateBefore_2 rfl ?_
  refine aw_iconst (v := 1) d_SE_stateBefore_3 (by decide) ?_
  refine aw_isub d_SE_stateBefore_4 ?_
  refine aw_callV (as := [.inl x1, .inl (x2 - (1 : Int32))]) d_SE_stateBefore_5 lm_SE_33 rfl rfl (by decide) rfl (Nat.le_of_ble_eq_true rfl) rfl h (fun r2 u1 h => ?_)
  refine aw_if_eq (tgt := 18) d_SE_stateBefore_8 (by decide) (fun q => ?_) (fun q => ?_)
  · replace h := h.1 q
    refine aw_aload_n d_SE_stateBefore_18 rfl ?_
    refine aw_iload_n d_SE_stateBefore_19 rfl ?_
    refine aw_iload_n d_SE_stateBefore_20 rfl ?_
    refine aw_callV (as := [.inl x1, .inl x2]) d_SE_stateBefore_21 lm_SE_33 rfl rfl (by decide) rfl (Nat.le_of_ble_eq_true rfl) rfl h (fun r4 u3 h => ?_)
    refine aw_if_eq (tgt := 43) d_SE_stateBefore_24 (by decide) (fun q => ?_) (fun q => ?_)
    · replace h := h.1 q
      refine aw_iconst (v := 0) d_SE_stateBefore_43 (by decide) ?_
      refine aw_istore d_SE_stateBefore_44 (Nat.le_of_ble_eq_true rfl) ?_
      refine aw_iload d_SE_stateBefore_46 rfl ?_
      refine aw_if_eq (tgt := 60) d_SE_stateBefore_48 (by decide) (fun q => ?_) (fun q => ?_)
      · replace h := h.1 q
        refine aw_iload_n d_SE_stateBefore_60 rfl ?_
        exact aw_iret d_SE_stateBefore_61 rfl h
      · replace h := h.2 q
        refine aw_aload_n d_SE_stateBefore_51 rfl ?_
        refine aw_getR (t := 21) d_SE_stateBefore_52 lf_SE_21 rfl rfl ?_
        refine aw_iload_n d_SE_stateBefore_55 rfl ?_
        refine aw_iald d_SE_stateBefore_56 rfl h.1 ?_
        replace h := h.2
        refine aw_goto (tgt := 61) d_SE_stateBefore_57 (by decide) ?_
        exact aw_iret d_SE_stateBefore_61 rfl h
    · replace h := h.2 q
      refine aw_aload_n d_SE_stateBefore_27 rfl ?_
      refine aw_getR (t := 20) d_SE_stateBefore_28 lf_SE_18 rfl rfl ?_
      refine aw_iload_n d_SE_stateBefore_31 rfl ?_
      refine aw_iald d_SE_stateBefore_32 rfl h.1 ?_
      replace h := h.2
      refine aw_iload_n d_SE_stateBefore_33 rfl ?_
      refine aw_iconst (v := 1) d_SE_stateBefore_34 (by decide) ?_
      refine aw_isub d_SE_stateBefore_35 ?_
      refine aw_icmp_ne (tgt := 43) d_SE_stateBefore_36 (by decide) (fun q => ?_) (fun q => ?_)
      · replace h := h.1 q
        refine aw_iconst (v := 0) d_SE_stateBefore_43 (by decide) ?_
        refine aw_istore d_SE_stateBefore_44 (Nat.le_of_ble_eq_true rfl) ?_
        refine aw_iload d_SE_stateBefore_46 rfl ?_
        refine aw_if_eq (tgt := 60) d_SE_stateBefore_48 (by decide) (fun q => ?_) (fun q => ?_)
        · replace h := h.1 q
          refine aw_iload_n d_SE_stateBefore_60 rfl ?_
          exact aw_iret d_SE_stateBefore_61 rfl h
        · replace h := h.2 q
          refine aw_aload_n d_SE_stateBefore_51 rfl ?_
          refine aw_getR (t := 21) d_SE_stateBefore_52 lf_SE_21 rfl rfl ?_
          refine aw_iload_n d_SE_stateBefore_55 rfl ?_
          refine aw_iald d_SE_stateBefore_56 rfl h.1 ?_
          replace h := h.2
          refine aw_goto (tgt := 61) d_SE_stateBefore_57 (by decide) ?_
          exact aw_iret d_SE_stateBefore_61 rfl h
      · replace h := h.2 q
        refine aw_iconst (v := 1) d_SE_stateBefore_39 (by decide) ?_
        refine aw_goto (tgt := 44) d_SE_stateBefore_40 (by decide) ?_
        refine aw_istore d_SE_stateBefore_44 (Nat.le_of_ble_eq_true rfl) ?_
        refine aw_iload d_SE_stateBefore_46 rfl ?_
        refine aw_if_eq (tgt := 60) d_SE_stateBefore_48 (by decide) (fun q => ?_) (fun q => ?_)
        · replace h := h.1 q
          refine aw_iload_n d_SE_stateBefore_60 rfl ?_
          exact aw_iret d_SE_stateBefore_61 rfl h
        · replace h := h.2 q
          refine aw_aload_n d_SE_stateBefore_51 rfl ?_
          refine aw_getR (t := 21) d_SE_stateBefore_52 lf_SE_21 rfl rfl ?_
          refine aw_iload_n d_SE_stateBefore_55 rfl ?_
          refine aw_iald d_SE_stateBefore_56 rfl h.1 ?_
          replace h := h.2
          refine aw_goto (tgt := 61) d_SE_stateBefore_57 (by decide) ?_
          exact aw_iret d_SE_stateBefore_61 rfl h
  · replace h := h.2 q
    refine aw_aload_n d_SE_stateBefore_11 rfl ?_
    refine aw_getR (t := 19) d_SE_stateBefore_12 lf_SE_15 rfl rfl ?_
    refine aw_iload_n d_SE_stateBefore_15 rfl ?_
    refine aw_iald d_SE_stateBefore_16 rfl h.1 ?_
    replace h := h.2
    exact aw_iret d_SE_stateBefore_17 rfl h
theorem en_SE_stateBefore {G : Gp} {d : Nat} {Q : Int32 → Mem → Prop} {x1 x2 x3 : Int32} {μ : Mem}
    (h : AW G (d + 1) M_SE_stateBefore Q 0 [some (.inr 17), some (.inl x1), some (.inl x2), some (.inl x3), none] [] μ) :
    Ct G (d + 1) M_SE_stateBefore [.inr 17, .inl x1, .inl x2, .inl x3] μ Q := ct_of (by decide) (Nat.le_of_ble_eq_true rfl) h
set_option maxRecDepth 100000 in
theorem vc_SE_enter_0 {G : Gp} {d : Nat} {Q : Int32 → Mem → Prop} {x1 x2 x3 : Int32} {μ : Mem}
    (h : Ct G d M_SE_isEntered [.inr 17, .inl x1, .inl x2] μ (fun r2 u1 => (r2 = 0 → vp_in x1 280 ∧ vp_in x1 280 ∧ ∀ u3 : Mem, u3 = up u1 20 (ix x1) (u1 18 (ix x1)) → vp_in x1 280 ∧ vp_in x1 280 ∧ ∀ u4 : Mem, u4 = up u3 21 (ix x1) (u3 19 (ix x1)) → vp_in x1 280 ∧ ∀ u5 : Mem, u5 = up u4 18 (ix x1) x2 → vp_in x1 280 ∧ ∀ u6 : Mem, u6 = up u5 19 (ix x1) x3 → Q 0 u6) ∧ (¬ r2 = 0 → Q 0 u1))) :
    AW G (d + 1) M_SE_enter Q 0 [some (.inr 17), some (.inl x1), some (.inl x2), some (.inl x3)] [] μ := by
  refine aw_aload_n d_SE_enter_0 rfl ?_
  refine aw_iload_n d_SE_enter_1 rfl ?_
  refine aw_iload_n d_SE_enter_2 rfl ?_
  refine aw_callV (as := [.inl x1, .inl x2]) d_SE_enter_3 lm_SE_33 rfl rfl (by decide) rfl (Nat.le_of_ble_eq_true rfl) rfl h (fun r2 u1 h => ?_)
  refine aw_if_eq (tgt := 10) d_SE_enter_6 (by decide) (fun q => ?_) (fun q => ?_)
  · replace h := h.1 q
    refine aw_aload_n d_SE_enter_10 rfl ?_
    refine aw_getR (t := 20) d_SE_enter_11 lf_SE_18 rfl rfl ?_
    refine aw_iload_n d_SE_enter_14 rfl ?_
    refine aw_aload_n d_SE_enter_15 rfl ?_
    refine aw_getR (t := 18) d_SE_enter_16 lf_SE_11 rfl rfl ?_
    refine aw_iload_n d_SE_enter_19 rfl ?_
    refine aw_iald d_SE_enter_20 rfl h.1 ?_
    replace h := h.2
    refine aw_iast d_SE_enter_21 rfl h.1 ?_
    replace h := h.2
    refine aw_mem (fun u3 e => ?_)
    replace h := h _ e
    refine aw_aload_n d_SE_enter_22 rfl ?_
    refine aw_getR (t := 21) d_SE_enter_23 lf_SE_21 rfl rfl ?_
    refine aw_iload_n d_SE_enter_26 rfl ?_
    refine aw_aload_n d_SE_enter_27 rfl ?_
    refine aw_getR (t := 19) d_SE_enter_28 lf_SE_15 rfl rfl ?_
    refine aw_iload_n d_SE_enter_31 rfl ?_
    refine aw_iald d_SE_enter_32 rfl h.1 ?_
    replace h := h.2
    refine aw_iast d_SE_enter_33 rfl h.1 ?_
    replace h := h.2
    refine aw_mem (fun u4 e => ?_)
    replace h := h _ e
    refine aw_aload_n d_SE_enter_34 rfl ?_
    refine aw_getR (t := 18) d_SE_enter_35 lf_SE_11 rfl rfl ?_
    refine aw_iload_n d_SE_enter_38 rfl ?_
    refine aw_iload_n d_SE_enter_39 rfl ?_
    refine aw_iast d_SE_enter_40 rfl h.1 ?_
    replace h := h.2
    refine aw_mem (fun u5 e => ?_)
    replace h := h _ e
    refine aw_aload_n d_SE_enter_41 rfl ?_
    refine aw_getR (t := 19) d_SE_enter_42 lf_SE_15 rfl rfl ?_
    refine aw_iload_n d_SE_enter_45 rfl ?_
    refine aw_iload_n d_SE_enter_46 rfl ?_
    refine aw_iast d_SE_enter_47 rfl h.1 ?_
    replace h := h.2
    refine aw_mem (fun u6 e => ?_)
    replace h := h _ e
    exact aw_vret d_SE_enter_48 rfl h
  · replace h := h.2 q
    exact aw_vret d_SE_enter_9 rfl h
theorem en_SE_enter {G : Gp} {d : Nat} {Q : Int32 → Mem → Prop} {x1 x2 x3 : Int32} {μ : Mem}
    (h : AW G (d + 1) M_SE_enter Q 0 [some (.inr 17), some (.inl x1), some (.inl x2), some (.inl x3)] [] μ) :
    Ct G (d + 1) M_SE_enter [.inr 17, .inl x1, .inl x2, .inl x3] μ Q := ct_of (by decide) (Nat.le_of_ble_eq_true rfl) h
set_option maxRecDepth 100000 in
theorem vc_SE_setState_0 {G : Gp} {d : Nat} {Q : Int32 → Mem → Prop} {x1 x2 : Int32} {μ : Mem}
    (h : vp_in x1 280 ∧ ∀ u1 : Mem, u1 = up μ 19 (ix x1) x2 → Q 0 u1) :
    AW G d M_SE_setState Q 0 [some (.inr 17), some (.inl x1), some (.inl x2)] [] μ := by
  refine aw_aload_n d_SE_setState_0 rfl ?_
  refine aw_getR (t := 19) d_SE_setState_1 lf_SE_15 rfl rfl ?_
  refine aw_iload_n d_SE_setState_4 rfl ?_
  refine aw_iload_n d_SE_setState_5 rfl ?_
  refine aw_iast d_SE_setState_6 rfl h.1 ?_
  replace h := h.2
  refine aw_mem (fun u1 e => ?_)
  replace h := h _ e
  exact aw_vret d_SE_setState_7 rfl h
theorem en_SE_setState {G : Gp} {d : Nat} {Q : Int32 → Mem → Prop} {x1 x2 : Int32} {μ : Mem}
    (h : AW G d M_SE_setState Q 0 [some (.inr 17), some (.inl x1), some (.inl x2)] [] μ) :
    Ct G d M_SE_setState [.inr 17, .inl x1, .inl x2] μ Q := ct_of (by decide) (Nat.le_of_ble_eq_true rfl) h
set_option maxRecDepth 100000 in
theorem vc_SE_hasCourtesy_0 {G : Gp} {d : Nat} {Q : Int32 → Mem → Prop} {x1 x2 : Int32} {μ : Mem}
    (h : vp_in x1 280 ∧ (¬ (μ 22 (ix x1)) = x2 → Q (0 : Int32) μ) ∧ ((μ 22 (ix x1)) = x2 → Q (1 : Int32) μ)) :
    AW G d M_SE_hasCourtesy Q 0 [some (.inr 17), some (.inl x1), some (.inl x2)] [] μ := by
  refine aw_aload_n d_SE_hasCourtesy_0 rfl ?_
  refine aw_getR (t := 22) d_SE_hasCourtesy_1 lf_SE_24 rfl rfl ?_
  refine aw_iload_n d_SE_hasCourtesy_4 rfl ?_
  refine aw_iald d_SE_hasCourtesy_5 rfl h.1 ?_
  replace h := h.2
  refine aw_iload_n d_SE_hasCourtesy_6 rfl ?_
  refine aw_icmp_ne (tgt := 14) d_SE_hasCourtesy_7 (by decide) (fun q => ?_) (fun q => ?_)
  · replace h := h.1 q
    refine aw_iconst (v := 0) d_SE_hasCourtesy_14 (by decide) ?_
    exact aw_zret d_SE_hasCourtesy_15 rfl (Or.inl rfl) h
  · replace h := h.2 q
    refine aw_iconst (v := 1) d_SE_hasCourtesy_10 (by decide) ?_
    refine aw_goto (tgt := 15) d_SE_hasCourtesy_11 (by decide) ?_
    exact aw_zret d_SE_hasCourtesy_15 rfl (Or.inr rfl) h
theorem en_SE_hasCourtesy {G : Gp} {d : Nat} {Q : Int32 → Mem → Prop} {x1 x2 : Int32} {μ : Mem}
    (h : AW G d M_SE_hasCourtesy Q 0 [some (.inr 17), some (.inl x1), some (.inl x2)] [] μ) :
    Ct G d M_SE_hasCourtesy [.inr 17, .inl x1, .inl x2] μ Q := ct_of (by decide) (Nat.le_of_ble_eq_true rfl) h
set_option maxRecDepth 100000 in
theorem vc_SE_setCourtesy_0 {G : Gp} {d : Nat} {Q : Int32 → Mem → Prop} {x1 x2 : Int32} {μ : Mem}
    (h : vp_in x1 280 ∧ ∀ u1 : Mem, u1 = up μ 22 (ix x1) x2 → Q 0 u1) :
    AW G d M_SE_setCourtesy Q 0 [some (.inr 17), some (.inl x1), some (.inl x2)] [] μ := by
  refine aw_aload_n d_SE_setCourtesy_0 rfl ?_
  refine aw_getR (t := 22) d_SE_setCourtesy_1 lf_SE_24 rfl rfl ?_
  refine aw_iload_n d_SE_setCourtesy_4 rfl ?_
  refine aw_iload_n d_SE_setCourtesy_5 rfl ?_
  refine aw_iast d_SE_setCourtesy_6 rfl h.1 ?_
  replace h := h.2
  refine aw_mem (fun u1 e => ?_)
  replace h := h _ e
  exact aw_vret d_SE_setCourtesy_7 rfl h
theorem en_SE_setCourtesy {G : Gp} {d : Nat} {Q : Int32 → Mem → Prop} {x1 x2 : Int32} {μ : Mem}
    (h : AW G d M_SE_setCourtesy Q 0 [some (.inr 17), some (.inl x1), some (.inl x2)] [] μ) :
    Ct G d M_SE_setCourtesy [.inr 17, .inl x1, .inl x2] μ Q := ct_of (by decide) (Nat.le_of_ble_eq_true rfl) h
