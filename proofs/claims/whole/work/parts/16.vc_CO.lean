/-! verification conditions, by program -/
set_option maxRecDepth 100000 in
theorem vc_CO_forget_0 {G : Gp} {d : Nat} {Q : Int32 → Mem → Prop} {μ : Mem}
    (h : ∀ u1 : Mem, u1 = up μ 27 9 (-1 : Int32) → Q 0 u1) :
    AW G d M_CO_forget Q 0 [some (.inr 27)] [] μ := by
  refine aw_aload_n d_CO_forget_0 rfl ?_
  refine aw_iconst (v := (-1)) d_CO_forget_1 (by decide) ?_
  refine aw_putI d_CO_forget_2 lf_CO_27 ⟨_, _, _, rfl, rfl, rfl⟩ rfl rfl ?_
  refine aw_mem (fun u1 e => ?_)
  replace h := h _ e
  exact aw_vret d_CO_forget_5 rfl h
theorem en_CO_forget {G : Gp} {d : Nat} {Q : Int32 → Mem → Prop} {μ : Mem}
    (h : AW G d M_CO_forget Q 0 [some (.inr 27)] [] μ) :
    Ct G d M_CO_forget [.inr 27] μ Q := ct_of (by decide) (Nat.le_of_ble_eq_true rfl) h
set_option maxRecDepth 100000 in
theorem vc_CO_layOut_0 {G : Gp} {d : Nat} {Q : Int32 → Mem → Prop} {x1 : Int32} {μ : Mem}
    (h : (¬ x1 = (μ 27 9) → ∀ u1 : Mem, u1 = up μ 27 9 x1 → Ct G d M_NO_chordEnd [.inr 1, .inl x1] u1 (fun r3 u2 => Ct G d M_CO_collectFromTop [.inr 27, .inl x1, .inl r3] u2 (fun _ u4 => Ct G d M_CO_bringToZigzag [.inr 27] u4 (fun _ u5 => Ct G d M_JA_fill [.inr 32, .inl (0 : Int32)] u5 (fun _ u6 => ((6 : Int32) < (u6 27 7) → Ct G d M_CO_takeInTurn [.inr 27] u6 (fun _ u7 => Q 0 u7)) ∧ (¬ (6 : Int32) < (u6 27 7) → ∀ u8 : Mem, u8 = up u6 27 8 (2147483647 : Int32) → Ct G d M_CO_search [.inr 27, .inl (0 : Int32), .inl (0 : Int32), .inl (0 : Int32)] u8 (fun _ u9 => Q 0 u9))))))) ∧ (x1 = (μ 27 9) → Q 0 μ)) :
    AW G (d + 1) M_CO_layOut Q 0 [some (.inr 27), some (.inl x1)] [] μ := by
  refine aw_iload_n d_CO_layOut_0 rfl ?_
  refine aw_aload_n d_CO_layOut_1 rfl ?_
  refine aw_getI d_CO_layOut_2 lf_CO_27 rfl rfl ?_
  refine aw_icmp_ne (tgt := 9) d_CO_layOut_5 (by decide) (fun q => ?_) (fun q => ?_)
  · replace h := h.1 q
    refine aw_aload_n d_CO_layOut_9 rfl ?_
    refine aw_iload_n d_CO_layOut_10 rfl ?_
    refine aw_putI d_CO_layOut_11 lf_CO_27 ⟨_, _, _, rfl, rfl, rfl⟩ rfl rfl ?_
    refine aw_mem (fun u1 e => ?_)
    replace h := h _ e
    refine aw_aload_n d_CO_layOut_14 rfl ?_
    refine aw_iload_n d_CO_layOut_15 rfl ?_
    refine aw_aload_n d_CO_layOut_16 rfl ?_
    refine aw_getR (t := 1) d_CO_layOut_17 lf_CO_31 rfl rfl ?_
    refine aw_iload_n d_CO_layOut_20 rfl ?_
    refine aw_callV (as := [.inl x1]) d_CO_layOut_21 lm_CO_39 rfl rfl (by decide) rfl (Nat.le_of_ble_eq_true rfl) rfl h (fun r3 u2 h => ?_)
    refine aw_callVv (as := [.inl x1, .inl r3]) d_CO_layOut_24 lm_CO_45 rfl rfl (by decide) rfl (Nat.le_of_ble_eq_true rfl) rfl h (fun u4 h => ?_)
    refine aw_aload_n d_CO_layOut_27 rfl ?_
    refine aw_callVv (as := []) d_CO_layOut_28 lm_CO_49 rfl rfl (by decide) rfl (Nat.le_of_ble_eq_true rfl) rfl h (fun u5 h => ?_)
    refine aw_aload_n d_CO_layOut_31 rfl ?_
    refine aw_getR (t := 32) d_CO_layOut_32 lf_CO_24 rfl rfl ?_
    refine aw_iconst (v := 0) d_CO_layOut_35 (by decide) ?_
    refine aw_callSv (as := [.inr 32, .inl (0 : Int32)]) d_CO_layOut_36 lm_CO_52 rfl (Nat.le_of_ble_eq_true rfl) rfl h (fun u6 h => ?_)
    refine aw_aload_n d_CO_layOut_39 rfl ?_
    refine aw_getI d_CO_layOut_40 lf_CO_58 rfl rfl ?_
    refine aw_bipush (v := 6) d_CO_layOut_43 (by decide) ?_
    refine aw_icmp_gt (tgt := 64) d_CO_layOut_45 (by decide) (fun q => ?_) (fun q => ?_)
    · replace h := h.1 q
      refine aw_aload_n d_CO_layOut_64 rfl ?_
      refine aw_callVv (as := []) d_CO_layOut_65 lm_CO_71 rfl rfl (by decide) rfl (Nat.le_of_ble_eq_true rfl) rfl h (fun u7 h => ?_)
      exact aw_vret d_CO_layOut_68 rfl h
    · replace h := h.2 q
      refine aw_aload_n d_CO_layOut_48 rfl ?_
      refine aw_ldc (v := 2147483647) d_CO_layOut_49 lc_CO_63 ?_
      refine aw_putI d_CO_layOut_51 lf_CO_64 ⟨_, _, _, rfl, rfl, rfl⟩ rfl rfl ?_
      refine aw_mem (fun u8 e => ?_)
      replace h := h _ e
      refine aw_aload_n d_CO_layOut_54 rfl ?_
      refine aw_iconst (v := 0) d_CO_layOut_55 (by decide) ?_
      refine aw_iconst (v := 0) d_CO_layOut_56 (by decide) ?_
      refine aw_iconst (v := 0) d_CO_layOut_57 (by decide) ?_
      refine aw_callVv (as := [.inl (0 : Int32), .inl (0 : Int32), .inl (0 : Int32)]) d_CO_layOut_58 lm_CO_67 rfl rfl (by decide) rfl (Nat.le_of_ble_eq_true rfl) rfl h (fun u9 h => ?_)
      refine aw_goto (tgt := 68) d_CO_layOut_61 (by decide) ?_
      exact aw_vret d_CO_layOut_68 rfl h
  · replace h := h.2 q
    exact aw_vret d_CO_layOut_8 rfl h
theorem en_CO_layOut {G : Gp} {d : Nat} {Q : Int32 → Mem → Prop} {x1 : Int32} {μ : Mem}
    (h : AW G (d + 1) M_CO_layOut Q 0 [some (.inr 27), some (.inl x1)] [] μ) :
    Ct G (d + 1) M_CO_layOut [.inr 27, .inl x1] μ Q := ct_of (by decide) (Nat.le_of_ble_eq_true rfl) h
set_option maxRecDepth 100000 in
theorem vc_CO_columnOf_0 {G : Gp} {d : Nat} {Q : Int32 → Mem → Prop} {x1 : Int32} {μ : Mem}
    (h : AW G d M_CO_columnOf Q 2 [some (.inr 27), some (.inl x1), some (.inl (0 : Int32))] [] μ) :
    AW G d M_CO_columnOf Q 0 [some (.inr 27), some (.inl x1), none] [] μ := by
  refine aw_iconst (v := 0) d_CO_columnOf_0 (by decide) ?_
  refine aw_istore_n d_CO_columnOf_1 (Nat.le_of_ble_eq_true rfl) ?_
  exact h
theorem en_CO_columnOf {G : Gp} {d : Nat} {Q : Int32 → Mem → Prop} {x1 : Int32} {μ : Mem}
    (h : AW G d M_CO_columnOf Q 0 [some (.inr 27), some (.inl x1), none] [] μ) :
    Ct G d M_CO_columnOf [.inr 27, .inl x1] μ Q := ct_of (by decide) (Nat.le_of_ble_eq_true rfl) h
set_option maxRecDepth 100000 in
theorem vc_CO_columnOf_2 {G : Gp} {d : Nat} {Q : Int32 → Mem → Prop} {x1 x2 : Int32} {μ : Mem}
    (h : ((μ 27 7) ≤ x2 → Q (-1 : Int32) μ) ∧ (¬ (μ 27 7) ≤ x2 → vp_in x2 60 ∧ (¬ (μ 29 (ix x2)) = x1 → AW G d M_CO_columnOf Q 2 [some (.inr 27), some (.inl x1), some (.inl (x2 + (1 : Int32)))] [] μ) ∧ ((μ 29 (ix x2)) = x1 → vp_in x2 60 ∧ Q (μ 30 (ix x2)) μ))) :
    AW G d M_CO_columnOf Q 2 [some (.inr 27), some (.inl x1), some (.inl x2)] [] μ := by
  refine aw_iload_n d_CO_columnOf_2 rfl ?_
  refine aw_aload_n d_CO_columnOf_3 rfl ?_
  refine aw_getI d_CO_columnOf_4 lf_CO_58 rfl rfl ?_
  refine aw_icmp_ge (tgt := 33) d_CO_columnOf_7 (by decide) (fun q => ?_) (fun q => ?_)
  · replace h := h.1 q
    refine aw_iconst (v := (-1)) d_CO_columnOf_33 (by decide) ?_
    exact aw_iret d_CO_columnOf_34 rfl h
  · replace h := h.2 q
    refine aw_aload_n d_CO_columnOf_10 rfl ?_
    refine aw_getR (t := 29) d_CO_columnOf_11 lf_CO_15 rfl rfl ?_
    refine aw_iload_n d_CO_columnOf_14 rfl ?_
    refine aw_iald d_CO_columnOf_15 rfl h.1 ?_
    replace h := h.2
    refine aw_iload_n d_CO_columnOf_16 rfl ?_
    refine aw_icmp_ne (tgt := 27) d_CO_columnOf_17 (by decide) (fun q => ?_) (fun q => ?_)
    · replace h := h.1 q
      refine aw_iinc (v := 1) d_CO_columnOf_27 rfl (by decide) ?_
      refine aw_goto (tgt := 2) d_CO_columnOf_30 (by decide) ?_
      exact h
    · replace h := h.2 q
      refine aw_aload_n d_CO_columnOf_20 rfl ?_
      refine aw_getR (t := 30) d_CO_columnOf_21 lf_CO_18 rfl rfl ?_
      refine aw_iload_n d_CO_columnOf_24 rfl ?_
      refine aw_iald d_CO_columnOf_25 rfl h.1 ?_
      replace h := h.2
      exact aw_iret d_CO_columnOf_26 rfl h
set_option maxRecDepth 100000 in
theorem vc_CO_sumOfWidths_0 {G : Gp} {d : Nat} {Q : Int32 → Mem → Prop} {μ : Mem}
    (h : Q (μ 27 8) μ) :
    AW G d M_CO_sumOfWidths Q 0 [some (.inr 27)] [] μ := by
  refine aw_aload_n d_CO_sumOfWidths_0 rfl ?_
  refine aw_getI d_CO_sumOfWidths_1 lf_CO_64 rfl rfl ?_
  exact aw_iret d_CO_sumOfWidths_4 rfl h
theorem en_CO_sumOfWidths {G : Gp} {d : Nat} {Q : Int32 → Mem → Prop} {μ : Mem}
    (h : AW G d M_CO_sumOfWidths Q 0 [some (.inr 27)] [] μ) :
    Ct G d M_CO_sumOfWidths [.inr 27] μ Q := ct_of (by decide) (Nat.le_of_ble_eq_true rfl) h
set_option maxRecDepth 100000 in
theorem vc_CO_collectFromTop_0 {G : Gp} {d : Nat} {Q : Int32 → Mem → Prop} {x1 x2 : Int32} {μ : Mem}
    (h : ∀ u1 : Mem, u1 = up μ 27 7 (0 : Int32) → AW G d M_CO_collectFromTop Q 7 [some (.inr 27), none, some (.inl x2), some (.inl x1), none, none] [] u1) :
    AW G d M_CO_collectFromTop Q 0 [some (.inr 27), some (.inl x1), some (.inl x2), none, none, none] [] μ := by
  refine aw_aload_n d_CO_collectFromTop_0 rfl ?_
  refine aw_iconst (v := 0) d_CO_collectFromTop_1 (by decide) ?_
  refine aw_putI d_CO_collectFromTop_2 lf_CO_58 ⟨_, _, _, rfl, rfl, rfl⟩ rfl rfl ?_
  refine aw_mem (fun u1 e => ?_)
  replace h := h _ e
  refine aw_iload_n d_CO_collectFromTop_5 rfl ?_
  refine aw_istore_n d_CO_collectFromTop_6 (Nat.le_of_ble_eq_true rfl) ?_
  refine aw_drop 1 ?_
  exact h
theorem en_CO_collectFromTop {G : Gp} {d : Nat} {Q : Int32 → Mem → Prop} {x1 x2 : Int32} {μ : Mem}
    (h : AW G d M_CO_collectFromTop Q 0 [some (.inr 27), some (.inl x1), some (.inl x2), none, none, none] [] μ) :
    Ct G d M_CO_collectFromTop [.inr 27, .inl x1, .inl x2] μ Q := ct_of (by decide) (Nat.le_of_ble_eq_true rfl) h
set_option maxRecDepth 100000 in
theorem vc_CO_collectFromTop_7 {G : Gp} {d : Nat} {Q : Int32 → Mem → Prop} {x2 x3 : Int32} {μ : Mem}
    (h : (x2 ≤ x3 → Q 0 μ) ∧ (¬ x2 ≤ x3 → vp_in x3 60 ∧ ∀ y1 : Int32, y1 = (μ 7 (ix x3)) → vp_in y1 60 ∧ (¬ (μ 25 (ix y1)) = 0 → ∀ y2 : Int32, y2 = (μ 27 7) → AW G d M_CO_collectFromTop Q 45 [some (.inr 27), none, some (.inl x2), some (.inl x3), some (.inl y1), some (.inl y2)] [] μ) ∧ ((μ 25 (ix y1)) = 0 → AW G d M_CO_collectFromTop Q 7 [some (.inr 27), none, some (.inl x2), some (.inl (x3 + (1 : Int32))), none, none] [] μ))) :
    AW G d M_CO_collectFromTop Q 7 [some (.inr 27), none, some (.inl x2), some (.inl x3), none, none] [] μ := by
  refine aw_iload_n d_CO_collectFromTop_7 rfl ?_
  refine aw_iload_n d_CO_collectFromTop_8 rfl ?_
  refine aw_icmp_ge (tgt := 127) d_CO_collectFromTop_9 (by decide) (fun q => ?_) (fun q => ?_)
  · replace h := h.1 q
    exact aw_vret d_CO_collectFromTop_127 rfl h
  · replace h := h.2 q
    refine aw_aload_n d_CO_collectFromTop_12 rfl ?_
    refine aw_getR (t := 1) d_CO_collectFromTop_13 lf_CO_31 rfl rfl ?_
    refine aw_getR (t := 7) d_CO_collectFromTop_16 lf_CO_74 rfl rfl ?_
    refine aw_iload_n d_CO_collectFromTop_19 rfl ?_
    refine aw_iald d_CO_collectFromTop_20 rfl h.1 ?_
    replace h := h.2
    refine aw_top (fun y1 e => ?_)
    replace h := h _ e
    refine aw_istore d_CO_collectFromTop_21 (Nat.le_of_ble_eq_true rfl) ?_
    refine aw_aload_n d_CO_collectFromTop_23 rfl ?_
    refine aw_getR (t := 16) d_CO_collectFromTop_24 lf_CO_35 rfl rfl ?_
    refine aw_getR (t := 25) d_CO_collectFromTop_27 lf_CO_77 rfl rfl ?_
    refine aw_iload d_CO_collectFromTop_30 rfl ?_
    refine aw_iald d_CO_collectFromTop_32 rfl h.1 ?_
    replace h := h.2
    refine aw_if_ne (tgt := 39) d_CO_collectFromTop_33 (by decide) (fun q => ?_) (fun q => ?_)
    · replace h := h.1 q
      refine aw_aload_n d_CO_collectFromTop_39 rfl ?_
      refine aw_getI d_CO_collectFromTop_40 lf_CO_58 rfl rfl ?_
      refine aw_top (fun y2 e => ?_)
      replace h := h _ e
      refine aw_istore d_CO_collectFromTop_43 (Nat.le_of_ble_eq_true rfl) ?_
      exact h
    · replace h := h.2 q
      refine aw_goto (tgt := 121) d_CO_collectFromTop_36 (by decide) ?_
      refine aw_iinc (v := 1) d_CO_collectFromTop_121 rfl (by decide) ?_
      refine aw_goto (tgt := 7) d_CO_collectFromTop_124 (by decide) ?_
      refine aw_drop 4 ?_
      exact h
set_option maxRecDepth 100000 in
theorem vc_CO_collectFromTop_45 {G : Gp} {d : Nat} {Q : Int32 → Mem → Prop} {x2 x3 x4 x5 : Int32} {μ : Mem}
    (h : (x5 ≤ 0 → vp_in x5 60 ∧ ∀ u1 : Mem, u1 = up μ 28 (ix x5) x4 → ∀ u2 : Mem, u2 = up u1 27 7 ((u1 27 7) + (1 : Int32)) → AW G d M_CO_collectFromTop Q 7 [some (.inr 27), none, some (.inl x2), some (.inl (x3 + (1 : Int32))), none, none] [] u2) ∧ (¬ x5 ≤ 0 → vp_in (x5 - (1 : Int32)) 60 ∧ vp_in (μ 28 (ix (x5 - (1 : Int32)))) 60 ∧ vp_in x4 60 ∧ ((μ 2 (ix x4)) ≤ (μ 2 (ix (μ 28 (ix (x5 - (1 : Int32)))))) → vp_in x5 60 ∧ ∀ u3 : Mem, u3 = up μ 28 (ix x5) x4 → ∀ u4 : Mem, u4 = up u3 27 7 ((u3 27 7) + (1 : Int32)) → AW G d M_CO_collectFromTop Q 7 [some (.inr 27), none, some (.inl x2), some (.inl (x3 + (1 : Int32))), none, none] [] u4) ∧ (¬ (μ 2 (ix x4)) ≤ (μ 2 (ix (μ 28 (ix (x5 - (1 : Int32)))))) → vp_in (x5 - (1 : Int32)) 60 ∧ vp_in x5 60 ∧ ∀ u5 : Mem, u5 = up μ 28 (ix x5) (μ 28 (ix (x5 - (1 : Int32)))) → AW G d M_CO_collectFromTop Q 45 [some (.inr 27), none, some (.inl x2), some (.inl x3), some (.inl x4), some (.inl (x5 + (-1 : Int32)))] [] u5))) :
    AW G d M_CO_collectFromTop Q 45 [some (.inr 27), none, some (.inl x2), some (.inl x3), some (.inl x4), some (.inl x5)] [] μ := by
  refine aw_iload d_CO_collectFromTop_45 rfl ?_
  refine aw_if_le (tgt := 102) d_CO_collectFromTop_47 (by decide) (fun q => ?_) (fun q => ?_)
  · replace h := h.1 q
    refine aw_aload_n d_CO_collectFromTop_102 rfl ?_
    refine aw_getR (t := 28) d_CO_collectFromTop_103 lf_CO_9 rfl rfl ?_
    refine aw_iload d_CO_collectFromTop_106 rfl ?_
    refine aw_iload d_CO_collectFromTop_108 rfl ?_
    refine aw_iast d_CO_collectFromTop_110 rfl h.1 ?_
    replace h := h.2
    refine aw_mem (fun u1 e => ?_)
    replace h := h _ e
    refine aw_aload_n d_CO_collectFromTop_111 rfl ?_
    refine aw_dup d_CO_collectFromTop_112 ?_
    refine aw_getI d_CO_collectFromTop_113 lf_CO_58 rfl rfl ?_
    refine aw_iconst (v := 1) d_CO_collectFromTop_116 (by decide) ?_
    refine aw_iadd d_CO_collectFromTop_117 ?_
    refine aw_putI d_CO_collectFromTop_118 lf_CO_58 ⟨_, _, _, rfl, rfl, rfl⟩ rfl rfl ?_
    refine aw_mem (fun u2 e => ?_)
    replace h := h _ e
    refine aw_iinc (v := 1) d_CO_collectFromTop_121 rfl (by decide) ?_
    refine aw_goto (tgt := 7) d_CO_collectFromTop_124 (by decide) ?_
    refine aw_drop 4 ?_
    refine aw_drop 5 ?_
    exact h
  · replace h := h.2 q
    refine aw_aload_n d_CO_collectFromTop_50 rfl ?_
    refine aw_getR (t := 1) d_CO_collectFromTop_51 lf_CO_31 rfl rfl ?_
    refine aw_getR (t := 2) d_CO_collectFromTop_54 lf_CO_82 rfl rfl ?_
    refine aw_aload_n d_CO_collectFromTop_57 rfl ?_
    refine aw_getR (t := 28) d_CO_collectFromTop_58 lf_CO_9 rfl rfl ?_
    refine aw_iload d_CO_collectFromTop_61 rfl ?_
    refine aw_iconst (v := 1) d_CO_collectFromTop_63 (by decide) ?_
    refine aw_isub d_CO_collectFromTop_64 ?_
    refine aw_iald d_CO_collectFromTop_65 rfl h.1 ?_
    replace h := h.2
    refine aw_iald d_CO_collectFromTop_66 rfl h.1 ?_
    replace h := h.2
    refine aw_aload_n d_CO_collectFromTop_67 rfl ?_
    refine aw_getR (t := 1) d_CO_collectFromTop_68 lf_CO_31 rfl rfl ?_
    refine aw_getR (t := 2) d_CO_collectFromTop_71 lf_CO_82 rfl rfl ?_
    refine aw_iload d_CO_collectFromTop_74 rfl ?_
    refine aw_iald d_CO_collectFromTop_76 rfl h.1 ?_
    replace h := h.2
    refine aw_icmp_ge (tgt := 102) d_CO_collectFromTop_77 (by decide) (fun q => ?_) (fun q => ?_)
    · replace h := h.1 q
      refine aw_aload_n d_CO_collectFromTop_102 rfl ?_
      refine aw_getR (t := 28) d_CO_collectFromTop_103 lf_CO_9 rfl rfl ?_
      refine aw_iload d_CO_collectFromTop_106 rfl ?_
      refine aw_iload d_CO_collectFromTop_108 rfl ?_
      refine aw_iast d_CO_collectFromTop_110 rfl h.1 ?_
      replace h := h.2
      refine aw_mem (fun u3 e => ?_)
      replace h := h _ e
      refine aw_aload_n d_CO_collectFromTop_111 rfl ?_
      refine aw_dup d_CO_collectFromTop_112 ?_
      refine aw_getI d_CO_collectFromTop_113 lf_CO_58 rfl rfl ?_
      refine aw_iconst (v := 1) d_CO_collectFromTop_116 (by decide) ?_
      refine aw_iadd d_CO_collectFromTop_117 ?_
      refine aw_putI d_CO_collectFromTop_118 lf_CO_58 ⟨_, _, _, rfl, rfl, rfl⟩ rfl rfl ?_
      refine aw_mem (fun u4 e => ?_)
      replace h := h _ e
      refine aw_iinc (v := 1) d_CO_collectFromTop_121 rfl (by decide) ?_
      refine aw_goto (tgt := 7) d_CO_collectFromTop_124 (by decide) ?_
      refine aw_drop 4 ?_
      refine aw_drop 5 ?_
      exact h
    · replace h := h.2 q
      refine aw_aload_n d_CO_collectFromTop_80 rfl ?_
      refine aw_getR (t := 28) d_CO_collectFromTop_81 lf_CO_9 rfl rfl ?_
      refine aw_iload d_CO_collectFromTop_84 rfl ?_
      refine aw_aload_n d_CO_collectFromTop_86 rfl ?_
      refine aw_getR (t := 28) d_CO_collectFromTop_87 lf_CO_9 rfl rfl ?_
      refine aw_iload d_CO_collectFromTop_90 rfl ?_
      refine aw_iconst (v := 1) d_CO_collectFromTop_92 (by decide) ?_
      refine aw_isub d_CO_collectFromTop_93 ?_
      refine aw_iald d_CO_collectFromTop_94 rfl h.1 ?_
      replace h := h.2
      refine aw_iast d_CO_collectFromTop_95 rfl h.1 ?_
      replace h := h.2
      refine aw_mem (fun u5 e => ?_)
      replace h := h _ e
      refine aw_iinc (v := (-1)) d_CO_collectFromTop_96 rfl (by decide) ?_
      refine aw_goto (tgt := 45) d_CO_collectFromTop_99 (by decide) ?_
      exact h
set_option maxRecDepth 100000 in
theorem vc_CO_bringToZigzag_0 {G : Gp} {d : Nat} {Q : Int32 → Mem → Prop} {μ : Mem}
    (h : AW G d M_CO_bringToZigzag Q 2 [some (.inr 27), some (.inl (0 : Int32))] [] μ) :
    AW G d M_CO_bringToZigzag Q 0 [some (.inr 27), none] [] μ := by
  refine aw_iconst (v := 0) d_CO_bringToZigzag_0 (by decide) ?_
  refine aw_istore_n d_CO_bringToZigzag_1 (Nat.le_of_ble_eq_true rfl) ?_
  exact h
theorem en_CO_bringToZigzag {G : Gp} {d : Nat} {Q : Int32 → Mem → Prop} {μ : Mem}
    (h : AW G d M_CO_bringToZigzag Q 0 [some (.inr 27), none] [] μ) :
    Ct G d M_CO_bringToZigzag [.inr 27] μ Q := ct_of (by decide) (Nat.le_of_ble_eq_true rfl) h
set_option maxRecDepth 100000 in
theorem vc_CO_bringToZigzag_2 {G : Gp} {d : Nat} {Q : Int32 → Mem → Prop} {x1 : Int32} {μ : Mem}
    (h : ((μ 27 7) ≤ x1 → Q 0 μ) ∧ (¬ (μ 27 7) ≤ x1 → (¬ (x1 - x1 / (2 : Int32) * (2 : Int32)) = 0 → vp_in (((μ 27 7) - (1 : Int32)) - (x1 / (2 : Int32))) 60 ∧ vp_in x1 60 ∧ ∀ u1 : Mem, u1 = up μ 29 (ix x1) (μ 28 (ix (((μ 27 7) - (1 : Int32)) - (x1 / (2 : Int32))))) → AW G d M_CO_bringToZigzag Q 2 [some (.inr 27), some (.inl (x1 + (1 : Int32)))] [] u1) ∧ ((x1 - x1 / (2 : Int32) * (2 : Int32)) = 0 → vp_in (x1 / (2 : Int32)) 60 ∧ vp_in x1 60 ∧ ∀ u2 : Mem, u2 = up μ 29 (ix x1) (μ 28 (ix (x1 / (2 : Int32)))) → AW G d M_CO_bringToZigzag Q 2 [some (.inr 27), some (.inl (x1 + (1 : Int32)))] [] u2))) :
    AW G d M_CO_bringToZigzag Q 2 [some (.inr 27), some (.inl x1)] [] μ := by
  refine aw_iload_n d_CO_bringToZigzag_2 rfl ?_
  refine aw_aload_n d_CO_bringToZigzag_3 rfl ?_
  refine aw_getI d_CO_bringToZigzag_4 lf_CO_58 rfl rfl ?_
  refine aw_icmp_ge (tgt := 54) d_CO_bringToZigzag_7 (by decide) (fun q => ?_) (fun q => ?_)
  · replace h := h.1 q
    exact aw_vret d_CO_bringToZigzag_54 rfl h
  · replace h := h.2 q
    refine aw_aload_n d_CO_bringToZigzag_10 rfl ?_
    refine aw_getR (t := 29) d_CO_bringToZigzag_11 lf_CO_15 rfl rfl ?_
    refine aw_iload_n d_CO_bringToZigzag_14 rfl ?_
    refine aw_iload_n d_CO_bringToZigzag_15 rfl ?_
    refine aw_iconst (v := 2) d_CO_bringToZigzag_16 (by decide) ?_
    refine aw_irem d_CO_bringToZigzag_17 (by decide) ?_
    refine aw_if_ne (tgt := 32) d_CO_bringToZigzag_18 (by decide) (fun q => ?_) (fun q => ?_)
    · replace h := h.1 q
      refine aw_aload_n d_CO_bringToZigzag_32 rfl ?_
      refine aw_getR (t := 28) d_CO_bringToZigzag_33 lf_CO_9 rfl rfl ?_
      refine aw_aload_n d_CO_bringToZigzag_36 rfl ?_
      refine aw_getI d_CO_bringToZigzag_37 lf_CO_58 rfl rfl ?_
      refine aw_iconst (v := 1) d_CO_bringToZigzag_40 (by decide) ?_
      refine aw_isub d_CO_bringToZigzag_41 ?_
      refine aw_iload_n d_CO_bringToZigzag_42 rfl ?_
      refine aw_iconst (v := 2) d_CO_bringToZigzag_43 (by decide) ?_
      refine aw_idiv d_CO_bringToZigzag_44 (by decide) ?_
      refine aw_isub d_CO_bringToZigzag_45 ?_
      refine aw_iald d_CO_bringToZigzag_46 rfl h.1 ?_
      replace h := h.2
      refine aw_iast d_CO_bringToZigzag_47 rfl h.1 ?_
      replace h := h.2
      refine aw_mem (fun u1 e => ?_)
      replace h := h _ e
      refine aw_iinc (v := 1) d_CO_bringToZigzag_48 rfl (by decide) ?_
      refine aw_goto (tgt := 2) d_CO_bringToZigzag_51 (by decide) ?_
      exact h
    · replace h := h.2 q
      refine aw_aload_n d_CO_bringToZigzag_21 rfl ?_
      refine aw_getR (t := 28) d_CO_bringToZigzag_22 lf_CO_9 rfl rfl ?_
      refine aw_iload_n d_CO_bringToZigzag_25 rfl ?_
      refine aw_iconst (v := 2) d_CO_bringToZigzag_26 (by decide) ?_
      refine aw_idiv d_CO_bringToZigzag_27 (by decide) ?_
      refine aw_iald d_CO_bringToZigzag_28 rfl h.1 ?_
      replace h := h.2
      refine aw_goto (tgt := 47) d_CO_bringToZigzag_29 (by decide) ?_
      refine aw_iast d_CO_bringToZigzag_47 rfl h.1 ?_
      replace h := h.2
      refine aw_mem (fun u2 e => ?_)
      replace h := h _ e
      refine aw_iinc (v := 1) d_CO_bringToZigzag_48 rfl (by decide) ?_
      refine aw_goto (tgt := 2) d_CO_bringToZigzag_51 (by decide) ?_
      exact h
set_option maxRecDepth 100000 in
theorem vc_CO_search_0 {G : Gp} {d : Nat} {Q : Int32 → Mem → Prop} {x1 x2 x3 : Int32} {μ : Mem}
    (h : (x3 < (μ 27 8) → (x1 < (μ 27 7) → AW G (d + 1) M_CO_search Q 43 [some (.inr 27), some (.inl x1), some (.inl x2), some (.inl x3), some (.inl (0 : Int32)), none, none] [] μ) ∧ (¬ x1 < (μ 27 7) → ∀ u1 : Mem, u1 = up μ 27 8 x3 → ¬ (u1 27 7) < 0 ∧ ix (u1 27 7) ≤ 60 ∧ ∀ u2 : Mem, u2 = cpm u1 31 30 0 0 (ix (u1 27 7)) → Q 0 u2)) ∧ (¬ x3 < (μ 27 8) → Q 0 μ)) :
    AW G (d + 1) M_CO_search Q 0 [some (.inr 27), some (.inl x1), some (.inl x2), some (.inl x3), none, none, none] [] μ := by
  refine aw_iload_n d_CO_search_0 rfl ?_
  refine aw_aload_n d_CO_search_1 rfl ?_
  refine aw_getI d_CO_search_2 lf_CO_64 rfl rfl ?_
  refine aw_icmp_lt (tgt := 9) d_CO_search_5 (by decide) (fun q => ?_) (fun q => ?_)
  · replace h := h.1 q
    refine aw_iload_n d_CO_search_9 rfl ?_
    refine aw_aload_n d_CO_search_10 rfl ?_
    refine aw_getI d_CO_search_11 lf_CO_58 rfl rfl ?_
    refine aw_icmp_lt (tgt := 40) d_CO_search_14 (by decide) (fun q => ?_) (fun q => ?_)
    · replace h := h.1 q
      refine aw_iconst (v := 0) d_CO_search_40 (by decide) ?_
      refine aw_istore d_CO_search_41 (Nat.le_of_ble_eq_true rfl) ?_
      exact h
    · replace h := h.2 q
      refine aw_aload_n d_CO_search_17 rfl ?_
      refine aw_iload_n d_CO_search_18 rfl ?_
      refine aw_putI d_CO_search_19 lf_CO_64 ⟨_, _, _, rfl, rfl, rfl⟩ rfl rfl ?_
      refine aw_mem (fun u1 e => ?_)
      replace h := h _ e
      refine aw_aload_n d_CO_search_22 rfl ?_
      refine aw_getR (t := 31) d_CO_search_23 lf_CO_21 rfl rfl ?_
      refine aw_iconst (v := 0) d_CO_search_26 (by decide) ?_
      refine aw_aload_n d_CO_search_27 rfl ?_
      refine aw_getR (t := 30) d_CO_search_28 lf_CO_18 rfl rfl ?_
      refine aw_iconst (v := 0) d_CO_search_31 (by decide) ?_
      refine aw_aload_n d_CO_search_32 rfl ?_
      refine aw_getI d_CO_search_33 lf_CO_58 rfl rfl ?_
      refine aw_copy d_CO_search_36 la_CO_85 rfl rfl (by decide) (by decide) h.1 (by show 0 + _ ≤ _; rw [Nat.zero_add]; exact h.2.1) (by show 0 + _ ≤ _; rw [Nat.zero_add]; exact h.2.1) (Nat.le_of_ble_eq_true rfl) (by omega) ?_
      replace h := h.2.2
      refine aw_mem (fun u2 e => ?_)
      replace h := h _ e
      exact aw_vret d_CO_search_39 rfl h
  · replace h := h.2 q
    exact aw_vret d_CO_search_8 rfl h
theorem en_CO_search {G : Gp} {d : Nat} {Q : Int32 → Mem → Prop} {x1 x2 x3 : Int32} {μ : Mem}
    (h : AW G (d + 1) M_CO_search Q 0 [some (.inr 27), some (.inl x1), some (.inl x2), some (.inl x3), none, none, none] [] μ) :
    Ct G (d + 1) M_CO_search [.inr 27, .inl x1, .inl x2, .inl x3] μ Q := ct_of (by decide) (Nat.le_of_ble_eq_true rfl) h
set_option maxRecDepth 100000 in
theorem vc_CO_search_43 {G : Gp} {d : Nat} {Q : Int32 → Mem → Prop} {x1 x2 x3 x4 : Int32} {μ : Mem}
    (h : (x2 < x4 → Q 0 μ) ∧ (¬ x2 < x4 → ((6 : Int32) ≤ x4 → Q 0 μ) ∧ (¬ (6 : Int32) ≤ x4 → Ct G d M_CO_canStand [.inr 27, .inl x1, .inl x4, .inr 31] μ (fun r2 u1 => (¬ r2 = 0 → vp_in x4 60 ∧ ∀ y3 : Int32, y3 = (u1 32 (ix x4)) → vp_in x1 60 ∧ Ct G d M_SG_widthOf [.inr 16, .inl (u1 29 (ix x1))] u1 (fun r5 u4 => ∀ y6 : Int32, y6 = (mmax y3 r5) → vp_in x1 60 ∧ ∀ u7 : Mem, u7 = up u4 31 (ix x1) x4 → vp_in x4 60 ∧ ∀ u8 : Mem, u8 = up u7 32 (ix x4) y6 → Ct G d M_CO_search [.inr 27, .inl (x1 + (1 : Int32)), .inl (mmax x2 (x4 + (1 : Int32))), .inl ((x3 - y3) + y6)] u8 (fun _ u9 => vp_in x4 60 ∧ ∀ u10 : Mem, u10 = up u9 32 (ix x4) y3 → AW G (d + 1) M_CO_search Q 43 [some (.inr 27), some (.inl x1), some (.inl x2), some (.inl x3), some (.inl (x4 + (1 : Int32))), none, none] [] u10))) ∧ (r2 = 0 → AW G (d + 1) M_CO_search Q 43 [some (.inr 27), some (.inl x1), some (.inl x2), some (.inl x3), some (.inl (x4 + (1 : Int32))), none, none] [] u1))))) :
    AW G (d + 1) M_CO_search Q 43 [some (.inr 27), some (.inl x1), some (.inl x2), some (.inl x3), some (.inl x4), none, none] [] μ := by
  refine aw_iload d_CO_search_43 rfl ?_
  refine aw_iload_n d_CO_search_45 rfl ?_
  refine aw_icmp_gt (tgt := 156) d_CO_search_46 (by decide) (fun q => ?_) (fun q => ?_)
  · replace h := h.1 q
    exact aw_vret d_CO_search_156 rfl h
  · replace h := h.2 q
    refine aw_iload d_CO_search_49 rfl ?_
    refine aw_bipush (v := 6) d_CO_search_51 (by decide) ?_
    refine aw_icmp_ge (tgt := 156) d_CO_search_53 (by decide) (fun q => ?_) (fun q => ?_)
    · replace h := h.1 q
      exact aw_vret d_CO_search_156 rfl h
    · replace h := h.2 q
      refine aw_aload_n d_CO_search_56 rfl ?_
      refine aw_iload_n d_CO_search_57 rfl ?_
      refine aw_iload d_CO_search_58 rfl ?_
      refine aw_aload_n d_CO_search_60 rfl ?_
      refine aw_getR (t := 31) d_CO_search_61 lf_CO_21 rfl rfl ?_
      refine aw_callV (as := [.inl x1, .inl x4, .inr 31]) d_CO_search_64 lm_CO_91 rfl rfl (by decide) rfl (Nat.le_of_ble_eq_true rfl) rfl h (fun r2 u1 h => ?_)
      refine aw_if_ne (tgt := 73) d_CO_search_67 (by decide) (fun q => ?_) (fun q => ?_)
      · replace h := h.1 q
        refine aw_aload_n d_CO_search_73 rfl ?_
        refine aw_getR (t := 32) d_CO_search_74 lf_CO_24 rfl rfl ?_
        refine aw_iload d_CO_search_77 rfl ?_
        refine aw_iald d_CO_search_79 rfl h.1 ?_
        replace h := h.2
        refine aw_top (fun y3 e => ?_)
        replace h := h _ e
        refine aw_istore d_CO_search_80 (Nat.le_of_ble_eq_true rfl) ?_
        refine aw_iload d_CO_search_82 rfl ?_
        refine aw_aload_n d_CO_search_84 rfl ?_
        refine aw_getR (t := 16) d_CO_search_85 lf_CO_35 rfl rfl ?_
        refine aw_aload_n d_CO_search_88 rfl ?_
        refine aw_getR (t := 29) d_CO_search_89 lf_CO_15 rfl rfl ?_
        refine aw_iload_n d_CO_search_92 rfl ?_
        refine aw_iald d_CO_search_93 rfl h.1 ?_
        replace h := h.2
        refine aw_callV (as := [.inl (u1 29 (ix x1))]) d_CO_search_94 lm_CO_95 rfl rfl (by decide) rfl (Nat.le_of_ble_eq_true rfl) rfl h (fun r5 u4 h => ?_)
        refine aw_mmax d_CO_search_97 lk_CO_98 (Nat.le_of_ble_eq_true rfl) (by omega) ?_
        refine aw_top (fun y6 e => ?_)
        replace h := h _ e
        refine aw_istore d_CO_search_100 (Nat.le_of_ble_eq_true rfl) ?_
        refine aw_aload_n d_CO_search_102 rfl ?_
        refine aw_getR (t := 31) d_CO_search_103 lf_CO_21 rfl rfl ?_
        refine aw_iload_n d_CO_search_106 rfl ?_
        refine aw_iload d_CO_search_107 rfl ?_
        refine aw_iast d_CO_search_109 rfl h.1 ?_
        replace h := h.2
        refine aw_mem (fun u7 e => ?_)
        replace h := h _ e
        refine aw_aload_n d_CO_search_110 rfl ?_
        refine aw_getR (t := 32) d_CO_search_111 lf_CO_24 rfl rfl ?_
        refine aw_iload d_CO_search_114 rfl ?_
        refine aw_iload d_CO_search_116 rfl ?_
        refine aw_iast d_CO_search_118 rfl h.1 ?_
        replace h := h.2
        refine aw_mem (fun u8 e => ?_)
        replace h := h _ e
        refine aw_aload_n d_CO_search_119 rfl ?_
        refine aw_iload_n d_CO_search_120 rfl ?_
        refine aw_iconst (v := 1) d_CO_search_121 (by decide) ?_
        refine aw_iadd d_CO_search_122 ?_
        refine aw_iload_n d_CO_search_123 rfl ?_
        refine aw_iload d_CO_search_124 rfl ?_
        refine aw_iconst (v := 1) d_CO_search_126 (by decide) ?_
        refine aw_iadd d_CO_search_127 ?_
        refine aw_mmax d_CO_search_128 lk_CO_98 (Nat.le_of_ble_eq_true rfl) (by omega) ?_
        refine aw_iload_n d_CO_search_131 rfl ?_
        refine aw_iload d_CO_search_132 rfl ?_
        refine aw_isub d_CO_search_134 ?_
        refine aw_iload d_CO_search_135 rfl ?_
        refine aw_iadd d_CO_search_137 ?_
        refine aw_callVv (as := [.inl (x1 + (1 : Int32)), .inl (mmax x2 (x4 + (1 : Int32))), .inl ((x3 - y3) + y6)]) d_CO_search_138 lm_CO_67 rfl rfl (by decide) rfl (Nat.le_of_ble_eq_true rfl) rfl h (fun u9 h => ?_)
        refine aw_aload_n d_CO_search_141 rfl ?_
        refine aw_getR (t := 32) d_CO_search_142 lf_CO_24 rfl rfl ?_
        refine aw_iload d_CO_search_145 rfl ?_
        refine aw_iload d_CO_search_147 rfl ?_
        refine aw_iast d_CO_search_149 rfl h.1 ?_
        replace h := h.2
        refine aw_mem (fun u10 e => ?_)
        replace h := h _ e
        refine aw_iinc (v := 1) d_CO_search_150 rfl (by decide) ?_
        refine aw_goto (tgt := 43) d_CO_search_153 (by decide) ?_
        refine aw_drop 5 ?_
        refine aw_drop 6 ?_
        exact h
      · replace h := h.2 q
        refine aw_goto (tgt := 150) d_CO_search_70 (by decide) ?_
        refine aw_iinc (v := 1) d_CO_search_150 rfl (by decide) ?_
        refine aw_goto (tgt := 43) d_CO_search_153 (by decide) ?_
        exact h
set_option maxRecDepth 100000 in
theorem vc_CO_takeInTurn_0 {G : Gp} {d : Nat} {Q : Int32 → Mem → Prop} {μ : Mem}
    (h : ∀ u1 : Mem, u1 = up μ 27 8 (0 : Int32) → AW G (d + 1) M_CO_takeInTurn Q 7 [some (.inr 27), some (.inl (0 : Int32)), none, none] [] u1) :
    AW G (d + 1) M_CO_takeInTurn Q 0 [some (.inr 27), none, none, none] [] μ := by
  refine aw_aload_n d_CO_takeInTurn_0 rfl ?_
  refine aw_iconst (v := 0) d_CO_takeInTurn_1 (by decide) ?_
  refine aw_putI d_CO_takeInTurn_2 lf_CO_64 ⟨_, _, _, rfl, rfl, rfl⟩ rfl rfl ?_
  refine aw_mem (fun u1 e => ?_)
  replace h := h _ e
  refine aw_iconst (v := 0) d_CO_takeInTurn_5 (by decide) ?_
  refine aw_istore_n d_CO_takeInTurn_6 (Nat.le_of_ble_eq_true rfl) ?_
  exact h
theorem en_CO_takeInTurn {G : Gp} {d : Nat} {Q : Int32 → Mem → Prop} {μ : Mem}
    (h : AW G (d + 1) M_CO_takeInTurn Q 0 [some (.inr 27), none, none, none] [] μ) :
    Ct G (d + 1) M_CO_takeInTurn [.inr 27] μ Q := ct_of (by decide) (Nat.le_of_ble_eq_true rfl) h
set_option maxRecDepth 100000 in
theorem vc_CO_takeInTurn_7 {G : Gp} {d : Nat} {Q : Int32 → Mem → Prop} {x1 : Int32} {μ : Mem}
    (h : ((μ 27 7) ≤ x1 → Q 0 μ) ∧ (¬ (μ 27 7) ≤ x1 → AW G (d + 1) M_CO_takeInTurn Q 17 [some (.inr 27), some (.inl x1), some (.inl (0 : Int32)), none] [] μ)) :
    AW G (d + 1) M_CO_takeInTurn Q 7 [some (.inr 27), some (.inl x1), none, none] [] μ := by
  refine aw_iload_n d_CO_takeInTurn_7 rfl ?_
  refine aw_aload_n d_CO_takeInTurn_8 rfl ?_
  refine aw_getI d_CO_takeInTurn_9 lf_CO_58 rfl rfl ?_
  refine aw_icmp_ge (tgt := 101) d_CO_takeInTurn_12 (by decide) (fun q => ?_) (fun q => ?_)
  · replace h := h.1 q
    exact aw_vret d_CO_takeInTurn_101 rfl h
  · replace h := h.2 q
    refine aw_iconst (v := 0) d_CO_takeInTurn_15 (by decide) ?_
    refine aw_istore_n d_CO_takeInTurn_16 (Nat.le_of_ble_eq_true rfl) ?_
    exact h
set_option maxRecDepth 100000 in
theorem vc_CO_takeInTurn_17 {G : Gp} {d : Nat} {Q : Int32 → Mem → Prop} {x1 x2 : Int32} {μ : Mem}
    (h : (x1 ≤ x2 → vp_in x2 60 ∧ vp_in x1 60 ∧ Ct G d M_SG_widthOf [.inr 16, .inl (μ 29 (ix x1))] μ (fun r2 u1 => ∀ y3 : Int32, y3 = (mmax (μ 32 (ix x2)) r2) → vp_in x2 60 ∧ ∀ u4 : Mem, u4 = up u1 27 8 ((u1 27 8) + (y3 - (u1 32 (ix x2)))) → vp_in x1 60 ∧ ∀ u5 : Mem, u5 = up u4 30 (ix x1) x2 → vp_in x2 60 ∧ ∀ u6 : Mem, u6 = up u5 32 (ix x2) y3 → AW G (d + 1) M_CO_takeInTurn Q 7 [some (.inr 27), some (.inl (x1 + (1 : Int32))), none, none] [] u6)) ∧ (¬ x1 ≤ x2 → Ct G d M_CO_canStand [.inr 27, .inl x1, .inl x2, .inr 30] μ (fun r8 u7 => (¬ r8 = 0 → vp_in x2 60 ∧ vp_in x1 60 ∧ Ct G d M_SG_widthOf [.inr 16, .inl (u7 29 (ix x1))] u7 (fun r10 u9 => ∀ y11 : Int32, y11 = (mmax (u7 32 (ix x2)) r10) → vp_in x2 60 ∧ ∀ u12 : Mem, u12 = up u9 27 8 ((u9 27 8) + (y11 - (u9 32 (ix x2)))) → vp_in x1 60 ∧ ∀ u13 : Mem, u13 = up u12 30 (ix x1) x2 → vp_in x2 60 ∧ ∀ u14 : Mem, u14 = up u13 32 (ix x2) y11 → AW G (d + 1) M_CO_takeInTurn Q 7 [some (.inr 27), some (.inl (x1 + (1 : Int32))), none, none] [] u14)) ∧ (r8 = 0 → AW G (d + 1) M_CO_takeInTurn Q 17 [some (.inr 27), some (.inl x1), some (.inl (x2 + (1 : Int32))), none] [] u7)))) :
    AW G (d + 1) M_CO_takeInTurn Q 17 [some (.inr 27), some (.inl x1), some (.inl x2), none] [] μ := by
  refine aw_iload_n d_CO_takeInTurn_17 rfl ?_
  refine aw_iload_n d_CO_takeInTurn_18 rfl ?_
  refine aw_icmp_ge (tgt := 41) d_CO_takeInTurn_19 (by decide) (fun q => ?_) (fun q => ?_)
  · replace h := h.1 q
    refine aw_aload_n d_CO_takeInTurn_41 rfl ?_
    refine aw_getR (t := 32) d_CO_takeInTurn_42 lf_CO_24 rfl rfl ?_
    refine aw_iload_n d_CO_takeInTurn_45 rfl ?_
    refine aw_iald d_CO_takeInTurn_46 rfl h.1 ?_
    replace h := h.2
    refine aw_aload_n d_CO_takeInTurn_47 rfl ?_
    refine aw_getR (t := 16) d_CO_takeInTurn_48 lf_CO_35 rfl rfl ?_
    refine aw_aload_n d_CO_takeInTurn_51 rfl ?_
    refine aw_getR (t := 29) d_CO_takeInTurn_52 lf_CO_15 rfl rfl ?_
    refine aw_iload_n d_CO_takeInTurn_55 rfl ?_
    refine aw_iald d_CO_takeInTurn_56 rfl h.1 ?_
    replace h := h.2
    refine aw_callV (as := [.inl (μ 29 (ix x1))]) d_CO_takeInTurn_57 lm_CO_95 rfl rfl (by decide) rfl (Nat.le_of_ble_eq_true rfl) rfl h (fun r2 u1 h => ?_)
    refine aw_mmax d_CO_takeInTurn_60 lk_CO_98 (Nat.le_of_ble_eq_true rfl) (by omega) ?_
    refine aw_top (fun y3 e => ?_)
    replace h := h _ e
    refine aw_istore_n d_CO_takeInTurn_63 (Nat.le_of_ble_eq_true rfl) ?_
    refine aw_aload_n d_CO_takeInTurn_64 rfl ?_
    refine aw_dup d_CO_takeInTurn_65 ?_
    refine aw_getI d_CO_takeInTurn_66 lf_CO_64 rfl rfl ?_
    refine aw_iload_n d_CO_takeInTurn_69 rfl ?_
    refine aw_aload_n d_CO_takeInTurn_70 rfl ?_
    refine aw_getR (t := 32) d_CO_takeInTurn_71 lf_CO_24 rfl rfl ?_
    refine aw_iload_n d_CO_takeInTurn_74 rfl ?_
    refine aw_iald d_CO_takeInTurn_75 rfl h.1 ?_
    replace h := h.2
    refine aw_isub d_CO_takeInTurn_76 ?_
    refine aw_iadd d_CO_takeInTurn_77 ?_
    refine aw_putI d_CO_takeInTurn_78 lf_CO_64 ⟨_, _, _, rfl, rfl, rfl⟩ rfl rfl ?_
    refine aw_mem (fun u4 e => ?_)
    replace h := h _ e
    refine aw_aload_n d_CO_takeInTurn_81 rfl ?_
    refine aw_getR (t := 30) d_CO_takeInTurn_82 lf_CO_18 rfl rfl ?_
    refine aw_iload_n d_CO_takeInTurn_85 rfl ?_
    refine aw_iload_n d_CO_takeInTurn_86 rfl ?_
    refine aw_iast d_CO_takeInTurn_87 rfl h.1 ?_
    replace h := h.2
    refine aw_mem (fun u5 e => ?_)
    replace h := h _ e
    refine aw_aload_n d_CO_takeInTurn_88 rfl ?_
    refine aw_getR (t := 32) d_CO_takeInTurn_89 lf_CO_24 rfl rfl ?_
    refine aw_iload_n d_CO_takeInTurn_92 rfl ?_
    refine aw_iload_n d_CO_takeInTurn_93 rfl ?_
    refine aw_iast d_CO_takeInTurn_94 rfl h.1 ?_
    replace h := h.2
    refine aw_mem (fun u6 e => ?_)
    replace h := h _ e
    refine aw_iinc (v := 1) d_CO_takeInTurn_95 rfl (by decide) ?_
    refine aw_goto (tgt := 7) d_CO_takeInTurn_98 (by decide) ?_
    refine aw_drop 2 ?_
    refine aw_drop 3 ?_
    exact h
  · replace h := h.2 q
    refine aw_aload_n d_CO_takeInTurn_22 rfl ?_
    refine aw_iload_n d_CO_takeInTurn_23 rfl ?_
    refine aw_iload_n d_CO_takeInTurn_24 rfl ?_
    refine aw_aload_n d_CO_takeInTurn_25 rfl ?_
    refine aw_getR (t := 30) d_CO_takeInTurn_26 lf_CO_18 rfl rfl ?_
    refine aw_callV (as := [.inl x1, .inl x2, .inr 30]) d_CO_takeInTurn_29 lm_CO_91 rfl rfl (by decide) rfl (Nat.le_of_ble_eq_true rfl) rfl h (fun r8 u7 h => ?_)
    refine aw_if_ne (tgt := 41) d_CO_takeInTurn_32 (by decide) (fun q => ?_) (fun q => ?_)
    · replace h := h.1 q
      refine aw_aload_n d_CO_takeInTurn_41 rfl ?_
      refine aw_getR (t := 32) d_CO_takeInTurn_42 lf_CO_24 rfl rfl ?_
      refine aw_iload_n d_CO_takeInTurn_45 rfl ?_
      refine aw_iald d_CO_takeInTurn_46 rfl h.1 ?_
      replace h := h.2
      refine aw_aload_n d_CO_takeInTurn_47 rfl ?_
      refine aw_getR (t := 16) d_CO_takeInTurn_48 lf_CO_35 rfl rfl ?_
      refine aw_aload_n d_CO_takeInTurn_51 rfl ?_
      refine aw_getR (t := 29) d_CO_takeInTurn_52 lf_CO_15 rfl rfl ?_
      refine aw_iload_n d_CO_takeInTurn_55 rfl ?_
      refine aw_iald d_CO_takeInTurn_56 rfl h.1 ?_
      replace h := h.2
      refine aw_callV (as := [.inl (u7 29 (ix x1))]) d_CO_takeInTurn_57 lm_CO_95 rfl rfl (by decide) rfl (Nat.le_of_ble_eq_true rfl) rfl h (fun r10 u9 h => ?_)
      refine aw_mmax d_CO_takeInTurn_60 lk_CO_98 (Nat.le_of_ble_eq_true rfl) (by omega) ?_
      refine aw_top (fun y11 e => ?_)
      replace h := h _ e
      refine aw_istore_n d_CO_takeInTurn_63 (Nat.le_of_ble_eq_true rfl) ?_
      refine aw_aload_n d_CO_takeInTurn_64 rfl ?_
      refine aw_dup d_CO_takeInTurn_65 ?_
      refine aw_getI d_CO_takeInTurn_66 lf_CO_64 rfl rfl ?_
      refine aw_iload_n d_CO_takeInTurn_69 rfl ?_
      refine aw_aload_n d_CO_takeInTurn_70 rfl ?_
      refine aw_getR (t := 32) d_CO_takeInTurn_71 lf_CO_24 rfl rfl ?_
      refine aw_iload_n d_CO_takeInTurn_74 rfl ?_
      refine aw_iald d_CO_takeInTurn_75 rfl h.1 ?_
      replace h := h.2
      refine aw_isub d_CO_takeInTurn_76 ?_
      refine aw_iadd d_CO_takeInTurn_77 ?_
      refine aw_putI d_CO_takeInTurn_78 lf_CO_64 ⟨_, _, _, rfl, rfl, rfl⟩ rfl rfl ?_
      refine aw_mem (fun u12 e => ?_)
      replace h := h _ e
      refine aw_aload_n d_CO_takeInTurn_81 rfl ?_
      refine aw_getR (t := 30) d_CO_takeInTurn_82 lf_CO_18 rfl rfl ?_
      refine aw_iload_n d_CO_takeInTurn_85 rfl ?_
      refine aw_iload_n d_CO_takeInTurn_86 rfl ?_
      refine aw_iast d_CO_takeInTurn_87 rfl h.1 ?_
      replace h := h.2
      refine aw_mem (fun u13 e => ?_)
      replace h := h _ e
      refine aw_aload_n d_CO_takeInTurn_88 rfl ?_
      refine aw_getR (t := 32) d_CO_takeInTurn_89 lf_CO_24 rfl rfl ?_
      refine aw_iload_n d_CO_takeInTurn_92 rfl ?_
      refine aw_iload_n d_CO_takeInTurn_93 rfl ?_
      refine aw_iast d_CO_takeInTurn_94 rfl h.1 ?_
      replace h := h.2
      refine aw_mem (fun u14 e => ?_)
      replace h := h _ e
      refine aw_iinc (v := 1) d_CO_takeInTurn_95 rfl (by decide) ?_
      refine aw_goto (tgt := 7) d_CO_takeInTurn_98 (by decide) ?_
      refine aw_drop 2 ?_
      refine aw_drop 3 ?_
      exact h
    · replace h := h.2 q
      refine aw_iinc (v := 1) d_CO_takeInTurn_35 rfl (by decide) ?_
      refine aw_goto (tgt := 17) d_CO_takeInTurn_38 (by decide) ?_
      exact h
set_option maxRecDepth 100000 in
theorem vc_CO_canStand_t_0 {G : Gp} {d : Nat} {Q : Int32 → Mem → Prop} {x1 x2 : Int32} {μ : Mem}
    (h : AW G (d + 1) M_CO_canStand Q 3 [some (.inr 27), some (.inl x1), some (.inl x2), some (.inr 31), some (.inl (0 : Int32))] [] μ) :
    AW G (d + 1) M_CO_canStand Q 0 [some (.inr 27), some (.inl x1), some (.inl x2), some (.inr 31), none] [] μ := by
  refine aw_iconst (v := 0) d_CO_canStand_0 (by decide) ?_
  refine aw_istore d_CO_canStand_1 (Nat.le_of_ble_eq_true rfl) ?_
  exact h
theorem en_CO_canStand_t {G : Gp} {d : Nat} {Q : Int32 → Mem → Prop} {x1 x2 : Int32} {μ : Mem}
    (h : AW G (d + 1) M_CO_canStand Q 0 [some (.inr 27), some (.inl x1), some (.inl x2), some (.inr 31), none] [] μ) :
    Ct G (d + 1) M_CO_canStand [.inr 27, .inl x1, .inl x2, .inr 31] μ Q := ct_of (by decide) (Nat.le_of_ble_eq_true rfl) h
set_option maxRecDepth 100000 in
theorem vc_CO_canStand_t_3 {G : Gp} {d : Nat} {Q : Int32 → Mem → Prop} {x1 x2 x4 : Int32} {μ : Mem}
    (h : (x1 ≤ x4 → Q (1 : Int32) μ) ∧ (¬ x1 ≤ x4 → vp_in x4 60 ∧ (¬ (μ 31 (ix x4)) = x2 → AW G (d + 1) M_CO_canStand Q 3 [some (.inr 27), some (.inl x1), some (.inl x2), some (.inr 31), some (.inl (x4 + (1 : Int32)))] [] μ) ∧ ((μ 31 (ix x4)) = x2 → vp_in x4 60 ∧ vp_in x1 60 ∧ Ct G d M_CO_canShare [.inr 27, .inl (μ 29 (ix x4)), .inl (μ 29 (ix x1))] μ (fun r2 u1 => (¬ r2 = 0 → AW G (d + 1) M_CO_canStand Q 3 [some (.inr 27), some (.inl x1), some (.inl x2), some (.inr 31), some (.inl (x4 + (1 : Int32)))] [] u1) ∧ (r2 = 0 → Q (0 : Int32) u1))))) :
    AW G (d + 1) M_CO_canStand Q 3 [some (.inr 27), some (.inl x1), some (.inl x2), some (.inr 31), some (.inl x4)] [] μ := by
  refine aw_iload d_CO_canStand_3 rfl ?_
  refine aw_iload_n d_CO_canStand_5 rfl ?_
  refine aw_icmp_ge (tgt := 45) d_CO_canStand_6 (by decide) (fun q => ?_) (fun q => ?_)
  · replace h := h.1 q
    refine aw_iconst (v := 1) d_CO_canStand_45 (by decide) ?_
    exact aw_zret d_CO_canStand_46 rfl (Or.inr rfl) h
  · replace h := h.2 q
    refine aw_aload_n d_CO_canStand_9 rfl ?_
    refine aw_iload d_CO_canStand_10 rfl ?_
    refine aw_iald d_CO_canStand_12 rfl h.1 ?_
    replace h := h.2
    refine aw_iload_n d_CO_canStand_13 rfl ?_
    refine aw_icmp_ne (tgt := 39) d_CO_canStand_14 (by decide) (fun q => ?_) (fun q => ?_)
    · replace h := h.1 q
      refine aw_iinc (v := 1) d_CO_canStand_39 rfl (by decide) ?_
      refine aw_goto (tgt := 3) d_CO_canStand_42 (by decide) ?_
      exact h
    · replace h := h.2 q
      refine aw_aload_n d_CO_canStand_17 rfl ?_
      refine aw_aload_n d_CO_canStand_18 rfl ?_
      refine aw_getR (t := 29) d_CO_canStand_19 lf_CO_15 rfl rfl ?_
      refine aw_iload d_CO_canStand_22 rfl ?_
      refine aw_iald d_CO_canStand_24 rfl h.1 ?_
      replace h := h.2
      refine aw_aload_n d_CO_canStand_25 rfl ?_
      refine aw_getR (t := 29) d_CO_canStand_26 lf_CO_15 rfl rfl ?_
      refine aw_iload_n d_CO_canStand_29 rfl ?_
      refine aw_iald d_CO_canStand_30 rfl h.1 ?_
      replace h := h.2
      refine aw_callV (as := [.inl (μ 29 (ix x4)), .inl (μ 29 (ix x1))]) d_CO_canStand_31 lm_CO_104 rfl rfl (by decide) rfl (Nat.le_of_ble_eq_true rfl) rfl h (fun r2 u1 h => ?_)
      refine aw_if_ne (tgt := 39) d_CO_canStand_34 (by decide) (fun q => ?_) (fun q => ?_)
      · replace h := h.1 q
        refine aw_iinc (v := 1) d_CO_canStand_39 rfl (by decide) ?_
        refine aw_goto (tgt := 3) d_CO_canStand_42 (by decide) ?_
        exact h
      · replace h := h.2 q
        refine aw_iconst (v := 0) d_CO_canStand_37 (by decide) ?_
        exact aw_zret d_CO_canStand_38 rfl (Or.inl rfl) h
set_option maxRecDepth 100000 in
theorem vc_CO_canStand_c_0 {G : Gp} {d : Nat} {Q : Int32 → Mem → Prop} {x1 x2 : Int32} {μ : Mem}
    (h : AW G (d + 1) M_CO_canStand Q 3 [some (.inr 27), some (.inl x1), some (.inl x2), some (.inr 30), some (.inl (0 : Int32))] [] μ) :
    AW G (d + 1) M_CO_canStand Q 0 [some (.inr 27), some (.inl x1), some (.inl x2), some (.inr 30), none] [] μ := by
  refine aw_iconst (v := 0) d_CO_canStand_0 (by decide) ?_
  refine aw_istore d_CO_canStand_1 (Nat.le_of_ble_eq_true rfl) ?_
  exact h
theorem en_CO_canStand_c {G : Gp} {d : Nat} {Q : Int32 → Mem → Prop} {x1 x2 : Int32} {μ : Mem}
    (h : AW G (d + 1) M_CO_canStand Q 0 [some (.inr 27), some (.inl x1), some (.inl x2), some (.inr 30), none] [] μ) :
    Ct G (d + 1) M_CO_canStand [.inr 27, .inl x1, .inl x2, .inr 30] μ Q := ct_of (by decide) (Nat.le_of_ble_eq_true rfl) h
set_option maxRecDepth 100000 in
theorem vc_CO_canStand_c_3 {G : Gp} {d : Nat} {Q : Int32 → Mem → Prop} {x1 x2 x4 : Int32} {μ : Mem}
    (h : (x1 ≤ x4 → Q (1 : Int32) μ) ∧ (¬ x1 ≤ x4 → vp_in x4 60 ∧ (¬ (μ 30 (ix x4)) = x2 → AW G (d + 1) M_CO_canStand Q 3 [some (.inr 27), some (.inl x1), some (.inl x2), some (.inr 30), some (.inl (x4 + (1 : Int32)))] [] μ) ∧ ((μ 30 (ix x4)) = x2 → vp_in x4 60 ∧ vp_in x1 60 ∧ Ct G d M_CO_canShare [.inr 27, .inl (μ 29 (ix x4)), .inl (μ 29 (ix x1))] μ (fun r2 u1 => (¬ r2 = 0 → AW G (d + 1) M_CO_canStand Q 3 [some (.inr 27), some (.inl x1), some (.inl x2), some (.inr 30), some (.inl (x4 + (1 : Int32)))] [] u1) ∧ (r2 = 0 → Q (0 : Int32) u1))))) :
    AW G (d + 1) M_CO_canStand Q 3 [some (.inr 27), some (.inl x1), some (.inl x2), some (.inr 30), some (.inl x4)] [] μ := by
  refine aw_iload d_CO_canStand_3 rfl ?_
  refine aw_iload_n d_CO_canStand_5 rfl ?_
  refine aw_icmp_ge (tgt := 45) d_CO_canStand_6 (by decide) (fun q => ?_) (fun q => ?_)
  · replace h := h.1 q
    refine aw_iconst (v := 1) d_CO_canStand_45 (by decide) ?_
    exact aw_zret d_CO_canStand_46 rfl (Or.inr rfl) h
  · replace h := h.2 q
    refine aw_aload_n d_CO_canStand_9 rfl ?_
    refine aw_iload d_CO_canStand_10 rfl ?_
    refine aw_iald d_CO_canStand_12 rfl h.1 ?_
    replace h := h.2
    refine aw_iload_n d_CO_canStand_13 rfl ?_
    refine aw_icmp_ne (tgt := 39) d_CO_canStand_14 (by decide) (fun q => ?_) (fun q => ?_)
    · replace h := h.1 q
      refine aw_iinc (v := 1) d_CO_canStand_39 rfl (by decide) ?_
      refine aw_goto (tgt := 3) d_CO_canStand_42 (by decide) ?_
      exact h
    · replace h := h.2 q
      refine aw_aload_n d_CO_canStand_17 rfl ?_
      refine aw_aload_n d_CO_canStand_18 rfl ?_
      refine aw_getR (t := 29) d_CO_canStand_19 lf_CO_15 rfl rfl ?_
      refine aw_iload d_CO_canStand_22 rfl ?_
      refine aw_iald d_CO_canStand_24 rfl h.1 ?_
      replace h := h.2
      refine aw_aload_n d_CO_canStand_25 rfl ?_
      refine aw_getR (t := 29) d_CO_canStand_26 lf_CO_15 rfl rfl ?_
      refine aw_iload_n d_CO_canStand_29 rfl ?_
      refine aw_iald d_CO_canStand_30 rfl h.1 ?_
      replace h := h.2
      refine aw_callV (as := [.inl (μ 29 (ix x4)), .inl (μ 29 (ix x1))]) d_CO_canStand_31 lm_CO_104 rfl rfl (by decide) rfl (Nat.le_of_ble_eq_true rfl) rfl h (fun r2 u1 h => ?_)
      refine aw_if_ne (tgt := 39) d_CO_canStand_34 (by decide) (fun q => ?_) (fun q => ?_)
      · replace h := h.1 q
        refine aw_iinc (v := 1) d_CO_canStand_39 rfl (by decide) ?_
        refine aw_goto (tgt := 3) d_CO_canStand_42 (by decide) ?_
        exact h
      · replace h := h.2 q
        refine aw_iconst (v := 0) d_CO_canStand_37 (by decide) ?_
        exact aw_zret d_CO_canStand_38 rfl (Or.inl rfl) h
set_option maxRecDepth 100000 in
theorem vc_CO_canShare_0 {G : Gp} {d : Nat} {Q : Int32 → Mem → Prop} {x1 x2 : Int32} {μ : Mem}
    (h : vp_in x1 60 ∧ vp_in x2 60 ∧ ∀ y1 : Int32, y1 = ((μ 2 (ix x1)) - (μ 2 (ix x2))) → (y1 ≤ 0 → Ct G d M_CO_down [.inr 27, .inl x2] μ (fun r3 u2 => Ct G d M_CO_up [.inr 27, .inl x1] u2 (fun r5 u4 => ((-y1) < (r3 + r5) → Q (0 : Int32) u4) ∧ (¬ (-y1) < (r3 + r5) → Q (1 : Int32) u4)))) ∧ (¬ y1 ≤ 0 → Ct G d M_CO_down [.inr 27, .inl x1] μ (fun r7 u6 => Ct G d M_CO_up [.inr 27, .inl x2] u6 (fun r9 u8 => (y1 < (r7 + r9) → Q (0 : Int32) u8) ∧ (¬ y1 < (r7 + r9) → Q (1 : Int32) u8))))) :
    AW G (d + 1) M_CO_canShare Q 0 [some (.inr 27), some (.inl x1), some (.inl x2), none] [] μ := by
  refine aw_aload_n d_CO_canShare_0 rfl ?_
  refine aw_getR (t := 1) d_CO_canShare_1 lf_CO_31 rfl rfl ?_
  refine aw_getR (t := 2) d_CO_canShare_4 lf_CO_82 rfl rfl ?_
  refine aw_iload_n d_CO_canShare_7 rfl ?_
  refine aw_iald d_CO_canShare_8 rfl h.1 ?_
  replace h := h.2
  refine aw_aload_n d_CO_canShare_9 rfl ?_
  refine aw_getR (t := 1) d_CO_canShare_10 lf_CO_31 rfl rfl ?_
  refine aw_getR (t := 2) d_CO_canShare_13 lf_CO_82 rfl rfl ?_
  refine aw_iload_n d_CO_canShare_16 rfl ?_
  refine aw_iald d_CO_canShare_17 rfl h.1 ?_
  replace h := h.2
  refine aw_isub d_CO_canShare_18 ?_
  refine aw_top (fun y1 e => ?_)
  replace h := h _ e
  refine aw_istore_n d_CO_canShare_19 (Nat.le_of_ble_eq_true rfl) ?_
  refine aw_iload_n d_CO_canShare_20 rfl ?_
  refine aw_if_le (tgt := 47) d_CO_canShare_21 (by decide) (fun q => ?_) (fun q => ?_)
  · replace h := h.1 q
    refine aw_iload_n d_CO_canShare_47 rfl ?_
    refine aw_ineg d_CO_canShare_48 ?_
    refine aw_aload_n d_CO_canShare_49 rfl ?_
    refine aw_iload_n d_CO_canShare_50 rfl ?_
    refine aw_callV (as := [.inl x2]) d_CO_canShare_51 lm_CO_108 rfl rfl (by decide) rfl (Nat.le_of_ble_eq_true rfl) rfl h (fun r3 u2 h => ?_)
    refine aw_aload_n d_CO_canShare_54 rfl ?_
    refine aw_iload_n d_CO_canShare_55 rfl ?_
    refine aw_callV (as := [.inl x1]) d_CO_canShare_56 lm_CO_111 rfl rfl (by decide) rfl (Nat.le_of_ble_eq_true rfl) rfl h (fun r5 u4 h => ?_)
    refine aw_iadd d_CO_canShare_59 ?_
    refine aw_icmp_lt (tgt := 67) d_CO_canShare_60 (by decide) (fun q => ?_) (fun q => ?_)
    · replace h := h.1 q
      refine aw_iconst (v := 0) d_CO_canShare_67 (by decide) ?_
      exact aw_zret d_CO_canShare_68 rfl (Or.inl rfl) h
    · replace h := h.2 q
      refine aw_iconst (v := 1) d_CO_canShare_63 (by decide) ?_
      refine aw_goto (tgt := 68) d_CO_canShare_64 (by decide) ?_
      exact aw_zret d_CO_canShare_68 rfl (Or.inr rfl) h
  · replace h := h.2 q
    refine aw_iload_n d_CO_canShare_24 rfl ?_
    refine aw_aload_n d_CO_canShare_25 rfl ?_
    refine aw_iload_n d_CO_canShare_26 rfl ?_
    refine aw_callV (as := [.inl x1]) d_CO_canShare_27 lm_CO_108 rfl rfl (by decide) rfl (Nat.le_of_ble_eq_true rfl) rfl h (fun r7 u6 h => ?_)
    refine aw_aload_n d_CO_canShare_30 rfl ?_
    refine aw_iload_n d_CO_canShare_31 rfl ?_
    refine aw_callV (as := [.inl x2]) d_CO_canShare_32 lm_CO_111 rfl rfl (by decide) rfl (Nat.le_of_ble_eq_true rfl) rfl h (fun r9 u8 h => ?_)
    refine aw_iadd d_CO_canShare_35 ?_
    refine aw_icmp_lt (tgt := 43) d_CO_canShare_36 (by decide) (fun q => ?_) (fun q => ?_)
    · replace h := h.1 q
      refine aw_iconst (v := 0) d_CO_canShare_43 (by decide) ?_
      refine aw_goto (tgt := 68) d_CO_canShare_44 (by decide) ?_
      exact aw_zret d_CO_canShare_68 rfl (Or.inl rfl) h
    · replace h := h.2 q
      refine aw_iconst (v := 1) d_CO_canShare_39 (by decide) ?_
      refine aw_goto (tgt := 68) d_CO_canShare_40 (by decide) ?_
      exact aw_zret d_CO_canShare_68 rfl (Or.inr rfl) h
theorem en_CO_canShare {G : Gp} {d : Nat} {Q : Int32 → Mem → Prop} {x1 x2 : Int32} {μ : Mem}
    (h : AW G (d + 1) M_CO_canShare Q 0 [some (.inr 27), some (.inl x1), some (.inl x2), none] [] μ) :
    Ct G (d + 1) M_CO_canShare [.inr 27, .inl x1, .inl x2] μ Q := ct_of (by decide) (Nat.le_of_ble_eq_true rfl) h
set_option maxRecDepth 100000 in
theorem vc_CO_up_0 {G : Gp} {d : Nat} {Q : Int32 → Mem → Prop} {x1 : Int32} {μ : Mem}
    (h : vp_in x1 60 ∧ ∀ y1 : Int32, y1 = (μ 3 (ix x1)) → (0 ≤ y1 → Ct G d M_CO_levelReach [.inr 27, .inl x1, .inl y1] μ (fun r3 u2 => Q r3 u2)) ∧ (¬ 0 ≤ y1 → Q (4 : Int32) μ)) :
    AW G (d + 1) M_CO_up Q 0 [some (.inr 27), some (.inl x1), none] [] μ := by
  refine aw_aload_n d_CO_up_0 rfl ?_
  refine aw_getR (t := 1) d_CO_up_1 lf_CO_31 rfl rfl ?_
  refine aw_getR (t := 3) d_CO_up_4 lf_CO_114 rfl rfl ?_
  refine aw_iload_n d_CO_up_7 rfl ?_
  refine aw_iald d_CO_up_8 rfl h.1 ?_
  replace h := h.2
  refine aw_top (fun y1 e => ?_)
  replace h := h _ e
  refine aw_istore_n d_CO_up_9 (Nat.le_of_ble_eq_true rfl) ?_
  refine aw_iload_n d_CO_up_10 rfl ?_
  refine aw_if_ge (tgt := 18) d_CO_up_11 (by decide) (fun q => ?_) (fun q => ?_)
  · replace h := h.1 q
    refine aw_aload_n d_CO_up_18 rfl ?_
    refine aw_iload_n d_CO_up_19 rfl ?_
    refine aw_iload_n d_CO_up_20 rfl ?_
    refine aw_callV (as := [.inl x1, .inl y1]) d_CO_up_21 lm_CO_117 rfl rfl (by decide) rfl (Nat.le_of_ble_eq_true rfl) rfl h (fun r3 u2 h => ?_)
    exact aw_iret d_CO_up_24 rfl h
  · replace h := h.2 q
    refine aw_iconst (v := 4) d_CO_up_14 (by decide) ?_
    refine aw_goto (tgt := 24) d_CO_up_15 (by decide) ?_
    exact aw_iret d_CO_up_24 rfl h
theorem en_CO_up {G : Gp} {d : Nat} {Q : Int32 → Mem → Prop} {x1 : Int32} {μ : Mem}
    (h : AW G (d + 1) M_CO_up Q 0 [some (.inr 27), some (.inl x1), none] [] μ) :
    Ct G (d + 1) M_CO_up [.inr 27, .inl x1] μ Q := ct_of (by decide) (Nat.le_of_ble_eq_true rfl) h
set_option maxRecDepth 100000 in
theorem vc_CO_down_0 {G : Gp} {d : Nat} {Q : Int32 → Mem → Prop} {x1 : Int32} {μ : Mem}
    (h : vp_in x1 60 ∧ ∀ y1 : Int32, y1 = (μ 3 (ix x1)) → (0 ≤ y1 → Ct G d M_CO_levelReach [.inr 27, .inl x1, .inl y1] μ (fun r3 u2 => Q r3 u2)) ∧ (¬ 0 ≤ y1 → Q (2 : Int32) μ)) :
    AW G (d + 1) M_CO_down Q 0 [some (.inr 27), some (.inl x1), none] [] μ := by
  refine aw_aload_n d_CO_down_0 rfl ?_
  refine aw_getR (t := 1) d_CO_down_1 lf_CO_31 rfl rfl ?_
  refine aw_getR (t := 3) d_CO_down_4 lf_CO_114 rfl rfl ?_
  refine aw_iload_n d_CO_down_7 rfl ?_
  refine aw_iald d_CO_down_8 rfl h.1 ?_
  replace h := h.2
  refine aw_top (fun y1 e => ?_)
  replace h := h _ e
  refine aw_istore_n d_CO_down_9 (Nat.le_of_ble_eq_true rfl) ?_
  refine aw_iload_n d_CO_down_10 rfl ?_
  refine aw_if_ge (tgt := 18) d_CO_down_11 (by decide) (fun q => ?_) (fun q => ?_)
  · replace h := h.1 q
    refine aw_aload_n d_CO_down_18 rfl ?_
    refine aw_iload_n d_CO_down_19 rfl ?_
    refine aw_iload_n d_CO_down_20 rfl ?_
    refine aw_callV (as := [.inl x1, .inl y1]) d_CO_down_21 lm_CO_117 rfl rfl (by decide) rfl (Nat.le_of_ble_eq_true rfl) rfl h (fun r3 u2 h => ?_)
    exact aw_iret d_CO_down_24 rfl h
  · replace h := h.2 q
    refine aw_iconst (v := 2) d_CO_down_14 (by decide) ?_
    refine aw_goto (tgt := 24) d_CO_down_15 (by decide) ?_
    exact aw_iret d_CO_down_24 rfl h
theorem en_CO_down {G : Gp} {d : Nat} {Q : Int32 → Mem → Prop} {x1 : Int32} {μ : Mem}
    (h : AW G (d + 1) M_CO_down Q 0 [some (.inr 27), some (.inl x1), none] [] μ) :
    Ct G (d + 1) M_CO_down [.inr 27, .inl x1] μ Q := ct_of (by decide) (Nat.le_of_ble_eq_true rfl) h
set_option maxRecDepth 100000 in
theorem vc_CO_levelReach_0 {G : Gp} {d : Nat} {Q : Int32 → Mem → Prop} {x1 x2 : Int32} {μ : Mem}
    (h : ((4 : Int32) ≤ x2 → vp_in x1 60 ∧ (¬ (μ 25 (ix x1)) = (2 : Int32) → Q (1 : Int32) μ) ∧ ((μ 25 (ix x1)) = (2 : Int32) → Q (2 : Int32) μ)) ∧ (¬ (4 : Int32) ≤ x2 → Q (3 : Int32) μ)) :
    AW G d M_CO_levelReach Q 0 [some (.inr 27), some (.inl x1), some (.inl x2)] [] μ := by
  refine aw_iload_n d_CO_levelReach_0 rfl ?_
  refine aw_iconst (v := 4) d_CO_levelReach_1 (by decide) ?_
  refine aw_icmp_ge (tgt := 7) d_CO_levelReach_2 (by decide) (fun q => ?_) (fun q => ?_)
  · replace h := h.1 q
    refine aw_aload_n d_CO_levelReach_7 rfl ?_
    refine aw_getR (t := 16) d_CO_levelReach_8 lf_CO_35 rfl rfl ?_
    refine aw_getR (t := 25) d_CO_levelReach_11 lf_CO_77 rfl rfl ?_
    refine aw_iload_n d_CO_levelReach_14 rfl ?_
    refine aw_iald d_CO_levelReach_15 rfl h.1 ?_
    replace h := h.2
    refine aw_iconst (v := 2) d_CO_levelReach_16 (by decide) ?_
    refine aw_icmp_ne (tgt := 24) d_CO_levelReach_17 (by decide) (fun q => ?_) (fun q => ?_)
    · replace h := h.1 q
      refine aw_iconst (v := 1) d_CO_levelReach_24 (by decide) ?_
      exact aw_iret d_CO_levelReach_25 rfl h
    · replace h := h.2 q
      refine aw_iconst (v := 2) d_CO_levelReach_20 (by decide) ?_
      refine aw_goto (tgt := 25) d_CO_levelReach_21 (by decide) ?_
      exact aw_iret d_CO_levelReach_25 rfl h
  · replace h := h.2 q
    refine aw_iconst (v := 3) d_CO_levelReach_5 (by decide) ?_
    exact aw_iret d_CO_levelReach_6 rfl h
theorem en_CO_levelReach {G : Gp} {d : Nat} {Q : Int32 → Mem → Prop} {x1 x2 : Int32} {μ : Mem}
    (h : AW G d M_CO_levelReach Q 0 [some (.inr 27), some (.inl x1), some (.inl x2)] [] μ) :
    Ct G d M_CO_levelReach [.inr 27, .inl x1, .inl x2] μ Q := ct_of (by decide) (Nat.le_of_ble_eq_true rfl) h
