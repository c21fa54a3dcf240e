/-! verification conditions, by program -/
set_option maxRecDepth 100000 in
theorem vc_SG_forget_0 {G : Gp} {d : Nat} {Q : Int32 → Mem → Prop} {μ : Mem}
    (h : ∀ u1 : Mem, u1 = up μ 16 10 (0 : Int32) → Q 0 u1) :
    AW G d M_SG_forget Q 0 [some (.inr 16)] [] μ := by
  refine aw_aload_n d_SG_forget_0 rfl ?_
  refine aw_iconst (v := 0) d_SG_forget_1 (by decide) ?_
  refine aw_putZ d_SG_forget_2 lf_SG_42 ⟨_, _, _, rfl, rfl, rfl⟩ rfl rfl (Or.inl rfl) ?_
  refine aw_mem (fun u1 e => ?_)
  replace h := h _ e
  exact aw_vret d_SG_forget_5 rfl h
theorem en_SG_forget {G : Gp} {d : Nat} {Q : Int32 → Mem → Prop} {μ : Mem}
    (h : AW G d M_SG_forget Q 0 [some (.inr 16)] [] μ) :
    Ct G d M_SG_forget [.inr 16] μ Q := ct_of (by decide) (Nat.le_of_ble_eq_true rfl) h
set_option maxRecDepth 100000 in
theorem vc_SG_find_0 {G : Gp} {d : Nat} {Q : Int32 → Mem → Prop} {μ : Mem}
    (h : ((μ 16 10) = 0 → ∀ u1 : Mem, u1 = up μ 16 10 (1 : Int32) → Ct G d M_SE_clear [.inr 17] u1 (fun _ u2 => AW G (d + 1) M_SG_find Q 22 [some (.inr 16), some (.inl (0 : Int32))] [] u2)) ∧ (¬ (μ 16 10) = 0 → Q 0 μ)) :
    AW G (d + 1) M_SG_find Q 0 [some (.inr 16), none] [] μ := by
  refine aw_aload_n d_SG_find_0 rfl ?_
  refine aw_getI d_SG_find_1 lf_SG_42 rfl rfl ?_
  refine aw_if_eq (tgt := 8) d_SG_find_4 (by decide) (fun q => ?_) (fun q => ?_)
  · replace h := h.1 q
    refine aw_aload_n d_SG_find_8 rfl ?_
    refine aw_iconst (v := 1) d_SG_find_9 (by decide) ?_
    refine aw_putZ d_SG_find_10 lf_SG_42 ⟨_, _, _, rfl, rfl, rfl⟩ rfl rfl (Or.inr rfl) ?_
    refine aw_mem (fun u1 e => ?_)
    replace h := h _ e
    refine aw_aload_n d_SG_find_13 rfl ?_
    refine aw_getR (t := 17) d_SG_find_14 lf_SG_12 rfl rfl ?_
    refine aw_callVv (as := []) d_SG_find_17 lm_SG_46 rfl rfl (by decide) rfl (Nat.le_of_ble_eq_true rfl) rfl h (fun u2 h => ?_)
    refine aw_iconst (v := 0) d_SG_find_20 (by decide) ?_
    refine aw_istore_n d_SG_find_21 (Nat.le_of_ble_eq_true rfl) ?_
    exact h
  · replace h := h.2 q
    exact aw_vret d_SG_find_7 rfl h
theorem en_SG_find {G : Gp} {d : Nat} {Q : Int32 → Mem → Prop} {μ : Mem}
    (h : AW G (d + 1) M_SG_find Q 0 [some (.inr 16), none] [] μ) :
    Ct G (d + 1) M_SG_find [.inr 16] μ Q := ct_of (by decide) (Nat.le_of_ble_eq_true rfl) h
set_option maxRecDepth 100000 in
theorem vc_SG_find_22 {G : Gp} {d : Nat} {Q : Int32 → Mem → Prop} {x1 : Int32} {μ : Mem}
    (h : ((μ 1 7) ≤ x1 → AW G (d + 1) M_SG_find Q 83 [some (.inr 16), some (.inl (0 : Int32))] [] μ) ∧ (¬ (μ 1 7) ≤ x1 → vp_in x1 60 ∧ vp_in x1 60 ∧ Ct G d M_SG_seatFor [.inr 16, .inl (μ 2 (ix x1)), .inl (μ 6 (ix x1))] μ (fun r2 u1 => vp_in x1 60 ∧ ∀ u3 : Mem, u3 = up u1 23 (ix x1) r2 → Ct G d M_NO_tieOf [.inr 1, .inl x1] u3 (fun r5 u4 => vp_in x1 60 ∧ ∀ u6 : Mem, u6 = up u4 24 (ix x1) r5 → AW G (d + 1) M_SG_find Q 22 [some (.inr 16), some (.inl (x1 + (1 : Int32)))] [] u6)))) :
    AW G (d + 1) M_SG_find Q 22 [some (.inr 16), some (.inl x1)] [] μ := by
  refine aw_iload_n d_SG_find_22 rfl ?_
  refine aw_aload_n d_SG_find_23 rfl ?_
  refine aw_getR (t := 1) d_SG_find_24 lf_SG_31 rfl rfl ?_
  refine aw_getI d_SG_find_27 lf_SG_49 rfl rfl ?_
  refine aw_icmp_ge (tgt := 81) d_SG_find_30 (by decide) (fun q => ?_) (fun q => ?_)
  · replace h := h.1 q
    refine aw_iconst (v := 0) d_SG_find_81 (by decide) ?_
    refine aw_istore_n d_SG_find_82 (Nat.le_of_ble_eq_true rfl) ?_
    exact h
  · replace h := h.2 q
    refine aw_aload_n d_SG_find_33 rfl ?_
    refine aw_getR (t := 23) d_SG_find_34 lf_SG_18 rfl rfl ?_
    refine aw_iload_n d_SG_find_37 rfl ?_
    refine aw_aload_n d_SG_find_38 rfl ?_
    refine aw_aload_n d_SG_find_39 rfl ?_
    refine aw_getR (t := 1) d_SG_find_40 lf_SG_31 rfl rfl ?_
    refine aw_getR (t := 2) d_SG_find_43 lf_SG_55 rfl rfl ?_
    refine aw_iload_n d_SG_find_46 rfl ?_
    refine aw_iald d_SG_find_47 rfl h.1 ?_
    replace h := h.2
    refine aw_aload_n d_SG_find_48 rfl ?_
    refine aw_getR (t := 1) d_SG_find_49 lf_SG_31 rfl rfl ?_
    refine aw_getR (t := 6) d_SG_find_52 lf_SG_58 rfl rfl ?_
    refine aw_iload_n d_SG_find_55 rfl ?_
    refine aw_iald d_SG_find_56 rfl h.1 ?_
    replace h := h.2
    refine aw_callV (as := [.inl (μ 2 (ix x1)), .inl (μ 6 (ix x1))]) d_SG_find_57 lm_SG_61 rfl rfl (by decide) rfl (Nat.le_of_ble_eq_true rfl) rfl h (fun r2 u1 h => ?_)
    refine aw_iast d_SG_find_60 rfl h.1 ?_
    replace h := h.2
    refine aw_mem (fun u3 e => ?_)
    replace h := h _ e
    refine aw_aload_n d_SG_find_61 rfl ?_
    refine aw_getR (t := 24) d_SG_find_62 lf_SG_22 rfl rfl ?_
    refine aw_iload_n d_SG_find_65 rfl ?_
    refine aw_aload_n d_SG_find_66 rfl ?_
    refine aw_getR (t := 1) d_SG_find_67 lf_SG_31 rfl rfl ?_
    refine aw_iload_n d_SG_find_70 rfl ?_
    refine aw_callV (as := [.inl x1]) d_SG_find_71 lm_SG_65 rfl rfl (by decide) rfl (Nat.le_of_ble_eq_true rfl) rfl h (fun r5 u4 h => ?_)
    refine aw_iast d_SG_find_74 rfl h.1 ?_
    replace h := h.2
    refine aw_mem (fun u6 e => ?_)
    replace h := h _ e
    refine aw_iinc (v := 1) d_SG_find_75 rfl (by decide) ?_
    refine aw_goto (tgt := 22) d_SG_find_78 (by decide) ?_
    exact h
set_option maxRecDepth 100000 in
theorem vc_SG_find_83 {G : Gp} {d : Nat} {Q : Int32 → Mem → Prop} {x1 : Int32} {μ : Mem}
    (h : ((μ 1 7) ≤ x1 → Q 0 μ) ∧ (¬ (μ 1 7) ≤ x1 → Ct G d M_NO_beginsChord [.inr 1, .inl x1] μ (fun r2 u1 => (r2 = 0 → AW G (d + 1) M_SG_find Q 83 [some (.inr 16), some (.inl (x1 + (1 : Int32)))] [] u1) ∧ (¬ r2 = 0 → ∀ u3 : Mem, u3 = up u1 16 8 x1 → Ct G d M_NO_chordEnd [.inr 1, .inl x1] u3 (fun r5 u4 => ∀ u6 : Mem, u6 = up u4 16 9 r5 → Ct G d M_SG_decideChord [.inr 16] u6 (fun _ u7 => Ct G d M_SG_changeStates [.inr 16] u7 (fun _ u8 => AW G (d + 1) M_SG_find Q 83 [some (.inr 16), some (.inl (x1 + (1 : Int32)))] [] u8))))))) :
    AW G (d + 1) M_SG_find Q 83 [some (.inr 16), some (.inl x1)] [] μ := by
  refine aw_iload_n d_SG_find_83 rfl ?_
  refine aw_aload_n d_SG_find_84 rfl ?_
  refine aw_getR (t := 1) d_SG_find_85 lf_SG_31 rfl rfl ?_
  refine aw_getI d_SG_find_88 lf_SG_49 rfl rfl ?_
  refine aw_icmp_ge (tgt := 136) d_SG_find_91 (by decide) (fun q => ?_) (fun q => ?_)
  · replace h := h.1 q
    exact aw_vret d_SG_find_136 rfl h
  · replace h := h.2 q
    refine aw_aload_n d_SG_find_94 rfl ?_
    refine aw_getR (t := 1) d_SG_find_95 lf_SG_31 rfl rfl ?_
    refine aw_iload_n d_SG_find_98 rfl ?_
    refine aw_callV (as := [.inl x1]) d_SG_find_99 lm_SG_69 rfl rfl (by decide) rfl (Nat.le_of_ble_eq_true rfl) rfl h (fun r2 u1 h => ?_)
    refine aw_if_eq (tgt := 130) d_SG_find_102 (by decide) (fun q => ?_) (fun q => ?_)
    · replace h := h.1 q
      refine aw_iinc (v := 1) d_SG_find_130 rfl (by decide) ?_
      refine aw_goto (tgt := 83) d_SG_find_133 (by decide) ?_
      exact h
    · replace h := h.2 q
      refine aw_aload_n d_SG_find_105 rfl ?_
      refine aw_iload_n d_SG_find_106 rfl ?_
      refine aw_putI d_SG_find_107 lf_SG_73 ⟨_, _, _, rfl, rfl, rfl⟩ rfl rfl ?_
      refine aw_mem (fun u3 e => ?_)
      replace h := h _ e
      refine aw_aload_n d_SG_find_110 rfl ?_
      refine aw_aload_n d_SG_find_111 rfl ?_
      refine aw_getR (t := 1) d_SG_find_112 lf_SG_31 rfl rfl ?_
      refine aw_iload_n d_SG_find_115 rfl ?_
      refine aw_callV (as := [.inl x1]) d_SG_find_116 lm_SG_76 rfl rfl (by decide) rfl (Nat.le_of_ble_eq_true rfl) rfl h (fun r5 u4 h => ?_)
      refine aw_putI d_SG_find_119 lf_SG_79 ⟨_, _, _, rfl, rfl, rfl⟩ rfl rfl ?_
      refine aw_mem (fun u6 e => ?_)
      replace h := h _ e
      refine aw_aload_n d_SG_find_122 rfl ?_
      refine aw_callVv (as := []) d_SG_find_123 lm_SG_82 rfl rfl (by decide) rfl (Nat.le_of_ble_eq_true rfl) rfl h (fun u7 h => ?_)
      refine aw_aload_n d_SG_find_126 rfl ?_
      refine aw_callVv (as := []) d_SG_find_127 lm_SG_85 rfl rfl (by decide) rfl (Nat.le_of_ble_eq_true rfl) rfl h (fun u8 h => ?_)
      refine aw_iinc (v := 1) d_SG_find_130 rfl (by decide) ?_
      refine aw_goto (tgt := 83) d_SG_find_133 (by decide) ?_
      exact h
set_option maxRecDepth 100000 in
theorem vc_SG_howMany_0 {G : Gp} {d : Nat} {Q : Int32 → Mem → Prop} {x1 : Int32} {μ : Mem}
    (h : AW G d M_SG_howMany Q 4 [some (.inr 16), some (.inl x1), some (.inl (0 : Int32)), some (.inl (0 : Int32))] [] μ) :
    AW G d M_SG_howMany Q 0 [some (.inr 16), some (.inl x1), none, none] [] μ := by
  refine aw_iconst (v := 0) d_SG_howMany_0 (by decide) ?_
  refine aw_istore_n d_SG_howMany_1 (Nat.le_of_ble_eq_true rfl) ?_
  refine aw_iconst (v := 0) d_SG_howMany_2 (by decide) ?_
  refine aw_istore_n d_SG_howMany_3 (Nat.le_of_ble_eq_true rfl) ?_
  exact h
theorem en_SG_howMany {G : Gp} {d : Nat} {Q : Int32 → Mem → Prop} {x1 : Int32} {μ : Mem}
    (h : AW G d M_SG_howMany Q 0 [some (.inr 16), some (.inl x1), none, none] [] μ) :
    Ct G d M_SG_howMany [.inr 16, .inl x1] μ Q := ct_of (by decide) (Nat.le_of_ble_eq_true rfl) h
set_option maxRecDepth 100000 in
theorem vc_SG_howMany_4 {G : Gp} {d : Nat} {Q : Int32 → Mem → Prop} {x1 x2 x3 : Int32} {μ : Mem}
    (h : ((μ 1 7) ≤ x3 → Q x2 μ) ∧ (¬ (μ 1 7) ≤ x3 → vp_in x3 60 ∧ (¬ (μ 25 (ix x3)) = x1 → AW G d M_SG_howMany Q 4 [some (.inr 16), some (.inl x1), some (.inl x2), some (.inl (x3 + (1 : Int32)))] [] μ) ∧ ((μ 25 (ix x3)) = x1 → AW G d M_SG_howMany Q 4 [some (.inr 16), some (.inl x1), some (.inl (x2 + (1 : Int32))), some (.inl (x3 + (1 : Int32)))] [] μ))) :
    AW G d M_SG_howMany Q 4 [some (.inr 16), some (.inl x1), some (.inl x2), some (.inl x3)] [] μ := by
  refine aw_iload_n d_SG_howMany_4 rfl ?_
  refine aw_aload_n d_SG_howMany_5 rfl ?_
  refine aw_getR (t := 1) d_SG_howMany_6 lf_SG_31 rfl rfl ?_
  refine aw_getI d_SG_howMany_9 lf_SG_49 rfl rfl ?_
  refine aw_icmp_ge (tgt := 34) d_SG_howMany_12 (by decide) (fun q => ?_) (fun q => ?_)
  · replace h := h.1 q
    refine aw_iload_n d_SG_howMany_34 rfl ?_
    exact aw_iret d_SG_howMany_35 rfl h
  · replace h := h.2 q
    refine aw_aload_n d_SG_howMany_15 rfl ?_
    refine aw_getR (t := 25) d_SG_howMany_16 lf_SG_25 rfl rfl ?_
    refine aw_iload_n d_SG_howMany_19 rfl ?_
    refine aw_iald d_SG_howMany_20 rfl h.1 ?_
    replace h := h.2
    refine aw_iload_n d_SG_howMany_21 rfl ?_
    refine aw_icmp_ne (tgt := 28) d_SG_howMany_22 (by decide) (fun q => ?_) (fun q => ?_)
    · replace h := h.1 q
      refine aw_iinc (v := 1) d_SG_howMany_28 rfl (by decide) ?_
      refine aw_goto (tgt := 4) d_SG_howMany_31 (by decide) ?_
      exact h
    · replace h := h.2 q
      refine aw_iinc (v := 1) d_SG_howMany_25 rfl (by decide) ?_
      refine aw_iinc (v := 1) d_SG_howMany_28 rfl (by decide) ?_
      refine aw_goto (tgt := 4) d_SG_howMany_31 (by decide) ?_
      exact h
set_option maxRecDepth 100000 in
theorem vc_SG_widthOf_0 {G : Gp} {d : Nat} {Q : Int32 → Mem → Prop} {x1 : Int32} {μ : Mem}
    (h : vp_in x1 60 ∧ (¬ (μ 25 (ix x1)) = 0 → vp_in x1 60 ∧ vp_in ((μ 3 (ix x1)) + (4 : Int32)) 9 ∧ ∀ y1 : Int32, y1 = (([16, 12, 9, 9, 7, 8, 10, 14, 10] : List Int32).getD (ix ((μ 3 (ix x1)) + (4 : Int32))) 0) → vp_in x1 60 ∧ (¬ (μ 25 (ix x1)) = (2 : Int32) → vp_in x1 60 ∧ (¬ (μ 26 (ix x1)) = (1 : Int32) → Ct G d M_NO_markOf [.inr 1, .inl x1, .inl (1 : Int32)] μ (fun r3 u2 => (¬ r3 = (1 : Int32) → Q y1 u2) ∧ (r3 = (1 : Int32) → Q ((((2 : Int32) * y1) + (2 : Int32)) / (3 : Int32)) u2))) ∧ ((μ 26 (ix x1)) = (1 : Int32) → Ct G d M_NO_markOf [.inr 1, .inl x1, .inl (1 : Int32)] μ (fun r5 u4 => (¬ r5 = (1 : Int32) → Q (y1 + (7 : Int32)) u4) ∧ (r5 = (1 : Int32) → Q ((((2 : Int32) * (y1 + (7 : Int32))) + (2 : Int32)) / (3 : Int32)) u4)))) ∧ ((μ 25 (ix x1)) = (2 : Int32) → vp_in x1 60 ∧ (¬ (μ 26 (ix x1)) = (1 : Int32) → Ct G d M_NO_markOf [.inr 1, .inl x1, .inl (1 : Int32)] μ (fun r7 u6 => (¬ r7 = (1 : Int32) → Q (y1 + (8 : Int32)) u6) ∧ (r7 = (1 : Int32) → Q ((((2 : Int32) * (y1 + (8 : Int32))) + (2 : Int32)) / (3 : Int32)) u6))) ∧ ((μ 26 (ix x1)) = (1 : Int32) → Ct G d M_NO_markOf [.inr 1, .inl x1, .inl (1 : Int32)] μ (fun r9 u8 => (¬ r9 = (1 : Int32) → Q ((y1 + (8 : Int32)) + (7 : Int32)) u8) ∧ (r9 = (1 : Int32) → Q ((((2 : Int32) * ((y1 + (8 : Int32)) + (7 : Int32))) + (2 : Int32)) / (3 : Int32)) u8))))) ∧ ((μ 25 (ix x1)) = 0 → Q (0 : Int32) μ)) :
    AW G (d + 1) M_SG_widthOf Q 0 [some (.inr 16), some (.inl x1), none] [] μ := by
  refine aw_aload_n d_SG_widthOf_0 rfl ?_
  refine aw_getR (t := 25) d_SG_widthOf_1 lf_SG_25 rfl rfl ?_
  refine aw_iload_n d_SG_widthOf_4 rfl ?_
  refine aw_iald d_SG_widthOf_5 rfl h.1 ?_
  replace h := h.2
  refine aw_if_ne (tgt := 11) d_SG_widthOf_6 (by decide) (fun q => ?_) (fun q => ?_)
  · replace h := h.1 q
    refine aw_gets d_SG_widthOf_11 ls_SG_88 ?_
    refine aw_aload_n d_SG_widthOf_14 rfl ?_
    refine aw_getR (t := 1) d_SG_widthOf_15 lf_SG_31 rfl rfl ?_
    refine aw_getR (t := 3) d_SG_widthOf_18 lf_SG_91 rfl rfl ?_
    refine aw_iload_n d_SG_widthOf_21 rfl ?_
    refine aw_iald d_SG_widthOf_22 rfl h.1 ?_
    replace h := h.2
    refine aw_iconst (v := 4) d_SG_widthOf_23 (by decide) ?_
    refine aw_iadd d_SG_widthOf_24 ?_
    refine aw_sald (t := 4) d_SG_widthOf_25 rfl h.1 ?_
    replace h := h.2
    refine aw_top (fun y1 e => ?_)
    replace h := h _ e
    refine aw_istore_n d_SG_widthOf_26 (Nat.le_of_ble_eq_true rfl) ?_
    refine aw_aload_n d_SG_widthOf_27 rfl ?_
    refine aw_getR (t := 25) d_SG_widthOf_28 lf_SG_25 rfl rfl ?_
    refine aw_iload_n d_SG_widthOf_31 rfl ?_
    refine aw_iald d_SG_widthOf_32 rfl h.1 ?_
    replace h := h.2
    refine aw_iconst (v := 2) d_SG_widthOf_33 (by decide) ?_
    refine aw_icmp_ne (tgt := 40) d_SG_widthOf_34 (by decide) (fun q => ?_) (fun q => ?_)
    · replace h := h.1 q
      refine aw_aload_n d_SG_widthOf_40 rfl ?_
      refine aw_getR (t := 26) d_SG_widthOf_41 lf_SG_28 rfl rfl ?_
      refine aw_iload_n d_SG_widthOf_44 rfl ?_
      refine aw_iald d_SG_widthOf_45 rfl h.1 ?_
      replace h := h.2
      refine aw_iconst (v := 1) d_SG_widthOf_46 (by decide) ?_
      refine aw_icmp_ne (tgt := 53) d_SG_widthOf_47 (by decide) (fun q => ?_) (fun q => ?_)
      · replace h := h.1 q
        refine aw_aload_n d_SG_widthOf_53 rfl ?_
        refine aw_getR (t := 1) d_SG_widthOf_54 lf_SG_31 rfl rfl ?_
        refine aw_iload_n d_SG_widthOf_57 rfl ?_
        refine aw_iconst (v := 1) d_SG_widthOf_58 (by decide) ?_
        refine aw_callV (as := [.inl x1, .inl (1 : Int32)]) d_SG_widthOf_59 lm_SG_94 rfl rfl (by decide) rfl (Nat.le_of_ble_eq_true rfl) rfl h (fun r3 u2 h => ?_)
        refine aw_iconst (v := 1) d_SG_widthOf_62 (by decide) ?_
        refine aw_icmp_ne (tgt := 76) d_SG_widthOf_63 (by decide) (fun q => ?_) (fun q => ?_)
        · replace h := h.1 q
          refine aw_iload_n d_SG_widthOf_76 rfl ?_
          exact aw_iret d_SG_widthOf_77 rfl h
        · replace h := h.2 q
          refine aw_iconst (v := 2) d_SG_widthOf_66 (by decide) ?_
          refine aw_iload_n d_SG_widthOf_67 rfl ?_
          refine aw_imul d_SG_widthOf_68 ?_
          refine aw_iconst (v := 2) d_SG_widthOf_69 (by decide) ?_
          refine aw_iadd d_SG_widthOf_70 ?_
          refine aw_iconst (v := 3) d_SG_widthOf_71 (by decide) ?_
          refine aw_idiv d_SG_widthOf_72 (by decide) ?_
          refine aw_goto (tgt := 77) d_SG_widthOf_73 (by decide) ?_
          exact aw_iret d_SG_widthOf_77 rfl h
      · replace h := h.2 q
        refine aw_iinc (v := 7) d_SG_widthOf_50 rfl (by decide) ?_
        refine aw_aload_n d_SG_widthOf_53 rfl ?_
        refine aw_getR (t := 1) d_SG_widthOf_54 lf_SG_31 rfl rfl ?_
        refine aw_iload_n d_SG_widthOf_57 rfl ?_
        refine aw_iconst (v := 1) d_SG_widthOf_58 (by decide) ?_
        refine aw_callV (as := [.inl x1, .inl (1 : Int32)]) d_SG_widthOf_59 lm_SG_94 rfl rfl (by decide) rfl (Nat.le_of_ble_eq_true rfl) rfl h (fun r5 u4 h => ?_)
        refine aw_iconst (v := 1) d_SG_widthOf_62 (by decide) ?_
        refine aw_icmp_ne (tgt := 76) d_SG_widthOf_63 (by decide) (fun q => ?_) (fun q => ?_)
        · replace h := h.1 q
          refine aw_iload_n d_SG_widthOf_76 rfl ?_
          exact aw_iret d_SG_widthOf_77 rfl h
        · replace h := h.2 q
          refine aw_iconst (v := 2) d_SG_widthOf_66 (by decide) ?_
          refine aw_iload_n d_SG_widthOf_67 rfl ?_
          refine aw_imul d_SG_widthOf_68 ?_
          refine aw_iconst (v := 2) d_SG_widthOf_69 (by decide) ?_
          refine aw_iadd d_SG_widthOf_70 ?_
          refine aw_iconst (v := 3) d_SG_widthOf_71 (by decide) ?_
          refine aw_idiv d_SG_widthOf_72 (by decide) ?_
          refine aw_goto (tgt := 77) d_SG_widthOf_73 (by decide) ?_
          exact aw_iret d_SG_widthOf_77 rfl h
    · replace h := h.2 q
      refine aw_iinc (v := 8) d_SG_widthOf_37 rfl (by decide) ?_
      refine aw_aload_n d_SG_widthOf_40 rfl ?_
      refine aw_getR (t := 26) d_SG_widthOf_41 lf_SG_28 rfl rfl ?_
      refine aw_iload_n d_SG_widthOf_44 rfl ?_
      refine aw_iald d_SG_widthOf_45 rfl h.1 ?_
      replace h := h.2
      refine aw_iconst (v := 1) d_SG_widthOf_46 (by decide) ?_
      refine aw_icmp_ne (tgt := 53) d_SG_widthOf_47 (by decide) (fun q => ?_) (fun q => ?_)
      · replace h := h.1 q
        refine aw_aload_n d_SG_widthOf_53 rfl ?_
        refine aw_getR (t := 1) d_SG_widthOf_54 lf_SG_31 rfl rfl ?_
        refine aw_iload_n d_SG_widthOf_57 rfl ?_
        refine aw_iconst (v := 1) d_SG_widthOf_58 (by decide) ?_
        refine aw_callV (as := [.inl x1, .inl (1 : Int32)]) d_SG_widthOf_59 lm_SG_94 rfl rfl (by decide) rfl (Nat.le_of_ble_eq_true rfl) rfl h (fun r7 u6 h => ?_)
        refine aw_iconst (v := 1) d_SG_widthOf_62 (by decide) ?_
        refine aw_icmp_ne (tgt := 76) d_SG_widthOf_63 (by decide) (fun q => ?_) (fun q => ?_)
        · replace h := h.1 q
          refine aw_iload_n d_SG_widthOf_76 rfl ?_
          exact aw_iret d_SG_widthOf_77 rfl h
        · replace h := h.2 q
          refine aw_iconst (v := 2) d_SG_widthOf_66 (by decide) ?_
          refine aw_iload_n d_SG_widthOf_67 rfl ?_
          refine aw_imul d_SG_widthOf_68 ?_
          refine aw_iconst (v := 2) d_SG_widthOf_69 (by decide) ?_
          refine aw_iadd d_SG_widthOf_70 ?_
          refine aw_iconst (v := 3) d_SG_widthOf_71 (by decide) ?_
          refine aw_idiv d_SG_widthOf_72 (by decide) ?_
          refine aw_goto (tgt := 77) d_SG_widthOf_73 (by decide) ?_
          exact aw_iret d_SG_widthOf_77 rfl h
      · replace h := h.2 q
        refine aw_iinc (v := 7) d_SG_widthOf_50 rfl (by decide) ?_
        refine aw_aload_n d_SG_widthOf_53 rfl ?_
        refine aw_getR (t := 1) d_SG_widthOf_54 lf_SG_31 rfl rfl ?_
        refine aw_iload_n d_SG_widthOf_57 rfl ?_
        refine aw_iconst (v := 1) d_SG_widthOf_58 (by decide) ?_
        refine aw_callV (as := [.inl x1, .inl (1 : Int32)]) d_SG_widthOf_59 lm_SG_94 rfl rfl (by decide) rfl (Nat.le_of_ble_eq_true rfl) rfl h (fun r9 u8 h => ?_)
        refine aw_iconst (v := 1) d_SG_widthOf_62 (by decide) ?_
        refine aw_icmp_ne (tgt := 76) d_SG_widthOf_63 (by decide) (fun q => ?_) (fun q => ?_)
        · replace h := h.1 q
          refine aw_iload_n d_SG_widthOf_76 rfl ?_
          exact aw_iret d_SG_widthOf_77 rfl h
        · replace h := h.2 q
          refine aw_iconst (v := 2) d_SG_widthOf_66 (by decide) ?_
          refine aw_iload_n d_SG_widthOf_67 rfl ?_
          refine aw_imul d_SG_widthOf_68 ?_
          refine aw_iconst (v := 2) d_SG_widthOf_69 (by decide) ?_
          refine aw_iadd d_SG_widthOf_70 ?_
          refine aw_iconst (v := 3) d_SG_widthOf_71 (by decide) ?_
          refine aw_idiv d_SG_widthOf_72 (by decide) ?_
          refine aw_goto (tgt := 77) d_SG_widthOf_73 (by decide) ?_
          exact aw_iret d_SG_widthOf_77 rfl h
  · replace h := h.2 q
    refine aw_iconst (v := 0) d_SG_widthOf_9 (by decide) ?_
    exact aw_iret d_SG_widthOf_10 rfl h
theorem en_SG_widthOf {G : Gp} {d : Nat} {Q : Int32 → Mem → Prop} {x1 : Int32} {μ : Mem}
    (h : AW G (d + 1) M_SG_widthOf Q 0 [some (.inr 16), some (.inl x1), none] [] μ) :
    Ct G (d + 1) M_SG_widthOf [.inr 16, .inl x1] μ Q := ct_of (by decide) (Nat.le_of_ble_eq_true rfl) h
set_option maxRecDepth 100000 in
theorem vc_SG_seatFor_0 {G : Gp} {d : Nat} {Q : Int32 → Mem → Prop} {x1 x2 : Int32} {μ : Mem}
    (h : vp_in (0 : Int32) 5 ∧ (¬ (μ 15 (ix (0 : Int32))) = 0 → ∀ y1 : Int32, y1 = (x1 - x1 / (7 : Int32) * (7 : Int32)) → vp_in (1 : Int32) 5 ∧ (¬ (μ 15 (ix (1 : Int32))) = 0 → Q ((y1 * (4 : Int32)) + x2) μ) ∧ ((μ 15 (ix (1 : Int32))) = 0 → Q ((y1 * (4 : Int32)) + (0 : Int32)) μ)) ∧ ((μ 15 (ix (0 : Int32))) = 0 → vp_in (1 : Int32) 5 ∧ (¬ (μ 15 (ix (1 : Int32))) = 0 → Q ((x1 * (4 : Int32)) + x2) μ) ∧ ((μ 15 (ix (1 : Int32))) = 0 → Q ((x1 * (4 : Int32)) + (0 : Int32)) μ))) :
    AW G d M_SG_seatFor Q 0 [some (.inr 16), some (.inl x1), some (.inl x2), none] [] μ := by
  refine aw_aload_n d_SG_seatFor_0 rfl ?_
  refine aw_getR (t := 15) d_SG_seatFor_1 lf_SG_39 rfl rfl ?_
  refine aw_iconst (v := 0) d_SG_seatFor_4 (by decide) ?_
  refine aw_iald d_SG_seatFor_5 rfl h.1 ?_
  replace h := h.2
  refine aw_if_ne (tgt := 13) d_SG_seatFor_6 (by decide) (fun q => ?_) (fun q => ?_)
  · replace h := h.1 q
    refine aw_iload_n d_SG_seatFor_13 rfl ?_
    refine aw_bipush (v := 7) d_SG_seatFor_14 (by decide) ?_
    refine aw_irem d_SG_seatFor_16 (by decide) ?_
    refine aw_top (fun y1 e => ?_)
    replace h := h _ e
    refine aw_istore_n d_SG_seatFor_17 (Nat.le_of_ble_eq_true rfl) ?_
    refine aw_iload_n d_SG_seatFor_18 rfl ?_
    refine aw_iconst (v := 4) d_SG_seatFor_19 (by decide) ?_
    refine aw_imul d_SG_seatFor_20 ?_
    refine aw_aload_n d_SG_seatFor_21 rfl ?_
    refine aw_getR (t := 15) d_SG_seatFor_22 lf_SG_39 rfl rfl ?_
    refine aw_iconst (v := 1) d_SG_seatFor_25 (by decide) ?_
    refine aw_iald d_SG_seatFor_26 rfl h.1 ?_
    replace h := h.2
    refine aw_if_ne (tgt := 34) d_SG_seatFor_27 (by decide) (fun q => ?_) (fun q => ?_)
    · replace h := h.1 q
      refine aw_iload_n d_SG_seatFor_34 rfl ?_
      refine aw_iadd d_SG_seatFor_35 ?_
      exact aw_iret d_SG_seatFor_36 rfl h
    · replace h := h.2 q
      refine aw_iconst (v := 0) d_SG_seatFor_30 (by decide) ?_
      refine aw_goto (tgt := 35) d_SG_seatFor_31 (by decide) ?_
      refine aw_iadd d_SG_seatFor_35 ?_
      exact aw_iret d_SG_seatFor_36 rfl h
  · replace h := h.2 q
    refine aw_iload_n d_SG_seatFor_9 rfl ?_
    refine aw_goto (tgt := 17) d_SG_seatFor_10 (by decide) ?_
    refine aw_istore_n d_SG_seatFor_17 (Nat.le_of_ble_eq_true rfl) ?_
    refine aw_iload_n d_SG_seatFor_18 rfl ?_
    refine aw_iconst (v := 4) d_SG_seatFor_19 (by decide) ?_
    refine aw_imul d_SG_seatFor_20 ?_
    refine aw_aload_n d_SG_seatFor_21 rfl ?_
    refine aw_getR (t := 15) d_SG_seatFor_22 lf_SG_39 rfl rfl ?_
    refine aw_iconst (v := 1) d_SG_seatFor_25 (by decide) ?_
    refine aw_iald d_SG_seatFor_26 rfl h.1 ?_
    replace h := h.2
    refine aw_if_ne (tgt := 34) d_SG_seatFor_27 (by decide) (fun q => ?_) (fun q => ?_)
    · replace h := h.1 q
      refine aw_iload_n d_SG_seatFor_34 rfl ?_
      refine aw_iadd d_SG_seatFor_35 ?_
      exact aw_iret d_SG_seatFor_36 rfl h
    · replace h := h.2 q
      refine aw_iconst (v := 0) d_SG_seatFor_30 (by decide) ?_
      refine aw_goto (tgt := 35) d_SG_seatFor_31 (by decide) ?_
      refine aw_iadd d_SG_seatFor_35 ?_
      exact aw_iret d_SG_seatFor_36 rfl h
theorem en_SG_seatFor {G : Gp} {d : Nat} {Q : Int32 → Mem → Prop} {x1 x2 : Int32} {μ : Mem}
    (h : AW G d M_SG_seatFor Q 0 [some (.inr 16), some (.inl x1), some (.inl x2), none] [] μ) :
    Ct G d M_SG_seatFor [.inr 16, .inl x1, .inl x2] μ Q := ct_of (by decide) (Nat.le_of_ble_eq_true rfl) h
set_option maxRecDepth 100000 in
theorem vc_SG_decideChord_0 {G : Gp} {d : Nat} {Q : Int32 → Mem → Prop} {μ : Mem}
    (h : ∀ y1 : Int32, y1 = (μ 16 8) → AW G (d + 1) M_SG_decideChord Q 5 [some (.inr 16), some (.inl y1), none, none] [] μ) :
    AW G (d + 1) M_SG_decideChord Q 0 [some (.inr 16), none, none, none] [] μ := by
  refine aw_aload_n d_SG_decideChord_0 rfl ?_
  refine aw_getI d_SG_decideChord_1 lf_SG_73 rfl rfl ?_
  refine aw_top (fun y1 e => ?_)
  replace h := h _ e
  refine aw_istore_n d_SG_decideChord_4 (Nat.le_of_ble_eq_true rfl) ?_
  exact h
theorem en_SG_decideChord {G : Gp} {d : Nat} {Q : Int32 → Mem → Prop} {μ : Mem}
    (h : AW G (d + 1) M_SG_decideChord Q 0 [some (.inr 16), none, none, none] [] μ) :
    Ct G (d + 1) M_SG_decideChord [.inr 16] μ Q := ct_of (by decide) (Nat.le_of_ble_eq_true rfl) h
set_option maxRecDepth 100000 in
theorem vc_SG_decideChord_5 {G : Gp} {d : Nat} {Q : Int32 → Mem → Prop} {x1 : Int32} {μ : Mem}
    (h : ((μ 16 9) ≤ x1 → Q 0 μ) ∧ (¬ (μ 16 9) ≤ x1 → vp_in x1 60 ∧ ∀ y1 : Int32, y1 = (μ 7 (ix x1)) → Ct G d M_SG_stateAhead [.inr 16, .inl y1] μ (fun r3 u2 => vp_in y1 60 ∧ ∀ u4 : Mem, u4 = up u2 25 (ix y1) (0 : Int32) → vp_in y1 60 ∧ ∀ u5 : Mem, u5 = up u4 26 (ix y1) (0 : Int32) → vp_in y1 60 ∧ ((u5 24 (ix y1)) = (-1 : Int32) → Ct G d M_SG_needsSign [.inr 16, .inl y1, .inl r3] u5 (fun r7 u6 => (r7 = 0 → Ct G d M_SG_isCourtesy [.inr 16, .inl y1] u6 (fun r9 u8 => (r9 = 0 → AW G (d + 1) M_SG_decideChord Q 5 [some (.inr 16), some (.inl (x1 + (1 : Int32))), none, none] [] u8) ∧ (¬ r9 = 0 → vp_in y1 60 ∧ ∀ u10 : Mem, u10 = up u8 25 (ix y1) (2 : Int32) → vp_in y1 60 ∧ vp_in y1 60 ∧ Ct G d M_SE_setCourtesy [.inr 17, .inl (u10 23 (ix y1)), .inl (u10 4 (ix y1))] u10 (fun _ u11 => AW G (d + 1) M_SG_decideChord Q 5 [some (.inr 16), some (.inl (x1 + (1 : Int32))), none, none] [] u11)))) ∧ (¬ r7 = 0 → vp_in y1 60 ∧ ∀ u12 : Mem, u12 = up u6 25 (ix y1) (1 : Int32) → vp_in y1 60 ∧ Ct G d M_SG_wantsNatural [.inr 16, .inl (u12 3 (ix y1)), .inl r3] u12 (fun r14 u13 => (r14 = 0 → vp_in y1 60 ∧ ∀ u15 : Mem, u15 = up u13 26 (ix y1) (0 : Int32) → AW G (d + 1) M_SG_decideChord Q 5 [some (.inr 16), some (.inl (x1 + (1 : Int32))), none, none] [] u15) ∧ (¬ r14 = 0 → vp_in y1 60 ∧ ∀ u16 : Mem, u16 = up u13 26 (ix y1) (1 : Int32) → AW G (d + 1) M_SG_decideChord Q 5 [some (.inr 16), some (.inl (x1 + (1 : Int32))), none, none] [] u16))))) ∧ (¬ (u5 24 (ix y1)) = (-1 : Int32) → AW G (d + 1) M_SG_decideChord Q 5 [some (.inr 16), some (.inl (x1 + (1 : Int32))), none, none] [] u5)))) :
    AW G (d + 1) M_SG_decideChord Q 5 [some (.inr 16), some (.inl x1), none, none] [] μ := by
  refine aw_iload_n d_SG_decideChord_5 rfl ?_
  refine aw_aload_n d_SG_decideChord_6 rfl ?_
  refine aw_getI d_SG_decideChord_7 lf_SG_79 rfl rfl ?_
  refine aw_icmp_ge (tgt := 146) d_SG_decideChord_10 (by decide) (fun q => ?_) (fun q => ?_)
  · replace h := h.1 q
    exact aw_vret d_SG_decideChord_146 rfl h
  · replace h := h.2 q
    refine aw_aload_n d_SG_decideChord_13 rfl ?_
    refine aw_getR (t := 1) d_SG_decideChord_14 lf_SG_31 rfl rfl ?_
    refine aw_getR (t := 7) d_SG_decideChord_17 lf_SG_97 rfl rfl ?_
    refine aw_iload_n d_SG_decideChord_20 rfl ?_
    refine aw_iald d_SG_decideChord_21 rfl h.1 ?_
    replace h := h.2
    refine aw_top (fun y1 e => ?_)
    replace h := h _ e
    refine aw_istore_n d_SG_decideChord_22 (Nat.le_of_ble_eq_true rfl) ?_
    refine aw_aload_n d_SG_decideChord_23 rfl ?_
    refine aw_iload_n d_SG_decideChord_24 rfl ?_
    refine aw_callV (as := [.inl y1]) d_SG_decideChord_25 lm_SG_100 rfl rfl (by decide) rfl (Nat.le_of_ble_eq_true rfl) rfl h (fun r3 u2 h => ?_)
    refine aw_istore_n d_SG_decideChord_28 (Nat.le_of_ble_eq_true rfl) ?_
    refine aw_aload_n d_SG_decideChord_29 rfl ?_
    refine aw_getR (t := 25) d_SG_decideChord_30 lf_SG_25 rfl rfl ?_
    refine aw_iload_n d_SG_decideChord_33 rfl ?_
    refine aw_iconst (v := 0) d_SG_decideChord_34 (by decide) ?_
    refine aw_iast d_SG_decideChord_35 rfl h.1 ?_
    replace h := h.2
    refine aw_mem (fun u4 e => ?_)
    replace h := h _ e
    refine aw_aload_n d_SG_decideChord_36 rfl ?_
    refine aw_getR (t := 26) d_SG_decideChord_37 lf_SG_28 rfl rfl ?_
    refine aw_iload_n d_SG_decideChord_40 rfl ?_
    refine aw_iconst (v := 0) d_SG_decideChord_41 (by decide) ?_
    refine aw_iast d_SG_decideChord_42 rfl h.1 ?_
    replace h := h.2
    refine aw_mem (fun u5 e => ?_)
    replace h := h _ e
    refine aw_aload_n d_SG_decideChord_43 rfl ?_
    refine aw_getR (t := 24) d_SG_decideChord_44 lf_SG_22 rfl rfl ?_
    refine aw_iload_n d_SG_decideChord_47 rfl ?_
    refine aw_iald d_SG_decideChord_48 rfl h.1 ?_
    replace h := h.2
    refine aw_iconst (v := (-1)) d_SG_decideChord_49 (by decide) ?_
    refine aw_icmp_eq (tgt := 56) d_SG_decideChord_50 (by decide) (fun q => ?_) (fun q => ?_)
    · replace h := h.1 q
      refine aw_aload_n d_SG_decideChord_56 rfl ?_
      refine aw_iload_n d_SG_decideChord_57 rfl ?_
      refine aw_iload_n d_SG_decideChord_58 rfl ?_
      refine aw_callV (as := [.inl y1, .inl r3]) d_SG_decideChord_59 lm_SG_103 rfl rfl (by decide) rfl (Nat.le_of_ble_eq_true rfl) rfl h (fun r7 u6 h => ?_)
      refine aw_if_eq (tgt := 103) d_SG_decideChord_62 (by decide) (fun q => ?_) (fun q => ?_)
      · replace h := h.1 q
        refine aw_aload_n d_SG_decideChord_103 rfl ?_
        refine aw_iload_n d_SG_decideChord_104 rfl ?_
        refine aw_callV (as := [.inl y1]) d_SG_decideChord_105 lm_SG_110 rfl rfl (by decide) rfl (Nat.le_of_ble_eq_true rfl) rfl h (fun r9 u8 h => ?_)
        refine aw_if_eq (tgt := 140) d_SG_decideChord_108 (by decide) (fun q => ?_) (fun q => ?_)
        · replace h := h.1 q
          refine aw_iinc (v := 1) d_SG_decideChord_140 rfl (by decide) ?_
          refine aw_goto (tgt := 5) d_SG_decideChord_143 (by decide) ?_
          refine aw_drop 2 ?_
          refine aw_drop 3 ?_
          exact h
        · replace h := h.2 q
          refine aw_aload_n d_SG_decideChord_111 rfl ?_
          refine aw_getR (t := 25) d_SG_decideChord_112 lf_SG_25 rfl rfl ?_
          refine aw_iload_n d_SG_decideChord_115 rfl ?_
          refine aw_iconst (v := 2) d_SG_decideChord_116 (by decide) ?_
          refine aw_iast d_SG_decideChord_117 rfl h.1 ?_
          replace h := h.2
          refine aw_mem (fun u10 e => ?_)
          replace h := h _ e
          refine aw_aload_n d_SG_decideChord_118 rfl ?_
          refine aw_getR (t := 17) d_SG_decideChord_119 lf_SG_12 rfl rfl ?_
          refine aw_aload_n d_SG_decideChord_122 rfl ?_
          refine aw_getR (t := 23) d_SG_decideChord_123 lf_SG_18 rfl rfl ?_
          refine aw_iload_n d_SG_decideChord_126 rfl ?_
          refine aw_iald d_SG_decideChord_127 rfl h.1 ?_
          replace h := h.2
          refine aw_aload_n d_SG_decideChord_128 rfl ?_
          refine aw_getR (t := 1) d_SG_decideChord_129 lf_SG_31 rfl rfl ?_
          refine aw_getR (t := 4) d_SG_decideChord_132 lf_SG_113 rfl rfl ?_
          refine aw_iload_n d_SG_decideChord_135 rfl ?_
          refine aw_iald d_SG_decideChord_136 rfl h.1 ?_
          replace h := h.2
          refine aw_callVv (as := [.inl (u10 23 (ix y1)), .inl (u10 4 (ix y1))]) d_SG_decideChord_137 lm_SG_116 rfl rfl (by decide) rfl (Nat.le_of_ble_eq_true rfl) rfl h (fun u11 h => ?_)
          refine aw_iinc (v := 1) d_SG_decideChord_140 rfl (by decide) ?_
          refine aw_goto (tgt := 5) d_SG_decideChord_143 (by decide) ?_
          refine aw_drop 2 ?_
          refine aw_drop 3 ?_
          exact h
      · replace h := h.2 q
        refine aw_aload_n d_SG_decideChord_65 rfl ?_
        refine aw_getR (t := 25) d_SG_decideChord_66 lf_SG_25 rfl rfl ?_
        refine aw_iload_n d_SG_decideChord_69 rfl ?_
        refine aw_iconst (v := 1) d_SG_decideChord_70 (by decide) ?_
        refine aw_iast d_SG_decideChord_71 rfl h.1 ?_
        replace h := h.2
        refine aw_mem (fun u12 e => ?_)
        replace h := h _ e
        refine aw_aload_n d_SG_decideChord_72 rfl ?_
        refine aw_getR (t := 26) d_SG_decideChord_73 lf_SG_28 rfl rfl ?_
        refine aw_iload_n d_SG_decideChord_76 rfl ?_
        refine aw_aload_n d_SG_decideChord_77 rfl ?_
        refine aw_aload_n d_SG_decideChord_78 rfl ?_
        refine aw_getR (t := 1) d_SG_decideChord_79 lf_SG_31 rfl rfl ?_
        refine aw_getR (t := 3) d_SG_decideChord_82 lf_SG_91 rfl rfl ?_
        refine aw_iload_n d_SG_decideChord_85 rfl ?_
        refine aw_iald d_SG_decideChord_86 rfl h.1 ?_
        replace h := h.2
        refine aw_iload_n d_SG_decideChord_87 rfl ?_
        refine aw_callV (as := [.inl (u12 3 (ix y1)), .inl r3]) d_SG_decideChord_88 lm_SG_107 rfl rfl (by decide) rfl (Nat.le_of_ble_eq_true rfl) rfl h (fun r14 u13 h => ?_)
        refine aw_if_eq (tgt := 98) d_SG_decideChord_91 (by decide) (fun q => ?_) (fun q => ?_)
        · replace h := h.1 q
          refine aw_iconst (v := 0) d_SG_decideChord_98 (by decide) ?_
          refine aw_iast d_SG_decideChord_99 rfl h.1 ?_
          replace h := h.2
          refine aw_mem (fun u15 e => ?_)
          replace h := h _ e
          refine aw_goto (tgt := 140) d_SG_decideChord_100 (by decide) ?_
          refine aw_iinc (v := 1) d_SG_decideChord_140 rfl (by decide) ?_
          refine aw_goto (tgt := 5) d_SG_decideChord_143 (by decide) ?_
          refine aw_drop 2 ?_
          refine aw_drop 3 ?_
          exact h
        · replace h := h.2 q
          refine aw_iconst (v := 1) d_SG_decideChord_94 (by decide) ?_
          refine aw_goto (tgt := 99) d_SG_decideChord_95 (by decide) ?_
          refine aw_iast d_SG_decideChord_99 rfl h.1 ?_
          replace h := h.2
          refine aw_mem (fun u16 e => ?_)
          replace h := h _ e
          refine aw_goto (tgt := 140) d_SG_decideChord_100 (by decide) ?_
          refine aw_iinc (v := 1) d_SG_decideChord_140 rfl (by decide) ?_
          refine aw_goto (tgt := 5) d_SG_decideChord_143 (by decide) ?_
          refine aw_drop 2 ?_
          refine aw_drop 3 ?_
          exact h
    · replace h := h.2 q
      refine aw_goto (tgt := 140) d_SG_decideChord_53 (by decide) ?_
      refine aw_iinc (v := 1) d_SG_decideChord_140 rfl (by decide) ?_
      refine aw_goto (tgt := 5) d_SG_decideChord_143 (by decide) ?_
      refine aw_drop 2 ?_
      refine aw_drop 3 ?_
      exact h
set_option maxRecDepth 100000 in
theorem vc_SG_changeStates_0 {G : Gp} {d : Nat} {Q : Int32 → Mem → Prop} {μ : Mem}
    (h : ∀ y1 : Int32, y1 = (μ 16 8) → AW G (d + 1) M_SG_changeStates Q 5 [some (.inr 16), some (.inl y1), none, none] [] μ) :
    AW G (d + 1) M_SG_changeStates Q 0 [some (.inr 16), none, none, none] [] μ := by
  refine aw_aload_n d_SG_changeStates_0 rfl ?_
  refine aw_getI d_SG_changeStates_1 lf_SG_73 rfl rfl ?_
  refine aw_top (fun y1 e => ?_)
  replace h := h _ e
  refine aw_istore_n d_SG_changeStates_4 (Nat.le_of_ble_eq_true rfl) ?_
  exact h
theorem en_SG_changeStates {G : Gp} {d : Nat} {Q : Int32 → Mem → Prop} {μ : Mem}
    (h : AW G (d + 1) M_SG_changeStates Q 0 [some (.inr 16), none, none, none] [] μ) :
    Ct G (d + 1) M_SG_changeStates [.inr 16] μ Q := ct_of (by decide) (Nat.le_of_ble_eq_true rfl) h
set_option maxRecDepth 100000 in
theorem vc_SG_changeStates_5 {G : Gp} {d : Nat} {Q : Int32 → Mem → Prop} {x1 : Int32} {μ : Mem}
    (h : ((μ 16 9) ≤ x1 → Q 0 μ) ∧ (¬ (μ 16 9) ≤ x1 → vp_in x1 60 ∧ ∀ y1 : Int32, y1 = (μ 7 (ix x1)) → vp_in y1 60 ∧ ∀ y2 : Int32, y2 = (μ 4 (ix y1)) → vp_in y1 60 ∧ vp_in y1 60 ∧ Ct G d M_SG_alterByKey [.inr 16, .inl y2, .inl (μ 2 (ix y1))] μ (fun r4 u3 => Ct G d M_SE_enter [.inr 17, .inl (μ 23 (ix y1)), .inl y2, .inl r4] u3 (fun _ u5 => Ct G d M_SG_hasUnlike [.inr 16, .inl y1] u5 (fun r7 u6 => (r7 = 0 → vp_in y1 60 ∧ (¬ (u6 24 (ix y1)) = (-1 : Int32) → AW G (d + 1) M_SG_changeStates Q 5 [some (.inr 16), some (.inl (x1 + (1 : Int32))), none, none] [] u6) ∧ ((u6 24 (ix y1)) = (-1 : Int32) → vp_in y1 60 ∧ vp_in y1 60 ∧ Ct G d M_SE_setState [.inr 17, .inl (u6 23 (ix y1)), .inl (u6 3 (ix y1))] u6 (fun _ u8 => AW G (d + 1) M_SG_changeStates Q 5 [some (.inr 16), some (.inl (x1 + (1 : Int32))), none, none] [] u8))) ∧ (¬ r7 = 0 → vp_in y1 60 ∧ Ct G d M_SE_setState [.inr 17, .inl (u6 23 (ix y1)), .inl (99 : Int32)] u6 (fun _ u9 => AW G (d + 1) M_SG_changeStates Q 5 [some (.inr 16), some (.inl (x1 + (1 : Int32))), none, none] [] u9))))))) :
    AW G (d + 1) M_SG_changeStates Q 5 [some (.inr 16), some (.inl x1), none, none] [] μ := by
  refine aw_iload_n d_SG_changeStates_5 rfl ?_
  refine aw_aload_n d_SG_changeStates_6 rfl ?_
  refine aw_getI d_SG_changeStates_7 lf_SG_79 rfl rfl ?_
  refine aw_icmp_ge (tgt := 125) d_SG_changeStates_10 (by decide) (fun q => ?_) (fun q => ?_)
  · replace h := h.1 q
    exact aw_vret d_SG_changeStates_125 rfl h
  · replace h := h.2 q
    refine aw_aload_n d_SG_changeStates_13 rfl ?_
    refine aw_getR (t := 1) d_SG_changeStates_14 lf_SG_31 rfl rfl ?_
    refine aw_getR (t := 7) d_SG_changeStates_17 lf_SG_97 rfl rfl ?_
    refine aw_iload_n d_SG_changeStates_20 rfl ?_
    refine aw_iald d_SG_changeStates_21 rfl h.1 ?_
    replace h := h.2
    refine aw_top (fun y1 e => ?_)
    replace h := h _ e
    refine aw_istore_n d_SG_changeStates_22 (Nat.le_of_ble_eq_true rfl) ?_
    refine aw_aload_n d_SG_changeStates_23 rfl ?_
    refine aw_getR (t := 1) d_SG_changeStates_24 lf_SG_31 rfl rfl ?_
    refine aw_getR (t := 4) d_SG_changeStates_27 lf_SG_113 rfl rfl ?_
    refine aw_iload_n d_SG_changeStates_30 rfl ?_
    refine aw_iald d_SG_changeStates_31 rfl h.1 ?_
    replace h := h.2
    refine aw_top (fun y2 e => ?_)
    replace h := h _ e
    refine aw_istore_n d_SG_changeStates_32 (Nat.le_of_ble_eq_true rfl) ?_
    refine aw_aload_n d_SG_changeStates_33 rfl ?_
    refine aw_getR (t := 17) d_SG_changeStates_34 lf_SG_12 rfl rfl ?_
    refine aw_aload_n d_SG_changeStates_37 rfl ?_
    refine aw_getR (t := 23) d_SG_changeStates_38 lf_SG_18 rfl rfl ?_
    refine aw_iload_n d_SG_changeStates_41 rfl ?_
    refine aw_iald d_SG_changeStates_42 rfl h.1 ?_
    replace h := h.2
    refine aw_iload_n d_SG_changeStates_43 rfl ?_
    refine aw_aload_n d_SG_changeStates_44 rfl ?_
    refine aw_iload_n d_SG_changeStates_45 rfl ?_
    refine aw_aload_n d_SG_changeStates_46 rfl ?_
    refine aw_getR (t := 1) d_SG_changeStates_47 lf_SG_31 rfl rfl ?_
    refine aw_getR (t := 2) d_SG_changeStates_50 lf_SG_55 rfl rfl ?_
    refine aw_iload_n d_SG_changeStates_53 rfl ?_
    refine aw_iald d_SG_changeStates_54 rfl h.1 ?_
    replace h := h.2
    refine aw_callV (as := [.inl y2, .inl (μ 2 (ix y1))]) d_SG_changeStates_55 lm_SG_120 rfl rfl (by decide) rfl (Nat.le_of_ble_eq_true rfl) rfl h (fun r4 u3 h => ?_)
    refine aw_callVv (as := [.inl (μ 23 (ix y1)), .inl y2, .inl r4]) d_SG_changeStates_58 lm_SG_123 rfl rfl (by decide) rfl (Nat.le_of_ble_eq_true rfl) rfl h (fun u5 h => ?_)
    refine aw_aload_n d_SG_changeStates_61 rfl ?_
    refine aw_iload_n d_SG_changeStates_62 rfl ?_
    refine aw_callV (as := [.inl y1]) d_SG_changeStates_63 lm_SG_127 rfl rfl (by decide) rfl (Nat.le_of_ble_eq_true rfl) rfl h (fun r7 u6 h => ?_)
    refine aw_if_eq (tgt := 87) d_SG_changeStates_66 (by decide) (fun q => ?_) (fun q => ?_)
    · replace h := h.1 q
      refine aw_aload_n d_SG_changeStates_87 rfl ?_
      refine aw_getR (t := 24) d_SG_changeStates_88 lf_SG_22 rfl rfl ?_
      refine aw_iload_n d_SG_changeStates_91 rfl ?_
      refine aw_iald d_SG_changeStates_92 rfl h.1 ?_
      replace h := h.2
      refine aw_iconst (v := (-1)) d_SG_changeStates_93 (by decide) ?_
      refine aw_icmp_ne (tgt := 119) d_SG_changeStates_94 (by decide) (fun q => ?_) (fun q => ?_)
      · replace h := h.1 q
        refine aw_iinc (v := 1) d_SG_changeStates_119 rfl (by decide) ?_
        refine aw_goto (tgt := 5) d_SG_changeStates_122 (by decide) ?_
        refine aw_drop 2 ?_
        refine aw_drop 3 ?_
        exact h
      · replace h := h.2 q
        refine aw_aload_n d_SG_changeStates_97 rfl ?_
        refine aw_getR (t := 17) d_SG_changeStates_98 lf_SG_12 rfl rfl ?_
        refine aw_aload_n d_SG_changeStates_101 rfl ?_
        refine aw_getR (t := 23) d_SG_changeStates_102 lf_SG_18 rfl rfl ?_
        refine aw_iload_n d_SG_changeStates_105 rfl ?_
        refine aw_iald d_SG_changeStates_106 rfl h.1 ?_
        replace h := h.2
        refine aw_aload_n d_SG_changeStates_107 rfl ?_
        refine aw_getR (t := 1) d_SG_changeStates_108 lf_SG_31 rfl rfl ?_
        refine aw_getR (t := 3) d_SG_changeStates_111 lf_SG_91 rfl rfl ?_
        refine aw_iload_n d_SG_changeStates_114 rfl ?_
        refine aw_iald d_SG_changeStates_115 rfl h.1 ?_
        replace h := h.2
        refine aw_callVv (as := [.inl (u6 23 (ix y1)), .inl (u6 3 (ix y1))]) d_SG_changeStates_116 lm_SG_130 rfl rfl (by decide) rfl (Nat.le_of_ble_eq_true rfl) rfl h (fun u8 h => ?_)
        refine aw_iinc (v := 1) d_SG_changeStates_119 rfl (by decide) ?_
        refine aw_goto (tgt := 5) d_SG_changeStates_122 (by decide) ?_
        refine aw_drop 2 ?_
        refine aw_drop 3 ?_
        exact h
    · replace h := h.2 q
      refine aw_aload_n d_SG_changeStates_69 rfl ?_
      refine aw_getR (t := 17) d_SG_changeStates_70 lf_SG_12 rfl rfl ?_
      refine aw_aload_n d_SG_changeStates_73 rfl ?_
      refine aw_getR (t := 23) d_SG_changeStates_74 lf_SG_18 rfl rfl ?_
      refine aw_iload_n d_SG_changeStates_77 rfl ?_
      refine aw_iald d_SG_changeStates_78 rfl h.1 ?_
      replace h := h.2
      refine aw_bipush (v := 99) d_SG_changeStates_79 (by decide) ?_
      refine aw_callVv (as := [.inl (u6 23 (ix y1)), .inl (99 : Int32)]) d_SG_changeStates_81 lm_SG_130 rfl rfl (by decide) rfl (Nat.le_of_ble_eq_true rfl) rfl h (fun u9 h => ?_)
      refine aw_goto (tgt := 119) d_SG_changeStates_84 (by decide) ?_
      refine aw_iinc (v := 1) d_SG_changeStates_119 rfl (by decide) ?_
      refine aw_goto (tgt := 5) d_SG_changeStates_122 (by decide) ?_
      refine aw_drop 2 ?_
      refine aw_drop 3 ?_
      exact h
set_option maxRecDepth 100000 in
theorem vc_SG_stateAhead_0 {G : Gp} {d : Nat} {Q : Int32 → Mem → Prop} {x1 : Int32} {μ : Mem}
    (h : vp_in x1 60 ∧ ∀ y1 : Int32, y1 = (μ 4 (ix x1)) → vp_in x1 60 ∧ vp_in x1 60 ∧ Ct G d M_SG_alterByKey [.inr 16, .inl y1, .inl (μ 2 (ix x1))] μ (fun r3 u2 => Ct G d M_SE_stateIn [.inr 17, .inl (μ 23 (ix x1)), .inl y1, .inl r3] u2 (fun r5 u4 => Q r5 u4))) :
    AW G (d + 1) M_SG_stateAhead Q 0 [some (.inr 16), some (.inl x1), none] [] μ := by
  refine aw_aload_n d_SG_stateAhead_0 rfl ?_
  refine aw_getR (t := 1) d_SG_stateAhead_1 lf_SG_31 rfl rfl ?_
  refine aw_getR (t := 4) d_SG_stateAhead_4 lf_SG_113 rfl rfl ?_
  refine aw_iload_n d_SG_stateAhead_7 rfl ?_
  refine aw_iald d_SG_stateAhead_8 rfl h.1 ?_
  replace h := h.2
  refine aw_top (fun y1 e => ?_)
  replace h := h _ e
  refine aw_istore_n d_SG_stateAhead_9 (Nat.le_of_ble_eq_true rfl) ?_
  refine aw_aload_n d_SG_stateAhead_10 rfl ?_
  refine aw_getR (t := 17) d_SG_stateAhead_11 lf_SG_12 rfl rfl ?_
  refine aw_aload_n d_SG_stateAhead_14 rfl ?_
  refine aw_getR (t := 23) d_SG_stateAhead_15 lf_SG_18 rfl rfl ?_
  refine aw_iload_n d_SG_stateAhead_18 rfl ?_
  refine aw_iald d_SG_stateAhead_19 rfl h.1 ?_
  replace h := h.2
  refine aw_iload_n d_SG_stateAhead_20 rfl ?_
  refine aw_aload_n d_SG_stateAhead_21 rfl ?_
  refine aw_iload_n d_SG_stateAhead_22 rfl ?_
  refine aw_aload_n d_SG_stateAhead_23 rfl ?_
  refine aw_getR (t := 1) d_SG_stateAhead_24 lf_SG_31 rfl rfl ?_
  refine aw_getR (t := 2) d_SG_stateAhead_27 lf_SG_55 rfl rfl ?_
  refine aw_iload_n d_SG_stateAhead_30 rfl ?_
  refine aw_iald d_SG_stateAhead_31 rfl h.1 ?_
  replace h := h.2
  refine aw_callV (as := [.inl y1, .inl (μ 2 (ix x1))]) d_SG_stateAhead_32 lm_SG_120 rfl rfl (by decide) rfl (Nat.le_of_ble_eq_true rfl) rfl h (fun r3 u2 h => ?_)
  refine aw_callV (as := [.inl (μ 23 (ix x1)), .inl y1, .inl r3]) d_SG_stateAhead_35 lm_SG_133 rfl rfl (by decide) rfl (Nat.le_of_ble_eq_true rfl) rfl h (fun r5 u4 h => ?_)
  exact aw_iret d_SG_stateAhead_38 rfl h
theorem en_SG_stateAhead {G : Gp} {d : Nat} {Q : Int32 → Mem → Prop} {x1 : Int32} {μ : Mem}
    (h : AW G (d + 1) M_SG_stateAhead Q 0 [some (.inr 16), some (.inl x1), none] [] μ) :
    Ct G (d + 1) M_SG_stateAhead [.inr 16, .inl x1] μ Q := ct_of (by decide) (Nat.le_of_ble_eq_true rfl) h
set_option maxRecDepth 100000 in
theorem vc_SG_alterByKey_0 {G : Gp} {d : Nat} {Q : Int32 → Mem → Prop} {x1 x2 : Int32} {μ : Mem}
    (h : Ct G d M_BB_at [.inr 9, .inl x1] μ (fun r2 u1 => Ct G d M_KR_alterOf [.inl r2, .inl (x2 - x2 / (7 : Int32) * (7 : Int32))] u1 (fun r4 u3 => Q r4 u3))) :
    AW G (d + 1) M_SG_alterByKey Q 0 [some (.inr 16), some (.inl x1), some (.inl x2)] [] μ := by
  refine aw_aload_n d_SG_alterByKey_0 rfl ?_
  refine aw_getR (t := 9) d_SG_alterByKey_1 lf_SG_35 rfl rfl ?_
  refine aw_iload_n d_SG_alterByKey_4 rfl ?_
  refine aw_callV (as := [.inl x1]) d_SG_alterByKey_5 lm_SG_137 rfl rfl (by decide) rfl (Nat.le_of_ble_eq_true rfl) rfl h (fun r2 u1 h => ?_)
  refine aw_iload_n d_SG_alterByKey_8 rfl ?_
  refine aw_bipush (v := 7) d_SG_alterByKey_9 (by decide) ?_
  refine aw_irem d_SG_alterByKey_11 (by decide) ?_
  refine aw_callS (as := [.inl r2, .inl (x2 - x2 / (7 : Int32) * (7 : Int32))]) d_SG_alterByKey_12 lm_SG_142 rfl (Nat.le_of_ble_eq_true rfl) rfl h (fun r4 u3 h => ?_)
  exact aw_iret d_SG_alterByKey_15 rfl h
theorem en_SG_alterByKey {G : Gp} {d : Nat} {Q : Int32 → Mem → Prop} {x1 x2 : Int32} {μ : Mem}
    (h : AW G (d + 1) M_SG_alterByKey Q 0 [some (.inr 16), some (.inl x1), some (.inl x2)] [] μ) :
    Ct G (d + 1) M_SG_alterByKey [.inr 16, .inl x1, .inl x2] μ Q := ct_of (by decide) (Nat.le_of_ble_eq_true rfl) h
set_option maxRecDepth 100000 in
theorem vc_SG_needsSign_0 {G : Gp} {d : Nat} {Q : Int32 → Mem → Prop} {x1 x2 : Int32} {μ : Mem}
    (h : Ct G d M_SG_hasUnlike [.inr 16, .inl x1] μ (fun r2 u1 => (r2 = 0 → vp_in x1 60 ∧ (x2 = (u1 3 (ix x1)) → Q (0 : Int32) u1) ∧ (¬ x2 = (u1 3 (ix x1)) → Ct G d M_SG_isFirst [.inr 16, .inl x1, .inl (0 : Int32)] u1 (fun r4 u3 => (r4 = 0 → Q (0 : Int32) u3) ∧ (¬ r4 = 0 → Q (1 : Int32) u3)))) ∧ (¬ r2 = 0 → Ct G d M_SG_isFirst [.inr 16, .inl x1, .inl (1 : Int32)] u1 (fun r6 u5 => (r6 = 0 ∨ r6 = 1) ∧ Q r6 u5)))) :
    AW G (d + 1) M_SG_needsSign Q 0 [some (.inr 16), some (.inl x1), some (.inl x2)] [] μ := by
  refine aw_aload_n d_SG_needsSign_0 rfl ?_
  refine aw_iload_n d_SG_needsSign_1 rfl ?_
  refine aw_callV (as := [.inl x1]) d_SG_needsSign_2 lm_SG_127 rfl rfl (by decide) rfl (Nat.le_of_ble_eq_true rfl) rfl h (fun r2 u1 h => ?_)
  refine aw_if_eq (tgt := 15) d_SG_needsSign_5 (by decide) (fun q => ?_) (fun q => ?_)
  · replace h := h.1 q
    refine aw_iload_n d_SG_needsSign_15 rfl ?_
    refine aw_aload_n d_SG_needsSign_16 rfl ?_
    refine aw_getR (t := 1) d_SG_needsSign_17 lf_SG_31 rfl rfl ?_
    refine aw_getR (t := 3) d_SG_needsSign_20 lf_SG_91 rfl rfl ?_
    refine aw_iload_n d_SG_needsSign_23 rfl ?_
    refine aw_iald d_SG_needsSign_24 rfl h.1 ?_
    replace h := h.2
    refine aw_icmp_eq (tgt := 41) d_SG_needsSign_25 (by decide) (fun q => ?_) (fun q => ?_)
    · replace h := h.1 q
      refine aw_iconst (v := 0) d_SG_needsSign_41 (by decide) ?_
      exact aw_zret d_SG_needsSign_42 rfl (Or.inl rfl) h
    · replace h := h.2 q
      refine aw_aload_n d_SG_needsSign_28 rfl ?_
      refine aw_iload_n d_SG_needsSign_29 rfl ?_
      refine aw_iconst (v := 0) d_SG_needsSign_30 (by decide) ?_
      refine aw_callV (as := [.inl x1, .inl (0 : Int32)]) d_SG_needsSign_31 lm_SG_147 rfl rfl (by decide) rfl (Nat.le_of_ble_eq_true rfl) rfl h (fun r4 u3 h => ?_)
      refine aw_if_eq (tgt := 41) d_SG_needsSign_34 (by decide) (fun q => ?_) (fun q => ?_)
      · replace h := h.1 q
        refine aw_iconst (v := 0) d_SG_needsSign_41 (by decide) ?_
        exact aw_zret d_SG_needsSign_42 rfl (Or.inl rfl) h
      · replace h := h.2 q
        refine aw_iconst (v := 1) d_SG_needsSign_37 (by decide) ?_
        refine aw_goto (tgt := 42) d_SG_needsSign_38 (by decide) ?_
        exact aw_zret d_SG_needsSign_42 rfl (Or.inr rfl) h
  · replace h := h.2 q
    refine aw_aload_n d_SG_needsSign_8 rfl ?_
    refine aw_iload_n d_SG_needsSign_9 rfl ?_
    refine aw_iconst (v := 1) d_SG_needsSign_10 (by decide) ?_
    refine aw_callV (as := [.inl x1, .inl (1 : Int32)]) d_SG_needsSign_11 lm_SG_147 rfl rfl (by decide) rfl (Nat.le_of_ble_eq_true rfl) rfl h (fun r6 u5 h => ?_)
    exact aw_zret d_SG_needsSign_14 rfl h.1 h.2
theorem en_SG_needsSign {G : Gp} {d : Nat} {Q : Int32 → Mem → Prop} {x1 x2 : Int32} {μ : Mem}
    (h : AW G (d + 1) M_SG_needsSign Q 0 [some (.inr 16), some (.inl x1), some (.inl x2)] [] μ) :
    Ct G (d + 1) M_SG_needsSign [.inr 16, .inl x1, .inl x2] μ Q := ct_of (by decide) (Nat.le_of_ble_eq_true rfl) h
set_option maxRecDepth 100000 in
theorem vc_SG_wantsNatural_0 {G : Gp} {d : Nat} {Q : Int32 → Mem → Prop} {x1 x2 : Int32} {μ : Mem}
    (h : vp_in (3 : Int32) 5 ∧ (¬ (μ 15 (ix (3 : Int32))) = (1 : Int32) → Q (0 : Int32) μ) ∧ ((μ 15 (ix (3 : Int32))) = (1 : Int32) → (x1 = (2 : Int32) → (¬ x2 = ((2 : Int32) * x1) → Q (0 : Int32) μ) ∧ (x2 = ((2 : Int32) * x1) → Q (1 : Int32) μ)) ∧ (¬ x1 = (2 : Int32) → (¬ x1 = (-2 : Int32) → Q (0 : Int32) μ) ∧ (x1 = (-2 : Int32) → (¬ x2 = ((2 : Int32) * x1) → Q (0 : Int32) μ) ∧ (x2 = ((2 : Int32) * x1) → Q (1 : Int32) μ))))) :
    AW G d M_SG_wantsNatural Q 0 [some (.inr 16), some (.inl x1), some (.inl x2)] [] μ := by
  refine aw_aload_n d_SG_wantsNatural_0 rfl ?_
  refine aw_getR (t := 15) d_SG_wantsNatural_1 lf_SG_39 rfl rfl ?_
  refine aw_iconst (v := 3) d_SG_wantsNatural_4 (by decide) ?_
  refine aw_iald d_SG_wantsNatural_5 rfl h.1 ?_
  replace h := h.2
  refine aw_iconst (v := 1) d_SG_wantsNatural_6 (by decide) ?_
  refine aw_icmp_ne (tgt := 32) d_SG_wantsNatural_7 (by decide) (fun q => ?_) (fun q => ?_)
  · replace h := h.1 q
    refine aw_iconst (v := 0) d_SG_wantsNatural_32 (by decide) ?_
    exact aw_zret d_SG_wantsNatural_33 rfl (Or.inl rfl) h
  · replace h := h.2 q
    refine aw_iload_n d_SG_wantsNatural_10 rfl ?_
    refine aw_iconst (v := 2) d_SG_wantsNatural_11 (by decide) ?_
    refine aw_icmp_eq (tgt := 21) d_SG_wantsNatural_12 (by decide) (fun q => ?_) (fun q => ?_)
    · replace h := h.1 q
      refine aw_iload_n d_SG_wantsNatural_21 rfl ?_
      refine aw_iconst (v := 2) d_SG_wantsNatural_22 (by decide) ?_
      refine aw_iload_n d_SG_wantsNatural_23 rfl ?_
      refine aw_imul d_SG_wantsNatural_24 ?_
      refine aw_icmp_ne (tgt := 32) d_SG_wantsNatural_25 (by decide) (fun q => ?_) (fun q => ?_)
      · replace h := h.1 q
        refine aw_iconst (v := 0) d_SG_wantsNatural_32 (by decide) ?_
        exact aw_zret d_SG_wantsNatural_33 rfl (Or.inl rfl) h
      · replace h := h.2 q
        refine aw_iconst (v := 1) d_SG_wantsNatural_28 (by decide) ?_
        refine aw_goto (tgt := 33) d_SG_wantsNatural_29 (by decide) ?_
        exact aw_zret d_SG_wantsNatural_33 rfl (Or.inr rfl) h
    · replace h := h.2 q
      refine aw_iload_n d_SG_wantsNatural_15 rfl ?_
      refine aw_bipush (v := (-2)) d_SG_wantsNatural_16 (by decide) ?_
      refine aw_icmp_ne (tgt := 32) d_SG_wantsNatural_18 (by decide) (fun q => ?_) (fun q => ?_)
      · replace h := h.1 q
        refine aw_iconst (v := 0) d_SG_wantsNatural_32 (by decide) ?_
        exact aw_zret d_SG_wantsNatural_33 rfl (Or.inl rfl) h
      · replace h := h.2 q
        refine aw_iload_n d_SG_wantsNatural_21 rfl ?_
        refine aw_iconst (v := 2) d_SG_wantsNatural_22 (by decide) ?_
        refine aw_iload_n d_SG_wantsNatural_23 rfl ?_
        refine aw_imul d_SG_wantsNatural_24 ?_
        refine aw_icmp_ne (tgt := 32) d_SG_wantsNatural_25 (by decide) (fun q => ?_) (fun q => ?_)
        · replace h := h.1 q
          refine aw_iconst (v := 0) d_SG_wantsNatural_32 (by decide) ?_
          exact aw_zret d_SG_wantsNatural_33 rfl (Or.inl rfl) h
        · replace h := h.2 q
          refine aw_iconst (v := 1) d_SG_wantsNatural_28 (by decide) ?_
          refine aw_goto (tgt := 33) d_SG_wantsNatural_29 (by decide) ?_
          exact aw_zret d_SG_wantsNatural_33 rfl (Or.inr rfl) h
theorem en_SG_wantsNatural {G : Gp} {d : Nat} {Q : Int32 → Mem → Prop} {x1 x2 : Int32} {μ : Mem}
    (h : AW G d M_SG_wantsNatural Q 0 [some (.inr 16), some (.inl x1), some (.inl x2)] [] μ) :
    Ct G d M_SG_wantsNatural [.inr 16, .inl x1, .inl x2] μ Q := ct_of (by decide) (Nat.le_of_ble_eq_true rfl) h
set_option maxRecDepth 100000 in
theorem vc_SG_hasUnlike_0 {G : Gp} {d : Nat} {Q : Int32 → Mem → Prop} {x1 : Int32} {μ : Mem}
    (h : ∀ y1 : Int32, y1 = (μ 16 8) → AW G d M_SG_hasUnlike Q 5 [some (.inr 16), some (.inl x1), some (.inl y1), none] [] μ) :
    AW G d M_SG_hasUnlike Q 0 [some (.inr 16), some (.inl x1), none, none] [] μ := by
  refine aw_aload_n d_SG_hasUnlike_0 rfl ?_
  refine aw_getI d_SG_hasUnlike_1 lf_SG_73 rfl rfl ?_
  refine aw_top (fun y1 e => ?_)
  replace h := h _ e
  refine aw_istore_n d_SG_hasUnlike_4 (Nat.le_of_ble_eq_true rfl) ?_
  exact h
theorem en_SG_hasUnlike {G : Gp} {d : Nat} {Q : Int32 → Mem → Prop} {x1 : Int32} {μ : Mem}
    (h : AW G d M_SG_hasUnlike Q 0 [some (.inr 16), some (.inl x1), none, none] [] μ) :
    Ct G d M_SG_hasUnlike [.inr 16, .inl x1] μ Q := ct_of (by decide) (Nat.le_of_ble_eq_true rfl) h
set_option maxRecDepth 100000 in
theorem vc_SG_hasUnlike_5 {G : Gp} {d : Nat} {Q : Int32 → Mem → Prop} {x1 x2 : Int32} {μ : Mem}
    (h : ((μ 16 9) ≤ x2 → Q (0 : Int32) μ) ∧ (¬ (μ 16 9) ≤ x2 → vp_in x2 60 ∧ ∀ y1 : Int32, y1 = (μ 7 (ix x2)) → vp_in y1 60 ∧ vp_in x1 60 ∧ (¬ (μ 23 (ix y1)) = (μ 23 (ix x1)) → AW G d M_SG_hasUnlike Q 5 [some (.inr 16), some (.inl x1), some (.inl (x2 + (1 : Int32))), none] [] μ) ∧ ((μ 23 (ix y1)) = (μ 23 (ix x1)) → vp_in y1 60 ∧ vp_in x1 60 ∧ ((μ 3 (ix y1)) = (μ 3 (ix x1)) → AW G d M_SG_hasUnlike Q 5 [some (.inr 16), some (.inl x1), some (.inl (x2 + (1 : Int32))), none] [] μ) ∧ (¬ (μ 3 (ix y1)) = (μ 3 (ix x1)) → Q (1 : Int32) μ)))) :
    AW G d M_SG_hasUnlike Q 5 [some (.inr 16), some (.inl x1), some (.inl x2), none] [] μ := by
  refine aw_iload_n d_SG_hasUnlike_5 rfl ?_
  refine aw_aload_n d_SG_hasUnlike_6 rfl ?_
  refine aw_getI d_SG_hasUnlike_7 lf_SG_79 rfl rfl ?_
  refine aw_icmp_ge (tgt := 67) d_SG_hasUnlike_10 (by decide) (fun q => ?_) (fun q => ?_)
  · replace h := h.1 q
    refine aw_iconst (v := 0) d_SG_hasUnlike_67 (by decide) ?_
    exact aw_zret d_SG_hasUnlike_68 rfl (Or.inl rfl) h
  · replace h := h.2 q
    refine aw_aload_n d_SG_hasUnlike_13 rfl ?_
    refine aw_getR (t := 1) d_SG_hasUnlike_14 lf_SG_31 rfl rfl ?_
    refine aw_getR (t := 7) d_SG_hasUnlike_17 lf_SG_97 rfl rfl ?_
    refine aw_iload_n d_SG_hasUnlike_20 rfl ?_
    refine aw_iald d_SG_hasUnlike_21 rfl h.1 ?_
    replace h := h.2
    refine aw_top (fun y1 e => ?_)
    replace h := h _ e
    refine aw_istore_n d_SG_hasUnlike_22 (Nat.le_of_ble_eq_true rfl) ?_
    refine aw_aload_n d_SG_hasUnlike_23 rfl ?_
    refine aw_getR (t := 23) d_SG_hasUnlike_24 lf_SG_18 rfl rfl ?_
    refine aw_iload_n d_SG_hasUnlike_27 rfl ?_
    refine aw_iald d_SG_hasUnlike_28 rfl h.1 ?_
    replace h := h.2
    refine aw_aload_n d_SG_hasUnlike_29 rfl ?_
    refine aw_getR (t := 23) d_SG_hasUnlike_30 lf_SG_18 rfl rfl ?_
    refine aw_iload_n d_SG_hasUnlike_33 rfl ?_
    refine aw_iald d_SG_hasUnlike_34 rfl h.1 ?_
    replace h := h.2
    refine aw_icmp_ne (tgt := 61) d_SG_hasUnlike_35 (by decide) (fun q => ?_) (fun q => ?_)
    · replace h := h.1 q
      refine aw_iinc (v := 1) d_SG_hasUnlike_61 rfl (by decide) ?_
      refine aw_goto (tgt := 5) d_SG_hasUnlike_64 (by decide) ?_
      refine aw_drop 3 ?_
      exact h
    · replace h := h.2 q
      refine aw_aload_n d_SG_hasUnlike_38 rfl ?_
      refine aw_getR (t := 1) d_SG_hasUnlike_39 lf_SG_31 rfl rfl ?_
      refine aw_getR (t := 3) d_SG_hasUnlike_42 lf_SG_91 rfl rfl ?_
      refine aw_iload_n d_SG_hasUnlike_45 rfl ?_
      refine aw_iald d_SG_hasUnlike_46 rfl h.1 ?_
      replace h := h.2
      refine aw_aload_n d_SG_hasUnlike_47 rfl ?_
      refine aw_getR (t := 1) d_SG_hasUnlike_48 lf_SG_31 rfl rfl ?_
      refine aw_getR (t := 3) d_SG_hasUnlike_51 lf_SG_91 rfl rfl ?_
      refine aw_iload_n d_SG_hasUnlike_54 rfl ?_
      refine aw_iald d_SG_hasUnlike_55 rfl h.1 ?_
      replace h := h.2
      refine aw_icmp_eq (tgt := 61) d_SG_hasUnlike_56 (by decide) (fun q => ?_) (fun q => ?_)
      · replace h := h.1 q
        refine aw_iinc (v := 1) d_SG_hasUnlike_61 rfl (by decide) ?_
        refine aw_goto (tgt := 5) d_SG_hasUnlike_64 (by decide) ?_
        refine aw_drop 3 ?_
        exact h
      · replace h := h.2 q
        refine aw_iconst (v := 1) d_SG_hasUnlike_59 (by decide) ?_
        exact aw_zret d_SG_hasUnlike_60 rfl (Or.inr rfl) h
set_option maxRecDepth 100000 in
theorem vc_SG_isFirst_0 {G : Gp} {d : Nat} {Q : Int32 → Mem → Prop} {x1 x2 : Int32} {μ : Mem}
    (h : ∀ y1 : Int32, y1 = (μ 16 8) → AW G d M_SG_isFirst Q 5 [some (.inr 16), some (.inl x1), some (.inl x2), some (.inl y1), none] [] μ) :
    AW G d M_SG_isFirst Q 0 [some (.inr 16), some (.inl x1), some (.inl x2), none, none] [] μ := by
  refine aw_aload_n d_SG_isFirst_0 rfl ?_
  refine aw_getI d_SG_isFirst_1 lf_SG_73 rfl rfl ?_
  refine aw_top (fun y1 e => ?_)
  replace h := h _ e
  refine aw_istore_n d_SG_isFirst_4 (Nat.le_of_ble_eq_true rfl) ?_
  exact h
theorem en_SG_isFirst {G : Gp} {d : Nat} {Q : Int32 → Mem → Prop} {x1 x2 : Int32} {μ : Mem}
    (h : AW G d M_SG_isFirst Q 0 [some (.inr 16), some (.inl x1), some (.inl x2), none, none] [] μ) :
    Ct G d M_SG_isFirst [.inr 16, .inl x1, .inl x2] μ Q := ct_of (by decide) (Nat.le_of_ble_eq_true rfl) h
set_option maxRecDepth 100000 in
theorem vc_SG_isFirst_5 {G : Gp} {d : Nat} {Q : Int32 → Mem → Prop} {x1 x2 x3 : Int32} {μ : Mem}
    (h : ((μ 16 9) ≤ x3 → Q (1 : Int32) μ) ∧ (¬ (μ 16 9) ≤ x3 → vp_in x3 60 ∧ ((μ 7 (ix x3)) = x1 → Q (1 : Int32) μ) ∧ (¬ (μ 7 (ix x3)) = x1 → vp_in x3 60 ∧ ∀ y1 : Int32, y1 = (μ 7 (ix x3)) → vp_in y1 60 ∧ (¬ (μ 24 (ix y1)) = (-1 : Int32) → AW G d M_SG_isFirst Q 5 [some (.inr 16), some (.inl x1), some (.inl x2), some (.inl (x3 + (1 : Int32))), none] [] μ) ∧ ((μ 24 (ix y1)) = (-1 : Int32) → vp_in y1 60 ∧ vp_in x1 60 ∧ (¬ (μ 23 (ix y1)) = (μ 23 (ix x1)) → AW G d M_SG_isFirst Q 5 [some (.inr 16), some (.inl x1), some (.inl x2), some (.inl (x3 + (1 : Int32))), none] [] μ) ∧ ((μ 23 (ix y1)) = (μ 23 (ix x1)) → vp_in y1 60 ∧ vp_in x1 60 ∧ (¬ (μ 2 (ix y1)) = (μ 2 (ix x1)) → AW G d M_SG_isFirst Q 5 [some (.inr 16), some (.inl x1), some (.inl x2), some (.inl (x3 + (1 : Int32))), none] [] μ) ∧ ((μ 2 (ix y1)) = (μ 2 (ix x1)) → (x2 = 0 → Q (0 : Int32) μ) ∧ (¬ x2 = 0 → vp_in y1 60 ∧ vp_in x1 60 ∧ (¬ (μ 3 (ix y1)) = (μ 3 (ix x1)) → AW G d M_SG_isFirst Q 5 [some (.inr 16), some (.inl x1), some (.inl x2), some (.inl (x3 + (1 : Int32))), none] [] μ) ∧ ((μ 3 (ix y1)) = (μ 3 (ix x1)) → Q (0 : Int32) μ)))))))) :
    AW G d M_SG_isFirst Q 5 [some (.inr 16), some (.inl x1), some (.inl x2), some (.inl x3), none] [] μ := by
  refine aw_iload_n d_SG_isFirst_5 rfl ?_
  refine aw_aload_n d_SG_isFirst_6 rfl ?_
  refine aw_getI d_SG_isFirst_7 lf_SG_79 rfl rfl ?_
  refine aw_icmp_ge (tgt := 120) d_SG_isFirst_10 (by decide) (fun q => ?_) (fun q => ?_)
  · replace h := h.1 q
    refine aw_iconst (v := 1) d_SG_isFirst_120 (by decide) ?_
    exact aw_zret d_SG_isFirst_121 rfl (Or.inr rfl) h
  · replace h := h.2 q
    refine aw_aload_n d_SG_isFirst_13 rfl ?_
    refine aw_getR (t := 1) d_SG_isFirst_14 lf_SG_31 rfl rfl ?_
    refine aw_getR (t := 7) d_SG_isFirst_17 lf_SG_97 rfl rfl ?_
    refine aw_iload_n d_SG_isFirst_20 rfl ?_
    refine aw_iald d_SG_isFirst_21 rfl h.1 ?_
    replace h := h.2
    refine aw_iload_n d_SG_isFirst_22 rfl ?_
    refine aw_icmp_eq (tgt := 120) d_SG_isFirst_23 (by decide) (fun q => ?_) (fun q => ?_)
    · replace h := h.1 q
      refine aw_iconst (v := 1) d_SG_isFirst_120 (by decide) ?_
      exact aw_zret d_SG_isFirst_121 rfl (Or.inr rfl) h
    · replace h := h.2 q
      refine aw_aload_n d_SG_isFirst_26 rfl ?_
      refine aw_getR (t := 1) d_SG_isFirst_27 lf_SG_31 rfl rfl ?_
      refine aw_getR (t := 7) d_SG_isFirst_30 lf_SG_97 rfl rfl ?_
      refine aw_iload_n d_SG_isFirst_33 rfl ?_
      refine aw_iald d_SG_isFirst_34 rfl h.1 ?_
      replace h := h.2
      refine aw_top (fun y1 e => ?_)
      replace h := h _ e
      refine aw_istore d_SG_isFirst_35 (Nat.le_of_ble_eq_true rfl) ?_
      refine aw_aload_n d_SG_isFirst_37 rfl ?_
      refine aw_getR (t := 24) d_SG_isFirst_38 lf_SG_22 rfl rfl ?_
      refine aw_iload d_SG_isFirst_41 rfl ?_
      refine aw_iald d_SG_isFirst_43 rfl h.1 ?_
      replace h := h.2
      refine aw_iconst (v := (-1)) d_SG_isFirst_44 (by decide) ?_
      refine aw_icmp_ne (tgt := 114) d_SG_isFirst_45 (by decide) (fun q => ?_) (fun q => ?_)
      · replace h := h.1 q
        refine aw_iinc (v := 1) d_SG_isFirst_114 rfl (by decide) ?_
        refine aw_goto (tgt := 5) d_SG_isFirst_117 (by decide) ?_
        refine aw_drop 4 ?_
        exact h
      · replace h := h.2 q
        refine aw_aload_n d_SG_isFirst_48 rfl ?_
        refine aw_getR (t := 23) d_SG_isFirst_49 lf_SG_18 rfl rfl ?_
        refine aw_iload d_SG_isFirst_52 rfl ?_
        refine aw_iald d_SG_isFirst_54 rfl h.1 ?_
        replace h := h.2
        refine aw_aload_n d_SG_isFirst_55 rfl ?_
        refine aw_getR (t := 23) d_SG_isFirst_56 lf_SG_18 rfl rfl ?_
        refine aw_iload_n d_SG_isFirst_59 rfl ?_
        refine aw_iald d_SG_isFirst_60 rfl h.1 ?_
        replace h := h.2
        refine aw_icmp_ne (tgt := 114) d_SG_isFirst_61 (by decide) (fun q => ?_) (fun q => ?_)
        · replace h := h.1 q
          refine aw_iinc (v := 1) d_SG_isFirst_114 rfl (by decide) ?_
          refine aw_goto (tgt := 5) d_SG_isFirst_117 (by decide) ?_
          refine aw_drop 4 ?_
          exact h
        · replace h := h.2 q
          refine aw_aload_n d_SG_isFirst_64 rfl ?_
          refine aw_getR (t := 1) d_SG_isFirst_65 lf_SG_31 rfl rfl ?_
          refine aw_getR (t := 2) d_SG_isFirst_68 lf_SG_55 rfl rfl ?_
          refine aw_iload d_SG_isFirst_71 rfl ?_
          refine aw_iald d_SG_isFirst_73 rfl h.1 ?_
          replace h := h.2
          refine aw_aload_n d_SG_isFirst_74 rfl ?_
          refine aw_getR (t := 1) d_SG_isFirst_75 lf_SG_31 rfl rfl ?_
          refine aw_getR (t := 2) d_SG_isFirst_78 lf_SG_55 rfl rfl ?_
          refine aw_iload_n d_SG_isFirst_81 rfl ?_
          refine aw_iald d_SG_isFirst_82 rfl h.1 ?_
          replace h := h.2
          refine aw_icmp_ne (tgt := 114) d_SG_isFirst_83 (by decide) (fun q => ?_) (fun q => ?_)
          · replace h := h.1 q
            refine aw_iinc (v := 1) d_SG_isFirst_114 rfl (by decide) ?_
            refine aw_goto (tgt := 5) d_SG_isFirst_117 (by decide) ?_
            refine aw_drop 4 ?_
            exact h
          · replace h := h.2 q
            refine aw_iload_n d_SG_isFirst_86 rfl ?_
            refine aw_if_eq (tgt := 112) d_SG_isFirst_87 (by decide) (fun q => ?_) (fun q => ?_)
            · replace h := h.1 q
              refine aw_iconst (v := 0) d_SG_isFirst_112 (by decide) ?_
              exact aw_zret d_SG_isFirst_113 rfl (Or.inl rfl) h
            · replace h := h.2 q
              refine aw_aload_n d_SG_isFirst_90 rfl ?_
              refine aw_getR (t := 1) d_SG_isFirst_91 lf_SG_31 rfl rfl ?_
              refine aw_getR (t := 3) d_SG_isFirst_94 lf_SG_91 rfl rfl ?_
              refine aw_iload d_SG_isFirst_97 rfl ?_
              refine aw_iald d_SG_isFirst_99 rfl h.1 ?_
              replace h := h.2
              refine aw_aload_n d_SG_isFirst_100 rfl ?_
              refine aw_getR (t := 1) d_SG_isFirst_101 lf_SG_31 rfl rfl ?_
              refine aw_getR (t := 3) d_SG_isFirst_104 lf_SG_91 rfl rfl ?_
              refine aw_iload_n d_SG_isFirst_107 rfl ?_
              refine aw_iald d_SG_isFirst_108 rfl h.1 ?_
              replace h := h.2
              refine aw_icmp_ne (tgt := 114) d_SG_isFirst_109 (by decide) (fun q => ?_) (fun q => ?_)
              · replace h := h.1 q
                refine aw_iinc (v := 1) d_SG_isFirst_114 rfl (by decide) ?_
                refine aw_goto (tgt := 5) d_SG_isFirst_117 (by decide) ?_
                refine aw_drop 4 ?_
                exact h
              · replace h := h.2 q
                refine aw_iconst (v := 0) d_SG_isFirst_112 (by decide) ?_
                exact aw_zret d_SG_isFirst_113 rfl (Or.inl rfl) h
set_option maxRecDepth 100000 in
theorem vc_SG_isCourtesy_0 {G : Gp} {d : Nat} {Q : Int32 → Mem → Prop} {x1 : Int32} {μ : Mem}
    (h : vp_in x1 60 ∧ vp_in x1 60 ∧ Ct G d M_SE_hasCourtesy [.inr 17, .inl (μ 23 (ix x1)), .inl (μ 4 (ix x1))] μ (fun r2 u1 => (¬ r2 = 0 → Q (0 : Int32) u1) ∧ (r2 = 0 → Ct G d M_SG_isFirst [.inr 16, .inl x1, .inl (0 : Int32)] u1 (fun r4 u3 => (¬ r4 = 0 → vp_in (2 : Int32) 5 ∧ ∀ y5 : Int32, y5 = (u3 15 (ix (2 : Int32))) → ((y5 &&& (1 : Int32)) = 0 → AW G (d + 1) M_SG_isCourtesy Q 57 [some (.inr 16), some (.inl x1), some (.inl y5)] [] u3) ∧ (¬ (y5 &&& (1 : Int32)) = 0 → Ct G d M_SG_wasOtherInLastBar [.inr 16, .inl x1] u3 (fun r7 u6 => (¬ r7 = 0 → Q (1 : Int32) u6) ∧ (r7 = 0 → AW G (d + 1) M_SG_isCourtesy Q 57 [some (.inr 16), some (.inl x1), some (.inl y5)] [] u6)))) ∧ (r4 = 0 → Q (0 : Int32) u3))))) :
    AW G (d + 1) M_SG_isCourtesy Q 0 [some (.inr 16), some (.inl x1), none] [] μ := by
  refine aw_aload_n d_SG_isCourtesy_0 rfl ?_
  refine aw_getR (t := 17) d_SG_isCourtesy_1 lf_SG_12 rfl rfl ?_
  refine aw_aload_n d_SG_isCourtesy_4 rfl ?_
  refine aw_getR (t := 23) d_SG_isCourtesy_5 lf_SG_18 rfl rfl ?_
  refine aw_iload_n d_SG_isCourtesy_8 rfl ?_
  refine aw_iald d_SG_isCourtesy_9 rfl h.1 ?_
  replace h := h.2
  refine aw_aload_n d_SG_isCourtesy_10 rfl ?_
  refine aw_getR (t := 1) d_SG_isCourtesy_11 lf_SG_31 rfl rfl ?_
  refine aw_getR (t := 4) d_SG_isCourtesy_14 lf_SG_113 rfl rfl ?_
  refine aw_iload_n d_SG_isCourtesy_17 rfl ?_
  refine aw_iald d_SG_isCourtesy_18 rfl h.1 ?_
  replace h := h.2
  refine aw_callV (as := [.inl (μ 23 (ix x1)), .inl (μ 4 (ix x1))]) d_SG_isCourtesy_19 lm_SG_151 rfl rfl (by decide) rfl (Nat.le_of_ble_eq_true rfl) rfl h (fun r2 u1 h => ?_)
  refine aw_if_ne (tgt := 34) d_SG_isCourtesy_22 (by decide) (fun q => ?_) (fun q => ?_)
  · replace h := h.1 q
    refine aw_iconst (v := 0) d_SG_isCourtesy_34 (by decide) ?_
    exact aw_zret d_SG_isCourtesy_35 rfl (Or.inl rfl) h
  · replace h := h.2 q
    refine aw_aload_n d_SG_isCourtesy_25 rfl ?_
    refine aw_iload_n d_SG_isCourtesy_26 rfl ?_
    refine aw_iconst (v := 0) d_SG_isCourtesy_27 (by decide) ?_
    refine aw_callV (as := [.inl x1, .inl (0 : Int32)]) d_SG_isCourtesy_28 lm_SG_147 rfl rfl (by decide) rfl (Nat.le_of_ble_eq_true rfl) rfl h (fun r4 u3 h => ?_)
    refine aw_if_ne (tgt := 36) d_SG_isCourtesy_31 (by decide) (fun q => ?_) (fun q => ?_)
    · replace h := h.1 q
      refine aw_aload_n d_SG_isCourtesy_36 rfl ?_
      refine aw_getR (t := 15) d_SG_isCourtesy_37 lf_SG_39 rfl rfl ?_
      refine aw_iconst (v := 2) d_SG_isCourtesy_40 (by decide) ?_
      refine aw_iald d_SG_isCourtesy_41 rfl h.1 ?_
      replace h := h.2
      refine aw_top (fun y5 e => ?_)
      replace h := h _ e
      refine aw_istore_n d_SG_isCourtesy_42 (Nat.le_of_ble_eq_true rfl) ?_
      refine aw_iload_n d_SG_isCourtesy_43 rfl ?_
      refine aw_iconst (v := 1) d_SG_isCourtesy_44 (by decide) ?_
      refine aw_iand d_SG_isCourtesy_45 ?_
      refine aw_if_eq (tgt := 57) d_SG_isCourtesy_46 (by decide) (fun q => ?_) (fun q => ?_)
      · replace h := h.1 q
        exact h
      · replace h := h.2 q
        refine aw_aload_n d_SG_isCourtesy_49 rfl ?_
        refine aw_iload_n d_SG_isCourtesy_50 rfl ?_
        refine aw_callV (as := [.inl x1]) d_SG_isCourtesy_51 lm_SG_154 rfl rfl (by decide) rfl (Nat.le_of_ble_eq_true rfl) rfl h (fun r7 u6 h => ?_)
        refine aw_if_ne (tgt := 100) d_SG_isCourtesy_54 (by decide) (fun q => ?_) (fun q => ?_)
        · replace h := h.1 q
          refine aw_iconst (v := 1) d_SG_isCourtesy_100 (by decide) ?_
          refine aw_goto (tgt := 105) d_SG_isCourtesy_101 (by decide) ?_
          exact aw_zret d_SG_isCourtesy_105 rfl (Or.inr rfl) h
        · replace h := h.2 q
          exact h
    · replace h := h.2 q
      refine aw_iconst (v := 0) d_SG_isCourtesy_34 (by decide) ?_
      exact aw_zret d_SG_isCourtesy_35 rfl (Or.inl rfl) h
theorem en_SG_isCourtesy {G : Gp} {d : Nat} {Q : Int32 → Mem → Prop} {x1 : Int32} {μ : Mem}
    (h : AW G (d + 1) M_SG_isCourtesy Q 0 [some (.inr 16), some (.inl x1), none] [] μ) :
    Ct G (d + 1) M_SG_isCourtesy [.inr 16, .inl x1] μ Q := ct_of (by decide) (Nat.le_of_ble_eq_true rfl) h
set_option maxRecDepth 100000 in
theorem vc_SG_isCourtesy_57 {G : Gp} {d : Nat} {Q : Int32 → Mem → Prop} {x1 x2 : Int32} {μ : Mem}
    (h : ((x2 &&& (2 : Int32)) = 0 → ((x2 &&& (4 : Int32)) = 0 → ((x2 &&& (8 : Int32)) = 0 → Q (0 : Int32) μ) ∧ (¬ (x2 &&& (8 : Int32)) = 0 → Ct G d M_SG_wasOtherByKey [.inr 16, .inl x1] μ (fun r2 u1 => (r2 = 0 → Q (0 : Int32) u1) ∧ (¬ r2 = 0 → Q (1 : Int32) u1)))) ∧ (¬ (x2 &&& (4 : Int32)) = 0 → Ct G d M_SG_wasOtherByTie [.inr 16, .inl x1] μ (fun r4 u3 => (¬ r4 = 0 → Q (1 : Int32) u3) ∧ (r4 = 0 → ((x2 &&& (8 : Int32)) = 0 → Q (0 : Int32) u3) ∧ (¬ (x2 &&& (8 : Int32)) = 0 → Ct G d M_SG_wasOtherByKey [.inr 16, .inl x1] u3 (fun r6 u5 => (r6 = 0 → Q (0 : Int32) u5) ∧ (¬ r6 = 0 → Q (1 : Int32) u5))))))) ∧ (¬ (x2 &&& (2 : Int32)) = 0 → Ct G d M_SG_isOtherInOctave [.inr 16, .inl x1] μ (fun r8 u7 => (¬ r8 = 0 → Q (1 : Int32) u7) ∧ (r8 = 0 → ((x2 &&& (4 : Int32)) = 0 → ((x2 &&& (8 : Int32)) = 0 → Q (0 : Int32) u7) ∧ (¬ (x2 &&& (8 : Int32)) = 0 → Ct G d M_SG_wasOtherByKey [.inr 16, .inl x1] u7 (fun r10 u9 => (r10 = 0 → Q (0 : Int32) u9) ∧ (¬ r10 = 0 → Q (1 : Int32) u9)))) ∧ (¬ (x2 &&& (4 : Int32)) = 0 → Ct G d M_SG_wasOtherByTie [.inr 16, .inl x1] u7 (fun r12 u11 => (¬ r12 = 0 → Q (1 : Int32) u11) ∧ (r12 = 0 → ((x2 &&& (8 : Int32)) = 0 → Q (0 : Int32) u11) ∧ (¬ (x2 &&& (8 : Int32)) = 0 → Ct G d M_SG_wasOtherByKey [.inr 16, .inl x1] u11 (fun r14 u13 => (r14 = 0 → Q (0 : Int32) u13) ∧ (¬ r14 = 0 → Q (1 : Int32) u13)))))))))) :
    AW G (d + 1) M_SG_isCourtesy Q 57 [some (.inr 16), some (.inl x1), some (.inl x2)] [] μ := by
  refine aw_iload_n d_SG_isCourtesy_57 rfl ?_
  refine aw_iconst (v := 2) d_SG_isCourtesy_58 (by decide) ?_
  refine aw_iand d_SG_isCourtesy_59 ?_
  refine aw_if_eq (tgt := 71) d_SG_isCourtesy_60 (by decide) (fun q => ?_) (fun q => ?_)
  · replace h := h.1 q
    refine aw_iload_n d_SG_isCourtesy_71 rfl ?_
    refine aw_iconst (v := 4) d_SG_isCourtesy_72 (by decide) ?_
    refine aw_iand d_SG_isCourtesy_73 ?_
    refine aw_if_eq (tgt := 85) d_SG_isCourtesy_74 (by decide) (fun q => ?_) (fun q => ?_)
    · replace h := h.1 q
      refine aw_iload_n d_SG_isCourtesy_85 rfl ?_
      refine aw_bipush (v := 8) d_SG_isCourtesy_86 (by decide) ?_
      refine aw_iand d_SG_isCourtesy_88 ?_
      refine aw_if_eq (tgt := 104) d_SG_isCourtesy_89 (by decide) (fun q => ?_) (fun q => ?_)
      · replace h := h.1 q
        refine aw_iconst (v := 0) d_SG_isCourtesy_104 (by decide) ?_
        exact aw_zret d_SG_isCourtesy_105 rfl (Or.inl rfl) h
      · replace h := h.2 q
        refine aw_aload_n d_SG_isCourtesy_92 rfl ?_
        refine aw_iload_n d_SG_isCourtesy_93 rfl ?_
        refine aw_callV (as := [.inl x1]) d_SG_isCourtesy_94 lm_SG_163 rfl rfl (by decide) rfl (Nat.le_of_ble_eq_true rfl) rfl h (fun r2 u1 h => ?_)
        refine aw_if_eq (tgt := 104) d_SG_isCourtesy_97 (by decide) (fun q => ?_) (fun q => ?_)
        · replace h := h.1 q
          refine aw_iconst (v := 0) d_SG_isCourtesy_104 (by decide) ?_
          exact aw_zret d_SG_isCourtesy_105 rfl (Or.inl rfl) h
        · replace h := h.2 q
          refine aw_iconst (v := 1) d_SG_isCourtesy_100 (by decide) ?_
          refine aw_goto (tgt := 105) d_SG_isCourtesy_101 (by decide) ?_
          exact aw_zret d_SG_isCourtesy_105 rfl (Or.inr rfl) h
    · replace h := h.2 q
      refine aw_aload_n d_SG_isCourtesy_77 rfl ?_
      refine aw_iload_n d_SG_isCourtesy_78 rfl ?_
      refine aw_callV (as := [.inl x1]) d_SG_isCourtesy_79 lm_SG_160 rfl rfl (by decide) rfl (Nat.le_of_ble_eq_true rfl) rfl h (fun r4 u3 h => ?_)
      refine aw_if_ne (tgt := 100) d_SG_isCourtesy_82 (by decide) (fun q => ?_) (fun q => ?_)
      · replace h := h.1 q
        refine aw_iconst (v := 1) d_SG_isCourtesy_100 (by decide) ?_
        refine aw_goto (tgt := 105) d_SG_isCourtesy_101 (by decide) ?_
        exact aw_zret d_SG_isCourtesy_105 rfl (Or.inr rfl) h
      · replace h := h.2 q
        refine aw_iload_n d_SG_isCourtesy_85 rfl ?_
        refine aw_bipush (v := 8) d_SG_isCourtesy_86 (by decide) ?_
        refine aw_iand d_SG_isCourtesy_88 ?_
        refine aw_if_eq (tgt := 104) d_SG_isCourtesy_89 (by decide) (fun q => ?_) (fun q => ?_)
        · replace h := h.1 q
          refine aw_iconst (v := 0) d_SG_isCourtesy_104 (by decide) ?_
          exact aw_zret d_SG_isCourtesy_105 rfl (Or.inl rfl) h
        · replace h := h.2 q
          refine aw_aload_n d_SG_isCourtesy_92 rfl ?_
          refine aw_iload_n d_SG_isCourtesy_93 rfl ?_
          refine aw_callV (as := [.inl x1]) d_SG_isCourtesy_94 lm_SG_163 rfl rfl (by decide) rfl (Nat.le_of_ble_eq_true rfl) rfl h (fun r6 u5 h => ?_)
          refine aw_if_eq (tgt := 104) d_SG_isCourtesy_97 (by decide) (fun q => ?_) (fun q => ?_)
          · replace h := h.1 q
            refine aw_iconst (v := 0) d_SG_isCourtesy_104 (by decide) ?_
            exact aw_zret d_SG_isCourtesy_105 rfl (Or.inl rfl) h
          · replace h := h.2 q
            refine aw_iconst (v := 1) d_SG_isCourtesy_100 (by decide) ?_
            refine aw_goto (tgt := 105) d_SG_isCourtesy_101 (by decide) ?_
            exact aw_zret d_SG_isCourtesy_105 rfl (Or.inr rfl) h
  · replace h := h.2 q
    refine aw_aload_n d_SG_isCourtesy_63 rfl ?_
    refine aw_iload_n d_SG_isCourtesy_64 rfl ?_
    refine aw_callV (as := [.inl x1]) d_SG_isCourtesy_65 lm_SG_157 rfl rfl (by decide) rfl (Nat.le_of_ble_eq_true rfl) rfl h (fun r8 u7 h => ?_)
    refine aw_if_ne (tgt := 100) d_SG_isCourtesy_68 (by decide) (fun q => ?_) (fun q => ?_)
    · replace h := h.1 q
      refine aw_iconst (v := 1) d_SG_isCourtesy_100 (by decide) ?_
      refine aw_goto (tgt := 105) d_SG_isCourtesy_101 (by decide) ?_
      exact aw_zret d_SG_isCourtesy_105 rfl (Or.inr rfl) h
    · replace h := h.2 q
      refine aw_iload_n d_SG_isCourtesy_71 rfl ?_
      refine aw_iconst (v := 4) d_SG_isCourtesy_72 (by decide) ?_
      refine aw_iand d_SG_isCourtesy_73 ?_
      refine aw_if_eq (tgt := 85) d_SG_isCourtesy_74 (by decide) (fun q => ?_) (fun q => ?_)
      · replace h := h.1 q
        refine aw_iload_n d_SG_isCourtesy_85 rfl ?_
        refine aw_bipush (v := 8) d_SG_isCourtesy_86 (by decide) ?_
        refine aw_iand d_SG_isCourtesy_88 ?_
        refine aw_if_eq (tgt := 104) d_SG_isCourtesy_89 (by decide) (fun q => ?_) (fun q => ?_)
        · replace h := h.1 q
          refine aw_iconst (v := 0) d_SG_isCourtesy_104 (by decide) ?_
          exact aw_zret d_SG_isCourtesy_105 rfl (Or.inl rfl) h
        · replace h := h.2 q
          refine aw_aload_n d_SG_isCourtesy_92 rfl ?_
          refine aw_iload_n d_SG_isCourtesy_93 rfl ?_
          refine aw_callV (as := [.inl x1]) d_SG_isCourtesy_94 lm_SG_163 rfl rfl (by decide) rfl (Nat.le_of_ble_eq_true rfl) rfl h (fun r10 u9 h => ?_)
          refine aw_if_eq (tgt := 104) d_SG_isCourtesy_97 (by decide) (fun q => ?_) (fun q => ?_)
          · replace h := h.1 q
            refine aw_iconst (v := 0) d_SG_isCourtesy_104 (by decide) ?_
            exact aw_zret d_SG_isCourtesy_105 rfl (Or.inl rfl) h
          · replace h := h.2 q
            refine aw_iconst (v := 1) d_SG_isCourtesy_100 (by decide) ?_
            refine aw_goto (tgt := 105) d_SG_isCourtesy_101 (by decide) ?_
            exact aw_zret d_SG_isCourtesy_105 rfl (Or.inr rfl) h
      · replace h := h.2 q
        refine aw_aload_n d_SG_isCourtesy_77 rfl ?_
        refine aw_iload_n d_SG_isCourtesy_78 rfl ?_
        refine aw_callV (as := [.inl x1]) d_SG_isCourtesy_79 lm_SG_160 rfl rfl (by decide) rfl (Nat.le_of_ble_eq_true rfl) rfl h (fun r12 u11 h => ?_)
        refine aw_if_ne (tgt := 100) d_SG_isCourtesy_82 (by decide) (fun q => ?_) (fun q => ?_)
        · replace h := h.1 q
          refine aw_iconst (v := 1) d_SG_isCourtesy_100 (by decide) ?_
          refine aw_goto (tgt := 105) d_SG_isCourtesy_101 (by decide) ?_
          exact aw_zret d_SG_isCourtesy_105 rfl (Or.inr rfl) h
        · replace h := h.2 q
          refine aw_iload_n d_SG_isCourtesy_85 rfl ?_
          refine aw_bipush (v := 8) d_SG_isCourtesy_86 (by decide) ?_
          refine aw_iand d_SG_isCourtesy_88 ?_
          refine aw_if_eq (tgt := 104) d_SG_isCourtesy_89 (by decide) (fun q => ?_) (fun q => ?_)
          · replace h := h.1 q
            refine aw_iconst (v := 0) d_SG_isCourtesy_104 (by decide) ?_
            exact aw_zret d_SG_isCourtesy_105 rfl (Or.inl rfl) h
          · replace h := h.2 q
            refine aw_aload_n d_SG_isCourtesy_92 rfl ?_
            refine aw_iload_n d_SG_isCourtesy_93 rfl ?_
            refine aw_callV (as := [.inl x1]) d_SG_isCourtesy_94 lm_SG_163 rfl rfl (by decide) rfl (Nat.le_of_ble_eq_true rfl) rfl h (fun r14 u13 h => ?_)
            refine aw_if_eq (tgt := 104) d_SG_isCourtesy_97 (by decide) (fun q => ?_) (fun q => ?_)
            · replace h := h.1 q
              refine aw_iconst (v := 0) d_SG_isCourtesy_104 (by decide) ?_
              exact aw_zret d_SG_isCourtesy_105 rfl (Or.inl rfl) h
            · replace h := h.2 q
              refine aw_iconst (v := 1) d_SG_isCourtesy_100 (by decide) ?_
              refine aw_goto (tgt := 105) d_SG_isCourtesy_101 (by decide) ?_
              exact aw_zret d_SG_isCourtesy_105 rfl (Or.inr rfl) h
set_option maxRecDepth 100000 in
theorem vc_SG_wasOtherInLastBar_0 {G : Gp} {d : Nat} {Q : Int32 → Mem → Prop} {x1 : Int32} {μ : Mem}
    (h : vp_in x1 60 ∧ ∀ y1 : Int32, y1 = (μ 4 (ix x1)) → (¬ y1 = 0 → vp_in x1 60 ∧ Ct G d M_SG_alterByKey [.inr 16, .inl (y1 - (1 : Int32)), .inl (μ 2 (ix x1))] μ (fun r3 u2 => vp_in x1 60 ∧ Ct G d M_SE_stateBefore [.inr 17, .inl (u2 23 (ix x1)), .inl y1, .inl r3] u2 (fun r5 u4 => vp_in x1 60 ∧ (r5 = (u4 3 (ix x1)) → Q (0 : Int32) u4) ∧ (¬ r5 = (u4 3 (ix x1)) → Q (1 : Int32) u4)))) ∧ (y1 = 0 → Q (0 : Int32) μ)) :
    AW G (d + 1) M_SG_wasOtherInLastBar Q 0 [some (.inr 16), some (.inl x1), none, none] [] μ := by
  refine aw_aload_n d_SG_wasOtherInLastBar_0 rfl ?_
  refine aw_getR (t := 1) d_SG_wasOtherInLastBar_1 lf_SG_31 rfl rfl ?_
  refine aw_getR (t := 4) d_SG_wasOtherInLastBar_4 lf_SG_113 rfl rfl ?_
  refine aw_iload_n d_SG_wasOtherInLastBar_7 rfl ?_
  refine aw_iald d_SG_wasOtherInLastBar_8 rfl h.1 ?_
  replace h := h.2
  refine aw_top (fun y1 e => ?_)
  replace h := h _ e
  refine aw_istore_n d_SG_wasOtherInLastBar_9 (Nat.le_of_ble_eq_true rfl) ?_
  refine aw_iload_n d_SG_wasOtherInLastBar_10 rfl ?_
  refine aw_if_ne (tgt := 16) d_SG_wasOtherInLastBar_11 (by decide) (fun q => ?_) (fun q => ?_)
  · replace h := h.1 q
    refine aw_aload_n d_SG_wasOtherInLastBar_16 rfl ?_
    refine aw_iload_n d_SG_wasOtherInLastBar_17 rfl ?_
    refine aw_iconst (v := 1) d_SG_wasOtherInLastBar_18 (by decide) ?_
    refine aw_isub d_SG_wasOtherInLastBar_19 ?_
    refine aw_aload_n d_SG_wasOtherInLastBar_20 rfl ?_
    refine aw_getR (t := 1) d_SG_wasOtherInLastBar_21 lf_SG_31 rfl rfl ?_
    refine aw_getR (t := 2) d_SG_wasOtherInLastBar_24 lf_SG_55 rfl rfl ?_
    refine aw_iload_n d_SG_wasOtherInLastBar_27 rfl ?_
    refine aw_iald d_SG_wasOtherInLastBar_28 rfl h.1 ?_
    replace h := h.2
    refine aw_callV (as := [.inl (y1 - (1 : Int32)), .inl (μ 2 (ix x1))]) d_SG_wasOtherInLastBar_29 lm_SG_120 rfl rfl (by decide) rfl (Nat.le_of_ble_eq_true rfl) rfl h (fun r3 u2 h => ?_)
    refine aw_istore_n d_SG_wasOtherInLastBar_32 (Nat.le_of_ble_eq_true rfl) ?_
    refine aw_aload_n d_SG_wasOtherInLastBar_33 rfl ?_
    refine aw_getR (t := 17) d_SG_wasOtherInLastBar_34 lf_SG_12 rfl rfl ?_
    refine aw_aload_n d_SG_wasOtherInLastBar_37 rfl ?_
    refine aw_getR (t := 23) d_SG_wasOtherInLastBar_38 lf_SG_18 rfl rfl ?_
    refine aw_iload_n d_SG_wasOtherInLastBar_41 rfl ?_
    refine aw_iald d_SG_wasOtherInLastBar_42 rfl h.1 ?_
    replace h := h.2
    refine aw_iload_n d_SG_wasOtherInLastBar_43 rfl ?_
    refine aw_iload_n d_SG_wasOtherInLastBar_44 rfl ?_
    refine aw_callV (as := [.inl (u2 23 (ix x1)), .inl y1, .inl r3]) d_SG_wasOtherInLastBar_45 lm_SG_166 rfl rfl (by decide) rfl (Nat.le_of_ble_eq_true rfl) rfl h (fun r5 u4 h => ?_)
    refine aw_aload_n d_SG_wasOtherInLastBar_48 rfl ?_
    refine aw_getR (t := 1) d_SG_wasOtherInLastBar_49 lf_SG_31 rfl rfl ?_
    refine aw_getR (t := 3) d_SG_wasOtherInLastBar_52 lf_SG_91 rfl rfl ?_
    refine aw_iload_n d_SG_wasOtherInLastBar_55 rfl ?_
    refine aw_iald d_SG_wasOtherInLastBar_56 rfl h.1 ?_
    replace h := h.2
    refine aw_icmp_eq (tgt := 64) d_SG_wasOtherInLastBar_57 (by decide) (fun q => ?_) (fun q => ?_)
    · replace h := h.1 q
      refine aw_iconst (v := 0) d_SG_wasOtherInLastBar_64 (by decide) ?_
      exact aw_zret d_SG_wasOtherInLastBar_65 rfl (Or.inl rfl) h
    · replace h := h.2 q
      refine aw_iconst (v := 1) d_SG_wasOtherInLastBar_60 (by decide) ?_
      refine aw_goto (tgt := 65) d_SG_wasOtherInLastBar_61 (by decide) ?_
      exact aw_zret d_SG_wasOtherInLastBar_65 rfl (Or.inr rfl) h
  · replace h := h.2 q
    refine aw_iconst (v := 0) d_SG_wasOtherInLastBar_14 (by decide) ?_
    exact aw_zret d_SG_wasOtherInLastBar_15 rfl (Or.inl rfl) h
theorem en_SG_wasOtherInLastBar {G : Gp} {d : Nat} {Q : Int32 → Mem → Prop} {x1 : Int32} {μ : Mem}
    (h : AW G (d + 1) M_SG_wasOtherInLastBar Q 0 [some (.inr 16), some (.inl x1), none, none] [] μ) :
    Ct G (d + 1) M_SG_wasOtherInLastBar [.inr 16, .inl x1] μ Q := ct_of (by decide) (Nat.le_of_ble_eq_true rfl) h
set_option maxRecDepth 100000 in
theorem vc_SG_isOtherInOctave_0 {G : Gp} {d : Nat} {Q : Int32 → Mem → Prop} {x1 : Int32} {μ : Mem}
    (h : vp_in (0 : Int32) 5 ∧ ((μ 15 (ix (0 : Int32))) = 0 → vp_in x1 60 ∧ ∀ y1 : Int32, y1 = (μ 4 (ix x1)) → vp_in x1 60 ∧ ∀ y2 : Int32, y2 = ((μ 2 (ix x1)) - (μ 2 (ix x1)) / (7 : Int32) * (7 : Int32)) → AW G (d + 1) M_SG_isOtherInOctave Q 34 [some (.inr 16), some (.inl x1), some (.inl y1), some (.inl y2), none] [] μ) ∧ (¬ (μ 15 (ix (0 : Int32))) = 0 → Q (0 : Int32) μ)) :
    AW G (d + 1) M_SG_isOtherInOctave Q 0 [some (.inr 16), some (.inl x1), none, none, none] [] μ := by
  refine aw_aload_n d_SG_isOtherInOctave_0 rfl ?_
  refine aw_getR (t := 15) d_SG_isOtherInOctave_1 lf_SG_39 rfl rfl ?_
  refine aw_iconst (v := 0) d_SG_isOtherInOctave_4 (by decide) ?_
  refine aw_iald d_SG_isOtherInOctave_5 rfl h.1 ?_
  replace h := h.2
  refine aw_if_eq (tgt := 11) d_SG_isOtherInOctave_6 (by decide) (fun q => ?_) (fun q => ?_)
  · replace h := h.1 q
    refine aw_aload_n d_SG_isOtherInOctave_11 rfl ?_
    refine aw_getR (t := 1) d_SG_isOtherInOctave_12 lf_SG_31 rfl rfl ?_
    refine aw_getR (t := 4) d_SG_isOtherInOctave_15 lf_SG_113 rfl rfl ?_
    refine aw_iload_n d_SG_isOtherInOctave_18 rfl ?_
    refine aw_iald d_SG_isOtherInOctave_19 rfl h.1 ?_
    replace h := h.2
    refine aw_top (fun y1 e => ?_)
    replace h := h _ e
    refine aw_istore_n d_SG_isOtherInOctave_20 (Nat.le_of_ble_eq_true rfl) ?_
    refine aw_aload_n d_SG_isOtherInOctave_21 rfl ?_
    refine aw_getR (t := 1) d_SG_isOtherInOctave_22 lf_SG_31 rfl rfl ?_
    refine aw_getR (t := 2) d_SG_isOtherInOctave_25 lf_SG_55 rfl rfl ?_
    refine aw_iload_n d_SG_isOtherInOctave_28 rfl ?_
    refine aw_iald d_SG_isOtherInOctave_29 rfl h.1 ?_
    replace h := h.2
    refine aw_bipush (v := 7) d_SG_isOtherInOctave_30 (by decide) ?_
    refine aw_irem d_SG_isOtherInOctave_32 (by decide) ?_
    refine aw_top (fun y2 e => ?_)
    replace h := h _ e
    refine aw_istore_n d_SG_isOtherInOctave_33 (Nat.le_of_ble_eq_true rfl) ?_
    exact h
  · replace h := h.2 q
    refine aw_iconst (v := 0) d_SG_isOtherInOctave_9 (by decide) ?_
    exact aw_zret d_SG_isOtherInOctave_10 rfl (Or.inl rfl) h
theorem en_SG_isOtherInOctave {G : Gp} {d : Nat} {Q : Int32 → Mem → Prop} {x1 : Int32} {μ : Mem}
    (h : AW G (d + 1) M_SG_isOtherInOctave Q 0 [some (.inr 16), some (.inl x1), none, none, none] [] μ) :
    Ct G (d + 1) M_SG_isOtherInOctave [.inr 16, .inl x1] μ Q := ct_of (by decide) (Nat.le_of_ble_eq_true rfl) h
set_option maxRecDepth 100000 in
theorem vc_SG_isOtherInOctave_34 {G : Gp} {d : Nat} {Q : Int32 → Mem → Prop} {x1 x2 x3 : Int32} {μ : Mem}
    (h : ((70 : Int32) ≤ x3 → Q (0 : Int32) μ) ∧ (¬ (70 : Int32) ≤ x3 → vp_in x1 60 ∧ Ct G d M_SG_seatFor [.inr 16, .inl x3, .inl (μ 6 (ix x1))] μ (fun r2 u1 => vp_in x1 60 ∧ (r2 = (u1 23 (ix x1)) → AW G (d + 1) M_SG_isOtherInOctave Q 34 [some (.inr 16), some (.inl x1), some (.inl x2), some (.inl (x3 + (7 : Int32))), none] [] u1) ∧ (¬ r2 = (u1 23 (ix x1)) → Ct G d M_SE_isEntered [.inr 17, .inl r2, .inl x2] u1 (fun r4 u3 => (r4 = 0 → AW G (d + 1) M_SG_isOtherInOctave Q 34 [some (.inr 16), some (.inl x1), some (.inl x2), some (.inl (x3 + (7 : Int32))), none] [] u3) ∧ (¬ r4 = 0 → Ct G d M_SE_stateIn [.inr 17, .inl r2, .inl x2, .inl (0 : Int32)] u3 (fun r6 u5 => vp_in x1 60 ∧ (r6 = (u5 3 (ix x1)) → AW G (d + 1) M_SG_isOtherInOctave Q 34 [some (.inr 16), some (.inl x1), some (.inl x2), some (.inl (x3 + (7 : Int32))), none] [] u5) ∧ (¬ r6 = (u5 3 (ix x1)) → Q (1 : Int32) u5)))))))) :
    AW G (d + 1) M_SG_isOtherInOctave Q 34 [some (.inr 16), some (.inl x1), some (.inl x2), some (.inl x3), none] [] μ := by
  refine aw_iload_n d_SG_isOtherInOctave_34 rfl ?_
  refine aw_bipush (v := 70) d_SG_isOtherInOctave_35 (by decide) ?_
  refine aw_icmp_ge (tgt := 111) d_SG_isOtherInOctave_37 (by decide) (fun q => ?_) (fun q => ?_)
  · replace h := h.1 q
    refine aw_iconst (v := 0) d_SG_isOtherInOctave_111 (by decide) ?_
    exact aw_zret d_SG_isOtherInOctave_112 rfl (Or.inl rfl) h
  · replace h := h.2 q
    refine aw_aload_n d_SG_isOtherInOctave_40 rfl ?_
    refine aw_iload_n d_SG_isOtherInOctave_41 rfl ?_
    refine aw_aload_n d_SG_isOtherInOctave_42 rfl ?_
    refine aw_getR (t := 1) d_SG_isOtherInOctave_43 lf_SG_31 rfl rfl ?_
    refine aw_getR (t := 6) d_SG_isOtherInOctave_46 lf_SG_58 rfl rfl ?_
    refine aw_iload_n d_SG_isOtherInOctave_49 rfl ?_
    refine aw_iald d_SG_isOtherInOctave_50 rfl h.1 ?_
    replace h := h.2
    refine aw_callV (as := [.inl x3, .inl (μ 6 (ix x1))]) d_SG_isOtherInOctave_51 lm_SG_61 rfl rfl (by decide) rfl (Nat.le_of_ble_eq_true rfl) rfl h (fun r2 u1 h => ?_)
    refine aw_istore d_SG_isOtherInOctave_54 (Nat.le_of_ble_eq_true rfl) ?_
    refine aw_iload d_SG_isOtherInOctave_56 rfl ?_
    refine aw_aload_n d_SG_isOtherInOctave_58 rfl ?_
    refine aw_getR (t := 23) d_SG_isOtherInOctave_59 lf_SG_18 rfl rfl ?_
    refine aw_iload_n d_SG_isOtherInOctave_62 rfl ?_
    refine aw_iald d_SG_isOtherInOctave_63 rfl h.1 ?_
    replace h := h.2
    refine aw_icmp_eq (tgt := 105) d_SG_isOtherInOctave_64 (by decide) (fun q => ?_) (fun q => ?_)
    · replace h := h.1 q
      refine aw_iinc (v := 7) d_SG_isOtherInOctave_105 rfl (by decide) ?_
      refine aw_goto (tgt := 34) d_SG_isOtherInOctave_108 (by decide) ?_
      refine aw_drop 4 ?_
      exact h
    · replace h := h.2 q
      refine aw_aload_n d_SG_isOtherInOctave_67 rfl ?_
      refine aw_getR (t := 17) d_SG_isOtherInOctave_68 lf_SG_12 rfl rfl ?_
      refine aw_iload d_SG_isOtherInOctave_71 rfl ?_
      refine aw_iload_n d_SG_isOtherInOctave_73 rfl ?_
      refine aw_callV (as := [.inl r2, .inl x2]) d_SG_isOtherInOctave_74 lm_SG_169 rfl rfl (by decide) rfl (Nat.le_of_ble_eq_true rfl) rfl h (fun r4 u3 h => ?_)
      refine aw_if_eq (tgt := 105) d_SG_isOtherInOctave_77 (by decide) (fun q => ?_) (fun q => ?_)
      · replace h := h.1 q
        refine aw_iinc (v := 7) d_SG_isOtherInOctave_105 rfl (by decide) ?_
        refine aw_goto (tgt := 34) d_SG_isOtherInOctave_108 (by decide) ?_
        refine aw_drop 4 ?_
        exact h
      · replace h := h.2 q
        refine aw_aload_n d_SG_isOtherInOctave_80 rfl ?_
        refine aw_getR (t := 17) d_SG_isOtherInOctave_81 lf_SG_12 rfl rfl ?_
        refine aw_iload d_SG_isOtherInOctave_84 rfl ?_
        refine aw_iload_n d_SG_isOtherInOctave_86 rfl ?_
        refine aw_iconst (v := 0) d_SG_isOtherInOctave_87 (by decide) ?_
        refine aw_callV (as := [.inl r2, .inl x2, .inl (0 : Int32)]) d_SG_isOtherInOctave_88 lm_SG_133 rfl rfl (by decide) rfl (Nat.le_of_ble_eq_true rfl) rfl h (fun r6 u5 h => ?_)
        refine aw_aload_n d_SG_isOtherInOctave_91 rfl ?_
        refine aw_getR (t := 1) d_SG_isOtherInOctave_92 lf_SG_31 rfl rfl ?_
        refine aw_getR (t := 3) d_SG_isOtherInOctave_95 lf_SG_91 rfl rfl ?_
        refine aw_iload_n d_SG_isOtherInOctave_98 rfl ?_
        refine aw_iald d_SG_isOtherInOctave_99 rfl h.1 ?_
        replace h := h.2
        refine aw_icmp_eq (tgt := 105) d_SG_isOtherInOctave_100 (by decide) (fun q => ?_) (fun q => ?_)
        · replace h := h.1 q
          refine aw_iinc (v := 7) d_SG_isOtherInOctave_105 rfl (by decide) ?_
          refine aw_goto (tgt := 34) d_SG_isOtherInOctave_108 (by decide) ?_
          refine aw_drop 4 ?_
          exact h
        · replace h := h.2 q
          refine aw_iconst (v := 1) d_SG_isOtherInOctave_103 (by decide) ?_
          exact aw_zret d_SG_isOtherInOctave_104 rfl (Or.inr rfl) h
set_option maxRecDepth 100000 in
theorem vc_SG_wasOtherByTie_0 {G : Gp} {d : Nat} {Q : Int32 → Mem → Prop} {x1 : Int32} {μ : Mem}
    (h : vp_in x1 60 ∧ ∀ y1 : Int32, y1 = (μ 4 (ix x1)) → AW G d M_SG_wasOtherByTie Q 12 [some (.inr 16), some (.inl x1), some (.inl y1), some (.inl (0 : Int32)), none] [] μ) :
    AW G d M_SG_wasOtherByTie Q 0 [some (.inr 16), some (.inl x1), none, none, none] [] μ := by
  refine aw_aload_n d_SG_wasOtherByTie_0 rfl ?_
  refine aw_getR (t := 1) d_SG_wasOtherByTie_1 lf_SG_31 rfl rfl ?_
  refine aw_getR (t := 4) d_SG_wasOtherByTie_4 lf_SG_113 rfl rfl ?_
  refine aw_iload_n d_SG_wasOtherByTie_7 rfl ?_
  refine aw_iald d_SG_wasOtherByTie_8 rfl h.1 ?_
  replace h := h.2
  refine aw_top (fun y1 e => ?_)
  replace h := h _ e
  refine aw_istore_n d_SG_wasOtherByTie_9 (Nat.le_of_ble_eq_true rfl) ?_
  refine aw_iconst (v := 0) d_SG_wasOtherByTie_10 (by decide) ?_
  refine aw_istore_n d_SG_wasOtherByTie_11 (Nat.le_of_ble_eq_true rfl) ?_
  exact h
theorem en_SG_wasOtherByTie {G : Gp} {d : Nat} {Q : Int32 → Mem → Prop} {x1 : Int32} {μ : Mem}
    (h : AW G d M_SG_wasOtherByTie Q 0 [some (.inr 16), some (.inl x1), none, none, none] [] μ) :
    Ct G d M_SG_wasOtherByTie [.inr 16, .inl x1] μ Q := ct_of (by decide) (Nat.le_of_ble_eq_true rfl) h
set_option maxRecDepth 100000 in
theorem vc_SG_wasOtherByTie_12 {G : Gp} {d : Nat} {Q : Int32 → Mem → Prop} {x1 x2 x3 : Int32} {μ : Mem}
    (h : ((μ 16 8) ≤ x3 → Q (0 : Int32) μ) ∧ (¬ (μ 16 8) ≤ x3 → vp_in x3 60 ∧ ∀ y1 : Int32, y1 = (μ 7 (ix x3)) → vp_in y1 60 ∧ (¬ (μ 4 (ix y1)) = x2 → AW G d M_SG_wasOtherByTie Q 12 [some (.inr 16), some (.inl x1), some (.inl x2), some (.inl (x3 + (1 : Int32))), none] [] μ) ∧ ((μ 4 (ix y1)) = x2 → vp_in y1 60 ∧ vp_in x1 60 ∧ (¬ (μ 23 (ix y1)) = (μ 23 (ix x1)) → AW G d M_SG_wasOtherByTie Q 12 [some (.inr 16), some (.inl x1), some (.inl x2), some (.inl (x3 + (1 : Int32))), none] [] μ) ∧ ((μ 23 (ix y1)) = (μ 23 (ix x1)) → vp_in y1 60 ∧ ((μ 24 (ix y1)) = (-1 : Int32) → AW G d M_SG_wasOtherByTie Q 12 [some (.inr 16), some (.inl x1), some (.inl x2), some (.inl (x3 + (1 : Int32))), none] [] μ) ∧ (¬ (μ 24 (ix y1)) = (-1 : Int32) → vp_in y1 60 ∧ vp_in (μ 24 (ix y1)) 60 ∧ (x2 ≤ (μ 4 (ix (μ 24 (ix y1)))) → AW G d M_SG_wasOtherByTie Q 12 [some (.inr 16), some (.inl x1), some (.inl x2), some (.inl (x3 + (1 : Int32))), none] [] μ) ∧ (¬ x2 ≤ (μ 4 (ix (μ 24 (ix y1)))) → vp_in y1 60 ∧ vp_in x1 60 ∧ ((μ 3 (ix y1)) = (μ 3 (ix x1)) → AW G d M_SG_wasOtherByTie Q 12 [some (.inr 16), some (.inl x1), some (.inl x2), some (.inl (x3 + (1 : Int32))), none] [] μ) ∧ (¬ (μ 3 (ix y1)) = (μ 3 (ix x1)) → Q (1 : Int32) μ))))))) :
    AW G d M_SG_wasOtherByTie Q 12 [some (.inr 16), some (.inl x1), some (.inl x2), some (.inl x3), none] [] μ := by
  refine aw_iload_n d_SG_wasOtherByTie_12 rfl ?_
  refine aw_aload_n d_SG_wasOtherByTie_13 rfl ?_
  refine aw_getI d_SG_wasOtherByTie_14 lf_SG_73 rfl rfl ?_
  refine aw_icmp_ge (tgt := 121) d_SG_wasOtherByTie_17 (by decide) (fun q => ?_) (fun q => ?_)
  · replace h := h.1 q
    refine aw_iconst (v := 0) d_SG_wasOtherByTie_121 (by decide) ?_
    exact aw_zret d_SG_wasOtherByTie_122 rfl (Or.inl rfl) h
  · replace h := h.2 q
    refine aw_aload_n d_SG_wasOtherByTie_20 rfl ?_
    refine aw_getR (t := 1) d_SG_wasOtherByTie_21 lf_SG_31 rfl rfl ?_
    refine aw_getR (t := 7) d_SG_wasOtherByTie_24 lf_SG_97 rfl rfl ?_
    refine aw_iload_n d_SG_wasOtherByTie_27 rfl ?_
    refine aw_iald d_SG_wasOtherByTie_28 rfl h.1 ?_
    replace h := h.2
    refine aw_top (fun y1 e => ?_)
    replace h := h _ e
    refine aw_istore d_SG_wasOtherByTie_29 (Nat.le_of_ble_eq_true rfl) ?_
    refine aw_aload_n d_SG_wasOtherByTie_31 rfl ?_
    refine aw_getR (t := 1) d_SG_wasOtherByTie_32 lf_SG_31 rfl rfl ?_
    refine aw_getR (t := 4) d_SG_wasOtherByTie_35 lf_SG_113 rfl rfl ?_
    refine aw_iload d_SG_wasOtherByTie_38 rfl ?_
    refine aw_iald d_SG_wasOtherByTie_40 rfl h.1 ?_
    replace h := h.2
    refine aw_iload_n d_SG_wasOtherByTie_41 rfl ?_
    refine aw_icmp_ne (tgt := 115) d_SG_wasOtherByTie_42 (by decide) (fun q => ?_) (fun q => ?_)
    · replace h := h.1 q
      refine aw_iinc (v := 1) d_SG_wasOtherByTie_115 rfl (by decide) ?_
      refine aw_goto (tgt := 12) d_SG_wasOtherByTie_118 (by decide) ?_
      refine aw_drop 4 ?_
      exact h
    · replace h := h.2 q
      refine aw_aload_n d_SG_wasOtherByTie_45 rfl ?_
      refine aw_getR (t := 23) d_SG_wasOtherByTie_46 lf_SG_18 rfl rfl ?_
      refine aw_iload d_SG_wasOtherByTie_49 rfl ?_
      refine aw_iald d_SG_wasOtherByTie_51 rfl h.1 ?_
      replace h := h.2
      refine aw_aload_n d_SG_wasOtherByTie_52 rfl ?_
      refine aw_getR (t := 23) d_SG_wasOtherByTie_53 lf_SG_18 rfl rfl ?_
      refine aw_iload_n d_SG_wasOtherByTie_56 rfl ?_
      refine aw_iald d_SG_wasOtherByTie_57 rfl h.1 ?_
      replace h := h.2
      refine aw_icmp_ne (tgt := 115) d_SG_wasOtherByTie_58 (by decide) (fun q => ?_) (fun q => ?_)
      · replace h := h.1 q
        refine aw_iinc (v := 1) d_SG_wasOtherByTie_115 rfl (by decide) ?_
        refine aw_goto (tgt := 12) d_SG_wasOtherByTie_118 (by decide) ?_
        refine aw_drop 4 ?_
        exact h
      · replace h := h.2 q
        refine aw_aload_n d_SG_wasOtherByTie_61 rfl ?_
        refine aw_getR (t := 24) d_SG_wasOtherByTie_62 lf_SG_22 rfl rfl ?_
        refine aw_iload d_SG_wasOtherByTie_65 rfl ?_
        refine aw_iald d_SG_wasOtherByTie_67 rfl h.1 ?_
        replace h := h.2
        refine aw_iconst (v := (-1)) d_SG_wasOtherByTie_68 (by decide) ?_
        refine aw_icmp_eq (tgt := 115) d_SG_wasOtherByTie_69 (by decide) (fun q => ?_) (fun q => ?_)
        · replace h := h.1 q
          refine aw_iinc (v := 1) d_SG_wasOtherByTie_115 rfl (by decide) ?_
          refine aw_goto (tgt := 12) d_SG_wasOtherByTie_118 (by decide) ?_
          refine aw_drop 4 ?_
          exact h
        · replace h := h.2 q
          refine aw_aload_n d_SG_wasOtherByTie_72 rfl ?_
          refine aw_getR (t := 1) d_SG_wasOtherByTie_73 lf_SG_31 rfl rfl ?_
          refine aw_getR (t := 4) d_SG_wasOtherByTie_76 lf_SG_113 rfl rfl ?_
          refine aw_aload_n d_SG_wasOtherByTie_79 rfl ?_
          refine aw_getR (t := 24) d_SG_wasOtherByTie_80 lf_SG_22 rfl rfl ?_
          refine aw_iload d_SG_wasOtherByTie_83 rfl ?_
          refine aw_iald d_SG_wasOtherByTie_85 rfl h.1 ?_
          replace h := h.2
          refine aw_iald d_SG_wasOtherByTie_86 rfl h.1 ?_
          replace h := h.2
          refine aw_iload_n d_SG_wasOtherByTie_87 rfl ?_
          refine aw_icmp_ge (tgt := 115) d_SG_wasOtherByTie_88 (by decide) (fun q => ?_) (fun q => ?_)
          · replace h := h.1 q
            refine aw_iinc (v := 1) d_SG_wasOtherByTie_115 rfl (by decide) ?_
            refine aw_goto (tgt := 12) d_SG_wasOtherByTie_118 (by decide) ?_
            refine aw_drop 4 ?_
            exact h
          · replace h := h.2 q
            refine aw_aload_n d_SG_wasOtherByTie_91 rfl ?_
            refine aw_getR (t := 1) d_SG_wasOtherByTie_92 lf_SG_31 rfl rfl ?_
            refine aw_getR (t := 3) d_SG_wasOtherByTie_95 lf_SG_91 rfl rfl ?_
            refine aw_iload d_SG_wasOtherByTie_98 rfl ?_
            refine aw_iald d_SG_wasOtherByTie_100 rfl h.1 ?_
            replace h := h.2
            refine aw_aload_n d_SG_wasOtherByTie_101 rfl ?_
            refine aw_getR (t := 1) d_SG_wasOtherByTie_102 lf_SG_31 rfl rfl ?_
            refine aw_getR (t := 3) d_SG_wasOtherByTie_105 lf_SG_91 rfl rfl ?_
            refine aw_iload_n d_SG_wasOtherByTie_108 rfl ?_
            refine aw_iald d_SG_wasOtherByTie_109 rfl h.1 ?_
            replace h := h.2
            refine aw_icmp_eq (tgt := 115) d_SG_wasOtherByTie_110 (by decide) (fun q => ?_) (fun q => ?_)
            · replace h := h.1 q
              refine aw_iinc (v := 1) d_SG_wasOtherByTie_115 rfl (by decide) ?_
              refine aw_goto (tgt := 12) d_SG_wasOtherByTie_118 (by decide) ?_
              refine aw_drop 4 ?_
              exact h
            · replace h := h.2 q
              refine aw_iconst (v := 1) d_SG_wasOtherByTie_113 (by decide) ?_
              exact aw_zret d_SG_wasOtherByTie_114 rfl (Or.inr rfl) h
set_option maxRecDepth 100000 in
theorem vc_SG_wasOtherByKey_0 {G : Gp} {d : Nat} {Q : Int32 → Mem → Prop} {x1 : Int32} {μ : Mem}
    (h : vp_in x1 60 ∧ ∀ y1 : Int32, y1 = (μ 4 (ix x1)) → vp_in x1 60 ∧ ∀ y2 : Int32, y2 = (μ 2 (ix x1)) → (y1 ≤ 0 → Q (0 : Int32) μ) ∧ (¬ y1 ≤ 0 → Ct G d M_SG_alterByKey [.inr 16, .inl (y1 - (1 : Int32)), .inl y2] μ (fun r4 u3 => Ct G d M_SG_alterByKey [.inr 16, .inl y1, .inl y2] u3 (fun r6 u5 => (r4 = r6 → Q (0 : Int32) u5) ∧ (¬ r4 = r6 → Q (1 : Int32) u5))))) :
    AW G (d + 1) M_SG_wasOtherByKey Q 0 [some (.inr 16), some (.inl x1), none, none] [] μ := by
  refine aw_aload_n d_SG_wasOtherByKey_0 rfl ?_
  refine aw_getR (t := 1) d_SG_wasOtherByKey_1 lf_SG_31 rfl rfl ?_
  refine aw_getR (t := 4) d_SG_wasOtherByKey_4 lf_SG_113 rfl rfl ?_
  refine aw_iload_n d_SG_wasOtherByKey_7 rfl ?_
  refine aw_iald d_SG_wasOtherByKey_8 rfl h.1 ?_
  replace h := h.2
  refine aw_top (fun y1 e => ?_)
  replace h := h _ e
  refine aw_istore_n d_SG_wasOtherByKey_9 (Nat.le_of_ble_eq_true rfl) ?_
  refine aw_aload_n d_SG_wasOtherByKey_10 rfl ?_
  refine aw_getR (t := 1) d_SG_wasOtherByKey_11 lf_SG_31 rfl rfl ?_
  refine aw_getR (t := 2) d_SG_wasOtherByKey_14 lf_SG_55 rfl rfl ?_
  refine aw_iload_n d_SG_wasOtherByKey_17 rfl ?_
  refine aw_iald d_SG_wasOtherByKey_18 rfl h.1 ?_
  replace h := h.2
  refine aw_top (fun y2 e => ?_)
  replace h := h _ e
  refine aw_istore_n d_SG_wasOtherByKey_19 (Nat.le_of_ble_eq_true rfl) ?_
  refine aw_iload_n d_SG_wasOtherByKey_20 rfl ?_
  refine aw_if_le (tgt := 45) d_SG_wasOtherByKey_21 (by decide) (fun q => ?_) (fun q => ?_)
  · replace h := h.1 q
    refine aw_iconst (v := 0) d_SG_wasOtherByKey_45 (by decide) ?_
    exact aw_zret d_SG_wasOtherByKey_46 rfl (Or.inl rfl) h
  · replace h := h.2 q
    refine aw_aload_n d_SG_wasOtherByKey_24 rfl ?_
    refine aw_iload_n d_SG_wasOtherByKey_25 rfl ?_
    refine aw_iconst (v := 1) d_SG_wasOtherByKey_26 (by decide) ?_
    refine aw_isub d_SG_wasOtherByKey_27 ?_
    refine aw_iload_n d_SG_wasOtherByKey_28 rfl ?_
    refine aw_callV (as := [.inl (y1 - (1 : Int32)), .inl y2]) d_SG_wasOtherByKey_29 lm_SG_120 rfl rfl (by decide) rfl (Nat.le_of_ble_eq_true rfl) rfl h (fun r4 u3 h => ?_)
    refine aw_aload_n d_SG_wasOtherByKey_32 rfl ?_
    refine aw_iload_n d_SG_wasOtherByKey_33 rfl ?_
    refine aw_iload_n d_SG_wasOtherByKey_34 rfl ?_
    refine aw_callV (as := [.inl y1, .inl y2]) d_SG_wasOtherByKey_35 lm_SG_120 rfl rfl (by decide) rfl (Nat.le_of_ble_eq_true rfl) rfl h (fun r6 u5 h => ?_)
    refine aw_icmp_eq (tgt := 45) d_SG_wasOtherByKey_38 (by decide) (fun q => ?_) (fun q => ?_)
    · replace h := h.1 q
      refine aw_iconst (v := 0) d_SG_wasOtherByKey_45 (by decide) ?_
      exact aw_zret d_SG_wasOtherByKey_46 rfl (Or.inl rfl) h
    · replace h := h.2 q
      refine aw_iconst (v := 1) d_SG_wasOtherByKey_41 (by decide) ?_
      refine aw_goto (tgt := 46) d_SG_wasOtherByKey_42 (by decide) ?_
      exact aw_zret d_SG_wasOtherByKey_46 rfl (Or.inr rfl) h
theorem en_SG_wasOtherByKey {G : Gp} {d : Nat} {Q : Int32 → Mem → Prop} {x1 : Int32} {μ : Mem}
    (h : AW G (d + 1) M_SG_wasOtherByKey Q 0 [some (.inr 16), some (.inl x1), none, none] [] μ) :
    Ct G (d + 1) M_SG_wasOtherByKey [.inr 16, .inl x1] μ Q := ct_of (by decide) (Nat.le_of_ble_eq_true rfl) h
