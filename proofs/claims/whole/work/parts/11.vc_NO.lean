/-! verification conditions, by program -/
set_option maxRecDepth 100000 in
theorem vc_NO_has_0 {G : Gp} {d : Nat} {Q : Int32 → Mem → Prop} {x1 : Int32} {μ : Mem}
    (h : (x1 < 0 → Q (0 : Int32) μ) ∧ (¬ x1 < 0 → ((μ 1 7) ≤ x1 → Q (0 : Int32) μ) ∧ (¬ (μ 1 7) ≤ x1 → Q (1 : Int32) μ))) :
    AW G d M_NO_has Q 0 [some (.inr 1), some (.inl x1)] [] μ := by
  refine aw_iload_n d_NO_has_0 rfl ?_
  refine aw_if_lt (tgt := 16) d_NO_has_1 (by decide) (fun q => ?_) (fun q => ?_)
  · replace h := h.1 q
    refine aw_iconst (v := 0) d_NO_has_16 (by decide) ?_
    exact aw_zret d_NO_has_17 rfl (Or.inl rfl) h
  · replace h := h.2 q
    refine aw_iload_n d_NO_has_4 rfl ?_
    refine aw_aload_n d_NO_has_5 rfl ?_
    refine aw_getI d_NO_has_6 lf_NO_33 rfl rfl ?_
    refine aw_icmp_ge (tgt := 16) d_NO_has_9 (by decide) (fun q => ?_) (fun q => ?_)
    · replace h := h.1 q
      refine aw_iconst (v := 0) d_NO_has_16 (by decide) ?_
      exact aw_zret d_NO_has_17 rfl (Or.inl rfl) h
    · replace h := h.2 q
      refine aw_iconst (v := 1) d_NO_has_12 (by decide) ?_
      refine aw_goto (tgt := 17) d_NO_has_13 (by decide) ?_
      exact aw_zret d_NO_has_17 rfl (Or.inr rfl) h
theorem en_NO_has {G : Gp} {d : Nat} {Q : Int32 → Mem → Prop} {x1 : Int32} {μ : Mem}
    (h : AW G d M_NO_has Q 0 [some (.inr 1), some (.inl x1)] [] μ) :
    Ct G d M_NO_has [.inr 1, .inl x1] μ Q := ct_of (by decide) (Nat.le_of_ble_eq_true rfl) h
set_option maxRecDepth 100000 in
theorem vc_NO_add_0 {G : Gp} {d : Nat} {Q : Int32 → Mem → Prop} {x1 x2 x3 x4 x5 : Int32} {μ : Mem}
    (h : ∀ y1 : Int32, y1 = (μ 1 7) → vp_in y1 60 ∧ ∀ u2 : Mem, u2 = up μ 2 (ix y1) x1 → vp_in y1 60 ∧ ∀ u3 : Mem, u3 = up u2 3 (ix y1) x2 → vp_in y1 60 ∧ ∀ u4 : Mem, u4 = up u3 4 (ix y1) x3 → vp_in y1 60 ∧ ∀ u5 : Mem, u5 = up u4 5 (ix y1) x4 → vp_in y1 60 ∧ ∀ u6 : Mem, u6 = up u5 6 (ix y1) x5 → AW G (d + 1) M_NO_add Q 51 [some (.inr 1), none, none, none, none, none, some (.inl y1), some (.inl (0 : Int32))] [] u6) :
    AW G (d + 1) M_NO_add Q 0 [some (.inr 1), some (.inl x1), some (.inl x2), some (.inl x3), some (.inl x4), some (.inl x5), none, none] [] μ := by
  refine aw_aload_n d_NO_add_0 rfl ?_
  refine aw_getI d_NO_add_1 lf_NO_33 rfl rfl ?_
  refine aw_top (fun y1 e => ?_)
  replace h := h _ e
  refine aw_istore d_NO_add_4 (Nat.le_of_ble_eq_true rfl) ?_
  refine aw_aload_n d_NO_add_6 rfl ?_
  refine aw_getR (t := 2) d_NO_add_7 lf_NO_9 rfl rfl ?_
  refine aw_iload d_NO_add_10 rfl ?_
  refine aw_iload_n d_NO_add_12 rfl ?_
  refine aw_iast d_NO_add_13 rfl h.1 ?_
  replace h := h.2
  refine aw_mem (fun u2 e => ?_)
  replace h := h _ e
  refine aw_aload_n d_NO_add_14 rfl ?_
  refine aw_getR (t := 3) d_NO_add_15 lf_NO_15 rfl rfl ?_
  refine aw_iload d_NO_add_18 rfl ?_
  refine aw_iload_n d_NO_add_20 rfl ?_
  refine aw_iast d_NO_add_21 rfl h.1 ?_
  replace h := h.2
  refine aw_mem (fun u3 e => ?_)
  replace h := h _ e
  refine aw_aload_n d_NO_add_22 rfl ?_
  refine aw_getR (t := 4) d_NO_add_23 lf_NO_18 rfl rfl ?_
  refine aw_iload d_NO_add_26 rfl ?_
  refine aw_iload_n d_NO_add_28 rfl ?_
  refine aw_iast d_NO_add_29 rfl h.1 ?_
  replace h := h.2
  refine aw_mem (fun u4 e => ?_)
  replace h := h _ e
  refine aw_aload_n d_NO_add_30 rfl ?_
  refine aw_getR (t := 5) d_NO_add_31 lf_NO_21 rfl rfl ?_
  refine aw_iload d_NO_add_34 rfl ?_
  refine aw_iload d_NO_add_36 rfl ?_
  refine aw_iast d_NO_add_38 rfl h.1 ?_
  replace h := h.2
  refine aw_mem (fun u5 e => ?_)
  replace h := h _ e
  refine aw_aload_n d_NO_add_39 rfl ?_
  refine aw_getR (t := 6) d_NO_add_40 lf_NO_24 rfl rfl ?_
  refine aw_iload d_NO_add_43 rfl ?_
  refine aw_iload d_NO_add_45 rfl ?_
  refine aw_iast d_NO_add_47 rfl h.1 ?_
  replace h := h.2
  refine aw_mem (fun u6 e => ?_)
  replace h := h _ e
  refine aw_iconst (v := 0) d_NO_add_48 (by decide) ?_
  refine aw_istore d_NO_add_49 (Nat.le_of_ble_eq_true rfl) ?_
  refine aw_drop 1 ?_
  refine aw_drop 2 ?_
  refine aw_drop 3 ?_
  refine aw_drop 4 ?_
  refine aw_drop 5 ?_
  exact h
theorem en_NO_add {G : Gp} {d : Nat} {Q : Int32 → Mem → Prop} {x1 x2 x3 x4 x5 : Int32} {μ : Mem}
    (h : AW G (d + 1) M_NO_add Q 0 [some (.inr 1), some (.inl x1), some (.inl x2), some (.inl x3), some (.inl x4), some (.inl x5), none, none] [] μ) :
    Ct G (d + 1) M_NO_add [.inr 1, .inl x1, .inl x2, .inl x3, .inl x4, .inl x5] μ Q := ct_of (by decide) (Nat.le_of_ble_eq_true rfl) h
set_option maxRecDepth 100000 in
theorem vc_NO_add_51 {G : Gp} {d : Nat} {Q : Int32 → Mem → Prop} {x6 x7 : Int32} {μ : Mem}
    (h : ((3 : Int32) ≤ x7 → ∀ y1 : Int32, y1 = (μ 1 7) → AW G (d + 1) M_NO_add Q 82 [some (.inr 1), none, none, none, none, none, some (.inl x6), some (.inl y1)] [] μ) ∧ (¬ (3 : Int32) ≤ x7 → vp_in ((x6 * (3 : Int32)) + x7) 180 ∧ ∀ u2 : Mem, u2 = up μ 8 (ix ((x6 * (3 : Int32)) + x7)) (0 : Int32) → AW G (d + 1) M_NO_add Q 51 [some (.inr 1), none, none, none, none, none, some (.inl x6), some (.inl (x7 + (1 : Int32)))] [] u2)) :
    AW G (d + 1) M_NO_add Q 51 [some (.inr 1), none, none, none, none, none, some (.inl x6), some (.inl x7)] [] μ := by
  refine aw_iload d_NO_add_51 rfl ?_
  refine aw_iconst (v := 3) d_NO_add_53 (by decide) ?_
  refine aw_icmp_ge (tgt := 76) d_NO_add_54 (by decide) (fun q => ?_) (fun q => ?_)
  · replace h := h.1 q
    refine aw_aload_n d_NO_add_76 rfl ?_
    refine aw_getI d_NO_add_77 lf_NO_33 rfl rfl ?_
    refine aw_top (fun y1 e => ?_)
    replace h := h _ e
    refine aw_istore d_NO_add_80 (Nat.le_of_ble_eq_true rfl) ?_
    exact h
  · replace h := h.2 q
    refine aw_aload_n d_NO_add_57 rfl ?_
    refine aw_getR (t := 8) d_NO_add_58 lf_NO_30 rfl rfl ?_
    refine aw_iload d_NO_add_61 rfl ?_
    refine aw_iconst (v := 3) d_NO_add_63 (by decide) ?_
    refine aw_imul d_NO_add_64 ?_
    refine aw_iload d_NO_add_65 rfl ?_
    refine aw_iadd d_NO_add_67 ?_
    refine aw_iconst (v := 0) d_NO_add_68 (by decide) ?_
    refine aw_iast d_NO_add_69 rfl h.1 ?_
    replace h := h.2
    refine aw_mem (fun u2 e => ?_)
    replace h := h _ e
    refine aw_iinc (v := 1) d_NO_add_70 rfl (by decide) ?_
    refine aw_goto (tgt := 51) d_NO_add_73 (by decide) ?_
    exact h
set_option maxRecDepth 100000 in
theorem vc_NO_add_82 {G : Gp} {d : Nat} {Q : Int32 → Mem → Prop} {x6 x7 : Int32} {μ : Mem}
    (h : (x7 ≤ 0 → vp_in x7 60 ∧ ∀ u1 : Mem, u1 = up μ 7 (ix x7) x6 → ∀ u2 : Mem, u2 = up u1 1 7 ((u1 1 7) + (1 : Int32)) → Q x6 u2) ∧ (¬ x7 ≤ 0 → vp_in (x7 - (1 : Int32)) 60 ∧ Ct G d M_NO_isBefore [.inr 1, .inl x6, .inl (μ 7 (ix (x7 - (1 : Int32))))] μ (fun r4 u3 => (r4 = 0 → vp_in x7 60 ∧ ∀ u5 : Mem, u5 = up u3 7 (ix x7) x6 → ∀ u6 : Mem, u6 = up u5 1 7 ((u5 1 7) + (1 : Int32)) → Q x6 u6) ∧ (¬ r4 = 0 → vp_in (x7 - (1 : Int32)) 60 ∧ vp_in x7 60 ∧ ∀ u7 : Mem, u7 = up u3 7 (ix x7) (u3 7 (ix (x7 - (1 : Int32)))) → AW G (d + 1) M_NO_add Q 82 [some (.inr 1), none, none, none, none, none, some (.inl x6), some (.inl (x7 + (-1 : Int32)))] [] u7)))) :
    AW G (d + 1) M_NO_add Q 82 [some (.inr 1), none, none, none, none, none, some (.inl x6), some (.inl x7)] [] μ := by
  refine aw_iload d_NO_add_82 rfl ?_
  refine aw_if_le (tgt := 127) d_NO_add_84 (by decide) (fun q => ?_) (fun q => ?_)
  · replace h := h.1 q
    refine aw_aload_n d_NO_add_127 rfl ?_
    refine aw_getR (t := 7) d_NO_add_128 lf_NO_27 rfl rfl ?_
    refine aw_iload d_NO_add_131 rfl ?_
    refine aw_iload d_NO_add_133 rfl ?_
    refine aw_iast d_NO_add_135 rfl h.1 ?_
    replace h := h.2
    refine aw_mem (fun u1 e => ?_)
    replace h := h _ e
    refine aw_aload_n d_NO_add_136 rfl ?_
    refine aw_dup d_NO_add_137 ?_
    refine aw_getI d_NO_add_138 lf_NO_33 rfl rfl ?_
    refine aw_iconst (v := 1) d_NO_add_141 (by decide) ?_
    refine aw_iadd d_NO_add_142 ?_
    refine aw_putI d_NO_add_143 lf_NO_33 ⟨_, _, _, rfl, rfl, rfl⟩ rfl rfl ?_
    refine aw_mem (fun u2 e => ?_)
    replace h := h _ e
    refine aw_iload d_NO_add_146 rfl ?_
    exact aw_iret d_NO_add_148 rfl h
  · replace h := h.2 q
    refine aw_aload_n d_NO_add_87 rfl ?_
    refine aw_iload d_NO_add_88 rfl ?_
    refine aw_aload_n d_NO_add_90 rfl ?_
    refine aw_getR (t := 7) d_NO_add_91 lf_NO_27 rfl rfl ?_
    refine aw_iload d_NO_add_94 rfl ?_
    refine aw_iconst (v := 1) d_NO_add_96 (by decide) ?_
    refine aw_isub d_NO_add_97 ?_
    refine aw_iald d_NO_add_98 rfl h.1 ?_
    replace h := h.2
    refine aw_callV (as := [.inl x6, .inl (μ 7 (ix (x7 - (1 : Int32))))]) d_NO_add_99 lm_NO_37 rfl rfl (by decide) rfl (Nat.le_of_ble_eq_true rfl) rfl h (fun r4 u3 h => ?_)
    refine aw_if_eq (tgt := 127) d_NO_add_102 (by decide) (fun q => ?_) (fun q => ?_)
    · replace h := h.1 q
      refine aw_aload_n d_NO_add_127 rfl ?_
      refine aw_getR (t := 7) d_NO_add_128 lf_NO_27 rfl rfl ?_
      refine aw_iload d_NO_add_131 rfl ?_
      refine aw_iload d_NO_add_133 rfl ?_
      refine aw_iast d_NO_add_135 rfl h.1 ?_
      replace h := h.2
      refine aw_mem (fun u5 e => ?_)
      replace h := h _ e
      refine aw_aload_n d_NO_add_136 rfl ?_
      refine aw_dup d_NO_add_137 ?_
      refine aw_getI d_NO_add_138 lf_NO_33 rfl rfl ?_
      refine aw_iconst (v := 1) d_NO_add_141 (by decide) ?_
      refine aw_iadd d_NO_add_142 ?_
      refine aw_putI d_NO_add_143 lf_NO_33 ⟨_, _, _, rfl, rfl, rfl⟩ rfl rfl ?_
      refine aw_mem (fun u6 e => ?_)
      replace h := h _ e
      refine aw_iload d_NO_add_146 rfl ?_
      exact aw_iret d_NO_add_148 rfl h
    · replace h := h.2 q
      refine aw_aload_n d_NO_add_105 rfl ?_
      refine aw_getR (t := 7) d_NO_add_106 lf_NO_27 rfl rfl ?_
      refine aw_iload d_NO_add_109 rfl ?_
      refine aw_aload_n d_NO_add_111 rfl ?_
      refine aw_getR (t := 7) d_NO_add_112 lf_NO_27 rfl rfl ?_
      refine aw_iload d_NO_add_115 rfl ?_
      refine aw_iconst (v := 1) d_NO_add_117 (by decide) ?_
      refine aw_isub d_NO_add_118 ?_
      refine aw_iald d_NO_add_119 rfl h.1 ?_
      replace h := h.2
      refine aw_iast d_NO_add_120 rfl h.1 ?_
      replace h := h.2
      refine aw_mem (fun u7 e => ?_)
      replace h := h _ e
      refine aw_iinc (v := (-1)) d_NO_add_121 rfl (by decide) ?_
      refine aw_goto (tgt := 82) d_NO_add_124 (by decide) ?_
      exact h
set_option maxRecDepth 100000 in
theorem vc_NO_removeLast_0 {G : Gp} {d : Nat} {Q : Int32 → Mem → Prop} {μ : Mem}
    (h : Ct G d M_NO_positionOf [.inr 1, .inl ((μ 1 7) - (1 : Int32))] μ (fun r2 u1 => AW G (d + 1) M_NO_removeLast Q 11 [some (.inr 1), some (.inl r2)] [] u1)) :
    AW G (d + 1) M_NO_removeLast Q 0 [some (.inr 1), none] [] μ := by
  refine aw_aload_n d_NO_removeLast_0 rfl ?_
  refine aw_aload_n d_NO_removeLast_1 rfl ?_
  refine aw_getI d_NO_removeLast_2 lf_NO_33 rfl rfl ?_
  refine aw_iconst (v := 1) d_NO_removeLast_5 (by decide) ?_
  refine aw_isub d_NO_removeLast_6 ?_
  refine aw_callV (as := [.inl ((μ 1 7) - (1 : Int32))]) d_NO_removeLast_7 lm_NO_41 rfl rfl (by decide) rfl (Nat.le_of_ble_eq_true rfl) rfl h (fun r2 u1 h => ?_)
  refine aw_istore_n d_NO_removeLast_10 (Nat.le_of_ble_eq_true rfl) ?_
  exact h
theorem en_NO_removeLast {G : Gp} {d : Nat} {Q : Int32 → Mem → Prop} {μ : Mem}
    (h : AW G (d + 1) M_NO_removeLast Q 0 [some (.inr 1), none] [] μ) :
    Ct G (d + 1) M_NO_removeLast [.inr 1] μ Q := ct_of (by decide) (Nat.le_of_ble_eq_true rfl) h
set_option maxRecDepth 100000 in
theorem vc_NO_removeLast_11 {G : Gp} {d : Nat} {Q : Int32 → Mem → Prop} {x1 : Int32} {μ : Mem}
    (h : (((μ 1 7) - (1 : Int32)) ≤ x1 → ∀ u1 : Mem, u1 = up μ 1 7 ((μ 1 7) - (1 : Int32)) → Q 0 u1) ∧ (¬ ((μ 1 7) - (1 : Int32)) ≤ x1 → vp_in (x1 + (1 : Int32)) 60 ∧ vp_in x1 60 ∧ ∀ u2 : Mem, u2 = up μ 7 (ix x1) (μ 7 (ix (x1 + (1 : Int32)))) → AW G (d + 1) M_NO_removeLast Q 11 [some (.inr 1), some (.inl (x1 + (1 : Int32)))] [] u2)) :
    AW G (d + 1) M_NO_removeLast Q 11 [some (.inr 1), some (.inl x1)] [] μ := by
  refine aw_iload_n d_NO_removeLast_11 rfl ?_
  refine aw_aload_n d_NO_removeLast_12 rfl ?_
  refine aw_getI d_NO_removeLast_13 lf_NO_33 rfl rfl ?_
  refine aw_iconst (v := 1) d_NO_removeLast_16 (by decide) ?_
  refine aw_isub d_NO_removeLast_17 ?_
  refine aw_icmp_ge (tgt := 41) d_NO_removeLast_18 (by decide) (fun q => ?_) (fun q => ?_)
  · replace h := h.1 q
    refine aw_aload_n d_NO_removeLast_41 rfl ?_
    refine aw_dup d_NO_removeLast_42 ?_
    refine aw_getI d_NO_removeLast_43 lf_NO_33 rfl rfl ?_
    refine aw_iconst (v := 1) d_NO_removeLast_46 (by decide) ?_
    refine aw_isub d_NO_removeLast_47 ?_
    refine aw_putI d_NO_removeLast_48 lf_NO_33 ⟨_, _, _, rfl, rfl, rfl⟩ rfl rfl ?_
    refine aw_mem (fun u1 e => ?_)
    replace h := h _ e
    exact aw_vret d_NO_removeLast_51 rfl h
  · replace h := h.2 q
    refine aw_aload_n d_NO_removeLast_21 rfl ?_
    refine aw_getR (t := 7) d_NO_removeLast_22 lf_NO_27 rfl rfl ?_
    refine aw_iload_n d_NO_removeLast_25 rfl ?_
    refine aw_aload_n d_NO_removeLast_26 rfl ?_
    refine aw_getR (t := 7) d_NO_removeLast_27 lf_NO_27 rfl rfl ?_
    refine aw_iload_n d_NO_removeLast_30 rfl ?_
    refine aw_iconst (v := 1) d_NO_removeLast_31 (by decide) ?_
    refine aw_iadd d_NO_removeLast_32 ?_
    refine aw_iald d_NO_removeLast_33 rfl h.1 ?_
    replace h := h.2
    refine aw_iast d_NO_removeLast_34 rfl h.1 ?_
    replace h := h.2
    refine aw_mem (fun u2 e => ?_)
    replace h := h _ e
    refine aw_iinc (v := 1) d_NO_removeLast_35 rfl (by decide) ?_
    refine aw_goto (tgt := 11) d_NO_removeLast_38 (by decide) ?_
    exact h
set_option maxRecDepth 100000 in
theorem vc_NO_markOf_0 {G : Gp} {d : Nat} {Q : Int32 → Mem → Prop} {x1 x2 : Int32} {μ : Mem}
    (h : vp_in ((x1 * (3 : Int32)) + x2) 180 ∧ Q (μ 8 (ix ((x1 * (3 : Int32)) + x2))) μ) :
    AW G d M_NO_markOf Q 0 [some (.inr 1), some (.inl x1), some (.inl x2)] [] μ := by
  refine aw_aload_n d_NO_markOf_0 rfl ?_
  refine aw_getR (t := 8) d_NO_markOf_1 lf_NO_30 rfl rfl ?_
  refine aw_iload_n d_NO_markOf_4 rfl ?_
  refine aw_iconst (v := 3) d_NO_markOf_5 (by decide) ?_
  refine aw_imul d_NO_markOf_6 ?_
  refine aw_iload_n d_NO_markOf_7 rfl ?_
  refine aw_iadd d_NO_markOf_8 ?_
  refine aw_iald d_NO_markOf_9 rfl h.1 ?_
  replace h := h.2
  exact aw_iret d_NO_markOf_10 rfl h
theorem en_NO_markOf {G : Gp} {d : Nat} {Q : Int32 → Mem → Prop} {x1 x2 : Int32} {μ : Mem}
    (h : AW G d M_NO_markOf Q 0 [some (.inr 1), some (.inl x1), some (.inl x2)] [] μ) :
    Ct G d M_NO_markOf [.inr 1, .inl x1, .inl x2] μ Q := ct_of (by decide) (Nat.le_of_ble_eq_true rfl) h
set_option maxRecDepth 100000 in
theorem vc_NO_setMark_0 {G : Gp} {d : Nat} {Q : Int32 → Mem → Prop} {x1 x2 x3 : Int32} {μ : Mem}
    (h : Ct G d M_NO_markOf [.inr 1, .inl x1, .inl x2] μ (fun r2 u1 => vp_in ((x1 * (3 : Int32)) + x2) 180 ∧ ∀ u3 : Mem, u3 = up u1 8 (ix ((x1 * (3 : Int32)) + x2)) x3 → Q r2 u3)) :
    AW G (d + 1) M_NO_setMark Q 0 [some (.inr 1), some (.inl x1), some (.inl x2), some (.inl x3), none] [] μ := by
  refine aw_aload_n d_NO_setMark_0 rfl ?_
  refine aw_iload_n d_NO_setMark_1 rfl ?_
  refine aw_iload_n d_NO_setMark_2 rfl ?_
  refine aw_callV (as := [.inl x1, .inl x2]) d_NO_setMark_3 lm_NO_45 rfl rfl (by decide) rfl (Nat.le_of_ble_eq_true rfl) rfl h (fun r2 u1 h => ?_)
  refine aw_istore d_NO_setMark_6 (Nat.le_of_ble_eq_true rfl) ?_
  refine aw_aload_n d_NO_setMark_8 rfl ?_
  refine aw_getR (t := 8) d_NO_setMark_9 lf_NO_30 rfl rfl ?_
  refine aw_iload_n d_NO_setMark_12 rfl ?_
  refine aw_iconst (v := 3) d_NO_setMark_13 (by decide) ?_
  refine aw_imul d_NO_setMark_14 ?_
  refine aw_iload_n d_NO_setMark_15 rfl ?_
  refine aw_iadd d_NO_setMark_16 ?_
  refine aw_iload_n d_NO_setMark_17 rfl ?_
  refine aw_iast d_NO_setMark_18 rfl h.1 ?_
  replace h := h.2
  refine aw_mem (fun u3 e => ?_)
  replace h := h _ e
  refine aw_iload d_NO_setMark_19 rfl ?_
  exact aw_iret d_NO_setMark_21 rfl h
theorem en_NO_setMark {G : Gp} {d : Nat} {Q : Int32 → Mem → Prop} {x1 x2 x3 : Int32} {μ : Mem}
    (h : AW G (d + 1) M_NO_setMark Q 0 [some (.inr 1), some (.inl x1), some (.inl x2), some (.inl x3), none] [] μ) :
    Ct G (d + 1) M_NO_setMark [.inr 1, .inl x1, .inl x2, .inl x3] μ Q := ct_of (by decide) (Nat.le_of_ble_eq_true rfl) h
set_option maxRecDepth 100000 in
theorem vc_NO_possibleTie_0 {G : Gp} {d : Nat} {Q : Int32 → Mem → Prop} {x1 : Int32} {μ : Mem}
    (h : Ct G d M_NO_positionOf [.inr 1, .inl x1] μ (fun r2 u1 => ∀ y3 : Int32, y3 = (r2 - (1 : Int32)) → AW G (d + 1) M_NO_possibleTie Q 8 [some (.inr 1), some (.inl x1), some (.inl y3), none] [] u1)) :
    AW G (d + 1) M_NO_possibleTie Q 0 [some (.inr 1), some (.inl x1), none, none] [] μ := by
  refine aw_aload_n d_NO_possibleTie_0 rfl ?_
  refine aw_iload_n d_NO_possibleTie_1 rfl ?_
  refine aw_callV (as := [.inl x1]) d_NO_possibleTie_2 lm_NO_41 rfl rfl (by decide) rfl (Nat.le_of_ble_eq_true rfl) rfl h (fun r2 u1 h => ?_)
  refine aw_iconst (v := 1) d_NO_possibleTie_5 (by decide) ?_
  refine aw_isub d_NO_possibleTie_6 ?_
  refine aw_top (fun y3 e => ?_)
  replace h := h _ e
  refine aw_istore_n d_NO_possibleTie_7 (Nat.le_of_ble_eq_true rfl) ?_
  exact h
theorem en_NO_possibleTie {G : Gp} {d : Nat} {Q : Int32 → Mem → Prop} {x1 : Int32} {μ : Mem}
    (h : AW G (d + 1) M_NO_possibleTie Q 0 [some (.inr 1), some (.inl x1), none, none] [] μ) :
    Ct G (d + 1) M_NO_possibleTie [.inr 1, .inl x1] μ Q := ct_of (by decide) (Nat.le_of_ble_eq_true rfl) h
set_option maxRecDepth 100000 in
theorem vc_NO_possibleTie_8 {G : Gp} {d : Nat} {Q : Int32 → Mem → Prop} {x1 x2 : Int32} {μ : Mem}
    (h : (x2 < 0 → Q (-1 : Int32) μ) ∧ (¬ x2 < 0 → vp_in x2 60 ∧ ∀ y1 : Int32, y1 = (μ 7 (ix x2)) → vp_in y1 60 ∧ vp_in x1 60 ∧ (¬ (μ 6 (ix y1)) = (μ 6 (ix x1)) → AW G (d + 1) M_NO_possibleTie Q 8 [some (.inr 1), some (.inl x1), some (.inl (x2 + (-1 : Int32))), none] [] μ) ∧ ((μ 6 (ix y1)) = (μ 6 (ix x1)) → vp_in y1 60 ∧ vp_in x1 60 ∧ (¬ (μ 2 (ix y1)) = (μ 2 (ix x1)) → AW G (d + 1) M_NO_possibleTie Q 8 [some (.inr 1), some (.inl x1), some (.inl (x2 + (-1 : Int32))), none] [] μ) ∧ ((μ 2 (ix y1)) = (μ 2 (ix x1)) → Ct G d M_NO_isBefore [.inr 1, .inl y1, .inl x1] μ (fun r3 u2 => (r3 = 0 → AW G (d + 1) M_NO_possibleTie Q 8 [some (.inr 1), some (.inl x1), some (.inl (x2 + (-1 : Int32))), none] [] u2) ∧ (¬ r3 = 0 → vp_in y1 60 ∧ vp_in x1 60 ∧ (¬ (u2 3 (ix y1)) = (u2 3 (ix x1)) → Q (-1 : Int32) u2) ∧ ((u2 3 (ix y1)) = (u2 3 (ix x1)) → Q y1 u2))))))) :
    AW G (d + 1) M_NO_possibleTie Q 8 [some (.inr 1), some (.inl x1), some (.inl x2), none] [] μ := by
  refine aw_iload_n d_NO_possibleTie_8 rfl ?_
  refine aw_if_lt (tgt := 85) d_NO_possibleTie_9 (by decide) (fun q => ?_) (fun q => ?_)
  · replace h := h.1 q
    refine aw_iconst (v := (-1)) d_NO_possibleTie_85 (by decide) ?_
    exact aw_iret d_NO_possibleTie_86 rfl h
  · replace h := h.2 q
    refine aw_aload_n d_NO_possibleTie_12 rfl ?_
    refine aw_getR (t := 7) d_NO_possibleTie_13 lf_NO_27 rfl rfl ?_
    refine aw_iload_n d_NO_possibleTie_16 rfl ?_
    refine aw_iald d_NO_possibleTie_17 rfl h.1 ?_
    replace h := h.2
    refine aw_top (fun y1 e => ?_)
    replace h := h _ e
    refine aw_istore_n d_NO_possibleTie_18 (Nat.le_of_ble_eq_true rfl) ?_
    refine aw_aload_n d_NO_possibleTie_19 rfl ?_
    refine aw_getR (t := 6) d_NO_possibleTie_20 lf_NO_24 rfl rfl ?_
    refine aw_iload_n d_NO_possibleTie_23 rfl ?_
    refine aw_iald d_NO_possibleTie_24 rfl h.1 ?_
    replace h := h.2
    refine aw_aload_n d_NO_possibleTie_25 rfl ?_
    refine aw_getR (t := 6) d_NO_possibleTie_26 lf_NO_24 rfl rfl ?_
    refine aw_iload_n d_NO_possibleTie_29 rfl ?_
    refine aw_iald d_NO_possibleTie_30 rfl h.1 ?_
    replace h := h.2
    refine aw_icmp_ne (tgt := 79) d_NO_possibleTie_31 (by decide) (fun q => ?_) (fun q => ?_)
    · replace h := h.1 q
      refine aw_iinc (v := (-1)) d_NO_possibleTie_79 rfl (by decide) ?_
      refine aw_goto (tgt := 8) d_NO_possibleTie_82 (by decide) ?_
      refine aw_drop 3 ?_
      exact h
    · replace h := h.2 q
      refine aw_aload_n d_NO_possibleTie_34 rfl ?_
      refine aw_getR (t := 2) d_NO_possibleTie_35 lf_NO_9 rfl rfl ?_
      refine aw_iload_n d_NO_possibleTie_38 rfl ?_
      refine aw_iald d_NO_possibleTie_39 rfl h.1 ?_
      replace h := h.2
      refine aw_aload_n d_NO_possibleTie_40 rfl ?_
      refine aw_getR (t := 2) d_NO_possibleTie_41 lf_NO_9 rfl rfl ?_
      refine aw_iload_n d_NO_possibleTie_44 rfl ?_
      refine aw_iald d_NO_possibleTie_45 rfl h.1 ?_
      replace h := h.2
      refine aw_icmp_ne (tgt := 79) d_NO_possibleTie_46 (by decide) (fun q => ?_) (fun q => ?_)
      · replace h := h.1 q
        refine aw_iinc (v := (-1)) d_NO_possibleTie_79 rfl (by decide) ?_
        refine aw_goto (tgt := 8) d_NO_possibleTie_82 (by decide) ?_
        refine aw_drop 3 ?_
        exact h
      · replace h := h.2 q
        refine aw_aload_n d_NO_possibleTie_49 rfl ?_
        refine aw_iload_n d_NO_possibleTie_50 rfl ?_
        refine aw_iload_n d_NO_possibleTie_51 rfl ?_
        refine aw_callV (as := [.inl y1, .inl x1]) d_NO_possibleTie_52 lm_NO_37 rfl rfl (by decide) rfl (Nat.le_of_ble_eq_true rfl) rfl h (fun r3 u2 h => ?_)
        refine aw_if_eq (tgt := 79) d_NO_possibleTie_55 (by decide) (fun q => ?_) (fun q => ?_)
        · replace h := h.1 q
          refine aw_iinc (v := (-1)) d_NO_possibleTie_79 rfl (by decide) ?_
          refine aw_goto (tgt := 8) d_NO_possibleTie_82 (by decide) ?_
          refine aw_drop 3 ?_
          exact h
        · replace h := h.2 q
          refine aw_aload_n d_NO_possibleTie_58 rfl ?_
          refine aw_getR (t := 3) d_NO_possibleTie_59 lf_NO_15 rfl rfl ?_
          refine aw_iload_n d_NO_possibleTie_62 rfl ?_
          refine aw_iald d_NO_possibleTie_63 rfl h.1 ?_
          replace h := h.2
          refine aw_aload_n d_NO_possibleTie_64 rfl ?_
          refine aw_getR (t := 3) d_NO_possibleTie_65 lf_NO_15 rfl rfl ?_
          refine aw_iload_n d_NO_possibleTie_68 rfl ?_
          refine aw_iald d_NO_possibleTie_69 rfl h.1 ?_
          replace h := h.2
          refine aw_icmp_ne (tgt := 77) d_NO_possibleTie_70 (by decide) (fun q => ?_) (fun q => ?_)
          · replace h := h.1 q
            refine aw_iconst (v := (-1)) d_NO_possibleTie_77 (by decide) ?_
            exact aw_iret d_NO_possibleTie_78 rfl h
          · replace h := h.2 q
            refine aw_iload_n d_NO_possibleTie_73 rfl ?_
            refine aw_goto (tgt := 78) d_NO_possibleTie_74 (by decide) ?_
            exact aw_iret d_NO_possibleTie_78 rfl h
set_option maxRecDepth 100000 in
theorem vc_NO_tieOf_0 {G : Gp} {d : Nat} {Q : Int32 → Mem → Prop} {x1 : Int32} {μ : Mem}
    (h : Ct G d M_NO_markOf [.inr 1, .inl x1, .inl (0 : Int32)] μ (fun r2 u1 => (¬ r2 = (1 : Int32) → Q (-1 : Int32) u1) ∧ (r2 = (1 : Int32) → Ct G d M_NO_possibleTie [.inr 1, .inl x1] u1 (fun r4 u3 => Q r4 u3)))) :
    AW G (d + 1) M_NO_tieOf Q 0 [some (.inr 1), some (.inl x1)] [] μ := by
  refine aw_aload_n d_NO_tieOf_0 rfl ?_
  refine aw_iload_n d_NO_tieOf_1 rfl ?_
  refine aw_iconst (v := 0) d_NO_tieOf_2 (by decide) ?_
  refine aw_callV (as := [.inl x1, .inl (0 : Int32)]) d_NO_tieOf_3 lm_NO_45 rfl rfl (by decide) rfl (Nat.le_of_ble_eq_true rfl) rfl h (fun r2 u1 h => ?_)
  refine aw_iconst (v := 1) d_NO_tieOf_6 (by decide) ?_
  refine aw_icmp_ne (tgt := 18) d_NO_tieOf_7 (by decide) (fun q => ?_) (fun q => ?_)
  · replace h := h.1 q
    refine aw_iconst (v := (-1)) d_NO_tieOf_18 (by decide) ?_
    exact aw_iret d_NO_tieOf_19 rfl h
  · replace h := h.2 q
    refine aw_aload_n d_NO_tieOf_10 rfl ?_
    refine aw_iload_n d_NO_tieOf_11 rfl ?_
    refine aw_callV (as := [.inl x1]) d_NO_tieOf_12 lm_NO_49 rfl rfl (by decide) rfl (Nat.le_of_ble_eq_true rfl) rfl h (fun r4 u3 h => ?_)
    refine aw_goto (tgt := 19) d_NO_tieOf_15 (by decide) ?_
    exact aw_iret d_NO_tieOf_19 rfl h
theorem en_NO_tieOf {G : Gp} {d : Nat} {Q : Int32 → Mem → Prop} {x1 : Int32} {μ : Mem}
    (h : AW G (d + 1) M_NO_tieOf Q 0 [some (.inr 1), some (.inl x1)] [] μ) :
    Ct G (d + 1) M_NO_tieOf [.inr 1, .inl x1] μ Q := ct_of (by decide) (Nat.le_of_ble_eq_true rfl) h
set_option maxRecDepth 100000 in
theorem vc_NO_isBefore_0 {G : Gp} {d : Nat} {Q : Int32 → Mem → Prop} {x1 x2 : Int32} {μ : Mem}
    (h : vp_in x1 60 ∧ vp_in x2 60 ∧ ((μ 4 (ix x1)) = (μ 4 (ix x2)) → vp_in x1 60 ∧ vp_in x2 60 ∧ ((μ 5 (ix x2)) ≤ (μ 5 (ix x1)) → Q (0 : Int32) μ) ∧ (¬ (μ 5 (ix x2)) ≤ (μ 5 (ix x1)) → Q (1 : Int32) μ)) ∧ (¬ (μ 4 (ix x1)) = (μ 4 (ix x2)) → vp_in x1 60 ∧ vp_in x2 60 ∧ ((μ 4 (ix x2)) ≤ (μ 4 (ix x1)) → Q (0 : Int32) μ) ∧ (¬ (μ 4 (ix x2)) ≤ (μ 4 (ix x1)) → Q (1 : Int32) μ))) :
    AW G d M_NO_isBefore Q 0 [some (.inr 1), some (.inl x1), some (.inl x2)] [] μ := by
  refine aw_aload_n d_NO_isBefore_0 rfl ?_
  refine aw_getR (t := 4) d_NO_isBefore_1 lf_NO_18 rfl rfl ?_
  refine aw_iload_n d_NO_isBefore_4 rfl ?_
  refine aw_iald d_NO_isBefore_5 rfl h.1 ?_
  replace h := h.2
  refine aw_aload_n d_NO_isBefore_6 rfl ?_
  refine aw_getR (t := 4) d_NO_isBefore_7 lf_NO_18 rfl rfl ?_
  refine aw_iload_n d_NO_isBefore_10 rfl ?_
  refine aw_iald d_NO_isBefore_11 rfl h.1 ?_
  replace h := h.2
  refine aw_icmp_eq (tgt := 36) d_NO_isBefore_12 (by decide) (fun q => ?_) (fun q => ?_)
  · replace h := h.1 q
    refine aw_aload_n d_NO_isBefore_36 rfl ?_
    refine aw_getR (t := 5) d_NO_isBefore_37 lf_NO_21 rfl rfl ?_
    refine aw_iload_n d_NO_isBefore_40 rfl ?_
    refine aw_iald d_NO_isBefore_41 rfl h.1 ?_
    replace h := h.2
    refine aw_aload_n d_NO_isBefore_42 rfl ?_
    refine aw_getR (t := 5) d_NO_isBefore_43 lf_NO_21 rfl rfl ?_
    refine aw_iload_n d_NO_isBefore_46 rfl ?_
    refine aw_iald d_NO_isBefore_47 rfl h.1 ?_
    replace h := h.2
    refine aw_icmp_ge (tgt := 55) d_NO_isBefore_48 (by decide) (fun q => ?_) (fun q => ?_)
    · replace h := h.1 q
      refine aw_iconst (v := 0) d_NO_isBefore_55 (by decide) ?_
      exact aw_zret d_NO_isBefore_56 rfl (Or.inl rfl) h
    · replace h := h.2 q
      refine aw_iconst (v := 1) d_NO_isBefore_51 (by decide) ?_
      refine aw_goto (tgt := 56) d_NO_isBefore_52 (by decide) ?_
      exact aw_zret d_NO_isBefore_56 rfl (Or.inr rfl) h
  · replace h := h.2 q
    refine aw_aload_n d_NO_isBefore_15 rfl ?_
    refine aw_getR (t := 4) d_NO_isBefore_16 lf_NO_18 rfl rfl ?_
    refine aw_iload_n d_NO_isBefore_19 rfl ?_
    refine aw_iald d_NO_isBefore_20 rfl h.1 ?_
    replace h := h.2
    refine aw_aload_n d_NO_isBefore_21 rfl ?_
    refine aw_getR (t := 4) d_NO_isBefore_22 lf_NO_18 rfl rfl ?_
    refine aw_iload_n d_NO_isBefore_25 rfl ?_
    refine aw_iald d_NO_isBefore_26 rfl h.1 ?_
    replace h := h.2
    refine aw_icmp_ge (tgt := 34) d_NO_isBefore_27 (by decide) (fun q => ?_) (fun q => ?_)
    · replace h := h.1 q
      refine aw_iconst (v := 0) d_NO_isBefore_34 (by decide) ?_
      exact aw_zret d_NO_isBefore_35 rfl (Or.inl rfl) h
    · replace h := h.2 q
      refine aw_iconst (v := 1) d_NO_isBefore_30 (by decide) ?_
      refine aw_goto (tgt := 35) d_NO_isBefore_31 (by decide) ?_
      exact aw_zret d_NO_isBefore_35 rfl (Or.inr rfl) h
theorem en_NO_isBefore {G : Gp} {d : Nat} {Q : Int32 → Mem → Prop} {x1 x2 : Int32} {μ : Mem}
    (h : AW G d M_NO_isBefore Q 0 [some (.inr 1), some (.inl x1), some (.inl x2)] [] μ) :
    Ct G d M_NO_isBefore [.inr 1, .inl x1, .inl x2] μ Q := ct_of (by decide) (Nat.le_of_ble_eq_true rfl) h
set_option maxRecDepth 100000 in
theorem vc_NO_shareChord_0 {G : Gp} {d : Nat} {Q : Int32 → Mem → Prop} {x1 x2 : Int32} {μ : Mem}
    (h : vp_in x1 60 ∧ vp_in x2 60 ∧ (¬ (μ 4 (ix x1)) = (μ 4 (ix x2)) → Q (0 : Int32) μ) ∧ ((μ 4 (ix x1)) = (μ 4 (ix x2)) → vp_in x1 60 ∧ vp_in x2 60 ∧ (¬ (μ 5 (ix x1)) = (μ 5 (ix x2)) → Q (0 : Int32) μ) ∧ ((μ 5 (ix x1)) = (μ 5 (ix x2)) → Q (1 : Int32) μ))) :
    AW G d M_NO_shareChord Q 0 [some (.inr 1), some (.inl x1), some (.inl x2)] [] μ := by
  refine aw_aload_n d_NO_shareChord_0 rfl ?_
  refine aw_getR (t := 4) d_NO_shareChord_1 lf_NO_18 rfl rfl ?_
  refine aw_iload_n d_NO_shareChord_4 rfl ?_
  refine aw_iald d_NO_shareChord_5 rfl h.1 ?_
  replace h := h.2
  refine aw_aload_n d_NO_shareChord_6 rfl ?_
  refine aw_getR (t := 4) d_NO_shareChord_7 lf_NO_18 rfl rfl ?_
  refine aw_iload_n d_NO_shareChord_10 rfl ?_
  refine aw_iald d_NO_shareChord_11 rfl h.1 ?_
  replace h := h.2
  refine aw_icmp_ne (tgt := 34) d_NO_shareChord_12 (by decide) (fun q => ?_) (fun q => ?_)
  · replace h := h.1 q
    refine aw_iconst (v := 0) d_NO_shareChord_34 (by decide) ?_
    exact aw_zret d_NO_shareChord_35 rfl (Or.inl rfl) h
  · replace h := h.2 q
    refine aw_aload_n d_NO_shareChord_15 rfl ?_
    refine aw_getR (t := 5) d_NO_shareChord_16 lf_NO_21 rfl rfl ?_
    refine aw_iload_n d_NO_shareChord_19 rfl ?_
    refine aw_iald d_NO_shareChord_20 rfl h.1 ?_
    replace h := h.2
    refine aw_aload_n d_NO_shareChord_21 rfl ?_
    refine aw_getR (t := 5) d_NO_shareChord_22 lf_NO_21 rfl rfl ?_
    refine aw_iload_n d_NO_shareChord_25 rfl ?_
    refine aw_iald d_NO_shareChord_26 rfl h.1 ?_
    replace h := h.2
    refine aw_icmp_ne (tgt := 34) d_NO_shareChord_27 (by decide) (fun q => ?_) (fun q => ?_)
    · replace h := h.1 q
      refine aw_iconst (v := 0) d_NO_shareChord_34 (by decide) ?_
      exact aw_zret d_NO_shareChord_35 rfl (Or.inl rfl) h
    · replace h := h.2 q
      refine aw_iconst (v := 1) d_NO_shareChord_30 (by decide) ?_
      refine aw_goto (tgt := 35) d_NO_shareChord_31 (by decide) ?_
      exact aw_zret d_NO_shareChord_35 rfl (Or.inr rfl) h
theorem en_NO_shareChord {G : Gp} {d : Nat} {Q : Int32 → Mem → Prop} {x1 x2 : Int32} {μ : Mem}
    (h : AW G d M_NO_shareChord Q 0 [some (.inr 1), some (.inl x1), some (.inl x2)] [] μ) :
    Ct G d M_NO_shareChord [.inr 1, .inl x1, .inl x2] μ Q := ct_of (by decide) (Nat.le_of_ble_eq_true rfl) h
set_option maxRecDepth 100000 in
theorem vc_NO_positionOf_0 {G : Gp} {d : Nat} {Q : Int32 → Mem → Prop} {x1 : Int32} {μ : Mem}
    (h : AW G d M_NO_positionOf Q 2 [some (.inr 1), some (.inl x1), some (.inl (0 : Int32))] [] μ) :
    AW G d M_NO_positionOf Q 0 [some (.inr 1), some (.inl x1), none] [] μ := by
  refine aw_iconst (v := 0) d_NO_positionOf_0 (by decide) ?_
  refine aw_istore_n d_NO_positionOf_1 (Nat.le_of_ble_eq_true rfl) ?_
  exact h
theorem en_NO_positionOf {G : Gp} {d : Nat} {Q : Int32 → Mem → Prop} {x1 : Int32} {μ : Mem}
    (h : AW G d M_NO_positionOf Q 0 [some (.inr 1), some (.inl x1), none] [] μ) :
    Ct G d M_NO_positionOf [.inr 1, .inl x1] μ Q := ct_of (by decide) (Nat.le_of_ble_eq_true rfl) h
set_option maxRecDepth 100000 in
theorem vc_NO_positionOf_2 {G : Gp} {d : Nat} {Q : Int32 → Mem → Prop} {x1 x2 : Int32} {μ : Mem}
    (h : ((μ 1 7) ≤ x2 → Q (μ 1 7) μ) ∧ (¬ (μ 1 7) ≤ x2 → vp_in x2 60 ∧ (¬ (μ 7 (ix x2)) = x1 → AW G d M_NO_positionOf Q 2 [some (.inr 1), some (.inl x1), some (.inl (x2 + (1 : Int32)))] [] μ) ∧ ((μ 7 (ix x2)) = x1 → Q x2 μ))) :
    AW G d M_NO_positionOf Q 2 [some (.inr 1), some (.inl x1), some (.inl x2)] [] μ := by
  refine aw_iload_n d_NO_positionOf_2 rfl ?_
  refine aw_aload_n d_NO_positionOf_3 rfl ?_
  refine aw_getI d_NO_positionOf_4 lf_NO_33 rfl rfl ?_
  refine aw_icmp_ge (tgt := 28) d_NO_positionOf_7 (by decide) (fun q => ?_) (fun q => ?_)
  · replace h := h.1 q
    refine aw_aload_n d_NO_positionOf_28 rfl ?_
    refine aw_getI d_NO_positionOf_29 lf_NO_33 rfl rfl ?_
    exact aw_iret d_NO_positionOf_32 rfl h
  · replace h := h.2 q
    refine aw_aload_n d_NO_positionOf_10 rfl ?_
    refine aw_getR (t := 7) d_NO_positionOf_11 lf_NO_27 rfl rfl ?_
    refine aw_iload_n d_NO_positionOf_14 rfl ?_
    refine aw_iald d_NO_positionOf_15 rfl h.1 ?_
    replace h := h.2
    refine aw_iload_n d_NO_positionOf_16 rfl ?_
    refine aw_icmp_ne (tgt := 22) d_NO_positionOf_17 (by decide) (fun q => ?_) (fun q => ?_)
    · replace h := h.1 q
      refine aw_iinc (v := 1) d_NO_positionOf_22 rfl (by decide) ?_
      refine aw_goto (tgt := 2) d_NO_positionOf_25 (by decide) ?_
      exact h
    · replace h := h.2 q
      refine aw_iload_n d_NO_positionOf_20 rfl ?_
      exact aw_iret d_NO_positionOf_21 rfl h
set_option maxRecDepth 100000 in
theorem vc_NO_beginsChord_0 {G : Gp} {d : Nat} {Q : Int32 → Mem → Prop} {x1 : Int32} {μ : Mem}
    (h : (x1 = 0 → Q (1 : Int32) μ) ∧ (¬ x1 = 0 → vp_in (x1 - (1 : Int32)) 60 ∧ vp_in x1 60 ∧ Ct G d M_NO_shareChord [.inr 1, .inl (μ 7 (ix (x1 - (1 : Int32)))), .inl (μ 7 (ix x1))] μ (fun r2 u1 => (¬ r2 = 0 → Q (0 : Int32) u1) ∧ (r2 = 0 → Q (1 : Int32) u1)))) :
    AW G (d + 1) M_NO_beginsChord Q 0 [some (.inr 1), some (.inl x1)] [] μ := by
  refine aw_iload_n d_NO_beginsChord_0 rfl ?_
  refine aw_if_eq (tgt := 25) d_NO_beginsChord_1 (by decide) (fun q => ?_) (fun q => ?_)
  · replace h := h.1 q
    refine aw_iconst (v := 1) d_NO_beginsChord_25 (by decide) ?_
    refine aw_goto (tgt := 30) d_NO_beginsChord_26 (by decide) ?_
    exact aw_zret d_NO_beginsChord_30 rfl (Or.inr rfl) h
  · replace h := h.2 q
    refine aw_aload_n d_NO_beginsChord_4 rfl ?_
    refine aw_aload_n d_NO_beginsChord_5 rfl ?_
    refine aw_getR (t := 7) d_NO_beginsChord_6 lf_NO_27 rfl rfl ?_
    refine aw_iload_n d_NO_beginsChord_9 rfl ?_
    refine aw_iconst (v := 1) d_NO_beginsChord_10 (by decide) ?_
    refine aw_isub d_NO_beginsChord_11 ?_
    refine aw_iald d_NO_beginsChord_12 rfl h.1 ?_
    replace h := h.2
    refine aw_aload_n d_NO_beginsChord_13 rfl ?_
    refine aw_getR (t := 7) d_NO_beginsChord_14 lf_NO_27 rfl rfl ?_
    refine aw_iload_n d_NO_beginsChord_17 rfl ?_
    refine aw_iald d_NO_beginsChord_18 rfl h.1 ?_
    replace h := h.2
    refine aw_callV (as := [.inl (μ 7 (ix (x1 - (1 : Int32)))), .inl (μ 7 (ix x1))]) d_NO_beginsChord_19 lm_NO_52 rfl rfl (by decide) rfl (Nat.le_of_ble_eq_true rfl) rfl h (fun r2 u1 h => ?_)
    refine aw_if_ne (tgt := 29) d_NO_beginsChord_22 (by decide) (fun q => ?_) (fun q => ?_)
    · replace h := h.1 q
      refine aw_iconst (v := 0) d_NO_beginsChord_29 (by decide) ?_
      exact aw_zret d_NO_beginsChord_30 rfl (Or.inl rfl) h
    · replace h := h.2 q
      refine aw_iconst (v := 1) d_NO_beginsChord_25 (by decide) ?_
      refine aw_goto (tgt := 30) d_NO_beginsChord_26 (by decide) ?_
      exact aw_zret d_NO_beginsChord_30 rfl (Or.inr rfl) h
theorem en_NO_beginsChord {G : Gp} {d : Nat} {Q : Int32 → Mem → Prop} {x1 : Int32} {μ : Mem}
    (h : AW G (d + 1) M_NO_beginsChord Q 0 [some (.inr 1), some (.inl x1)] [] μ) :
    Ct G (d + 1) M_NO_beginsChord [.inr 1, .inl x1] μ Q := ct_of (by decide) (Nat.le_of_ble_eq_true rfl) h
set_option maxRecDepth 100000 in
theorem vc_NO_chordEnd_0 {G : Gp} {d : Nat} {Q : Int32 → Mem → Prop} {x1 : Int32} {μ : Mem}
    (h : AW G (d + 1) M_NO_chordEnd Q 2 [some (.inr 1), some (.inl x1), some (.inl x1)] [] μ) :
    AW G (d + 1) M_NO_chordEnd Q 0 [some (.inr 1), some (.inl x1), none] [] μ := by
  refine aw_iload_n d_NO_chordEnd_0 rfl ?_
  refine aw_istore_n d_NO_chordEnd_1 (Nat.le_of_ble_eq_true rfl) ?_
  exact h
theorem en_NO_chordEnd {G : Gp} {d : Nat} {Q : Int32 → Mem → Prop} {x1 : Int32} {μ : Mem}
    (h : AW G (d + 1) M_NO_chordEnd Q 0 [some (.inr 1), some (.inl x1), none] [] μ) :
    Ct G (d + 1) M_NO_chordEnd [.inr 1, .inl x1] μ Q := ct_of (by decide) (Nat.le_of_ble_eq_true rfl) h
set_option maxRecDepth 100000 in
theorem vc_NO_chordEnd_2 {G : Gp} {d : Nat} {Q : Int32 → Mem → Prop} {x1 x2 : Int32} {μ : Mem}
    (h : ((μ 1 7) ≤ x2 → Q (μ 1 7) μ) ∧ (¬ (μ 1 7) ≤ x2 → vp_in x1 60 ∧ vp_in x2 60 ∧ Ct G d M_NO_shareChord [.inr 1, .inl (μ 7 (ix x1)), .inl (μ 7 (ix x2))] μ (fun r2 u1 => (¬ r2 = 0 → AW G (d + 1) M_NO_chordEnd Q 2 [some (.inr 1), some (.inl x1), some (.inl (x2 + (1 : Int32)))] [] u1) ∧ (r2 = 0 → Q x2 u1)))) :
    AW G (d + 1) M_NO_chordEnd Q 2 [some (.inr 1), some (.inl x1), some (.inl x2)] [] μ := by
  refine aw_iload_n d_NO_chordEnd_2 rfl ?_
  refine aw_aload_n d_NO_chordEnd_3 rfl ?_
  refine aw_getI d_NO_chordEnd_4 lf_NO_33 rfl rfl ?_
  refine aw_icmp_ge (tgt := 37) d_NO_chordEnd_7 (by decide) (fun q => ?_) (fun q => ?_)
  · replace h := h.1 q
    refine aw_aload_n d_NO_chordEnd_37 rfl ?_
    refine aw_getI d_NO_chordEnd_38 lf_NO_33 rfl rfl ?_
    exact aw_iret d_NO_chordEnd_41 rfl h
  · replace h := h.2 q
    refine aw_aload_n d_NO_chordEnd_10 rfl ?_
    refine aw_aload_n d_NO_chordEnd_11 rfl ?_
    refine aw_getR (t := 7) d_NO_chordEnd_12 lf_NO_27 rfl rfl ?_
    refine aw_iload_n d_NO_chordEnd_15 rfl ?_
    refine aw_iald d_NO_chordEnd_16 rfl h.1 ?_
    replace h := h.2
    refine aw_aload_n d_NO_chordEnd_17 rfl ?_
    refine aw_getR (t := 7) d_NO_chordEnd_18 lf_NO_27 rfl rfl ?_
    refine aw_iload_n d_NO_chordEnd_21 rfl ?_
    refine aw_iald d_NO_chordEnd_22 rfl h.1 ?_
    replace h := h.2
    refine aw_callV (as := [.inl (μ 7 (ix x1)), .inl (μ 7 (ix x2))]) d_NO_chordEnd_23 lm_NO_52 rfl rfl (by decide) rfl (Nat.le_of_ble_eq_true rfl) rfl h (fun r2 u1 h => ?_)
    refine aw_if_ne (tgt := 31) d_NO_chordEnd_26 (by decide) (fun q => ?_) (fun q => ?_)
    · replace h := h.1 q
      refine aw_iinc (v := 1) d_NO_chordEnd_31 rfl (by decide) ?_
      refine aw_goto (tgt := 2) d_NO_chordEnd_34 (by decide) ?_
      exact h
    · replace h := h.2 q
      refine aw_iload_n d_NO_chordEnd_29 rfl ?_
      exact aw_iret d_NO_chordEnd_30 rfl h
set_option maxRecDepth 100000 in
theorem vc_NO_chordStart_0 {G : Gp} {d : Nat} {Q : Int32 → Mem → Prop} {x1 : Int32} {μ : Mem}
    (h : vp_in x1 60 ∧ vp_in x1 60 ∧ Ct G d M_NO_chordAt [.inr 1, .inl (μ 4 (ix x1)), .inl (μ 5 (ix x1))] μ (fun r2 u1 => Q r2 u1)) :
    AW G (d + 1) M_NO_chordStart Q 0 [some (.inr 1), some (.inl x1)] [] μ := by
  refine aw_aload_n d_NO_chordStart_0 rfl ?_
  refine aw_aload_n d_NO_chordStart_1 rfl ?_
  refine aw_getR (t := 4) d_NO_chordStart_2 lf_NO_18 rfl rfl ?_
  refine aw_iload_n d_NO_chordStart_5 rfl ?_
  refine aw_iald d_NO_chordStart_6 rfl h.1 ?_
  replace h := h.2
  refine aw_aload_n d_NO_chordStart_7 rfl ?_
  refine aw_getR (t := 5) d_NO_chordStart_8 lf_NO_21 rfl rfl ?_
  refine aw_iload_n d_NO_chordStart_11 rfl ?_
  refine aw_iald d_NO_chordStart_12 rfl h.1 ?_
  replace h := h.2
  refine aw_callV (as := [.inl (μ 4 (ix x1)), .inl (μ 5 (ix x1))]) d_NO_chordStart_13 lm_NO_55 rfl rfl (by decide) rfl (Nat.le_of_ble_eq_true rfl) rfl h (fun r2 u1 h => ?_)
  exact aw_iret d_NO_chordStart_16 rfl h
theorem en_NO_chordStart {G : Gp} {d : Nat} {Q : Int32 → Mem → Prop} {x1 : Int32} {μ : Mem}
    (h : AW G (d + 1) M_NO_chordStart Q 0 [some (.inr 1), some (.inl x1)] [] μ) :
    Ct G (d + 1) M_NO_chordStart [.inr 1, .inl x1] μ Q := ct_of (by decide) (Nat.le_of_ble_eq_true rfl) h
set_option maxRecDepth 100000 in
theorem vc_NO_chordAt_0 {G : Gp} {d : Nat} {Q : Int32 → Mem → Prop} {x1 x2 : Int32} {μ : Mem}
    (h : AW G d M_NO_chordAt Q 2 [some (.inr 1), some (.inl x1), some (.inl x2), some (.inl (0 : Int32))] [] μ) :
    AW G d M_NO_chordAt Q 0 [some (.inr 1), some (.inl x1), some (.inl x2), none] [] μ := by
  refine aw_iconst (v := 0) d_NO_chordAt_0 (by decide) ?_
  refine aw_istore_n d_NO_chordAt_1 (Nat.le_of_ble_eq_true rfl) ?_
  exact h
theorem en_NO_chordAt {G : Gp} {d : Nat} {Q : Int32 → Mem → Prop} {x1 x2 : Int32} {μ : Mem}
    (h : AW G d M_NO_chordAt Q 0 [some (.inr 1), some (.inl x1), some (.inl x2), none] [] μ) :
    Ct G d M_NO_chordAt [.inr 1, .inl x1, .inl x2] μ Q := ct_of (by decide) (Nat.le_of_ble_eq_true rfl) h
set_option maxRecDepth 100000 in
theorem vc_NO_chordAt_2 {G : Gp} {d : Nat} {Q : Int32 → Mem → Prop} {x1 x2 x3 : Int32} {μ : Mem}
    (h : ((μ 1 7) ≤ x3 → Q (-1 : Int32) μ) ∧ (¬ (μ 1 7) ≤ x3 → vp_in x3 60 ∧ vp_in (μ 7 (ix x3)) 60 ∧ (¬ (μ 4 (ix (μ 7 (ix x3)))) = x1 → AW G d M_NO_chordAt Q 2 [some (.inr 1), some (.inl x1), some (.inl x2), some (.inl (x3 + (1 : Int32)))] [] μ) ∧ ((μ 4 (ix (μ 7 (ix x3)))) = x1 → vp_in x3 60 ∧ vp_in (μ 7 (ix x3)) 60 ∧ (¬ (μ 5 (ix (μ 7 (ix x3)))) = x2 → AW G d M_NO_chordAt Q 2 [some (.inr 1), some (.inl x1), some (.inl x2), some (.inl (x3 + (1 : Int32)))] [] μ) ∧ ((μ 5 (ix (μ 7 (ix x3)))) = x2 → Q x3 μ)))) :
    AW G d M_NO_chordAt Q 2 [some (.inr 1), some (.inl x1), some (.inl x2), some (.inl x3)] [] μ := by
  refine aw_iload_n d_NO_chordAt_2 rfl ?_
  refine aw_aload_n d_NO_chordAt_3 rfl ?_
  refine aw_getI d_NO_chordAt_4 lf_NO_33 rfl rfl ?_
  refine aw_icmp_ge (tgt := 48) d_NO_chordAt_7 (by decide) (fun q => ?_) (fun q => ?_)
  · replace h := h.1 q
    refine aw_iconst (v := (-1)) d_NO_chordAt_48 (by decide) ?_
    exact aw_iret d_NO_chordAt_49 rfl h
  · replace h := h.2 q
    refine aw_aload_n d_NO_chordAt_10 rfl ?_
    refine aw_getR (t := 4) d_NO_chordAt_11 lf_NO_18 rfl rfl ?_
    refine aw_aload_n d_NO_chordAt_14 rfl ?_
    refine aw_getR (t := 7) d_NO_chordAt_15 lf_NO_27 rfl rfl ?_
    refine aw_iload_n d_NO_chordAt_18 rfl ?_
    refine aw_iald d_NO_chordAt_19 rfl h.1 ?_
    replace h := h.2
    refine aw_iald d_NO_chordAt_20 rfl h.1 ?_
    replace h := h.2
    refine aw_iload_n d_NO_chordAt_21 rfl ?_
    refine aw_icmp_ne (tgt := 42) d_NO_chordAt_22 (by decide) (fun q => ?_) (fun q => ?_)
    · replace h := h.1 q
      refine aw_iinc (v := 1) d_NO_chordAt_42 rfl (by decide) ?_
      refine aw_goto (tgt := 2) d_NO_chordAt_45 (by decide) ?_
      exact h
    · replace h := h.2 q
      refine aw_aload_n d_NO_chordAt_25 rfl ?_
      refine aw_getR (t := 5) d_NO_chordAt_26 lf_NO_21 rfl rfl ?_
      refine aw_aload_n d_NO_chordAt_29 rfl ?_
      refine aw_getR (t := 7) d_NO_chordAt_30 lf_NO_27 rfl rfl ?_
      refine aw_iload_n d_NO_chordAt_33 rfl ?_
      refine aw_iald d_NO_chordAt_34 rfl h.1 ?_
      replace h := h.2
      refine aw_iald d_NO_chordAt_35 rfl h.1 ?_
      replace h := h.2
      refine aw_iload_n d_NO_chordAt_36 rfl ?_
      refine aw_icmp_ne (tgt := 42) d_NO_chordAt_37 (by decide) (fun q => ?_) (fun q => ?_)
      · replace h := h.1 q
        refine aw_iinc (v := 1) d_NO_chordAt_42 rfl (by decide) ?_
        refine aw_goto (tgt := 2) d_NO_chordAt_45 (by decide) ?_
        exact h
      · replace h := h.2 q
        refine aw_iload_n d_NO_chordAt_40 rfl ?_
        exact aw_iret d_NO_chordAt_41 rfl h
set_option maxRecDepth 100000 in
theorem vc_NO_howManyChords_0 {G : Gp} {d : Nat} {Q : Int32 → Mem → Prop} {μ : Mem}
    (h : AW G (d + 1) M_NO_howManyChords Q 4 [some (.inr 1), some (.inl (0 : Int32)), some (.inl (0 : Int32))] [] μ) :
    AW G (d + 1) M_NO_howManyChords Q 0 [some (.inr 1), none, none] [] μ := by
  refine aw_iconst (v := 0) d_NO_howManyChords_0 (by decide) ?_
  refine aw_istore_n d_NO_howManyChords_1 (Nat.le_of_ble_eq_true rfl) ?_
  refine aw_iconst (v := 0) d_NO_howManyChords_2 (by decide) ?_
  refine aw_istore_n d_NO_howManyChords_3 (Nat.le_of_ble_eq_true rfl) ?_
  exact h
theorem en_NO_howManyChords {G : Gp} {d : Nat} {Q : Int32 → Mem → Prop} {μ : Mem}
    (h : AW G (d + 1) M_NO_howManyChords Q 0 [some (.inr 1), none, none] [] μ) :
    Ct G (d + 1) M_NO_howManyChords [.inr 1] μ Q := ct_of (by decide) (Nat.le_of_ble_eq_true rfl) h
set_option maxRecDepth 100000 in
theorem vc_NO_howManyChords_4 {G : Gp} {d : Nat} {Q : Int32 → Mem → Prop} {x1 x2 : Int32} {μ : Mem}
    (h : ((μ 1 7) ≤ x2 → Q x1 μ) ∧ (¬ (μ 1 7) ≤ x2 → Ct G d M_NO_beginsChord [.inr 1, .inl x2] μ (fun r2 u1 => (r2 = 0 → AW G (d + 1) M_NO_howManyChords Q 4 [some (.inr 1), some (.inl x1), some (.inl (x2 + (1 : Int32)))] [] u1) ∧ (¬ r2 = 0 → AW G (d + 1) M_NO_howManyChords Q 4 [some (.inr 1), some (.inl (x1 + (1 : Int32))), some (.inl (x2 + (1 : Int32)))] [] u1)))) :
    AW G (d + 1) M_NO_howManyChords Q 4 [some (.inr 1), some (.inl x1), some (.inl x2)] [] μ := by
  refine aw_iload_n d_NO_howManyChords_4 rfl ?_
  refine aw_aload_n d_NO_howManyChords_5 rfl ?_
  refine aw_getI d_NO_howManyChords_6 lf_NO_33 rfl rfl ?_
  refine aw_icmp_ge (tgt := 29) d_NO_howManyChords_9 (by decide) (fun q => ?_) (fun q => ?_)
  · replace h := h.1 q
    refine aw_iload_n d_NO_howManyChords_29 rfl ?_
    exact aw_iret d_NO_howManyChords_30 rfl h
  · replace h := h.2 q
    refine aw_aload_n d_NO_howManyChords_12 rfl ?_
    refine aw_iload_n d_NO_howManyChords_13 rfl ?_
    refine aw_callV (as := [.inl x2]) d_NO_howManyChords_14 lm_NO_58 rfl rfl (by decide) rfl (Nat.le_of_ble_eq_true rfl) rfl h (fun r2 u1 h => ?_)
    refine aw_if_eq (tgt := 23) d_NO_howManyChords_17 (by decide) (fun q => ?_) (fun q => ?_)
    · replace h := h.1 q
      refine aw_iinc (v := 1) d_NO_howManyChords_23 rfl (by decide) ?_
      refine aw_goto (tgt := 4) d_NO_howManyChords_26 (by decide) ?_
      exact h
    · replace h := h.2 q
      refine aw_iinc (v := 1) d_NO_howManyChords_20 rfl (by decide) ?_
      refine aw_iinc (v := 1) d_NO_howManyChords_23 rfl (by decide) ?_
      refine aw_goto (tgt := 4) d_NO_howManyChords_26 (by decide) ?_
      exact h
