/-! verification conditions, by program -/
set_option maxRecDepth 100000 in
theorem vc_BB_at_k_0 {G : Gp} {d : Nat} {Q : Int32 → Mem → Prop} {x1 : Int32} {μ : Mem}
    (h : vp_in x1 20 ∧ Q (μ 10 (ix x1)) μ) :
    AW G d M_BB_at Q 0 [some (.inr 9), some (.inl x1)] [] μ := by
  refine aw_aload_n d_BB_at_0 rfl ?_
  refine aw_getR (t := 10) d_BB_at_1 lf_BB_9 rfl rfl ?_
  refine aw_iload_n d_BB_at_4 rfl ?_
  refine aw_iald d_BB_at_5 rfl h.1 ?_
  replace h := h.2
  exact aw_iret d_BB_at_6 rfl h
theorem en_BB_at_k {G : Gp} {d : Nat} {Q : Int32 → Mem → Prop} {x1 : Int32} {μ : Mem}
    (h : AW G d M_BB_at Q 0 [some (.inr 9), some (.inl x1)] [] μ) :
    Ct G d M_BB_at [.inr 9, .inl x1] μ Q := ct_of (by decide) (Nat.le_of_ble_eq_true rfl) h
set_option maxRecDepth 100000 in
theorem vc_BB_at_c_0 {G : Gp} {d : Nat} {Q : Int32 → Mem → Prop} {x1 : Int32} {μ : Mem}
    (h : vp_in x1 20 ∧ Q (μ 13 (ix x1)) μ) :
    AW G d M_BB_at Q 0 [some (.inr 12), some (.inl x1)] [] μ := by
  refine aw_aload_n d_BB_at_0 rfl ?_
  refine aw_getR (t := 13) d_BB_at_1 lf_BB_9 rfl rfl ?_
  refine aw_iload_n d_BB_at_4 rfl ?_
  refine aw_iald d_BB_at_5 rfl h.1 ?_
  replace h := h.2
  exact aw_iret d_BB_at_6 rfl h
theorem en_BB_at_c {G : Gp} {d : Nat} {Q : Int32 → Mem → Prop} {x1 : Int32} {μ : Mem}
    (h : AW G d M_BB_at Q 0 [some (.inr 12), some (.inl x1)] [] μ) :
    Ct G d M_BB_at [.inr 12, .inl x1] μ Q := ct_of (by decide) (Nat.le_of_ble_eq_true rfl) h
set_option maxRecDepth 100000 in
theorem vc_BB_tell_k_0 {G : Gp} {d : Nat} {Q : Int32 → Mem → Prop} {x1 x2 : Int32} {μ : Mem}
    (h : vp_in x1 20 ∧ ∀ y1 : Int32, y1 = (μ 10 (ix x1)) → vp_in x1 20 ∧ ∀ u2 : Mem, u2 = up μ 11 (ix x1) (1 : Int32) → vp_in x1 20 ∧ ∀ u3 : Mem, u3 = up u2 10 (ix x1) x2 → ∀ y4 : Int32, y4 = (x1 + (1 : Int32)) → AW G d M_BB_tell Q 26 [some (.inr 9), none, some (.inl x2), some (.inl y1), some (.inl y4)] [] u3) :
    AW G d M_BB_tell Q 0 [some (.inr 9), some (.inl x1), some (.inl x2), none, none] [] μ := by
  refine aw_aload_n d_BB_tell_0 rfl ?_
  refine aw_getR (t := 10) d_BB_tell_1 lf_BB_9 rfl rfl ?_
  refine aw_iload_n d_BB_tell_4 rfl ?_
  refine aw_iald d_BB_tell_5 rfl h.1 ?_
  replace h := h.2
  refine aw_top (fun y1 e => ?_)
  replace h := h _ e
  refine aw_istore_n d_BB_tell_6 (Nat.le_of_ble_eq_true rfl) ?_
  refine aw_aload_n d_BB_tell_7 rfl ?_
  refine aw_getR (t := 11) d_BB_tell_8 lf_BB_15 rfl rfl ?_
  refine aw_iload_n d_BB_tell_11 rfl ?_
  refine aw_iconst (v := 1) d_BB_tell_12 (by decide) ?_
  refine aw_zast d_BB_tell_13 rfl h.1 (Or.inr rfl) ?_
  replace h := h.2
  refine aw_mem (fun u2 e => ?_)
  replace h := h _ e
  refine aw_aload_n d_BB_tell_14 rfl ?_
  refine aw_getR (t := 10) d_BB_tell_15 lf_BB_9 rfl rfl ?_
  refine aw_iload_n d_BB_tell_18 rfl ?_
  refine aw_iload_n d_BB_tell_19 rfl ?_
  refine aw_iast d_BB_tell_20 rfl h.1 ?_
  replace h := h.2
  refine aw_mem (fun u3 e => ?_)
  replace h := h _ e
  refine aw_iload_n d_BB_tell_21 rfl ?_
  refine aw_iconst (v := 1) d_BB_tell_22 (by decide) ?_
  refine aw_iadd d_BB_tell_23 ?_
  refine aw_top (fun y4 e => ?_)
  replace h := h _ e
  refine aw_istore d_BB_tell_24 (Nat.le_of_ble_eq_true rfl) ?_
  refine aw_drop 1 ?_
  exact h
theorem en_BB_tell_k {G : Gp} {d : Nat} {Q : Int32 → Mem → Prop} {x1 x2 : Int32} {μ : Mem}
    (h : AW G d M_BB_tell Q 0 [some (.inr 9), some (.inl x1), some (.inl x2), none, none] [] μ) :
    Ct G d M_BB_tell [.inr 9, .inl x1, .inl x2] μ Q := ct_of (by decide) (Nat.le_of_ble_eq_true rfl) h
set_option maxRecDepth 100000 in
theorem vc_BB_tell_k_26 {G : Gp} {d : Nat} {Q : Int32 → Mem → Prop} {x2 x3 x4 : Int32} {μ : Mem}
    (h : ((20 : Int32) ≤ x4 → Q x3 μ) ∧ (¬ (20 : Int32) ≤ x4 → vp_in x4 20 ∧ (¬ (μ 11 (ix x4)) = 0 → Q x3 μ) ∧ ((μ 11 (ix x4)) = 0 → vp_in x4 20 ∧ ∀ u1 : Mem, u1 = up μ 10 (ix x4) x2 → AW G d M_BB_tell Q 26 [some (.inr 9), none, some (.inl x2), some (.inl x3), some (.inl (x4 + (1 : Int32)))] [] u1))) :
    AW G d M_BB_tell Q 26 [some (.inr 9), none, some (.inl x2), some (.inl x3), some (.inl x4)] [] μ := by
  refine aw_iload d_BB_tell_26 rfl ?_
  refine aw_bipush (v := 20) d_BB_tell_28 (by decide) ?_
  refine aw_icmp_ge (tgt := 57) d_BB_tell_30 (by decide) (fun q => ?_) (fun q => ?_)
  · replace h := h.1 q
    refine aw_iload_n d_BB_tell_57 rfl ?_
    exact aw_iret d_BB_tell_58 rfl h
  · replace h := h.2 q
    refine aw_aload_n d_BB_tell_33 rfl ?_
    refine aw_getR (t := 11) d_BB_tell_34 lf_BB_15 rfl rfl ?_
    refine aw_iload d_BB_tell_37 rfl ?_
    refine aw_zald d_BB_tell_39 rfl h.1 ?_
    replace h := h.2
    refine aw_if_ne (tgt := 57) d_BB_tell_40 (by decide) (fun q => ?_) (fun q => ?_)
    · replace h := h.1 q
      refine aw_iload_n d_BB_tell_57 rfl ?_
      exact aw_iret d_BB_tell_58 rfl h
    · replace h := h.2 q
      refine aw_aload_n d_BB_tell_43 rfl ?_
      refine aw_getR (t := 10) d_BB_tell_44 lf_BB_9 rfl rfl ?_
      refine aw_iload d_BB_tell_47 rfl ?_
      refine aw_iload_n d_BB_tell_49 rfl ?_
      refine aw_iast d_BB_tell_50 rfl h.1 ?_
      replace h := h.2
      refine aw_mem (fun u1 e => ?_)
      replace h := h _ e
      refine aw_iinc (v := 1) d_BB_tell_51 rfl (by decide) ?_
      refine aw_goto (tgt := 26) d_BB_tell_54 (by decide) ?_
      exact h
set_option maxRecDepth 100000 in
theorem vc_BB_tell_c_0 {G : Gp} {d : Nat} {Q : Int32 → Mem → Prop} {x1 x2 : Int32} {μ : Mem}
    (h : vp_in x1 20 ∧ ∀ y1 : Int32, y1 = (μ 13 (ix x1)) → vp_in x1 20 ∧ ∀ u2 : Mem, u2 = up μ 14 (ix x1) (1 : Int32) → vp_in x1 20 ∧ ∀ u3 : Mem, u3 = up u2 13 (ix x1) x2 → ∀ y4 : Int32, y4 = (x1 + (1 : Int32)) → AW G d M_BB_tell Q 26 [some (.inr 12), none, some (.inl x2), some (.inl y1), some (.inl y4)] [] u3) :
    AW G d M_BB_tell Q 0 [some (.inr 12), some (.inl x1), some (.inl x2), none, none] [] μ := by
  refine aw_aload_n d_BB_tell_0 rfl ?_
  refine aw_getR (t := 13) d_BB_tell_1 lf_BB_9 rfl rfl ?_
  refine aw_iload_n d_BB_tell_4 rfl ?_
  refine aw_iald d_BB_tell_5 rfl h.1 ?_
  replace h := h.2
  refine aw_top (fun y1 e => ?_)
  replace h := h _ e
  refine aw_istore_n d_BB_tell_6 (Nat.le_of_ble_eq_true rfl) ?_
  refine aw_aload_n d_BB_tell_7 rfl ?_
  refine aw_getR (t := 14) d_BB_tell_8 lf_BB_15 rfl rfl ?_
  refine aw_iload_n d_BB_tell_11 rfl ?_
  refine aw_iconst (v := 1) d_BB_tell_12 (by decide) ?_
  refine aw_zast d_BB_tell_13 rfl h.1 (Or.inr rfl) ?_
  replace h := h.2
  refine aw_mem (fun u2 e => ?_)
  replace h := h _ e
  refine aw_aload_n d_BB_tell_14 rfl ?_
  refine aw_getR (t := 13) d_BB_tell_15 lf_BB_9 rfl rfl ?_
  refine aw_iload_n d_BB_tell_18 rfl ?_
  refine aw_iload_n d_BB_tell_19 rfl ?_
  refine aw_iast d_BB_tell_20 rfl h.1 ?_
  replace h := h.2
  refine aw_mem (fun u3 e => ?_)
  replace h := h _ e
  refine aw_iload_n d_BB_tell_21 rfl ?_
  refine aw_iconst (v := 1) d_BB_tell_22 (by decide) ?_
  refine aw_iadd d_BB_tell_23 ?_
  refine aw_top (fun y4 e => ?_)
  replace h := h _ e
  refine aw_istore d_BB_tell_24 (Nat.le_of_ble_eq_true rfl) ?_
  refine aw_drop 1 ?_
  exact h
theorem en_BB_tell_c {G : Gp} {d : Nat} {Q : Int32 → Mem → Prop} {x1 x2 : Int32} {μ : Mem}
    (h : AW G d M_BB_tell Q 0 [some (.inr 12), some (.inl x1), some (.inl x2), none, none] [] μ) :
    Ct G d M_BB_tell [.inr 12, .inl x1, .inl x2] μ Q := ct_of (by decide) (Nat.le_of_ble_eq_true rfl) h
set_option maxRecDepth 100000 in
theorem vc_BB_tell_c_26 {G : Gp} {d : Nat} {Q : Int32 → Mem → Prop} {x2 x3 x4 : Int32} {μ : Mem}
    (h : ((20 : Int32) ≤ x4 → Q x3 μ) ∧ (¬ (20 : Int32) ≤ x4 → vp_in x4 20 ∧ (¬ (μ 14 (ix x4)) = 0 → Q x3 μ) ∧ ((μ 14 (ix x4)) = 0 → vp_in x4 20 ∧ ∀ u1 : Mem, u1 = up μ 13 (ix x4) x2 → AW G d M_BB_tell Q 26 [some (.inr 12), none, some (.inl x2), some (.inl x3), some (.inl (x4 + (1 : Int32)))] [] u1))) :
    AW G d M_BB_tell Q 26 [some (.inr 12), none, some (.inl x2), some (.inl x3), some (.inl x4)] [] μ := by
  refine aw_iload d_BB_tell_26 rfl ?_
  refine aw_bipush (v := 20) d_BB_tell_28 (by decide) ?_
  refine aw_icmp_ge (tgt := 57) d_BB_tell_30 (by decide) (fun q => ?_) (fun q => ?_)
  · replace h := h.1 q
    refine aw_iload_n d_BB_tell_57 rfl ?_
    exact aw_iret d_BB_tell_58 rfl h
  · replace h := h.2 q
    refine aw_aload_n d_BB_tell_33 rfl ?_
    refine aw_getR (t := 14) d_BB_tell_34 lf_BB_15 rfl rfl ?_
    refine aw_iload d_BB_tell_37 rfl ?_
    refine aw_zald d_BB_tell_39 rfl h.1 ?_
    replace h := h.2
    refine aw_if_ne (tgt := 57) d_BB_tell_40 (by decide) (fun q => ?_) (fun q => ?_)
    · replace h := h.1 q
      refine aw_iload_n d_BB_tell_57 rfl ?_
      exact aw_iret d_BB_tell_58 rfl h
    · replace h := h.2 q
      refine aw_aload_n d_BB_tell_43 rfl ?_
      refine aw_getR (t := 13) d_BB_tell_44 lf_BB_9 rfl rfl ?_
      refine aw_iload d_BB_tell_47 rfl ?_
      refine aw_iload_n d_BB_tell_49 rfl ?_
      refine aw_iast d_BB_tell_50 rfl h.1 ?_
      replace h := h.2
      refine aw_mem (fun u1 e => ?_)
      replace h := h _ e
      refine aw_iinc (v := 1) d_BB_tell_51 rfl (by decide) ?_
      refine aw_goto (tgt := 26) d_BB_tell_54 (by decide) ?_
      exact h
