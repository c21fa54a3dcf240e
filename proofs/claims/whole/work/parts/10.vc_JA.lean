/-! verification conditions, by program -/
set_option maxRecDepth 100000 in
theorem vc_JA_fill_18_0 {G : Gp} {d : Nat} {Q : Int32 → Mem → Prop} {x1 : Int32} {μ : Mem}
    (h : AW G d M_JA_fill Q 5 [some (.inr 18), some (.inl x1), some (.inl (0 : Int32)), some (.inl (280 : Int32))] [] μ) :
    AW G d M_JA_fill Q 0 [some (.inr 18), some (.inl x1), none, none] [] μ := by
  refine aw_iconst (v := 0) d_JA_fill_0 (by decide) ?_
  refine aw_istore_n d_JA_fill_1 (Nat.le_of_ble_eq_true rfl) ?_
  refine aw_aload_n d_JA_fill_2 rfl ?_
  refine aw_alen (v := 280) d_JA_fill_3 rfl (by decide) ?_
  refine aw_istore_n d_JA_fill_4 (Nat.le_of_ble_eq_true rfl) ?_
  exact h
theorem en_JA_fill_18 {G : Gp} {d : Nat} {Q : Int32 → Mem → Prop} {x1 : Int32} {μ : Mem}
    (h : AW G d M_JA_fill Q 0 [some (.inr 18), some (.inl x1), none, none] [] μ) :
    Ct G d M_JA_fill [.inr 18, .inl x1] μ Q := ct_of (by decide) (Nat.le_of_ble_eq_true rfl) h
set_option maxRecDepth 100000 in
theorem vc_JA_fill_18_5 {G : Gp} {d : Nat} {Q : Int32 → Mem → Prop} {x1 x2 x3 : Int32} {μ : Mem}
    (h : (x3 ≤ x2 → Q 0 μ) ∧ (¬ x3 ≤ x2 → vp_in x2 280 ∧ ∀ u1 : Mem, u1 = up μ 18 (ix x2) x1 → AW G d M_JA_fill Q 5 [some (.inr 18), some (.inl x1), some (.inl (x2 + (1 : Int32))), some (.inl x3)] [] u1)) :
    AW G d M_JA_fill Q 5 [some (.inr 18), some (.inl x1), some (.inl x2), some (.inl x3)] [] μ := by
  refine aw_iload_n d_JA_fill_5 rfl ?_
  refine aw_iload_n d_JA_fill_6 rfl ?_
  refine aw_icmp_ge (tgt := 20) d_JA_fill_7 (by decide) (fun q => ?_) (fun q => ?_)
  · replace h := h.1 q
    exact aw_vret d_JA_fill_20 rfl h
  · replace h := h.2 q
    refine aw_aload_n d_JA_fill_10 rfl ?_
    refine aw_iload_n d_JA_fill_11 rfl ?_
    refine aw_iload_n d_JA_fill_12 rfl ?_
    refine aw_iast d_JA_fill_13 rfl h.1 ?_
    replace h := h.2
    refine aw_mem (fun u1 e => ?_)
    replace h := h _ e
    refine aw_iinc (v := 1) d_JA_fill_14 rfl (by decide) ?_
    refine aw_goto (tgt := 5) d_JA_fill_17 (by decide) ?_
    exact h
set_option maxRecDepth 100000 in
theorem vc_JA_fill_20_0 {G : Gp} {d : Nat} {Q : Int32 → Mem → Prop} {x1 : Int32} {μ : Mem}
    (h : AW G d M_JA_fill Q 5 [some (.inr 20), some (.inl x1), some (.inl (0 : Int32)), some (.inl (280 : Int32))] [] μ) :
    AW G d M_JA_fill Q 0 [some (.inr 20), some (.inl x1), none, none] [] μ := by
  refine aw_iconst (v := 0) d_JA_fill_0 (by decide) ?_
  refine aw_istore_n d_JA_fill_1 (Nat.le_of_ble_eq_true rfl) ?_
  refine aw_aload_n d_JA_fill_2 rfl ?_
  refine aw_alen (v := 280) d_JA_fill_3 rfl (by decide) ?_
  refine aw_istore_n d_JA_fill_4 (Nat.le_of_ble_eq_true rfl) ?_
  exact h
theorem en_JA_fill_20 {G : Gp} {d : Nat} {Q : Int32 → Mem → Prop} {x1 : Int32} {μ : Mem}
    (h : AW G d M_JA_fill Q 0 [some (.inr 20), some (.inl x1), none, none] [] μ) :
    Ct G d M_JA_fill [.inr 20, .inl x1] μ Q := ct_of (by decide) (Nat.le_of_ble_eq_true rfl) h
set_option maxRecDepth 100000 in
theorem vc_JA_fill_20_5 {G : Gp} {d : Nat} {Q : Int32 → Mem → Prop} {x1 x2 x3 : Int32} {μ : Mem}
    (h : (x3 ≤ x2 → Q 0 μ) ∧ (¬ x3 ≤ x2 → vp_in x2 280 ∧ ∀ u1 : Mem, u1 = up μ 20 (ix x2) x1 → AW G d M_JA_fill Q 5 [some (.inr 20), some (.inl x1), some (.inl (x2 + (1 : Int32))), some (.inl x3)] [] u1)) :
    AW G d M_JA_fill Q 5 [some (.inr 20), some (.inl x1), some (.inl x2), some (.inl x3)] [] μ := by
  refine aw_iload_n d_JA_fill_5 rfl ?_
  refine aw_iload_n d_JA_fill_6 rfl ?_
  refine aw_icmp_ge (tgt := 20) d_JA_fill_7 (by decide) (fun q => ?_) (fun q => ?_)
  · replace h := h.1 q
    exact aw_vret d_JA_fill_20 rfl h
  · replace h := h.2 q
    refine aw_aload_n d_JA_fill_10 rfl ?_
    refine aw_iload_n d_JA_fill_11 rfl ?_
    refine aw_iload_n d_JA_fill_12 rfl ?_
    refine aw_iast d_JA_fill_13 rfl h.1 ?_
    replace h := h.2
    refine aw_mem (fun u1 e => ?_)
    replace h := h _ e
    refine aw_iinc (v := 1) d_JA_fill_14 rfl (by decide) ?_
    refine aw_goto (tgt := 5) d_JA_fill_17 (by decide) ?_
    exact h
set_option maxRecDepth 100000 in
theorem vc_JA_fill_22_0 {G : Gp} {d : Nat} {Q : Int32 → Mem → Prop} {x1 : Int32} {μ : Mem}
    (h : AW G d M_JA_fill Q 5 [some (.inr 22), some (.inl x1), some (.inl (0 : Int32)), some (.inl (280 : Int32))] [] μ) :
    AW G d M_JA_fill Q 0 [some (.inr 22), some (.inl x1), none, none] [] μ := by
  refine aw_iconst (v := 0) d_JA_fill_0 (by decide) ?_
  refine aw_istore_n d_JA_fill_1 (Nat.le_of_ble_eq_true rfl) ?_
  refine aw_aload_n d_JA_fill_2 rfl ?_
  refine aw_alen (v := 280) d_JA_fill_3 rfl (by decide) ?_
  refine aw_istore_n d_JA_fill_4 (Nat.le_of_ble_eq_true rfl) ?_
  exact h
theorem en_JA_fill_22 {G : Gp} {d : Nat} {Q : Int32 → Mem → Prop} {x1 : Int32} {μ : Mem}
    (h : AW G d M_JA_fill Q 0 [some (.inr 22), some (.inl x1), none, none] [] μ) :
    Ct G d M_JA_fill [.inr 22, .inl x1] μ Q := ct_of (by decide) (Nat.le_of_ble_eq_true rfl) h
set_option maxRecDepth 100000 in
theorem vc_JA_fill_22_5 {G : Gp} {d : Nat} {Q : Int32 → Mem → Prop} {x1 x2 x3 : Int32} {μ : Mem}
    (h : (x3 ≤ x2 → Q 0 μ) ∧ (¬ x3 ≤ x2 → vp_in x2 280 ∧ ∀ u1 : Mem, u1 = up μ 22 (ix x2) x1 → AW G d M_JA_fill Q 5 [some (.inr 22), some (.inl x1), some (.inl (x2 + (1 : Int32))), some (.inl x3)] [] u1)) :
    AW G d M_JA_fill Q 5 [some (.inr 22), some (.inl x1), some (.inl x2), some (.inl x3)] [] μ := by
  refine aw_iload_n d_JA_fill_5 rfl ?_
  refine aw_iload_n d_JA_fill_6 rfl ?_
  refine aw_icmp_ge (tgt := 20) d_JA_fill_7 (by decide) (fun q => ?_) (fun q => ?_)
  · replace h := h.1 q
    exact aw_vret d_JA_fill_20 rfl h
  · replace h := h.2 q
    refine aw_aload_n d_JA_fill_10 rfl ?_
    refine aw_iload_n d_JA_fill_11 rfl ?_
    refine aw_iload_n d_JA_fill_12 rfl ?_
    refine aw_iast d_JA_fill_13 rfl h.1 ?_
    replace h := h.2
    refine aw_mem (fun u1 e => ?_)
    replace h := h _ e
    refine aw_iinc (v := 1) d_JA_fill_14 rfl (by decide) ?_
    refine aw_goto (tgt := 5) d_JA_fill_17 (by decide) ?_
    exact h
set_option maxRecDepth 100000 in
theorem vc_JA_fill_32_0 {G : Gp} {d : Nat} {Q : Int32 → Mem → Prop} {x1 : Int32} {μ : Mem}
    (h : AW G d M_JA_fill Q 5 [some (.inr 32), some (.inl x1), some (.inl (0 : Int32)), some (.inl (60 : Int32))] [] μ) :
    AW G d M_JA_fill Q 0 [some (.inr 32), some (.inl x1), none, none] [] μ := by
  refine aw_iconst (v := 0) d_JA_fill_0 (by decide) ?_
  refine aw_istore_n d_JA_fill_1 (Nat.le_of_ble_eq_true rfl) ?_
  refine aw_aload_n d_JA_fill_2 rfl ?_
  refine aw_alen (v := 60) d_JA_fill_3 rfl (by decide) ?_
  refine aw_istore_n d_JA_fill_4 (Nat.le_of_ble_eq_true rfl) ?_
  exact h
theorem en_JA_fill_32 {G : Gp} {d : Nat} {Q : Int32 → Mem → Prop} {x1 : Int32} {μ : Mem}
    (h : AW G d M_JA_fill Q 0 [some (.inr 32), some (.inl x1), none, none] [] μ) :
    Ct G d M_JA_fill [.inr 32, .inl x1] μ Q := ct_of (by decide) (Nat.le_of_ble_eq_true rfl) h
set_option maxRecDepth 100000 in
theorem vc_JA_fill_32_5 {G : Gp} {d : Nat} {Q : Int32 → Mem → Prop} {x1 x2 x3 : Int32} {μ : Mem}
    (h : (x3 ≤ x2 → Q 0 μ) ∧ (¬ x3 ≤ x2 → vp_in x2 60 ∧ ∀ u1 : Mem, u1 = up μ 32 (ix x2) x1 → AW G d M_JA_fill Q 5 [some (.inr 32), some (.inl x1), some (.inl (x2 + (1 : Int32))), some (.inl x3)] [] u1)) :
    AW G d M_JA_fill Q 5 [some (.inr 32), some (.inl x1), some (.inl x2), some (.inl x3)] [] μ := by
  refine aw_iload_n d_JA_fill_5 rfl ?_
  refine aw_iload_n d_JA_fill_6 rfl ?_
  refine aw_icmp_ge (tgt := 20) d_JA_fill_7 (by decide) (fun q => ?_) (fun q => ?_)
  · replace h := h.1 q
    exact aw_vret d_JA_fill_20 rfl h
  · replace h := h.2 q
    refine aw_aload_n d_JA_fill_10 rfl ?_
    refine aw_iload_n d_JA_fill_11 rfl ?_
    refine aw_iload_n d_JA_fill_12 rfl ?_
    refine aw_iast d_JA_fill_13 rfl h.1 ?_
    replace h := h.2
    refine aw_mem (fun u1 e => ?_)
    replace h := h _ e
    refine aw_iinc (v := 1) d_JA_fill_14 rfl (by decide) ?_
    refine aw_goto (tgt := 5) d_JA_fill_17 (by decide) ?_
    exact h
set_option maxRecDepth 100000 in
theorem vc_JA_fill_34_0 {G : Gp} {d : Nat} {Q : Int32 → Mem → Prop} {x1 : Int32} {μ : Mem}
    (h : AW G d M_JA_fill Q 5 [some (.inr 34), some (.inl x1), some (.inl (0 : Int32)), some (.inl (70 : Int32))] [] μ) :
    AW G d M_JA_fill Q 0 [some (.inr 34), some (.inl x1), none, none] [] μ := by
  refine aw_iconst (v := 0) d_JA_fill_0 (by decide) ?_
  refine aw_istore_n d_JA_fill_1 (Nat.le_of_ble_eq_true rfl) ?_
  refine aw_aload_n d_JA_fill_2 rfl ?_
  refine aw_alen (v := 70) d_JA_fill_3 rfl (by decide) ?_
  refine aw_istore_n d_JA_fill_4 (Nat.le_of_ble_eq_true rfl) ?_
  exact h
theorem en_JA_fill_34 {G : Gp} {d : Nat} {Q : Int32 → Mem → Prop} {x1 : Int32} {μ : Mem}
    (h : AW G d M_JA_fill Q 0 [some (.inr 34), some (.inl x1), none, none] [] μ) :
    Ct G d M_JA_fill [.inr 34, .inl x1] μ Q := ct_of (by decide) (Nat.le_of_ble_eq_true rfl) h
set_option maxRecDepth 100000 in
theorem vc_JA_fill_34_5 {G : Gp} {d : Nat} {Q : Int32 → Mem → Prop} {x1 x2 x3 : Int32} {μ : Mem}
    (h : (x3 ≤ x2 → Q 0 μ) ∧ (¬ x3 ≤ x2 → vp_in x2 70 ∧ ∀ u1 : Mem, u1 = up μ 34 (ix x2) x1 → AW G d M_JA_fill Q 5 [some (.inr 34), some (.inl x1), some (.inl (x2 + (1 : Int32))), some (.inl x3)] [] u1)) :
    AW G d M_JA_fill Q 5 [some (.inr 34), some (.inl x1), some (.inl x2), some (.inl x3)] [] μ := by
  refine aw_iload_n d_JA_fill_5 rfl ?_
  refine aw_iload_n d_JA_fill_6 rfl ?_
  refine aw_icmp_ge (tgt := 20) d_JA_fill_7 (by decide) (fun q => ?_) (fun q => ?_)
  · replace h := h.1 q
    exact aw_vret d_JA_fill_20 rfl h
  · replace h := h.2 q
    refine aw_aload_n d_JA_fill_10 rfl ?_
    refine aw_iload_n d_JA_fill_11 rfl ?_
    refine aw_iload_n d_JA_fill_12 rfl ?_
    refine aw_iast d_JA_fill_13 rfl h.1 ?_
    replace h := h.2
    refine aw_mem (fun u1 e => ?_)
    replace h := h _ e
    refine aw_iinc (v := 1) d_JA_fill_14 rfl (by decide) ?_
    refine aw_goto (tgt := 5) d_JA_fill_17 (by decide) ?_
    exact h
