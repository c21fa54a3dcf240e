/-! verification conditions, by program -/
set_option maxRecDepth 100000 in
theorem vc_KR_alterOf_0 {G : Gp} {d : Nat} {Q : Int32 → Mem → Prop} {x0 x1 : Int32} {μ : Mem}
    (h : vp_in x1 7 ∧ ∀ y1 : Int32, y1 = (([1, 3, 5, 0, 2, 4, 6] : List Int32).getD (ix x1) 0) → (x0 ≤ y1 → ((-x0) ≤ ((6 : Int32) - y1) → Q (0 : Int32) μ) ∧ (¬ (-x0) ≤ ((6 : Int32) - y1) → Q (-2 : Int32) μ)) ∧ (¬ x0 ≤ y1 → Q (2 : Int32) μ)) :
    AW G d M_KR_alterOf Q 0 [some (.inl x0), some (.inl x1), none] [] μ := by
  refine aw_gets d_KR_alterOf_0 ls_KR_21 ?_
  refine aw_iload_n d_KR_alterOf_3 rfl ?_
  refine aw_sald (t := 3) d_KR_alterOf_4 rfl h.1 ?_
  replace h := h.2
  refine aw_top (fun y1 e => ?_)
  replace h := h _ e
  refine aw_istore_n d_KR_alterOf_5 (Nat.le_of_ble_eq_true rfl) ?_
  refine aw_iload_n d_KR_alterOf_6 rfl ?_
  refine aw_iload_n d_KR_alterOf_7 rfl ?_
  refine aw_icmp_ge (tgt := 13) d_KR_alterOf_8 (by decide) (fun q => ?_) (fun q => ?_)
  · replace h := h.1 q
    refine aw_bipush (v := 6) d_KR_alterOf_13 (by decide) ?_
    refine aw_iload_n d_KR_alterOf_15 rfl ?_
    refine aw_isub d_KR_alterOf_16 ?_
    refine aw_iload_n d_KR_alterOf_17 rfl ?_
    refine aw_ineg d_KR_alterOf_18 ?_
    refine aw_icmp_ge (tgt := 27) d_KR_alterOf_19 (by decide) (fun q => ?_) (fun q => ?_)
    · replace h := h.1 q
      refine aw_iconst (v := 0) d_KR_alterOf_27 (by decide) ?_
      exact aw_iret d_KR_alterOf_28 rfl h
    · replace h := h.2 q
      refine aw_bipush (v := (-2)) d_KR_alterOf_22 (by decide) ?_
      refine aw_goto (tgt := 28) d_KR_alterOf_24 (by decide) ?_
      exact aw_iret d_KR_alterOf_28 rfl h
  · replace h := h.2 q
    refine aw_iconst (v := 2) d_KR_alterOf_11 (by decide) ?_
    exact aw_iret d_KR_alterOf_12 rfl h
theorem en_KR_alterOf {G : Gp} {d : Nat} {Q : Int32 → Mem → Prop} {x0 x1 : Int32} {μ : Mem}
    (h : AW G d M_KR_alterOf Q 0 [some (.inl x0), some (.inl x1), none] [] μ) :
    Ct G d M_KR_alterOf [.inl x0, .inl x1] μ Q := ct_of (by decide) (Nat.le_of_ble_eq_true rfl) h
set_option maxRecDepth 100000 in
theorem vc_KR_layOut_0 {G : Gp} {d : Nat} {Q : Int32 → Mem → Prop} {x1 x2 x3 x4 : Int32} {μ : Mem}
    (h : ∀ u1 : Mem, u1 = up μ 38 3 (0 : Int32) → (¬ x1 = x2 → (x1 ≤ 0 → AW G (d + 1) M_KR_layOut Q 19 [some (.inr 38), some (.inl x1), some (.inl x2), some (.inl x3), some (.inl x4), none, none, none] [] u1) ∧ (¬ x1 ≤ 0 → (0 < x2 → (x4 = (1 : Int32) → Ct G d M_KR_addNaturals [.inr 38, .inl x1, .inl x2, .inl x3] u1 (fun _ u2 => AW G (d + 1) M_KR_layOut Q 61 [some (.inr 38), none, some (.inl x2), some (.inl x3), none, none, some (.inl (0 : Int32)), none] [] u2)) ∧ (¬ x4 = (1 : Int32) → (¬ x4 = (2 : Int32) → AW G (d + 1) M_KR_layOut Q 61 [some (.inr 38), none, some (.inl x2), some (.inl x3), none, none, some (.inl (0 : Int32)), none] [] u1) ∧ (x4 = (2 : Int32) → (¬ (1 : Int32) = 0 → AW G (d + 1) M_KR_layOut Q 61 [some (.inr 38), none, some (.inl x2), some (.inl x3), none, none, some (.inl (0 : Int32)), none] [] u1) ∧ ((1 : Int32) = 0 → Ct G d M_KR_addNaturals [.inr 38, .inl x1, .inl x2, .inl x3] u1 (fun _ u3 => AW G (d + 1) M_KR_layOut Q 61 [some (.inr 38), none, some (.inl x2), some (.inl x3), none, none, some (.inl (0 : Int32)), none] [] u3))))) ∧ (¬ 0 < x2 → AW G (d + 1) M_KR_layOut Q 19 [some (.inr 38), some (.inl x1), some (.inl x2), some (.inl x3), some (.inl x4), none, none, none] [] u1))) ∧ (x1 = x2 → Q 0 u1)) :
    AW G (d + 1) M_KR_layOut Q 0 [some (.inr 38), some (.inl x1), some (.inl x2), some (.inl x3), some (.inl x4), none, none, none] [] μ := by
  refine aw_aload_n d_KR_layOut_0 rfl ?_
  refine aw_iconst (v := 0) d_KR_layOut_1 (by decide) ?_
  refine aw_putI d_KR_layOut_2 lf_KR_24 ⟨_, _, _, rfl, rfl, rfl⟩ rfl rfl ?_
  refine aw_mem (fun u1 e => ?_)
  replace h := h _ e
  refine aw_iload_n d_KR_layOut_5 rfl ?_
  refine aw_iload_n d_KR_layOut_6 rfl ?_
  refine aw_icmp_ne (tgt := 11) d_KR_layOut_7 (by decide) (fun q => ?_) (fun q => ?_)
  · replace h := h.1 q
    refine aw_iload_n d_KR_layOut_11 rfl ?_
    refine aw_if_le (tgt := 19) d_KR_layOut_12 (by decide) (fun q => ?_) (fun q => ?_)
    · replace h := h.1 q
      exact h
    · replace h := h.2 q
      refine aw_iload_n d_KR_layOut_15 rfl ?_
      refine aw_if_gt (tgt := 27) d_KR_layOut_16 (by decide) (fun q => ?_) (fun q => ?_)
      · replace h := h.1 q
        refine aw_iconst (v := 1) d_KR_layOut_27 (by decide) ?_
        refine aw_goto (tgt := 32) d_KR_layOut_28 (by decide) ?_
        refine aw_istore d_KR_layOut_32 (Nat.le_of_ble_eq_true rfl) ?_
        refine aw_iload d_KR_layOut_34 rfl ?_
        refine aw_iconst (v := 1) d_KR_layOut_36 (by decide) ?_
        refine aw_icmp_eq (tgt := 51) d_KR_layOut_37 (by decide) (fun q => ?_) (fun q => ?_)
        · replace h := h.1 q
          refine aw_aload_n d_KR_layOut_51 rfl ?_
          refine aw_iload_n d_KR_layOut_52 rfl ?_
          refine aw_iload_n d_KR_layOut_53 rfl ?_
          refine aw_iload_n d_KR_layOut_54 rfl ?_
          refine aw_callVv (as := [.inl x1, .inl x2, .inl x3]) d_KR_layOut_55 lm_KR_28 rfl rfl (by decide) rfl (Nat.le_of_ble_eq_true rfl) rfl h (fun u2 h => ?_)
          refine aw_iconst (v := 0) d_KR_layOut_58 (by decide) ?_
          refine aw_istore d_KR_layOut_59 (Nat.le_of_ble_eq_true rfl) ?_
          refine aw_drop 1 ?_
          refine aw_drop 4 ?_
          refine aw_drop 5 ?_
          exact h
        · replace h := h.2 q
          refine aw_iload d_KR_layOut_40 rfl ?_
          refine aw_iconst (v := 2) d_KR_layOut_42 (by decide) ?_
          refine aw_icmp_ne (tgt := 58) d_KR_layOut_43 (by decide) (fun q => ?_) (fun q => ?_)
          · replace h := h.1 q
            refine aw_iconst (v := 0) d_KR_layOut_58 (by decide) ?_
            refine aw_istore d_KR_layOut_59 (Nat.le_of_ble_eq_true rfl) ?_
            refine aw_drop 1 ?_
            refine aw_drop 4 ?_
            refine aw_drop 5 ?_
            exact h
          · replace h := h.2 q
            refine aw_iload d_KR_layOut_46 rfl ?_
            refine aw_if_ne (tgt := 58) d_KR_layOut_48 (by decide) (fun q => ?_) (fun q => ?_)
            · replace h := h.1 q
              refine aw_iconst (v := 0) d_KR_layOut_58 (by decide) ?_
              refine aw_istore d_KR_layOut_59 (Nat.le_of_ble_eq_true rfl) ?_
              refine aw_drop 1 ?_
              refine aw_drop 4 ?_
              refine aw_drop 5 ?_
              exact h
            · replace h := h.2 q
              refine aw_aload_n d_KR_layOut_51 rfl ?_
              refine aw_iload_n d_KR_layOut_52 rfl ?_
              refine aw_iload_n d_KR_layOut_53 rfl ?_
              refine aw_iload_n d_KR_layOut_54 rfl ?_
              refine aw_callVv (as := [.inl x1, .inl x2, .inl x3]) d_KR_layOut_55 lm_KR_28 rfl rfl (by decide) rfl (Nat.le_of_ble_eq_true rfl) rfl h (fun u3 h => ?_)
              refine aw_iconst (v := 0) d_KR_layOut_58 (by decide) ?_
              refine aw_istore d_KR_layOut_59 (Nat.le_of_ble_eq_true rfl) ?_
              refine aw_drop 1 ?_
              refine aw_drop 4 ?_
              refine aw_drop 5 ?_
              exact h
      · replace h := h.2 q
        exact h
  · replace h := h.2 q
    exact aw_vret d_KR_layOut_10 rfl h
theorem en_KR_layOut {G : Gp} {d : Nat} {Q : Int32 → Mem → Prop} {x1 x2 x3 x4 : Int32} {μ : Mem}
    (h : AW G (d + 1) M_KR_layOut Q 0 [some (.inr 38), some (.inl x1), some (.inl x2), some (.inl x3), some (.inl x4), none, none, none] [] μ) :
    Ct G (d + 1) M_KR_layOut [.inr 38, .inl x1, .inl x2, .inl x3, .inl x4] μ Q := ct_of (by decide) (Nat.le_of_ble_eq_true rfl) h
set_option maxRecDepth 100000 in
theorem vc_KR_layOut_19 {G : Gp} {d : Nat} {Q : Int32 → Mem → Prop} {x1 x2 x3 x4 : Int32} {μ : Mem}
    (h : (0 ≤ x1 → (x4 = (1 : Int32) → Ct G d M_KR_addNaturals [.inr 38, .inl x1, .inl x2, .inl x3] μ (fun _ u1 => AW G (d + 1) M_KR_layOut Q 61 [some (.inr 38), none, some (.inl x2), some (.inl x3), none, none, some (.inl (0 : Int32)), none] [] u1)) ∧ (¬ x4 = (1 : Int32) → (¬ x4 = (2 : Int32) → AW G (d + 1) M_KR_layOut Q 61 [some (.inr 38), none, some (.inl x2), some (.inl x3), none, none, some (.inl (0 : Int32)), none] [] μ) ∧ (x4 = (2 : Int32) → (¬ (0 : Int32) = 0 → AW G (d + 1) M_KR_layOut Q 61 [some (.inr 38), none, some (.inl x2), some (.inl x3), none, none, some (.inl (0 : Int32)), none] [] μ) ∧ ((0 : Int32) = 0 → Ct G d M_KR_addNaturals [.inr 38, .inl x1, .inl x2, .inl x3] μ (fun _ u2 => AW G (d + 1) M_KR_layOut Q 61 [some (.inr 38), none, some (.inl x2), some (.inl x3), none, none, some (.inl (0 : Int32)), none] [] u2))))) ∧ (¬ 0 ≤ x1 → (0 ≤ x2 → (x4 = (1 : Int32) → Ct G d M_KR_addNaturals [.inr 38, .inl x1, .inl x2, .inl x3] μ (fun _ u3 => AW G (d + 1) M_KR_layOut Q 61 [some (.inr 38), none, some (.inl x2), some (.inl x3), none, none, some (.inl (0 : Int32)), none] [] u3)) ∧ (¬ x4 = (1 : Int32) → (¬ x4 = (2 : Int32) → AW G (d + 1) M_KR_layOut Q 61 [some (.inr 38), none, some (.inl x2), some (.inl x3), none, none, some (.inl (0 : Int32)), none] [] μ) ∧ (x4 = (2 : Int32) → (¬ (0 : Int32) = 0 → AW G (d + 1) M_KR_layOut Q 61 [some (.inr 38), none, some (.inl x2), some (.inl x3), none, none, some (.inl (0 : Int32)), none] [] μ) ∧ ((0 : Int32) = 0 → Ct G d M_KR_addNaturals [.inr 38, .inl x1, .inl x2, .inl x3] μ (fun _ u4 => AW G (d + 1) M_KR_layOut Q 61 [some (.inr 38), none, some (.inl x2), some (.inl x3), none, none, some (.inl (0 : Int32)), none] [] u4))))) ∧ (¬ 0 ≤ x2 → (x4 = (1 : Int32) → Ct G d M_KR_addNaturals [.inr 38, .inl x1, .inl x2, .inl x3] μ (fun _ u5 => AW G (d + 1) M_KR_layOut Q 61 [some (.inr 38), none, some (.inl x2), some (.inl x3), none, none, some (.inl (0 : Int32)), none] [] u5)) ∧ (¬ x4 = (1 : Int32) → (¬ x4 = (2 : Int32) → AW G (d + 1) M_KR_layOut Q 61 [some (.inr 38), none, some (.inl x2), some (.inl x3), none, none, some (.inl (0 : Int32)), none] [] μ) ∧ (x4 = (2 : Int32) → (¬ (1 : Int32) = 0 → AW G (d + 1) M_KR_layOut Q 61 [some (.inr 38), none, some (.inl x2), some (.inl x3), none, none, some (.inl (0 : Int32)), none] [] μ) ∧ ((1 : Int32) = 0 → Ct G d M_KR_addNaturals [.inr 38, .inl x1, .inl x2, .inl x3] μ (fun _ u6 => AW G (d + 1) M_KR_layOut Q 61 [some (.inr 38), none, some (.inl x2), some (.inl x3), none, none, some (.inl (0 : Int32)), none] [] u6))))))) :
    AW G (d + 1) M_KR_layOut Q 19 [some (.inr 38), some (.inl x1), some (.inl x2), some (.inl x3), some (.inl x4), none, none, none] [] μ := by
  refine aw_iload_n d_KR_layOut_19 rfl ?_
  refine aw_if_ge (tgt := 31) d_KR_layOut_20 (by decide) (fun q => ?_) (fun q => ?_)
  · replace h := h.1 q
    refine aw_iconst (v := 0) d_KR_layOut_31 (by decide) ?_
    refine aw_istore d_KR_layOut_32 (Nat.le_of_ble_eq_true rfl) ?_
    refine aw_iload d_KR_layOut_34 rfl ?_
    refine aw_iconst (v := 1) d_KR_layOut_36 (by decide) ?_
    refine aw_icmp_eq (tgt := 51) d_KR_layOut_37 (by decide) (fun q => ?_) (fun q => ?_)
    · replace h := h.1 q
      refine aw_aload_n d_KR_layOut_51 rfl ?_
      refine aw_iload_n d_KR_layOut_52 rfl ?_
      refine aw_iload_n d_KR_layOut_53 rfl ?_
      refine aw_iload_n d_KR_layOut_54 rfl ?_
      refine aw_callVv (as := [.inl x1, .inl x2, .inl x3]) d_KR_layOut_55 lm_KR_28 rfl rfl (by decide) rfl (Nat.le_of_ble_eq_true rfl) rfl h (fun u1 h => ?_)
      refine aw_iconst (v := 0) d_KR_layOut_58 (by decide) ?_
      refine aw_istore d_KR_layOut_59 (Nat.le_of_ble_eq_true rfl) ?_
      refine aw_drop 1 ?_
      refine aw_drop 4 ?_
      refine aw_drop 5 ?_
      exact h
    · replace h := h.2 q
      refine aw_iload d_KR_layOut_40 rfl ?_
      refine aw_iconst (v := 2) d_KR_layOut_42 (by decide) ?_
      refine aw_icmp_ne (tgt := 58) d_KR_layOut_43 (by decide) (fun q => ?_) (fun q => ?_)
      · replace h := h.1 q
        refine aw_iconst (v := 0) d_KR_layOut_58 (by decide) ?_
        refine aw_istore d_KR_layOut_59 (Nat.le_of_ble_eq_true rfl) ?_
        refine aw_drop 1 ?_
        refine aw_drop 4 ?_
        refine aw_drop 5 ?_
        exact h
      · replace h := h.2 q
        refine aw_iload d_KR_layOut_46 rfl ?_
        refine aw_if_ne (tgt := 58) d_KR_layOut_48 (by decide) (fun q => ?_) (fun q => ?_)
        · replace h := h.1 q
          refine aw_iconst (v := 0) d_KR_layOut_58 (by decide) ?_
          refine aw_istore d_KR_layOut_59 (Nat.le_of_ble_eq_true rfl) ?_
          refine aw_drop 1 ?_
          refine aw_drop 4 ?_
          refine aw_drop 5 ?_
          exact h
        · replace h := h.2 q
          refine aw_aload_n d_KR_layOut_51 rfl ?_
          refine aw_iload_n d_KR_layOut_52 rfl ?_
          refine aw_iload_n d_KR_layOut_53 rfl ?_
          refine aw_iload_n d_KR_layOut_54 rfl ?_
          refine aw_callVv (as := [.inl x1, .inl x2, .inl x3]) d_KR_layOut_55 lm_KR_28 rfl rfl (by decide) rfl (Nat.le_of_ble_eq_true rfl) rfl h (fun u2 h => ?_)
          refine aw_iconst (v := 0) d_KR_layOut_58 (by decide) ?_
          refine aw_istore d_KR_layOut_59 (Nat.le_of_ble_eq_true rfl) ?_
          refine aw_drop 1 ?_
          refine aw_drop 4 ?_
          refine aw_drop 5 ?_
          exact h
  · replace h := h.2 q
    refine aw_iload_n d_KR_layOut_23 rfl ?_
    refine aw_if_ge (tgt := 31) d_KR_layOut_24 (by decide) (fun q => ?_) (fun q => ?_)
    · replace h := h.1 q
      refine aw_iconst (v := 0) d_KR_layOut_31 (by decide) ?_
      refine aw_istore d_KR_layOut_32 (Nat.le_of_ble_eq_true rfl) ?_
      refine aw_iload d_KR_layOut_34 rfl ?_
      refine aw_iconst (v := 1) d_KR_layOut_36 (by decide) ?_
      refine aw_icmp_eq (tgt := 51) d_KR_layOut_37 (by decide) (fun q => ?_) (fun q => ?_)
      · replace h := h.1 q
        refine aw_aload_n d_KR_layOut_51 rfl ?_
        refine aw_iload_n d_KR_layOut_52 rfl ?_
        refine aw_iload_n d_KR_layOut_53 rfl ?_
        refine aw_iload_n d_KR_layOut_54 rfl ?_
        refine aw_callVv (as := [.inl x1, .inl x2, .inl x3]) d_KR_layOut_55 lm_KR_28 rfl rfl (by decide) rfl (Nat.le_of_ble_eq_true rfl) rfl h (fun u3 h => ?_)
        refine aw_iconst (v := 0) d_KR_layOut_58 (by decide) ?_
        refine aw_istore d_KR_layOut_59 (Nat.le_of_ble_eq_true rfl) ?_
        refine aw_drop 1 ?_
        refine aw_drop 4 ?_
        refine aw_drop 5 ?_
        exact h
      · replace h := h.2 q
        refine aw_iload d_KR_layOut_40 rfl ?_
        refine aw_iconst (v := 2) d_KR_layOut_42 (by decide) ?_
        refine aw_icmp_ne (tgt := 58) d_KR_layOut_43 (by decide) (fun q => ?_) (fun q => ?_)
        · replace h := h.1 q
          refine aw_iconst (v := 0) d_KR_layOut_58 (by decide) ?_
          refine aw_istore d_KR_layOut_59 (Nat.le_of_ble_eq_true rfl) ?_
          refine aw_drop 1 ?_
          refine aw_drop 4 ?_
          refine aw_drop 5 ?_
          exact h
        · replace h := h.2 q
          refine aw_iload d_KR_layOut_46 rfl ?_
          refine aw_if_ne (tgt := 58) d_KR_layOut_48 (by decide) (fun q => ?_) (fun q => ?_)
          · replace h := h.1 q
            refine aw_iconst (v := 0) d_KR_layOut_58 (by decide) ?_
            refine aw_istore d_KR_layOut_59 (Nat.le_of_ble_eq_true rfl) ?_
            refine aw_drop 1 ?_
            refine aw_drop 4 ?_
            refine aw_drop 5 ?_
            exact h
          · replace h := h.2 q
            refine aw_aload_n d_KR_layOut_51 rfl ?_
            refine aw_iload_n d_KR_layOut_52 rfl ?_
            refine aw_iload_n d_KR_layOut_53 rfl ?_
            refine aw_iload_n d_KR_layOut_54 rfl ?_
            refine aw_callVv (as := [.inl x1, .inl x2, .inl x3]) d_KR_layOut_55 lm_KR_28 rfl rfl (by decide) rfl (Nat.le_of_ble_eq_true rfl) rfl h (fun u4 h => ?_)
            refine aw_iconst (v := 0) d_KR_layOut_58 (by decide) ?_
            refine aw_istore d_KR_layOut_59 (Nat.le_of_ble_eq_true rfl) ?_
            refine aw_drop 1 ?_
            refine aw_drop 4 ?_
            refine aw_drop 5 ?_
            exact h
    · replace h := h.2 q
      refine aw_iconst (v := 1) d_KR_layOut_27 (by decide) ?_
      refine aw_goto (tgt := 32) d_KR_layOut_28 (by decide) ?_
      refine aw_istore d_KR_layOut_32 (Nat.le_of_ble_eq_true rfl) ?_
      refine aw_iload d_KR_layOut_34 rfl ?_
      refine aw_iconst (v := 1) d_KR_layOut_36 (by decide) ?_
      refine aw_icmp_eq (tgt := 51) d_KR_layOut_37 (by decide) (fun q => ?_) (fun q => ?_)
      · replace h := h.1 q
        refine aw_aload_n d_KR_layOut_51 rfl ?_
        refine aw_iload_n d_KR_layOut_52 rfl ?_
        refine aw_iload_n d_KR_layOut_53 rfl ?_
        refine aw_iload_n d_KR_layOut_54 rfl ?_
        refine aw_callVv (as := [.inl x1, .inl x2, .inl x3]) d_KR_layOut_55 lm_KR_28 rfl rfl (by decide) rfl (Nat.le_of_ble_eq_true rfl) rfl h (fun u5 h => ?_)
        refine aw_iconst (v := 0) d_KR_layOut_58 (by decide) ?_
        refine aw_istore d_KR_layOut_59 (Nat.le_of_ble_eq_true rfl) ?_
        refine aw_drop 1 ?_
        refine aw_drop 4 ?_
        refine aw_drop 5 ?_
        exact h
      · replace h := h.2 q
        refine aw_iload d_KR_layOut_40 rfl ?_
        refine aw_iconst (v := 2) d_KR_layOut_42 (by decide) ?_
        refine aw_icmp_ne (tgt := 58) d_KR_layOut_43 (by decide) (fun q => ?_) (fun q => ?_)
        · replace h := h.1 q
          refine aw_iconst (v := 0) d_KR_layOut_58 (by decide) ?_
          refine aw_istore d_KR_layOut_59 (Nat.le_of_ble_eq_true rfl) ?_
          refine aw_drop 1 ?_
          refine aw_drop 4 ?_
          refine aw_drop 5 ?_
          exact h
        · replace h := h.2 q
          refine aw_iload d_KR_layOut_46 rfl ?_
          refine aw_if_ne (tgt := 58) d_KR_layOut_48 (by decide) (fun q => ?_) (fun q => ?_)
          · replace h := h.1 q
            refine aw_iconst (v := 0) d_KR_layOut_58 (by decide) ?_
            refine aw_istore d_KR_layOut_59 (Nat.le_of_ble_eq_true rfl) ?_
            refine aw_drop 1 ?_
            refine aw_drop 4 ?_
            refine aw_drop 5 ?_
            exact h
          · replace h := h.2 q
            refine aw_aload_n d_KR_layOut_51 rfl ?_
            refine aw_iload_n d_KR_layOut_52 rfl ?_
            refine aw_iload_n d_KR_layOut_53 rfl ?_
            refine aw_iload_n d_KR_layOut_54 rfl ?_
            refine aw_callVv (as := [.inl x1, .inl x2, .inl x3]) d_KR_layOut_55 lm_KR_28 rfl rfl (by decide) rfl (Nat.le_of_ble_eq_true rfl) rfl h (fun u6 h => ?_)
            refine aw_iconst (v := 0) d_KR_layOut_58 (by decide) ?_
            refine aw_istore d_KR_layOut_59 (Nat.le_of_ble_eq_true rfl) ?_
            refine aw_drop 1 ?_
            refine aw_drop 4 ?_
            refine aw_drop 5 ?_
            exact h
set_option maxRecDepth 100000 in
theorem vc_KR_layOut_61 {G : Gp} {d : Nat} {Q : Int32 → Mem → Prop} {x2 x3 x6 : Int32} {μ : Mem}
    (h : ((mabs x2) ≤ x6 → Q 0 μ) ∧ (¬ (mabs x2) ≤ x6 → Ct G d M_KR_letterOf [.inl x2, .inl x6] μ (fun r2 u1 => Ct G d M_KR_alterOf [.inl x2, .inl r2] u1 (fun r4 u3 => Ct G d M_KR_placeFor [.inl r2, .inl x2, .inl x3] u3 (fun r6 u5 => Ct G d M_KR_append [.inr 38, .inl r2, .inl r4, .inl r6] u5 (fun _ u7 => AW G (d + 1) M_KR_layOut Q 61 [some (.inr 38), none, some (.inl x2), some (.inl x3), none, none, some (.inl (x6 + (1 : Int32))), none] [] u7)))))) :
    AW G (d + 1) M_KR_layOut Q 61 [some (.inr 38), none, some (.inl x2), some (.inl x3), none, none, some (.inl x6), none] [] μ := by
  refine aw_iload d_KR_layOut_61 rfl ?_
  refine aw_iload_n d_KR_layOut_63 rfl ?_
  refine aw_mabs d_KR_layOut_64 lk_KR_32 (Nat.le_of_ble_eq_true rfl) (by omega) ?_
  refine aw_icmp_ge (tgt := 103) d_KR_layOut_67 (by decide) (fun q => ?_) (fun q => ?_)
  · replace h := h.1 q
    exact aw_vret d_KR_layOut_103 rfl h
  · replace h := h.2 q
    refine aw_iload_n d_KR_layOut_70 rfl ?_
    refine aw_iload d_KR_layOut_71 rfl ?_
    refine aw_callS (as := [.inl x2, .inl x6]) d_KR_layOut_73 lm_KR_38 rfl (Nat.le_of_ble_eq_true rfl) rfl h (fun r2 u1 h => ?_)
    refine aw_istore d_KR_layOut_76 (Nat.le_of_ble_eq_true rfl) ?_
    refine aw_aload_n d_KR_layOut_78 rfl ?_
    refine aw_iload d_KR_layOut_79 rfl ?_
    refine aw_iload_n d_KR_layOut_81 rfl ?_
    refine aw_iload d_KR_layOut_82 rfl ?_
    refine aw_callS (as := [.inl x2, .inl r2]) d_KR_layOut_84 lm_KR_42 rfl (Nat.le_of_ble_eq_true rfl) rfl h (fun r4 u3 h => ?_)
    refine aw_iload d_KR_layOut_87 rfl ?_
    refine aw_iload_n d_KR_layOut_89 rfl ?_
    refine aw_iload_n d_KR_layOut_90 rfl ?_
    refine aw_callS (as := [.inl r2, .inl x2, .inl x3]) d_KR_layOut_91 lm_KR_45 rfl (Nat.le_of_ble_eq_true rfl) rfl h (fun r6 u5 h => ?_)
    refine aw_callVv (as := [.inl r2, .inl r4, .inl r6]) d_KR_layOut_94 lm_KR_49 rfl rfl (by decide) rfl (Nat.le_of_ble_eq_true rfl) rfl h (fun u7 h => ?_)
    refine aw_iinc (v := 1) d_KR_layOut_97 rfl (by decide) ?_
    refine aw_goto (tgt := 61) d_KR_layOut_100 (by decide) ?_
    refine aw_drop 7 ?_
    exact h
set_option maxRecDepth 100000 in
theorem vc_KR_addNaturals_0 {G : Gp} {d : Nat} {Q : Int32 → Mem → Prop} {x1 x2 x3 : Int32} {μ : Mem}
    (h : AW G (d + 1) M_KR_addNaturals Q 3 [some (.inr 38), some (.inl x1), some (.inl x2), some (.inl x3), some (.inl (0 : Int32)), none] [] μ) :
    AW G (d + 1) M_KR_addNaturals Q 0 [some (.inr 38), some (.inl x1), some (.inl x2), some (.inl x3), none, none] [] μ := by
  refine aw_iconst (v := 0) d_KR_addNaturals_0 (by decide) ?_
  refine aw_istore d_KR_addNaturals_1 (Nat.le_of_ble_eq_true rfl) ?_
  exact h
theorem en_KR_addNaturals {G : Gp} {d : Nat} {Q : Int32 → Mem → Prop} {x1 x2 x3 : Int32} {μ : Mem}
    (h : AW G (d + 1) M_KR_addNaturals Q 0 [some (.inr 38), some (.inl x1), some (.inl x2), some (.inl x3), none, none] [] μ) :
    Ct G (d + 1) M_KR_addNaturals [.inr 38, .inl x1, .inl x2, .inl x3] μ Q := ct_of (by decide) (Nat.le_of_ble_eq_true rfl) h
set_option maxRecDepth 100000 in
theorem vc_KR_addNaturals_3 {G : Gp} {d : Nat} {Q : Int32 → Mem → Prop} {x1 x2 x3 x4 : Int32} {μ : Mem}
    (h : ((mabs x1) ≤ x4 → Q 0 μ) ∧ (¬ (mabs x1) ≤ x4 → Ct G d M_KR_letterOf [.inl x1, .inl x4] μ (fun r2 u1 => Ct G d M_KR_alterOf [.inl x2, .inl r2] u1 (fun r4 u3 => (¬ r4 = 0 → AW G (d + 1) M_KR_addNaturals Q 3 [some (.inr 38), some (.inl x1), some (.inl x2), some (.inl x3), some (.inl (x4 + (1 : Int32))), none] [] u3) ∧ (r4 = 0 → Ct G d M_KR_placeFor [.inl r2, .inl x1, .inl x3] u3 (fun r6 u5 => Ct G d M_KR_append [.inr 38, .inl r2, .inl (0 : Int32), .inl r6] u5 (fun _ u7 => AW G (d + 1) M_KR_addNaturals Q 3 [some (.inr 38), some (.inl x1), some (.inl x2), some (.inl x3), some (.inl (x4 + (1 : Int32))), none] [] u7))))))) :
    AW G (d + 1) M_KR_addNaturals Q 3 [some (.inr 38), some (.inl x1), some (.inl x2), some (.inl x3), some (.inl x4), none] [] μ := by
  refine aw_iload d_KR_addNaturals_3 rfl ?_
  refine aw_iload_n d_KR_addNaturals_5 rfl ?_
  refine aw_mabs d_KR_addNaturals_6 lk_KR_32 (Nat.le_of_ble_eq_true rfl) (by omega) ?_
  refine aw_icmp_ge (tgt := 49) d_KR_addNaturals_9 (by decide) (fun q => ?_) (fun q => ?_)
  · replace h := h.1 q
    exact aw_vret d_KR_addNaturals_49 rfl h
  · replace h := h.2 q
    refine aw_iload_n d_KR_addNaturals_12 rfl ?_
    refine aw_iload d_KR_addNaturals_13 rfl ?_
    refine aw_callS (as := [.inl x1, .inl x4]) d_KR_addNaturals_15 lm_KR_38 rfl (Nat.le_of_ble_eq_true rfl) rfl h (fun r2 u1 h => ?_)
    refine aw_istore d_KR_addNaturals_18 (Nat.le_of_ble_eq_true rfl) ?_
    refine aw_iload_n d_KR_addNaturals_20 rfl ?_
    refine aw_iload d_KR_addNaturals_21 rfl ?_
    refine aw_callS (as := [.inl x2, .inl r2]) d_KR_addNaturals_23 lm_KR_42 rfl (Nat.le_of_ble_eq_true rfl) rfl h (fun r4 u3 h => ?_)
    refine aw_if_ne (tgt := 43) d_KR_addNaturals_26 (by decide) (fun q => ?_) (fun q => ?_)
    · replace h := h.1 q
      refine aw_iinc (v := 1) d_KR_addNaturals_43 rfl (by decide) ?_
      refine aw_goto (tgt := 3) d_KR_addNaturals_46 (by decide) ?_
      refine aw_drop 5 ?_
      exact h
    · replace h := h.2 q
      refine aw_aload_n d_KR_addNaturals_29 rfl ?_
      refine aw_iload d_KR_addNaturals_30 rfl ?_
      refine aw_iconst (v := 0) d_KR_addNaturals_32 (by decide) ?_
      refine aw_iload d_KR_addNaturals_33 rfl ?_
      refine aw_iload_n d_KR_addNaturals_35 rfl ?_
      refine aw_iload_n d_KR_addNaturals_36 rfl ?_
      refine aw_callS (as := [.inl r2, .inl x1, .inl x3]) d_KR_addNaturals_37 lm_KR_45 rfl (Nat.le_of_ble_eq_true rfl) rfl h (fun r6 u5 h => ?_)
      refine aw_callVv (as := [.inl r2, .inl (0 : Int32), .inl r6]) d_KR_addNaturals_40 lm_KR_49 rfl rfl (by decide) rfl (Nat.le_of_ble_eq_true rfl) rfl h (fun u7 h => ?_)
      refine aw_iinc (v := 1) d_KR_addNaturals_43 rfl (by decide) ?_
      refine aw_goto (tgt := 3) d_KR_addNaturals_46 (by decide) ?_
      refine aw_drop 5 ?_
      exact h
set_option maxRecDepth 100000 in
theorem vc_KR_letterOf_0 {G : Gp} {d : Nat} {Q : Int32 → Mem → Prop} {x0 x1 : Int32} {μ : Mem}
    (h : (x0 ≤ 0 → vp_in x1 7 ∧ Q (([6, 2, 5, 1, 4, 0, 3] : List Int32).getD (ix x1) 0) μ) ∧ (¬ x0 ≤ 0 → vp_in x1 7 ∧ Q (([3, 0, 4, 1, 5, 2, 6] : List Int32).getD (ix x1) 0) μ)) :
    AW G d M_KR_letterOf Q 0 [some (.inl x0), some (.inl x1)] [] μ := by
  refine aw_iload_n d_KR_letterOf_0 rfl ?_
  refine aw_if_le (tgt := 12) d_KR_letterOf_1 (by decide) (fun q => ?_) (fun q => ?_)
  · replace h := h.1 q
    refine aw_gets d_KR_letterOf_12 ls_KR_55 ?_
    refine aw_iload_n d_KR_letterOf_15 rfl ?_
    refine aw_sald (t := 6) d_KR_letterOf_16 rfl h.1 ?_
    replace h := h.2
    exact aw_iret d_KR_letterOf_17 rfl h
  · replace h := h.2 q
    refine aw_gets d_KR_letterOf_4 ls_KR_52 ?_
    refine aw_iload_n d_KR_letterOf_7 rfl ?_
    refine aw_sald (t := 5) d_KR_letterOf_8 rfl h.1 ?_
    replace h := h.2
    refine aw_goto (tgt := 17) d_KR_letterOf_9 (by decide) ?_
    exact aw_iret d_KR_letterOf_17 rfl h
theorem en_KR_letterOf {G : Gp} {d : Nat} {Q : Int32 → Mem → Prop} {x0 x1 : Int32} {μ : Mem}
    (h : AW G d M_KR_letterOf Q 0 [some (.inl x0), some (.inl x1)] [] μ) :
    Ct G d M_KR_letterOf [.inl x0, .inl x1] μ Q := ct_of (by decide) (Nat.le_of_ble_eq_true rfl) h
set_option maxRecDepth 100000 in
theorem vc_KR_placeFor_0 {G : Gp} {d : Nat} {Q : Int32 → Mem → Prop} {x0 x1 x2 : Int32} {μ : Mem}
    (h : (x1 ≤ 0 → vp_in x2 3 ∧ ∀ y1 : Int32, y1 = (([7, 5, 6] : List Int32).getD (ix x2) 0) → vp_in x2 3 ∧ ∀ y2 : Int32, y2 = (((([30, 18, 24] : List Int32).getD (ix x2) 0) + y1) - ((([30, 18, 24] : List Int32).getD (ix x2) 0) + y1) / (7 : Int32) * (7 : Int32)) → Q (y1 - (((y2 - x0) + (7 : Int32)) - ((y2 - x0) + (7 : Int32)) / (7 : Int32) * (7 : Int32))) μ) ∧ (¬ x1 ≤ 0 → vp_in x2 3 ∧ ∀ y3 : Int32, y3 = (([9, 7, 8] : List Int32).getD (ix x2) 0) → vp_in x2 3 ∧ ∀ y4 : Int32, y4 = (((([30, 18, 24] : List Int32).getD (ix x2) 0) + y3) - ((([30, 18, 24] : List Int32).getD (ix x2) 0) + y3) / (7 : Int32) * (7 : Int32)) → Q (y3 - (((y4 - x0) + (7 : Int32)) - ((y4 - x0) + (7 : Int32)) / (7 : Int32) * (7 : Int32))) μ)) :
    AW G d M_KR_placeFor Q 0 [some (.inl x0), some (.inl x1), some (.inl x2), none, none] [] μ := by
  refine aw_iload_n d_KR_placeFor_0 rfl ?_
  refine aw_if_le (tgt := 12) d_KR_placeFor_1 (by decide) (fun q => ?_) (fun q => ?_)
  · replace h := h.1 q
    refine aw_gets d_KR_placeFor_12 ls_KR_61 ?_
    refine aw_iload_n d_KR_placeFor_15 rfl ?_
    refine aw_sald (t := 8) d_KR_placeFor_16 rfl h.1 ?_
    replace h := h.2
    refine aw_top (fun y1 e => ?_)
    replace h := h _ e
    refine aw_istore_n d_KR_placeFor_17 (Nat.le_of_ble_eq_true rfl) ?_
    refine aw_gets d_KR_placeFor_18 ls_KR_64 ?_
    refine aw_iload_n d_KR_placeFor_21 rfl ?_
    refine aw_sald (t := 1) d_KR_placeFor_22 rfl h.1 ?_
    replace h := h.2
    refine aw_iload_n d_KR_placeFor_23 rfl ?_
    refine aw_iadd d_KR_placeFor_24 ?_
    refine aw_bipush (v := 7) d_KR_placeFor_25 (by decide) ?_
    refine aw_irem d_KR_placeFor_27 (by decide) ?_
    refine aw_top (fun y2 e => ?_)
    replace h := h _ e
    refine aw_istore d_KR_placeFor_28 (Nat.le_of_ble_eq_true rfl) ?_
    refine aw_iload_n d_KR_placeFor_30 rfl ?_
    refine aw_iload d_KR_placeFor_31 rfl ?_
    refine aw_iload_n d_KR_placeFor_33 rfl ?_
    refine aw_isub d_KR_placeFor_34 ?_
    refine aw_bipush (v := 7) d_KR_placeFor_35 (by decide) ?_
    refine aw_iadd d_KR_placeFor_37 ?_
    refine aw_bipush (v := 7) d_KR_placeFor_38 (by decide) ?_
    refine aw_irem d_KR_placeFor_40 (by decide) ?_
    refine aw_isub d_KR_placeFor_41 ?_
    exact aw_iret d_KR_placeFor_42 rfl h
  · replace h := h.2 q
    refine aw_gets d_KR_placeFor_4 ls_KR_58 ?_
    refine aw_iload_n d_KR_placeFor_7 rfl ?_
    refine aw_sald (t := 7) d_KR_placeFor_8 rfl h.1 ?_
    replace h := h.2
    refine aw_goto (tgt := 17) d_KR_placeFor_9 (by decide) ?_
    refine aw_top (fun y3 e => ?_)
    replace h := h _ e
    refine aw_istore_n d_KR_placeFor_17 (Nat.le_of_ble_eq_true rfl) ?_
    refine aw_gets d_KR_placeFor_18 ls_KR_64 ?_
    refine aw_iload_n d_KR_placeFor_21 rfl ?_
    refine aw_sald (t := 1) d_KR_placeFor_22 rfl h.1 ?_
    replace h := h.2
    refine aw_iload_n d_KR_placeFor_23 rfl ?_
    refine aw_iadd d_KR_placeFor_24 ?_
    refine aw_bipush (v := 7) d_KR_placeFor_25 (by decide) ?_
    refine aw_irem d_KR_placeFor_27 (by decide) ?_
    refine aw_top (fun y4 e => ?_)
    replace h := h _ e
    refine aw_istore d_KR_placeFor_28 (Nat.le_of_ble_eq_true rfl) ?_
    refine aw_iload_n d_KR_placeFor_30 rfl ?_
    refine aw_iload d_KR_placeFor_31 rfl ?_
    refine aw_iload_n d_KR_placeFor_33 rfl ?_
    refine aw_isub d_KR_placeFor_34 ?_
    refine aw_bipush (v := 7) d_KR_placeFor_35 (by decide) ?_
    refine aw_iadd d_KR_placeFor_37 ?_
    refine aw_bipush (v := 7) d_KR_placeFor_38 (by decide) ?_
    refine aw_irem d_KR_placeFor_40 (by decide) ?_
    refine aw_isub d_KR_placeFor_41 ?_
    exact aw_iret d_KR_placeFor_42 rfl h
theorem en_KR_placeFor {G : Gp} {d : Nat} {Q : Int32 → Mem → Prop} {x0 x1 x2 : Int32} {μ : Mem}
    (h : AW G d M_KR_placeFor Q 0 [some (.inl x0), some (.inl x1), some (.inl x2), none, none] [] μ) :
    Ct G d M_KR_placeFor [.inl x0, .inl x1, .inl x2] μ Q := ct_of (by decide) (Nat.le_of_ble_eq_true rfl) h
set_option maxRecDepth 100000 in
theorem vc_KR_append_0 {G : Gp} {d : Nat} {Q : Int32 → Mem → Prop} {x1 x2 x3 : Int32} {μ : Mem}
    (h : ((μ 38 3) < (14 : Int32) → vp_in (μ 38 3) 14 ∧ ∀ u1 : Mem, u1 = up μ 39 (ix (μ 38 3)) x1 → vp_in (u1 38 3) 14 ∧ ∀ u2 : Mem, u2 = up u1 40 (ix (u1 38 3)) x2 → vp_in (u2 38 3) 14 ∧ ∀ u3 : Mem, u3 = up u2 41 (ix (u2 38 3)) x3 → ∀ u4 : Mem, u4 = up u3 38 3 ((u3 38 3) + (1 : Int32)) → Q 0 u4) ∧ (¬ (μ 38 3) < (14 : Int32) → Q 0 μ)) :
    AW G d M_KR_append Q 0 [some (.inr 38), some (.inl x1), some (.inl x2), some (.inl x3)] [] μ := by
  refine aw_aload_n d_KR_append_0 rfl ?_
  refine aw_getI d_KR_append_1 lf_KR_24 rfl rfl ?_
  refine aw_bipush (v := 14) d_KR_append_4 (by decide) ?_
  refine aw_icmp_lt (tgt := 10) d_KR_append_6 (by decide) (fun q => ?_) (fun q => ?_)
  · replace h := h.1 q
    refine aw_aload_n d_KR_append_10 rfl ?_
    refine aw_getR (t := 39) d_KR_append_11 lf_KR_11 rfl rfl ?_
    refine aw_aload_n d_KR_append_14 rfl ?_
    refine aw_getI d_KR_append_15 lf_KR_24 rfl rfl ?_
    refine aw_iload_n d_KR_append_18 rfl ?_
    refine aw_iast d_KR_append_19 rfl h.1 ?_
    replace h := h.2
    refine aw_mem (fun u1 e => ?_)
    replace h := h _ e
    refine aw_aload_n d_KR_append_20 rfl ?_
    refine aw_getR (t := 40) d_KR_append_21 lf_KR_15 rfl rfl ?_
    refine aw_aload_n d_KR_append_24 rfl ?_
    refine aw_getI d_KR_append_25 lf_KR_24 rfl rfl ?_
    refine aw_iload_n d_KR_append_28 rfl ?_
    refine aw_iast d_KR_append_29 rfl h.1 ?_
    replace h := h.2
    refine aw_mem (fun u2 e => ?_)
    replace h := h _ e
    refine aw_aload_n d_KR_append_30 rfl ?_
    refine aw_getR (t := 41) d_KR_append_31 lf_KR_18 rfl rfl ?_
    refine aw_aload_n d_KR_append_34 rfl ?_
    refine aw_getI d_KR_append_35 lf_KR_24 rfl rfl ?_
    refine aw_iload_n d_KR_append_38 rfl ?_
    refine aw_iast d_KR_append_39 rfl h.1 ?_
    replace h := h.2
    refine aw_mem (fun u3 e => ?_)
    replace h := h _ e
    refine aw_aload_n d_KR_append_40 rfl ?_
    refine aw_dup d_KR_append_41 ?_
    refine aw_getI d_KR_append_42 lf_KR_24 rfl rfl ?_
    refine aw_iconst (v := 1) d_KR_append_45 (by decide) ?_
    refine aw_iadd d_KR_append_46 ?_
    refine aw_putI d_KR_append_47 lf_KR_24 ⟨_, _, _, rfl, rfl, rfl⟩ rfl rfl ?_
    refine aw_mem (fun u4 e => ?_)
    replace h := h _ e
    exact aw_vret d_KR_append_50 rfl h
  · replace h := h.2 q
    exact aw_vret d_KR_append_9 rfl h
theorem en_KR_append {G : Gp} {d : Nat} {Q : Int32 → Mem → Prop} {x1 x2 x3 : Int32} {μ : Mem}
    (h : AW G d M_KR_append Q 0 [some (.inr 38), some (.inl x1), some (.inl x2), some (.inl x3)] [] μ) :
    Ct G d M_KR_append [.inr 38, .inl x1, .inl x2, .inl x3] μ Q := ct_of (by decide) (Nat.le_of_ble_eq_true rfl) h
