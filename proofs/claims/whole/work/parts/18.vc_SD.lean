/-! verification conditions, by program -/
set_option maxRecDepth 100000 in
theorem vc_SD_note_0 {G : Gp} {d : Nat} {Q : Int32 → Mem → Prop} {x1 x2 x3 x4 x5 : Int32} {μ : Mem}
    (h : Ct G d M_SD_within [.inl x1, .inl (0 : Int32), .inl (69 : Int32)] μ (fun r2 u1 => (r2 = 0 → Q (-3 : Int32) u1) ∧ (¬ r2 = 0 → Ct G d M_SD_within [.inl x2, .inl (-4 : Int32), .inl (4 : Int32)] u1 (fun r4 u3 => (r4 = 0 → Q (-3 : Int32) u3) ∧ (¬ r4 = 0 → Ct G d M_SD_isBar [.inl x3] u3 (fun r6 u5 => (r6 = 0 → Q (-3 : Int32) u5) ∧ (¬ r6 = 0 → Ct G d M_SD_within [.inl x4, .inl (0 : Int32), .inl (999 : Int32)] u5 (fun r8 u7 => (r8 = 0 → Q (-3 : Int32) u7) ∧ (¬ r8 = 0 → Ct G d M_SD_within [.inl x5, .inl (0 : Int32), .inl (3 : Int32)] u7 (fun r10 u9 => (¬ r10 = 0 → ((u9 1 7) < (60 : Int32) → Ct G d M_SD_forgetAnswers [.inr 0] u9 (fun _ u11 => Ct G d M_NO_add [.inr 1, .inl x1, .inl x2, .inl x3, .inl x4, .inl x5] u11 (fun r13 u12 => Q r13 u12))) ∧ (¬ (u9 1 7) < (60 : Int32) → Q (-5 : Int32) u9)) ∧ (r10 = 0 → Q (-3 : Int32) u9))))))))))) :
    AW G (d + 1) M_SD_note Q 0 [some (.inr 0), some (.inl x1), some (.inl x2), some (.inl x3), some (.inl x4), some (.inl x5)] [] μ := by
  refine aw_iload_n d_SD_note_0 rfl ?_
  refine aw_iconst (v := 0) d_SD_note_1 (by decide) ?_
  refine aw_bipush (v := 69) d_SD_note_2 (by decide) ?_
  refine aw_callS (as := [.inl x1, .inl (0 : Int32), .inl (69 : Int32)]) d_SD_note_4 lm_SD_64 rfl (Nat.le_of_ble_eq_true rfl) rfl h (fun r2 u1 h => ?_)
  refine aw_if_eq (tgt := 49) d_SD_note_7 (by decide) (fun q => ?_) (fun q => ?_)
  · replace h := h.1 q
    refine aw_bipush (v := (-3)) d_SD_note_49 (by decide) ?_
    exact aw_iret d_SD_note_51 rfl h
  · replace h := h.2 q
    refine aw_iload_n d_SD_note_10 rfl ?_
    refine aw_bipush (v := (-4)) d_SD_note_11 (by decide) ?_
    refine aw_iconst (v := 4) d_SD_note_13 (by decide) ?_
    refine aw_callS (as := [.inl x2, .inl (-4 : Int32), .inl (4 : Int32)]) d_SD_note_14 lm_SD_64 rfl (Nat.le_of_ble_eq_true rfl) rfl h (fun r4 u3 h => ?_)
    refine aw_if_eq (tgt := 49) d_SD_note_17 (by decide) (fun q => ?_) (fun q => ?_)
    · replace h := h.1 q
      refine aw_bipush (v := (-3)) d_SD_note_49 (by decide) ?_
      exact aw_iret d_SD_note_51 rfl h
    · replace h := h.2 q
      refine aw_iload_n d_SD_note_20 rfl ?_
      refine aw_callS (as := [.inl x3]) d_SD_note_21 lm_SD_68 rfl (Nat.le_of_ble_eq_true rfl) rfl h (fun r6 u5 h => ?_)
      refine aw_if_eq (tgt := 49) d_SD_note_24 (by decide) (fun q => ?_) (fun q => ?_)
      · replace h := h.1 q
        refine aw_bipush (v := (-3)) d_SD_note_49 (by decide) ?_
        exact aw_iret d_SD_note_51 rfl h
      · replace h := h.2 q
        refine aw_iload d_SD_note_27 rfl ?_
        refine aw_iconst (v := 0) d_SD_note_29 (by decide) ?_
        refine aw_sipush (v := 999) d_SD_note_30 (by decide) ?_
        refine aw_callS (as := [.inl x4, .inl (0 : Int32), .inl (999 : Int32)]) d_SD_note_33 lm_SD_64 rfl (Nat.le_of_ble_eq_true rfl) rfl h (fun r8 u7 h => ?_)
        refine aw_if_eq (tgt := 49) d_SD_note_36 (by decide) (fun q => ?_) (fun q => ?_)
        · replace h := h.1 q
          refine aw_bipush (v := (-3)) d_SD_note_49 (by decide) ?_
          exact aw_iret d_SD_note_51 rfl h
        · replace h := h.2 q
          refine aw_iload d_SD_note_39 rfl ?_
          refine aw_iconst (v := 0) d_SD_note_41 (by decide) ?_
          refine aw_iconst (v := 3) d_SD_note_42 (by decide) ?_
          refine aw_callS (as := [.inl x5, .inl (0 : Int32), .inl (3 : Int32)]) d_SD_note_43 lm_SD_64 rfl (Nat.le_of_ble_eq_true rfl) rfl h (fun r10 u9 h => ?_)
          refine aw_if_ne (tgt := 52) d_SD_note_46 (by decide) (fun q => ?_) (fun q => ?_)
          · replace h := h.1 q
            refine aw_aload_n d_SD_note_52 rfl ?_
            refine aw_getR (t := 1) d_SD_note_53 lf_SD_10 rfl rfl ?_
            refine aw_getI d_SD_note_56 lf_SD_72 rfl rfl ?_
            refine aw_bipush (v := 60) d_SD_note_59 (by decide) ?_
            refine aw_icmp_lt (tgt := 67) d_SD_note_61 (by decide) (fun q => ?_) (fun q => ?_)
            · replace h := h.1 q
              refine aw_aload_n d_SD_note_67 rfl ?_
              refine aw_callVv (as := []) d_SD_note_68 lm_SD_76 rfl rfl (by decide) rfl (Nat.le_of_ble_eq_true rfl) rfl h (fun u11 h => ?_)
              refine aw_aload_n d_SD_note_71 rfl ?_
              refine aw_getR (t := 1) d_SD_note_72 lf_SD_10 rfl rfl ?_
              refine aw_iload_n d_SD_note_75 rfl ?_
              refine aw_iload_n d_SD_note_76 rfl ?_
              refine aw_iload_n d_SD_note_77 rfl ?_
              refine aw_iload d_SD_note_78 rfl ?_
              refine aw_iload d_SD_note_80 rfl ?_
              refine aw_callV (as := [.inl x1, .inl x2, .inl x3, .inl x4, .inl x5]) d_SD_note_82 lm_SD_79 rfl rfl (by decide) rfl (Nat.le_of_ble_eq_true rfl) rfl h (fun r13 u12 h => ?_)
              exact aw_iret d_SD_note_85 rfl h
            · replace h := h.2 q
              refine aw_bipush (v := (-5)) d_SD_note_64 (by decide) ?_
              exact aw_iret d_SD_note_66 rfl h
          · replace h := h.2 q
            refine aw_bipush (v := (-3)) d_SD_note_49 (by decide) ?_
            exact aw_iret d_SD_note_51 rfl h
theorem en_SD_note {G : Gp} {d : Nat} {Q : Int32 → Mem → Prop} {x1 x2 x3 x4 x5 : Int32} {μ : Mem}
    (h : AW G (d + 1) M_SD_note Q 0 [some (.inr 0), some (.inl x1), some (.inl x2), some (.inl x3), some (.inl x4), some (.inl x5)] [] μ) :
    Ct G (d + 1) M_SD_note [.inr 0, .inl x1, .inl x2, .inl x3, .inl x4, .inl x5] μ Q := ct_of (by decide) (Nat.le_of_ble_eq_true rfl) h
set_option maxRecDepth 100000 in
theorem vc_SD_mark_0 {G : Gp} {d : Nat} {Q : Int32 → Mem → Prop} {x1 x2 x3 : Int32} {μ : Mem}
    (h : Ct G d M_NO_has [.inr 1, .inl x1] μ (fun r2 u1 => (¬ r2 = 0 → Ct G d M_SD_within [.inl x2, .inl (0 : Int32), .inl (2 : Int32)] u1 (fun r4 u3 => (r4 = 0 → Q (-3 : Int32) u3) ∧ (¬ r4 = 0 → vp_in x2 3 ∧ Ct G d M_SD_within [.inl x3, .inl (0 : Int32), .inl (([1, 1, 3] : List Int32).getD (ix x2) 0)] u3 (fun r6 u5 => (¬ r6 = 0 → (¬ x2 = 0 → Ct G d M_SD_forgetAnswers [.inr 0] u5 (fun _ u7 => Ct G d M_NO_setMark [.inr 1, .inl x1, .inl x2, .inl x3] u7 (fun r9 u8 => Q r9 u8))) ∧ (x2 = 0 → (¬ x3 = (1 : Int32) → Ct G d M_SD_forgetAnswers [.inr 0] u5 (fun _ u10 => Ct G d M_NO_setMark [.inr 1, .inl x1, .inl x2, .inl x3] u10 (fun r12 u11 => Q r12 u11))) ∧ (x3 = (1 : Int32) → Ct G d M_NO_possibleTie [.inr 1, .inl x1] u5 (fun r14 u13 => (¬ r14 = (-1 : Int32) → Ct G d M_SD_forgetAnswers [.inr 0] u13 (fun _ u15 => Ct G d M_NO_setMark [.inr 1, .inl x1, .inl x2, .inl x3] u15 (fun r17 u16 => Q r17 u16))) ∧ (r14 = (-1 : Int32) → Q (-4 : Int32) u13))))) ∧ (r6 = 0 → Q (-3 : Int32) u5))))) ∧ (r2 = 0 → Q (-2 : Int32) u1))) :
    AW G (d + 1) M_SD_mark Q 0 [some (.inr 0), some (.inl x1), some (.inl x2), some (.inl x3)] [] μ := by
  refine aw_aload_n d_SD_mark_0 rfl ?_
  refine aw_getR (t := 1) d_SD_mark_1 lf_SD_10 rfl rfl ?_
  refine aw_iload_n d_SD_mark_4 rfl ?_
  refine aw_callV (as := [.inl x1]) d_SD_mark_5 lm_SD_83 rfl rfl (by decide) rfl (Nat.le_of_ble_eq_true rfl) rfl h (fun r2 u1 h => ?_)
  refine aw_if_ne (tgt := 14) d_SD_mark_8 (by decide) (fun q => ?_) (fun q => ?_)
  · replace h := h.1 q
    refine aw_iload_n d_SD_mark_14 rfl ?_
    refine aw_iconst (v := 0) d_SD_mark_15 (by decide) ?_
    refine aw_iconst (v := 2) d_SD_mark_16 (by decide) ?_
    refine aw_callS (as := [.inl x2, .inl (0 : Int32), .inl (2 : Int32)]) d_SD_mark_17 lm_SD_64 rfl (Nat.le_of_ble_eq_true rfl) rfl h (fun r4 u3 h => ?_)
    refine aw_if_eq (tgt := 36) d_SD_mark_20 (by decide) (fun q => ?_) (fun q => ?_)
    · replace h := h.1 q
      refine aw_bipush (v := (-3)) d_SD_mark_36 (by decide) ?_
      exact aw_iret d_SD_mark_38 rfl h
    · replace h := h.2 q
      refine aw_iload_n d_SD_mark_23 rfl ?_
      refine aw_iconst (v := 0) d_SD_mark_24 (by decide) ?_
      refine aw_gets d_SD_mark_25 ls_SD_86 ?_
      refine aw_iload_n d_SD_mark_28 rfl ?_
      refine aw_sald (t := 0) d_SD_mark_29 rfl h.1 ?_
      replace h := h.2
      refine aw_callS (as := [.inl x3, .inl (0 : Int32), .inl (([1, 1, 3] : List Int32).getD (ix x2) 0)]) d_SD_mark_30 lm_SD_64 rfl (Nat.le_of_ble_eq_true rfl) rfl h (fun r6 u5 h => ?_)
      refine aw_if_ne (tgt := 39) d_SD_mark_33 (by decide) (fun q => ?_) (fun q => ?_)
      · replace h := h.1 q
        refine aw_iload_n d_SD_mark_39 rfl ?_
        refine aw_if_ne (tgt := 63) d_SD_mark_40 (by decide) (fun q => ?_) (fun q => ?_)
        · replace h := h.1 q
          refine aw_aload_n d_SD_mark_63 rfl ?_
          refine aw_callVv (as := []) d_SD_mark_64 lm_SD_76 rfl rfl (by decide) rfl (Nat.le_of_ble_eq_true rfl) rfl h (fun u7 h => ?_)
          refine aw_aload_n d_SD_mark_67 rfl ?_
          refine aw_getR (t := 1) d_SD_mark_68 lf_SD_10 rfl rfl ?_
          refine aw_iload_n d_SD_mark_71 rfl ?_
          refine aw_iload_n d_SD_mark_72 rfl ?_
          refine aw_iload_n d_SD_mark_73 rfl ?_
          refine aw_callV (as := [.inl x1, .inl x2, .inl x3]) d_SD_mark_74 lm_SD_93 rfl rfl (by decide) rfl (Nat.le_of_ble_eq_true rfl) rfl h (fun r9 u8 h => ?_)
          exact aw_iret d_SD_mark_77 rfl h
        · replace h := h.2 q
          refine aw_iload_n d_SD_mark_43 rfl ?_
          refine aw_iconst (v := 1) d_SD_mark_44 (by decide) ?_
          refine aw_icmp_ne (tgt := 63) d_SD_mark_45 (by decide) (fun q => ?_) (fun q => ?_)
          · replace h := h.1 q
            refine aw_aload_n d_SD_mark_63 rfl ?_
            refine aw_callVv (as := []) d_SD_mark_64 lm_SD_76 rfl rfl (by decide) rfl (Nat.le_of_ble_eq_true rfl) rfl h (fun u10 h => ?_)
            refine aw_aload_n d_SD_mark_67 rfl ?_
            refine aw_getR (t := 1) d_SD_mark_68 lf_SD_10 rfl rfl ?_
            refine aw_iload_n d_SD_mark_71 rfl ?_
            refine aw_iload_n d_SD_mark_72 rfl ?_
            refine aw_iload_n d_SD_mark_73 rfl ?_
            refine aw_callV (as := [.inl x1, .inl x2, .inl x3]) d_SD_mark_74 lm_SD_93 rfl rfl (by decide) rfl (Nat.le_of_ble_eq_true rfl) rfl h (fun r12 u11 h => ?_)
            exact aw_iret d_SD_mark_77 rfl h
          · replace h := h.2 q
            refine aw_aload_n d_SD_mark_48 rfl ?_
            refine aw_getR (t := 1) d_SD_mark_49 lf_SD_10 rfl rfl ?_
            refine aw_iload_n d_SD_mark_52 rfl ?_
            refine aw_callV (as := [.inl x1]) d_SD_mark_53 lm_SD_89 rfl rfl (by decide) rfl (Nat.le_of_ble_eq_true rfl) rfl h (fun r14 u13 h => ?_)
            refine aw_iconst (v := (-1)) d_SD_mark_56 (by decide) ?_
            refine aw_icmp_ne (tgt := 63) d_SD_mark_57 (by decide) (fun q => ?_) (fun q => ?_)
            · replace h := h.1 q
              refine aw_aload_n d_SD_mark_63 rfl ?_
              refine aw_callVv (as := []) d_SD_mark_64 lm_SD_76 rfl rfl (by decide) rfl (Nat.le_of_ble_eq_true rfl) rfl h (fun u15 h => ?_)
              refine aw_aload_n d_SD_mark_67 rfl ?_
              refine aw_getR (t := 1) d_SD_mark_68 lf_SD_10 rfl rfl ?_
              refine aw_iload_n d_SD_mark_71 rfl ?_
              refine aw_iload_n d_SD_mark_72 rfl ?_
              refine aw_iload_n d_SD_mark_73 rfl ?_
              refine aw_callV (as := [.inl x1, .inl x2, .inl x3]) d_SD_mark_74 lm_SD_93 rfl rfl (by decide) rfl (Nat.le_of_ble_eq_true rfl) rfl h (fun r17 u16 h => ?_)
              exact aw_iret d_SD_mark_77 rfl h
            · replace h := h.2 q
              refine aw_bipush (v := (-4)) d_SD_mark_60 (by decide) ?_
              exact aw_iret d_SD_mark_62 rfl h
      · replace h := h.2 q
        refine aw_bipush (v := (-3)) d_SD_mark_36 (by decide) ?_
        exact aw_iret d_SD_mark_38 rfl h
  · replace h := h.2 q
    refine aw_bipush (v := (-2)) d_SD_mark_11 (by decide) ?_
    exact aw_iret d_SD_mark_13 rfl h
theorem en_SD_mark {G : Gp} {d : Nat} {Q : Int32 → Mem → Prop} {x1 x2 x3 : Int32} {μ : Mem}
    (h : AW G (d + 1) M_SD_mark Q 0 [some (.inr 0), some (.inl x1), some (.inl x2), some (.inl x3)] [] μ) :
    Ct G (d + 1) M_SD_mark [.inr 0, .inl x1, .inl x2, .inl x3] μ Q := ct_of (by decide) (Nat.le_of_ble_eq_true rfl) h
set_option maxRecDepth 100000 in
theorem vc_SD_key_0 {G : Gp} {d : Nat} {Q : Int32 → Mem → Prop} {x1 x2 : Int32} {μ : Mem}
    (h : Ct G d M_SD_isBar [.inl x1] μ (fun r2 u1 => (r2 = 0 → Q (-3 : Int32) u1) ∧ (¬ r2 = 0 → Ct G d M_SD_within [.inl x2, .inl (-7 : Int32), .inl (7 : Int32)] u1 (fun r4 u3 => (¬ r4 = 0 → Ct G d M_SD_forgetAnswers [.inr 0] u3 (fun _ u5 => Ct G d M_BB_tell [.inr 9, .inl x1, .inl x2] u5 (fun r7 u6 => Q r7 u6))) ∧ (r4 = 0 → Q (-3 : Int32) u3))))) :
    AW G (d + 1) M_SD_key Q 0 [some (.inr 0), some (.inl x1), some (.inl x2)] [] μ := by
  refine aw_iload_n d_SD_key_0 rfl ?_
  refine aw_callS (as := [.inl x1]) d_SD_key_1 lm_SD_68 rfl (Nat.le_of_ble_eq_true rfl) rfl h (fun r2 u1 h => ?_)
  refine aw_if_eq (tgt := 18) d_SD_key_4 (by decide) (fun q => ?_) (fun q => ?_)
  · replace h := h.1 q
    refine aw_bipush (v := (-3)) d_SD_key_18 (by decide) ?_
    exact aw_iret d_SD_key_20 rfl h
  · replace h := h.2 q
    refine aw_iload_n d_SD_key_7 rfl ?_
    refine aw_bipush (v := (-7)) d_SD_key_8 (by decide) ?_
    refine aw_bipush (v := 7) d_SD_key_10 (by decide) ?_
    refine aw_callS (as := [.inl x2, .inl (-7 : Int32), .inl (7 : Int32)]) d_SD_key_12 lm_SD_64 rfl (Nat.le_of_ble_eq_true rfl) rfl h (fun r4 u3 h => ?_)
    refine aw_if_ne (tgt := 21) d_SD_key_15 (by decide) (fun q => ?_) (fun q => ?_)
    · replace h := h.1 q
      refine aw_aload_n d_SD_key_21 rfl ?_
      refine aw_callVv (as := []) d_SD_key_22 lm_SD_76 rfl rfl (by decide) rfl (Nat.le_of_ble_eq_true rfl) rfl h (fun u5 h => ?_)
      refine aw_aload_n d_SD_key_25 rfl ?_
      refine aw_getR (t := 9) d_SD_key_26 lf_SD_19 rfl rfl ?_
      refine aw_iload_n d_SD_key_29 rfl ?_
      refine aw_iload_n d_SD_key_30 rfl ?_
      refine aw_callV (as := [.inl x1, .inl x2]) d_SD_key_31 lm_SD_97 rfl rfl (by decide) rfl (Nat.le_of_ble_eq_true rfl) rfl h (fun r7 u6 h => ?_)
      exact aw_iret d_SD_key_34 rfl h
    · replace h := h.2 q
      refine aw_bipush (v := (-3)) d_SD_key_18 (by decide) ?_
      exact aw_iret d_SD_key_20 rfl h
theorem en_SD_key {G : Gp} {d : Nat} {Q : Int32 → Mem → Prop} {x1 x2 : Int32} {μ : Mem}
    (h : AW G (d + 1) M_SD_key Q 0 [some (.inr 0), some (.inl x1), some (.inl x2)] [] μ) :
    Ct G (d + 1) M_SD_key [.inr 0, .inl x1, .inl x2] μ Q := ct_of (by decide) (Nat.le_of_ble_eq_true rfl) h
set_option maxRecDepth 100000 in
theorem vc_SD_clef_0 {G : Gp} {d : Nat} {Q : Int32 → Mem → Prop} {x1 x2 : Int32} {μ : Mem}
    (h : Ct G d M_SD_isBar [.inl x1] μ (fun r2 u1 => (r2 = 0 → Q (-3 : Int32) u1) ∧ (¬ r2 = 0 → Ct G d M_SD_within [.inl x2, .inl (0 : Int32), .inl ((3 : Int32) - (1 : Int32))] u1 (fun r4 u3 => (¬ r4 = 0 → Ct G d M_BB_tell [.inr 12, .inl x1, .inl x2] u3 (fun r6 u5 => Q r6 u5)) ∧ (r4 = 0 → Q (-3 : Int32) u3))))) :
    AW G (d + 1) M_SD_clef Q 0 [some (.inr 0), some (.inl x1), some (.inl x2)] [] μ := by
  refine aw_iload_n d_SD_clef_0 rfl ?_
  refine aw_callS (as := [.inl x1]) d_SD_clef_1 lm_SD_68 rfl (Nat.le_of_ble_eq_true rfl) rfl h (fun r2 u1 h => ?_)
  refine aw_if_eq (tgt := 21) d_SD_clef_4 (by decide) (fun q => ?_) (fun q => ?_)
  · replace h := h.1 q
    refine aw_bipush (v := (-3)) d_SD_clef_21 (by decide) ?_
    exact aw_iret d_SD_clef_23 rfl h
  · replace h := h.2 q
    refine aw_iload_n d_SD_clef_7 rfl ?_
    refine aw_iconst (v := 0) d_SD_clef_8 (by decide) ?_
    refine aw_gets d_SD_clef_9 ls_SD_101 ?_
    refine aw_slen (t := 1) (v := 3) d_SD_clef_12 rfl (by decide) ?_
    refine aw_iconst (v := 1) d_SD_clef_13 (by decide) ?_
    refine aw_isub d_SD_clef_14 ?_
    refine aw_callS (as := [.inl x2, .inl (0 : Int32), .inl ((3 : Int32) - (1 : Int32))]) d_SD_clef_15 lm_SD_64 rfl (Nat.le_of_ble_eq_true rfl) rfl h (fun r4 u3 h => ?_)
    refine aw_if_ne (tgt := 24) d_SD_clef_18 (by decide) (fun q => ?_) (fun q => ?_)
    · replace h := h.1 q
      refine aw_aload_n d_SD_clef_24 rfl ?_
      refine aw_getR (t := 12) d_SD_clef_25 lf_SD_23 rfl rfl ?_
      refine aw_iload_n d_SD_clef_28 rfl ?_
      refine aw_iload_n d_SD_clef_29 rfl ?_
      refine aw_callV (as := [.inl x1, .inl x2]) d_SD_clef_30 lm_SD_97 rfl rfl (by decide) rfl (Nat.le_of_ble_eq_true rfl) rfl h (fun r6 u5 h => ?_)
      exact aw_iret d_SD_clef_33 rfl h
    · replace h := h.2 q
      refine aw_bipush (v := (-3)) d_SD_clef_21 (by decide) ?_
      exact aw_iret d_SD_clef_23 rfl h
theorem en_SD_clef {G : Gp} {d : Nat} {Q : Int32 → Mem → Prop} {x1 x2 : Int32} {μ : Mem}
    (h : AW G (d + 1) M_SD_clef Q 0 [some (.inr 0), some (.inl x1), some (.inl x2)] [] μ) :
    Ct G (d + 1) M_SD_clef [.inr 0, .inl x1, .inl x2] μ Q := ct_of (by decide) (Nat.le_of_ble_eq_true rfl) h
set_option maxRecDepth 100000 in
theorem vc_SD_rule_0 {G : Gp} {d : Nat} {Q : Int32 → Mem → Prop} {x1 x2 : Int32} {μ : Mem}
    (h : Ct G d M_SD_within [.inl x1, .inl (0 : Int32), .inl (4 : Int32)] μ (fun r2 u1 => (r2 = 0 → Q (-3 : Int32) u1) ∧ (¬ r2 = 0 → vp_in x1 5 ∧ Ct G d M_SD_within [.inl x2, .inl (0 : Int32), .inl (([1, 1, 15, 1, 2] : List Int32).getD (ix x1) 0)] u1 (fun r4 u3 => (¬ r4 = 0 → vp_in x1 5 ∧ ∀ y5 : Int32, y5 = (u3 15 (ix x1)) → vp_in x1 5 ∧ ∀ u6 : Mem, u6 = up u3 15 (ix x1) x2 → Ct G d M_SD_forgetAnswers [.inr 0] u6 (fun _ u7 => Q y5 u7)) ∧ (r4 = 0 → Q (-3 : Int32) u3))))) :
    AW G (d + 1) M_SD_rule Q 0 [some (.inr 0), some (.inl x1), some (.inl x2), none] [] μ := by
  refine aw_iload_n d_SD_rule_0 rfl ?_
  refine aw_iconst (v := 0) d_SD_rule_1 (by decide) ?_
  refine aw_iconst (v := 4) d_SD_rule_2 (by decide) ?_
  refine aw_callS (as := [.inl x1, .inl (0 : Int32), .inl (4 : Int32)]) d_SD_rule_3 lm_SD_64 rfl (Nat.le_of_ble_eq_true rfl) rfl h (fun r2 u1 h => ?_)
  refine aw_if_eq (tgt := 22) d_SD_rule_6 (by decide) (fun q => ?_) (fun q => ?_)
  · replace h := h.1 q
    refine aw_bipush (v := (-3)) d_SD_rule_22 (by decide) ?_
    exact aw_iret d_SD_rule_24 rfl h
  · replace h := h.2 q
    refine aw_iload_n d_SD_rule_9 rfl ?_
    refine aw_iconst (v := 0) d_SD_rule_10 (by decide) ?_
    refine aw_gets d_SD_rule_11 ls_SD_104 ?_
    refine aw_iload_n d_SD_rule_14 rfl ?_
    refine aw_sald (t := 2) d_SD_rule_15 rfl h.1 ?_
    replace h := h.2
    refine aw_callS (as := [.inl x2, .inl (0 : Int32), .inl (([1, 1, 15, 1, 2] : List Int32).getD (ix x1) 0)]) d_SD_rule_16 lm_SD_64 rfl (Nat.le_of_ble_eq_true rfl) rfl h (fun r4 u3 h => ?_)
    refine aw_if_ne (tgt := 25) d_SD_rule_19 (by decide) (fun q => ?_) (fun q => ?_)
    · replace h := h.1 q
      refine aw_aload_n d_SD_rule_25 rfl ?_
      refine aw_getR (t := 15) d_SD_rule_26 lf_SD_26 rfl rfl ?_
      refine aw_iload_n d_SD_rule_29 rfl ?_
      refine aw_iald d_SD_rule_30 rfl h.1 ?_
      replace h := h.2
      refine aw_top (fun y5 e => ?_)
      replace h := h _ e
      refine aw_istore_n d_SD_rule_31 (Nat.le_of_ble_eq_true rfl) ?_
      refine aw_aload_n d_SD_rule_32 rfl ?_
      refine aw_getR (t := 15) d_SD_rule_33 lf_SD_26 rfl rfl ?_
      refine aw_iload_n d_SD_rule_36 rfl ?_
      refine aw_iload_n d_SD_rule_37 rfl ?_
      refine aw_iast d_SD_rule_38 rfl h.1 ?_
      replace h := h.2
      refine aw_mem (fun u6 e => ?_)
      replace h := h _ e
      refine aw_aload_n d_SD_rule_39 rfl ?_
      refine aw_callVv (as := []) d_SD_rule_40 lm_SD_76 rfl rfl (by decide) rfl (Nat.le_of_ble_eq_true rfl) rfl h (fun u7 h => ?_)
      refine aw_iload_n d_SD_rule_43 rfl ?_
      exact aw_iret d_SD_rule_44 rfl h
    · replace h := h.2 q
      refine aw_bipush (v := (-3)) d_SD_rule_22 (by decide) ?_
      exact aw_iret d_SD_rule_24 rfl h
theorem en_SD_rule {G : Gp} {d : Nat} {Q : Int32 → Mem → Prop} {x1 x2 : Int32} {μ : Mem}
    (h : AW G (d + 1) M_SD_rule Q 0 [some (.inr 0), some (.inl x1), some (.inl x2), none] [] μ) :
    Ct G (d + 1) M_SD_rule [.inr 0, .inl x1, .inl x2] μ Q := ct_of (by decide) (Nat.le_of_ble_eq_true rfl) h
set_option maxRecDepth 100000 in
theorem vc_SD_drop_0 {G : Gp} {d : Nat} {Q : Int32 → Mem → Prop} {μ : Mem}
    (h : (¬ (μ 1 7) = 0 → Ct G d M_SD_forgetAnswers [.inr 0] μ (fun _ u1 => Ct G d M_NO_removeLast [.inr 1] u1 (fun _ u2 => Q (u2 1 7) u2))) ∧ ((μ 1 7) = 0 → Q (-2 : Int32) μ)) :
    AW G (d + 1) M_SD_drop Q 0 [some (.inr 0)] [] μ := by
  refine aw_aload_n d_SD_drop_0 rfl ?_
  refine aw_getR (t := 1) d_SD_drop_1 lf_SD_10 rfl rfl ?_
  refine aw_getI d_SD_drop_4 lf_SD_72 rfl rfl ?_
  refine aw_if_ne (tgt := 13) d_SD_drop_7 (by decide) (fun q => ?_) (fun q => ?_)
  · replace h := h.1 q
    refine aw_aload_n d_SD_drop_13 rfl ?_
    refine aw_callVv (as := []) d_SD_drop_14 lm_SD_76 rfl rfl (by decide) rfl (Nat.le_of_ble_eq_true rfl) rfl h (fun u1 h => ?_)
    refine aw_aload_n d_SD_drop_17 rfl ?_
    refine aw_getR (t := 1) d_SD_drop_18 lf_SD_10 rfl rfl ?_
    refine aw_callVv (as := []) d_SD_drop_21 lm_SD_107 rfl rfl (by decide) rfl (Nat.le_of_ble_eq_true rfl) rfl h (fun u2 h => ?_)
    refine aw_aload_n d_SD_drop_24 rfl ?_
    refine aw_getR (t := 1) d_SD_drop_25 lf_SD_10 rfl rfl ?_
    refine aw_getI d_SD_drop_28 lf_SD_72 rfl rfl ?_
    exact aw_iret d_SD_drop_31 rfl h
  · replace h := h.2 q
    refine aw_bipush (v := (-2)) d_SD_drop_10 (by decide) ?_
    exact aw_iret d_SD_drop_12 rfl h
theorem en_SD_drop {G : Gp} {d : Nat} {Q : Int32 → Mem → Prop} {μ : Mem}
    (h : AW G (d + 1) M_SD_drop Q 0 [some (.inr 0)] [] μ) :
    Ct G (d + 1) M_SD_drop [.inr 0] μ Q := ct_of (by decide) (Nat.le_of_ble_eq_true rfl) h
set_option maxRecDepth 100000 in
theorem vc_SD_count_0 {G : Gp} {d : Nat} {Q : Int32 → Mem → Prop} {x1 : Int32} {μ : Mem}
    (h : ((x1.toInt < 0 ∨ 3 < x1.toInt) → Q (-3 : Int32) μ) ∧ (x1 = nI 0 → Q (μ 1 7) μ) ∧ (x1 = nI 1 → Ct G d M_SG_find [.inr 16] μ (fun _ u1 => Ct G d M_SG_howMany [.inr 16, .inl (1 : Int32)] u1 (fun r3 u2 => Q r3 u2))) ∧ (x1 = nI 2 → Ct G d M_SG_find [.inr 16] μ (fun _ u4 => Ct G d M_SG_howMany [.inr 16, .inl (2 : Int32)] u4 (fun r6 u5 => Q r6 u5))) ∧ (x1 = nI 3 → Ct G d M_NO_howManyChords [.inr 1] μ (fun r8 u7 => Q r8 u7))) :
    AW G (d + 1) M_SD_count Q 0 [some (.inr 0), some (.inl x1)] [] μ := by
  refine aw_iload_n d_SD_count_0 rfl ?_
  refine aw_table (dt := 80) (tg := [32, 40, 56, 72]) d_SD_count_1 (by decide) rfl (by decide) (by decide) (fun q => ?_) (fun j hj q => ?_)
  · replace h := h.1 q
    refine aw_bipush (v := (-3)) d_SD_count_80 (by decide) ?_
    exact aw_iret d_SD_count_82 rfl h
  · replace h := h.2
    match j, hj, q with
    | 0, _, q =>
      show AW G (d + 1) M_SD_count Q 32 _ _ _
      replace h := h.1 q
      refine aw_aload_n d_SD_count_32 rfl ?_
      refine aw_getR (t := 1) d_SD_count_33 lf_SD_10 rfl rfl ?_
      refine aw_getI d_SD_count_36 lf_SD_72 rfl rfl ?_
      exact aw_iret d_SD_count_39 rfl h
    | 1, _, q =>
      show AW G (d + 1) M_SD_count Q 40 _ _ _
      replace h := h.2.1 q
      refine aw_aload_n d_SD_count_40 rfl ?_
      refine aw_getR (t := 16) d_SD_count_41 lf_SD_35 rfl rfl ?_
      refine aw_callVv (as := []) d_SD_count_44 lm_SD_110 rfl rfl (by decide) rfl (Nat.le_of_ble_eq_true rfl) rfl h (fun u1 h => ?_)
      refine aw_aload_n d_SD_count_47 rfl ?_
      refine aw_getR (t := 16) d_SD_count_48 lf_SD_35 rfl rfl ?_
      refine aw_iconst (v := 1) d_SD_count_51 (by decide) ?_
      refine aw_callV (as := [.inl (1 : Int32)]) d_SD_count_52 lm_SD_113 rfl rfl (by decide) rfl (Nat.le_of_ble_eq_true rfl) rfl h (fun r3 u2 h => ?_)
      exact aw_iret d_SD_count_55 rfl h
    | 2, _, q =>
      show AW G (d + 1) M_SD_count Q 56 _ _ _
      replace h := h.2.2.1 q
      refine aw_aload_n d_SD_count_56 rfl ?_
      refine aw_getR (t := 16) d_SD_count_57 lf_SD_35 rfl rfl ?_
      refine aw_callVv (as := []) d_SD_count_60 lm_SD_110 rfl rfl (by decide) rfl (Nat.le_of_ble_eq_true rfl) rfl h (fun u4 h => ?_)
      refine aw_aload_n d_SD_count_63 rfl ?_
      refine aw_getR (t := 16) d_SD_count_64 lf_SD_35 rfl rfl ?_
      refine aw_iconst (v := 2) d_SD_count_67 (by decide) ?_
      refine aw_callV (as := [.inl (2 : Int32)]) d_SD_count_68 lm_SD_113 rfl rfl (by decide) rfl (Nat.le_of_ble_eq_true rfl) rfl h (fun r6 u5 h => ?_)
      exact aw_iret d_SD_count_71 rfl h
    | 3, _, q =>
      show AW G (d + 1) M_SD_count Q 72 _ _ _
      replace h := h.2.2.2 q
      refine aw_aload_n d_SD_count_72 rfl ?_
      refine aw_getR (t := 1) d_SD_count_73 lf_SD_10 rfl rfl ?_
      refine aw_callV (as := []) d_SD_count_76 lm_SD_116 rfl rfl (by decide) rfl (Nat.le_of_ble_eq_true rfl) rfl h (fun r8 u7 h => ?_)
      exact aw_iret d_SD_count_79 rfl h
    | n + 4, hj, _ => exact absurd hj (by simp)
theorem en_SD_count {G : Gp} {d : Nat} {Q : Int32 → Mem → Prop} {x1 : Int32} {μ : Mem}
    (h : AW G (d + 1) M_SD_count Q 0 [some (.inr 0), some (.inl x1)] [] μ) :
    Ct G (d + 1) M_SD_count [.inr 0, .inl x1] μ Q := ct_of (by decide) (Nat.le_of_ble_eq_true rfl) h
set_option maxRecDepth 100000 in
theorem vc_SD_ordered_0 {G : Gp} {d : Nat} {Q : Int32 → Mem → Prop} {x1 : Int32} {μ : Mem}
    (h : Ct G d M_NO_has [.inr 1, .inl x1] μ (fun r2 u1 => (r2 = 0 → Q (-2 : Int32) u1) ∧ (¬ r2 = 0 → vp_in x1 60 ∧ Q (u1 7 (ix x1)) u1))) :
    AW G (d + 1) M_SD_ordered Q 0 [some (.inr 0), some (.inl x1)] [] μ := by
  refine aw_aload_n d_SD_ordered_0 rfl ?_
  refine aw_getR (t := 1) d_SD_ordered_1 lf_SD_10 rfl rfl ?_
  refine aw_iload_n d_SD_ordered_4 rfl ?_
  refine aw_callV (as := [.inl x1]) d_SD_ordered_5 lm_SD_83 rfl rfl (by decide) rfl (Nat.le_of_ble_eq_true rfl) rfl h (fun r2 u1 h => ?_)
  refine aw_if_eq (tgt := 23) d_SD_ordered_8 (by decide) (fun q => ?_) (fun q => ?_)
  · replace h := h.1 q
    refine aw_bipush (v := (-2)) d_SD_ordered_23 (by decide) ?_
    exact aw_iret d_SD_ordered_25 rfl h
  · replace h := h.2 q
    refine aw_aload_n d_SD_ordered_11 rfl ?_
    refine aw_getR (t := 1) d_SD_ordered_12 lf_SD_10 rfl rfl ?_
    refine aw_getR (t := 7) d_SD_ordered_15 lf_SD_120 rfl rfl ?_
    refine aw_iload_n d_SD_ordered_18 rfl ?_
    refine aw_iald d_SD_ordered_19 rfl h.1 ?_
    replace h := h.2
    refine aw_goto (tgt := 25) d_SD_ordered_20 (by decide) ?_
    exact aw_iret d_SD_ordered_25 rfl h
theorem en_SD_ordered {G : Gp} {d : Nat} {Q : Int32 → Mem → Prop} {x1 : Int32} {μ : Mem}
    (h : AW G (d + 1) M_SD_ordered Q 0 [some (.inr 0), some (.inl x1)] [] μ) :
    Ct G (d + 1) M_SD_ordered [.inr 0, .inl x1] μ Q := ct_of (by decide) (Nat.le_of_ble_eq_true rfl) h
set_option maxRecDepth 100000 in
theorem vc_SD_sign_0 {G : Gp} {d : Nat} {Q : Int32 → Mem → Prop} {x1 x2 : Int32} {μ : Mem}
    (h : Ct G d M_NO_has [.inr 1, .inl x1] μ (fun r2 u1 => (¬ r2 = 0 → Ct G d M_SG_find [.inr 16] u1 (fun _ u3 => ((x2.toInt < 0 ∨ 5 < x2.toInt) → Q (-3 : Int32) u3) ∧ (x2 = nI 0 → vp_in x1 60 ∧ Q (u3 25 (ix x1)) u3) ∧ (x2 = nI 1 → vp_in x1 60 ∧ (¬ (u3 24 (ix x1)) = (-1 : Int32) → Q (1 : Int32) u3) ∧ ((u3 24 (ix x1)) = (-1 : Int32) → Q (0 : Int32) u3)) ∧ (x2 = nI 2 → vp_in x1 60 ∧ Q (u3 26 (ix x1)) u3) ∧ (x2 = nI 3 → Ct G d M_SG_widthOf [.inr 16, .inl x1] u3 (fun r5 u4 => Q r5 u4)) ∧ (x2 = nI 4 → Ct G d M_NO_chordStart [.inr 1, .inl x1] u3 (fun r7 u6 => Ct G d M_CO_layOut [.inr 27, .inl r7] u6 (fun _ u8 => Ct G d M_CO_columnOf [.inr 27, .inl x1] u8 (fun r10 u9 => Q r10 u9)))) ∧ (x2 = nI 5 → Ct G d M_SD_placeOf [.inr 0, .inl x1] u3 (fun r12 u11 => Q (r12 + (100 : Int32)) u11)))) ∧ (r2 = 0 → Q (-2 : Int32) u1))) :
    AW G (d + 1) M_SD_sign Q 0 [some (.inr 0), some (.inl x1), some (.inl x2)] [] μ := by
  refine aw_aload_n d_SD_sign_0 rfl ?_
  refine aw_getR (t := 1) d_SD_sign_1 lf_SD_10 rfl rfl ?_
  refine aw_iload_n d_SD_sign_4 rfl ?_
  refine aw_callV (as := [.inl x1]) d_SD_sign_5 lm_SD_83 rfl rfl (by decide) rfl (Nat.le_of_ble_eq_true rfl) rfl h (fun r2 u1 h => ?_)
  refine aw_if_ne (tgt := 14) d_SD_sign_8 (by decide) (fun q => ?_) (fun q => ?_)
  · replace h := h.1 q
    refine aw_aload_n d_SD_sign_14 rfl ?_
    refine aw_getR (t := 16) d_SD_sign_15 lf_SD_35 rfl rfl ?_
    refine aw_callVv (as := []) d_SD_sign_18 lm_SD_110 rfl rfl (by decide) rfl (Nat.le_of_ble_eq_true rfl) rfl h (fun u3 h => ?_)
    refine aw_iload_n d_SD_sign_21 rfl ?_
    refine aw_table (dt := 141) (tg := [60, 70, 89, 99, 108, 132]) d_SD_sign_22 (by decide) rfl (by decide) (by decide) (fun q => ?_) (fun j hj q => ?_)
    · replace h := h.1 q
      refine aw_bipush (v := (-3)) d_SD_sign_141 (by decide) ?_
      exact aw_iret d_SD_sign_143 rfl h
    · replace h := h.2
      match j, hj, q with
      | 0, _, q =>
        show AW G (d + 1) M_SD_sign Q 60 _ _ _
        replace h := h.1 q
        refine aw_aload_n d_SD_sign_60 rfl ?_
        refine aw_getR (t := 16) d_SD_sign_61 lf_SD_35 rfl rfl ?_
        refine aw_getR (t := 25) d_SD_sign_64 lf_SD_123 rfl rfl ?_
        refine aw_iload_n d_SD_sign_67 rfl ?_
        refine aw_iald d_SD_sign_68 rfl h.1 ?_
        replace h := h.2
        exact aw_iret d_SD_sign_69 rfl h
      | 1, _, q =>
        show AW G (d + 1) M_SD_sign Q 70 _ _ _
        replace h := h.2.1 q
        refine aw_aload_n d_SD_sign_70 rfl ?_
        refine aw_getR (t := 16) d_SD_sign_71 lf_SD_35 rfl rfl ?_
        refine aw_getR (t := 24) d_SD_sign_74 lf_SD_126 rfl rfl ?_
        refine aw_iload_n d_SD_sign_77 rfl ?_
        refine aw_iald d_SD_sign_78 rfl h.1 ?_
        replace h := h.2
        refine aw_iconst (v := (-1)) d_SD_sign_79 (by decide) ?_
        refine aw_icmp_ne (tgt := 87) d_SD_sign_80 (by decide) (fun q => ?_) (fun q => ?_)
        · replace h := h.1 q
          refine aw_iconst (v := 1) d_SD_sign_87 (by decide) ?_
          exact aw_iret d_SD_sign_88 rfl h
        · replace h := h.2 q
          refine aw_iconst (v := 0) d_SD_sign_83 (by decide) ?_
          refine aw_goto (tgt := 88) d_SD_sign_84 (by decide) ?_
          exact aw_iret d_SD_sign_88 rfl h
      | 2, _, q =>
        show AW G (d + 1) M_SD_sign Q 89 _ _ _
        replace h := h.2.2.1 q
        refine aw_aload_n d_SD_sign_89 rfl ?_
        refine aw_getR (t := 16) d_SD_sign_90 lf_SD_35 rfl rfl ?_
        refine aw_getR (t := 26) d_SD_sign_93 lf_SD_129 rfl rfl ?_
        refine aw_iload_n d_SD_sign_96 rfl ?_
        refine aw_iald d_SD_sign_97 rfl h.1 ?_
        replace h := h.2
        exact aw_iret d_SD_sign_98 rfl h
      | 3, _, q =>
        show AW G (d + 1) M_SD_sign Q 99 _ _ _
        replace h := h.2.2.2.1 q
        refine aw_aload_n d_SD_sign_99 rfl ?_
        refine aw_getR (t := 16) d_SD_sign_100 lf_SD_35 rfl rfl ?_
        refine aw_iload_n d_SD_sign_103 rfl ?_
        refine aw_callV (as := [.inl x1]) d_SD_sign_104 lm_SD_132 rfl rfl (by decide) rfl (Nat.le_of_ble_eq_true rfl) rfl h (fun r5 u4 h => ?_)
        exact aw_iret d_SD_sign_107 rfl h
      | 4, _, q =>
        show AW G (d + 1) M_SD_sign Q 108 _ _ _
        replace h := h.2.2.2.2.1 q
        refine aw_aload_n d_SD_sign_108 rfl ?_
        refine aw_getR (t := 27) d_SD_sign_109 lf_SD_44 rfl rfl ?_
        refine aw_aload_n d_SD_sign_112 rfl ?_
        refine aw_getR (t := 1) d_SD_sign_113 lf_SD_10 rfl rfl ?_
        refine aw_iload_n d_SD_sign_116 rfl ?_
        refine aw_callV (as := [.inl x1]) d_SD_sign_117 lm_SD_135 rfl rfl (by decide) rfl (Nat.le_of_ble_eq_true rfl) rfl h (fun r7 u6 h => ?_)
        refine aw_callVv (as := [.inl r7]) d_SD_sign_120 lm_SD_138 rfl rfl (by decide) rfl (Nat.le_of_ble_eq_true rfl) rfl h (fun u8 h => ?_)
        refine aw_aload_n d_SD_sign_123 rfl ?_
        refine aw_getR (t := 27) d_SD_sign_124 lf_SD_44 rfl rfl ?_
        refine aw_iload_n d_SD_sign_127 rfl ?_
        refine aw_callV (as := [.inl x1]) d_SD_sign_128 lm_SD_142 rfl rfl (by decide) rfl (Nat.le_of_ble_eq_true rfl) rfl h (fun r10 u9 h => ?_)
        exact aw_iret d_SD_sign_131 rfl h
      | 5, _, q =>
        show AW G (d + 1) M_SD_sign Q 132 _ _ _
        replace h := h.2.2.2.2.2 q
        refine aw_aload_n d_SD_sign_132 rfl ?_
        refine aw_iload_n d_SD_sign_133 rfl ?_
        refine aw_callV (as := [.inl x1]) d_SD_sign_134 lm_SD_145 rfl rfl (by decide) rfl (Nat.le_of_ble_eq_true rfl) rfl h (fun r12 u11 h => ?_)
        refine aw_bipush (v := 100) d_SD_sign_137 (by decide) ?_
        refine aw_iadd d_SD_sign_139 ?_
        exact aw_iret d_SD_sign_140 rfl h
      | n + 6, hj, _ => exact absurd hj (by simp)
  · replace h := h.2 q
    refine aw_bipush (v := (-2)) d_SD_sign_11 (by decide) ?_
    exact aw_iret d_SD_sign_13 rfl h
theorem en_SD_sign {G : Gp} {d : Nat} {Q : Int32 → Mem → Prop} {x1 x2 : Int32} {μ : Mem}
    (h : AW G (d + 1) M_SD_sign Q 0 [some (.inr 0), some (.inl x1), some (.inl x2)] [] μ) :
    Ct G (d + 1) M_SD_sign [.inr 0, .inl x1, .inl x2] μ Q := ct_of (by decide) (Nat.le_of_ble_eq_true rfl) h
set_option maxRecDepth 100000 in
theorem vc_SD_extent_0 {G : Gp} {d : Nat} {Q : Int32 → Mem → Prop} {x1 x2 : Int32} {μ : Mem}
    (h : Ct G d M_NO_chordAt [.inr 1, .inl x1, .inl x2] μ (fun r2 u1 => (¬ r2 = (-1 : Int32) → Ct G d M_SG_find [.inr 16] u1 (fun _ u3 => Ct G d M_CO_layOut [.inr 27, .inl r2] u3 (fun _ u4 => Ct G d M_CO_sumOfWidths [.inr 27] u4 (fun r6 u5 => Q r6 u5)))) ∧ (r2 = (-1 : Int32) → Q (-2 : Int32) u1))) :
    AW G (d + 1) M_SD_extent Q 0 [some (.inr 0), some (.inl x1), some (.inl x2), none] [] μ := by
  refine aw_aload_n d_SD_extent_0 rfl ?_
  refine aw_getR (t := 1) d_SD_extent_1 lf_SD_10 rfl rfl ?_
  refine aw_iload_n d_SD_extent_4 rfl ?_
  refine aw_iload_n d_SD_extent_5 rfl ?_
  refine aw_callV (as := [.inl x1, .inl x2]) d_SD_extent_6 lm_SD_148 rfl rfl (by decide) rfl (Nat.le_of_ble_eq_true rfl) rfl h (fun r2 u1 h => ?_)
  refine aw_istore_n d_SD_extent_9 (Nat.le_of_ble_eq_true rfl) ?_
  refine aw_iload_n d_SD_extent_10 rfl ?_
  refine aw_iconst (v := (-1)) d_SD_extent_11 (by decide) ?_
  refine aw_icmp_ne (tgt := 18) d_SD_extent_12 (by decide) (fun q => ?_) (fun q => ?_)
  · replace h := h.1 q
    refine aw_aload_n d_SD_extent_18 rfl ?_
    refine aw_getR (t := 16) d_SD_extent_19 lf_SD_35 rfl rfl ?_
    refine aw_callVv (as := []) d_SD_extent_22 lm_SD_110 rfl rfl (by decide) rfl (Nat.le_of_ble_eq_true rfl) rfl h (fun u3 h => ?_)
    refine aw_aload_n d_SD_extent_25 rfl ?_
    refine aw_getR (t := 27) d_SD_extent_26 lf_SD_44 rfl rfl ?_
    refine aw_iload_n d_SD_extent_29 rfl ?_
    refine aw_callVv (as := [.inl r2]) d_SD_extent_30 lm_SD_138 rfl rfl (by decide) rfl (Nat.le_of_ble_eq_true rfl) rfl h (fun u4 h => ?_)
    refine aw_aload_n d_SD_extent_33 rfl ?_
    refine aw_getR (t := 27) d_SD_extent_34 lf_SD_44 rfl rfl ?_
    refine aw_callV (as := []) d_SD_extent_37 lm_SD_151 rfl rfl (by decide) rfl (Nat.le_of_ble_eq_true rfl) rfl h (fun r6 u5 h => ?_)
    exact aw_iret d_SD_extent_40 rfl h
  · replace h := h.2 q
    refine aw_bipush (v := (-2)) d_SD_extent_15 (by decide) ?_
    exact aw_iret d_SD_extent_17 rfl h
theorem en_SD_extent {G : Gp} {d : Nat} {Q : Int32 → Mem → Prop} {x1 x2 : Int32} {μ : Mem}
    (h : AW G (d + 1) M_SD_extent Q 0 [some (.inr 0), some (.inl x1), some (.inl x2), none] [] μ) :
    Ct G (d + 1) M_SD_extent [.inr 0, .inl x1, .inl x2] μ Q := ct_of (by decide) (Nat.le_of_ble_eq_true rfl) h
set_option maxRecDepth 100000 in
theorem vc_SD_dot_0 {G : Gp} {d : Nat} {Q : Int32 → Mem → Prop} {x1 : Int32} {μ : Mem}
    (h : Ct G d M_NO_has [.inr 1, .inl x1] μ (fun r2 u1 => (¬ r2 = 0 → Ct G d M_NO_markOf [.inr 1, .inl x1, .inl (2 : Int32)] u1 (fun r4 u3 => (¬ r4 = 0 → Ct G d M_NO_chordStart [.inr 1, .inl x1] u3 (fun r6 u5 => Ct G d M_DS_layOut [.inr 33, .inl r6] u5 (fun _ u7 => Ct G d M_SD_placeOf [.inr 0, .inl x1] u7 (fun r9 u8 => vp_in x1 60 ∧ Ct G d M_DS_distanceFrom [.inr 33, .inl (u8 2 (ix x1))] u8 (fun r11 u10 => Q ((r9 + r11) + (100 : Int32)) u10))))) ∧ (r4 = 0 → Q (-1 : Int32) u3))) ∧ (r2 = 0 → Q (-2 : Int32) u1))) :
    AW G (d + 1) M_SD_dot Q 0 [some (.inr 0), some (.inl x1)] [] μ := by
  refine aw_aload_n d_SD_dot_0 rfl ?_
  refine aw_getR (t := 1) d_SD_dot_1 lf_SD_10 rfl rfl ?_
  refine aw_iload_n d_SD_dot_4 rfl ?_
  refine aw_callV (as := [.inl x1]) d_SD_dot_5 lm_SD_83 rfl rfl (by decide) rfl (Nat.le_of_ble_eq_true rfl) rfl h (fun r2 u1 h => ?_)
  refine aw_if_ne (tgt := 14) d_SD_dot_8 (by decide) (fun q => ?_) (fun q => ?_)
  · replace h := h.1 q
    refine aw_aload_n d_SD_dot_14 rfl ?_
    refine aw_getR (t := 1) d_SD_dot_15 lf_SD_10 rfl rfl ?_
    refine aw_iload_n d_SD_dot_18 rfl ?_
    refine aw_iconst (v := 2) d_SD_dot_19 (by decide) ?_
    refine aw_callV (as := [.inl x1, .inl (2 : Int32)]) d_SD_dot_20 lm_SD_154 rfl rfl (by decide) rfl (Nat.le_of_ble_eq_true rfl) rfl h (fun r4 u3 h => ?_)
    refine aw_if_ne (tgt := 28) d_SD_dot_23 (by decide) (fun q => ?_) (fun q => ?_)
    · replace h := h.1 q
      refine aw_aload_n d_SD_dot_28 rfl ?_
      refine aw_getR (t := 33) d_SD_dot_29 lf_SD_53 rfl rfl ?_
      refine aw_aload_n d_SD_dot_32 rfl ?_
      refine aw_getR (t := 1) d_SD_dot_33 lf_SD_10 rfl rfl ?_
      refine aw_iload_n d_SD_dot_36 rfl ?_
      refine aw_callV (as := [.inl x1]) d_SD_dot_37 lm_SD_135 rfl rfl (by decide) rfl (Nat.le_of_ble_eq_true rfl) rfl h (fun r6 u5 h => ?_)
      refine aw_callVv (as := [.inl r6]) d_SD_dot_40 lm_SD_157 rfl rfl (by decide) rfl (Nat.le_of_ble_eq_true rfl) rfl h (fun u7 h => ?_)
      refine aw_aload_n d_SD_dot_43 rfl ?_
      refine aw_iload_n d_SD_dot_44 rfl ?_
      refine aw_callV (as := [.inl x1]) d_SD_dot_45 lm_SD_145 rfl rfl (by decide) rfl (Nat.le_of_ble_eq_true rfl) rfl h (fun r9 u8 h => ?_)
      refine aw_aload_n d_SD_dot_48 rfl ?_
      refine aw_getR (t := 33) d_SD_dot_49 lf_SD_53 rfl rfl ?_
      refine aw_aload_n d_SD_dot_52 rfl ?_
      refine aw_getR (t := 1) d_SD_dot_53 lf_SD_10 rfl rfl ?_
      refine aw_getR (t := 2) d_SD_dot_56 lf_SD_158 rfl rfl ?_
      refine aw_iload_n d_SD_dot_59 rfl ?_
      refine aw_iald d_SD_dot_60 rfl h.1 ?_
      replace h := h.2
      refine aw_callV (as := [.inl (u8 2 (ix x1))]) d_SD_dot_61 lm_SD_161 rfl rfl (by decide) rfl (Nat.le_of_ble_eq_true rfl) rfl h (fun r11 u10 h => ?_)
      refine aw_iadd d_SD_dot_64 ?_
      refine aw_bipush (v := 100) d_SD_dot_65 (by decide) ?_
      refine aw_iadd d_SD_dot_67 ?_
      exact aw_iret d_SD_dot_68 rfl h
    · replace h := h.2 q
      refine aw_iconst (v := (-1)) d_SD_dot_26 (by decide) ?_
      exact aw_iret d_SD_dot_27 rfl h
  · replace h := h.2 q
    refine aw_bipush (v := (-2)) d_SD_dot_11 (by decide) ?_
    exact aw_iret d_SD_dot_13 rfl h
theorem en_SD_dot {G : Gp} {d : Nat} {Q : Int32 → Mem → Prop} {x1 : Int32} {μ : Mem}
    (h : AW G (d + 1) M_SD_dot Q 0 [some (.inr 0), some (.inl x1)] [] μ) :
    Ct G (d + 1) M_SD_dot [.inr 0, .inl x1] μ Q := ct_of (by decide) (Nat.le_of_ble_eq_true rfl) h
set_option maxRecDepth 100000 in
theorem vc_SD_keySigns_0 {G : Gp} {d : Nat} {Q : Int32 → Mem → Prop} {x1 : Int32} {μ : Mem}
    (h : Ct G d M_SD_isBar [.inl x1] μ (fun r2 u1 => (¬ r2 = 0 → Ct G d M_SD_layOutKey [.inr 0, .inl x1] u1 (fun _ u3 => Q (u3 38 3) u3)) ∧ (r2 = 0 → Q (-3 : Int32) u1))) :
    AW G (d + 1) M_SD_keySigns Q 0 [some (.inr 0), some (.inl x1)] [] μ := by
  refine aw_iload_n d_SD_keySigns_0 rfl ?_
  refine aw_callS (as := [.inl x1]) d_SD_keySigns_1 lm_SD_68 rfl (Nat.le_of_ble_eq_true rfl) rfl h (fun r2 u1 h => ?_)
  refine aw_if_ne (tgt := 10) d_SD_keySigns_4 (by decide) (fun q => ?_) (fun q => ?_)
  · replace h := h.1 q
    refine aw_aload_n d_SD_keySigns_10 rfl ?_
    refine aw_iload_n d_SD_keySigns_11 rfl ?_
    refine aw_callVv (as := [.inl x1]) d_SD_keySigns_12 lm_SD_164 rfl rfl (by decide) rfl (Nat.le_of_ble_eq_true rfl) rfl h (fun u3 h => ?_)
    refine aw_aload_n d_SD_keySigns_15 rfl ?_
    refine aw_getR (t := 38) d_SD_keySigns_16 lf_SD_60 rfl rfl ?_
    refine aw_getI d_SD_keySigns_19 lf_SD_167 rfl rfl ?_
    exact aw_iret d_SD_keySigns_22 rfl h
  · replace h := h.2 q
    refine aw_bipush (v := (-3)) d_SD_keySigns_7 (by decide) ?_
    exact aw_iret d_SD_keySigns_9 rfl h
theorem en_SD_keySigns {G : Gp} {d : Nat} {Q : Int32 → Mem → Prop} {x1 : Int32} {μ : Mem}
    (h : AW G (d + 1) M_SD_keySigns Q 0 [some (.inr 0), some (.inl x1)] [] μ) :
    Ct G (d + 1) M_SD_keySigns [.inr 0, .inl x1] μ Q := ct_of (by decide) (Nat.le_of_ble_eq_true rfl) h
set_option maxRecDepth 100000 in
theorem vc_SD_keySign_0 {G : Gp} {d : Nat} {Q : Int32 → Mem → Prop} {x1 x2 x3 : Int32} {μ : Mem}
    (h : Ct G d M_SD_isBar [.inl x1] μ (fun r2 u1 => (r2 = 0 → Q (-3 : Int32) u1) ∧ (¬ r2 = 0 → Ct G d M_SD_within [.inl x3, .inl (0 : Int32), .inl (2 : Int32)] u1 (fun r4 u3 => (¬ r4 = 0 → Ct G d M_SD_layOutKey [.inr 0, .inl x1] u3 (fun _ u5 => Ct G d M_SD_within [.inl x2, .inl (0 : Int32), .inl ((u5 38 3) - (1 : Int32))] u5 (fun r7 u6 => (¬ r7 = 0 → (¬ x3 = 0 → (¬ x3 = (1 : Int32) → vp_in x2 14 ∧ Q ((u6 41 (ix x2)) + (100 : Int32)) u6) ∧ (x3 = (1 : Int32) → vp_in x2 14 ∧ Q ((u6 40 (ix x2)) + (10 : Int32)) u6)) ∧ (x3 = 0 → vp_in x2 14 ∧ Q (u6 39 (ix x2)) u6)) ∧ (r7 = 0 → Q (-2 : Int32) u6)))) ∧ (r4 = 0 → Q (-3 : Int32) u3))))) :
    AW G (d + 1) M_SD_keySign Q 0 [some (.inr 0), some (.inl x1), some (.inl x2), some (.inl x3)] [] μ := by
  refine aw_iload_n d_SD_keySign_0 rfl ?_
  refine aw_callS (as := [.inl x1]) d_SD_keySign_1 lm_SD_68 rfl (Nat.le_of_ble_eq_true rfl) rfl h (fun r2 u1 h => ?_)
  refine aw_if_eq (tgt := 16) d_SD_keySign_4 (by decide) (fun q => ?_) (fun q => ?_)
  · replace h := h.1 q
    refine aw_bipush (v := (-3)) d_SD_keySign_16 (by decide) ?_
    exact aw_iret d_SD_keySign_18 rfl h
  · replace h := h.2 q
    refine aw_iload_n d_SD_keySign_7 rfl ?_
    refine aw_iconst (v := 0) d_SD_keySign_8 (by decide) ?_
    refine aw_iconst (v := 2) d_SD_keySign_9 (by decide) ?_
    refine aw_callS (as := [.inl x3, .inl (0 : Int32), .inl (2 : Int32)]) d_SD_keySign_10 lm_SD_64 rfl (Nat.le_of_ble_eq_true rfl) rfl h (fun r4 u3 h => ?_)
    refine aw_if_ne (tgt := 19) d_SD_keySign_13 (by decide) (fun q => ?_) (fun q => ?_)
    · replace h := h.1 q
      refine aw_aload_n d_SD_keySign_19 rfl ?_
      refine aw_iload_n d_SD_keySign_20 rfl ?_
      refine aw_callVv (as := [.inl x1]) d_SD_keySign_21 lm_SD_164 rfl rfl (by decide) rfl (Nat.le_of_ble_eq_true rfl) rfl h (fun u5 h => ?_)
      refine aw_iload_n d_SD_keySign_24 rfl ?_
      refine aw_iconst (v := 0) d_SD_keySign_25 (by decide) ?_
      refine aw_aload_n d_SD_keySign_26 rfl ?_
      refine aw_getR (t := 38) d_SD_keySign_27 lf_SD_60 rfl rfl ?_
      refine aw_getI d_SD_keySign_30 lf_SD_167 rfl rfl ?_
      refine aw_iconst (v := 1) d_SD_keySign_33 (by decide) ?_
      refine aw_isub d_SD_keySign_34 ?_
      refine aw_callS (as := [.inl x2, .inl (0 : Int32), .inl ((u5 38 3) - (1 : Int32))]) d_SD_keySign_35 lm_SD_64 rfl (Nat.le_of_ble_eq_true rfl) rfl h (fun r7 u6 h => ?_)
      refine aw_if_ne (tgt := 44) d_SD_keySign_38 (by decide) (fun q => ?_) (fun q => ?_)
      · replace h := h.1 q
        refine aw_iload_n d_SD_keySign_44 rfl ?_
        refine aw_if_ne (tgt := 58) d_SD_keySign_45 (by decide) (fun q => ?_) (fun q => ?_)
        · replace h := h.1 q
          refine aw_iload_n d_SD_keySign_58 rfl ?_
          refine aw_iconst (v := 1) d_SD_keySign_59 (by decide) ?_
          refine aw_icmp_ne (tgt := 78) d_SD_keySign_60 (by decide) (fun q => ?_) (fun q => ?_)
          · replace h := h.1 q
            refine aw_aload_n d_SD_keySign_78 rfl ?_
            refine aw_getR (t := 38) d_SD_keySign_79 lf_SD_60 rfl rfl ?_
            refine aw_getR (t := 41) d_SD_keySign_82 lf_SD_174 rfl rfl ?_
            refine aw_iload_n d_SD_keySign_85 rfl ?_
            refine aw_iald d_SD_keySign_86 rfl h.1 ?_
            replace h := h.2
            refine aw_bipush (v := 100) d_SD_keySign_87 (by decide) ?_
            refine aw_iadd d_SD_keySign_89 ?_
            exact aw_iret d_SD_keySign_90 rfl h
          · replace h := h.2 q
            refine aw_aload_n d_SD_keySign_63 rfl ?_
            refine aw_getR (t := 38) d_SD_keySign_64 lf_SD_60 rfl rfl ?_
            refine aw_getR (t := 40) d_SD_keySign_67 lf_SD_171 rfl rfl ?_
            refine aw_iload_n d_SD_keySign_70 rfl ?_
            refine aw_iald d_SD_keySign_71 rfl h.1 ?_
            replace h := h.2
            refine aw_bipush (v := 10) d_SD_keySign_72 (by decide) ?_
            refine aw_iadd d_SD_keySign_74 ?_
            refine aw_goto (tgt := 90) d_SD_keySign_75 (by decide) ?_
            exact aw_iret d_SD_keySign_90 rfl h
        · replace h := h.2 q
          refine aw_aload_n d_SD_keySign_48 rfl ?_
          refine aw_getR (t := 38) d_SD_keySign_49 lf_SD_60 rfl rfl ?_
          refine aw_getR (t := 39) d_SD_keySign_52 lf_SD_168 rfl rfl ?_
          refine aw_iload_n d_SD_keySign_55 rfl ?_
          refine aw_iald d_SD_keySign_56 rfl h.1 ?_
          replace h := h.2
          exact aw_iret d_SD_keySign_57 rfl h
      · replace h := h.2 q
        refine aw_bipush (v := (-2)) d_SD_keySign_41 (by decide) ?_
        exact aw_iret d_SD_keySign_43 rfl h
    · replace h := h.2 q
      refine aw_bipush (v := (-3)) d_SD_keySign_16 (by decide) ?_
      exact aw_iret d_SD_keySign_18 rfl h
theorem en_SD_keySign {G : Gp} {d : Nat} {Q : Int32 → Mem → Prop} {x1 x2 x3 : Int32} {μ : Mem}
    (h : AW G (d + 1) M_SD_keySign Q 0 [some (.inr 0), some (.inl x1), some (.inl x2), some (.inl x3)] [] μ) :
    Ct G (d + 1) M_SD_keySign [.inr 0, .inl x1, .inl x2, .inl x3] μ Q := ct_of (by decide) (Nat.le_of_ble_eq_true rfl) h
set_option maxRecDepth 100000 in
theorem vc_SD_forgetAnswers_0 {G : Gp} {d : Nat} {Q : Int32 → Mem → Prop} {μ : Mem}
    (h : Ct G d M_SG_forget [.inr 16] μ (fun _ u1 => Ct G d M_CO_forget [.inr 27] u1 (fun _ u2 => Ct G d M_DS_forget [.inr 33] u2 (fun _ u3 => Q 0 u3)))) :
    AW G (d + 1) M_SD_forgetAnswers Q 0 [some (.inr 0)] [] μ := by
  refine aw_aload_n d_SD_forgetAnswers_0 rfl ?_
  refine aw_getR (t := 16) d_SD_forgetAnswers_1 lf_SD_35 rfl rfl ?_
  refine aw_callVv (as := []) d_SD_forgetAnswers_4 lm_SD_177 rfl rfl (by decide) rfl (Nat.le_of_ble_eq_true rfl) rfl h (fun u1 h => ?_)
  refine aw_aload_n d_SD_forgetAnswers_7 rfl ?_
  refine aw_getR (t := 27) d_SD_forgetAnswers_8 lf_SD_44 rfl rfl ?_
  refine aw_callVv (as := []) d_SD_forgetAnswers_11 lm_SD_180 rfl rfl (by decide) rfl (Nat.le_of_ble_eq_true rfl) rfl h (fun u2 h => ?_)
  refine aw_aload_n d_SD_forgetAnswers_14 rfl ?_
  refine aw_getR (t := 33) d_SD_forgetAnswers_15 lf_SD_53 rfl rfl ?_
  refine aw_callVv (as := []) d_SD_forgetAnswers_18 lm_SD_181 rfl rfl (by decide) rfl (Nat.le_of_ble_eq_true rfl) rfl h (fun u3 h => ?_)
  exact aw_vret d_SD_forgetAnswers_21 rfl h
theorem en_SD_forgetAnswers {G : Gp} {d : Nat} {Q : Int32 → Mem → Prop} {μ : Mem}
    (h : AW G (d + 1) M_SD_forgetAnswers Q 0 [some (.inr 0)] [] μ) :
    Ct G (d + 1) M_SD_forgetAnswers [.inr 0] μ Q := ct_of (by decide) (Nat.le_of_ble_eq_true rfl) h
set_option maxRecDepth 100000 in
theorem vc_SD_layOutKey_0 {G : Gp} {d : Nat} {Q : Int32 → Mem → Prop} {x1 : Int32} {μ : Mem}
    (h : (¬ x1 = 0 → Ct G d M_BB_at [.inr 9, .inl (x1 - (1 : Int32))] μ (fun r2 u1 => Ct G d M_BB_at [.inr 9, .inl x1] u1 (fun r4 u3 => Ct G d M_BB_at [.inr 12, .inl x1] u3 (fun r6 u5 => vp_in (4 : Int32) 5 ∧ Ct G d M_KR_layOut [.inr 38, .inl r2, .inl r4, .inl r6, .inl (u5 15 (ix (4 : Int32)))] u5 (fun _ u7 => Q 0 u7))))) ∧ (x1 = 0 → Ct G d M_BB_at [.inr 9, .inl x1] μ (fun r9 u8 => Ct G d M_BB_at [.inr 12, .inl x1] u8 (fun r11 u10 => vp_in (4 : Int32) 5 ∧ Ct G d M_KR_layOut [.inr 38, .inl (0 : Int32), .inl r9, .inl r11, .inl (u10 15 (ix (4 : Int32)))] u10 (fun _ u12 => Q 0 u12))))) :
    AW G (d + 1) M_SD_layOutKey Q 0 [some (.inr 0), some (.inl x1), none] [] μ := by
  refine aw_iload_n d_SD_layOutKey_0 rfl ?_
  refine aw_if_ne (tgt := 8) d_SD_layOutKey_1 (by decide) (fun q => ?_) (fun q => ?_)
  · replace h := h.1 q
    refine aw_aload_n d_SD_layOutKey_8 rfl ?_
    refine aw_getR (t := 9) d_SD_layOutKey_9 lf_SD_19 rfl rfl ?_
    refine aw_iload_n d_SD_layOutKey_12 rfl ?_
    refine aw_iconst (v := 1) d_SD_layOutKey_13 (by decide) ?_
    refine aw_isub d_SD_layOutKey_14 ?_
    refine aw_callV (as := [.inl (x1 - (1 : Int32))]) d_SD_layOutKey_15 lm_SD_182 rfl rfl (by decide) rfl (Nat.le_of_ble_eq_true rfl) rfl h (fun r2 u1 h => ?_)
    refine aw_istore_n d_SD_layOutKey_18 (Nat.le_of_ble_eq_true rfl) ?_
    refine aw_aload_n d_SD_layOutKey_19 rfl ?_
    refine aw_getR (t := 38) d_SD_layOutKey_20 lf_SD_60 rfl rfl ?_
    refine aw_iload_n d_SD_layOutKey_23 rfl ?_
    refine aw_aload_n d_SD_layOutKey_24 rfl ?_
    refine aw_getR (t := 9) d_SD_layOutKey_25 lf_SD_19 rfl rfl ?_
    refine aw_iload_n d_SD_layOutKey_28 rfl ?_
    refine aw_callV (as := [.inl x1]) d_SD_layOutKey_29 lm_SD_182 rfl rfl (by decide) rfl (Nat.le_of_ble_eq_true rfl) rfl h (fun r4 u3 h => ?_)
    refine aw_aload_n d_SD_layOutKey_32 rfl ?_
    refine aw_getR (t := 12) d_SD_layOutKey_33 lf_SD_23 rfl rfl ?_
    refine aw_iload_n d_SD_layOutKey_36 rfl ?_
    refine aw_callV (as := [.inl x1]) d_SD_layOutKey_37 lm_SD_182 rfl rfl (by decide) rfl (Nat.le_of_ble_eq_true rfl) rfl h (fun r6 u5 h => ?_)
    refine aw_aload_n d_SD_layOutKey_40 rfl ?_
    refine aw_getR (t := 15) d_SD_layOutKey_41 lf_SD_26 rfl rfl ?_
    refine aw_iconst (v := 4) d_SD_layOutKey_44 (by decide) ?_
    refine aw_iald d_SD_layOutKey_45 rfl h.1 ?_
    replace h := h.2
    refine aw_callVv (as := [.inl r2, .inl r4, .inl r6, .inl (u5 15 (ix (4 : Int32)))]) d_SD_layOutKey_46 lm_SD_185 rfl rfl (by decide) rfl (Nat.le_of_ble_eq_true rfl) rfl h (fun u7 h => ?_)
    exact aw_vret d_SD_layOutKey_49 rfl h
  · replace h := h.2 q
    refine aw_iconst (v := 0) d_SD_layOutKey_4 (by decide) ?_
    refine aw_goto (tgt := 18) d_SD_layOutKey_5 (by decide) ?_
    refine aw_istore_n d_SD_layOutKey_18 (Nat.le_of_ble_eq_true rfl) ?_
    refine aw_aload_n d_SD_layOutKey_19 rfl ?_
    refine aw_getR (t := 38) d_SD_layOutKey_20 lf_SD_60 rfl rfl ?_
    refine aw_iload_n d_SD_layOutKey_23 rfl ?_
    refine aw_aload_n d_SD_layOutKey_24 rfl ?_
    refine aw_getR (t := 9) d_SD_layOutKey_25 lf_SD_19 rfl rfl ?_
    refine aw_iload_n d_SD_layOutKey_28 rfl ?_
    refine aw_callV (as := [.inl x1]) d_SD_layOutKey_29 lm_SD_182 rfl rfl (by decide) rfl (Nat.le_of_ble_eq_true rfl) rfl h (fun r9 u8 h => ?_)
    refine aw_aload_n d_SD_layOutKey_32 rfl ?_
    refine aw_getR (t := 12) d_SD_layOutKey_33 lf_SD_23 rfl rfl ?_
    refine aw_iload_n d_SD_layOutKey_36 rfl ?_
    refine aw_callV (as := [.inl x1]) d_SD_layOutKey_37 lm_SD_182 rfl rfl (by decide) rfl (Nat.le_of_ble_eq_true rfl) rfl h (fun r11 u10 h => ?_)
    refine aw_aload_n d_SD_layOutKey_40 rfl ?_
    refine aw_getR (t := 15) d_SD_layOutKey_41 lf_SD_26 rfl rfl ?_
    refine aw_iconst (v := 4) d_SD_layOutKey_44 (by decide) ?_
    refine aw_iald d_SD_layOutKey_45 rfl h.1 ?_
    replace h := h.2
    refine aw_callVv (as := [.inl (0 : Int32), .inl r9, .inl r11, .inl (u10 15 (ix (4 : Int32)))]) d_SD_layOutKey_46 lm_SD_185 rfl rfl (by decide) rfl (Nat.le_of_ble_eq_true rfl) rfl h (fun u12 h => ?_)
    exact aw_vret d_SD_layOutKey_49 rfl h
theorem en_SD_layOutKey {G : Gp} {d : Nat} {Q : Int32 → Mem → Prop} {x1 : Int32} {μ : Mem}
    (h : AW G (d + 1) M_SD_layOutKey Q 0 [some (.inr 0), some (.inl x1), none] [] μ) :
    Ct G (d + 1) M_SD_layOutKey [.inr 0, .inl x1] μ Q := ct_of (by decide) (Nat.le_of_ble_eq_true rfl) h
set_option maxRecDepth 100000 in
theorem vc_SD_placeOf_0 {G : Gp} {d : Nat} {Q : Int32 → Mem → Prop} {x1 : Int32} {μ : Mem}
    (h : vp_in x1 60 ∧ vp_in x1 60 ∧ Ct G d M_BB_at [.inr 12, .inl (μ 4 (ix x1))] μ (fun r2 u1 => vp_in r2 3 ∧ Q ((μ 2 (ix x1)) - (([30, 18, 24] : List Int32).getD (ix r2) 0)) u1)) :
    AW G (d + 1) M_SD_placeOf Q 0 [some (.inr 0), some (.inl x1)] [] μ := by
  refine aw_aload_n d_SD_placeOf_0 rfl ?_
  refine aw_getR (t := 1) d_SD_placeOf_1 lf_SD_10 rfl rfl ?_
  refine aw_getR (t := 2) d_SD_placeOf_4 lf_SD_158 rfl rfl ?_
  refine aw_iload_n d_SD_placeOf_7 rfl ?_
  refine aw_iald d_SD_placeOf_8 rfl h.1 ?_
  replace h := h.2
  refine aw_gets d_SD_placeOf_9 ls_SD_101 ?_
  refine aw_aload_n d_SD_placeOf_12 rfl ?_
  refine aw_getR (t := 12) d_SD_placeOf_13 lf_SD_23 rfl rfl ?_
  refine aw_aload_n d_SD_placeOf_16 rfl ?_
  refine aw_getR (t := 1) d_SD_placeOf_17 lf_SD_10 rfl rfl ?_
  refine aw_getR (t := 4) d_SD_placeOf_20 lf_SD_188 rfl rfl ?_
  refine aw_iload_n d_SD_placeOf_23 rfl ?_
  refine aw_iald d_SD_placeOf_24 rfl h.1 ?_
  replace h := h.2
  refine aw_callV (as := [.inl (μ 4 (ix x1))]) d_SD_placeOf_25 lm_SD_182 rfl rfl (by decide) rfl (Nat.le_of_ble_eq_true rfl) rfl h (fun r2 u1 h => ?_)
  refine aw_sald (t := 1) d_SD_placeOf_28 rfl h.1 ?_
  replace h := h.2
  refine aw_isub d_SD_placeOf_29 ?_
  exact aw_iret d_SD_placeOf_30 rfl h
theorem en_SD_placeOf {G : Gp} {d : Nat} {Q : Int32 → Mem → Prop} {x1 : Int32} {μ : Mem}
    (h : AW G (d + 1) M_SD_placeOf Q 0 [some (.inr 0), some (.inl x1)] [] μ) :
    Ct G (d + 1) M_SD_placeOf [.inr 0, .inl x1] μ Q := ct_of (by decide) (Nat.le_of_ble_eq_true rfl) h
set_option maxRecDepth 100000 in
theorem vc_SD_isBar_0 {G : Gp} {d : Nat} {Q : Int32 → Mem → Prop} {x0 : Int32} {μ : Mem}
    (h : Ct G d M_SD_within [.inl x0, .inl (0 : Int32), .inl (19 : Int32)] μ (fun r2 u1 => (r2 = 0 ∨ r2 = 1) ∧ Q r2 u1)) :
    AW G (d + 1) M_SD_isBar Q 0 [some (.inl x0)] [] μ := by
  refine aw_iload_n d_SD_isBar_0 rfl ?_
  refine aw_iconst (v := 0) d_SD_isBar_1 (by decide) ?_
  refine aw_bipush (v := 19) d_SD_isBar_2 (by decide) ?_
  refine aw_callS (as := [.inl x0, .inl (0 : Int32), .inl (19 : Int32)]) d_SD_isBar_4 lm_SD_64 rfl (Nat.le_of_ble_eq_true rfl) rfl h (fun r2 u1 h => ?_)
  exact aw_zret d_SD_isBar_7 rfl h.1 h.2
theorem en_SD_isBar {G : Gp} {d : Nat} {Q : Int32 → Mem → Prop} {x0 : Int32} {μ : Mem}
    (h : AW G (d + 1) M_SD_isBar Q 0 [some (.inl x0)] [] μ) :
    Ct G (d + 1) M_SD_isBar [.inl x0] μ Q := ct_of (by decide) (Nat.le_of_ble_eq_true rfl) h
set_option maxRecDepth 100000 in
theorem vc_SD_within_0 {G : Gp} {d : Nat} {Q : Int32 → Mem → Prop} {x0 x1 x2 : Int32} {μ : Mem}
    (h : (x0 < x1 → Q (0 : Int32) μ) ∧ (¬ x0 < x1 → (x2 < x0 → Q (0 : Int32) μ) ∧ (¬ x2 < x0 → Q (1 : Int32) μ))) :
    AW G d M_SD_within Q 0 [some (.inl x0), some (.inl x1), some (.inl x2)] [] μ := by
  refine aw_iload_n d_SD_within_0 rfl ?_
  refine aw_iload_n d_SD_within_1 rfl ?_
  refine aw_icmp_lt (tgt := 14) d_SD_within_2 (by decide) (fun q => ?_) (fun q => ?_)
  · replace h := h.1 q
    refine aw_iconst (v := 0) d_SD_within_14 (by decide) ?_
    exact aw_zret d_SD_within_15 rfl (Or.inl rfl) h
  · replace h := h.2 q
    refine aw_iload_n d_SD_within_5 rfl ?_
    refine aw_iload_n d_SD_within_6 rfl ?_
    refine aw_icmp_gt (tgt := 14) d_SD_within_7 (by decide) (fun q => ?_) (fun q => ?_)
    · replace h := h.1 q
      refine aw_iconst (v := 0) d_SD_within_14 (by decide) ?_
      exact aw_zret d_SD_within_15 rfl (Or.inl rfl) h
    · replace h := h.2 q
      refine aw_iconst (v := 1) d_SD_within_10 (by decide) ?_
      refine aw_goto (tgt := 15) d_SD_within_11 (by decide) ?_
      exact aw_zret d_SD_within_15 rfl (Or.inr rfl) h
theorem en_SD_within {G : Gp} {d : Nat} {Q : Int32 → Mem → Prop} {x0 x1 x2 : Int32} {μ : Mem}
    (h : AW G d M_SD_within Q 0 [some (.inl x0), some (.inl x1), some (.inl x2)] [] μ) :
    Ct G d M_SD_within [.inl x0, .inl x1, .inl x2] μ Q := ct_of (by decide) (Nat.le_of_ble_eq_true rfl) h
