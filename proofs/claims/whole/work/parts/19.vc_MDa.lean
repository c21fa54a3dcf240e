/-! verification conditions, by program -/
set_option maxRecDepth 100000 in
theorem vc_MD_in_0 {G : Gp} {d : Nat} {Q : Int32 → Mem → Prop} {x0 x1 x2 : Int32} {μ : Mem}
    (h : (x0 < x1 → Q (0 : Int32) μ) ∧ (¬ x0 < x1 → (x2 < x0 → Q (0 : Int32) μ) ∧ (¬ x2 < x0 → Q (1 : Int32) μ))) :
    AW G d M_MD_in Q 0 [some (.inl x0), some (.inl x1), some (.inl x2)] [] μ := by
  refine aw_iload_n d_MD_in_0 rfl ?_
  refine aw_iload_n d_MD_in_1 rfl ?_
  refine aw_icmp_lt (tgt := 14) d_MD_in_2 (by decide) (fun q => ?_) (fun q => ?_)
  · replace h := h.1 q
    refine aw_iconst (v := 0) d_MD_in_14 (by decide) ?_
    exact aw_zret d_MD_in_15 rfl (Or.inl rfl) h
  · replace h := h.2 q
    refine aw_iload_n d_MD_in_5 rfl ?_
    refine aw_iload_n d_MD_in_6 rfl ?_
    refine aw_icmp_gt (tgt := 14) d_MD_in_7 (by decide) (fun q => ?_) (fun q => ?_)
    · replace h := h.1 q
      refine aw_iconst (v := 0) d_MD_in_14 (by decide) ?_
      exact aw_zret d_MD_in_15 rfl (Or.inl rfl) h
    · replace h := h.2 q
      refine aw_iconst (v := 1) d_MD_in_10 (by decide) ?_
      refine aw_goto (tgt := 15) d_MD_in_11 (by decide) ?_
      exact aw_zret d_MD_in_15 rfl (Or.inr rfl) h
theorem en_MD_in {G : Gp} {d : Nat} {Q : Int32 → Mem → Prop} {x0 x1 x2 : Int32} {μ : Mem}
    (h : AW G d M_MD_in Q 0 [some (.inl x0), some (.inl x1), some (.inl x2)] [] μ) :
    Ct G d M_MD_in [.inl x0, .inl x1, .inl x2] μ Q := ct_of (by decide) (Nat.le_of_ble_eq_true rfl) h
set_option maxRecDepth 100000 in
theorem vc_MD_note_0 {G : Gp} {d : Nat} {Q : Int32 → Mem → Prop} {x1 x2 x3 x4 x5 : Int32} {μ : Mem}
    (h : Ct G d M_MD_in [.inl x1, .inl (0 : Int32), .inl (69 : Int32)] μ (fun r2 u1 => (r2 = 0 → Q (-3 : Int32) u1) ∧ (¬ r2 = 0 → Ct G d M_MD_in [.inl x2, .inl (-4 : Int32), .inl (4 : Int32)] u1 (fun r4 u3 => (r4 = 0 → Q (-3 : Int32) u3) ∧ (¬ r4 = 0 → Ct G d M_MD_in [.inl x3, .inl (0 : Int32), .inl (19 : Int32)] u3 (fun r6 u5 => (r6 = 0 → Q (-3 : Int32) u5) ∧ (¬ r6 = 0 → Ct G d M_MD_in [.inl x4, .inl (0 : Int32), .inl (999 : Int32)] u5 (fun r8 u7 => (r8 = 0 → Q (-3 : Int32) u7) ∧ (¬ r8 = 0 → Ct G d M_MD_in [.inl x5, .inl (0 : Int32), .inl (3 : Int32)] u7 (fun r10 u9 => (¬ r10 = 0 → (¬ (u9 42 8) = (60 : Int32) → vp_in (u9 42 8) 60 ∧ ∀ u11 : Mem, u11 = up u9 43 (ix (u9 42 8)) x1 → vp_in (u11 42 8) 60 ∧ ∀ u12 : Mem, u12 = up u11 44 (ix (u11 42 8)) x2 → vp_in (u12 42 8) 60 ∧ ∀ u13 : Mem, u13 = up u12 45 (ix (u12 42 8)) x3 → vp_in (u13 42 8) 60 ∧ ∀ u14 : Mem, u14 = up u13 46 (ix (u13 42 8)) x4 → vp_in (u14 42 8) 60 ∧ ∀ u15 : Mem, u15 = up u14 47 (ix (u14 42 8)) x5 → ∀ u16 : Mem, u16 = up u15 42 21 (0 : Int32) → vp_in (u16 42 8) 60 ∧ ∀ u17 : Mem, u17 = up u16 48 (ix (u16 42 8)) (0 : Int32) → vp_in (u17 42 8) 60 ∧ ∀ u18 : Mem, u18 = up u17 49 (ix (u17 42 8)) (0 : Int32) → vp_in (u18 42 8) 60 ∧ ∀ u19 : Mem, u19 = up u18 50 (ix (u18 42 8)) (0 : Int32) → ∀ u20 : Mem, u20 = up u19 42 8 ((u19 42 8) + (1 : Int32)) → Q ((u20 42 8) - (1 : Int32)) u20) ∧ ((u9 42 8) = (60 : Int32) → Q (-5 : Int32) u9)) ∧ (r10 = 0 → Q (-3 : Int32) u9))))))))))) :
    AW G (d + 1) M_MD_note Q 0 [some (.inr 42), some (.inl x1), some (.inl x2), some (.inl x3), some (.inl x4), some (.inl x5)] [] μ := by
  refine aw_iload_n d_MD_note_0 rfl ?_
  refine aw_iconst (v := 0) d_MD_note_1 (by decide) ?_
  refine aw_bipush (v := 69) d_MD_note_2 (by decide) ?_
  refine aw_callS (as := [.inl x1, .inl (0 : Int32), .inl (69 : Int32)]) d_MD_note_4 lm_MD_93 rfl (Nat.le_of_ble_eq_true rfl) rfl h (fun r2 u1 h => ?_)
  refine aw_if_eq (tgt := 52) d_MD_note_7 (by decide) (fun q => ?_) (fun q => ?_)
  · replace h := h.1 q
    refine aw_bipush (v := (-3)) d_MD_note_52 (by decide) ?_
    exact aw_iret d_MD_note_54 rfl h
  · replace h := h.2 q
    refine aw_iload_n d_MD_note_10 rfl ?_
    refine aw_bipush (v := (-4)) d_MD_note_11 (by decide) ?_
    refine aw_iconst (v := 4) d_MD_note_13 (by decide) ?_
    refine aw_callS (as := [.inl x2, .inl (-4 : Int32), .inl (4 : Int32)]) d_MD_note_14 lm_MD_93 rfl (Nat.le_of_ble_eq_true rfl) rfl h (fun r4 u3 h => ?_)
    refine aw_if_eq (tgt := 52) d_MD_note_17 (by decide) (fun q => ?_) (fun q => ?_)
    · replace h := h.1 q
      refine aw_bipush (v := (-3)) d_MD_note_52 (by decide) ?_
      exact aw_iret d_MD_note_54 rfl h
    · replace h := h.2 q
      refine aw_iload_n d_MD_note_20 rfl ?_
      refine aw_iconst (v := 0) d_MD_note_21 (by decide) ?_
      refine aw_bipush (v := 19) d_MD_note_22 (by decide) ?_
      refine aw_callS (as := [.inl x3, .inl (0 : Int32), .inl (19 : Int32)]) d_MD_note_24 lm_MD_93 rfl (Nat.le_of_ble_eq_true rfl) rfl h (fun r6 u5 h => ?_)
      refine aw_if_eq (tgt := 52) d_MD_note_27 (by decide) (fun q => ?_) (fun q => ?_)
      · replace h := h.1 q
        refine aw_bipush (v := (-3)) d_MD_note_52 (by decide) ?_
        exact aw_iret d_MD_note_54 rfl h
      · replace h := h.2 q
        refine aw_iload d_MD_note_30 rfl ?_
        refine aw_iconst (v := 0) d_MD_note_32 (by decide) ?_
        refine aw_sipush (v := 999) d_MD_note_33 (by decide) ?_
        refine aw_callS (as := [.inl x4, .inl (0 : Int32), .inl (999 : Int32)]) d_MD_note_36 lm_MD_93 rfl (Nat.le_of_ble_eq_true rfl) rfl h (fun r8 u7 h => ?_)
        refine aw_if_eq (tgt := 52) d_MD_note_39 (by decide) (fun q => ?_) (fun q => ?_)
        · replace h := h.1 q
          refine aw_bipush (v := (-3)) d_MD_note_52 (by decide) ?_
          exact aw_iret d_MD_note_54 rfl h
        · replace h := h.2 q
          refine aw_iload d_MD_note_42 rfl ?_
          refine aw_iconst (v := 0) d_MD_note_44 (by decide) ?_
          refine aw_iconst (v := 3) d_MD_note_45 (by decide) ?_
          refine aw_callS (as := [.inl x5, .inl (0 : Int32), .inl (3 : Int32)]) d_MD_note_46 lm_MD_93 rfl (Nat.le_of_ble_eq_true rfl) rfl h (fun r10 u9 h => ?_)
          refine aw_if_ne (tgt := 55) d_MD_note_49 (by decide) (fun q => ?_) (fun q => ?_)
          · replace h := h.1 q
            refine aw_aload_n d_MD_note_55 rfl ?_
            refine aw_getI d_MD_note_56 lf_MD_97 rfl rfl ?_
            refine aw_bipush (v := 60) d_MD_note_59 (by decide) ?_
            refine aw_icmp_ne (tgt := 67) d_MD_note_61 (by decide) (fun q => ?_) (fun q => ?_)
            · replace h := h.1 q
              refine aw_aload_n d_MD_note_67 rfl ?_
              refine aw_getR (t := 43) d_MD_note_68 lf_MD_7 rfl rfl ?_
              refine aw_aload_n d_MD_note_71 rfl ?_
              refine aw_getI d_MD_note_72 lf_MD_97 rfl rfl ?_
              refine aw_iload_n d_MD_note_75 rfl ?_
              refine aw_iast d_MD_note_76 rfl h.1 ?_
              replace h := h.2
              refine aw_mem (fun u11 e => ?_)
              replace h := h _ e
              refine aw_aload_n d_MD_note_77 rfl ?_
              refine aw_getR (t := 44) d_MD_note_78 lf_MD_13 rfl rfl ?_
              refine aw_aload_n d_MD_note_81 rfl ?_
              refine aw_getI d_MD_note_82 lf_MD_97 rfl rfl ?_
              refine aw_iload_n d_MD_note_85 rfl ?_
              refine aw_iast d_MD_note_86 rfl h.1 ?_
              replace h := h.2
              refine aw_mem (fun u12 e => ?_)
              replace h := h _ e
              refine aw_aload_n d_MD_note_87 rfl ?_
              refine aw_getR (t := 45) d_MD_note_88 lf_MD_16 rfl rfl ?_
              refine aw_aload_n d_MD_note_91 rfl ?_
              refine aw_getI d_MD_note_92 lf_MD_97 rfl rfl ?_
              refine aw_iload_n d_MD_note_95 rfl ?_
              refine aw_iast d_MD_note_96 rfl h.1 ?_
              replace h := h.2
              refine aw_mem (fun u13 e => ?_)
              replace h := h _ e
              refine aw_aload_n d_MD_note_97 rfl ?_
              refine aw_getR (t := 46) d_MD_note_98 lf_MD_19 rfl rfl ?_
              refine aw_aload_n d_MD_note_101 rfl ?_
              refine aw_getI d_MD_note_102 lf_MD_97 rfl rfl ?_
              refine aw_iload d_MD_note_105 rfl ?_
              refine aw_iast d_MD_note_107 rfl h.1 ?_
              replace h := h.2
              refine aw_mem (fun u14 e => ?_)
              replace h := h _ e
              refine aw_aload_n d_MD_note_108 rfl ?_
              refine aw_getR (t := 47) d_MD_note_109 lf_MD_22 rfl rfl ?_
              refine aw_aload_n d_MD_note_112 rfl ?_
              refine aw_getI d_MD_note_113 lf_MD_97 rfl rfl ?_
              refine aw_iload d_MD_note_116 rfl ?_
              refine aw_iast d_MD_note_118 rfl h.1 ?_
              replace h := h.2
              refine aw_mem (fun u15 e => ?_)
              replace h := h _ e
              refine aw_aload_n d_MD_note_119 rfl ?_
              refine aw_iconst (v := 0) d_MD_note_120 (by decide) ?_
              refine aw_putZ d_MD_note_121 lf_MD_100 ⟨_, _, _, rfl, rfl, rfl⟩ rfl rfl (Or.inl rfl) ?_
              refine aw_mem (fun u16 e => ?_)
              replace h := h _ e
              refine aw_aload_n d_MD_note_124 rfl ?_
              refine aw_getR (t := 48) d_MD_note_125 lf_MD_25 rfl rfl ?_
              refine aw_aload_n d_MD_note_128 rfl ?_
              refine aw_getI d_MD_note_129 lf_MD_97 rfl rfl ?_
              refine aw_iconst (v := 0) d_MD_note_132 (by decide) ?_
              refine aw_iast d_MD_note_133 rfl h.1 ?_
              replace h := h.2
              refine aw_mem (fun u17 e => ?_)
              replace h := h _ e
              refine aw_aload_n d_MD_note_134 rfl ?_
              refine aw_getR (t := 49) d_MD_note_135 lf_MD_28 rfl rfl ?_
              refine aw_aload_n d_MD_note_138 rfl ?_
              refine aw_getI d_MD_note_139 lf_MD_97 rfl rfl ?_
              refine aw_iconst (v := 0) d_MD_note_142 (by decide) ?_
              refine aw_iast d_MD_note_143 rfl h.1 ?_
              replace h := h.2
              refine aw_mem (fun u18 e => ?_)
              replace h := h _ e
              refine aw_aload_n d_MD_note_144 rfl ?_
              refine aw_getR (t := 50) d_MD_note_145 lf_MD_31 rfl rfl ?_
              refine aw_aload_n d_MD_note_148 rfl ?_
              refine aw_getI d_MD_note_149 lf_MD_97 rfl rfl ?_
              refine aw_iconst (v := 0) d_MD_note_152 (by decide) ?_
              refine aw_iast d_MD_note_153 rfl h.1 ?_
              replace h := h.2
              refine aw_mem (fun u19 e => ?_)
              replace h := h _ e
              refine aw_aload_n d_MD_note_154 rfl ?_
              refine aw_dup d_MD_note_155 ?_
              refine aw_getI d_MD_note_156 lf_MD_97 rfl rfl ?_
              refine aw_iconst (v := 1) d_MD_note_159 (by decide) ?_
              refine aw_iadd d_MD_note_160 ?_
              refine aw_putI d_MD_note_161 lf_MD_97 ⟨_, _, _, rfl, rfl, rfl⟩ rfl rfl ?_
              refine aw_mem (fun u20 e => ?_)
              replace h := h _ e
              refine aw_aload_n d_MD_note_164 rfl ?_
              refine aw_getI d_MD_note_165 lf_MD_97 rfl rfl ?_
              refine aw_iconst (v := 1) d_MD_note_168 (by decide) ?_
              refine aw_isub d_MD_note_169 ?_
              exact aw_iret d_MD_note_170 rfl h
            · replace h := h.2 q
              refine aw_bipush (v := (-5)) d_MD_note_64 (by decide) ?_
              exact aw_iret d_MD_note_66 rfl h
          · replace h := h.2 q
            refine aw_bipush (v := (-3)) d_MD_note_52 (by decide) ?_
            exact aw_iret d_MD_note_54 rfl h
theorem en_MD_note {G : Gp} {d : Nat} {Q : Int32 → Mem → Prop} {x1 x2 x3 x4 x5 : Int32} {μ : Mem}
    (h : AW G (d + 1) M_MD_note Q 0 [some (.inr 42), some (.inl x1), some (.inl x2), some (.inl x3), some (.inl x4), some (.inl x5)] [] μ) :
    Ct G (d + 1) M_MD_note [.inr 42, .inl x1, .inl x2, .inl x3, .inl x4, .inl x5] μ Q := ct_of (by decide) (Nat.le_of_ble_eq_true rfl) h
set_option maxRecDepth 100000 in
theorem vc_MD_when_0 {G : Gp} {d : Nat} {Q : Int32 → Mem → Prop} {x0 x1 : Int32} {μ : Mem}
    (h : Q (((1000 : Int32) * x0) + x1) μ) :
    AW G d M_MD_when Q 0 [some (.inl x0), some (.inl x1)] [] μ := by
  refine aw_sipush (v := 1000) d_MD_when_0 (by decide) ?_
  refine aw_iload_n d_MD_when_3 rfl ?_
  refine aw_imul d_MD_when_4 ?_
  refine aw_iload_n d_MD_when_5 rfl ?_
  refine aw_iadd d_MD_when_6 ?_
  exact aw_iret d_MD_when_7 rfl h
theorem en_MD_when {G : Gp} {d : Nat} {Q : Int32 → Mem → Prop} {x0 x1 : Int32} {μ : Mem}
    (h : AW G d M_MD_when Q 0 [some (.inl x0), some (.inl x1)] [] μ) :
    Ct G d M_MD_when [.inl x0, .inl x1] μ Q := ct_of (by decide) (Nat.le_of_ble_eq_true rfl) h
set_option maxRecDepth 100000 in
theorem vc_MD_whenOf_0 {G : Gp} {d : Nat} {Q : Int32 → Mem → Prop} {x1 : Int32} {μ : Mem}
    (h : vp_in x1 60 ∧ vp_in x1 60 ∧ Ct G d M_MD_when [.inl (μ 45 (ix x1)), .inl (μ 46 (ix x1))] μ (fun r2 u1 => Q r2 u1)) :
    AW G (d + 1) M_MD_whenOf Q 0 [some (.inr 42), some (.inl x1)] [] μ := by
  refine aw_aload_n d_MD_whenOf_0 rfl ?_
  refine aw_getR (t := 45) d_MD_whenOf_1 lf_MD_16 rfl rfl ?_
  refine aw_iload_n d_MD_whenOf_4 rfl ?_
  refine aw_iald d_MD_whenOf_5 rfl h.1 ?_
  replace h := h.2
  refine aw_aload_n d_MD_whenOf_6 rfl ?_
  refine aw_getR (t := 46) d_MD_whenOf_7 lf_MD_19 rfl rfl ?_
  refine aw_iload_n d_MD_whenOf_10 rfl ?_
  refine aw_iald d_MD_whenOf_11 rfl h.1 ?_
  replace h := h.2
  refine aw_callS (as := [.inl (μ 45 (ix x1)), .inl (μ 46 (ix x1))]) d_MD_whenOf_12 lm_MD_104 rfl (Nat.le_of_ble_eq_true rfl) rfl h (fun r2 u1 h => ?_)
  exact aw_iret d_MD_whenOf_15 rfl h
theorem en_MD_whenOf {G : Gp} {d : Nat} {Q : Int32 → Mem → Prop} {x1 : Int32} {μ : Mem}
    (h : AW G (d + 1) M_MD_whenOf Q 0 [some (.inr 42), some (.inl x1)] [] μ) :
    Ct G (d + 1) M_MD_whenOf [.inr 42, .inl x1] μ Q := ct_of (by decide) (Nat.le_of_ble_eq_true rfl) h
set_option maxRecDepth 100000 in
theorem vc_MD_mate_0 {G : Gp} {d : Nat} {Q : Int32 → Mem → Prop} {x1 : Int32} {μ : Mem}
    (h : AW G (d + 1) M_MD_mate Q 4 [some (.inr 42), some (.inl x1), some (.inl (-1 : Int32)), some (.inl (0 : Int32))] [] μ) :
    AW G (d + 1) M_MD_mate Q 0 [some (.inr 42), some (.inl x1), none, none] [] μ := by
  refine aw_iconst (v := (-1)) d_MD_mate_0 (by decide) ?_
  refine aw_istore_n d_MD_mate_1 (Nat.le_of_ble_eq_true rfl) ?_
  refine aw_iconst (v := 0) d_MD_mate_2 (by decide) ?_
  refine aw_istore_n d_MD_mate_3 (Nat.le_of_ble_eq_true rfl) ?_
  exact h
theorem en_MD_mate {G : Gp} {d : Nat} {Q : Int32 → Mem → Prop} {x1 : Int32} {μ : Mem}
    (h : AW G (d + 1) M_MD_mate Q 0 [some (.inr 42), some (.inl x1), none, none] [] μ) :
    Ct G (d + 1) M_MD_mate [.inr 42, .inl x1] μ Q := ct_of (by decide) (Nat.le_of_ble_eq_true rfl) h
set_option maxRecDepth 100000 in
theorem vc_MD_mate_4 {G : Gp} {d : Nat} {Q : Int32 → Mem → Prop} {x1 x2 x3 : Int32} {μ : Mem}
    (h : ((μ 42 8) ≤ x3 → (x2 < 0 → Q (-1 : Int32) μ) ∧ (¬ x2 < 0 → vp_in x2 60 ∧ vp_in x1 60 ∧ ((μ 44 (ix x2)) = (μ 44 (ix x1)) → Q x2 μ) ∧ (¬ (μ 44 (ix x2)) = (μ 44 (ix x1)) → Q (-1 : Int32) μ))) ∧ (¬ (μ 42 8) ≤ x3 → vp_in x3 60 ∧ vp_in x1 60 ∧ (¬ (μ 47 (ix x3)) = (μ 47 (ix x1)) → AW G (d + 1) M_MD_mate Q 4 [some (.inr 42), some (.inl x1), some (.inl x2), some (.inl (x3 + (1 : Int32)))] [] μ) ∧ ((μ 47 (ix x3)) = (μ 47 (ix x1)) → vp_in x3 60 ∧ vp_in x1 60 ∧ (¬ (μ 43 (ix x3)) = (μ 43 (ix x1)) → AW G (d + 1) M_MD_mate Q 4 [some (.inr 42), some (.inl x1), some (.inl x2), some (.inl (x3 + (1 : Int32)))] [] μ) ∧ ((μ 43 (ix x3)) = (μ 43 (ix x1)) → Ct G d M_MD_whenOf [.inr 42, .inl x3] μ (fun r2 u1 => Ct G d M_MD_whenOf [.inr 42, .inl x1] u1 (fun r4 u3 => (r4 ≤ r2 → AW G (d + 1) M_MD_mate Q 4 [some (.inr 42), some (.inl x1), some (.inl x2), some (.inl (x3 + (1 : Int32)))] [] u3) ∧ (¬ r4 ≤ r2 → (x2 < 0 → AW G (d + 1) M_MD_mate Q 4 [some (.inr 42), some (.inl x1), some (.inl x3), some (.inl (x3 + (1 : Int32)))] [] u3) ∧ (¬ x2 < 0 → Ct G d M_MD_whenOf [.inr 42, .inl x3] u3 (fun r6 u5 => Ct G d M_MD_whenOf [.inr 42, .inl x2] u5 (fun r8 u7 => (r6 < r8 → AW G (d + 1) M_MD_mate Q 4 [some (.inr 42), some (.inl x1), some (.inl x2), some (.inl (x3 + (1 : Int32)))] [] u7) ∧ (¬ r6 < r8 → AW G (d + 1) M_MD_mate Q 4 [some (.inr 42), some (.inl x1), some (.inl x3), some (.inl (x3 + (1 : Int32)))] [] u7))))))))))) :
    AW G (d + 1) M_MD_mate Q 4 [some (.inr 42), some (.inl x1), some (.inl x2), some (.inl x3)] [] μ := by
  refine aw_iload_n d_MD_mate_4 rfl ?_
  refine aw_aload_n d_MD_mate_5 rfl ?_
  refine aw_getI d_MD_mate_6 lf_MD_97 rfl rfl ?_
  refine aw_icmp_ge (tgt := 80) d_MD_mate_9 (by decide) (fun q => ?_) (fun q => ?_)
  · replace h := h.1 q
    refine aw_iload_n d_MD_mate_80 rfl ?_
    refine aw_if_lt (tgt := 99) d_MD_mate_81 (by decide) (fun q => ?_) (fun q => ?_)
    · replace h := h.1 q
      refine aw_iconst (v := (-1)) d_MD_mate_99 (by decide) ?_
      refine aw_goto (tgt := 104) d_MD_mate_100 (by decide) ?_
      exact aw_iret d_MD_mate_104 rfl h
    · replace h := h.2 q
      refine aw_aload_n d_MD_mate_84 rfl ?_
      refine aw_getR (t := 44) d_MD_mate_85 lf_MD_13 rfl rfl ?_
      refine aw_iload_n d_MD_mate_88 rfl ?_
      refine aw_iald d_MD_mate_89 rfl h.1 ?_
      replace h := h.2
      refine aw_aload_n d_MD_mate_90 rfl ?_
      refine aw_getR (t := 44) d_MD_mate_91 lf_MD_13 rfl rfl ?_
      refine aw_iload_n d_MD_mate_94 rfl ?_
      refine aw_iald d_MD_mate_95 rfl h.1 ?_
      replace h := h.2
      refine aw_icmp_eq (tgt := 103) d_MD_mate_96 (by decide) (fun q => ?_) (fun q => ?_)
      · replace h := h.1 q
        refine aw_iload_n d_MD_mate_103 rfl ?_
        exact aw_iret d_MD_mate_104 rfl h
      · replace h := h.2 q
        refine aw_iconst (v := (-1)) d_MD_mate_99 (by decide) ?_
        refine aw_goto (tgt := 104) d_MD_mate_100 (by decide) ?_
        exact aw_iret d_MD_mate_104 rfl h
  · replace h := h.2 q
    refine aw_aload_n d_MD_mate_12 rfl ?_
    refine aw_getR (t := 47) d_MD_mate_13 lf_MD_22 rfl rfl ?_
    refine aw_iload_n d_MD_mate_16 rfl ?_
    refine aw_iald d_MD_mate_17 rfl h.1 ?_
    replace h := h.2
    refine aw_aload_n d_MD_mate_18 rfl ?_
    refine aw_getR (t := 47) d_MD_mate_19 lf_MD_22 rfl rfl ?_
    refine aw_iload_n d_MD_mate_22 rfl ?_
    refine aw_iald d_MD_mate_23 rfl h.1 ?_
    replace h := h.2
    refine aw_icmp_ne (tgt := 74) d_MD_mate_24 (by decide) (fun q => ?_) (fun q => ?_)
    · replace h := h.1 q
      refine aw_iinc (v := 1) d_MD_mate_74 rfl (by decide) ?_
      refine aw_goto (tgt := 4) d_MD_mate_77 (by decide) ?_
      exact h
    · replace h := h.2 q
      refine aw_aload_n d_MD_mate_27 rfl ?_
      refine aw_getR (t := 43) d_MD_mate_28 lf_MD_7 rfl rfl ?_
      refine aw_iload_n d_MD_mate_31 rfl ?_
      refine aw_iald d_MD_mate_32 rfl h.1 ?_
      replace h := h.2
      refine aw_aload_n d_MD_mate_33 rfl ?_
      refine aw_getR (t := 43) d_MD_mate_34 lf_MD_7 rfl rfl ?_
      refine aw_iload_n d_MD_mate_37 rfl ?_
      refine aw_iald d_MD_mate_38 rfl h.1 ?_
      replace h := h.2
      refine aw_icmp_ne (tgt := 74) d_MD_mate_39 (by decide) (fun q => ?_) (fun q => ?_)
      · replace h := h.1 q
        refine aw_iinc (v := 1) d_MD_mate_74 rfl (by decide) ?_
        refine aw_goto (tgt := 4) d_MD_mate_77 (by decide) ?_
        exact h
      · replace h := h.2 q
        refine aw_aload_n d_MD_mate_42 rfl ?_
        refine aw_iload_n d_MD_mate_43 rfl ?_
        refine aw_callV (as := [.inl x3]) d_MD_mate_44 lm_MD_108 rfl rfl (by decide) rfl (Nat.le_of_ble_eq_true rfl) rfl h (fun r2 u1 h => ?_)
        refine aw_aload_n d_MD_mate_47 rfl ?_
        refine aw_iload_n d_MD_mate_48 rfl ?_
        refine aw_callV (as := [.inl x1]) d_MD_mate_49 lm_MD_108 rfl rfl (by decide) rfl (Nat.le_of_ble_eq_true rfl) rfl h (fun r4 u3 h => ?_)
        refine aw_icmp_ge (tgt := 74) d_MD_mate_52 (by decide) (fun q => ?_) (fun q => ?_)
        · replace h := h.1 q
          refine aw_iinc (v := 1) d_MD_mate_74 rfl (by decide) ?_
          refine aw_goto (tgt := 4) d_MD_mate_77 (by decide) ?_
          exact h
        · replace h := h.2 q
          refine aw_iload_n d_MD_mate_55 rfl ?_
          refine aw_if_lt (tgt := 72) d_MD_mate_56 (by decide) (fun q => ?_) (fun q => ?_)
          · replace h := h.1 q
            refine aw_iload_n d_MD_mate_72 rfl ?_
            refine aw_istore_n d_MD_mate_73 (Nat.le_of_ble_eq_true rfl) ?_
            refine aw_iinc (v := 1) d_MD_mate_74 rfl (by decide) ?_
            refine aw_goto (tgt := 4) d_MD_mate_77 (by decide) ?_
            exact h
          · replace h := h.2 q
            refine aw_aload_n d_MD_mate_59 rfl ?_
            refine aw_iload_n d_MD_mate_60 rfl ?_
            refine aw_callV (as := [.inl x3]) d_MD_mate_61 lm_MD_108 rfl rfl (by decide) rfl (Nat.le_of_ble_eq_true rfl) rfl h (fun r6 u5 h => ?_)
            refine aw_aload_n d_MD_mate_64 rfl ?_
            refine aw_iload_n d_MD_mate_65 rfl ?_
            refine aw_callV (as := [.inl x2]) d_MD_mate_66 lm_MD_108 rfl rfl (by decide) rfl (Nat.le_of_ble_eq_true rfl) rfl h (fun r8 u7 h => ?_)
            refine aw_icmp_lt (tgt := 74) d_MD_mate_69 (by decide) (fun q => ?_) (fun q => ?_)
            · replace h := h.1 q
              refine aw_iinc (v := 1) d_MD_mate_74 rfl (by decide) ?_
              refine aw_goto (tgt := 4) d_MD_mate_77 (by decide) ?_
              exact h
            · replace h := h.2 q
              refine aw_iload_n d_MD_mate_72 rfl ?_
              refine aw_istore_n d_MD_mate_73 (Nat.le_of_ble_eq_true rfl) ?_
              refine aw_iinc (v := 1) d_MD_mate_74 rfl (by decide) ?_
              refine aw_goto (tgt := 4) d_MD_mate_77 (by decide) ?_
              exact h
set_option maxRecDepth 100000 in
theorem vc_MD_mark_0 {G : Gp} {d : Nat} {Q : Int32 → Mem → Prop} {x1 x2 x3 : Int32} {μ : Mem}
    (h : Ct G d M_MD_in [.inl x1, .inl (0 : Int32), .inl ((μ 42 8) - (1 : Int32))] μ (fun r2 u1 => (¬ r2 = 0 → Ct G d M_MD_in [.inl x2, .inl (0 : Int32), .inl (2 : Int32)] u1 (fun r4 u3 => (r4 = 0 → Q (-3 : Int32) u3) ∧ (¬ r4 = 0 → (¬ x2 = (2 : Int32) → AW G (d + 1) M_MD_mark Q 38 [some (.inr 42), some (.inl x1), some (.inl x2), some (.inl x3), none] [.inl (1 : Int32), .inl (0 : Int32), .inl x3] u3) ∧ (x2 = (2 : Int32) → AW G (d + 1) M_MD_mark Q 38 [some (.inr 42), some (.inl x1), some (.inl x2), some (.inl x3), none] [.inl (3 : Int32), .inl (0 : Int32), .inl x3] u3)))) ∧ (r2 = 0 → Q (-2 : Int32) u1))) :
    AW G (d + 1) M_MD_mark Q 0 [some (.inr 42), some (.inl x1), some (.inl x2), some (.inl x3), none] [] μ := by
  refine aw_iload_n d_MD_mark_0 rfl ?_
  refine aw_iconst (v := 0) d_MD_mark_1 (by decide) ?_
  refine aw_aload_n d_MD_mark_2 rfl ?_
  refine aw_getI d_MD_mark_3 lf_MD_97 rfl rfl ?_
  refine aw_iconst (v := 1) d_MD_mark_6 (by decide) ?_
  refine aw_isub d_MD_mark_7 ?_
  refine aw_callS (as := [.inl x1, .inl (0 : Int32), .inl ((μ 42 8) - (1 : Int32))]) d_MD_mark_8 lm_MD_93 rfl (Nat.le_of_ble_eq_true rfl) rfl h (fun r2 u1 h => ?_)
  refine aw_if_ne (tgt := 17) d_MD_mark_11 (by decide) (fun q => ?_) (fun q => ?_)
  · replace h := h.1 q
    refine aw_iload_n d_MD_mark_17 rfl ?_
    refine aw_iconst (v := 0) d_MD_mark_18 (by decide) ?_
    refine aw_iconst (v := 2) d_MD_mark_19 (by decide) ?_
    refine aw_callS (as := [.inl x2, .inl (0 : Int32), .inl (2 : Int32)]) d_MD_mark_20 lm_MD_93 rfl (Nat.le_of_ble_eq_true rfl) rfl h (fun r4 u3 h => ?_)
    refine aw_if_eq (tgt := 44) d_MD_mark_23 (by decide) (fun q => ?_) (fun q => ?_)
    · replace h := h.1 q
      refine aw_bipush (v := (-3)) d_MD_mark_44 (by decide) ?_
      exact aw_iret d_MD_mark_46 rfl h
    · replace h := h.2 q
      refine aw_iload_n d_MD_mark_26 rfl ?_
      refine aw_iconst (v := 0) d_MD_mark_27 (by decide) ?_
      refine aw_iload_n d_MD_mark_28 rfl ?_
      refine aw_iconst (v := 2) d_MD_mark_29 (by decide) ?_
      refine aw_icmp_ne (tgt := 37) d_MD_mark_30 (by decide) (fun q => ?_) (fun q => ?_)
      · replace h := h.1 q
        refine aw_iconst (v := 1) d_MD_mark_37 (by decide) ?_
        exact h
      · replace h := h.2 q
        refine aw_iconst (v := 3) d_MD_mark_33 (by decide) ?_
        refine aw_goto (tgt := 38) d_MD_mark_34 (by decide) ?_
        exact h
  · replace h := h.2 q
    refine aw_bipush (v := (-2)) d_MD_mark_14 (by decide) ?_
    exact aw_iret d_MD_mark_16 rfl h
theorem en_MD_mark {G : Gp} {d : Nat} {Q : Int32 → Mem → Prop} {x1 x2 x3 : Int32} {μ : Mem}
    (h : AW G (d + 1) M_MD_mark Q 0 [some (.inr 42), some (.inl x1), some (.inl x2), some (.inl x3), none] [] μ) :
    Ct G (d + 1) M_MD_mark [.inr 42, .inl x1, .inl x2, .inl x3] μ Q := ct_of (by decide) (Nat.le_of_ble_eq_true rfl) h
set_option maxRecDepth 100000 in
theorem vc_MD_mark_38 {G : Gp} {d : Nat} {Q : Int32 → Mem → Prop} {x1 x2 x3 s0 s1 s2 : Int32} {μ : Mem}
    (h : Ct G d M_MD_in [.inl s2, .inl s1, .inl s0] μ (fun r2 u1 => (¬ r2 = 0 → ∀ u3 : Mem, u3 = up u1 42 21 (0 : Int32) → (¬ x2 = 0 → (¬ x2 = (1 : Int32) → vp_in x1 60 ∧ AW G (d + 1) M_MD_mark Q 85 [some (.inr 42), some (.inl x1), some (.inl x2), some (.inl x3), none] [.inl (u3 50 (ix x1))] u3) ∧ (x2 = (1 : Int32) → vp_in x1 60 ∧ AW G (d + 1) M_MD_mark Q 85 [some (.inr 42), some (.inl x1), some (.inl x2), some (.inl x3), none] [.inl (u3 49 (ix x1))] u3)) ∧ (x2 = 0 → vp_in x1 60 ∧ AW G (d + 1) M_MD_mark Q 85 [some (.inr 42), some (.inl x1), some (.inl x2), some (.inl x3), none] [.inl (u3 48 (ix x1))] u3)) ∧ (r2 = 0 → Q (-3 : Int32) u1))) :
    AW G (d + 1) M_MD_mark Q 38 [some (.inr 42), some (.inl x1), some (.inl x2), some (.inl x3), none] [.inl s0, .inl s1, .inl s2] μ := by
  refine aw_callS (as := [.inl s2, .inl s1, .inl s0]) d_MD_mark_38 lm_MD_93 rfl (Nat.le_of_ble_eq_true rfl) rfl h (fun r2 u1 h => ?_)
  refine aw_if_ne (tgt := 47) d_MD_mark_41 (by decide) (fun q => ?_) (fun q => ?_)
  · replace h := h.1 q
    refine aw_aload_n d_MD_mark_47 rfl ?_
    refine aw_iconst (v := 0) d_MD_mark_48 (by decide) ?_
    refine aw_putZ d_MD_mark_49 lf_MD_100 ⟨_, _, _, rfl, rfl, rfl⟩ rfl rfl (Or.inl rfl) ?_
    refine aw_mem (fun u3 e => ?_)
    replace h := h _ e
    refine aw_iload_n d_MD_mark_52 rfl ?_
    refine aw_if_ne (tgt := 65) d_MD_mark_53 (by decide) (fun q => ?_) (fun q => ?_)
    · replace h := h.1 q
      refine aw_iload_n d_MD_mark_65 rfl ?_
      refine aw_iconst (v := 1) d_MD_mark_66 (by decide) ?_
      refine aw_icmp_ne (tgt := 79) d_MD_mark_67 (by decide) (fun q => ?_) (fun q => ?_)
      · replace h := h.1 q
        refine aw_aload_n d_MD_mark_79 rfl ?_
        refine aw_getR (t := 50) d_MD_mark_80 lf_MD_31 rfl rfl ?_
        refine aw_iload_n d_MD_mark_83 rfl ?_
        refine aw_iald d_MD_mark_84 rfl h.1 ?_
        replace h := h.2
        exact h
      · replace h := h.2 q
        refine aw_aload_n d_MD_mark_70 rfl ?_
        refine aw_getR (t := 49) d_MD_mark_71 lf_MD_28 rfl rfl ?_
        refine aw_iload_n d_MD_mark_74 rfl ?_
        refine aw_iald d_MD_mark_75 rfl h.1 ?_
        replace h := h.2
        refine aw_goto (tgt := 85) d_MD_mark_76 (by decide) ?_
        exact h
    · replace h := h.2 q
      refine aw_aload_n d_MD_mark_56 rfl ?_
      refine aw_getR (t := 48) d_MD_mark_57 lf_MD_25 rfl rfl ?_
      refine aw_iload_n d_MD_mark_60 rfl ?_
      refine aw_iald d_MD_mark_61 rfl h.1 ?_
      replace h := h.2
      refine aw_goto (tgt := 85) d_MD_mark_62 (by decide) ?_
      exact h
  · replace h := h.2 q
    refine aw_bipush (v := (-3)) d_MD_mark_44 (by decide) ?_
    exact aw_iret d_MD_mark_46 rfl h
set_option maxRecDepth 100000 in
theorem vc_MD_mark_85 {G : Gp} {d : Nat} {Q : Int32 → Mem → Prop} {x1 x2 x3 s0 : Int32} {μ : Mem}
    (h : (¬ x2 = 0 → (¬ x2 = (1 : Int32) → vp_in x1 60 ∧ ∀ u1 : Mem, u1 = up μ 50 (ix x1) x3 → Q s0 u1) ∧ (x2 = (1 : Int32) → vp_in x1 60 ∧ ∀ u2 : Mem, u2 = up μ 49 (ix x1) x3 → Q s0 u2)) ∧ (x2 = 0 → (¬ x3 = (1 : Int32) → vp_in x1 60 ∧ ∀ u3 : Mem, u3 = up μ 48 (ix x1) x3 → Q s0 u3) ∧ (x3 = (1 : Int32) → Ct G d M_MD_mate [.inr 42, .inl x1] μ (fun r5 u4 => (0 ≤ r5 → vp_in x1 60 ∧ ∀ u6 : Mem, u6 = up u4 48 (ix x1) x3 → Q s0 u6) ∧ (¬ 0 ≤ r5 → Q (-4 : Int32) u4))))) :
    AW G (d + 1) M_MD_mark Q 85 [some (.inr 42), some (.inl x1), some (.inl x2), some (.inl x3), none] [.inl s0] μ := by
  refine aw_istore d_MD_mark_85 (Nat.le_of_ble_eq_true rfl) ?_
  refine aw_iload_n d_MD_mark_87 rfl ?_
  refine aw_if_ne (tgt := 117) d_MD_mark_88 (by decide) (fun q => ?_) (fun q => ?_)
  · replace h := h.1 q
    refine aw_iload_n d_MD_mark_117 rfl ?_
    refine aw_iconst (v := 1) d_MD_mark_118 (by decide) ?_
    refine aw_icmp_ne (tgt := 132) d_MD_mark_119 (by decide) (fun q => ?_) (fun q => ?_)
    · replace h := h.1 q
      refine aw_aload_n d_MD_mark_132 rfl ?_
      refine aw_getR (t := 50) d_MD_mark_133 lf_MD_31 rfl rfl ?_
      refine aw_iload_n d_MD_mark_136 rfl ?_
      refine aw_iload_n d_MD_mark_137 rfl ?_
      refine aw_iast d_MD_mark_138 rfl h.1 ?_
      replace h := h.2
      refine aw_mem (fun u1 e => ?_)
      replace h := h _ e
      refine aw_iload d_MD_mark_139 rfl ?_
      exact aw_iret d_MD_mark_141 rfl h
    · replace h := h.2 q
      refine aw_aload_n d_MD_mark_122 rfl ?_
      refine aw_getR (t := 49) d_MD_mark_123 lf_MD_28 rfl rfl ?_
      refine aw_iload_n d_MD_mark_126 rfl ?_
      refine aw_iload_n d_MD_mark_127 rfl ?_
      refine aw_iast d_MD_mark_128 rfl h.1 ?_
      replace h := h.2
      refine aw_mem (fun u2 e => ?_)
      replace h := h _ e
      refine aw_goto (tgt := 139) d_MD_mark_129 (by decide) ?_
      refine aw_iload d_MD_mark_139 rfl ?_
      exact aw_iret d_MD_mark_141 rfl h
  · replace h := h.2 q
    refine aw_iload_n d_MD_mark_91 rfl ?_
    refine aw_iconst (v := 1) d_MD_mark_92 (by decide) ?_
    refine aw_icmp_ne (tgt := 107) d_MD_mark_93 (by decide) (fun q => ?_) (fun q => ?_)
    · replace h := h.1 q
      refine aw_aload_n d_MD_mark_107 rfl ?_
      refine aw_getR (t := 48) d_MD_mark_108 lf_MD_25 rfl rfl ?_
      refine aw_iload_n d_MD_mark_111 rfl ?_
      refine aw_iload_n d_MD_mark_112 rfl ?_
      refine aw_iast d_MD_mark_113 rfl h.1 ?_
      replace h := h.2
      refine aw_mem (fun u3 e => ?_)
      replace h := h _ e
      refine aw_goto (tgt := 139) d_MD_mark_114 (by decide) ?_
      refine aw_iload d_MD_mark_139 rfl ?_
      exact aw_iret d_MD_mark_141 rfl h
    · replace h := h.2 q
      refine aw_aload_n d_MD_mark_96 rfl ?_
      refine aw_iload_n d_MD_mark_97 rfl ?_
      refine aw_callV (as := [.inl x1]) d_MD_mark_98 lm_MD_112 rfl rfl (by decide) rfl (Nat.le_of_ble_eq_true rfl) rfl h (fun r5 u4 h => ?_)
      refine aw_if_ge (tgt := 107) d_MD_mark_101 (by decide) (fun q => ?_) (fun q => ?_)
      · replace h := h.1 q
        refine aw_aload_n d_MD_mark_107 rfl ?_
        refine aw_getR (t := 48) d_MD_mark_108 lf_MD_25 rfl rfl ?_
        refine aw_iload_n d_MD_mark_111 rfl ?_
        refine aw_iload_n d_MD_mark_112 rfl ?_
        refine aw_iast d_MD_mark_113 rfl h.1 ?_
        replace h := h.2
        refine aw_mem (fun u6 e => ?_)
        replace h := h _ e
        refine aw_goto (tgt := 139) d_MD_mark_114 (by decide) ?_
        refine aw_iload d_MD_mark_139 rfl ?_
        exact aw_iret d_MD_mark_141 rfl h
      · replace h := h.2 q
        refine aw_bipush (v := (-4)) d_MD_mark_104 (by decide) ?_
        exact aw_iret d_MD_mark_106 rfl h
set_option maxRecDepth 100000 in
theorem vc_MD_keyOf_0 {G : Gp} {d : Nat} {Q : Int32 → Mem → Prop} {x1 : Int32} {μ : Mem}
    (h : AW G d M_MD_keyOf Q 2 [some (.inr 42), none, some (.inl x1)] [] μ) :
    AW G d M_MD_keyOf Q 0 [some (.inr 42), some (.inl x1), none] [] μ := by
  refine aw_iload_n d_MD_keyOf_0 rfl ?_
  refine aw_istore_n d_MD_keyOf_1 (Nat.le_of_ble_eq_true rfl) ?_
  refine aw_drop 1 ?_
  exact h
theorem en_MD_keyOf {G : Gp} {d : Nat} {Q : Int32 → Mem → Prop} {x1 : Int32} {μ : Mem}
    (h : AW G d M_MD_keyOf Q 0 [some (.inr 42), some (.inl x1), none] [] μ) :
    Ct G d M_MD_keyOf [.inr 42, .inl x1] μ Q := ct_of (by decide) (Nat.le_of_ble_eq_true rfl) h
set_option maxRecDepth 100000 in
theorem vc_MD_keyOf_2 {G : Gp} {d : Nat} {Q : Int32 → Mem → Prop} {x2 : Int32} {μ : Mem}
    (h : (x2 ≤ 0 → vp_in x2 20 ∧ (¬ (μ 51 (ix x2)) = 0 → vp_in x2 20 ∧ Q ((μ 51 (ix x2)) - (8 : Int32)) μ) ∧ ((μ 51 (ix x2)) = 0 → Q (0 : Int32) μ)) ∧ (¬ x2 ≤ 0 → vp_in x2 20 ∧ (¬ (μ 51 (ix x2)) = 0 → vp_in x2 20 ∧ (¬ (μ 51 (ix x2)) = 0 → vp_in x2 20 ∧ Q ((μ 51 (ix x2)) - (8 : Int32)) μ) ∧ ((μ 51 (ix x2)) = 0 → Q (0 : Int32) μ)) ∧ ((μ 51 (ix x2)) = 0 → AW G d M_MD_keyOf Q 2 [some (.inr 42), none, some (.inl (x2 + (-1 : Int32)))] [] μ))) :
    AW G d M_MD_keyOf Q 2 [some (.inr 42), none, some (.inl x2)] [] μ := by
  refine aw_iload_n d_MD_keyOf_2 rfl ?_
  refine aw_if_le (tgt := 21) d_MD_keyOf_3 (by decide) (fun q => ?_) (fun q => ?_)
  · replace h := h.1 q
    refine aw_aload_n d_MD_keyOf_21 rfl ?_
    refine aw_getR (t := 51) d_MD_keyOf_22 lf_MD_34 rfl rfl ?_
    refine aw_iload_n d_MD_keyOf_25 rfl ?_
    refine aw_iald d_MD_keyOf_26 rfl h.1 ?_
    replace h := h.2
    refine aw_if_ne (tgt := 34) d_MD_keyOf_27 (by decide) (fun q => ?_) (fun q => ?_)
    · replace h := h.1 q
      refine aw_aload_n d_MD_keyOf_34 rfl ?_
      refine aw_getR (t := 51) d_MD_keyOf_35 lf_MD_34 rfl rfl ?_
      refine aw_iload_n d_MD_keyOf_38 rfl ?_
      refine aw_iald d_MD_keyOf_39 rfl h.1 ?_
      replace h := h.2
      refine aw_bipush (v := 8) d_MD_keyOf_40 (by decide) ?_
      refine aw_isub d_MD_keyOf_42 ?_
      exact aw_iret d_MD_keyOf_43 rfl h
    · replace h := h.2 q
      refine aw_iconst (v := 0) d_MD_keyOf_30 (by decide) ?_
      refine aw_goto (tgt := 43) d_MD_keyOf_31 (by decide) ?_
      exact aw_iret d_MD_keyOf_43 rfl h
  · replace h := h.2 q
    refine aw_aload_n d_MD_keyOf_6 rfl ?_
    refine aw_getR (t := 51) d_MD_keyOf_7 lf_MD_34 rfl rfl ?_
    refine aw_iload_n d_MD_keyOf_10 rfl ?_
    refine aw_iald d_MD_keyOf_11 rfl h.1 ?_
    replace h := h.2
    refine aw_if_ne (tgt := 21) d_MD_keyOf_12 (by decide) (fun q => ?_) (fun q => ?_)
    · replace h := h.1 q
      refine aw_aload_n d_MD_keyOf_21 rfl ?_
      refine aw_getR (t := 51) d_MD_keyOf_22 lf_MD_34 rfl rfl ?_
      refine aw_iload_n d_MD_keyOf_25 rfl ?_
      refine aw_iald d_MD_keyOf_26 rfl h.1 ?_
      replace h := h.2
      refine aw_if_ne (tgt := 34) d_MD_keyOf_27 (by decide) (fun q => ?_) (fun q => ?_)
      · replace h := h.1 q
        refine aw_aload_n d_MD_keyOf_34 rfl ?_
        refine aw_getR (t := 51) d_MD_keyOf_35 lf_MD_34 rfl rfl ?_
        refine aw_iload_n d_MD_keyOf_38 rfl ?_
        refine aw_iald d_MD_keyOf_39 rfl h.1 ?_
        replace h := h.2
        refine aw_bipush (v := 8) d_MD_keyOf_40 (by decide) ?_
        refine aw_isub d_MD_keyOf_42 ?_
        exact aw_iret d_MD_keyOf_43 rfl h
      · replace h := h.2 q
        refine aw_iconst (v := 0) d_MD_keyOf_30 (by decide) ?_
        refine aw_goto (tgt := 43) d_MD_keyOf_31 (by decide) ?_
        exact aw_iret d_MD_keyOf_43 rfl h
    · replace h := h.2 q
      refine aw_iinc (v := (-1)) d_MD_keyOf_15 rfl (by decide) ?_
      refine aw_goto (tgt := 2) d_MD_keyOf_18 (by decide) ?_
      exact h
set_option maxRecDepth 100000 in
theorem vc_MD_clefOf_0 {G : Gp} {d : Nat} {Q : Int32 → Mem → Prop} {x1 : Int32} {μ : Mem}
    (h : AW G d M_MD_clefOf Q 2 [some (.inr 42), none, some (.inl x1)] [] μ) :
    AW G d M_MD_clefOf Q 0 [some (.inr 42), some (.inl x1), none] [] μ := by
  refine aw_iload_n d_MD_clefOf_0 rfl ?_
  refine aw_istore_n d_MD_clefOf_1 (Nat.le_of_ble_eq_true rfl) ?_
  refine aw_drop 1 ?_
  exact h
theorem en_MD_clefOf {G : Gp} {d : Nat} {Q : Int32 → Mem → Prop} {x1 : Int32} {μ : Mem}
    (h : AW G d M_MD_clefOf Q 0 [some (.inr 42), some (.inl x1), none] [] μ) :
    Ct G d M_MD_clefOf [.inr 42, .inl x1] μ Q := ct_of (by decide) (Nat.le_of_ble_eq_true rfl) h
set_option maxRecDepth 100000 in
theorem vc_MD_clefOf_2 {G : Gp} {d : Nat} {Q : Int32 → Mem → Prop} {x2 : Int32} {μ : Mem}
    (h : (x2 ≤ 0 → vp_in x2 20 ∧ (¬ (μ 52 (ix x2)) = 0 → vp_in x2 20 ∧ Q ((μ 52 (ix x2)) - (1 : Int32)) μ) ∧ ((μ 52 (ix x2)) = 0 → Q (0 : Int32) μ)) ∧ (¬ x2 ≤ 0 → vp_in x2 20 ∧ (¬ (μ 52 (ix x2)) = 0 → vp_in x2 20 ∧ (¬ (μ 52 (ix x2)) = 0 → vp_in x2 20 ∧ Q ((μ 52 (ix x2)) - (1 : Int32)) μ) ∧ ((μ 52 (ix x2)) = 0 → Q (0 : Int32) μ)) ∧ ((μ 52 (ix x2)) = 0 → AW G d M_MD_clefOf Q 2 [some (.inr 42), none, some (.inl (x2 + (-1 : Int32)))] [] μ))) :
    AW G d M_MD_clefOf Q 2 [some (.inr 42), none, some (.inl x2)] [] μ := by
  refine aw_iload_n d_MD_clefOf_2 rfl ?_
  refine aw_if_le (tgt := 21) d_MD_clefOf_3 (by decide) (fun q => ?_) (fun q => ?_)
  · replace h := h.1 q
    refine aw_aload_n d_MD_clefOf_21 rfl ?_
    refine aw_getR (t := 52) d_MD_clefOf_22 lf_MD_37 rfl rfl ?_
    refine aw_iload_n d_MD_clefOf_25 rfl ?_
    refine aw_iald d_MD_clefOf_26 rfl h.1 ?_
    replace h := h.2
    refine aw_if_ne (tgt := 34) d_MD_clefOf_27 (by decide) (fun q => ?_) (fun q => ?_)
    · replace h := h.1 q
      refine aw_aload_n d_MD_clefOf_34 rfl ?_
      refine aw_getR (t := 52) d_MD_clefOf_35 lf_MD_37 rfl rfl ?_
      refine aw_iload_n d_MD_clefOf_38 rfl ?_
      refine aw_iald d_MD_clefOf_39 rfl h.1 ?_
      replace h := h.2
      refine aw_iconst (v := 1) d_MD_clefOf_40 (by decide) ?_
      refine aw_isub d_MD_clefOf_41 ?_
      exact aw_iret d_MD_clefOf_42 rfl h
    · replace h := h.2 q
      refine aw_iconst (v := 0) d_MD_clefOf_30 (by decide) ?_
      refine aw_goto (tgt := 42) d_MD_clefOf_31 (by decide) ?_
      exact aw_iret d_MD_clefOf_42 rfl h
  · replace h := h.2 q
    refine aw_aload_n d_MD_clefOf_6 rfl ?_
    refine aw_getR (t := 52) d_MD_clefOf_7 lf_MD_37 rfl rfl ?_
    refine aw_iload_n d_MD_clefOf_10 rfl ?_
    refine aw_iald d_MD_clefOf_11 rfl h.1 ?_
    replace h := h.2
    refine aw_if_ne (tgt := 21) d_MD_clefOf_12 (by decide) (fun q => ?_) (fun q => ?_)
    · replace h := h.1 q
      refine aw_aload_n d_MD_clefOf_21 rfl ?_
      refine aw_getR (t := 52) d_MD_clefOf_22 lf_MD_37 rfl rfl ?_
      refine aw_iload_n d_MD_clefOf_25 rfl ?_
      refine aw_iald d_MD_clefOf_26 rfl h.1 ?_
      replace h := h.2
      refine aw_if_ne (tgt := 34) d_MD_clefOf_27 (by decide) (fun q => ?_) (fun q => ?_)
      · replace h := h.1 q
        refine aw_aload_n d_MD_clefOf_34 rfl ?_
        refine aw_getR (t := 52) d_MD_clefOf_35 lf_MD_37 rfl rfl ?_
        refine aw_iload_n d_MD_clefOf_38 rfl ?_
        refine aw_iald d_MD_clefOf_39 rfl h.1 ?_
        replace h := h.2
        refine aw_iconst (v := 1) d_MD_clefOf_40 (by decide) ?_
        refine aw_isub d_MD_clefOf_41 ?_
        exact aw_iret d_MD_clefOf_42 rfl h
      · replace h := h.2 q
        refine aw_iconst (v := 0) d_MD_clefOf_30 (by decide) ?_
        refine aw_goto (tgt := 42) d_MD_clefOf_31 (by decide) ?_
        exact aw_iret d_MD_clefOf_42 rfl h
    · replace h := h.2 q
      refine aw_iinc (v := (-1)) d_MD_clefOf_15 rfl (by decide) ?_
      refine aw_goto (tgt := 2) d_MD_clefOf_18 (by decide) ?_
      exact h
set_option maxRecDepth 100000 in
theorem vc_MD_key_0 {G : Gp} {d : Nat} {Q : Int32 → Mem → Prop} {x1 x2 : Int32} {μ : Mem}
    (h : Ct G d M_MD_in [.inl x1, .inl (0 : Int32), .inl (19 : Int32)] μ (fun r2 u1 => (r2 = 0 → Q (-3 : Int32) u1) ∧ (¬ r2 = 0 → Ct G d M_MD_in [.inl x2, .inl (-7 : Int32), .inl (7 : Int32)] u1 (fun r4 u3 => (¬ r4 = 0 → Ct G d M_MD_keyOf [.inr 42, .inl x1] u3 (fun r6 u5 => ∀ u7 : Mem, u7 = up u5 42 21 (0 : Int32) → vp_in x1 20 ∧ ∀ u8 : Mem, u8 = up u7 51 (ix x1) (x2 + (8 : Int32)) → Q r6 u8)) ∧ (r4 = 0 → Q (-3 : Int32) u3))))) :
    AW G (d + 1) M_MD_key Q 0 [some (.inr 42), some (.inl x1), some (.inl x2), none] [] μ := by
  refine aw_iload_n d_MD_key_0 rfl ?_
  refine aw_iconst (v := 0) d_MD_key_1 (by decide) ?_
  refine aw_bipush (v := 19) d_MD_key_2 (by decide) ?_
  refine aw_callS (as := [.inl x1, .inl (0 : Int32), .inl (19 : Int32)]) d_MD_key_4 lm_MD_93 rfl (Nat.le_of_ble_eq_true rfl) rfl h (fun r2 u1 h => ?_)
  refine aw_if_eq (tgt := 21) d_MD_key_7 (by decide) (fun q => ?_) (fun q => ?_)
  · replace h := h.1 q
    refine aw_bipush (v := (-3)) d_MD_key_21 (by decide) ?_
    exact aw_iret d_MD_key_23 rfl h
  · replace h := h.2 q
    refine aw_iload_n d_MD_key_10 rfl ?_
    refine aw_bipush (v := (-7)) d_MD_key_11 (by decide) ?_
    refine aw_bipush (v := 7) d_MD_key_13 (by decide) ?_
    refine aw_callS (as := [.inl x2, .inl (-7 : Int32), .inl (7 : Int32)]) d_MD_key_15 lm_MD_93 rfl (Nat.le_of_ble_eq_true rfl) rfl h (fun r4 u3 h => ?_)
    refine aw_if_ne (tgt := 24) d_MD_key_18 (by decide) (fun q => ?_) (fun q => ?_)
    · replace h := h.1 q
      refine aw_aload_n d_MD_key_24 rfl ?_
      refine aw_iload_n d_MD_key_25 rfl ?_
      refine aw_callV (as := [.inl x1]) d_MD_key_26 lm_MD_115 rfl rfl (by decide) rfl (Nat.le_of_ble_eq_true rfl) rfl h (fun r6 u5 h => ?_)
      refine aw_istore_n d_MD_key_29 (Nat.le_of_ble_eq_true rfl) ?_
      refine aw_aload_n d_MD_key_30 rfl ?_
      refine aw_iconst (v := 0) d_MD_key_31 (by decide) ?_
      refine aw_putZ d_MD_key_32 lf_MD_100 ⟨_, _, _, rfl, rfl, rfl⟩ rfl rfl (Or.inl rfl) ?_
      refine aw_mem (fun u7 e => ?_)
      replace h := h _ e
      refine aw_aload_n d_MD_key_35 rfl ?_
      refine aw_getR (t := 51) d_MD_key_36 lf_MD_34 rfl rfl ?_
      refine aw_iload_n d_MD_key_39 rfl ?_
      refine aw_iload_n d_MD_key_40 rfl ?_
      refine aw_bipush (v := 8) d_MD_key_41 (by decide) ?_
      refine aw_iadd d_MD_key_43 ?_
      refine aw_iast d_MD_key_44 rfl h.1 ?_
      replace h := h.2
      refine aw_mem (fun u8 e => ?_)
      replace h := h _ e
      refine aw_iload_n d_MD_key_45 rfl ?_
      exact aw_iret d_MD_key_46 rfl h
    · replace h := h.2 q
      refine aw_bipush (v := (-3)) d_MD_key_21 (by decide) ?_
      exact aw_iret d_MD_key_23 rfl h
theorem en_MD_key {G : Gp} {d : Nat} {Q : Int32 → Mem → Prop} {x1 x2 : Int32} {μ : Mem}
    (h : AW G (d + 1) M_MD_key Q 0 [some (.inr 42), some (.inl x1), some (.inl x2), none] [] μ) :
    Ct G (d + 1) M_MD_key [.inr 42, .inl x1, .inl x2] μ Q := ct_of (by decide) (Nat.le_of_ble_eq_true rfl) h
set_option maxRecDepth 100000 in
theorem vc_MD_clef_0 {G : Gp} {d : Nat} {Q : Int32 → Mem → Prop} {x1 x2 : Int32} {μ : Mem}
    (h : Ct G d M_MD_in [.inl x1, .inl (0 : Int32), .inl (19 : Int32)] μ (fun r2 u1 => (r2 = 0 → Q (-3 : Int32) u1) ∧ (¬ r2 = 0 → Ct G d M_MD_in [.inl x2, .inl (0 : Int32), .inl (2 : Int32)] u1 (fun r4 u3 => (¬ r4 = 0 → Ct G d M_MD_clefOf [.inr 42, .inl x1] u3 (fun r6 u5 => ∀ u7 : Mem, u7 = up u5 42 21 (0 : Int32) → vp_in x1 20 ∧ ∀ u8 : Mem, u8 = up u7 52 (ix x1) (x2 + (1 : Int32)) → Q r6 u8)) ∧ (r4 = 0 → Q (-3 : Int32) u3))))) :
    AW G (d + 1) M_MD_clef Q 0 [some (.inr 42), some (.inl x1), some (.inl x2), none] [] μ := by
  refine aw_iload_n d_MD_clef_0 rfl ?_
  refine aw_iconst (v := 0) d_MD_clef_1 (by decide) ?_
  refine aw_bipush (v := 19) d_MD_clef_2 (by decide) ?_
  refine aw_callS (as := [.inl x1, .inl (0 : Int32), .inl (19 : Int32)]) d_MD_clef_4 lm_MD_93 rfl (Nat.le_of_ble_eq_true rfl) rfl h (fun r2 u1 h => ?_)
  refine aw_if_eq (tgt := 19) d_MD_clef_7 (by decide) (fun q => ?_) (fun q => ?_)
  · replace h := h.1 q
    refine aw_bipush (v := (-3)) d_MD_clef_19 (by decide) ?_
    exact aw_iret d_MD_clef_21 rfl h
  · replace h := h.2 q
    refine aw_iload_n d_MD_clef_10 rfl ?_
    refine aw_iconst (v := 0) d_MD_clef_11 (by decide) ?_
    refine aw_iconst (v := 2) d_MD_clef_12 (by decide) ?_
    refine aw_callS (as := [.inl x2, .inl (0 : Int32), .inl (2 : Int32)]) d_MD_clef_13 lm_MD_93 rfl (Nat.le_of_ble_eq_true rfl) rfl h (fun r4 u3 h => ?_)
    refine aw_if_ne (tgt := 22) d_MD_clef_16 (by decide) (fun q => ?_) (fun q => ?_)
    · replace h := h.1 q
      refine aw_aload_n d_MD_clef_22 rfl ?_
      refine aw_iload_n d_MD_clef_23 rfl ?_
      refine aw_callV (as := [.inl x1]) d_MD_clef_24 lm_MD_118 rfl rfl (by decide) rfl (Nat.le_of_ble_eq_true rfl) rfl h (fun r6 u5 h => ?_)
      refine aw_istore_n d_MD_clef_27 (Nat.le_of_ble_eq_true rfl) ?_
      refine aw_aload_n d_MD_clef_28 rfl ?_
      refine aw_iconst (v := 0) d_MD_clef_29 (by decide) ?_
      refine aw_putZ d_MD_clef_30 lf_MD_100 ⟨_, _, _, rfl, rfl, rfl⟩ rfl rfl (Or.inl rfl) ?_
      refine aw_mem (fun u7 e => ?_)
      replace h := h _ e
      refine aw_aload_n d_MD_clef_33 rfl ?_
      refine aw_getR (t := 52) d_MD_clef_34 lf_MD_37 rfl rfl ?_
      refine aw_iload_n d_MD_clef_37 rfl ?_
      refine aw_iload_n d_MD_clef_38 rfl ?_
      refine aw_iconst (v := 1) d_MD_clef_39 (by decide) ?_
      refine aw_iadd d_MD_clef_40 ?_
      refine aw_iast d_MD_clef_41 rfl h.1 ?_
      replace h := h.2
      refine aw_mem (fun u8 e => ?_)
      replace h := h _ e
      refine aw_iload_n d_MD_clef_42 rfl ?_
      exact aw_iret d_MD_clef_43 rfl h
    · replace h := h.2 q
      refine aw_bipush (v := (-3)) d_MD_clef_19 (by decide) ?_
      exact aw_iret d_MD_clef_21 rfl h
theorem en_MD_clef {G : Gp} {d : Nat} {Q : Int32 → Mem → Prop} {x1 x2 : Int32} {μ : Mem}
    (h : AW G (d + 1) M_MD_clef Q 0 [some (.inr 42), some (.inl x1), some (.inl x2), none] [] μ) :
    Ct G (d + 1) M_MD_clef [.inr 42, .inl x1, .inl x2] μ Q := ct_of (by decide) (Nat.le_of_ble_eq_true rfl) h
set_option maxRecDepth 100000 in
theorem vc_MD_rule_0 {G : Gp} {d : Nat} {Q : Int32 → Mem → Prop} {x1 x2 : Int32} {μ : Mem}
    (h : Ct G d M_MD_in [.inl x1, .inl (0 : Int32), .inl (4 : Int32)] μ (fun r2 u1 => (r2 = 0 → Q (-3 : Int32) u1) ∧ (¬ r2 = 0 → (¬ x1 = (2 : Int32) → (¬ x1 = (4 : Int32) → Ct G d M_MD_in [.inl x2, .inl (0 : Int32), .inl (1 : Int32)] u1 (fun r4 u3 => (¬ r4 = 0 → vp_in x1 5 ∧ ∀ y5 : Int32, y5 = (u3 53 (ix x1)) → ∀ u6 : Mem, u6 = up u3 42 21 (0 : Int32) → vp_in x1 5 ∧ ∀ u7 : Mem, u7 = up u6 53 (ix x1) x2 → Q y5 u7) ∧ (r4 = 0 → Q (-3 : Int32) u3))) ∧ (x1 = (4 : Int32) → Ct G d M_MD_in [.inl x2, .inl (0 : Int32), .inl (2 : Int32)] u1 (fun r9 u8 => (¬ r9 = 0 → vp_in x1 5 ∧ ∀ y10 : Int32, y10 = (u8 53 (ix x1)) → ∀ u11 : Mem, u11 = up u8 42 21 (0 : Int32) → vp_in x1 5 ∧ ∀ u12 : Mem, u12 = up u11 53 (ix x1) x2 → Q y10 u12) ∧ (r9 = 0 → Q (-3 : Int32) u8)))) ∧ (x1 = (2 : Int32) → Ct G d M_MD_in [.inl x2, .inl (0 : Int32), .inl (15 : Int32)] u1 (fun r14 u13 => (¬ r14 = 0 → vp_in x1 5 ∧ ∀ y15 : Int32, y15 = (u13 53 (ix x1)) → ∀ u16 : Mem, u16 = up u13 42 21 (0 : Int32) → vp_in x1 5 ∧ ∀ u17 : Mem, u17 = up u16 53 (ix x1) x2 → Q y15 u17) ∧ (r14 = 0 → Q (-3 : Int32) u13)))))) :
    AW G (d + 1) M_MD_rule Q 0 [some (.inr 42), some (.inl x1), some (.inl x2), none] [] μ := by
  refine aw_iload_n d_MD_rule_0 rfl ?_
  refine aw_iconst (v := 0) d_MD_rule_1 (by decide) ?_
  refine aw_iconst (v := 4) d_MD_rule_2 (by decide) ?_
  refine aw_callS (as := [.inl x1, .inl (0 : Int32), .inl (4 : Int32)]) d_MD_rule_3 lm_MD_93 rfl (Nat.le_of_ble_eq_true rfl) rfl h (fun r2 u1 h => ?_)
  refine aw_if_eq (tgt := 37) d_MD_rule_6 (by decide) (fun q => ?_) (fun q => ?_)
  · replace h := h.1 q
    refine aw_bipush (v := (-3)) d_MD_rule_37 (by decide) ?_
    exact aw_iret d_MD_rule_39 rfl h
  · replace h := h.2 q
    refine aw_iload_n d_MD_rule_9 rfl ?_
    refine aw_iconst (v := 0) d_MD_rule_10 (by decide) ?_
    refine aw_iload_n d_MD_rule_11 rfl ?_
    refine aw_iconst (v := 2) d_MD_rule_12 (by decide) ?_
    refine aw_icmp_ne (tgt := 21) d_MD_rule_13 (by decide) (fun q => ?_) (fun q => ?_)
    · replace h := h.1 q
      refine aw_iload_n d_MD_rule_21 rfl ?_
      refine aw_iconst (v := 4) d_MD_rule_22 (by decide) ?_
      refine aw_icmp_ne (tgt := 30) d_MD_rule_23 (by decide) (fun q => ?_) (fun q => ?_)
      · replace h := h.1 q
        refine aw_iconst (v := 1) d_MD_rule_30 (by decide) ?_
        refine aw_callS (as := [.inl x2, .inl (0 : Int32), .inl (1 : Int32)]) d_MD_rule_31 lm_MD_93 rfl (Nat.le_of_ble_eq_true rfl) rfl h (fun r4 u3 h => ?_)
        refine aw_if_ne (tgt := 40) d_MD_rule_34 (by decide) (fun q => ?_) (fun q => ?_)
        · replace h := h.1 q
          refine aw_aload_n d_MD_rule_40 rfl ?_
          refine aw_getR (t := 53) d_MD_rule_41 lf_MD_40 rfl rfl ?_
          refine aw_iload_n d_MD_rule_44 rfl ?_
          refine aw_iald d_MD_rule_45 rfl h.1 ?_
          replace h := h.2
          refine aw_top (fun y5 e => ?_)
          replace h := h _ e
          refine aw_istore_n d_MD_rule_46 (Nat.le_of_ble_eq_true rfl) ?_
          refine aw_aload_n d_MD_rule_47 rfl ?_
          refine aw_iconst (v := 0) d_MD_rule_48 (by decide) ?_
          refine aw_putZ d_MD_rule_49 lf_MD_100 ⟨_, _, _, rfl, rfl, rfl⟩ rfl rfl (Or.inl rfl) ?_
          refine aw_mem (fun u6 e => ?_)
          replace h := h _ e
          refine aw_aload_n d_MD_rule_52 rfl ?_
          refine aw_getR (t := 53) d_MD_rule_53 lf_MD_40 rfl rfl ?_
          refine aw_iload_n d_MD_rule_56 rfl ?_
          refine aw_iload_n d_MD_rule_57 rfl ?_
          refine aw_iast d_MD_rule_58 rfl h.1 ?_
          replace h := h.2
          refine aw_mem (fun u7 e => ?_)
          replace h := h _ e
          refine aw_iload_n d_MD_rule_59 rfl ?_
          exact aw_iret d_MD_rule_60 rfl h
        · replace h := h.2 q
          refine aw_bipush (v := (-3)) d_MD_rule_37 (by decide) ?_
          exact aw_iret d_MD_rule_39 rfl h
      · replace h := h.2 q
        refine aw_iconst (v := 2) d_MD_rule_26 (by decide) ?_
        refine aw_goto (tgt := 31) d_MD_rule_27 (by decide) ?_
        refine aw_callS (as := [.inl x2, .inl (0 : Int32), .inl (2 : Int32)]) d_MD_rule_31 lm_MD_93 rfl (Nat.le_of_ble_eq_true rfl) rfl h (fun r9 u8 h => ?_)
        refine aw_if_ne (tgt := 40) d_MD_rule_34 (by decide) (fun q => ?_) (fun q => ?_)
        · replace h := h.1 q
          refine aw_aload_n d_MD_rule_40 rfl ?_
          refine aw_getR (t := 53) d_MD_rule_41 lf_MD_40 rfl rfl ?_
          refine aw_iload_n d_MD_rule_44 rfl ?_
          refine aw_iald d_MD_rule_45 rfl h.1 ?_
          replace h := h.2
          refine aw_top (fun y10 e => ?_)
          replace h := h _ e
          refine aw_istore_n d_MD_rule_46 (Nat.le_of_ble_eq_true rfl) ?_
          refine aw_aload_n d_MD_rule_47 rfl ?_
          refine aw_iconst (v := 0) d_MD_rule_48 (by decide) ?_
          refine aw_putZ d_MD_rule_49 lf_MD_100 ⟨_, _, _, rfl, rfl, rfl⟩ rfl rfl (Or.inl rfl) ?_
          refine aw_mem (fun u11 e => ?_)
          replace h := h _ e
          refine aw_aload_n d_MD_rule_52 rfl ?_
          refine aw_getR (t := 53) d_MD_rule_53 lf_MD_40 rfl rfl ?_
          refine aw_iload_n d_MD_rule_56 rfl ?_
          refine aw_iload_n d_MD_rule_57 rfl ?_
          refine aw_iast d_MD_rule_58 rfl h.1 ?_
          replace h := h.2
          refine aw_mem (fun u12 e => ?_)
          replace h := h _ e
          refine aw_iload_n d_MD_rule_59 rfl ?_
          exact aw_iret d_MD_rule_60 rfl h
        · replace h := h.2 q
          refine aw_bipush (v := (-3)) d_MD_rule_37 (by decide) ?_
          exact aw_iret d_MD_rule_39 rfl h
    · replace h := h.2 q
      refine aw_bipush (v := 15) d_MD_rule_16 (by decide) ?_
      refine aw_goto (tgt := 31) d_MD_rule_18 (by decide) ?_
      refine aw_callS (as := [.inl x2, .inl (0 : Int32), .inl (15 : Int32)]) d_MD_rule_31 lm_MD_93 rfl (Nat.le_of_ble_eq_true rfl) rfl h (fun r14 u13 h => ?_)
      refine aw_if_ne (tgt := 40) d_MD_rule_34 (by decide) (fun q => ?_) (fun q => ?_)
      · replace h := h.1 q
        refine aw_aload_n d_MD_rule_40 rfl ?_
        refine aw_getR (t := 53) d_MD_rule_41 lf_MD_40 rfl rfl ?_
        refine aw_iload_n d_MD_rule_44 rfl ?_
        refine aw_iald d_MD_rule_45 rfl h.1 ?_
        replace h := h.2
        refine aw_top (fun y15 e => ?_)
        replace h := h _ e
        refine aw_istore_n d_MD_rule_46 (Nat.le_of_ble_eq_true rfl) ?_
        refine aw_aload_n d_MD_rule_47 rfl ?_
        refine aw_iconst (v := 0) d_MD_rule_48 (by decide) ?_
        refine aw_putZ d_MD_rule_49 lf_MD_100 ⟨_, _, _, rfl, rfl, rfl⟩ rfl rfl (Or.inl rfl) ?_
        refine aw_mem (fun u16 e => ?_)
        replace h := h _ e
        refine aw_aload_n d_MD_rule_52 rfl ?_
        refine aw_getR (t := 53) d_MD_rule_53 lf_MD_40 rfl rfl ?_
        refine aw_iload_n d_MD_rule_56 rfl ?_
        refine aw_iload_n d_MD_rule_57 rfl ?_
        refine aw_iast d_MD_rule_58 rfl h.1 ?_
        replace h := h.2
        refine aw_mem (fun u17 e => ?_)
        replace h := h _ e
        refine aw_iload_n d_MD_rule_59 rfl ?_
        exact aw_iret d_MD_rule_60 rfl h
      · replace h := h.2 q
        refine aw_bipush (v := (-3)) d_MD_rule_37 (by decide) ?_
        exact aw_iret d_MD_rule_39 rfl h
theorem en_MD_rule {G : Gp} {d : Nat} {Q : Int32 → Mem → Prop} {x1 x2 : Int32} {μ : Mem}
    (h : AW G (d + 1) M_MD_rule Q 0 [some (.inr 42), some (.inl x1), some (.inl x2), none] [] μ) :
    Ct G (d + 1) M_MD_rule [.inr 42, .inl x1, .inl x2] μ Q := ct_of (by decide) (Nat.le_of_ble_eq_true rfl) h
set_option maxRecDepth 100000 in
theorem vc_MD_drop_0 {G : Gp} {d : Nat} {Q : Int32 → Mem → Prop} {μ : Mem}
    (h : (¬ (μ 42 8) = 0 → ∀ u1 : Mem, u1 = up μ 42 21 (0 : Int32) → ∀ u2 : Mem, u2 = up u1 42 8 ((u1 42 8) - (1 : Int32)) → Q (u2 42 8) u2) ∧ ((μ 42 8) = 0 → Q (-2 : Int32) μ)) :
    AW G d M_MD_drop Q 0 [some (.inr 42)] [] μ := by
  refine aw_aload_n d_MD_drop_0 rfl ?_
  refine aw_getI d_MD_drop_1 lf_MD_97 rfl rfl ?_
  refine aw_if_ne (tgt := 10) d_MD_drop_4 (by decide) (fun q => ?_) (fun q => ?_)
  · replace h := h.1 q
    refine aw_aload_n d_MD_drop_10 rfl ?_
    refine aw_iconst (v := 0) d_MD_drop_11 (by decide) ?_
    refine aw_putZ d_MD_drop_12 lf_MD_100 ⟨_, _, _, rfl, rfl, rfl⟩ rfl rfl (Or.inl rfl) ?_
    refine aw_mem (fun u1 e => ?_)
    replace h := h _ e
    refine aw_aload_n d_MD_drop_15 rfl ?_
    refine aw_dup d_MD_drop_16 ?_
    refine aw_getI d_MD_drop_17 lf_MD_97 rfl rfl ?_
    refine aw_iconst (v := 1) d_MD_drop_20 (by decide) ?_
    refine aw_isub d_MD_drop_21 ?_
    refine aw_putI d_MD_drop_22 lf_MD_97 ⟨_, _, _, rfl, rfl, rfl⟩ rfl rfl ?_
    refine aw_mem (fun u2 e => ?_)
    replace h := h _ e
    refine aw_aload_n d_MD_drop_25 rfl ?_
    refine aw_getI d_MD_drop_26 lf_MD_97 rfl rfl ?_
    exact aw_iret d_MD_drop_29 rfl h
  · replace h := h.2 q
    refine aw_bipush (v := (-2)) d_MD_drop_7 (by decide) ?_
    exact aw_iret d_MD_drop_9 rfl h
theorem en_MD_drop {G : Gp} {d : Nat} {Q : Int32 → Mem → Prop} {μ : Mem}
    (h : AW G d M_MD_drop Q 0 [some (.inr 42)] [] μ) :
    Ct G d M_MD_drop [.inr 42] μ Q := ct_of (by decide) (Nat.le_of_ble_eq_true rfl) h
set_option maxRecDepth 100000 in
theorem vc_MD_letter_0 {G : Gp} {d : Nat} {Q : Int32 → Mem → Prop} {x0 x1 : Int32} {μ : Mem}
    (h : (x1 = 0 → ∀ y1 : Int32, y1 = ((6 : Int32) - x0) → Q (((3 : Int32) + ((4 : Int32) * y1)) - ((3 : Int32) + ((4 : Int32) * y1)) / (7 : Int32) * (7 : Int32)) μ) ∧ (¬ x1 = 0 → Q (((3 : Int32) + ((4 : Int32) * x0)) - ((3 : Int32) + ((4 : Int32) * x0)) / (7 : Int32) * (7 : Int32)) μ)) :
    AW G d M_MD_letter Q 0 [some (.inl x0), some (.inl x1), none] [] μ := by
  refine aw_iload_n d_MD_letter_0 rfl ?_
  refine aw_if_eq (tgt := 8) d_MD_letter_1 (by decide) (fun q => ?_) (fun q => ?_)
  · replace h := h.1 q
    refine aw_bipush (v := 6) d_MD_letter_8 (by decide) ?_
    refine aw_iload_n d_MD_letter_10 rfl ?_
    refine aw_isub d_MD_letter_11 ?_
    refine aw_top (fun y1 e => ?_)
    replace h := h _ e
    refine aw_istore_n d_MD_letter_12 (Nat.le_of_ble_eq_true rfl) ?_
    refine aw_iconst (v := 3) d_MD_letter_13 (by decide) ?_
    refine aw_iconst (v := 4) d_MD_letter_14 (by decide) ?_
    refine aw_iload_n d_MD_letter_15 rfl ?_
    refine aw_imul d_MD_letter_16 ?_
    refine aw_iadd d_MD_letter_17 ?_
    refine aw_bipush (v := 7) d_MD_letter_18 (by decide) ?_
    refine aw_irem d_MD_letter_20 (by decide) ?_
    exact aw_iret d_MD_letter_21 rfl h
  · replace h := h.2 q
    refine aw_iload_n d_MD_letter_4 rfl ?_
    refine aw_goto (tgt := 12) d_MD_letter_5 (by decide) ?_
    refine aw_istore_n d_MD_letter_12 (Nat.le_of_ble_eq_true rfl) ?_
    refine aw_iconst (v := 3) d_MD_letter_13 (by decide) ?_
    refine aw_iconst (v := 4) d_MD_letter_14 (by decide) ?_
    refine aw_iload_n d_MD_letter_15 rfl ?_
    refine aw_imul d_MD_letter_16 ?_
    refine aw_iadd d_MD_letter_17 ?_
    refine aw_bipush (v := 7) d_MD_letter_18 (by decide) ?_
    refine aw_irem d_MD_letter_20 (by decide) ?_
    exact aw_iret d_MD_letter_21 rfl h
theorem en_MD_letter {G : Gp} {d : Nat} {Q : Int32 → Mem → Prop} {x0 x1 : Int32} {μ : Mem}
    (h : AW G d M_MD_letter Q 0 [some (.inl x0), some (.inl x1), none] [] μ) :
    Ct G d M_MD_letter [.inl x0, .inl x1] μ Q := ct_of (by decide) (Nat.le_of_ble_eq_true rfl) h
set_option maxRecDepth 100000 in
theorem vc_MD_keyAlter_0 {G : Gp} {d : Nat} {Q : Int32 → Mem → Prop} {x0 x1 : Int32} {μ : Mem}
    (h : AW G (d + 1) M_MD_keyAlter Q 2 [some (.inl x0), some (.inl x1), some (.inl (0 : Int32))] [] μ) :
    AW G (d + 1) M_MD_keyAlter Q 0 [some (.inl x0), some (.inl x1), none] [] μ := by
  refine aw_iconst (v := 0) d_MD_keyAlter_0 (by decide) ?_
  refine aw_istore_n d_MD_keyAlter_1 (Nat.le_of_ble_eq_true rfl) ?_
  exact h
theorem en_MD_keyAlter {G : Gp} {d : Nat} {Q : Int32 → Mem → Prop} {x0 x1 : Int32} {μ : Mem}
    (h : AW G (d + 1) M_MD_keyAlter Q 0 [some (.inl x0), some (.inl x1), none] [] μ) :
    Ct G (d + 1) M_MD_keyAlter [.inl x0, .inl x1] μ Q := ct_of (by decide) (Nat.le_of_ble_eq_true rfl) h
set_option maxRecDepth 100000 in
theorem vc_MD_keyAlter_2 {G : Gp} {d : Nat} {Q : Int32 → Mem → Prop} {x0 x1 x2 : Int32} {μ : Mem}
    (h : (0 ≤ x0 → (x0 ≤ x2 → Q (0 : Int32) μ) ∧ (¬ x0 ≤ x2 → (x0 ≤ 0 → Ct G d M_MD_letter [.inl x2, .inl (0 : Int32)] μ (fun r2 u1 => (¬ r2 = x1 → AW G (d + 1) M_MD_keyAlter Q 2 [some (.inl x0), some (.inl x1), some (.inl (x2 + (1 : Int32)))] [] u1) ∧ (r2 = x1 → (x0 ≤ 0 → Q (-2 : Int32) u1) ∧ (¬ x0 ≤ 0 → Q (2 : Int32) u1)))) ∧ (¬ x0 ≤ 0 → Ct G d M_MD_letter [.inl x2, .inl (1 : Int32)] μ (fun r4 u3 => (¬ r4 = x1 → AW G (d + 1) M_MD_keyAlter Q 2 [some (.inl x0), some (.inl x1), some (.inl (x2 + (1 : Int32)))] [] u3) ∧ (r4 = x1 → (x0 ≤ 0 → Q (-2 : Int32) u3) ∧ (¬ x0 ≤ 0 → Q (2 : Int32) u3)))))) ∧ (¬ 0 ≤ x0 → ((-x0) ≤ x2 → Q (0 : Int32) μ) ∧ (¬ (-x0) ≤ x2 → (x0 ≤ 0 → Ct G d M_MD_letter [.inl x2, .inl (0 : Int32)] μ (fun r6 u5 => (¬ r6 = x1 → AW G (d + 1) M_MD_keyAlter Q 2 [some (.inl x0), some (.inl x1), some (.inl (x2 + (1 : Int32)))] [] u5) ∧ (r6 = x1 → (x0 ≤ 0 → Q (-2 : Int32) u5) ∧ (¬ x0 ≤ 0 → Q (2 : Int32) u5)))) ∧ (¬ x0 ≤ 0 → Ct G d M_MD_letter [.inl x2, .inl (1 : Int32)] μ (fun r8 u7 => (¬ r8 = x1 → AW G (d + 1) M_MD_keyAlter Q 2 [some (.inl x0), some (.inl x1), some (.inl (x2 + (1 : Int32)))] [] u7) ∧ (r8 = x1 → (x0 ≤ 0 → Q (-2 : Int32) u7) ∧ (¬ x0 ≤ 0 → Q (2 : Int32) u7))))))) :
    AW G (d + 1) M_MD_keyAlter Q 2 [some (.inl x0), some (.inl x1), some (.inl x2)] [] μ := by
  refine aw_iload_n d_MD_keyAlter_2 rfl ?_
  refine aw_iload_n d_MD_keyAlter_3 rfl ?_
  refine aw_if_ge (tgt := 12) d_MD_keyAlter_4 (by decide) (fun q => ?_) (fun q => ?_)
  · replace h := h.1 q
    refine aw_iload_n d_MD_keyAlter_12 rfl ?_
    refine aw_icmp_ge (tgt := 50) d_MD_keyAlter_13 (by decide) (fun q => ?_) (fun q => ?_)
    · replace h := h.1 q
      refine aw_iconst (v := 0) d_MD_keyAlter_50 (by decide) ?_
      exact aw_iret d_MD_keyAlter_51 rfl h
    · replace h := h.2 q
      refine aw_iload_n d_MD_keyAlter_16 rfl ?_
      refine aw_iload_n d_MD_keyAlter_17 rfl ?_
      refine aw_if_le (tgt := 25) d_MD_keyAlter_18 (by decide) (fun q => ?_) (fun q => ?_)
      · replace h := h.1 q
        refine aw_iconst (v := 0) d_MD_keyAlter_25 (by decide) ?_
        refine aw_callS (as := [.inl x2, .inl (0 : Int32)]) d_MD_keyAlter_26 lm_MD_121 rfl (Nat.le_of_ble_eq_true rfl) rfl h (fun r2 u1 h => ?_)
        refine aw_iload_n d_MD_keyAlter_29 rfl ?_
        refine aw_icmp_ne (tgt := 44) d_MD_keyAlter_30 (by decide) (fun q => ?_) (fun q => ?_)
        · replace h := h.1 q
          refine aw_iinc (v := 1) d_MD_keyAlter_44 rfl (by decide) ?_
          refine aw_goto (tgt := 2) d_MD_keyAlter_47 (by decide) ?_
          exact h
        · replace h := h.2 q
          refine aw_iload_n d_MD_keyAlter_33 rfl ?_
          refine aw_if_le (tgt := 41) d_MD_keyAlter_34 (by decide) (fun q => ?_) (fun q => ?_)
          · replace h := h.1 q
            refine aw_bipush (v := (-2)) d_MD_keyAlter_41 (by decide) ?_
            exact aw_iret d_MD_keyAlter_43 rfl h
          · replace h := h.2 q
            refine aw_iconst (v := 2) d_MD_keyAlter_37 (by decide) ?_
            refine aw_goto (tgt := 43) d_MD_keyAlter_38 (by decide) ?_
            exact aw_iret d_MD_keyAlter_43 rfl h
      · replace h := h.2 q
        refine aw_iconst (v := 1) d_MD_keyAlter_21 (by decide) ?_
        refine aw_goto (tgt := 26) d_MD_keyAlter_22 (by decide) ?_
        refine aw_callS (as := [.inl x2, .inl (1 : Int32)]) d_MD_keyAlter_26 lm_MD_121 rfl (Nat.le_of_ble_eq_true rfl) rfl h (fun r4 u3 h => ?_)
        refine aw_iload_n d_MD_keyAlter_29 rfl ?_
        refine aw_icmp_ne (tgt := 44) d_MD_keyAlter_30 (by decide) (fun q => ?_) (fun q => ?_)
        · replace h := h.1 q
          refine aw_iinc (v := 1) d_MD_keyAlter_44 rfl (by decide) ?_
          refine aw_goto (tgt := 2) d_MD_keyAlter_47 (by decide) ?_
          exact h
        · replace h := h.2 q
          refine aw_iload_n d_MD_keyAlter_33 rfl ?_
          refine aw_if_le (tgt := 41) d_MD_keyAlter_34 (by decide) (fun q => ?_) (fun q => ?_)
          · replace h := h.1 q
            refine aw_bipush (v := (-2)) d_MD_keyAlter_41 (by decide) ?_
            exact aw_iret d_MD_keyAlter_43 rfl h
          · replace h := h.2 q
            refine aw_iconst (v := 2) d_MD_keyAlter_37 (by decide) ?_
            refine aw_goto (tgt := 43) d_MD_keyAlter_38 (by decide) ?_
            exact aw_iret d_MD_keyAlter_43 rfl h
  · replace h := h.2 q
    refine aw_iload_n d_MD_keyAlter_7 rfl ?_
    refine aw_ineg d_MD_keyAlter_8 ?_
    refine aw_goto (tgt := 13) d_MD_keyAlter_9 (by decide) ?_
    refine aw_icmp_ge (tgt := 50) d_MD_keyAlter_13 (by decide) (fun q => ?_) (fun q => ?_)
    · replace h := h.1 q
      refine aw_iconst (v := 0) d_MD_keyAlter_50 (by decide) ?_
      exact aw_iret d_MD_keyAlter_51 rfl h
    · replace h := h.2 q
      refine aw_iload_n d_MD_keyAlter_16 rfl ?_
      refine aw_iload_n d_MD_keyAlter_17 rfl ?_
      refine aw_if_le (tgt := 25) d_MD_keyAlter_18 (by decide) (fun q => ?_) (fun q => ?_)
      · replace h := h.1 q
        refine aw_iconst (v := 0) d_MD_keyAlter_25 (by decide) ?_
        refine aw_callS (as := [.inl x2, .inl (0 : Int32)]) d_MD_keyAlter_26 lm_MD_121 rfl (Nat.le_of_ble_eq_true rfl) rfl h (fun r6 u5 h => ?_)
        refine aw_iload_n d_MD_keyAlter_29 rfl ?_
        refine aw_icmp_ne (tgt := 44) d_MD_keyAlter_30 (by decide) (fun q => ?_) (fun q => ?_)
        · replace h := h.1 q
          refine aw_iinc (v := 1) d_MD_keyAlter_44 rfl (by decide) ?_
          refine aw_goto (tgt := 2) d_MD_keyAlter_47 (by decide) ?_
          exact h
        · replace h := h.2 q
          refine aw_iload_n d_MD_keyAlter_33 rfl ?_
          refine aw_if_le (tgt := 41) d_MD_keyAlter_34 (by decide) (fun q => ?_) (fun q => ?_)
          · replace h := h.1 q
            refine aw_bipush (v := (-2)) d_MD_keyAlter_41 (by decide) ?_
            exact aw_iret d_MD_keyAlter_43 rfl h
          · replace h := h.2 q
            refine aw_iconst (v := 2) d_MD_keyAlter_37 (by decide) ?_
            refine aw_goto (tgt := 43) d_MD_keyAlter_38 (by decide) ?_
            exact aw_iret d_MD_keyAlter_43 rfl h
      · replace h := h.2 q
        refine aw_iconst (v := 1) d_MD_keyAlter_21 (by decide) ?_
        refine aw_goto (tgt := 26) d_MD_keyAlter_22 (by decide) ?_
        refine aw_callS (as := [.inl x2, .inl (1 : Int32)]) d_MD_keyAlter_26 lm_MD_121 rfl (Nat.le_of_ble_eq_true rfl) rfl h (fun r8 u7 h => ?_)
        refine aw_iload_n d_MD_keyAlter_29 rfl ?_
        refine aw_icmp_ne (tgt := 44) d_MD_keyAlter_30 (by decide) (fun q => ?_) (fun q => ?_)
        · replace h := h.1 q
          refine aw_iinc (v := 1) d_MD_keyAlter_44 rfl (by decide) ?_
          refine aw_goto (tgt := 2) d_MD_keyAlter_47 (by decide) ?_
          exact h
        · replace h := h.2 q
          refine aw_iload_n d_MD_keyAlter_33 rfl ?_
          refine aw_if_le (tgt := 41) d_MD_keyAlter_34 (by decide) (fun q => ?_) (fun q => ?_)
          · replace h := h.1 q
            refine aw_bipush (v := (-2)) d_MD_keyAlter_41 (by decide) ?_
            exact aw_iret d_MD_keyAlter_43 rfl h
          · replace h := h.2 q
            refine aw_iconst (v := 2) d_MD_keyAlter_37 (by decide) ?_
            refine aw_goto (tgt := 43) d_MD_keyAlter_38 (by decide) ?_
            exact aw_iret d_MD_keyAlter_43 rfl h
set_option maxRecDepth 100000 in
theorem vc_MD_seat_0 {G : Gp} {d : Nat} {Q : Int32 → Mem → Prop} {x1 : Int32} {μ : Mem}
    (h : vp_in (0 : Int32) 5 ∧ (¬ (μ 53 (ix (0 : Int32))) = (1 : Int32) → vp_in x1 60 ∧ ∀ y1 : Int32, y1 = (μ 43 (ix x1)) → vp_in (1 : Int32) 5 ∧ (¬ (μ 53 (ix (1 : Int32))) = (1 : Int32) → Q (((4 : Int32) * y1) + (0 : Int32)) μ) ∧ ((μ 53 (ix (1 : Int32))) = (1 : Int32) → vp_in x1 60 ∧ Q (((4 : Int32) * y1) + (μ 47 (ix x1))) μ)) ∧ ((μ 53 (ix (0 : Int32))) = (1 : Int32) → vp_in x1 60 ∧ ∀ y2 : Int32, y2 = ((μ 43 (ix x1)) - (μ 43 (ix x1)) / (7 : Int32) * (7 : Int32)) → vp_in (1 : Int32) 5 ∧ (¬ (μ 53 (ix (1 : Int32))) = (1 : Int32) → Q (((4 : Int32) * y2) + (0 : Int32)) μ) ∧ ((μ 53 (ix (1 : Int32))) = (1 : Int32) → vp_in x1 60 ∧ Q (((4 : Int32) * y2) + (μ 47 (ix x1))) μ))) :
    AW G d M_MD_seat Q 0 [some (.inr 42), some (.inl x1), none] [] μ := by
  refine aw_aload_n d_MD_seat_0 rfl ?_
  refine aw_getR (t := 53) d_MD_seat_1 lf_MD_40 rfl rfl ?_
  refine aw_iconst (v := 0) d_MD_seat_4 (by decide) ?_
  refine aw_iald d_MD_seat_5 rfl h.1 ?_
  replace h := h.2
  refine aw_iconst (v := 1) d_MD_seat_6 (by decide) ?_
  refine aw_icmp_ne (tgt := 22) d_MD_seat_7 (by decide) (fun q => ?_) (fun q => ?_)
  · replace h := h.1 q
    refine aw_aload_n d_MD_seat_22 rfl ?_
    refine aw_getR (t := 43) d_MD_seat_23 lf_MD_7 rfl rfl ?_
    refine aw_iload_n d_MD_seat_26 rfl ?_
    refine aw_iald d_MD_seat_27 rfl h.1 ?_
    replace h := h.2
    refine aw_top (fun y1 e => ?_)
    replace h := h _ e
    refine aw_istore_n d_MD_seat_28 (Nat.le_of_ble_eq_true rfl) ?_
    refine aw_iconst (v := 4) d_MD_seat_29 (by decide) ?_
    refine aw_iload_n d_MD_seat_30 rfl ?_
    refine aw_imul d_MD_seat_31 ?_
    refine aw_aload_n d_MD_seat_32 rfl ?_
    refine aw_getR (t := 53) d_MD_seat_33 lf_MD_40 rfl rfl ?_
    refine aw_iconst (v := 1) d_MD_seat_36 (by decide) ?_
    refine aw_iald d_MD_seat_37 rfl h.1 ?_
    replace h := h.2
    refine aw_iconst (v := 1) d_MD_seat_38 (by decide) ?_
    refine aw_icmp_ne (tgt := 51) d_MD_seat_39 (by decide) (fun q => ?_) (fun q => ?_)
    · replace h := h.1 q
      refine aw_iconst (v := 0) d_MD_seat_51 (by decide) ?_
      refine aw_iadd d_MD_seat_52 ?_
      exact aw_iret d_MD_seat_53 rfl h
    · replace h := h.2 q
      refine aw_aload_n d_MD_seat_42 rfl ?_
      refine aw_getR (t := 47) d_MD_seat_43 lf_MD_22 rfl rfl ?_
      refine aw_iload_n d_MD_seat_46 rfl ?_
      refine aw_iald d_MD_seat_47 rfl h.1 ?_
      replace h := h.2
      refine aw_goto (tgt := 52) d_MD_seat_48 (by decide) ?_
      refine aw_iadd d_MD_seat_52 ?_
      exact aw_iret d_MD_seat_53 rfl h
  · replace h := h.2 q
    refine aw_aload_n d_MD_seat_10 rfl ?_
    refine aw_getR (t := 43) d_MD_seat_11 lf_MD_7 rfl rfl ?_
    refine aw_iload_n d_MD_seat_14 rfl ?_
    refine aw_iald d_MD_seat_15 rfl h.1 ?_
    replace h := h.2
    refine aw_bipush (v := 7) d_MD_seat_16 (by decide) ?_
    refine aw_irem d_MD_seat_18 (by decide) ?_
    refine aw_goto (tgt := 28) d_MD_seat_19 (by decide) ?_
    refine aw_top (fun y2 e => ?_)
    replace h := h _ e
    refine aw_istore_n d_MD_seat_28 (Nat.le_of_ble_eq_true rfl) ?_
    refine aw_iconst (v := 4) d_MD_seat_29 (by decide) ?_
    refine aw_iload_n d_MD_seat_30 rfl ?_
    refine aw_imul d_MD_seat_31 ?_
    refine aw_aload_n d_MD_seat_32 rfl ?_
    refine aw_getR (t := 53) d_MD_seat_33 lf_MD_40 rfl rfl ?_
    refine aw_iconst (v := 1) d_MD_seat_36 (by decide) ?_
    refine aw_iald d_MD_seat_37 rfl h.1 ?_
    replace h := h.2
    refine aw_iconst (v := 1) d_MD_seat_38 (by decide) ?_
    refine aw_icmp_ne (tgt := 51) d_MD_seat_39 (by decide) (fun q => ?_) (fun q => ?_)
    · replace h := h.1 q
      refine aw_iconst (v := 0) d_MD_seat_51 (by decide) ?_
      refine aw_iadd d_MD_seat_52 ?_
      exact aw_iret d_MD_seat_53 rfl h
    · replace h := h.2 q
      refine aw_aload_n d_MD_seat_42 rfl ?_
      refine aw_getR (t := 47) d_MD_seat_43 lf_MD_22 rfl rfl ?_
      refine aw_iload_n d_MD_seat_46 rfl ?_
      refine aw_iald d_MD_seat_47 rfl h.1 ?_
      replace h := h.2
      refine aw_goto (tgt := 52) d_MD_seat_48 (by decide) ?_
      refine aw_iadd d_MD_seat_52 ?_
      exact aw_iret d_MD_seat_53 rfl h
theorem en_MD_seat {G : Gp} {d : Nat} {Q : Int32 → Mem → Prop} {x1 : Int32} {μ : Mem}
    (h : AW G d M_MD_seat Q 0 [some (.inr 42), some (.inl x1), none] [] μ) :
    Ct G d M_MD_seat [.inr 42, .inl x1] μ Q := ct_of (by decide) (Nat.le_of_ble_eq_true rfl) h
set_option maxRecDepth 100000 in
theorem vc_MD_sort_0 {G : Gp} {d : Nat} {Q : Int32 → Mem → Prop} {μ : Mem}
    (h : AW G (d + 1) M_MD_sort Q 2 [some (.inr 42), some (.inl (0 : Int32)), none] [] μ) :
    AW G (d + 1) M_MD_sort Q 0 [some (.inr 42), none, none] [] μ := by
  refine aw_iconst (v := 0) d_MD_sort_0 (by decide) ?_
  refine aw_istore_n d_MD_sort_1 (Nat.le_of_ble_eq_true rfl) ?_
  exact h
theorem en_MD_sort {G : Gp} {d : Nat} {Q : Int32 → Mem → Prop} {μ : Mem}
    (h : AW G (d + 1) M_MD_sort Q 0 [some (.inr 42), none, none] [] μ) :
    Ct G (d + 1) M_MD_sort [.inr 42] μ Q := ct_of (by decide) (Nat.le_of_ble_eq_true rfl) h
set_option maxRecDepth 100000 in
theorem vc_MD_sort_2 {G : Gp} {d : Nat} {Q : Int32 → Mem → Prop} {x1 : Int32} {μ : Mem}
    (h : ((μ 42 8) ≤ x1 → Q 0 μ) ∧ (¬ (μ 42 8) ≤ x1 → AW G (d + 1) M_MD_sort Q 12 [some (.inr 42), some (.inl x1), some (.inl x1)] [] μ)) :
    AW G (d + 1) M_MD_sort Q 2 [some (.inr 42), some (.inl x1), none] [] μ := by
  refine aw_iload_n d_MD_sort_2 rfl ?_
  refine aw_aload_n d_MD_sort_3 rfl ?_
  refine aw_getI d_MD_sort_4 lf_MD_97 rfl rfl ?_
  refine aw_icmp_ge (tgt := 108) d_MD_sort_7 (by decide) (fun q => ?_) (fun q => ?_)
  · replace h := h.1 q
    exact aw_vret d_MD_sort_108 rfl h
  · replace h := h.2 q
    refine aw_iload_n d_MD_sort_10 rfl ?_
    refine aw_istore_n d_MD_sort_11 (Nat.le_of_ble_eq_true rfl) ?_
    exact h
set_option maxRecDepth 100000 in
theorem vc_MD_sort_12 {G : Gp} {d : Nat} {Q : Int32 → Mem → Prop} {x1 x2 : Int32} {μ : Mem}
    (h : (x2 ≤ 0 → vp_in x2 60 ∧ ∀ u1 : Mem, u1 = up μ 54 (ix x2) x1 → vp_in x1 60 ∧ (¬ (u1 48 (ix x1)) = (1 : Int32) → vp_in x1 60 ∧ ∀ u2 : Mem, u2 = up u1 55 (ix x1) (-1 : Int32) → vp_in x1 60 ∧ ∀ u3 : Mem, u3 = up u2 56 (ix x1) (0 : Int32) → vp_in x1 60 ∧ ∀ u4 : Mem, u4 = up u3 57 (ix x1) (0 : Int32) → AW G (d + 1) M_MD_sort Q 2 [some (.inr 42), some (.inl (x1 + (1 : Int32))), none] [] u4) ∧ ((u1 48 (ix x1)) = (1 : Int32) → Ct G d M_MD_mate [.inr 42, .inl x1] u1 (fun r6 u5 => vp_in x1 60 ∧ ∀ u7 : Mem, u7 = up u5 55 (ix x1) r6 → vp_in x1 60 ∧ ∀ u8 : Mem, u8 = up u7 56 (ix x1) (0 : Int32) → vp_in x1 60 ∧ ∀ u9 : Mem, u9 = up u8 57 (ix x1) (0 : Int32) → AW G (d + 1) M_MD_sort Q 2 [some (.inr 42), some (.inl (x1 + (1 : Int32))), none] [] u9))) ∧ (¬ x2 ≤ 0 → vp_in (x2 - (1 : Int32)) 60 ∧ Ct G d M_MD_whenOf [.inr 42, .inl (μ 54 (ix (x2 - (1 : Int32))))] μ (fun r11 u10 => Ct G d M_MD_whenOf [.inr 42, .inl x1] u10 (fun r13 u12 => (r11 ≤ r13 → vp_in x2 60 ∧ ∀ u14 : Mem, u14 = up u12 54 (ix x2) x1 → vp_in x1 60 ∧ (¬ (u14 48 (ix x1)) = (1 : Int32) → vp_in x1 60 ∧ ∀ u15 : Mem, u15 = up u14 55 (ix x1) (-1 : Int32) → vp_in x1 60 ∧ ∀ u16 : Mem, u16 = up u15 56 (ix x1) (0 : Int32) → vp_in x1 60 ∧ ∀ u17 : Mem, u17 = up u16 57 (ix x1) (0 : Int32) → AW G (d + 1) M_MD_sort Q 2 [some (.inr 42), some (.inl (x1 + (1 : Int32))), none] [] u17) ∧ ((u14 48 (ix x1)) = (1 : Int32) → Ct G d M_MD_mate [.inr 42, .inl x1] u14 (fun r19 u18 => vp_in x1 60 ∧ ∀ u20 : Mem, u20 = up u18 55 (ix x1) r19 → vp_in x1 60 ∧ ∀ u21 : Mem, u21 = up u20 56 (ix x1) (0 : Int32) → vp_in x1 60 ∧ ∀ u22 : Mem, u22 = up u21 57 (ix x1) (0 : Int32) → AW G (d + 1) M_MD_sort Q 2 [some (.inr 42), some (.inl (x1 + (1 : Int32))), none] [] u22))) ∧ (¬ r11 ≤ r13 → vp_in (x2 - (1 : Int32)) 60 ∧ vp_in x2 60 ∧ ∀ u23 : Mem, u23 = up u12 54 (ix x2) (u12 54 (ix (x2 - (1 : Int32)))) → AW G (d + 1) M_MD_sort Q 12 [some (.inr 42), some (.inl x1), some (.inl (x2 + (-1 : Int32)))] [] u23))))) :
    AW G (d + 1) M_MD_sort Q 12 [some (.inr 42), some (.inl x1), some (.inl x2)] [] μ := by
  refine aw_iload_n d_MD_sort_12 rfl ?_
  refine aw_if_le (tgt := 56) d_MD_sort_13 (by decide) (fun q => ?_) (fun q => ?_)
  · replace h := h.1 q
    refine aw_aload_n d_MD_sort_56 rfl ?_
    refine aw_getR (t := 54) d_MD_sort_57 lf_MD_43 rfl rfl ?_
    refine aw_iload_n d_MD_sort_60 rfl ?_
    refine aw_iload_n d_MD_sort_61 rfl ?_
    refine aw_iast d_MD_sort_62 rfl h.1 ?_
    replace h := h.2
    refine aw_mem (fun u1 e => ?_)
    replace h := h _ e
    refine aw_aload_n d_MD_sort_63 rfl ?_
    refine aw_getR (t := 55) d_MD_sort_64 lf_MD_46 rfl rfl ?_
    refine aw_iload_n d_MD_sort_67 rfl ?_
    refine aw_aload_n d_MD_sort_68 rfl ?_
    refine aw_getR (t := 48) d_MD_sort_69 lf_MD_25 rfl rfl ?_
    refine aw_iload_n d_MD_sort_72 rfl ?_
    refine aw_iald d_MD_sort_73 rfl h.1 ?_
    replace h := h.2
    refine aw_iconst (v := 1) d_MD_sort_74 (by decide) ?_
    refine aw_icmp_ne (tgt := 86) d_MD_sort_75 (by decide) (fun q => ?_) (fun q => ?_)
    · replace h := h.1 q
      refine aw_iconst (v := (-1)) d_MD_sort_86 (by decide) ?_
      refine aw_iast d_MD_sort_87 rfl h.1 ?_
      replace h := h.2
      refine aw_mem (fun u2 e => ?_)
      replace h := h _ e
      refine aw_aload_n d_MD_sort_88 rfl ?_
      refine aw_getR (t := 56) d_MD_sort_89 lf_MD_49 rfl rfl ?_
      refine aw_iload_n d_MD_sort_92 rfl ?_
      refine aw_iconst (v := 0) d_MD_sort_93 (by decide) ?_
      refine aw_iast d_MD_sort_94 rfl h.1 ?_
      replace h := h.2
      refine aw_mem (fun u3 e => ?_)
      replace h := h _ e
      refine aw_aload_n d_MD_sort_95 rfl ?_
      refine aw_getR (t := 57) d_MD_sort_96 lf_MD_52 rfl rfl ?_
      refine aw_iload_n d_MD_sort_99 rfl ?_
      refine aw_iconst (v := 0) d_MD_sort_100 (by decide) ?_
      refine aw_zast d_MD_sort_101 rfl h.1 (Or.inl rfl) ?_
      replace h := h.2
      refine aw_mem (fun u4 e => ?_)
      replace h := h _ e
      refine aw_iinc (v := 1) d_MD_sort_102 rfl (by decide) ?_
      refine aw_goto (tgt := 2) d_MD_sort_105 (by decide) ?_
      refine aw_drop 2 ?_
      exact h
    · replace h := h.2 q
      refine aw_aload_n d_MD_sort_78 rfl ?_
      refine aw_iload_n d_MD_sort_79 rfl ?_
      refine aw_callV (as := [.inl x1]) d_MD_sort_80 lm_MD_112 rfl rfl (by decide) rfl (Nat.le_of_ble_eq_true rfl) rfl h (fun r6 u5 h => ?_)
      refine aw_goto (tgt := 87) d_MD_sort_83 (by decide) ?_
      refine aw_iast d_MD_sort_87 rfl h.1 ?_
      replace h := h.2
      refine aw_mem (fun u7 e => ?_)
      replace h := h _ e
      refine aw_aload_n d_MD_sort_88 rfl ?_
      refine aw_getR (t := 56) d_MD_sort_89 lf_MD_49 rfl rfl ?_
      refine aw_iload_n d_MD_sort_92 rfl ?_
      refine aw_iconst (v := 0) d_MD_sort_93 (by decide) ?_
      refine aw_iast d_MD_sort_94 rfl h.1 ?_
      replace h := h.2
      refine aw_mem (fun u8 e => ?_)
      replace h := h _ e
      refine aw_aload_n d_MD_sort_95 rfl ?_
      refine aw_getR (t := 57) d_MD_sort_96 lf_MD_52 rfl rfl ?_
      refine aw_iload_n d_MD_sort_99 rfl ?_
      refine aw_iconst (v := 0) d_MD_sort_100 (by decide) ?_
      refine aw_zast d_MD_sort_101 rfl h.1 (Or.inl rfl) ?_
      replace h := h.2
      refine aw_mem (fun u9 e => ?_)
      replace h := h _ e
      refine aw_iinc (v := 1) d_MD_sort_102 rfl (by decide) ?_
      refine aw_goto (tgt := 2) d_MD_sort_105 (by decide) ?_
      refine aw_drop 2 ?_
      exact h
  · replace h := h.2 q
    refine aw_aload_n d_MD_sort_16 rfl ?_
    refine aw_aload_n d_MD_sort_17 rfl ?_
    refine aw_getR (t := 54) d_MD_sort_18 lf_MD_43 rfl rfl ?_
    refine aw_iload_n d_MD_sort_21 rfl ?_
    refine aw_iconst (v := 1) d_MD_sort_22 (by decide) ?_
    refine aw_isub d_MD_sort_23 ?_
    refine aw_iald d_MD_sort_24 rfl h.1 ?_
    replace h := h.2
    refine aw_callV (as := [.inl (μ 54 (ix (x2 - (1 : Int32))))]) d_MD_sort_25 lm_MD_108 rfl rfl (by decide) rfl (Nat.le_of_ble_eq_true rfl) rfl h (fun r11 u10 h => ?_)
    refine aw_aload_n d_MD_sort_28 rfl ?_
    refine aw_iload_n d_MD_sort_29 rfl ?_
    refine aw_callV (as := [.inl x1]) d_MD_sort_30 lm_MD_108 rfl rfl (by decide) rfl (Nat.le_of_ble_eq_true rfl) rfl h (fun r13 u12 h => ?_)
    refine aw_icmp_le (tgt := 56) d_MD_sort_33 (by decide) (fun q => ?_) (fun q => ?_)
    · replace h := h.1 q
      refine aw_aload_n d_MD_sort_56 rfl ?_
      refine aw_getR (t := 54) d_MD_sort_57 lf_MD_43 rfl rfl ?_
      refine aw_iload_n d_MD_sort_60 rfl ?_
      refine aw_iload_n d_MD_sort_61 rfl ?_
      refine aw_iast d_MD_sort_62 rfl h.1 ?_
      replace h := h.2
      refine aw_mem (fun u14 e => ?_)
      replace h := h _ e
      refine aw_aload_n d_MD_sort_63 rfl ?_
      refine aw_getR (t := 55) d_MD_sort_64 lf_MD_46 rfl rfl ?_
      refine aw_iload_n d_MD_sort_67 rfl ?_
      refine aw_aload_n d_MD_sort_68 rfl ?_
      refine aw_getR (t := 48) d_MD_sort_69 lf_MD_25 rfl rfl ?_
      refine aw_iload_n d_MD_sort_72 rfl ?_
      refine aw_iald d_MD_sort_73 rfl h.1 ?_
      replace h := h.2
      refine aw_iconst (v := 1) d_MD_sort_74 (by decide) ?_
      refine aw_icmp_ne (tgt := 86) d_MD_sort_75 (by decide) (fun q => ?_) (fun q => ?_)
      · replace h := h.1 q
        refine aw_iconst (v := (-1)) d_MD_sort_86 (by decide) ?_
        refine aw_iast d_MD_sort_87 rfl h.1 ?_
        replace h := h.2
        refine aw_mem (fun u15 e => ?_)
        replace h := h _ e
        refine aw_aload_n d_MD_sort_88 rfl ?_
        refine aw_getR (t := 56) d_MD_sort_89 lf_MD_49 rfl rfl ?_
        refine aw_iload_n d_MD_sort_92 rfl ?_
        refine aw_iconst (v := 0) d_MD_sort_93 (by decide) ?_
        refine aw_iast d_MD_sort_94 rfl h.1 ?_
        replace h := h.2
        refine aw_mem (fun u16 e => ?_)
        replace h := h _ e
        refine aw_aload_n d_MD_sort_95 rfl ?_
        refine aw_getR (t := 57) d_MD_sort_96 lf_MD_52 rfl rfl ?_
        refine aw_iload_n d_MD_sort_99 rfl ?_
        refine aw_iconst (v := 0) d_MD_sort_100 (by decide) ?_
        refine aw_zast d_MD_sort_101 rfl h.1 (Or.inl rfl) ?_
        replace h := h.2
        refine aw_mem (fun u17 e => ?_)
        replace h := h _ e
        refine aw_iinc (v := 1) d_MD_sort_102 rfl (by decide) ?_
        refine aw_goto (tgt := 2) d_MD_sort_105 (by decide) ?_
        refine aw_drop 2 ?_
        exact h
      · replace h := h.2 q
        refine aw_aload_n d_MD_sort_78 rfl ?_
        refine aw_iload_n d_MD_sort_79 rfl ?_
        refine aw_callV (as := [.inl x1]) d_MD_sort_80 lm_MD_112 rfl rfl (by decide) rfl (Nat.le_of_ble_eq_true rfl) rfl h (fun r19 u18 h => ?_)
        refine aw_goto (tgt := 87) d_MD_sort_83 (by decide) ?_
        refine aw_iast d_MD_sort_87 rfl h.1 ?_
        replace h := h.2
        refine aw_mem (fun u20 e => ?_)
        replace h := h _ e
        refine aw_aload_n d_MD_sort_88 rfl ?_
        refine aw_getR (t := 56) d_MD_sort_89 lf_MD_49 rfl rfl ?_
        refine aw_iload_n d_MD_sort_92 rfl ?_
        refine aw_iconst (v := 0) d_MD_sort_93 (by decide) ?_
        refine aw_iast d_MD_sort_94 rfl h.1 ?_
        replace h := h.2
        refine aw_mem (fun u21 e => ?_)
        replace h := h _ e
        refine aw_aload_n d_MD_sort_95 rfl ?_
        refine aw_getR (t := 57) d_MD_sort_96 lf_MD_52 rfl rfl ?_
        refine aw_iload_n d_MD_sort_99 rfl ?_
        refine aw_iconst (v := 0) d_MD_sort_100 (by decide) ?_
        refine aw_zast d_MD_sort_101 rfl h.1 (Or.inl rfl) ?_
        replace h := h.2
        refine aw_mem (fun u22 e => ?_)
        replace h := h _ e
        refine aw_iinc (v := 1) d_MD_sort_102 rfl (by decide) ?_
        refine aw_goto (tgt := 2) d_MD_sort_105 (by decide) ?_
        refine aw_drop 2 ?_
        exact h
    · replace h := h.2 q
      refine aw_aload_n d_MD_sort_36 rfl ?_
      refine aw_getR (t := 54) d_MD_sort_37 lf_MD_43 rfl rfl ?_
      refine aw_iload_n d_MD_sort_40 rfl ?_
      refine aw_aload_n d_MD_sort_41 rfl ?_
      refine aw_getR (t := 54) d_MD_sort_42 lf_MD_43 rfl rfl ?_
      refine aw_iload_n d_MD_sort_45 rfl ?_
      refine aw_iconst (v := 1) d_MD_sort_46 (by decide) ?_
      refine aw_isub d_MD_sort_47 ?_
      refine aw_iald d_MD_sort_48 rfl h.1 ?_
      replace h := h.2
      refine aw_iast d_MD_sort_49 rfl h.1 ?_
      replace h := h.2
      refine aw_mem (fun u23 e => ?_)
      replace h := h _ e
      refine aw_iinc (v := (-1)) d_MD_sort_50 rfl (by decide) ?_
      refine aw_goto (tgt := 12) d_MD_sort_53 (by decide) ?_
      exact h
set_option maxRecDepth 100000 in
theorem vc_MD_work_0 {G : Gp} {d : Nat} {Q : Int32 → Mem → Prop} {μ : Mem}
    (h : ((μ 42 21) = 0 → ∀ u1 : Mem, u1 = up μ 42 21 (1 : Int32) → ∀ u2 : Mem, u2 = up u1 42 22 (-1 : Int32) → Ct G d M_MD_sort [.inr 42] u2 (fun _ u3 => AW G (d + 1) M_MD_work Q 26 [some (.inr 42), some (.inl (0 : Int32)), some (.inl (0 : Int32)), none] [] u3)) ∧ (¬ (μ 42 21) = 0 → Q 0 μ)) :
    AW G (d + 1) M_MD_work Q 0 [some (.inr 42), none, none, none] [] μ := by
  refine aw_aload_n d_MD_work_0 rfl ?_
  refine aw_getI d_MD_work_1 lf_MD_100 rfl rfl ?_
  refine aw_if_eq (tgt := 8) d_MD_work_4 (by decide) (fun q => ?_) (fun q => ?_)
  · replace h := h.1 q
    refine aw_aload_n d_MD_work_8 rfl ?_
    refine aw_iconst (v := 1) d_MD_work_9 (by decide) ?_
    refine aw_putZ d_MD_work_10 lf_MD_100 ⟨_, _, _, rfl, rfl, rfl⟩ rfl rfl (Or.inr rfl) ?_
    refine aw_mem (fun u1 e => ?_)
    replace h := h _ e
    refine aw_aload_n d_MD_work_13 rfl ?_
    refine aw_iconst (v := (-1)) d_MD_work_14 (by decide) ?_
    refine aw_putI d_MD_work_15 lf_MD_71 ⟨_, _, _, rfl, rfl, rfl⟩ rfl rfl ?_
    refine aw_mem (fun u2 e => ?_)
    replace h := h _ e
    refine aw_aload_n d_MD_work_18 rfl ?_
    refine aw_callVv (as := []) d_MD_work_19 lm_MD_125 rfl rfl (by decide) rfl (Nat.le_of_ble_eq_true rfl) rfl h (fun u3 h => ?_)
    refine aw_iconst (v := 0) d_MD_work_22 (by decide) ?_
    refine aw_istore_n d_MD_work_23 (Nat.le_of_ble_eq_true rfl) ?_
    refine aw_iconst (v := 0) d_MD_work_24 (by decide) ?_
    refine aw_istore_n d_MD_work_25 (Nat.le_of_ble_eq_true rfl) ?_
    exact h
  · replace h := h.2 q
    exact aw_vret d_MD_work_7 rfl h
theorem en_MD_work {G : Gp} {d : Nat} {Q : Int32 → Mem → Prop} {μ : Mem}
    (h : AW G (d + 1) M_MD_work Q 0 [some (.inr 42), none, none, none] [] μ) :
    Ct G (d + 1) M_MD_work [.inr 42] μ Q := ct_of (by decide) (Nat.le_of_ble_eq_true rfl) h
set_option maxRecDepth 100000 in
theorem vc_MD_work_26 {G : Gp} {d : Nat} {Q : Int32 → Mem → Prop} {x1 x2 : Int32} {μ : Mem}
    (h : ((20 : Int32) ≤ x2 → Q 0 μ) ∧ (¬ (20 : Int32) ≤ x2 → AW G (d + 1) M_MD_work Q 34 [some (.inr 42), some (.inl x1), some (.inl x2), some (.inl (0 : Int32))] [] μ)) :
    AW G (d + 1) M_MD_work Q 26 [some (.inr 42), some (.inl x1), some (.inl x2), none] [] μ := by
  refine aw_iload_n d_MD_work_26 rfl ?_
  refine aw_bipush (v := 20) d_MD_work_27 (by decide) ?_
  refine aw_icmp_ge (tgt := 172) d_MD_work_29 (by decide) (fun q => ?_) (fun q => ?_)
  · replace h := h.1 q
    exact aw_vret d_MD_work_172 rfl h
  · replace h := h.2 q
    refine aw_iconst (v := 0) d_MD_work_32 (by decide) ?_
    refine aw_istore_n d_MD_work_33 (Nat.le_of_ble_eq_true rfl) ?_
    exact h
set_option maxRecDepth 100000 in
theorem vc_MD_work_34 {G : Gp} {d : Nat} {Q : Int32 → Mem → Prop} {x1 x2 x3 : Int32} {μ : Mem}
    (h : ((280 : Int32) ≤ x3 → AW G (d + 1) M_MD_work Q 93 [some (.inr 42), some (.inl x1), some (.inl x2), none] [] μ) ∧ (¬ (280 : Int32) ≤ x3 → vp_in x3 280 ∧ vp_in x3 280 ∧ ∀ u1 : Mem, u1 = up μ 59 (ix x3) (μ 58 (ix x3)) → Ct G d M_MD_keyOf [.inr 42, .inl x2] u1 (fun r3 u2 => Ct G d M_MD_keyAlter [.inl r3, .inl ((x3 / (4 : Int32)) - (x3 / (4 : Int32)) / (7 : Int32) * (7 : Int32))] u2 (fun r5 u4 => vp_in x3 280 ∧ ∀ u6 : Mem, u6 = up u4 58 (ix x3) r5 → vp_in x3 280 ∧ ∀ u7 : Mem, u7 = up u6 61 (ix x3) (0 : Int32) → vp_in x3 280 ∧ ∀ u8 : Mem, u8 = up u7 62 (ix x3) (0 : Int32) → AW G (d + 1) M_MD_work Q 34 [some (.inr 42), some (.inl x1), some (.inl x2), some (.inl (x3 + (1 : Int32)))] [] u8)))) :
    AW G (d + 1) M_MD_work Q 34 [some (.inr 42), some (.inl x1), some (.inl x2), some (.inl x3)] [] μ := by
  refine aw_iload_n d_MD_work_34 rfl ?_
  refine aw_sipush (v := 280) d_MD_work_35 (by decide) ?_
  refine aw_icmp_ge (tgt := 93) d_MD_work_38 (by decide) (fun q => ?_) (fun q => ?_)
  · replace h := h.1 q
    refine aw_drop 3 ?_
    exact h
  · replace h := h.2 q
    refine aw_aload_n d_MD_work_41 rfl ?_
    refine aw_getR (t := 59) d_MD_work_42 lf_MD_59 rfl rfl ?_
    refine aw_iload_n d_MD_work_45 rfl ?_
    refine aw_aload_n d_MD_work_46 rfl ?_
    refine aw_getR (t := 58) d_MD_work_47 lf_MD_56 rfl rfl ?_
    refine aw_iload_n d_MD_work_50 rfl ?_
    refine aw_iald d_MD_work_51 rfl h.1 ?_
    replace h := h.2
    refine aw_iast d_MD_work_52 rfl h.1 ?_
    replace h := h.2
    refine aw_mem (fun u1 e => ?_)
    replace h := h _ e
    refine aw_aload_n d_MD_work_53 rfl ?_
    refine aw_getR (t := 58) d_MD_work_54 lf_MD_56 rfl rfl ?_
    refine aw_iload_n d_MD_work_57 rfl ?_
    refine aw_aload_n d_MD_work_58 rfl ?_
    refine aw_iload_n d_MD_work_59 rfl ?_
    refine aw_callV (as := [.inl x2]) d_MD_work_60 lm_MD_115 rfl rfl (by decide) rfl (Nat.le_of_ble_eq_true rfl) rfl h (fun r3 u2 h => ?_)
    refine aw_iload_n d_MD_work_63 rfl ?_
    refine aw_iconst (v := 4) d_MD_work_64 (by decide) ?_
    refine aw_idiv d_MD_work_65 (by decide) ?_
    refine aw_bipush (v := 7) d_MD_work_66 (by decide) ?_
    refine aw_irem d_MD_work_68 (by decide) ?_
    refine aw_callS (as := [.inl r3, .inl ((x3 / (4 : Int32)) - (x3 / (4 : Int32)) / (7 : Int32) * (7 : Int32))]) d_MD_work_69 lm_MD_128 rfl (Nat.le_of_ble_eq_true rfl) rfl h (fun r5 u4 h => ?_)
    refine aw_iast d_MD_work_72 rfl h.1 ?_
    replace h := h.2
    refine aw_mem (fun u6 e => ?_)
    replace h := h _ e
    refine aw_aload_n d_MD_work_73 rfl ?_
    refine aw_getR (t := 61) d_MD_work_74 lf_MD_65 rfl rfl ?_
    refine aw_iload_n d_MD_work_77 rfl ?_
    refine aw_iconst (v := 0) d_MD_work_78 (by decide) ?_
    refine aw_zast d_MD_work_79 rfl h.1 (Or.inl rfl) ?_
    replace h := h.2
    refine aw_mem (fun u7 e => ?_)
    replace h := h _ e
    refine aw_aload_n d_MD_work_80 rfl ?_
    refine aw_getR (t := 62) d_MD_work_81 lf_MD_68 rfl rfl ?_
    refine aw_iload_n d_MD_work_84 rfl ?_
    refine aw_iconst (v := 0) d_MD_work_85 (by decide) ?_
    refine aw_zast d_MD_work_86 rfl h.1 (Or.inl rfl) ?_
    replace h := h.2
    refine aw_mem (fun u8 e => ?_)
    replace h := h _ e
    refine aw_iinc (v := 1) d_MD_work_87 rfl (by decide) ?_
    refine aw_goto (tgt := 34) d_MD_work_90 (by decide) ?_
    exact h
set_option maxRecDepth 100000 in
theorem vc_MD_work_93 {G : Gp} {d : Nat} {Q : Int32 → Mem → Prop} {x1 x2 : Int32} {μ : Mem}
    (h : ((μ 42 8) ≤ x1 → AW G (d + 1) M_MD_work Q 26 [some (.inr 42), some (.inl x1), some (.inl (x2 + (1 : Int32))), none] [] μ) ∧ (¬ (μ 42 8) ≤ x1 → vp_in x1 60 ∧ vp_in (μ 54 (ix x1)) 60 ∧ (¬ (μ 45 (ix (μ 54 (ix x1)))) = x2 → AW G (d + 1) M_MD_work Q 26 [some (.inr 42), some (.inl x1), some (.inl (x2 + (1 : Int32))), none] [] μ) ∧ ((μ 45 (ix (μ 54 (ix x1)))) = x2 → AW G (d + 1) M_MD_work Q 118 [some (.inr 42), some (.inl x1), some (.inl x2), some (.inl x1)] [] μ))) :
    AW G (d + 1) M_MD_work Q 93 [some (.inr 42), some (.inl x1), some (.inl x2), none] [] μ := by
  refine aw_iload_n d_MD_work_93 rfl ?_
  refine aw_aload_n d_MD_work_94 rfl ?_
  refine aw_getI d_MD_work_95 lf_MD_97 rfl rfl ?_
  refine aw_icmp_ge (tgt := 166) d_MD_work_98 (by decide) (fun q => ?_) (fun q => ?_)
  · replace h := h.1 q
    refine aw_iinc (v := 1) d_MD_work_166 rfl (by decide) ?_
    refine aw_goto (tgt := 26) d_MD_work_169 (by decide) ?_
    exact h
  · replace h := h.2 q
    refine aw_aload_n d_MD_work_101 rfl ?_
    refine aw_getR (t := 45) d_MD_work_102 lf_MD_16 rfl rfl ?_
    refine aw_aload_n d_MD_work_105 rfl ?_
    refine aw_getR (t := 54) d_MD_work_106 lf_MD_43 rfl rfl ?_
    refine aw_iload_n d_MD_work_109 rfl ?_
    refine aw_iald d_MD_work_110 rfl h.1 ?_
    replace h := h.2
    refine aw_iald d_MD_work_111 rfl h.1 ?_
    replace h := h.2
    refine aw_iload_n d_MD_work_112 rfl ?_
    refine aw_icmp_ne (tgt := 166) d_MD_work_113 (by decide) (fun q => ?_) (fun q => ?_)
    · replace h := h.1 q
      refine aw_iinc (v := 1) d_MD_work_166 rfl (by decide) ?_
      refine aw_goto (tgt := 26) d_MD_work_169 (by decide) ?_
      exact h
    · replace h := h.2 q
      refine aw_iload_n d_MD_work_116 rfl ?_
      refine aw_istore_n d_MD_work_117 (Nat.le_of_ble_eq_true rfl) ?_
      exact h
set_option maxRecDepth 100000 in
theorem vc_MD_work_118 {G : Gp} {d : Nat} {Q : Int32 → Mem → Prop} {x1 x2 x3 : Int32} {μ : Mem}
    (h : ((μ 42 8) ≤ x3 → Ct G d M_MD_chord [.inr 42, .inl x1, .inl x3] μ (fun _ u1 => AW G (d + 1) M_MD_work Q 93 [some (.inr 42), some (.inl x3), some (.inl x2), none] [] u1)) ∧ (¬ (μ 42 8) ≤ x3 → vp_in x3 60 ∧ Ct G d M_MD_whenOf [.inr 42, .inl (μ 54 (ix x3))] μ (fun r3 u2 => vp_in x1 60 ∧ Ct G d M_MD_whenOf [.inr 42, .inl (u2 54 (ix x1))] u2 (fun r5 u4 => (¬ r3 = r5 → Ct G d M_MD_chord [.inr 42, .inl x1, .inl x3] u4 (fun _ u6 => AW G (d + 1) M_MD_work Q 93 [some (.inr 42), some (.inl x3), some (.inl x2), none] [] u6)) ∧ (r3 = r5 → AW G (d + 1) M_MD_work Q 118 [some (.inr 42), some (.inl x1), some (.inl x2), some (.inl (x3 + (1 : Int32)))] [] u4))))) :
    AW G (d + 1) M_MD_work Q 118 [some (.inr 42), some (.inl x1), some (.inl x2), some (.inl x3)] [] μ := by
  refine aw_iload_n d_MD_work_118 rfl ?_
  refine aw_aload_n d_MD_work_119 rfl ?_
  refine aw_getI d_MD_work_120 lf_MD_97 rfl rfl ?_
  refine aw_icmp_ge (tgt := 155) d_MD_work_123 (by decide) (fun q => ?_) (fun q => ?_)
  · replace h := h.1 q
    refine aw_aload_n d_MD_work_155 rfl ?_
    refine aw_iload_n d_MD_work_156 rfl ?_
    refine aw_iload_n d_MD_work_157 rfl ?_
    refine aw_callVv (as := [.inl x1, .inl x3]) d_MD_work_158 lm_MD_131 rfl rfl (by decide) rfl (Nat.le_of_ble_eq_true rfl) rfl h (fun u1 h => ?_)
    refine aw_iload_n d_MD_work_161 rfl ?_
    refine aw_istore_n d_MD_work_162 (Nat.le_of_ble_eq_true rfl) ?_
    refine aw_goto (tgt := 93) d_MD_work_163 (by decide) ?_
    refine aw_drop 3 ?_
    exact h
  · replace h := h.2 q
    refine aw_aload_n d_MD_work_126 rfl ?_
    refine aw_aload_n d_MD_work_127 rfl ?_
    refine aw_getR (t := 54) d_MD_work_128 lf_MD_43 rfl rfl ?_
    refine aw_iload_n d_MD_work_131 rfl ?_
    refine aw_iald d_MD_work_132 rfl h.1 ?_
    replace h := h.2
    refine aw_callV (as := [.inl (μ 54 (ix x3))]) d_MD_work_133 lm_MD_108 rfl rfl (by decide) rfl (Nat.le_of_ble_eq_true rfl) rfl h (fun r3 u2 h => ?_)
    refine aw_aload_n d_MD_work_136 rfl ?_
    refine aw_aload_n d_MD_work_137 rfl ?_
    refine aw_getR (t := 54) d_MD_work_138 lf_MD_43 rfl rfl ?_
    refine aw_iload_n d_MD_work_141 rfl ?_
    refine aw_iald d_MD_work_142 rfl h.1 ?_
    replace h := h.2
    refine aw_callV (as := [.inl (u2 54 (ix x1))]) d_MD_work_143 lm_MD_108 rfl rfl (by decide) rfl (Nat.le_of_ble_eq_true rfl) rfl h (fun r5 u4 h => ?_)
    refine aw_icmp_ne (tgt := 155) d_MD_work_146 (by decide) (fun q => ?_) (fun q => ?_)
    · replace h := h.1 q
      refine aw_aload_n d_MD_work_155 rfl ?_
      refine aw_iload_n d_MD_work_156 rfl ?_
      refine aw_iload_n d_MD_work_157 rfl ?_
      refine aw_callVv (as := [.inl x1, .inl x3]) d_MD_work_158 lm_MD_131 rfl rfl (by decide) rfl (Nat.le_of_ble_eq_true rfl) rfl h (fun u6 h => ?_)
      refine aw_iload_n d_MD_work_161 rfl ?_
      refine aw_istore_n d_MD_work_162 (Nat.le_of_ble_eq_true rfl) ?_
      refine aw_goto (tgt := 93) d_MD_work_163 (by decide) ?_
      refine aw_drop 3 ?_
      exact h
    · replace h := h.2 q
      refine aw_iinc (v := 1) d_MD_work_149 rfl (by decide) ?_
      refine aw_goto (tgt := 118) d_MD_work_152 (by decide) ?_
      exact h
set_option maxRecDepth 100000 in
theorem vc_MD_chord_0 {G : Gp} {d : Nat} {Q : Int32 → Mem → Prop} {x1 x2 : Int32} {μ : Mem}
    (h : AW G (d + 1) M_MD_chord Q 2 [some (.inr 42), some (.inl x1), some (.inl x2), some (.inl (0 : Int32))] [] μ) :
    AW G (d + 1) M_MD_chord Q 0 [some (.inr 42), some (.inl x1), some (.inl x2), none] [] μ := by
  refine aw_iconst (v := 0) d_MD_chord_0 (by decide) ?_
  refine aw_istore_n d_MD_chord_1 (Nat.le_of_ble_eq_true rfl) ?_
  exact h
theorem en_MD_chord {G : Gp} {d : Nat} {Q : Int32 → Mem → Prop} {x1 x2 : Int32} {μ : Mem}
    (h : AW G (d + 1) M_MD_chord Q 0 [some (.inr 42), some (.inl x1), some (.inl x2), none] [] μ) :
    Ct G (d + 1) M_MD_chord [.inr 42, .inl x1, .inl x2] μ Q := ct_of (by decide) (Nat.le_of_ble_eq_true rfl) h
set_option maxRecDepth 100000 in
theorem vc_MD_chord_2 {G : Gp} {d : Nat} {Q : Int32 → Mem → Prop} {x1 x2 x3 : Int32} {μ : Mem}
    (h : ((280 : Int32) ≤ x3 → AW G (d + 1) M_MD_chord Q 29 [some (.inr 42), some (.inl x1), some (.inl x2), some (.inl x1)] [] μ) ∧ (¬ (280 : Int32) ≤ x3 → vp_in x3 280 ∧ vp_in x3 280 ∧ ∀ u1 : Mem, u1 = up μ 60 (ix x3) (μ 58 (ix x3)) → AW G (d + 1) M_MD_chord Q 2 [some (.inr 42), some (.inl x1), some (.inl x2), some (.inl (x3 + (1 : Int32)))] [] u1)) :
    AW G (d + 1) M_MD_chord Q 2 [some (.inr 42), some (.inl x1), some (.inl x2), some (.inl x3)] [] μ := by
  refine aw_iload_n d_MD_chord_2 rfl ?_
  refine aw_sipush (v := 280) d_MD_chord_3 (by decide) ?_
  refine aw_icmp_ge (tgt := 27) d_MD_chord_6 (by decide) (fun q => ?_) (fun q => ?_)
  · replace h := h.1 q
    refine aw_iload_n d_MD_chord_27 rfl ?_
    refine aw_istore_n d_MD_chord_28 (Nat.le_of_ble_eq_true rfl) ?_
    exact h
  · replace h := h.2 q
    refine aw_aload_n d_MD_chord_9 rfl ?_
    refine aw_getR (t := 60) d_MD_chord_10 lf_MD_62 rfl rfl ?_
    refine aw_iload_n d_MD_chord_13 rfl ?_
    refine aw_aload_n d_MD_chord_14 rfl ?_
    refine aw_getR (t := 58) d_MD_chord_15 lf_MD_56 rfl rfl ?_
    refine aw_iload_n d_MD_chord_18 rfl ?_
    refine aw_iald d_MD_chord_19 rfl h.1 ?_
    replace h := h.2
    refine aw_iast d_MD_chord_20 rfl h.1 ?_
    replace h := h.2
    refine aw_mem (fun u1 e => ?_)
    replace h := h _ e
    refine aw_iinc (v := 1) d_MD_chord_21 rfl (by decide) ?_
    refine aw_goto (tgt := 2) d_MD_chord_24 (by decide) ?_
    exact h
set_option maxRecDepth 100000 in
theorem vc_MD_chord_29 {G : Gp} {d : Nat} {Q : Int32 → Mem → Prop} {x1 x2 x3 : Int32} {μ : Mem}
    (h : (x2 ≤ x3 → AW G (d + 1) M_MD_chord Q 49 [some (.inr 42), some (.inl x1), some (.inl x2), some (.inl x1)] [] μ) ∧ (¬ x2 ≤ x3 → Ct G d M_MD_need [.inr 42, .inl x3, .inl x1, .inl x2] μ (fun _ u1 => AW G (d + 1) M_MD_chord Q 29 [some (.inr 42), some (.inl x1), some (.inl x2), some (.inl (x3 + (1 : Int32)))] [] u1))) :
    AW G (d + 1) M_MD_chord Q 29 [some (.inr 42), some (.inl x1), some (.inl x2), some (.inl x3)] [] μ := by
  refine aw_iload_n d_MD_chord_29 rfl ?_
  refine aw_iload_n d_MD_chord_30 rfl ?_
  refine aw_icmp_ge (tgt := 47) d_MD_chord_31 (by decide) (fun q => ?_) (fun q => ?_)
  · replace h := h.1 q
    refine aw_iload_n d_MD_chord_47 rfl ?_
    refine aw_istore_n d_MD_chord_48 (Nat.le_of_ble_eq_true rfl) ?_
    exact h
  · replace h := h.2 q
    refine aw_aload_n d_MD_chord_34 rfl ?_
    refine aw_iload_n d_MD_chord_35 rfl ?_
    refine aw_iload_n d_MD_chord_36 rfl ?_
    refine aw_iload_n d_MD_chord_37 rfl ?_
    refine aw_callVv (as := [.inl x3, .inl x1, .inl x2]) d_MD_chord_38 lm_MD_135 rfl rfl (by decide) rfl (Nat.le_of_ble_eq_true rfl) rfl h (fun u1 h => ?_)
    refine aw_iinc (v := 1) d_MD_chord_41 rfl (by decide) ?_
    refine aw_goto (tgt := 29) d_MD_chord_44 (by decide) ?_
    exact h
set_option maxRecDepth 100000 in
theorem vc_MD_chord_49 {G : Gp} {d : Nat} {Q : Int32 → Mem → Prop} {x1 x2 x3 : Int32} {μ : Mem}
    (h : (x2 ≤ x3 → AW G (d + 1) M_MD_chord Q 68 [some (.inr 42), none, some (.inl x2), some (.inl x1)] [] μ) ∧ (¬ x2 ≤ x3 → Ct G d M_MD_court [.inr 42, .inl x3, .inl x1] μ (fun _ u1 => AW G (d + 1) M_MD_chord Q 49 [some (.inr 42), some (.inl x1), some (.inl x2), some (.inl (x3 + (1 : Int32)))] [] u1))) :
    AW G (d + 1) M_MD_chord Q 49 [some (.inr 42), some (.inl x1), some (.inl x2), some (.inl x3)] [] μ := by
  refine aw_iload_n d_MD_chord_49 rfl ?_
  refine aw_iload_n d_MD_chord_50 rfl ?_
  refine aw_icmp_ge (tgt := 66) d_MD_chord_51 (by decide) (fun q => ?_) (fun q => ?_)
  · replace h := h.1 q
    refine aw_iload_n d_MD_chord_66 rfl ?_
    refine aw_istore_n d_MD_chord_67 (Nat.le_of_ble_eq_true rfl) ?_
    refine aw_drop 1 ?_
    exact h
  · replace h := h.2 q
    refine aw_aload_n d_MD_chord_54 rfl ?_
    refine aw_iload_n d_MD_chord_55 rfl ?_
    refine aw_iload_n d_MD_chord_56 rfl ?_
    refine aw_callVv (as := [.inl x3, .inl x1]) d_MD_chord_57 lm_MD_139 rfl rfl (by decide) rfl (Nat.le_of_ble_eq_true rfl) rfl h (fun u1 h => ?_)
    refine aw_iinc (v := 1) d_MD_chord_60 rfl (by decide) ?_
    refine aw_goto (tgt := 49) d_MD_chord_63 (by decide) ?_
    exact h
set_option maxRecDepth 100000 in
theorem vc_MD_chord_68 {G : Gp} {d : Nat} {Q : Int32 → Mem → Prop} {x2 x3 : Int32} {μ : Mem}
    (h : (x2 ≤ x3 → AW G (d + 1) M_MD_chord Q 97 [some (.inr 42), none, none, some (.inl (0 : Int32))] [] μ) ∧ (¬ x2 ≤ x3 → vp_in x3 60 ∧ Ct G d M_MD_seat [.inr 42, .inl (μ 54 (ix x3))] μ (fun r2 u1 => vp_in r2 280 ∧ ∀ u3 : Mem, u3 = up u1 61 (ix r2) (1 : Int32) → AW G (d + 1) M_MD_chord Q 68 [some (.inr 42), none, some (.inl x2), some (.inl (x3 + (1 : Int32)))] [] u3))) :
    AW G (d + 1) M_MD_chord Q 68 [some (.inr 42), none, some (.inl x2), some (.inl x3)] [] μ := by
  refine aw_iload_n d_MD_chord_68 rfl ?_
  refine aw_iload_n d_MD_chord_69 rfl ?_
  refine aw_icmp_ge (tgt := 95) d_MD_chord_70 (by decide) (fun q => ?_) (fun q => ?_)
  · replace h := h.1 q
    refine aw_iconst (v := 0) d_MD_chord_95 (by decide) ?_
    refine aw_istore_n d_MD_chord_96 (Nat.le_of_ble_eq_true rfl) ?_
    refine aw_drop 2 ?_
    exact h
  · replace h := h.2 q
    refine aw_aload_n d_MD_chord_73 rfl ?_
    refine aw_getR (t := 61) d_MD_chord_74 lf_MD_65 rfl rfl ?_
    refine aw_aload_n d_MD_chord_77 rfl ?_
    refine aw_aload_n d_MD_chord_78 rfl ?_
    refine aw_getR (t := 54) d_MD_chord_79 lf_MD_43 rfl rfl ?_
    refine aw_iload_n d_MD_chord_82 rfl ?_
    refine aw_iald d_MD_chord_83 rfl h.1 ?_
    replace h := h.2
    refine aw_callV (as := [.inl (μ 54 (ix x3))]) d_MD_chord_84 lm_MD_142 rfl rfl (by decide) rfl (Nat.le_of_ble_eq_true rfl) rfl h (fun r2 u1 h => ?_)
    refine aw_iconst (v := 1) d_MD_chord_87 (by decide) ?_
    refine aw_zast d_MD_chord_88 rfl h.1 (Or.inr rfl) ?_
    replace h := h.2
    refine aw_mem (fun u3 e => ?_)
    replace h := h _ e
    refine aw_iinc (v := 1) d_MD_chord_89 rfl (by decide) ?_
    refine aw_goto (tgt := 68) d_MD_chord_92 (by decide) ?_
    exact h
set_option maxRecDepth 100000 in
theorem vc_MD_chord_97 {G : Gp} {d : Nat} {Q : Int32 → Mem → Prop} {x3 : Int32} {μ : Mem}
    (h : ((280 : Int32) ≤ x3 → Q 0 μ) ∧ (¬ (280 : Int32) ≤ x3 → vp_in x3 280 ∧ vp_in x3 280 ∧ ∀ u1 : Mem, u1 = up μ 58 (ix x3) (μ 60 (ix x3)) → AW G (d + 1) M_MD_chord Q 97 [some (.inr 42), none, none, some (.inl (x3 + (1 : Int32)))] [] u1)) :
    AW G (d + 1) M_MD_chord Q 97 [some (.inr 42), none, none, some (.inl x3)] [] μ := by
  refine aw_iload_n d_MD_chord_97 rfl ?_
  refine aw_sipush (v := 280) d_MD_chord_98 (by decide) ?_
  refine aw_icmp_ge (tgt := 122) d_MD_chord_101 (by decide) (fun q => ?_) (fun q => ?_)
  · replace h := h.1 q
    exact aw_vret d_MD_chord_122 rfl h
  · replace h := h.2 q
    refine aw_aload_n d_MD_chord_104 rfl ?_
    refine aw_getR (t := 58) d_MD_chord_105 lf_MD_56 rfl rfl ?_
    refine aw_iload_n d_MD_chord_108 rfl ?_
    refine aw_aload_n d_MD_chord_109 rfl ?_
    refine aw_getR (t := 60) d_MD_chord_110 lf_MD_62 rfl rfl ?_
    refine aw_iload_n d_MD_chord_113 rfl ?_
    refine aw_iald d_MD_chord_114 rfl h.1 ?_
    replace h := h.2
    refine aw_iast d_MD_chord_115 rfl h.1 ?_
    replace h := h.2
    refine aw_mem (fun u1 e => ?_)
    replace h := h _ e
    refine aw_iinc (v := 1) d_MD_chord_116 rfl (by decide) ?_
    refine aw_goto (tgt := 97) d_MD_chord_119 (by decide) ?_
    exact h
set_option maxRecDepth 100000 in
theorem vc_MD_need_0 {G : Gp} {d : Nat} {Q : Int32 → Mem → Prop} {x1 x2 x3 : Int32} {μ : Mem}
    (h : vp_in x1 60 ∧ ∀ y1 : Int32, y1 = (μ 54 (ix x1)) → Ct G d M_MD_seat [.inr 42, .inl y1] μ (fun r3 u2 => AW G (d + 1) M_MD_need Q 25 [some (.inr 42), some (.inl x1), none, some (.inl x3), some (.inl y1), some (.inl r3), some (.inl (0 : Int32)), some (.inl (1 : Int32)), some (.inl x2), none] [] u2)) :
    AW G (d + 1) M_MD_need Q 0 [some (.inr 42), some (.inl x1), some (.inl x2), some (.inl x3), none, none, none, none, none, none] [] μ := by
  refine aw_aload_n d_MD_need_0 rfl ?_
  refine aw_getR (t := 54) d_MD_need_1 lf_MD_43 rfl rfl ?_
  refine aw_iload_n d_MD_need_4 rfl ?_
  refine aw_iald d_MD_need_5 rfl h.1 ?_
  replace h := h.2
  refine aw_top (fun y1 e => ?_)
  replace h := h _ e
  refine aw_istore d_MD_need_6 (Nat.le_of_ble_eq_true rfl) ?_
  refine aw_aload_n d_MD_need_8 rfl ?_
  refine aw_iload d_MD_need_9 rfl ?_
  refine aw_callV (as := [.inl y1]) d_MD_need_11 lm_MD_142 rfl rfl (by decide) rfl (Nat.le_of_ble_eq_true rfl) rfl h (fun r3 u2 h => ?_)
  refine aw_istore d_MD_need_14 (Nat.le_of_ble_eq_true rfl) ?_
  refine aw_iconst (v := 0) d_MD_need_16 (by decide) ?_
  refine aw_istore d_MD_need_17 (Nat.le_of_ble_eq_true rfl) ?_
  refine aw_iconst (v := 1) d_MD_need_19 (by decide) ?_
  refine aw_istore d_MD_need_20 (Nat.le_of_ble_eq_true rfl) ?_
  refine aw_iload_n d_MD_need_22 rfl ?_
  refine aw_istore d_MD_need_23 (Nat.le_of_ble_eq_true rfl) ?_
  refine aw_drop 2 ?_
  exact h
theorem en_MD_need {G : Gp} {d : Nat} {Q : Int32 → Mem → Prop} {x1 x2 x3 : Int32} {μ : Mem}
    (h : AW G (d + 1) M_MD_need Q 0 [some (.inr 42), some (.inl x1), some (.inl x2), some (.inl x3), none, none, none, none, none, none] [] μ) :
    Ct G (d + 1) M_MD_need [.inr 42, .inl x1, .inl x2, .inl x3] μ Q := ct_of (by decide) (Nat.le_of_ble_eq_true rfl) h
set_option maxRecDepth 100000 in
theorem vc_MD_need_25 {G : Gp} {d : Nat} {Q : Int32 → Mem → Prop} {x1 x3 x4 x5 x6 x7 x8 : Int32} {μ : Mem}
    (h : (x3 ≤ x8 → vp_in x4 60 ∧ (0 ≤ (μ 55 (ix x4)) → AW G (d + 1) M_MD_need Q 163 [some (.inr 42), none, none, none, some (.inl x4), some (.inl x5), some (.inl x6), some (.inl x7), none, none] [.inl (0 : Int32)] μ) ∧ (¬ 0 ≤ (μ 55 (ix x4)) → AW G (d + 1) M_MD_need Q 163 [some (.inr 42), none, none, none, some (.inl x4), some (.inl x5), some (.inl x6), some (.inl x7), none, none] [.inl (1 : Int32)] μ)) ∧ (¬ x3 ≤ x8 → vp_in x8 60 ∧ ∀ y1 : Int32, y1 = (μ 54 (ix x8)) → Ct G d M_MD_seat [.inr 42, .inl y1] μ (fun r3 u2 => (¬ r3 = x5 → AW G (d + 1) M_MD_need Q 25 [some (.inr 42), some (.inl x1), none, some (.inl x3), some (.inl x4), some (.inl x5), some (.inl x6), some (.inl x7), some (.inl (x8 + (1 : Int32))), none] [] u2) ∧ (r3 = x5 → (¬ x6 = 0 → AW G (d + 1) M_MD_need Q 73 [some (.inr 42), some (.inl x1), none, some (.inl x3), some (.inl x4), some (.inl x5), none, some (.inl x7), some (.inl x8), some (.inl y1)] [] u2) ∧ (x6 = 0 → vp_in y1 60 ∧ vp_in x4 60 ∧ ((u2 44 (ix y1)) = (u2 44 (ix x4)) → (x7 = 0 → AW G (d + 1) M_MD_need Q 25 [some (.inr 42), some (.inl x1), none, some (.inl x3), some (.inl x4), some (.inl x5), some (.inl (0 : Int32)), some (.inl (0 : Int32)), some (.inl (x8 + (1 : Int32))), none] [] u2) ∧ (¬ x7 = 0 → (x1 ≤ x8 → AW G (d + 1) M_MD_need Q 25 [some (.inr 42), some (.inl x1), none, some (.inl x3), some (.inl x4), some (.inl x5), some (.inl (0 : Int32)), some (.inl (1 : Int32)), some (.inl (x8 + (1 : Int32))), none] [] u2) ∧ (¬ x1 ≤ x8 → vp_in y1 60 ∧ (0 ≤ (u2 55 (ix y1)) → AW G (d + 1) M_MD_need Q 25 [some (.inr 42), some (.inl x1), none, some (.inl x3), some (.inl x4), some (.inl x5), some (.inl (0 : Int32)), some (.inl (1 : Int32)), some (.inl (x8 + (1 : Int32))), none] [] u2) ∧ (¬ 0 ≤ (u2 55 (ix y1)) → vp_in y1 60 ∧ vp_in x4 60 ∧ (¬ (u2 43 (ix y1)) = (u2 43 (ix x4)) → AW G (d + 1) M_MD_need Q 25 [some (.inr 42), some (.inl x1), none, some (.inl x3), some (.inl x4), some (.inl x5), some (.inl (0 : Int32)), some (.inl (1 : Int32)), some (.inl (x8 + (1 : Int32))), none] [] u2) ∧ ((u2 43 (ix y1)) = (u2 43 (ix x4)) → vp_in y1 60 ∧ vp_in x4 60 ∧ ((u2 44 (ix y1)) = (u2 44 (ix x4)) → AW G (d + 1) M_MD_need Q 25 [some (.inr 42), some (.inl x1), none, some (.inl x3), some (.inl x4), some (.inl x5), some (.inl (0 : Int32)), some (.inl (0 : Int32)), some (.inl (x8 + (1 : Int32))), none] [] u2) ∧ (¬ (u2 44 (ix y1)) = (u2 44 (ix x4)) → AW G (d + 1) M_MD_need Q 25 [some (.inr 42), some (.inl x1), none, some (.inl x3), some (.inl x4), some (.inl x5), some (.inl (0 : Int32)), some (.inl (1 : Int32)), some (.inl (x8 + (1 : Int32))), none] [] u2)))))) ∧ (¬ (u2 44 (ix y1)) = (u2 44 (ix x4)) → AW G (d + 1) M_MD_need Q 73 [some (.inr 42), some (.inl x1), none, some (.inl x3), some (.inl x4), some (.inl x5), none, some (.inl x7), some (.inl x8), some (.inl y1)] [] u2)))))) :
    AW G (d + 1) M_MD_need Q 25 [some (.inr 42), some (.inl x1), none, some (.inl x3), some (.inl x4), some (.inl x5), some (.inl x6), some (.inl x7), some (.inl x8), none] [] μ := by
  refine aw_iload d_MD_need_25 rfl ?_
  refine aw_iload_n d_MD_need_27 rfl ?_
  refine aw_icmp_ge (tgt := 148) d_MD_need_28 (by decide) (fun q => ?_) (fun q => ?_)
  · replace h := h.1 q
    refine aw_aload_n d_MD_need_148 rfl ?_
    refine aw_getR (t := 55) d_MD_need_149 lf_MD_46 rfl rfl ?_
    refine aw_iload d_MD_need_152 rfl ?_
    refine aw_iald d_MD_need_154 rfl h.1 ?_
    replace h := h.2
    refine aw_if_ge (tgt := 162) d_MD_need_155 (by decide) (fun q => ?_) (fun q => ?_)
    · replace h := h.1 q
      refine aw_iconst (v := 0) d_MD_need_162 (by decide) ?_
      refine aw_drop 1 ?_
      refine aw_drop 3 ?_
      refine aw_drop 8 ?_
      exact h
    · replace h := h.2 q
      refine aw_iconst (v := 1) d_MD_need_158 (by decide) ?_
      refine aw_goto (tgt := 163) d_MD_need_159 (by decide) ?_
      refine aw_drop 1 ?_
      refine aw_drop 3 ?_
      refine aw_drop 8 ?_
      exact h
  · replace h := h.2 q
    refine aw_aload_n d_MD_need_31 rfl ?_
    refine aw_getR (t := 54) d_MD_need_32 lf_MD_43 rfl rfl ?_
    refine aw_iload d_MD_need_35 rfl ?_
    refine aw_iald d_MD_need_37 rfl h.1 ?_
    replace h := h.2
    refine aw_top (fun y1 e => ?_)
    replace h := h _ e
    refine aw_istore d_MD_need_38 (Nat.le_of_ble_eq_true rfl) ?_
    refine aw_aload_n d_MD_need_40 rfl ?_
    refine aw_iload d_MD_need_41 rfl ?_
    refine aw_callV (as := [.inl y1]) d_MD_need_43 lm_MD_142 rfl rfl (by decide) rfl (Nat.le_of_ble_eq_true rfl) rfl h (fun r3 u2 h => ?_)
    refine aw_iload d_MD_need_46 rfl ?_
    refine aw_icmp_ne (tgt := 142) d_MD_need_48 (by decide) (fun q => ?_) (fun q => ?_)
    · replace h := h.1 q
      refine aw_iinc (v := 1) d_MD_need_142 rfl (by decide) ?_
      refine aw_goto (tgt := 25) d_MD_need_145 (by decide) ?_
      refine aw_drop 9 ?_
      exact h
    · replace h := h.2 q
      refine aw_iload d_MD_need_51 rfl ?_
      refine aw_if_ne (tgt := 73) d_MD_need_53 (by decide) (fun q => ?_) (fun q => ?_)
      · replace h := h.1 q
        refine aw_drop 6 ?_
        exact h
      · replace h := h.2 q
        refine aw_aload_n d_MD_need_56 rfl ?_
        refine aw_getR (t := 44) d_MD_need_57 lf_MD_13 rfl rfl ?_
        refine aw_iload d_MD_need_60 rfl ?_
        refine aw_iald d_MD_need_62 rfl h.1 ?_
        replace h := h.2
        refine aw_aload_n d_MD_need_63 rfl ?_
        refine aw_getR (t := 44) d_MD_need_64 lf_MD_13 rfl rfl ?_
        refine aw_iload d_MD_need_67 rfl ?_
        refine aw_iald d_MD_need_69 rfl h.1 ?_
        replace h := h.2
        refine aw_icmp_eq (tgt := 77) d_MD_need_70 (by decide) (fun q => ?_) (fun q => ?_)
        · replace h := h.1 q
          refine aw_iconst (v := 0) d_MD_need_77 (by decide) ?_
          refine aw_istore d_MD_need_78 (Nat.le_of_ble_eq_true rfl) ?_
          refine aw_iload d_MD_need_80 rfl ?_
          refine aw_if_eq (tgt := 139) d_MD_need_82 (by decide) (fun q => ?_) (fun q => ?_)
          · replace h := h.1 q
            refine aw_iconst (v := 0) d_MD_need_139 (by decide) ?_
            refine aw_istore d_MD_need_140 (Nat.le_of_ble_eq_true rfl) ?_
            refine aw_iinc (v := 1) d_MD_need_142 rfl (by decide) ?_
            refine aw_goto (tgt := 25) d_MD_need_145 (by decide) ?_
            refine aw_drop 9 ?_
            exact h
          · replace h := h.2 q
            refine aw_iload d_MD_need_85 rfl ?_
            refine aw_iload_n d_MD_need_87 rfl ?_
            refine aw_icmp_ge (tgt := 135) d_MD_need_88 (by decide) (fun q => ?_) (fun q => ?_)
            · replace h := h.1 q
              refine aw_iconst (v := 1) d_MD_need_135 (by decide) ?_
              refine aw_goto (tgt := 140) d_MD_need_136 (by decide) ?_
              refine aw_istore d_MD_need_140 (Nat.le_of_ble_eq_true rfl) ?_
              refine aw_iinc (v := 1) d_MD_need_142 rfl (by decide) ?_
              refine aw_goto (tgt := 25) d_MD_need_145 (by decide) ?_
              refine aw_drop 9 ?_
              exact h
            · replace h := h.2 q
              refine aw_aload_n d_MD_need_91 rfl ?_
              refine aw_getR (t := 55) d_MD_need_92 lf_MD_46 rfl rfl ?_
              refine aw_iload d_MD_need_95 rfl ?_
              refine aw_iald d_MD_need_97 rfl h.1 ?_
              replace h := h.2
              refine aw_if_ge (tgt := 135) d_MD_need_98 (by decide) (fun q => ?_) (fun q => ?_)
              · replace h := h.1 q
                refine aw_iconst (v := 1) d_MD_need_135 (by decide) ?_
                refine aw_goto (tgt := 140) d_MD_need_136 (by decide) ?_
                refine aw_istore d_MD_need_140 (Nat.le_of_ble_eq_true rfl) ?_
                refine aw_iinc (v := 1) d_MD_need_142 rfl (by decide) ?_
                refine aw_goto (tgt := 25) d_MD_need_145 (by decide) ?_
                refine aw_drop 9 ?_
                exact h
              · replace h := h.2 q
                refine aw_aload_n d_MD_need_101 rfl ?_
                refine aw_getR (t := 43) d_MD_need_102 lf_MD_7 rfl rfl ?_
                refine aw_iload d_MD_need_105 rfl ?_
                refine aw_iald d_MD_need_107 rfl h.1 ?_
                replace h := h.2
                refine aw_aload_n d_MD_need_108 rfl ?_
                refine aw_getR (t := 43) d_MD_need_109 lf_MD_7 rfl rfl ?_
                refine aw_iload d_MD_need_112 rfl ?_
                refine aw_iald d_MD_need_114 rfl h.1 ?_
                replace h := h.2
                refine aw_icmp_ne (tgt := 135) d_MD_need_115 (by decide) (fun q => ?_) (fun q => ?_)
                · replace h := h.1 q
                  refine aw_iconst (v := 1) d_MD_need_135 (by decide) ?_
                  refine aw_goto (tgt := 140) d_MD_need_136 (by decide) ?_
                  refine aw_istore d_MD_need_140 (Nat.le_of_ble_eq_true rfl) ?_
                  refine aw_iinc (v := 1) d_MD_need_142 rfl (by decide) ?_
                  refine aw_goto (tgt := 25) d_MD_need_145 (by decide) ?_
                  refine aw_drop 9 ?_
                  exact h
                · replace h := h.2 q
                  refine aw_aload_n d_MD_need_118 rfl ?_
                  refine aw_getR (t := 44) d_MD_need_119 lf_MD_13 rfl rfl ?_
                  refine aw_iload d_MD_need_122 rfl ?_
                  refine aw_iald d_MD_need_124 rfl h.1 ?_
                  replace h := h.2
                  refine aw_aload_n d_MD_need_125 rfl ?_
                  refine aw_getR (t := 44) d_MD_need_126 lf_MD_13 rfl rfl ?_
                  refine aw_iload d_MD_need_129 rfl ?_
                  refine aw_iald d_MD_need_131 rfl h.1 ?_
                  replace h := h.2
                  refine aw_icmp_eq (tgt := 139) d_MD_need_132 (by decide) (fun q => ?_) (fun q => ?_)
                  · replace h := h.1 q
                    refine aw_iconst (v := 0) d_MD_need_139 (by decide) ?_
                    refine aw_istore d_MD_need_140 (Nat.le_of_ble_eq_true rfl) ?_
                    refine aw_iinc (v := 1) d_MD_need_142 rfl (by decide) ?_
                    refine aw_goto (tgt := 25) d_MD_need_145 (by decide) ?_
                    refine aw_drop 9 ?_
                    exact h
                  · replace h := h.2 q
                    refine aw_iconst (v := 1) d_MD_need_135 (by decide) ?_
                    refine aw_goto (tgt := 140) d_MD_need_136 (by decide) ?_
                    refine aw_istore d_MD_need_140 (Nat.le_of_ble_eq_true rfl) ?_
                    refine aw_iinc (v := 1) d_MD_need_142 rfl (by decide) ?_
                    refine aw_goto (tgt := 25) d_MD_need_145 (by decide) ?_
                    refine aw_drop 9 ?_
                    exact h
        · replace h := h.2 q
          refine aw_drop 6 ?_
          exact h
set_option maxRecDepth 100000 in
theorem vc_MD_need_73 {G : Gp} {d : Nat} {Q : Int32 → Mem → Prop} {x1 x3 x4 x5 x7 x8 x9 : Int32} {μ : Mem}
    (h : (x7 = 0 → AW G (d + 1) M_MD_need Q 25 [some (.inr 42), some (.inl x1), none, some (.inl x3), some (.inl x4), some (.inl x5), some (.inl (1 : Int32)), some (.inl (0 : Int32)), some (.inl (x8 + (1 : Int32))), none] [] μ) ∧ (¬ x7 = 0 → (x1 ≤ x8 → AW G (d + 1) M_MD_need Q 25 [some (.inr 42), some (.inl x1), none, some (.inl x3), some (.inl x4), some (.inl x5), some (.inl (1 : Int32)), some (.inl (1 : Int32)), some (.inl (x8 + (1 : Int32))), none] [] μ) ∧ (¬ x1 ≤ x8 → vp_in x9 60 ∧ (0 ≤ (μ 55 (ix x9)) → AW G (d + 1) M_MD_need Q 25 [some (.inr 42), some (.inl x1), none, some (.inl x3), some (.inl x4), some (.inl x5), some (.inl (1 : Int32)), some (.inl (1 : Int32)), some (.inl (x8 + (1 : Int32))), none] [] μ) ∧ (¬ 0 ≤ (μ 55 (ix x9)) → vp_in x9 60 ∧ vp_in x4 60 ∧ (¬ (μ 43 (ix x9)) = (μ 43 (ix x4)) → AW G (d + 1) M_MD_need Q 25 [some (.inr 42), some (.inl x1), none, some (.inl x3), some (.inl x4), some (.inl x5), some (.inl (1 : Int32)), some (.inl (1 : Int32)), some (.inl (x8 + (1 : Int32))), none] [] μ) ∧ ((μ 43 (ix x9)) = (μ 43 (ix x4)) → vp_in x9 60 ∧ vp_in x4 60 ∧ ((μ 44 (ix x9)) = (μ 44 (ix x4)) → AW G (d + 1) M_MD_need Q 25 [some (.inr 42), some (.inl x1), none, some (.inl x3), some (.inl x4), some (.inl x5), some (.inl (1 : Int32)), some (.inl (0 : Int32)), some (.inl (x8 + (1 : Int32))), none] [] μ) ∧ (¬ (μ 44 (ix x9)) = (μ 44 (ix x4)) → AW G (d + 1) M_MD_need Q 25 [some (.inr 42), some (.inl x1), none, some (.inl x3), some (.inl x4), some (.inl x5), some (.inl (1 : Int32)), some (.inl (1 : Int32)), some (.inl (x8 + (1 : Int32))), none] [] μ)))))) :
    AW G (d + 1) M_MD_need Q 73 [some (.inr 42), some (.inl x1), none, some (.inl x3), some (.inl x4), some (.inl x5), none, some (.inl x7), some (.inl x8), some (.inl x9)] [] μ := by
  refine aw_iconst (v := 1) d_MD_need_73 (by decide) ?_
  refine aw_goto (tgt := 78) d_MD_need_74 (by decide) ?_
  refine aw_istore d_MD_need_78 (Nat.le_of_ble_eq_true rfl) ?_
  refine aw_iload d_MD_need_80 rfl ?_
  refine aw_if_eq (tgt := 139) d_MD_need_82 (by decide) (fun q => ?_) (fun q => ?_)
  · replace h := h.1 q
    refine aw_iconst (v := 0) d_MD_need_139 (by decide) ?_
    refine aw_istore d_MD_need_140 (Nat.le_of_ble_eq_true rfl) ?_
    refine aw_iinc (v := 1) d_MD_need_142 rfl (by decide) ?_
    refine aw_goto (tgt := 25) d_MD_need_145 (by decide) ?_
    refine aw_drop 9 ?_
    exact h
  · replace h := h.2 q
    refine aw_iload d_MD_need_85 rfl ?_
    refine aw_iload_n d_MD_need_87 rfl ?_
    refine aw_icmp_ge (tgt := 135) d_MD_need_88 (by decide) (fun q => ?_) (fun q => ?_)
    · replace h := h.1 q
      refine aw_iconst (v := 1) d_MD_need_135 (by decide) ?_
      refine aw_goto (tgt := 140) d_MD_need_136 (by decide) ?_
      refine aw_istore d_MD_need_140 (Nat.le_of_ble_eq_true rfl) ?_
      refine aw_iinc (v := 1) d_MD_need_142 rfl (by decide) ?_
      refine aw_goto (tgt := 25) d_MD_need_145 (by decide) ?_
      refine aw_drop 9 ?_
      exact h
    · replace h := h.2 q
      refine aw_aload_n d_MD_need_91 rfl ?_
      refine aw_getR (t := 55) d_MD_need_92 lf_MD_46 rfl rfl ?_
      refine aw_iload d_MD_need_95 rfl ?_
      refine aw_iald d_MD_need_97 rfl h.1 ?_
      replace h := h.2
      refine aw_if_ge (tgt := 135) d_MD_need_98 (by decide) (fun q => ?_) (fun q => ?_)
      · replace h := h.1 q
        refine aw_iconst (v := 1) d_MD_need_135 (by decide) ?_
        refine aw_goto (tgt := 140) d_MD_need_136 (by decide) ?_
        refine aw_istore d_MD_need_140 (Nat.le_of_ble_eq_true rfl) ?_
        refine aw_iinc (v := 1) d_MD_need_142 rfl (by decide) ?_
        refine aw_goto (tgt := 25) d_MD_need_145 (by decide) ?_
        refine aw_drop 9 ?_
        exact h
      · replace h := h.2 q
        refine aw_aload_n d_MD_need_101 rfl ?_
        refine aw_getR (t := 43) d_MD_need_102 lf_MD_7 rfl rfl ?_
        refine aw_iload d_MD_need_105 rfl ?_
        refine aw_iald d_MD_need_107 rfl h.1 ?_
        replace h := h.2
        refine aw_aload_n d_MD_need_108 rfl ?_
        refine aw_getR (t := 43) d_MD_need_109 lf_MD_7 rfl rfl ?_
        refine aw_iload d_MD_need_112 rfl ?_
        refine aw_iald d_MD_need_114 rfl h.1 ?_
        replace h := h.2
        refine aw_icmp_ne (tgt := 135) d_MD_need_115 (by decide) (fun q => ?_) (fun q => ?_)
        · replace h := h.1 q
          refine aw_iconst (v := 1) d_MD_need_135 (by decide) ?_
          refine aw_goto (tgt := 140) d_MD_need_136 (by decide) ?_
          refine aw_istore d_MD_need_140 (Nat.le_of_ble_eq_true rfl) ?_
          refine aw_iinc (v := 1) d_MD_need_142 rfl (by decide) ?_
          refine aw_goto (tgt := 25) d_MD_need_145 (by decide) ?_
          refine aw_drop 9 ?_
          exact h
        · replace h := h.2 q
          refine aw_aload_n d_MD_need_118 rfl ?_
          refine aw_getR (t := 44) d_MD_need_119 lf_MD_13 rfl rfl ?_
          refine aw_iload d_MD_need_122 rfl ?_
          refine aw_iald d_MD_need_124 rfl h.1 ?_
          replace h := h.2
          refine aw_aload_n d_MD_need_125 rfl ?_
          refine aw_getR (t := 44) d_MD_need_126 lf_MD_13 rfl rfl ?_
          refine aw_iload d_MD_need_129 rfl ?_
          refine aw_iald d_MD_need_131 rfl h.1 ?_
          replace h := h.2
          refine aw_icmp_eq (tgt := 139) d_MD_need_132 (by decide) (fun q => ?_) (fun q => ?_)
          · replace h := h.1 q
            refine aw_iconst (v := 0) d_MD_need_139 (by decide) ?_
            refine aw_istore d_MD_need_140 (Nat.le_of_ble_eq_true rfl) ?_
            refine aw_iinc (v := 1) d_MD_need_142 rfl (by decide) ?_
            refine aw_goto (tgt := 25) d_MD_need_145 (by decide) ?_
            refine aw_drop 9 ?_
            exact h
          · replace h := h.2 q
            refine aw_iconst (v := 1) d_MD_need_135 (by decide) ?_
            refine aw_goto (tgt := 140) d_MD_need_136 (by decide) ?_
            refine aw_istore d_MD_need_140 (Nat.le_of_ble_eq_true rfl) ?_
            refine aw_iinc (v := 1) d_MD_need_142 rfl (by decide) ?_
            refine aw_goto (tgt := 25) d_MD_need_145 (by decide) ?_
            refine aw_drop 9 ?_
            exact h
set_option maxRecDepth 100000 in
theorem vc_MD_need_163 {G : Gp} {d : Nat} {Q : Int32 → Mem → Prop} {x4 x5 x6 x7 s0 : Int32} {μ : Mem}
    (h : (x6 = 0 → (s0 = 0 → AW G (d + 1) M_MD_need Q 257 [some (.inr 42), none, none, none, some (.inl x4), some (.inl x5), none, none, none, none] [] μ) ∧ (¬ s0 = 0 → vp_in x4 60 ∧ vp_in x5 280 ∧ ∀ u1 : Mem, u1 = up μ 60 (ix x5) (μ 44 (ix x4)) → (x7 = 0 → vp_in x4 60 ∧ ∀ u2 : Mem, u2 = up u1 56 (ix x4) (0 : Int32) → AW G (d + 1) M_MD_need Q 257 [some (.inr 42), none, none, none, some (.inl x4), some (.inl x5), none, none, none, none] [] u2) ∧ (¬ x7 = 0 → vp_in x5 280 ∧ vp_in x4 60 ∧ ((u1 58 (ix x5)) = (u1 44 (ix x4)) → vp_in x4 60 ∧ ∀ u3 : Mem, u3 = up u1 56 (ix x4) (0 : Int32) → AW G (d + 1) M_MD_need Q 257 [some (.inr 42), none, none, none, some (.inl x4), some (.inl x5), none, none, none, none] [] u3) ∧ (¬ (u1 58 (ix x5)) = (u1 44 (ix x4)) → vp_in x4 60 ∧ ∀ u4 : Mem, u4 = up u1 56 (ix x4) (1 : Int32) → AW G (d + 1) M_MD_need Q 257 [some (.inr 42), none, none, none, some (.inl x4), some (.inl x5), none, none, none, none] [] u4)))) ∧ (¬ x6 = 0 → (s0 = 0 → vp_in x4 60 ∧ ∀ u5 : Mem, u5 = up μ 56 (ix x4) (0 : Int32) → vp_in x5 280 ∧ ∀ u6 : Mem, u6 = up u5 60 (ix x5) (99 : Int32) → AW G (d + 1) M_MD_need Q 257 [some (.inr 42), none, none, none, some (.inl x4), some (.inl x5), none, none, none, none] [] u6) ∧ (¬ s0 = 0 → (x7 = 0 → vp_in x4 60 ∧ ∀ u7 : Mem, u7 = up μ 56 (ix x4) (0 : Int32) → vp_in x5 280 ∧ ∀ u8 : Mem, u8 = up u7 60 (ix x5) (99 : Int32) → AW G (d + 1) M_MD_need Q 257 [some (.inr 42), none, none, none, some (.inl x4), some (.inl x5), none, none, none, none] [] u8) ∧ (¬ x7 = 0 → vp_in x4 60 ∧ ∀ u9 : Mem, u9 = up μ 56 (ix x4) (1 : Int32) → vp_in x5 280 ∧ ∀ u10 : Mem, u10 = up u9 60 (ix x5) (99 : Int32) → AW G (d + 1) M_MD_need Q 257 [some (.inr 42), none, none, none, some (.inl x4), some (.inl x5), none, none, none, none] [] u10)))) :
    AW G (d + 1) M_MD_need Q 163 [some (.inr 42), none, none, none, some (.inl x4), some (.inl x5), some (.inl x6), some (.inl x7), none, none] [.inl s0] μ := by
  refine aw_istore d_MD_need_163 (Nat.le_of_ble_eq_true rfl) ?_
  refine aw_iload d_MD_need_165 rfl ?_
  refine aw_if_eq (tgt := 204) d_MD_need_167 (by decide) (fun q => ?_) (fun q => ?_)
  · replace h := h.1 q
    refine aw_iload d_MD_need_204 rfl ?_
    refine aw_if_eq (tgt := 257) d_MD_need_206 (by decide) (fun q => ?_) (fun q => ?_)
    · replace h := h.1 q
      refine aw_drop 6 ?_
      refine aw_drop 7 ?_
      refine aw_drop 8 ?_
      exact h
    · replace h := h.2 q
      refine aw_aload_n d_MD_need_209 rfl ?_
      refine aw_getR (t := 60) d_MD_need_210 lf_MD_62 rfl rfl ?_
      refine aw_iload d_MD_need_213 rfl ?_
      refine aw_aload_n d_MD_need_215 rfl ?_
      refine aw_getR (t := 44) d_MD_need_216 lf_MD_13 rfl rfl ?_
      refine aw_iload d_MD_need_219 rfl ?_
      refine aw_iald d_MD_need_221 rfl h.1 ?_
      replace h := h.2
      refine aw_iast d_MD_need_222 rfl h.1 ?_
      replace h := h.2
      refine aw_mem (fun u1 e => ?_)
      replace h := h _ e
      refine aw_aload_n d_MD_need_223 rfl ?_
      refine aw_getR (t := 56) d_MD_need_224 lf_MD_49 rfl rfl ?_
      refine aw_iload d_MD_need_227 rfl ?_
      refine aw_iload d_MD_need_229 rfl ?_
      refine aw_if_eq (tgt := 255) d_MD_need_231 (by decide) (fun q => ?_) (fun q => ?_)
      · replace h := h.1 q
        refine aw_iconst (v := 0) d_MD_need_255 (by decide) ?_
        refine aw_iast d_MD_need_256 rfl h.1 ?_
        replace h := h.2
        refine aw_mem (fun u2 e => ?_)
        replace h := h _ e
        refine aw_drop 6 ?_
        refine aw_drop 7 ?_
        refine aw_drop 8 ?_
        exact h
      · replace h := h.2 q
        refine aw_aload_n d_MD_need_234 rfl ?_
        refine aw_getR (t := 58) d_MD_need_235 lf_MD_56 rfl rfl ?_
        refine aw_iload d_MD_need_238 rfl ?_
        refine aw_iald d_MD_need_240 rfl h.1 ?_
        replace h := h.2
        refine aw_aload_n d_MD_need_241 rfl ?_
        refine aw_getR (t := 44) d_MD_need_242 lf_MD_13 rfl rfl ?_
        refine aw_iload d_MD_need_245 rfl ?_
        refine aw_iald d_MD_need_247 rfl h.1 ?_
        replace h := h.2
        refine aw_icmp_eq (tgt := 255) d_MD_need_248 (by decide) (fun q => ?_) (fun q => ?_)
        · replace h := h.1 q
          refine aw_iconst (v := 0) d_MD_need_255 (by decide) ?_
          refine aw_iast d_MD_need_256 rfl h.1 ?_
          replace h := h.2
          refine aw_mem (fun u3 e => ?_)
          replace h := h _ e
          refine aw_drop 6 ?_
          refine aw_drop 7 ?_
          refine aw_drop 8 ?_
          exact h
        · replace h := h.2 q
          refine aw_iconst (v := 1) d_MD_need_251 (by decide) ?_
          refine aw_goto (tgt := 256) d_MD_need_252 (by decide) ?_
          refine aw_iast d_MD_need_256 rfl h.1 ?_
          replace h := h.2
          refine aw_mem (fun u4 e => ?_)
          replace h := h _ e
          refine aw_drop 6 ?_
          refine aw_drop 7 ?_
          refine aw_drop 8 ?_
          exact h
  · replace h := h.2 q
    refine aw_aload_n d_MD_need_170 rfl ?_
    refine aw_getR (t := 56) d_MD_need_171 lf_MD_49 rfl rfl ?_
    refine aw_iload d_MD_need_174 rfl ?_
    refine aw_iload d_MD_need_176 rfl ?_
    refine aw_if_eq (tgt := 190) d_MD_need_178 (by decide) (fun q => ?_) (fun q => ?_)
    · replace h := h.1 q
      refine aw_iconst (v := 0) d_MD_need_190 (by decide) ?_
      refine aw_iast d_MD_need_191 rfl h.1 ?_
      replace h := h.2
      refine aw_mem (fun u5 e => ?_)
      replace h := h _ e
      refine aw_aload_n d_MD_need_192 rfl ?_
      refine aw_getR (t := 60) d_MD_need_193 lf_MD_62 rfl rfl ?_
      refine aw_iload d_MD_need_196 rfl ?_
      refine aw_bipush (v := 99) d_MD_need_198 (by decide) ?_
      refine aw_iast d_MD_need_200 rfl h.1 ?_
      replace h := h.2
      refine aw_mem (fun u6 e => ?_)
      replace h := h _ e
      refine aw_goto (tgt := 257) d_MD_need_201 (by decide) ?_
      refine aw_drop 6 ?_
      refine aw_drop 7 ?_
      refine aw_drop 8 ?_
      exact h
    · replace h := h.2 q
      refine aw_iload d_MD_need_181 rfl ?_
      refine aw_if_eq (tgt := 190) d_MD_need_183 (by decide) (fun q => ?_) (fun q => ?_)
      · replace h := h.1 q
        refine aw_iconst (v := 0) d_MD_need_190 (by decide) ?_
        refine aw_iast d_MD_need_191 rfl h.1 ?_
        replace h := h.2
        refine aw_mem (fun u7 e => ?_)
        replace h := h _ e
        refine aw_aload_n d_MD_need_192 rfl ?_
        refine aw_getR (t := 60) d_MD_need_193 lf_MD_62 rfl rfl ?_
        refine aw_iload d_MD_need_196 rfl ?_
        refine aw_bipush (v := 99) d_MD_need_198 (by decide) ?_
        refine aw_iast d_MD_need_200 rfl h.1 ?_
        replace h := h.2
        refine aw_mem (fun u8 e => ?_)
        replace h := h _ e
        refine aw_goto (tgt := 257) d_MD_need_201 (by decide) ?_
        refine aw_drop 6 ?_
        refine aw_drop 7 ?_
        refine aw_drop 8 ?_
        exact h
      · replace h := h.2 q
        refine aw_iconst (v := 1) d_MD_need_186 (by decide) ?_
        refine aw_goto (tgt := 191) d_MD_need_187 (by decide) ?_
        refine aw_iast d_MD_need_191 rfl h.1 ?_
        replace h := h.2
        refine aw_mem (fun u9 e => ?_)
        replace h := h _ e
        refine aw_aload_n d_MD_need_192 rfl ?_
        refine aw_getR (t := 60) d_MD_need_193 lf_MD_62 rfl rfl ?_
        refine aw_iload d_MD_need_196 rfl ?_
        refine aw_bipush (v := 99) d_MD_need_198 (by decide) ?_
        refine aw_iast d_MD_need_200 rfl h.1 ?_
        replace h := h.2
        refine aw_mem (fun u10 e => ?_)
        replace h := h _ e
        refine aw_goto (tgt := 257) d_MD_need_201 (by decide) ?_
        refine aw_drop 6 ?_
        refine aw_drop 7 ?_
        refine aw_drop 8 ?_
        exact h
