/-! verification conditions, by program -/
set_option maxRecDepth 100000 in
theorem vc_MD_need_257 {G : Gp} {d : Nat} {Q : Int32 → Mem → Prop} {x4 x5 : Int32} {μ : Mem}
    (h : vp_in x4 60 ∧ (¬ (μ 56 (ix x4)) = (1 : Int32) → vp_in x4 60 ∧ ∀ u1 : Mem, u1 = up μ 57 (ix x4) (0 : Int32) → Q 0 u1) ∧ ((μ 56 (ix x4)) = (1 : Int32) → vp_in (3 : Int32) 5 ∧ (¬ (μ 53 (ix (3 : Int32))) = (1 : Int32) → vp_in x4 60 ∧ ∀ u2 : Mem, u2 = up μ 57 (ix x4) (0 : Int32) → Q 0 u2) ∧ ((μ 53 (ix (3 : Int32))) = (1 : Int32) → vp_in x4 60 ∧ ((μ 44 (ix x4)) = (2 : Int32) → vp_in x5 280 ∧ vp_in x4 60 ∧ (¬ (μ 58 (ix x5)) = ((2 : Int32) * (μ 44 (ix x4))) → vp_in x4 60 ∧ ∀ u3 : Mem, u3 = up μ 57 (ix x4) (0 : Int32) → Q 0 u3) ∧ ((μ 58 (ix x5)) = ((2 : Int32) * (μ 44 (ix x4))) → vp_in x4 60 ∧ ∀ u4 : Mem, u4 = up μ 57 (ix x4) (1 : Int32) → Q 0 u4)) ∧ (¬ (μ 44 (ix x4)) = (2 : Int32) → vp_in x4 60 ∧ (¬ (μ 44 (ix x4)) = (-2 : Int32) → vp_in x4 60 ∧ ∀ u5 : Mem, u5 = up μ 57 (ix x4) (0 : Int32) → Q 0 u5) ∧ ((μ 44 (ix x4)) = (-2 : Int32) → vp_in x5 280 ∧ vp_in x4 60 ∧ (¬ (μ 58 (ix x5)) = ((2 : Int32) * (μ 44 (ix x4))) → vp_in x4 60 ∧ ∀ u6 : Mem, u6 = up μ 57 (ix x4) (0 : Int32) → Q 0 u6) ∧ ((μ 58 (ix x5)) = ((2 : Int32) * (μ 44 (ix x4))) → vp_in x4 60 ∧ ∀ u7 : Mem, u7 = up μ 57 (ix x4) (1 : Int32) → Q 0 u7)))))) :
    AW G (d + 1) M_MD_need Q 257 [some (.inr 42), none, none, none, some (.inl x4), some (.inl x5), none, none, none, none] [] μ := by
  refine aw_aload_n d_MD_need_257 rfl ?_
  refine aw_getR (t := 57) d_MD_need_258 lf_MD_52 rfl rfl ?_
  refine aw_iload d_MD_need_261 rfl ?_
  refine aw_aload_n d_MD_need_263 rfl ?_
  refine aw_getR (t := 56) d_MD_need_264 lf_MD_49 rfl rfl ?_
  refine aw_iload d_MD_need_267 rfl ?_
  refine aw_iald d_MD_need_269 rfl h.1 ?_
  replace h := h.2
  refine aw_iconst (v := 1) d_MD_need_270 (by decide) ?_
  refine aw_icmp_ne (tgt := 330) d_MD_need_271 (by decide) (fun q => ?_) (fun q => ?_)
  · replace h := h.1 q
    refine aw_iconst (v := 0) d_MD_need_330 (by decide) ?_
    refine aw_zast d_MD_need_331 rfl h.1 (Or.inl rfl) ?_
    replace h := h.2
    refine aw_mem (fun u1 e => ?_)
    replace h := h _ e
    exact aw_vret d_MD_need_332 rfl h
  · replace h := h.2 q
    refine aw_aload_n d_MD_need_274 rfl ?_
    refine aw_getR (t := 53) d_MD_need_275 lf_MD_40 rfl rfl ?_
    refine aw_iconst (v := 3) d_MD_need_278 (by decide) ?_
    refine aw_iald d_MD_need_279 rfl h.1 ?_
    replace h := h.2
    refine aw_iconst (v := 1) d_MD_need_280 (by decide) ?_
    refine aw_icmp_ne (tgt := 330) d_MD_need_281 (by decide) (fun q => ?_) (fun q => ?_)
    · replace h := h.1 q
      refine aw_iconst (v := 0) d_MD_need_330 (by decide) ?_
      refine aw_zast d_MD_need_331 rfl h.1 (Or.inl rfl) ?_
      replace h := h.2
      refine aw_mem (fun u2 e => ?_)
      replace h := h _ e
      exact aw_vret d_MD_need_332 rfl h
    · replace h := h.2 q
      refine aw_aload_n d_MD_need_284 rfl ?_
      refine aw_getR (t := 44) d_MD_need_285 lf_MD_13 rfl rfl ?_
      refine aw_iload d_MD_need_288 rfl ?_
      refine aw_iald d_MD_need_290 rfl h.1 ?_
      replace h := h.2
      refine aw_iconst (v := 2) d_MD_need_291 (by decide) ?_
      refine aw_icmp_eq (tgt := 307) d_MD_need_292 (by decide) (fun q => ?_) (fun q => ?_)
      · replace h := h.1 q
        refine aw_aload_n d_MD_need_307 rfl ?_
        refine aw_getR (t := 58) d_MD_need_308 lf_MD_56 rfl rfl ?_
        refine aw_iload d_MD_need_311 rfl ?_
        refine aw_iald d_MD_need_313 rfl h.1 ?_
        replace h := h.2
        refine aw_iconst (v := 2) d_MD_need_314 (by decide) ?_
        refine aw_aload_n d_MD_need_315 rfl ?_
        refine aw_getR (t := 44) d_MD_need_316 lf_MD_13 rfl rfl ?_
        refine aw_iload d_MD_need_319 rfl ?_
        refine aw_iald d_MD_need_321 rfl h.1 ?_
        replace h := h.2
        refine aw_imul d_MD_need_322 ?_
        refine aw_icmp_ne (tgt := 330) d_MD_need_323 (by decide) (fun q => ?_) (fun q => ?_)
        · replace h := h.1 q
          refine aw_iconst (v := 0) d_MD_need_330 (by decide) ?_
          refine aw_zast d_MD_need_331 rfl h.1 (Or.inl rfl) ?_
          replace h := h.2
          refine aw_mem (fun u3 e => ?_)
          replace h := h _ e
          exact aw_vret d_MD_need_332 rfl h
        · replace h := h.2 q
          refine aw_iconst (v := 1) d_MD_need_326 (by decide) ?_
          refine aw_goto (tgt := 331) d_MD_need_327 (by decide) ?_
          refine aw_zast d_MD_need_331 rfl h.1 (Or.inr rfl) ?_
          replace h := h.2
          refine aw_mem (fun u4 e => ?_)
          replace h := h _ e
          exact aw_vret d_MD_need_332 rfl h
      · replace h := h.2 q
        refine aw_aload_n d_MD_need_295 rfl ?_
        refine aw_getR (t := 44) d_MD_need_296 lf_MD_13 rfl rfl ?_
        refine aw_iload d_MD_need_299 rfl ?_
        refine aw_iald d_MD_need_301 rfl h.1 ?_
        replace h := h.2
        refine aw_bipush (v := (-2)) d_MD_need_302 (by decide) ?_
        refine aw_icmp_ne (tgt := 330) d_MD_need_304 (by decide) (fun q => ?_) (fun q => ?_)
        · replace h := h.1 q
          refine aw_iconst (v := 0) d_MD_need_330 (by decide) ?_
          refine aw_zast d_MD_need_331 rfl h.1 (Or.inl rfl) ?_
          replace h := h.2
          refine aw_mem (fun u5 e => ?_)
          replace h := h _ e
          exact aw_vret d_MD_need_332 rfl h
        · replace h := h.2 q
          refine aw_aload_n d_MD_need_307 rfl ?_
          refine aw_getR (t := 58) d_MD_need_308 lf_MD_56 rfl rfl ?_
          refine aw_iload d_MD_need_311 rfl ?_
          refine aw_iald d_MD_need_313 rfl h.1 ?_
          replace h := h.2
          refine aw_iconst (v := 2) d_MD_need_314 (by decide) ?_
          refine aw_aload_n d_MD_need_315 rfl ?_
          refine aw_getR (t := 44) d_MD_need_316 lf_MD_13 rfl rfl ?_
          refine aw_iload d_MD_need_319 rfl ?_
          refine aw_iald d_MD_need_321 rfl h.1 ?_
          replace h := h.2
          refine aw_imul d_MD_need_322 ?_
          refine aw_icmp_ne (tgt := 330) d_MD_need_323 (by decide) (fun q => ?_) (fun q => ?_)
          · replace h := h.1 q
            refine aw_iconst (v := 0) d_MD_need_330 (by decide) ?_
            refine aw_zast d_MD_need_331 rfl h.1 (Or.inl rfl) ?_
            replace h := h.2
            refine aw_mem (fun u6 e => ?_)
            replace h := h _ e
            exact aw_vret d_MD_need_332 rfl h
          · replace h := h.2 q
            refine aw_iconst (v := 1) d_MD_need_326 (by decide) ?_
            refine aw_goto (tgt := 331) d_MD_need_327 (by decide) ?_
            refine aw_zast d_MD_need_331 rfl h.1 (Or.inr rfl) ?_
            replace h := h.2
            refine aw_mem (fun u7 e => ?_)
            replace h := h _ e
            exact aw_vret d_MD_need_332 rfl h
set_option maxRecDepth 100000 in
theorem vc_MD_court_0 {G : Gp} {d : Nat} {Q : Int32 → Mem → Prop} {x1 x2 : Int32} {μ : Mem}
    (h : vp_in x1 60 ∧ ∀ y1 : Int32, y1 = (μ 54 (ix x1)) → Ct G d M_MD_seat [.inr 42, .inl y1] μ (fun r3 u2 => vp_in y1 60 ∧ (0 ≤ (u2 55 (ix y1)) → Q 0 u2) ∧ (¬ 0 ≤ (u2 55 (ix y1)) → vp_in y1 60 ∧ (¬ (u2 56 (ix y1)) = 0 → Q 0 u2) ∧ ((u2 56 (ix y1)) = 0 → vp_in r3 280 ∧ ((u2 62 (ix r3)) = 0 → AW G (d + 1) M_MD_court Q 46 [some (.inr 42), some (.inl x1), some (.inl x2), some (.inl y1), some (.inl r3), some (.inl x2)] [] u2) ∧ (¬ (u2 62 (ix r3)) = 0 → Q 0 u2))))) :
    AW G (d + 1) M_MD_court Q 0 [some (.inr 42), some (.inl x1), some (.inl x2), none, none, none] [] μ := by
  refine aw_aload_n d_MD_court_0 rfl ?_
  refine aw_getR (t := 54) d_MD_court_1 lf_MD_43 rfl rfl ?_
  refine aw_iload_n d_MD_court_4 rfl ?_
  refine aw_iald d_MD_court_5 rfl h.1 ?_
  replace h := h.2
  refine aw_top (fun y1 e => ?_)
  replace h := h _ e
  refine aw_istore_n d_MD_court_6 (Nat.le_of_ble_eq_true rfl) ?_
  refine aw_aload_n d_MD_court_7 rfl ?_
  refine aw_iload_n d_MD_court_8 rfl ?_
  refine aw_callV (as := [.inl y1]) d_MD_court_9 lm_MD_142 rfl rfl (by decide) rfl (Nat.le_of_ble_eq_true rfl) rfl h (fun r3 u2 h => ?_)
  refine aw_istore d_MD_court_12 (Nat.le_of_ble_eq_true rfl) ?_
  refine aw_aload_n d_MD_court_14 rfl ?_
  refine aw_getR (t := 55) d_MD_court_15 lf_MD_46 rfl rfl ?_
  refine aw_iload_n d_MD_court_18 rfl ?_
  refine aw_iald d_MD_court_19 rfl h.1 ?_
  replace h := h.2
  refine aw_if_ge (tgt := 42) d_MD_court_20 (by decide) (fun q => ?_) (fun q => ?_)
  · replace h := h.1 q
    exact aw_vret d_MD_court_42 rfl h
  · replace h := h.2 q
    refine aw_aload_n d_MD_court_23 rfl ?_
    refine aw_getR (t := 56) d_MD_court_24 lf_MD_49 rfl rfl ?_
    refine aw_iload_n d_MD_court_27 rfl ?_
    refine aw_iald d_MD_court_28 rfl h.1 ?_
    replace h := h.2
    refine aw_if_ne (tgt := 42) d_MD_court_29 (by decide) (fun q => ?_) (fun q => ?_)
    · replace h := h.1 q
      exact aw_vret d_MD_court_42 rfl h
    · replace h := h.2 q
      refine aw_aload_n d_MD_court_32 rfl ?_
      refine aw_getR (t := 62) d_MD_court_33 lf_MD_68 rfl rfl ?_
      refine aw_iload d_MD_court_36 rfl ?_
      refine aw_zald d_MD_court_38 rfl h.1 ?_
      replace h := h.2
      refine aw_if_eq (tgt := 43) d_MD_court_39 (by decide) (fun q => ?_) (fun q => ?_)
      · replace h := h.1 q
        refine aw_iload_n d_MD_court_43 rfl ?_
        refine aw_istore d_MD_court_44 (Nat.le_of_ble_eq_true rfl) ?_
        exact h
      · replace h := h.2 q
        exact aw_vret d_MD_court_42 rfl h
theorem en_MD_court {G : Gp} {d : Nat} {Q : Int32 → Mem → Prop} {x1 x2 : Int32} {μ : Mem}
    (h : AW G (d + 1) M_MD_court Q 0 [some (.inr 42), some (.inl x1), some (.inl x2), none, none, none] [] μ) :
    Ct G (d + 1) M_MD_court [.inr 42, .inl x1, .inl x2] μ Q := ct_of (by decide) (Nat.le_of_ble_eq_true rfl) h
set_option maxRecDepth 100000 in
theorem vc_MD_court_46 {G : Gp} {d : Nat} {Q : Int32 → Mem → Prop} {x1 x2 x3 x4 x5 : Int32} {μ : Mem}
    (h : (x1 ≤ x5 → vp_in (2 : Int32) 5 ∧ (((μ 53 (ix (2 : Int32))) &&& (1 : Int32)) = 0 → AW G (d + 1) M_MD_court Q 151 [some (.inr 42), none, some (.inl x2), some (.inl x3), some (.inl x4), none] [] μ) ∧ (¬ ((μ 53 (ix (2 : Int32))) &&& (1 : Int32)) = 0 → vp_in x3 60 ∧ ((μ 45 (ix x3)) ≤ 0 → AW G (d + 1) M_MD_court Q 151 [some (.inr 42), none, some (.inl x2), some (.inl x3), some (.inl x4), none] [] μ) ∧ (¬ (μ 45 (ix x3)) ≤ 0 → vp_in x4 280 ∧ vp_in x3 60 ∧ ((μ 59 (ix x4)) = (μ 44 (ix x3)) → AW G (d + 1) M_MD_court Q 151 [some (.inr 42), none, some (.inl x2), some (.inl x3), some (.inl x4), none] [] μ) ∧ (¬ (μ 59 (ix x4)) = (μ 44 (ix x3)) → AW G (d + 1) M_MD_court Q 152 [some (.inr 42), none, some (.inl x2), some (.inl x3), some (.inl x4), none] [.inl (1 : Int32)] μ)))) ∧ (¬ x1 ≤ x5 → vp_in x5 60 ∧ Ct G d M_MD_seat [.inr 42, .inl (μ 54 (ix x5))] μ (fun r2 u1 => (¬ r2 = x4 → AW G (d + 1) M_MD_court Q 46 [some (.inr 42), some (.inl x1), some (.inl x2), some (.inl x3), some (.inl x4), some (.inl (x5 + (1 : Int32)))] [] u1) ∧ (r2 = x4 → vp_in x5 60 ∧ vp_in (u1 54 (ix x5)) 60 ∧ vp_in x3 60 ∧ (¬ (u1 43 (ix (u1 54 (ix x5)))) = (u1 43 (ix x3)) → AW G (d + 1) M_MD_court Q 46 [some (.inr 42), some (.inl x1), some (.inl x2), some (.inl x3), some (.inl x4), some (.inl (x5 + (1 : Int32)))] [] u1) ∧ ((u1 43 (ix (u1 54 (ix x5)))) = (u1 43 (ix x3)) → vp_in x5 60 ∧ vp_in (u1 54 (ix x5)) 60 ∧ (0 ≤ (u1 55 (ix (u1 54 (ix x5)))) → AW G (d + 1) M_MD_court Q 46 [some (.inr 42), some (.inl x1), some (.inl x2), some (.inl x3), some (.inl x4), some (.inl (x5 + (1 : Int32)))] [] u1) ∧ (¬ 0 ≤ (u1 55 (ix (u1 54 (ix x5)))) → Q 0 u1)))))) :
    AW G (d + 1) M_MD_court Q 46 [some (.inr 42), some (.inl x1), some (.inl x2), some (.inl x3), some (.inl x4), some (.inl x5)] [] μ := by
  refine aw_iload d_MD_court_46 rfl ?_
  refine aw_iload_n d_MD_court_48 rfl ?_
  refine aw_icmp_ge (tgt := 111) d_MD_court_49 (by decide) (fun q => ?_) (fun q => ?_)
  · replace h := h.1 q
    refine aw_aload_n d_MD_court_111 rfl ?_
    refine aw_getR (t := 53) d_MD_court_112 lf_MD_40 rfl rfl ?_
    refine aw_iconst (v := 2) d_MD_court_115 (by decide) ?_
    refine aw_iald d_MD_court_116 rfl h.1 ?_
    replace h := h.2
    refine aw_iconst (v := 1) d_MD_court_117 (by decide) ?_
    refine aw_iand d_MD_court_118 ?_
    refine aw_if_eq (tgt := 151) d_MD_court_119 (by decide) (fun q => ?_) (fun q => ?_)
    · replace h := h.1 q
      refine aw_drop 1 ?_
      refine aw_drop 5 ?_
      exact h
    · replace h := h.2 q
      refine aw_aload_n d_MD_court_122 rfl ?_
      refine aw_getR (t := 45) d_MD_court_123 lf_MD_16 rfl rfl ?_
      refine aw_iload_n d_MD_court_126 rfl ?_
      refine aw_iald d_MD_court_127 rfl h.1 ?_
      replace h := h.2
      refine aw_if_le (tgt := 151) d_MD_court_128 (by decide) (fun q => ?_) (fun q => ?_)
      · replace h := h.1 q
        refine aw_drop 1 ?_
        refine aw_drop 5 ?_
        exact h
      · replace h := h.2 q
        refine aw_aload_n d_MD_court_131 rfl ?_
        refine aw_getR (t := 59) d_MD_court_132 lf_MD_59 rfl rfl ?_
        refine aw_iload d_MD_court_135 rfl ?_
        refine aw_iald d_MD_court_137 rfl h.1 ?_
        replace h := h.2
        refine aw_aload_n d_MD_court_138 rfl ?_
        refine aw_getR (t := 44) d_MD_court_139 lf_MD_13 rfl rfl ?_
        refine aw_iload_n d_MD_court_142 rfl ?_
        refine aw_iald d_MD_court_143 rfl h.1 ?_
        replace h := h.2
        refine aw_icmp_eq (tgt := 151) d_MD_court_144 (by decide) (fun q => ?_) (fun q => ?_)
        · replace h := h.1 q
          refine aw_drop 1 ?_
          refine aw_drop 5 ?_
          exact h
        · replace h := h.2 q
          refine aw_iconst (v := 1) d_MD_court_147 (by decide) ?_
          refine aw_goto (tgt := 152) d_MD_court_148 (by decide) ?_
          refine aw_drop 1 ?_
          refine aw_drop 5 ?_
          exact h
  · replace h := h.2 q
    refine aw_aload_n d_MD_court_52 rfl ?_
    refine aw_aload_n d_MD_court_53 rfl ?_
    refine aw_getR (t := 54) d_MD_court_54 lf_MD_43 rfl rfl ?_
    refine aw_iload d_MD_court_57 rfl ?_
    refine aw_iald d_MD_court_59 rfl h.1 ?_
    replace h := h.2
    refine aw_callV (as := [.inl (μ 54 (ix x5))]) d_MD_court_60 lm_MD_142 rfl rfl (by decide) rfl (Nat.le_of_ble_eq_true rfl) rfl h (fun r2 u1 h => ?_)
    refine aw_iload d_MD_court_63 rfl ?_
    refine aw_icmp_ne (tgt := 105) d_MD_court_65 (by decide) (fun q => ?_) (fun q => ?_)
    · replace h := h.1 q
      refine aw_iinc (v := 1) d_MD_court_105 rfl (by decide) ?_
      refine aw_goto (tgt := 46) d_MD_court_108 (by decide) ?_
      exact h
    · replace h := h.2 q
      refine aw_aload_n d_MD_court_68 rfl ?_
      refine aw_getR (t := 43) d_MD_court_69 lf_MD_7 rfl rfl ?_
      refine aw_aload_n d_MD_court_72 rfl ?_
      refine aw_getR (t := 54) d_MD_court_73 lf_MD_43 rfl rfl ?_
      refine aw_iload d_MD_court_76 rfl ?_
      refine aw_iald d_MD_court_78 rfl h.1 ?_
      replace h := h.2
      refine aw_iald d_MD_court_79 rfl h.1 ?_
      replace h := h.2
      refine aw_aload_n d_MD_court_80 rfl ?_
      refine aw_getR (t := 43) d_MD_court_81 lf_MD_7 rfl rfl ?_
      refine aw_iload_n d_MD_court_84 rfl ?_
      refine aw_iald d_MD_court_85 rfl h.1 ?_
      replace h := h.2
      refine aw_icmp_ne (tgt := 105) d_MD_court_86 (by decide) (fun q => ?_) (fun q => ?_)
      · replace h := h.1 q
        refine aw_iinc (v := 1) d_MD_court_105 rfl (by decide) ?_
        refine aw_goto (tgt := 46) d_MD_court_108 (by decide) ?_
        exact h
      · replace h := h.2 q
        refine aw_aload_n d_MD_court_89 rfl ?_
        refine aw_getR (t := 55) d_MD_court_90 lf_MD_46 rfl rfl ?_
        refine aw_aload_n d_MD_court_93 rfl ?_
        refine aw_getR (t := 54) d_MD_court_94 lf_MD_43 rfl rfl ?_
        refine aw_iload d_MD_court_97 rfl ?_
        refine aw_iald d_MD_court_99 rfl h.1 ?_
        replace h := h.2
        refine aw_iald d_MD_court_100 rfl h.1 ?_
        replace h := h.2
        refine aw_if_ge (tgt := 105) d_MD_court_101 (by decide) (fun q => ?_) (fun q => ?_)
        · replace h := h.1 q
          refine aw_iinc (v := 1) d_MD_court_105 rfl (by decide) ?_
          refine aw_goto (tgt := 46) d_MD_court_108 (by decide) ?_
          exact h
        · replace h := h.2 q
          exact aw_vret d_MD_court_104 rfl h
set_option maxRecDepth 100000 in
theorem vc_MD_court_151 {G : Gp} {d : Nat} {Q : Int32 → Mem → Prop} {x2 x3 x4 : Int32} {μ : Mem}
    (h : AW G (d + 1) M_MD_court Q 152 [some (.inr 42), none, some (.inl x2), some (.inl x3), some (.inl x4), none] [.inl (0 : Int32)] μ) :
    AW G (d + 1) M_MD_court Q 151 [some (.inr 42), none, some (.inl x2), some (.inl x3), some (.inl x4), none] [] μ := by
  refine aw_iconst (v := 0) d_MD_court_151 (by decide) ?_
  exact h
set_option maxRecDepth 100000 in
theorem vc_MD_court_152 {G : Gp} {d : Nat} {Q : Int32 → Mem → Prop} {x2 x3 x4 s0 : Int32} {μ : Mem}
    (h : (¬ s0 = 0 → AW G (d + 1) M_MD_court Q 187 [some (.inr 42), none, some (.inl x2), some (.inl x3), some (.inl x4), none] [] μ) ∧ (s0 = 0 → vp_in (2 : Int32) 5 ∧ (((μ 53 (ix (2 : Int32))) &&& (2 : Int32)) = 0 → AW G (d + 1) M_MD_court Q 191 [some (.inr 42), none, some (.inl x2), some (.inl x3), some (.inl x4), none] [] μ) ∧ (¬ ((μ 53 (ix (2 : Int32))) &&& (2 : Int32)) = 0 → vp_in (0 : Int32) 5 ∧ (¬ (μ 53 (ix (0 : Int32))) = 0 → AW G (d + 1) M_MD_court Q 191 [some (.inr 42), none, some (.inl x2), some (.inl x3), some (.inl x4), none] [] μ) ∧ ((μ 53 (ix (0 : Int32))) = 0 → Ct G d M_MD_otherSeat [.inr 42, .inl x3] μ (fun r2 u1 => (r2 = 0 → AW G (d + 1) M_MD_court Q 191 [some (.inr 42), none, some (.inl x2), some (.inl x3), some (.inl x4), none] [] u1) ∧ (¬ r2 = 0 → AW G (d + 1) M_MD_court Q 187 [some (.inr 42), none, some (.inl x2), some (.inl x3), some (.inl x4), none] [] u1)))))) :
    AW G (d + 1) M_MD_court Q 152 [some (.inr 42), none, some (.inl x2), some (.inl x3), some (.inl x4), none] [.inl s0] μ := by
  refine aw_istore d_MD_court_152 (Nat.le_of_ble_eq_true rfl) ?_
  refine aw_iload d_MD_court_154 rfl ?_
  refine aw_if_ne (tgt := 187) d_MD_court_156 (by decide) (fun q => ?_) (fun q => ?_)
  · replace h := h.1 q
    refine aw_drop 5 ?_
    exact h
  · replace h := h.2 q
    refine aw_aload_n d_MD_court_159 rfl ?_
    refine aw_getR (t := 53) d_MD_court_160 lf_MD_40 rfl rfl ?_
    refine aw_iconst (v := 2) d_MD_court_163 (by decide) ?_
    refine aw_iald d_MD_court_164 rfl h.1 ?_
    replace h := h.2
    refine aw_iconst (v := 2) d_MD_court_165 (by decide) ?_
    refine aw_iand d_MD_court_166 ?_
    refine aw_if_eq (tgt := 191) d_MD_court_167 (by decide) (fun q => ?_) (fun q => ?_)
    · replace h := h.1 q
      refine aw_drop 5 ?_
      exact h
    · replace h := h.2 q
      refine aw_aload_n d_MD_court_170 rfl ?_
      refine aw_getR (t := 53) d_MD_court_171 lf_MD_40 rfl rfl ?_
      refine aw_iconst (v := 0) d_MD_court_174 (by decide) ?_
      refine aw_iald d_MD_court_175 rfl h.1 ?_
      replace h := h.2
      refine aw_if_ne (tgt := 191) d_MD_court_176 (by decide) (fun q => ?_) (fun q => ?_)
      · replace h := h.1 q
        refine aw_drop 5 ?_
        exact h
      · replace h := h.2 q
        refine aw_aload_n d_MD_court_179 rfl ?_
        refine aw_iload_n d_MD_court_180 rfl ?_
        refine aw_callV (as := [.inl x3]) d_MD_court_181 lm_MD_145 rfl rfl (by decide) rfl (Nat.le_of_ble_eq_true rfl) rfl h (fun r2 u1 h => ?_)
        refine aw_if_eq (tgt := 191) d_MD_court_184 (by decide) (fun q => ?_) (fun q => ?_)
        · replace h := h.1 q
          refine aw_drop 5 ?_
          exact h
        · replace h := h.2 q
          refine aw_drop 5 ?_
          exact h
set_option maxRecDepth 100000 in
theorem vc_MD_court_187 {G : Gp} {d : Nat} {Q : Int32 → Mem → Prop} {x2 x3 x4 : Int32} {μ : Mem}
    (h : AW G (d + 1) M_MD_court Q 192 [some (.inr 42), none, some (.inl x2), some (.inl x3), some (.inl x4), none] [.inl (1 : Int32)] μ) :
    AW G (d + 1) M_MD_court Q 187 [some (.inr 42), none, some (.inl x2), some (.inl x3), some (.inl x4), none] [] μ := by
  refine aw_iconst (v := 1) d_MD_court_187 (by decide) ?_
  refine aw_goto (tgt := 192) d_MD_court_188 (by decide) ?_
  exact h
set_option maxRecDepth 100000 in
theorem vc_MD_court_191 {G : Gp} {d : Nat} {Q : Int32 → Mem → Prop} {x2 x3 x4 : Int32} {μ : Mem}
    (h : AW G (d + 1) M_MD_court Q 192 [some (.inr 42), none, some (.inl x2), some (.inl x3), some (.inl x4), none] [.inl (0 : Int32)] μ) :
    AW G (d + 1) M_MD_court Q 191 [some (.inr 42), none, some (.inl x2), some (.inl x3), some (.inl x4), none] [] μ := by
  refine aw_iconst (v := 0) d_MD_court_191 (by decide) ?_
  exact h
set_option maxRecDepth 100000 in
theorem vc_MD_court_192 {G : Gp} {d : Nat} {Q : Int32 → Mem → Prop} {x2 x3 x4 s0 : Int32} {μ : Mem}
    (h : (¬ s0 = 0 → AW G (d + 1) M_MD_court Q 219 [some (.inr 42), none, none, some (.inl x3), some (.inl x4), none] [] μ) ∧ (s0 = 0 → vp_in (2 : Int32) 5 ∧ (((μ 53 (ix (2 : Int32))) &&& (4 : Int32)) = 0 → AW G (d + 1) M_MD_court Q 223 [some (.inr 42), none, none, some (.inl x3), some (.inl x4), none] [] μ) ∧ (¬ ((μ 53 (ix (2 : Int32))) &&& (4 : Int32)) = 0 → Ct G d M_MD_tiedAhead [.inr 42, .inl x3, .inl x2] μ (fun r2 u1 => (r2 = 0 → AW G (d + 1) M_MD_court Q 223 [some (.inr 42), none, none, some (.inl x3), some (.inl x4), none] [] u1) ∧ (¬ r2 = 0 → AW G (d + 1) M_MD_court Q 219 [some (.inr 42), none, none, some (.inl x3), some (.inl x4), none] [] u1))))) :
    AW G (d + 1) M_MD_court Q 192 [some (.inr 42), none, some (.inl x2), some (.inl x3), some (.inl x4), none] [.inl s0] μ := by
  refine aw_istore d_MD_court_192 (Nat.le_of_ble_eq_true rfl) ?_
  refine aw_iload d_MD_court_194 rfl ?_
  refine aw_if_ne (tgt := 219) d_MD_court_196 (by decide) (fun q => ?_) (fun q => ?_)
  · replace h := h.1 q
    refine aw_drop 2 ?_
    refine aw_drop 5 ?_
    exact h
  · replace h := h.2 q
    refine aw_aload_n d_MD_court_199 rfl ?_
    refine aw_getR (t := 53) d_MD_court_200 lf_MD_40 rfl rfl ?_
    refine aw_iconst (v := 2) d_MD_court_203 (by decide) ?_
    refine aw_iald d_MD_court_204 rfl h.1 ?_
    replace h := h.2
    refine aw_iconst (v := 4) d_MD_court_205 (by decide) ?_
    refine aw_iand d_MD_court_206 ?_
    refine aw_if_eq (tgt := 223) d_MD_court_207 (by decide) (fun q => ?_) (fun q => ?_)
    · replace h := h.1 q
      refine aw_drop 2 ?_
      refine aw_drop 5 ?_
      exact h
    · replace h := h.2 q
      refine aw_aload_n d_MD_court_210 rfl ?_
      refine aw_iload_n d_MD_court_211 rfl ?_
      refine aw_iload_n d_MD_court_212 rfl ?_
      refine aw_callV (as := [.inl x3, .inl x2]) d_MD_court_213 lm_MD_149 rfl rfl (by decide) rfl (Nat.le_of_ble_eq_true rfl) rfl h (fun r2 u1 h => ?_)
      refine aw_if_eq (tgt := 223) d_MD_court_216 (by decide) (fun q => ?_) (fun q => ?_)
      · replace h := h.1 q
        refine aw_drop 2 ?_
        refine aw_drop 5 ?_
        exact h
      · replace h := h.2 q
        refine aw_drop 2 ?_
        refine aw_drop 5 ?_
        exact h
set_option maxRecDepth 100000 in
theorem vc_MD_court_219 {G : Gp} {d : Nat} {Q : Int32 → Mem → Prop} {x3 x4 : Int32} {μ : Mem}
    (h : (¬ (1 : Int32) = 0 → ((1 : Int32) = 0 → Q 0 μ) ∧ (¬ (1 : Int32) = 0 → vp_in x3 60 ∧ ∀ u1 : Mem, u1 = up μ 56 (ix x3) (2 : Int32) → vp_in x4 280 ∧ ∀ u2 : Mem, u2 = up u1 62 (ix x4) (1 : Int32) → Q 0 u2)) ∧ ((1 : Int32) = 0 → vp_in (2 : Int32) 5 ∧ (((μ 53 (ix (2 : Int32))) &&& (8 : Int32)) = 0 → ((0 : Int32) = 0 → Q 0 μ) ∧ (¬ (0 : Int32) = 0 → vp_in x3 60 ∧ ∀ u3 : Mem, u3 = up μ 56 (ix x3) (2 : Int32) → vp_in x4 280 ∧ ∀ u4 : Mem, u4 = up u3 62 (ix x4) (1 : Int32) → Q 0 u4)) ∧ (¬ ((μ 53 (ix (2 : Int32))) &&& (8 : Int32)) = 0 → vp_in x3 60 ∧ ((μ 45 (ix x3)) ≤ 0 → ((0 : Int32) = 0 → Q 0 μ) ∧ (¬ (0 : Int32) = 0 → vp_in x3 60 ∧ ∀ u5 : Mem, u5 = up μ 56 (ix x3) (2 : Int32) → vp_in x4 280 ∧ ∀ u6 : Mem, u6 = up u5 62 (ix x4) (1 : Int32) → Q 0 u6)) ∧ (¬ (μ 45 (ix x3)) ≤ 0 → vp_in x3 60 ∧ Ct G d M_MD_keyOf [.inr 42, .inl ((μ 45 (ix x3)) - (1 : Int32))] μ (fun r8 u7 => vp_in x3 60 ∧ Ct G d M_MD_keyAlter [.inl r8, .inl ((u7 43 (ix x3)) - (u7 43 (ix x3)) / (7 : Int32) * (7 : Int32))] u7 (fun r10 u9 => vp_in x3 60 ∧ Ct G d M_MD_keyOf [.inr 42, .inl (u9 45 (ix x3))] u9 (fun r12 u11 => vp_in x3 60 ∧ Ct G d M_MD_keyAlter [.inl r12, .inl ((u11 43 (ix x3)) - (u11 43 (ix x3)) / (7 : Int32) * (7 : Int32))] u11 (fun r14 u13 => (r10 = r14 → ((0 : Int32) = 0 → Q 0 u13) ∧ (¬ (0 : Int32) = 0 → vp_in x3 60 ∧ ∀ u15 : Mem, u15 = up u13 56 (ix x3) (2 : Int32) → vp_in x4 280 ∧ ∀ u16 : Mem, u16 = up u15 62 (ix x4) (1 : Int32) → Q 0 u16)) ∧ (¬ r10 = r14 → ((1 : Int32) = 0 → Q 0 u13) ∧ (¬ (1 : Int32) = 0 → vp_in x3 60 ∧ ∀ u17 : Mem, u17 = up u13 56 (ix x3) (2 : Int32) → vp_in x4 280 ∧ ∀ u18 : Mem, u18 = up u17 62 (ix x4) (1 : Int32) → Q 0 u18)))))))))) :
    AW G (d + 1) M_MD_court Q 219 [some (.inr 42), none, none, some (.inl x3), some (.inl x4), none] [] μ := by
  refine aw_iconst (v := 1) d_MD_court_219 (by decide) ?_
  refine aw_goto (tgt := 224) d_MD_court_220 (by decide) ?_
  refine aw_istore d_MD_court_224 (Nat.le_of_ble_eq_true rfl) ?_
  refine aw_iload d_MD_court_226 rfl ?_
  refine aw_if_ne (tgt := 301) d_MD_court_228 (by decide) (fun q => ?_) (fun q => ?_)
  · replace h := h.1 q
    refine aw_iconst (v := 1) d_MD_court_301 (by decide) ?_
    refine aw_goto (tgt := 306) d_MD_court_302 (by decide) ?_
    refine aw_istore d_MD_court_306 (Nat.le_of_ble_eq_true rfl) ?_
    refine aw_iload d_MD_court_308 rfl ?_
    refine aw_if_eq (tgt := 328) d_MD_court_310 (by decide) (fun q => ?_) (fun q => ?_)
    · replace h := h.1 q
      exact aw_vret d_MD_court_328 rfl h
    · replace h := h.2 q
      refine aw_aload_n d_MD_court_313 rfl ?_
      refine aw_getR (t := 56) d_MD_court_314 lf_MD_49 rfl rfl ?_
      refine aw_iload_n d_MD_court_317 rfl ?_
      refine aw_iconst (v := 2) d_MD_court_318 (by decide) ?_
      refine aw_iast d_MD_court_319 rfl h.1 ?_
      replace h := h.2
      refine aw_mem (fun u1 e => ?_)
      replace h := h _ e
      refine aw_aload_n d_MD_court_320 rfl ?_
      refine aw_getR (t := 62) d_MD_court_321 lf_MD_68 rfl rfl ?_
      refine aw_iload d_MD_court_324 rfl ?_
      refine aw_iconst (v := 1) d_MD_court_326 (by decide) ?_
      refine aw_zast d_MD_court_327 rfl h.1 (Or.inr rfl) ?_
      replace h := h.2
      refine aw_mem (fun u2 e => ?_)
      replace h := h _ e
      exact aw_vret d_MD_court_328 rfl h
  · replace h := h.2 q
    refine aw_aload_n d_MD_court_231 rfl ?_
    refine aw_getR (t := 53) d_MD_court_232 lf_MD_40 rfl rfl ?_
    refine aw_iconst (v := 2) d_MD_court_235 (by decide) ?_
    refine aw_iald d_MD_court_236 rfl h.1 ?_
    replace h := h.2
    refine aw_bipush (v := 8) d_MD_court_237 (by decide) ?_
    refine aw_iand d_MD_court_239 ?_
    refine aw_if_eq (tgt := 305) d_MD_court_240 (by decide) (fun q => ?_) (fun q => ?_)
    · replace h := h.1 q
      refine aw_iconst (v := 0) d_MD_court_305 (by decide) ?_
      refine aw_istore d_MD_court_306 (Nat.le_of_ble_eq_true rfl) ?_
      refine aw_iload d_MD_court_308 rfl ?_
      refine aw_if_eq (tgt := 328) d_MD_court_310 (by decide) (fun q => ?_) (fun q => ?_)
      · replace h := h.1 q
        exact aw_vret d_MD_court_328 rfl h
      · replace h := h.2 q
        refine aw_aload_n d_MD_court_313 rfl ?_
        refine aw_getR (t := 56) d_MD_court_314 lf_MD_49 rfl rfl ?_
        refine aw_iload_n d_MD_court_317 rfl ?_
        refine aw_iconst (v := 2) d_MD_court_318 (by decide) ?_
        refine aw_iast d_MD_court_319 rfl h.1 ?_
        replace h := h.2
        refine aw_mem (fun u3 e => ?_)
        replace h := h _ e
        refine aw_aload_n d_MD_court_320 rfl ?_
        refine aw_getR (t := 62) d_MD_court_321 lf_MD_68 rfl rfl ?_
        refine aw_iload d_MD_court_324 rfl ?_
        refine aw_iconst (v := 1) d_MD_court_326 (by decide) ?_
        refine aw_zast d_MD_court_327 rfl h.1 (Or.inr rfl) ?_
        replace h := h.2
        refine aw_mem (fun u4 e => ?_)
        replace h := h _ e
        exact aw_vret d_MD_court_328 rfl h
    · replace h := h.2 q
      refine aw_aload_n d_MD_court_243 rfl ?_
      refine aw_getR (t := 45) d_MD_court_244 lf_MD_16 rfl rfl ?_
      refine aw_iload_n d_MD_court_247 rfl ?_
      refine aw_iald d_MD_court_248 rfl h.1 ?_
      replace h := h.2
      refine aw_if_le (tgt := 305) d_MD_court_249 (by decide) (fun q => ?_) (fun q => ?_)
      · replace h := h.1 q
        refine aw_iconst (v := 0) d_MD_court_305 (by decide) ?_
        refine aw_istore d_MD_court_306 (Nat.le_of_ble_eq_true rfl) ?_
        refine aw_iload d_MD_court_308 rfl ?_
        refine aw_if_eq (tgt := 328) d_MD_court_310 (by decide) (fun q => ?_) (fun q => ?_)
        · replace h := h.1 q
          exact aw_vret d_MD_court_328 rfl h
        · replace h := h.2 q
          refine aw_aload_n d_MD_court_313 rfl ?_
          refine aw_getR (t := 56) d_MD_court_314 lf_MD_49 rfl rfl ?_
          refine aw_iload_n d_MD_court_317 rfl ?_
          refine aw_iconst (v := 2) d_MD_court_318 (by decide) ?_
          refine aw_iast d_MD_court_319 rfl h.1 ?_
          replace h := h.2
          refine aw_mem (fun u5 e => ?_)
          replace h := h _ e
          refine aw_aload_n d_MD_court_320 rfl ?_
          refine aw_getR (t := 62) d_MD_court_321 lf_MD_68 rfl rfl ?_
          refine aw_iload d_MD_court_324 rfl ?_
          refine aw_iconst (v := 1) d_MD_court_326 (by decide) ?_
          refine aw_zast d_MD_court_327 rfl h.1 (Or.inr rfl) ?_
          replace h := h.2
          refine aw_mem (fun u6 e => ?_)
          replace h := h _ e
          exact aw_vret d_MD_court_328 rfl h
      · replace h := h.2 q
        refine aw_aload_n d_MD_court_252 rfl ?_
        refine aw_aload_n d_MD_court_253 rfl ?_
        refine aw_getR (t := 45) d_MD_court_254 lf_MD_16 rfl rfl ?_
        refine aw_iload_n d_MD_court_257 rfl ?_
        refine aw_iald d_MD_court_258 rfl h.1 ?_
        replace h := h.2
        refine aw_iconst (v := 1) d_MD_court_259 (by decide) ?_
        refine aw_isub d_MD_court_260 ?_
        refine aw_callV (as := [.inl ((μ 45 (ix x3)) - (1 : Int32))]) d_MD_court_261 lm_MD_115 rfl rfl (by decide) rfl (Nat.le_of_ble_eq_true rfl) rfl h (fun r8 u7 h => ?_)
        refine aw_aload_n d_MD_court_264 rfl ?_
        refine aw_getR (t := 43) d_MD_court_265 lf_MD_7 rfl rfl ?_
        refine aw_iload_n d_MD_court_268 rfl ?_
        refine aw_iald d_MD_court_269 rfl h.1 ?_
        replace h := h.2
        refine aw_bipush (v := 7) d_MD_court_270 (by decide) ?_
        refine aw_irem d_MD_court_272 (by decide) ?_
        refine aw_callS (as := [.inl r8, .inl ((u7 43 (ix x3)) - (u7 43 (ix x3)) / (7 : Int32) * (7 : Int32))]) d_MD_court_273 lm_MD_128 rfl (Nat.le_of_ble_eq_true rfl) rfl h (fun r10 u9 h => ?_)
        refine aw_aload_n d_MD_court_276 rfl ?_
        refine aw_aload_n d_MD_court_277 rfl ?_
        refine aw_getR (t := 45) d_MD_court_278 lf_MD_16 rfl rfl ?_
        refine aw_iload_n d_MD_court_281 rfl ?_
        refine aw_iald d_MD_court_282 rfl h.1 ?_
        replace h := h.2
        refine aw_callV (as := [.inl (u9 45 (ix x3))]) d_MD_court_283 lm_MD_115 rfl rfl (by decide) rfl (Nat.le_of_ble_eq_true rfl) rfl h (fun r12 u11 h => ?_)
        refine aw_aload_n d_MD_court_286 rfl ?_
        refine aw_getR (t := 43) d_MD_court_287 lf_MD_7 rfl rfl ?_
        refine aw_iload_n d_MD_court_290 rfl ?_
        refine aw_iald d_MD_court_291 rfl h.1 ?_
        replace h := h.2
        refine aw_bipush (v := 7) d_MD_court_292 (by decide) ?_
        refine aw_irem d_MD_court_294 (by decide) ?_
        refine aw_callS (as := [.inl r12, .inl ((u11 43 (ix x3)) - (u11 43 (ix x3)) / (7 : Int32) * (7 : Int32))]) d_MD_court_295 lm_MD_128 rfl (Nat.le_of_ble_eq_true rfl) rfl h (fun r14 u13 h => ?_)
        refine aw_icmp_eq (tgt := 305) d_MD_court_298 (by decide) (fun q => ?_) (fun q => ?_)
        · replace h := h.1 q
          refine aw_iconst (v := 0) d_MD_court_305 (by decide) ?_
          refine aw_istore d_MD_court_306 (Nat.le_of_ble_eq_true rfl) ?_
          refine aw_iload d_MD_court_308 rfl ?_
          refine aw_if_eq (tgt := 328) d_MD_court_310 (by decide) (fun q => ?_) (fun q => ?_)
          · replace h := h.1 q
            exact aw_vret d_MD_court_328 rfl h
          · replace h := h.2 q
            refine aw_aload_n d_MD_court_313 rfl ?_
            refine aw_getR (t := 56) d_MD_court_314 lf_MD_49 rfl rfl ?_
            refine aw_iload_n d_MD_court_317 rfl ?_
            refine aw_iconst (v := 2) d_MD_court_318 (by decide) ?_
            refine aw_iast d_MD_court_319 rfl h.1 ?_
            replace h := h.2
            refine aw_mem (fun u15 e => ?_)
            replace h := h _ e
            refine aw_aload_n d_MD_court_320 rfl ?_
            refine aw_getR (t := 62) d_MD_court_321 lf_MD_68 rfl rfl ?_
            refine aw_iload d_MD_court_324 rfl ?_
            refine aw_iconst (v := 1) d_MD_court_326 (by decide) ?_
            refine aw_zast d_MD_court_327 rfl h.1 (Or.inr rfl) ?_
            replace h := h.2
            refine aw_mem (fun u16 e => ?_)
            replace h := h _ e
            exact aw_vret d_MD_court_328 rfl h
        · replace h := h.2 q
          refine aw_iconst (v := 1) d_MD_court_301 (by decide) ?_
          refine aw_goto (tgt := 306) d_MD_court_302 (by decide) ?_
          refine aw_istore d_MD_court_306 (Nat.le_of_ble_eq_true rfl) ?_
          refine aw_iload d_MD_court_308 rfl ?_
          refine aw_if_eq (tgt := 328) d_MD_court_310 (by decide) (fun q => ?_) (fun q => ?_)
          · replace h := h.1 q
            exact aw_vret d_MD_court_328 rfl h
          · replace h := h.2 q
            refine aw_aload_n d_MD_court_313 rfl ?_
            refine aw_getR (t := 56) d_MD_court_314 lf_MD_49 rfl rfl ?_
            refine aw_iload_n d_MD_court_317 rfl ?_
            refine aw_iconst (v := 2) d_MD_court_318 (by decide) ?_
            refine aw_iast d_MD_court_319 rfl h.1 ?_
            replace h := h.2
            refine aw_mem (fun u17 e => ?_)
            replace h := h _ e
            refine aw_aload_n d_MD_court_320 rfl ?_
            refine aw_getR (t := 62) d_MD_court_321 lf_MD_68 rfl rfl ?_
            refine aw_iload d_MD_court_324 rfl ?_
            refine aw_iconst (v := 1) d_MD_court_326 (by decide) ?_
            refine aw_zast d_MD_court_327 rfl h.1 (Or.inr rfl) ?_
            replace h := h.2
            refine aw_mem (fun u18 e => ?_)
            replace h := h _ e
            exact aw_vret d_MD_court_328 rfl h
set_option maxRecDepth 100000 in
theorem vc_MD_court_223 {G : Gp} {d : Nat} {Q : Int32 → Mem → Prop} {x3 x4 : Int32} {μ : Mem}
    (h : (¬ (0 : Int32) = 0 → ((1 : Int32) = 0 → Q 0 μ) ∧ (¬ (1 : Int32) = 0 → vp_in x3 60 ∧ ∀ u1 : Mem, u1 = up μ 56 (ix x3) (2 : Int32) → vp_in x4 280 ∧ ∀ u2 : Mem, u2 = up u1 62 (ix x4) (1 : Int32) → Q 0 u2)) ∧ ((0 : Int32) = 0 → vp_in (2 : Int32) 5 ∧ (((μ 53 (ix (2 : Int32))) &&& (8 : Int32)) = 0 → ((0 : Int32) = 0 → Q 0 μ) ∧ (¬ (0 : Int32) = 0 → vp_in x3 60 ∧ ∀ u3 : Mem, u3 = up μ 56 (ix x3) (2 : Int32) → vp_in x4 280 ∧ ∀ u4 : Mem, u4 = up u3 62 (ix x4) (1 : Int32) → Q 0 u4)) ∧ (¬ ((μ 53 (ix (2 : Int32))) &&& (8 : Int32)) = 0 → vp_in x3 60 ∧ ((μ 45 (ix x3)) ≤ 0 → ((0 : Int32) = 0 → Q 0 μ) ∧ (¬ (0 : Int32) = 0 → vp_in x3 60 ∧ ∀ u5 : Mem, u5 = up μ 56 (ix x3) (2 : Int32) → vp_in x4 280 ∧ ∀ u6 : Mem, u6 = up u5 62 (ix x4) (1 : Int32) → Q 0 u6)) ∧ (¬ (μ 45 (ix x3)) ≤ 0 → vp_in x3 60 ∧ Ct G d M_MD_keyOf [.inr 42, .inl ((μ 45 (ix x3)) - (1 : Int32))] μ (fun r8 u7 => vp_in x3 60 ∧ Ct G d M_MD_keyAlter [.inl r8, .inl ((u7 43 (ix x3)) - (u7 43 (ix x3)) / (7 : Int32) * (7 : Int32))] u7 (fun r10 u9 => vp_in x3 60 ∧ Ct G d M_MD_keyOf [.inr 42, .inl (u9 45 (ix x3))] u9 (fun r12 u11 => vp_in x3 60 ∧ Ct G d M_MD_keyAlter [.inl r12, .inl ((u11 43 (ix x3)) - (u11 43 (ix x3)) / (7 : Int32) * (7 : Int32))] u11 (fun r14 u13 => (r10 = r14 → ((0 : Int32) = 0 → Q 0 u13) ∧ (¬ (0 : Int32) = 0 → vp_in x3 60 ∧ ∀ u15 : Mem, u15 = up u13 56 (ix x3) (2 : Int32) → vp_in x4 280 ∧ ∀ u16 : Mem, u16 = up u15 62 (ix x4) (1 : Int32) → Q 0 u16)) ∧ (¬ r10 = r14 → ((1 : Int32) = 0 → Q 0 u13) ∧ (¬ (1 : Int32) = 0 → vp_in x3 60 ∧ ∀ u17 : Mem, u17 = up u13 56 (ix x3) (2 : Int32) → vp_in x4 280 ∧ ∀ u18 : Mem, u18 = up u17 62 (ix x4) (1 : Int32) → Q 0 u18)))))))))) :
    AW G (d + 1) M_MD_court Q 223 [some (.inr 42), none, none, some (.inl x3), some (.inl x4), none] [] μ := by
  refine aw_iconst (v := 0) d_MD_court_223 (by decide) ?_
  refine aw_istore d_MD_court_224 (Nat.le_of_ble_eq_true rfl) ?_
  refine aw_iload d_MD_court_226 rfl ?_
  refine aw_if_ne (tgt := 301) d_MD_court_228 (by decide) (fun q => ?_) (fun q => ?_)
  · replace h := h.1 q
    refine aw_iconst (v := 1) d_MD_court_301 (by decide) ?_
    refine aw_goto (tgt := 306) d_MD_court_302 (by decide) ?_
    refine aw_istore d_MD_court_306 (Nat.le_of_ble_eq_true rfl) ?_
    refine aw_iload d_MD_court_308 rfl ?_
    refine aw_if_eq (tgt := 328) d_MD_court_310 (by decide) (fun q => ?_) (fun q => ?_)
    · replace h := h.1 q
      exact aw_vret d_MD_court_328 rfl h
    · replace h := h.2 q
      refine aw_aload_n d_MD_court_313 rfl ?_
      refine aw_getR (t := 56) d_MD_court_314 lf_MD_49 rfl rfl ?_
      refine aw_iload_n d_MD_court_317 rfl ?_
      refine aw_iconst (v := 2) d_MD_court_318 (by decide) ?_
      refine aw_iast d_MD_court_319 rfl h.1 ?_
      replace h := h.2
      refine aw_mem (fun u1 e => ?_)
      replace h := h _ e
      refine aw_aload_n d_MD_court_320 rfl ?_
      refine aw_getR (t := 62) d_MD_court_321 lf_MD_68 rfl rfl ?_
      refine aw_iload d_MD_court_324 rfl ?_
      refine aw_iconst (v := 1) d_MD_court_326 (by decide) ?_
      refine aw_zast d_MD_court_327 rfl h.1 (Or.inr rfl) ?_
      replace h := h.2
      refine aw_mem (fun u2 e => ?_)
      replace h := h _ e
      exact aw_vret d_MD_court_328 rfl h
  · replace h := h.2 q
    refine aw_aload_n d_MD_court_231 rfl ?_
    refine aw_getR (t := 53) d_MD_court_232 lf_MD_40 rfl rfl ?_
    refine aw_iconst (v := 2) d_MD_court_235 (by decide) ?_
    refine aw_iald d_MD_court_236 rfl h.1 ?_
    replace h := h.2
    refine aw_bipush (v := 8) d_MD_court_237 (by decide) ?_
    refine aw_iand d_MD_court_239 ?_
    refine aw_if_eq (tgt := 305) d_MD_court_240 (by decide) (fun q => ?_) (fun q => ?_)
    · replace h := h.1 q
      refine aw_iconst (v := 0) d_MD_court_305 (by decide) ?_
      refine aw_istore d_MD_court_306 (Nat.le_of_ble_eq_true rfl) ?_
      refine aw_iload d_MD_court_308 rfl ?_
      refine aw_if_eq (tgt := 328) d_MD_court_310 (by decide) (fun q => ?_) (fun q => ?_)
      · replace h := h.1 q
        exact aw_vret d_MD_court_328 rfl h
      · replace h := h.2 q
        refine aw_aload_n d_MD_court_313 rfl ?_
        refine aw_getR (t := 56) d_MD_court_314 lf_MD_49 rfl rfl ?_
        refine aw_iload_n d_MD_court_317 rfl ?_
        refine aw_iconst (v := 2) d_MD_court_318 (by decide) ?_
        refine aw_iast d_MD_court_319 rfl h.1 ?_
        replace h := h.2
        refine aw_mem (fun u3 e => ?_)
        replace h := h _ e
        refine aw_aload_n d_MD_court_320 rfl ?_
        refine aw_getR (t := 62) d_MD_court_321 lf_MD_68 rfl rfl ?_
        refine aw_iload d_MD_court_324 rfl ?_
        refine aw_iconst (v := 1) d_MD_court_326 (by decide) ?_
        refine aw_zast d_MD_court_327 rfl h.1 (Or.inr rfl) ?_
        replace h := h.2
        refine aw_mem (fun u4 e => ?_)
        replace h := h _ e
        exact aw_vret d_MD_court_328 rfl h
    · replace h := h.2 q
      refine aw_aload_n d_MD_court_243 rfl ?_
      refine aw_getR (t := 45) d_MD_court_244 lf_MD_16 rfl rfl ?_
      refine aw_iload_n d_MD_court_247 rfl ?_
      refine aw_iald d_MD_court_248 rfl h.1 ?_
      replace h := h.2
      refine aw_if_le (tgt := 305) d_MD_court_249 (by decide) (fun q => ?_) (fun q => ?_)
      · replace h := h.1 q
        refine aw_iconst (v := 0) d_MD_court_305 (by decide) ?_
        refine aw_istore d_MD_court_306 (Nat.le_of_ble_eq_true rfl) ?_
        refine aw_iload d_MD_court_308 rfl ?_
        refine aw_if_eq (tgt := 328) d_MD_court_310 (by decide) (fun q => ?_) (fun q => ?_)
        · replace h := h.1 q
          exact aw_vret d_MD_court_328 rfl h
        · replace h := h.2 q
          refine aw_aload_n d_MD_court_313 rfl ?_
          refine aw_getR (t := 56) d_MD_court_314 lf_MD_49 rfl rfl ?_
          refine aw_iload_n d_MD_court_317 rfl ?_
          refine aw_iconst (v := 2) d_MD_court_318 (by decide) ?_
          refine aw_iast d_MD_court_319 rfl h.1 ?_
          replace h := h.2
          refine aw_mem (fun u5 e => ?_)
          replace h := h _ e
          refine aw_aload_n d_MD_court_320 rfl ?_
          refine aw_getR (t := 62) d_MD_court_321 lf_MD_68 rfl rfl ?_
          refine aw_iload d_MD_court_324 rfl ?_
          refine aw_iconst (v := 1) d_MD_court_326 (by decide) ?_
          refine aw_zast d_MD_court_327 rfl h.1 (Or.inr rfl) ?_
          replace h := h.2
          refine aw_mem (fun u6 e => ?_)
          replace h := h _ e
          exact aw_vret d_MD_court_328 rfl h
      · replace h := h.2 q
        refine aw_aload_n d_MD_court_252 rfl ?_
        refine aw_aload_n d_MD_court_253 rfl ?_
        refine aw_getR (t := 45) d_MD_court_254 lf_MD_16 rfl rfl ?_
        refine aw_iload_n d_MD_court_257 rfl ?_
        refine aw_iald d_MD_court_258 rfl h.1 ?_
        replace h := h.2
        refine aw_iconst (v := 1) d_MD_court_259 (by decide) ?_
        refine aw_isub d_MD_court_260 ?_
        refine aw_callV (as := [.inl ((μ 45 (ix x3)) - (1 : Int32))]) d_MD_court_261 lm_MD_115 rfl rfl (by decide) rfl (Nat.le_of_ble_eq_true rfl) rfl h (fun r8 u7 h => ?_)
        refine aw_aload_n d_MD_court_264 rfl ?_
        refine aw_getR (t := 43) d_MD_court_265 lf_MD_7 rfl rfl ?_
        refine aw_iload_n d_MD_court_268 rfl ?_
        refine aw_iald d_MD_court_269 rfl h.1 ?_
        replace h := h.2
        refine aw_bipush (v := 7) d_MD_court_270 (by decide) ?_
        refine aw_irem d_MD_court_272 (by decide) ?_
        refine aw_callS (as := [.inl r8, .inl ((u7 43 (ix x3)) - (u7 43 (ix x3)) / (7 : Int32) * (7 : Int32))]) d_MD_court_273 lm_MD_128 rfl (Nat.le_of_ble_eq_true rfl) rfl h (fun r10 u9 h => ?_)
        refine aw_aload_n d_MD_court_276 rfl ?_
        refine aw_aload_n d_MD_court_277 rfl ?_
        refine aw_getR (t := 45) d_MD_court_278 lf_MD_16 rfl rfl ?_
        refine aw_iload_n d_MD_court_281 rfl ?_
        refine aw_iald d_MD_court_282 rfl h.1 ?_
        replace h := h.2
        refine aw_callV (as := [.inl (u9 45 (ix x3))]) d_MD_court_283 lm_MD_115 rfl rfl (by decide) rfl (Nat.le_of_ble_eq_true rfl) rfl h (fun r12 u11 h => ?_)
        refine aw_aload_n d_MD_court_286 rfl ?_
        refine aw_getR (t := 43) d_MD_court_287 lf_MD_7 rfl rfl ?_
        refine aw_iload_n d_MD_court_290 rfl ?_
        refine aw_iald d_MD_court_291 rfl h.1 ?_
        replace h := h.2
        refine aw_bipush (v := 7) d_MD_court_292 (by decide) ?_
        refine aw_irem d_MD_court_294 (by decide) ?_
        refine aw_callS (as := [.inl r12, .inl ((u11 43 (ix x3)) - (u11 43 (ix x3)) / (7 : Int32) * (7 : Int32))]) d_MD_court_295 lm_MD_128 rfl (Nat.le_of_ble_eq_true rfl) rfl h (fun r14 u13 h => ?_)
        refine aw_icmp_eq (tgt := 305) d_MD_court_298 (by decide) (fun q => ?_) (fun q => ?_)
        · replace h := h.1 q
          refine aw_iconst (v := 0) d_MD_court_305 (by decide) ?_
          refine aw_istore d_MD_court_306 (Nat.le_of_ble_eq_true rfl) ?_
          refine aw_iload d_MD_court_308 rfl ?_
          refine aw_if_eq (tgt := 328) d_MD_court_310 (by decide) (fun q => ?_) (fun q => ?_)
          · replace h := h.1 q
            exact aw_vret d_MD_court_328 rfl h
          · replace h := h.2 q
            refine aw_aload_n d_MD_court_313 rfl ?_
            refine aw_getR (t := 56) d_MD_court_314 lf_MD_49 rfl rfl ?_
            refine aw_iload_n d_MD_court_317 rfl ?_
            refine aw_iconst (v := 2) d_MD_court_318 (by decide) ?_
            refine aw_iast d_MD_court_319 rfl h.1 ?_
            replace h := h.2
            refine aw_mem (fun u15 e => ?_)
            replace h := h _ e
            refine aw_aload_n d_MD_court_320 rfl ?_
            refine aw_getR (t := 62) d_MD_court_321 lf_MD_68 rfl rfl ?_
            refine aw_iload d_MD_court_324 rfl ?_
            refine aw_iconst (v := 1) d_MD_court_326 (by decide) ?_
            refine aw_zast d_MD_court_327 rfl h.1 (Or.inr rfl) ?_
            replace h := h.2
            refine aw_mem (fun u16 e => ?_)
            replace h := h _ e
            exact aw_vret d_MD_court_328 rfl h
        · replace h := h.2 q
          refine aw_iconst (v := 1) d_MD_court_301 (by decide) ?_
          refine aw_goto (tgt := 306) d_MD_court_302 (by decide) ?_
          refine aw_istore d_MD_court_306 (Nat.le_of_ble_eq_true rfl) ?_
          refine aw_iload d_MD_court_308 rfl ?_
          refine aw_if_eq (tgt := 328) d_MD_court_310 (by decide) (fun q => ?_) (fun q => ?_)
          · replace h := h.1 q
            exact aw_vret d_MD_court_328 rfl h
          · replace h := h.2 q
            refine aw_aload_n d_MD_court_313 rfl ?_
            refine aw_getR (t := 56) d_MD_court_314 lf_MD_49 rfl rfl ?_
            refine aw_iload_n d_MD_court_317 rfl ?_
            refine aw_iconst (v := 2) d_MD_court_318 (by decide) ?_
            refine aw_iast d_MD_court_319 rfl h.1 ?_
            replace h := h.2
            refine aw_mem (fun u17 e => ?_)
            replace h := h _ e
            refine aw_aload_n d_MD_court_320 rfl ?_
            refine aw_getR (t := 62) d_MD_court_321 lf_MD_68 rfl rfl ?_
            refine aw_iload d_MD_court_324 rfl ?_
            refine aw_iconst (v := 1) d_MD_court_326 (by decide) ?_
            refine aw_zast d_MD_court_327 rfl h.1 (Or.inr rfl) ?_
            replace h := h.2
            refine aw_mem (fun u18 e => ?_)
            replace h := h _ e
            exact aw_vret d_MD_court_328 rfl h
set_option maxRecDepth 100000 in
theorem vc_MD_otherSeat_0 {G : Gp} {d : Nat} {Q : Int32 → Mem → Prop} {x1 : Int32} {μ : Mem}
    (h : Ct G d M_MD_seat [.inr 42, .inl x1] μ (fun r2 u1 => ∀ y3 : Int32, y3 = (r2 - r2 / (28 : Int32) * (28 : Int32)) → AW G (d + 1) M_MD_otherSeat Q 11 [some (.inr 42), some (.inl x1), some (.inl r2), some (.inl y3)] [] u1)) :
    AW G (d + 1) M_MD_otherSeat Q 0 [some (.inr 42), some (.inl x1), none, none] [] μ := by
  refine aw_aload_n d_MD_otherSeat_0 rfl ?_
  refine aw_iload_n d_MD_otherSeat_1 rfl ?_
  refine aw_callV (as := [.inl x1]) d_MD_otherSeat_2 lm_MD_142 rfl rfl (by decide) rfl (Nat.le_of_ble_eq_true rfl) rfl h (fun r2 u1 h => ?_)
  refine aw_istore_n d_MD_otherSeat_5 (Nat.le_of_ble_eq_true rfl) ?_
  refine aw_iload_n d_MD_otherSeat_6 rfl ?_
  refine aw_bipush (v := 28) d_MD_otherSeat_7 (by decide) ?_
  refine aw_irem d_MD_otherSeat_9 (by decide) ?_
  refine aw_top (fun y3 e => ?_)
  replace h := h _ e
  refine aw_istore_n d_MD_otherSeat_10 (Nat.le_of_ble_eq_true rfl) ?_
  exact h
theorem en_MD_otherSeat {G : Gp} {d : Nat} {Q : Int32 → Mem → Prop} {x1 : Int32} {μ : Mem}
    (h : AW G (d + 1) M_MD_otherSeat Q 0 [some (.inr 42), some (.inl x1), none, none] [] μ) :
    Ct G (d + 1) M_MD_otherSeat [.inr 42, .inl x1] μ Q := ct_of (by decide) (Nat.le_of_ble_eq_true rfl) h
set_option maxRecDepth 100000 in
theorem vc_MD_otherSeat_11 {G : Gp} {d : Nat} {Q : Int32 → Mem → Prop} {x1 x2 x3 : Int32} {μ : Mem}
    (h : ((280 : Int32) ≤ x3 → Q (0 : Int32) μ) ∧ (¬ (280 : Int32) ≤ x3 → (x3 = x2 → AW G (d + 1) M_MD_otherSeat Q 11 [some (.inr 42), some (.inl x1), some (.inl x2), some (.inl (x3 + (28 : Int32)))] [] μ) ∧ (¬ x3 = x2 → vp_in x3 280 ∧ ((μ 61 (ix x3)) = 0 → AW G (d + 1) M_MD_otherSeat Q 11 [some (.inr 42), some (.inl x1), some (.inl x2), some (.inl (x3 + (28 : Int32)))] [] μ) ∧ (¬ (μ 61 (ix x3)) = 0 → vp_in x3 280 ∧ vp_in x1 60 ∧ ((μ 58 (ix x3)) = (μ 44 (ix x1)) → AW G (d + 1) M_MD_otherSeat Q 11 [some (.inr 42), some (.inl x1), some (.inl x2), some (.inl (x3 + (28 : Int32)))] [] μ) ∧ (¬ (μ 58 (ix x3)) = (μ 44 (ix x1)) → Q (1 : Int32) μ))))) :
    AW G (d + 1) M_MD_otherSeat Q 11 [some (.inr 42), some (.inl x1), some (.inl x2), some (.inl x3)] [] μ := by
  refine aw_iload_n d_MD_otherSeat_11 rfl ?_
  refine aw_sipush (v := 280) d_MD_otherSeat_12 (by decide) ?_
  refine aw_icmp_ge (tgt := 55) d_MD_otherSeat_15 (by decide) (fun q => ?_) (fun q => ?_)
  · replace h := h.1 q
    refine aw_iconst (v := 0) d_MD_otherSeat_55 (by decide) ?_
    exact aw_zret d_MD_otherSeat_56 rfl (Or.inl rfl) h
  · replace h := h.2 q
    refine aw_iload_n d_MD_otherSeat_18 rfl ?_
    refine aw_iload_n d_MD_otherSeat_19 rfl ?_
    refine aw_icmp_eq (tgt := 49) d_MD_otherSeat_20 (by decide) (fun q => ?_) (fun q => ?_)
    · replace h := h.1 q
      refine aw_iinc (v := 28) d_MD_otherSeat_49 rfl (by decide) ?_
      refine aw_goto (tgt := 11) d_MD_otherSeat_52 (by decide) ?_
      exact h
    · replace h := h.2 q
      refine aw_aload_n d_MD_otherSeat_23 rfl ?_
      refine aw_getR (t := 61) d_MD_otherSeat_24 lf_MD_65 rfl rfl ?_
      refine aw_iload_n d_MD_otherSeat_27 rfl ?_
      refine aw_zald d_MD_otherSeat_28 rfl h.1 ?_
      replace h := h.2
      refine aw_if_eq (tgt := 49) d_MD_otherSeat_29 (by decide) (fun q => ?_) (fun q => ?_)
      · replace h := h.1 q
        refine aw_iinc (v := 28) d_MD_otherSeat_49 rfl (by decide) ?_
        refine aw_goto (tgt := 11) d_MD_otherSeat_52 (by decide) ?_
        exact h
      · replace h := h.2 q
        refine aw_aload_n d_MD_otherSeat_32 rfl ?_
        refine aw_getR (t := 58) d_MD_otherSeat_33 lf_MD_56 rfl rfl ?_
        refine aw_iload_n d_MD_otherSeat_36 rfl ?_
        refine aw_iald d_MD_otherSeat_37 rfl h.1 ?_
        replace h := h.2
        refine aw_aload_n d_MD_otherSeat_38 rfl ?_
        refine aw_getR (t := 44) d_MD_otherSeat_39 lf_MD_13 rfl rfl ?_
        refine aw_iload_n d_MD_otherSeat_42 rfl ?_
        refine aw_iald d_MD_otherSeat_43 rfl h.1 ?_
        replace h := h.2
        refine aw_icmp_eq (tgt := 49) d_MD_otherSeat_44 (by decide) (fun q => ?_) (fun q => ?_)
        · replace h := h.1 q
          refine aw_iinc (v := 28) d_MD_otherSeat_49 rfl (by decide) ?_
          refine aw_goto (tgt := 11) d_MD_otherSeat_52 (by decide) ?_
          exact h
        · replace h := h.2 q
          refine aw_iconst (v := 1) d_MD_otherSeat_47 (by decide) ?_
          exact aw_zret d_MD_otherSeat_48 rfl (Or.inr rfl) h
set_option maxRecDepth 100000 in
theorem vc_MD_tiedAhead_0 {G : Gp} {d : Nat} {Q : Int32 → Mem → Prop} {x1 x2 : Int32} {μ : Mem}
    (h : ∀ y1 : Int32, y1 = (x2 - (1 : Int32)) → AW G (d + 1) M_MD_tiedAhead Q 4 [some (.inr 42), some (.inl x1), none, some (.inl y1), none] [] μ) :
    AW G (d + 1) M_MD_tiedAhead Q 0 [some (.inr 42), some (.inl x1), some (.inl x2), none, none] [] μ := by
  refine aw_iload_n d_MD_tiedAhead_0 rfl ?_
  refine aw_iconst (v := 1) d_MD_tiedAhead_1 (by decide) ?_
  refine aw_isub d_MD_tiedAhead_2 ?_
  refine aw_top (fun y1 e => ?_)
  replace h := h _ e
  refine aw_istore_n d_MD_tiedAhead_3 (Nat.le_of_ble_eq_true rfl) ?_
  refine aw_drop 2 ?_
  exact h
theorem en_MD_tiedAhead {G : Gp} {d : Nat} {Q : Int32 → Mem → Prop} {x1 x2 : Int32} {μ : Mem}
    (h : AW G (d + 1) M_MD_tiedAhead Q 0 [some (.inr 42), some (.inl x1), some (.inl x2), none, none] [] μ) :
    Ct G (d + 1) M_MD_tiedAhead [.inr 42, .inl x1, .inl x2] μ Q := ct_of (by decide) (Nat.le_of_ble_eq_true rfl) h
set_option maxRecDepth 100000 in
theorem vc_MD_tiedAhead_4 {G : Gp} {d : Nat} {Q : Int32 → Mem → Prop} {x1 x3 : Int32} {μ : Mem}
    (h : (x3 < 0 → Q (0 : Int32) μ) ∧ (¬ x3 < 0 → vp_in x3 60 ∧ vp_in (μ 54 (ix x3)) 60 ∧ vp_in x1 60 ∧ (¬ (μ 45 (ix (μ 54 (ix x3)))) = (μ 45 (ix x1)) → Q (0 : Int32) μ) ∧ ((μ 45 (ix (μ 54 (ix x3)))) = (μ 45 (ix x1)) → vp_in x3 60 ∧ ∀ y1 : Int32, y1 = (μ 54 (ix x3)) → Ct G d M_MD_seat [.inr 42, .inl y1] μ (fun r3 u2 => Ct G d M_MD_seat [.inr 42, .inl x1] u2 (fun r5 u4 => (¬ r3 = r5 → AW G (d + 1) M_MD_tiedAhead Q 4 [some (.inr 42), some (.inl x1), none, some (.inl (x3 + (-1 : Int32))), none] [] u4) ∧ (r3 = r5 → vp_in y1 60 ∧ ((u4 55 (ix y1)) < 0 → AW G (d + 1) M_MD_tiedAhead Q 4 [some (.inr 42), some (.inl x1), none, some (.inl (x3 + (-1 : Int32))), none] [] u4) ∧ (¬ (u4 55 (ix y1)) < 0 → vp_in y1 60 ∧ vp_in (u4 55 (ix y1)) 60 ∧ vp_in y1 60 ∧ ((u4 45 (ix y1)) ≤ (u4 45 (ix (u4 55 (ix y1)))) → AW G (d + 1) M_MD_tiedAhead Q 4 [some (.inr 42), some (.inl x1), none, some (.inl (x3 + (-1 : Int32))), none] [] u4) ∧ (¬ (u4 45 (ix y1)) ≤ (u4 45 (ix (u4 55 (ix y1)))) → vp_in y1 60 ∧ vp_in x1 60 ∧ ((u4 44 (ix y1)) = (u4 44 (ix x1)) → AW G (d + 1) M_MD_tiedAhead Q 4 [some (.inr 42), some (.inl x1), none, some (.inl (x3 + (-1 : Int32))), none] [] u4) ∧ (¬ (u4 44 (ix y1)) = (u4 44 (ix x1)) → Q (1 : Int32) u4))))))))) :
    AW G (d + 1) M_MD_tiedAhead Q 4 [some (.inr 42), some (.inl x1), none, some (.inl x3), none] [] μ := by
  refine aw_iload_n d_MD_tiedAhead_4 rfl ?_
  refine aw_if_lt (tgt := 106) d_MD_tiedAhead_5 (by decide) (fun q => ?_) (fun q => ?_)
  · replace h := h.1 q
    refine aw_iconst (v := 0) d_MD_tiedAhead_106 (by decide) ?_
    exact aw_zret d_MD_tiedAhead_107 rfl (Or.inl rfl) h
  · replace h := h.2 q
    refine aw_aload_n d_MD_tiedAhead_8 rfl ?_
    refine aw_getR (t := 45) d_MD_tiedAhead_9 lf_MD_16 rfl rfl ?_
    refine aw_aload_n d_MD_tiedAhead_12 rfl ?_
    refine aw_getR (t := 54) d_MD_tiedAhead_13 lf_MD_43 rfl rfl ?_
    refine aw_iload_n d_MD_tiedAhead_16 rfl ?_
    refine aw_iald d_MD_tiedAhead_17 rfl h.1 ?_
    replace h := h.2
    refine aw_iald d_MD_tiedAhead_18 rfl h.1 ?_
    replace h := h.2
    refine aw_aload_n d_MD_tiedAhead_19 rfl ?_
    refine aw_getR (t := 45) d_MD_tiedAhead_20 lf_MD_16 rfl rfl ?_
    refine aw_iload_n d_MD_tiedAhead_23 rfl ?_
    refine aw_iald d_MD_tiedAhead_24 rfl h.1 ?_
    replace h := h.2
    refine aw_icmp_ne (tgt := 106) d_MD_tiedAhead_25 (by decide) (fun q => ?_) (fun q => ?_)
    · replace h := h.1 q
      refine aw_iconst (v := 0) d_MD_tiedAhead_106 (by decide) ?_
      exact aw_zret d_MD_tiedAhead_107 rfl (Or.inl rfl) h
    · replace h := h.2 q
      refine aw_aload_n d_MD_tiedAhead_28 rfl ?_
      refine aw_getR (t := 54) d_MD_tiedAhead_29 lf_MD_43 rfl rfl ?_
      refine aw_iload_n d_MD_tiedAhead_32 rfl ?_
      refine aw_iald d_MD_tiedAhead_33 rfl h.1 ?_
      replace h := h.2
      refine aw_top (fun y1 e => ?_)
      replace h := h _ e
      refine aw_istore d_MD_tiedAhead_34 (Nat.le_of_ble_eq_true rfl) ?_
      refine aw_aload_n d_MD_tiedAhead_36 rfl ?_
      refine aw_iload d_MD_tiedAhead_37 rfl ?_
      refine aw_callV (as := [.inl y1]) d_MD_tiedAhead_39 lm_MD_142 rfl rfl (by decide) rfl (Nat.le_of_ble_eq_true rfl) rfl h (fun r3 u2 h => ?_)
      refine aw_aload_n d_MD_tiedAhead_42 rfl ?_
      refine aw_iload_n d_MD_tiedAhead_43 rfl ?_
      refine aw_callV (as := [.inl x1]) d_MD_tiedAhead_44 lm_MD_142 rfl rfl (by decide) rfl (Nat.le_of_ble_eq_true rfl) rfl h (fun r5 u4 h => ?_)
      refine aw_icmp_ne (tgt := 100) d_MD_tiedAhead_47 (by decide) (fun q => ?_) (fun q => ?_)
      · replace h := h.1 q
        refine aw_iinc (v := (-1)) d_MD_tiedAhead_100 rfl (by decide) ?_
        refine aw_goto (tgt := 4) d_MD_tiedAhead_103 (by decide) ?_
        refine aw_drop 4 ?_
        exact h
      · replace h := h.2 q
        refine aw_aload_n d_MD_tiedAhead_50 rfl ?_
        refine aw_getR (t := 55) d_MD_tiedAhead_51 lf_MD_46 rfl rfl ?_
        refine aw_iload d_MD_tiedAhead_54 rfl ?_
        refine aw_iald d_MD_tiedAhead_56 rfl h.1 ?_
        replace h := h.2
        refine aw_if_lt (tgt := 100) d_MD_tiedAhead_57 (by decide) (fun q => ?_) (fun q => ?_)
        · replace h := h.1 q
          refine aw_iinc (v := (-1)) d_MD_tiedAhead_100 rfl (by decide) ?_
          refine aw_goto (tgt := 4) d_MD_tiedAhead_103 (by decide) ?_
          refine aw_drop 4 ?_
          exact h
        · replace h := h.2 q
          refine aw_aload_n d_MD_tiedAhead_60 rfl ?_
          refine aw_getR (t := 45) d_MD_tiedAhead_61 lf_MD_16 rfl rfl ?_
          refine aw_aload_n d_MD_tiedAhead_64 rfl ?_
          refine aw_getR (t := 55) d_MD_tiedAhead_65 lf_MD_46 rfl rfl ?_
          refine aw_iload d_MD_tiedAhead_68 rfl ?_
          refine aw_iald d_MD_tiedAhead_70 rfl h.1 ?_
          replace h := h.2
          refine aw_iald d_MD_tiedAhead_71 rfl h.1 ?_
          replace h := h.2
          refine aw_aload_n d_MD_tiedAhead_72 rfl ?_
          refine aw_getR (t := 45) d_MD_tiedAhead_73 lf_MD_16 rfl rfl ?_
          refine aw_iload d_MD_tiedAhead_76 rfl ?_
          refine aw_iald d_MD_tiedAhead_78 rfl h.1 ?_
          replace h := h.2
          refine aw_icmp_ge (tgt := 100) d_MD_tiedAhead_79 (by decide) (fun q => ?_) (fun q => ?_)
          · replace h := h.1 q
            refine aw_iinc (v := (-1)) d_MD_tiedAhead_100 rfl (by decide) ?_
            refine aw_goto (tgt := 4) d_MD_tiedAhead_103 (by decide) ?_
            refine aw_drop 4 ?_
            exact h
          · replace h := h.2 q
            refine aw_aload_n d_MD_tiedAhead_82 rfl ?_
            refine aw_getR (t := 44) d_MD_tiedAhead_83 lf_MD_13 rfl rfl ?_
            refine aw_iload d_MD_tiedAhead_86 rfl ?_
            refine aw_iald d_MD_tiedAhead_88 rfl h.1 ?_
            replace h := h.2
            refine aw_aload_n d_MD_tiedAhead_89 rfl ?_
            refine aw_getR (t := 44) d_MD_tiedAhead_90 lf_MD_13 rfl rfl ?_
            refine aw_iload_n d_MD_tiedAhead_93 rfl ?_
            refine aw_iald d_MD_tiedAhead_94 rfl h.1 ?_
            replace h := h.2
            refine aw_icmp_eq (tgt := 100) d_MD_tiedAhead_95 (by decide) (fun q => ?_) (fun q => ?_)
            · replace h := h.1 q
              refine aw_iinc (v := (-1)) d_MD_tiedAhead_100 rfl (by decide) ?_
              refine aw_goto (tgt := 4) d_MD_tiedAhead_103 (by decide) ?_
              refine aw_drop 4 ?_
              exact h
            · replace h := h.2 q
              refine aw_iconst (v := 1) d_MD_tiedAhead_98 (by decide) ?_
              exact aw_zret d_MD_tiedAhead_99 rfl (Or.inr rfl) h
set_option maxRecDepth 100000 in
theorem vc_MD_placeOf_0 {G : Gp} {d : Nat} {Q : Int32 → Mem → Prop} {x1 : Int32} {μ : Mem}
    (h : vp_in x1 60 ∧ Ct G d M_MD_clefOf [.inr 42, .inl (μ 45 (ix x1))] μ (fun r2 u1 => vp_in x1 60 ∧ (¬ r2 = 0 → (¬ r2 = (1 : Int32) → Q ((u1 43 (ix x1)) - (24 : Int32)) u1) ∧ (r2 = (1 : Int32) → Q ((u1 43 (ix x1)) - (18 : Int32)) u1)) ∧ (r2 = 0 → Q ((u1 43 (ix x1)) - (30 : Int32)) u1))) :
    AW G (d + 1) M_MD_placeOf Q 0 [some (.inr 42), some (.inl x1), none] [] μ := by
  refine aw_aload_n d_MD_placeOf_0 rfl ?_
  refine aw_aload_n d_MD_placeOf_1 rfl ?_
  refine aw_getR (t := 45) d_MD_placeOf_2 lf_MD_16 rfl rfl ?_
  refine aw_iload_n d_MD_placeOf_5 rfl ?_
  refine aw_iald d_MD_placeOf_6 rfl h.1 ?_
  replace h := h.2
  refine aw_callV (as := [.inl (μ 45 (ix x1))]) d_MD_placeOf_7 lm_MD_118 rfl rfl (by decide) rfl (Nat.le_of_ble_eq_true rfl) rfl h (fun r2 u1 h => ?_)
  refine aw_istore_n d_MD_placeOf_10 (Nat.le_of_ble_eq_true rfl) ?_
  refine aw_aload_n d_MD_placeOf_11 rfl ?_
  refine aw_getR (t := 43) d_MD_placeOf_12 lf_MD_7 rfl rfl ?_
  refine aw_iload_n d_MD_placeOf_15 rfl ?_
  refine aw_iald d_MD_placeOf_16 rfl h.1 ?_
  replace h := h.2
  refine aw_iload_n d_MD_placeOf_17 rfl ?_
  refine aw_if_ne (tgt := 26) d_MD_placeOf_18 (by decide) (fun q => ?_) (fun q => ?_)
  · replace h := h.1 q
    refine aw_iload_n d_MD_placeOf_26 rfl ?_
    refine aw_iconst (v := 1) d_MD_placeOf_27 (by decide) ?_
    refine aw_icmp_ne (tgt := 36) d_MD_placeOf_28 (by decide) (fun q => ?_) (fun q => ?_)
    · replace h := h.1 q
      refine aw_bipush (v := 24) d_MD_placeOf_36 (by decide) ?_
      refine aw_isub d_MD_placeOf_38 ?_
      exact aw_iret d_MD_placeOf_39 rfl h
    · replace h := h.2 q
      refine aw_bipush (v := 18) d_MD_placeOf_31 (by decide) ?_
      refine aw_goto (tgt := 38) d_MD_placeOf_33 (by decide) ?_
      refine aw_isub d_MD_placeOf_38 ?_
      exact aw_iret d_MD_placeOf_39 rfl h
  · replace h := h.2 q
    refine aw_bipush (v := 30) d_MD_placeOf_21 (by decide) ?_
    refine aw_goto (tgt := 38) d_MD_placeOf_23 (by decide) ?_
    refine aw_isub d_MD_placeOf_38 ?_
    exact aw_iret d_MD_placeOf_39 rfl h
theorem en_MD_placeOf {G : Gp} {d : Nat} {Q : Int32 → Mem → Prop} {x1 : Int32} {μ : Mem}
    (h : AW G (d + 1) M_MD_placeOf Q 0 [some (.inr 42), some (.inl x1), none] [] μ) :
    Ct G (d + 1) M_MD_placeOf [.inr 42, .inl x1] μ Q := ct_of (by decide) (Nat.le_of_ble_eq_true rfl) h
set_option maxRecDepth 100000 in
theorem vc_MD_width_0 {G : Gp} {d : Nat} {Q : Int32 → Mem → Prop} {x1 : Int32} {μ : Mem}
    (h : vp_in x1 60 ∧ ∀ y1 : Int32, y1 = (μ 44 (ix x1)) → (¬ y1 = (-4 : Int32) → (¬ y1 = (-3 : Int32) → (0 ≤ y1 → (¬ y1 = 0 → (¬ y1 = (1 : Int32) → (¬ y1 = (3 : Int32) → AW G d M_MD_width Q 69 [some (.inr 42), some (.inl x1), none, none] [.inl (10 : Int32)] μ) ∧ (y1 = (3 : Int32) → AW G d M_MD_width Q 69 [some (.inr 42), some (.inl x1), none, none] [.inl (14 : Int32)] μ)) ∧ (y1 = (1 : Int32) → AW G d M_MD_width Q 69 [some (.inr 42), some (.inl x1), none, none] [.inl (8 : Int32)] μ)) ∧ (y1 = 0 → AW G d M_MD_width Q 69 [some (.inr 42), some (.inl x1), none, none] [.inl (7 : Int32)] μ)) ∧ (¬ 0 ≤ y1 → AW G d M_MD_width Q 69 [some (.inr 42), some (.inl x1), none, none] [.inl (9 : Int32)] μ)) ∧ (y1 = (-3 : Int32) → AW G d M_MD_width Q 69 [some (.inr 42), some (.inl x1), none, none] [.inl (12 : Int32)] μ)) ∧ (y1 = (-4 : Int32) → AW G d M_MD_width Q 69 [some (.inr 42), some (.inl x1), none, none] [.inl (16 : Int32)] μ)) :
    AW G d M_MD_width Q 0 [some (.inr 42), some (.inl x1), none, none] [] μ := by
  refine aw_aload_n d_MD_width_0 rfl ?_
  refine aw_getR (t := 44) d_MD_width_1 lf_MD_13 rfl rfl ?_
  refine aw_iload_n d_MD_width_4 rfl ?_
  refine aw_iald d_MD_width_5 rfl h.1 ?_
  replace h := h.2
  refine aw_top (fun y1 e => ?_)
  replace h := h _ e
  refine aw_istore_n d_MD_width_6 (Nat.le_of_ble_eq_true rfl) ?_
  refine aw_iload_n d_MD_width_7 rfl ?_
  refine aw_bipush (v := (-4)) d_MD_width_8 (by decide) ?_
  refine aw_icmp_ne (tgt := 18) d_MD_width_10 (by decide) (fun q => ?_) (fun q => ?_)
  · replace h := h.1 q
    refine aw_iload_n d_MD_width_18 rfl ?_
    refine aw_bipush (v := (-3)) d_MD_width_19 (by decide) ?_
    refine aw_icmp_ne (tgt := 29) d_MD_width_21 (by decide) (fun q => ?_) (fun q => ?_)
    · replace h := h.1 q
      refine aw_iload_n d_MD_width_29 rfl ?_
      refine aw_if_ge (tgt := 38) d_MD_width_30 (by decide) (fun q => ?_) (fun q => ?_)
      · replace h := h.1 q
        refine aw_iload_n d_MD_width_38 rfl ?_
        refine aw_if_ne (tgt := 47) d_MD_width_39 (by decide) (fun q => ?_) (fun q => ?_)
        · replace h := h.1 q
          refine aw_iload_n d_MD_width_47 rfl ?_
          refine aw_iconst (v := 1) d_MD_width_48 (by decide) ?_
          refine aw_icmp_ne (tgt := 57) d_MD_width_49 (by decide) (fun q => ?_) (fun q => ?_)
          · replace h := h.1 q
            refine aw_iload_n d_MD_width_57 rfl ?_
            refine aw_iconst (v := 3) d_MD_width_58 (by decide) ?_
            refine aw_icmp_ne (tgt := 67) d_MD_width_59 (by decide) (fun q => ?_) (fun q => ?_)
            · replace h := h.1 q
              refine aw_bipush (v := 10) d_MD_width_67 (by decide) ?_
              refine aw_drop 2 ?_
              exact h
            · replace h := h.2 q
              refine aw_bipush (v := 14) d_MD_width_62 (by decide) ?_
              refine aw_goto (tgt := 69) d_MD_width_64 (by decide) ?_
              refine aw_drop 2 ?_
              exact h
          · replace h := h.2 q
            refine aw_bipush (v := 8) d_MD_width_52 (by decide) ?_
            refine aw_goto (tgt := 69) d_MD_width_54 (by decide) ?_
            refine aw_drop 2 ?_
            exact h
        · replace h := h.2 q
          refine aw_bipush (v := 7) d_MD_width_42 (by decide) ?_
          refine aw_goto (tgt := 69) d_MD_width_44 (by decide) ?_
          refine aw_drop 2 ?_
          exact h
      · replace h := h.2 q
        refine aw_bipush (v := 9) d_MD_width_33 (by decide) ?_
        refine aw_goto (tgt := 69) d_MD_width_35 (by decide) ?_
        refine aw_drop 2 ?_
        exact h
    · replace h := h.2 q
      refine aw_bipush (v := 12) d_MD_width_24 (by decide) ?_
      refine aw_goto (tgt := 69) d_MD_width_26 (by decide) ?_
      refine aw_drop 2 ?_
      exact h
  · replace h := h.2 q
    refine aw_bipush (v := 16) d_MD_width_13 (by decide) ?_
    refine aw_goto (tgt := 69) d_MD_width_15 (by decide) ?_
    refine aw_drop 2 ?_
    exact h
theorem en_MD_width {G : Gp} {d : Nat} {Q : Int32 → Mem → Prop} {x1 : Int32} {μ : Mem}
    (h : AW G d M_MD_width Q 0 [some (.inr 42), some (.inl x1), none, none] [] μ) :
    Ct G d M_MD_width [.inr 42, .inl x1] μ Q := ct_of (by decide) (Nat.le_of_ble_eq_true rfl) h
set_option maxRecDepth 100000 in
theorem vc_MD_width_69 {G : Gp} {d : Nat} {Q : Int32 → Mem → Prop} {x1 s0 : Int32} {μ : Mem}
    (h : vp_in x1 60 ∧ (¬ (μ 56 (ix x1)) = (2 : Int32) → vp_in x1 60 ∧ ((μ 57 (ix x1)) = 0 → ∀ y1 : Int32, y1 = (s0 + ((0 : Int32) + (0 : Int32))) → vp_in x1 60 ∧ (¬ (μ 49 (ix x1)) = (1 : Int32) → Q y1 μ) ∧ ((μ 49 (ix x1)) = (1 : Int32) → Q ((((2 : Int32) * y1) + (2 : Int32)) / (3 : Int32)) μ)) ∧ (¬ (μ 57 (ix x1)) = 0 → ∀ y2 : Int32, y2 = (s0 + ((0 : Int32) + (7 : Int32))) → vp_in x1 60 ∧ (¬ (μ 49 (ix x1)) = (1 : Int32) → Q y2 μ) ∧ ((μ 49 (ix x1)) = (1 : Int32) → Q ((((2 : Int32) * y2) + (2 : Int32)) / (3 : Int32)) μ))) ∧ ((μ 56 (ix x1)) = (2 : Int32) → vp_in x1 60 ∧ ((μ 57 (ix x1)) = 0 → ∀ y3 : Int32, y3 = (s0 + ((8 : Int32) + (0 : Int32))) → vp_in x1 60 ∧ (¬ (μ 49 (ix x1)) = (1 : Int32) → Q y3 μ) ∧ ((μ 49 (ix x1)) = (1 : Int32) → Q ((((2 : Int32) * y3) + (2 : Int32)) / (3 : Int32)) μ)) ∧ (¬ (μ 57 (ix x1)) = 0 → ∀ y4 : Int32, y4 = (s0 + ((8 : Int32) + (7 : Int32))) → vp_in x1 60 ∧ (¬ (μ 49 (ix x1)) = (1 : Int32) → Q y4 μ) ∧ ((μ 49 (ix x1)) = (1 : Int32) → Q ((((2 : Int32) * y4) + (2 : Int32)) / (3 : Int32)) μ)))) :
    AW G d M_MD_width Q 69 [some (.inr 42), some (.inl x1), none, none] [.inl s0] μ := by
  refine aw_istore_n d_MD_width_69 (Nat.le_of_ble_eq_true rfl) ?_
  refine aw_iload_n d_MD_width_70 rfl ?_
  refine aw_aload_n d_MD_width_71 rfl ?_
  refine aw_getR (t := 56) d_MD_width_72 lf_MD_49 rfl rfl ?_
  refine aw_iload_n d_MD_width_75 rfl ?_
  refine aw_iald d_MD_width_76 rfl h.1 ?_
  replace h := h.2
  refine aw_iconst (v := 2) d_MD_width_77 (by decide) ?_
  refine aw_icmp_ne (tgt := 86) d_MD_width_78 (by decide) (fun q => ?_) (fun q => ?_)
  · replace h := h.1 q
    refine aw_iconst (v := 0) d_MD_width_86 (by decide) ?_
    refine aw_aload_n d_MD_width_87 rfl ?_
    refine aw_getR (t := 57) d_MD_width_88 lf_MD_52 rfl rfl ?_
    refine aw_iload_n d_MD_width_91 rfl ?_
    refine aw_zald d_MD_width_92 rfl h.1 ?_
    replace h := h.2
    refine aw_if_eq (tgt := 101) d_MD_width_93 (by decide) (fun q => ?_) (fun q => ?_)
    · replace h := h.1 q
      refine aw_iconst (v := 0) d_MD_width_101 (by decide) ?_
      refine aw_iadd d_MD_width_102 ?_
      refine aw_iadd d_MD_width_103 ?_
      refine aw_top (fun y1 e => ?_)
      replace h := h _ e
      refine aw_istore_n d_MD_width_104 (Nat.le_of_ble_eq_true rfl) ?_
      refine aw_aload_n d_MD_width_105 rfl ?_
      refine aw_getR (t := 49) d_MD_width_106 lf_MD_28 rfl rfl ?_
      refine aw_iload_n d_MD_width_109 rfl ?_
      refine aw_iald d_MD_width_110 rfl h.1 ?_
      replace h := h.2
      refine aw_iconst (v := 1) d_MD_width_111 (by decide) ?_
      refine aw_icmp_ne (tgt := 125) d_MD_width_112 (by decide) (fun q => ?_) (fun q => ?_)
      · replace h := h.1 q
        refine aw_iload_n d_MD_width_125 rfl ?_
        exact aw_iret d_MD_width_126 rfl h
      · replace h := h.2 q
        refine aw_iconst (v := 2) d_MD_width_115 (by decide) ?_
        refine aw_iload_n d_MD_width_116 rfl ?_
        refine aw_imul d_MD_width_117 ?_
        refine aw_iconst (v := 2) d_MD_width_118 (by decide) ?_
        refine aw_iadd d_MD_width_119 ?_
        refine aw_iconst (v := 3) d_MD_width_120 (by decide) ?_
        refine aw_idiv d_MD_width_121 (by decide) ?_
        refine aw_goto (tgt := 126) d_MD_width_122 (by decide) ?_
        exact aw_iret d_MD_width_126 rfl h
    · replace h := h.2 q
      refine aw_bipush (v := 7) d_MD_width_96 (by decide) ?_
      refine aw_goto (tgt := 102) d_MD_width_98 (by decide) ?_
      refine aw_iadd d_MD_width_102 ?_
      refine aw_iadd d_MD_width_103 ?_
      refine aw_top (fun y2 e => ?_)
      replace h := h _ e
      refine aw_istore_n d_MD_width_104 (Nat.le_of_ble_eq_true rfl) ?_
      refine aw_aload_n d_MD_width_105 rfl ?_
      refine aw_getR (t := 49) d_MD_width_106 lf_MD_28 rfl rfl ?_
      refine aw_iload_n d_MD_width_109 rfl ?_
      refine aw_iald d_MD_width_110 rfl h.1 ?_
      replace h := h.2
      refine aw_iconst (v := 1) d_MD_width_111 (by decide) ?_
      refine aw_icmp_ne (tgt := 125) d_MD_width_112 (by decide) (fun q => ?_) (fun q => ?_)
      · replace h := h.1 q
        refine aw_iload_n d_MD_width_125 rfl ?_
        exact aw_iret d_MD_width_126 rfl h
      · replace h := h.2 q
        refine aw_iconst (v := 2) d_MD_width_115 (by decide) ?_
        refine aw_iload_n d_MD_width_116 rfl ?_
        refine aw_imul d_MD_width_117 ?_
        refine aw_iconst (v := 2) d_MD_width_118 (by decide) ?_
        refine aw_iadd d_MD_width_119 ?_
        refine aw_iconst (v := 3) d_MD_width_120 (by decide) ?_
        refine aw_idiv d_MD_width_121 (by decide) ?_
        refine aw_goto (tgt := 126) d_MD_width_122 (by decide) ?_
        exact aw_iret d_MD_width_126 rfl h
  · replace h := h.2 q
    refine aw_bipush (v := 8) d_MD_width_81 (by decide) ?_
    refine aw_goto (tgt := 87) d_MD_width_83 (by decide) ?_
    refine aw_aload_n d_MD_width_87 rfl ?_
    refine aw_getR (t := 57) d_MD_width_88 lf_MD_52 rfl rfl ?_
    refine aw_iload_n d_MD_width_91 rfl ?_
    refine aw_zald d_MD_width_92 rfl h.1 ?_
    replace h := h.2
    refine aw_if_eq (tgt := 101) d_MD_width_93 (by decide) (fun q => ?_) (fun q => ?_)
    · replace h := h.1 q
      refine aw_iconst (v := 0) d_MD_width_101 (by decide) ?_
      refine aw_iadd d_MD_width_102 ?_
      refine aw_iadd d_MD_width_103 ?_
      refine aw_top (fun y3 e => ?_)
      replace h := h _ e
      refine aw_istore_n d_MD_width_104 (Nat.le_of_ble_eq_true rfl) ?_
      refine aw_aload_n d_MD_width_105 rfl ?_
      refine aw_getR (t := 49) d_MD_width_106 lf_MD_28 rfl rfl ?_
      refine aw_iload_n d_MD_width_109 rfl ?_
      refine aw_iald d_MD_width_110 rfl h.1 ?_
      replace h := h.2
      refine aw_iconst (v := 1) d_MD_width_111 (by decide) ?_
      refine aw_icmp_ne (tgt := 125) d_MD_width_112 (by decide) (fun q => ?_) (fun q => ?_)
      · replace h := h.1 q
        refine aw_iload_n d_MD_width_125 rfl ?_
        exact aw_iret d_MD_width_126 rfl h
      · replace h := h.2 q
        refine aw_iconst (v := 2) d_MD_width_115 (by decide) ?_
        refine aw_iload_n d_MD_width_116 rfl ?_
        refine aw_imul d_MD_width_117 ?_
        refine aw_iconst (v := 2) d_MD_width_118 (by decide) ?_
        refine aw_iadd d_MD_width_119 ?_
        refine aw_iconst (v := 3) d_MD_width_120 (by decide) ?_
        refine aw_idiv d_MD_width_121 (by decide) ?_
        refine aw_goto (tgt := 126) d_MD_width_122 (by decide) ?_
        exact aw_iret d_MD_width_126 rfl h
    · replace h := h.2 q
      refine aw_bipush (v := 7) d_MD_width_96 (by decide) ?_
      refine aw_goto (tgt := 102) d_MD_width_98 (by decide) ?_
      refine aw_iadd d_MD_width_102 ?_
      refine aw_iadd d_MD_width_103 ?_
      refine aw_top (fun y4 e => ?_)
      replace h := h _ e
      refine aw_istore_n d_MD_width_104 (Nat.le_of_ble_eq_true rfl) ?_
      refine aw_aload_n d_MD_width_105 rfl ?_
      refine aw_getR (t := 49) d_MD_width_106 lf_MD_28 rfl rfl ?_
      refine aw_iload_n d_MD_width_109 rfl ?_
      refine aw_iald d_MD_width_110 rfl h.1 ?_
      replace h := h.2
      refine aw_iconst (v := 1) d_MD_width_111 (by decide) ?_
      refine aw_icmp_ne (tgt := 125) d_MD_width_112 (by decide) (fun q => ?_) (fun q => ?_)
      · replace h := h.1 q
        refine aw_iload_n d_MD_width_125 rfl ?_
        exact aw_iret d_MD_width_126 rfl h
      · replace h := h.2 q
        refine aw_iconst (v := 2) d_MD_width_115 (by decide) ?_
        refine aw_iload_n d_MD_width_116 rfl ?_
        refine aw_imul d_MD_width_117 ?_
        refine aw_iconst (v := 2) d_MD_width_118 (by decide) ?_
        refine aw_iadd d_MD_width_119 ?_
        refine aw_iconst (v := 3) d_MD_width_120 (by decide) ?_
        refine aw_idiv d_MD_width_121 (by decide) ?_
        refine aw_goto (tgt := 126) d_MD_width_122 (by decide) ?_
        exact aw_iret d_MD_width_126 rfl h
set_option maxRecDepth 100000 in
theorem vc_MD_reach_0 {G : Gp} {d : Nat} {Q : Int32 → Mem → Prop} {x1 x2 : Int32} {μ : Mem}
    (h : vp_in x1 60 ∧ (0 ≤ (μ 44 (ix x1)) → vp_in x1 60 ∧ (¬ (μ 44 (ix x1)) = (4 : Int32) → vp_in x1 60 ∧ (¬ (μ 56 (ix x1)) = (2 : Int32) → Q (3 : Int32) μ) ∧ ((μ 56 (ix x1)) = (2 : Int32) → ((2 : Int32) ≤ (3 : Int32) → Q (3 : Int32) μ) ∧ (¬ (2 : Int32) ≤ (3 : Int32) → Q (2 : Int32) μ))) ∧ ((μ 44 (ix x1)) = (4 : Int32) → vp_in x1 60 ∧ (¬ (μ 56 (ix x1)) = (2 : Int32) → Q (1 : Int32) μ) ∧ ((μ 56 (ix x1)) = (2 : Int32) → ((2 : Int32) ≤ (1 : Int32) → Q (1 : Int32) μ) ∧ (¬ (2 : Int32) ≤ (1 : Int32) → Q (2 : Int32) μ)))) ∧ (¬ 0 ≤ (μ 44 (ix x1)) → (x2 = 0 → vp_in x1 60 ∧ (¬ (μ 56 (ix x1)) = (2 : Int32) → Q (2 : Int32) μ) ∧ ((μ 56 (ix x1)) = (2 : Int32) → ((2 : Int32) ≤ (2 : Int32) → Q (2 : Int32) μ) ∧ (¬ (2 : Int32) ≤ (2 : Int32) → Q (2 : Int32) μ))) ∧ (¬ x2 = 0 → vp_in x1 60 ∧ (¬ (μ 56 (ix x1)) = (2 : Int32) → Q (4 : Int32) μ) ∧ ((μ 56 (ix x1)) = (2 : Int32) → ((2 : Int32) ≤ (4 : Int32) → Q (4 : Int32) μ) ∧ (¬ (2 : Int32) ≤ (4 : Int32) → Q (2 : Int32) μ))))) :
    AW G d M_MD_reach Q 0 [some (.inr 42), some (.inl x1), some (.inl x2), none] [] μ := by
  refine aw_aload_n d_MD_reach_0 rfl ?_
  refine aw_getR (t := 44) d_MD_reach_1 lf_MD_13 rfl rfl ?_
  refine aw_iload_n d_MD_reach_4 rfl ?_
  refine aw_iald d_MD_reach_5 rfl h.1 ?_
  replace h := h.2
  refine aw_if_ge (tgt := 21) d_MD_reach_6 (by decide) (fun q => ?_) (fun q => ?_)
  · replace h := h.1 q
    refine aw_aload_n d_MD_reach_21 rfl ?_
    refine aw_getR (t := 44) d_MD_reach_22 lf_MD_13 rfl rfl ?_
    refine aw_iload_n d_MD_reach_25 rfl ?_
    refine aw_iald d_MD_reach_26 rfl h.1 ?_
    replace h := h.2
    refine aw_iconst (v := 4) d_MD_reach_27 (by decide) ?_
    refine aw_icmp_ne (tgt := 35) d_MD_reach_28 (by decide) (fun q => ?_) (fun q => ?_)
    · replace h := h.1 q
      refine aw_iconst (v := 3) d_MD_reach_35 (by decide) ?_
      refine aw_istore_n d_MD_reach_36 (Nat.le_of_ble_eq_true rfl) ?_
      refine aw_aload_n d_MD_reach_37 rfl ?_
      refine aw_getR (t := 56) d_MD_reach_38 lf_MD_49 rfl rfl ?_
      refine aw_iload_n d_MD_reach_41 rfl ?_
      refine aw_iald d_MD_reach_42 rfl h.1 ?_
      replace h := h.2
      refine aw_iconst (v := 2) d_MD_reach_43 (by decide) ?_
      refine aw_icmp_ne (tgt := 56) d_MD_reach_44 (by decide) (fun q => ?_) (fun q => ?_)
      · replace h := h.1 q
        refine aw_iload_n d_MD_reach_56 rfl ?_
        exact aw_iret d_MD_reach_57 rfl h
      · replace h := h.2 q
        refine aw_iload_n d_MD_reach_47 rfl ?_
        refine aw_iconst (v := 2) d_MD_reach_48 (by decide) ?_
        refine aw_icmp_ge (tgt := 56) d_MD_reach_49 (by decide) (fun q => ?_) (fun q => ?_)
        · replace h := h.1 q
          refine aw_iload_n d_MD_reach_56 rfl ?_
          exact aw_iret d_MD_reach_57 rfl h
        · replace h := h.2 q
          refine aw_iconst (v := 2) d_MD_reach_52 (by decide) ?_
          refine aw_goto (tgt := 57) d_MD_reach_53 (by decide) ?_
          exact aw_iret d_MD_reach_57 rfl h
    · replace h := h.2 q
      refine aw_iconst (v := 1) d_MD_reach_31 (by decide) ?_
      refine aw_goto (tgt := 36) d_MD_reach_32 (by decide) ?_
      refine aw_istore_n d_MD_reach_36 (Nat.le_of_ble_eq_true rfl) ?_
      refine aw_aload_n d_MD_reach_37 rfl ?_
      refine aw_getR (t := 56) d_MD_reach_38 lf_MD_49 rfl rfl ?_
      refine aw_iload_n d_MD_reach_41 rfl ?_
      refine aw_iald d_MD_reach_42 rfl h.1 ?_
      replace h := h.2
      refine aw_iconst (v := 2) d_MD_reach_43 (by decide) ?_
      refine aw_icmp_ne (tgt := 56) d_MD_reach_44 (by decide) (fun q => ?_) (fun q => ?_)
      · replace h := h.1 q
        refine aw_iload_n d_MD_reach_56 rfl ?_
        exact aw_iret d_MD_reach_57 rfl h
      · replace h := h.2 q
        refine aw_iload_n d_MD_reach_47 rfl ?_
        refine aw_iconst (v := 2) d_MD_reach_48 (by decide) ?_
        refine aw_icmp_ge (tgt := 56) d_MD_reach_49 (by decide) (fun q => ?_) (fun q => ?_)
        · replace h := h.1 q
          refine aw_iload_n d_MD_reach_56 rfl ?_
          exact aw_iret d_MD_reach_57 rfl h
        · replace h := h.2 q
          refine aw_iconst (v := 2) d_MD_reach_52 (by decide) ?_
          refine aw_goto (tgt := 57) d_MD_reach_53 (by decide) ?_
          exact aw_iret d_MD_reach_57 rfl h
  · replace h := h.2 q
    refine aw_iload_n d_MD_reach_9 rfl ?_
    refine aw_if_eq (tgt := 17) d_MD_reach_10 (by decide) (fun q => ?_) (fun q => ?_)
    · replace h := h.1 q
      refine aw_iconst (v := 2) d_MD_reach_17 (by decide) ?_
      refine aw_goto (tgt := 36) d_MD_reach_18 (by decide) ?_
      refine aw_istore_n d_MD_reach_36 (Nat.le_of_ble_eq_true rfl) ?_
      refine aw_aload_n d_MD_reach_37 rfl ?_
      refine aw_getR (t := 56) d_MD_reach_38 lf_MD_49 rfl rfl ?_
      refine aw_iload_n d_MD_reach_41 rfl ?_
      refine aw_iald d_MD_reach_42 rfl h.1 ?_
      replace h := h.2
      refine aw_iconst (v := 2) d_MD_reach_43 (by decide) ?_
      refine aw_icmp_ne (tgt := 56) d_MD_reach_44 (by decide) (fun q => ?_) (fun q => ?_)
      · replace h := h.1 q
        refine aw_iload_n d_MD_reach_56 rfl ?_
        exact aw_iret d_MD_reach_57 rfl h
      · replace h := h.2 q
        refine aw_iload_n d_MD_reach_47 rfl ?_
        refine aw_iconst (v := 2) d_MD_reach_48 (by decide) ?_
        refine aw_icmp_ge (tgt := 56) d_MD_reach_49 (by decide) (fun q => ?_) (fun q => ?_)
        · replace h := h.1 q
          refine aw_iload_n d_MD_reach_56 rfl ?_
          exact aw_iret d_MD_reach_57 rfl h
        · replace h := h.2 q
          refine aw_iconst (v := 2) d_MD_reach_52 (by decide) ?_
          refine aw_goto (tgt := 57) d_MD_reach_53 (by decide) ?_
          exact aw_iret d_MD_reach_57 rfl h
    · replace h := h.2 q
      refine aw_iconst (v := 4) d_MD_reach_13 (by decide) ?_
      refine aw_goto (tgt := 36) d_MD_reach_14 (by decide) ?_
      refine aw_istore_n d_MD_reach_36 (Nat.le_of_ble_eq_true rfl) ?_
      refine aw_aload_n d_MD_reach_37 rfl ?_
      refine aw_getR (t := 56) d_MD_reach_38 lf_MD_49 rfl rfl ?_
      refine aw_iload_n d_MD_reach_41 rfl ?_
      refine aw_iald d_MD_reach_42 rfl h.1 ?_
      replace h := h.2
      refine aw_iconst (v := 2) d_MD_reach_43 (by decide) ?_
      refine aw_icmp_ne (tgt := 56) d_MD_reach_44 (by decide) (fun q => ?_) (fun q => ?_)
      · replace h := h.1 q
        refine aw_iload_n d_MD_reach_56 rfl ?_
        exact aw_iret d_MD_reach_57 rfl h
      · replace h := h.2 q
        refine aw_iload_n d_MD_reach_47 rfl ?_
        refine aw_iconst (v := 2) d_MD_reach_48 (by decide) ?_
        refine aw_icmp_ge (tgt := 56) d_MD_reach_49 (by decide) (fun q => ?_) (fun q => ?_)
        · replace h := h.1 q
          refine aw_iload_n d_MD_reach_56 rfl ?_
          exact aw_iret d_MD_reach_57 rfl h
        · replace h := h.2 q
          refine aw_iconst (v := 2) d_MD_reach_52 (by decide) ?_
          refine aw_goto (tgt := 57) d_MD_reach_53 (by decide) ?_
          exact aw_iret d_MD_reach_57 rfl h
theorem en_MD_reach {G : Gp} {d : Nat} {Q : Int32 → Mem → Prop} {x1 x2 : Int32} {μ : Mem}
    (h : AW G d M_MD_reach Q 0 [some (.inr 42), some (.inl x1), some (.inl x2), none] [] μ) :
    Ct G d M_MD_reach [.inr 42, .inl x1, .inl x2] μ Q := ct_of (by decide) (Nat.le_of_ble_eq_true rfl) h
set_option maxRecDepth 100000 in
theorem vc_MD_canShare_0 {G : Gp} {d : Nat} {Q : Int32 → Mem → Prop} {x1 x2 : Int32} {μ : Mem}
    (h : Ct G d M_MD_placeOf [.inr 42, .inl x1] μ (fun r2 u1 => Ct G d M_MD_placeOf [.inr 42, .inl x2] u1 (fun r4 u3 => (r2 ≤ r4 → (¬ x2 = x1 → Ct G d M_MD_placeOf [.inr 42, .inl x2] u3 (fun r6 u5 => Ct G d M_MD_placeOf [.inr 42, .inl x1] u5 (fun r8 u7 => ∀ y9 : Int32, y9 = (r6 - r8) → (y9 ≤ 0 → Q (0 : Int32) u7) ∧ (¬ y9 ≤ 0 → Ct G d M_MD_reach [.inr 42, .inl x2, .inl (0 : Int32)] u7 (fun r11 u10 => Ct G d M_MD_reach [.inr 42, .inl x1, .inl (1 : Int32)] u10 (fun r13 u12 => (y9 < (r11 + r13) → Q (0 : Int32) u12) ∧ (¬ y9 < (r11 + r13) → Q (1 : Int32) u12))))))) ∧ (x2 = x1 → Ct G d M_MD_placeOf [.inr 42, .inl x2] u3 (fun r15 u14 => Ct G d M_MD_placeOf [.inr 42, .inl x2] u14 (fun r17 u16 => ∀ y18 : Int32, y18 = (r15 - r17) → (y18 ≤ 0 → Q (0 : Int32) u16) ∧ (¬ y18 ≤ 0 → Ct G d M_MD_reach [.inr 42, .inl x2, .inl (0 : Int32)] u16 (fun r20 u19 => Ct G d M_MD_reach [.inr 42, .inl x2, .inl (1 : Int32)] u19 (fun r22 u21 => (y18 < (r20 + r22) → Q (0 : Int32) u21) ∧ (¬ y18 < (r20 + r22) → Q (1 : Int32) u21)))))))) ∧ (¬ r2 ≤ r4 → (¬ x1 = x1 → Ct G d M_MD_placeOf [.inr 42, .inl x1] u3 (fun r24 u23 => Ct G d M_MD_placeOf [.inr 42, .inl x1] u23 (fun r26 u25 => ∀ y27 : Int32, y27 = (r24 - r26) → (y27 ≤ 0 → Q (0 : Int32) u25) ∧ (¬ y27 ≤ 0 → Ct G d M_MD_reach [.inr 42, .inl x1, .inl (0 : Int32)] u25 (fun r29 u28 => Ct G d M_MD_reach [.inr 42, .inl x1, .inl (1 : Int32)] u28 (fun r31 u30 => (y27 < (r29 + r31) → Q (0 : Int32) u30) ∧ (¬ y27 < (r29 + r31) → Q (1 : Int32) u30))))))) ∧ (x1 = x1 → Ct G d M_MD_placeOf [.inr 42, .inl x1] u3 (fun r33 u32 => Ct G d M_MD_placeOf [.inr 42, .inl x2] u32 (fun r35 u34 => ∀ y36 : Int32, y36 = (r33 - r35) → (y36 ≤ 0 → Q (0 : Int32) u34) ∧ (¬ y36 ≤ 0 → Ct G d M_MD_reach [.inr 42, .inl x1, .inl (0 : Int32)] u34 (fun r38 u37 => Ct G d M_MD_reach [.inr 42, .inl x2, .inl (1 : Int32)] u37 (fun r40 u39 => (y36 < (r38 + r40) → Q (0 : Int32) u39) ∧ (¬ y36 < (r38 + r40) → Q (1 : Int32) u39))))))))))) :
    AW G (d + 1) M_MD_canShare Q 0 [some (.inr 42), some (.inl x1), some (.inl x2), none, none, none] [] μ := by
  refine aw_aload_n d_MD_canShare_0 rfl ?_
  refine aw_iload_n d_MD_canShare_1 rfl ?_
  refine aw_callV (as := [.inl x1]) d_MD_canShare_2 lm_MD_153 rfl rfl (by decide) rfl (Nat.le_of_ble_eq_true rfl) rfl h (fun r2 u1 h => ?_)
  refine aw_aload_n d_MD_canShare_5 rfl ?_
  refine aw_iload_n d_MD_canShare_6 rfl ?_
  refine aw_callV (as := [.inl x2]) d_MD_canShare_7 lm_MD_153 rfl rfl (by decide) rfl (Nat.le_of_ble_eq_true rfl) rfl h (fun r4 u3 h => ?_)
  refine aw_icmp_le (tgt := 17) d_MD_canShare_10 (by decide) (fun q => ?_) (fun q => ?_)
  · replace h := h.1 q
    refine aw_iload_n d_MD_canShare_17 rfl ?_
    refine aw_istore_n d_MD_canShare_18 (Nat.le_of_ble_eq_true rfl) ?_
    refine aw_iload_n d_MD_canShare_19 rfl ?_
    refine aw_iload_n d_MD_canShare_20 rfl ?_
    refine aw_icmp_ne (tgt := 28) d_MD_canShare_21 (by decide) (fun q => ?_) (fun q => ?_)
    · replace h := h.1 q
      refine aw_iload_n d_MD_canShare_28 rfl ?_
      refine aw_istore d_MD_canShare_29 (Nat.le_of_ble_eq_true rfl) ?_
      refine aw_aload_n d_MD_canShare_31 rfl ?_
      refine aw_iload_n d_MD_canShare_32 rfl ?_
      refine aw_callV (as := [.inl x2]) d_MD_canShare_33 lm_MD_153 rfl rfl (by decide) rfl (Nat.le_of_ble_eq_true rfl) rfl h (fun r6 u5 h => ?_)
      refine aw_aload_n d_MD_canShare_36 rfl ?_
      refine aw_iload d_MD_canShare_37 rfl ?_
      refine aw_callV (as := [.inl x1]) d_MD_canShare_39 lm_MD_153 rfl rfl (by decide) rfl (Nat.le_of_ble_eq_true rfl) rfl h (fun r8 u7 h => ?_)
      refine aw_isub d_MD_canShare_42 ?_
      refine aw_top (fun y9 e => ?_)
      replace h := h _ e
      refine aw_istore d_MD_canShare_43 (Nat.le_of_ble_eq_true rfl) ?_
      refine aw_iload d_MD_canShare_45 rfl ?_
      refine aw_if_le (tgt := 73) d_MD_canShare_47 (by decide) (fun q => ?_) (fun q => ?_)
      · replace h := h.1 q
        refine aw_iconst (v := 0) d_MD_canShare_73 (by decide) ?_
        exact aw_zret d_MD_canShare_74 rfl (Or.inl rfl) h
      · replace h := h.2 q
        refine aw_iload d_MD_canShare_50 rfl ?_
        refine aw_aload_n d_MD_canShare_52 rfl ?_
        refine aw_iload_n d_MD_canShare_53 rfl ?_
        refine aw_iconst (v := 0) d_MD_canShare_54 (by decide) ?_
        refine aw_callV (as := [.inl x2, .inl (0 : Int32)]) d_MD_canShare_55 lm_MD_156 rfl rfl (by decide) rfl (Nat.le_of_ble_eq_true rfl) rfl h (fun r11 u10 h => ?_)
        refine aw_aload_n d_MD_canShare_58 rfl ?_
        refine aw_iload d_MD_canShare_59 rfl ?_
        refine aw_iconst (v := 1) d_MD_canShare_61 (by decide) ?_
        refine aw_callV (as := [.inl x1, .inl (1 : Int32)]) d_MD_canShare_62 lm_MD_156 rfl rfl (by decide) rfl (Nat.le_of_ble_eq_true rfl) rfl h (fun r13 u12 h => ?_)
        refine aw_iadd d_MD_canShare_65 ?_
        refine aw_icmp_lt (tgt := 73) d_MD_canShare_66 (by decide) (fun q => ?_) (fun q => ?_)
        · replace h := h.1 q
          refine aw_iconst (v := 0) d_MD_canShare_73 (by decide) ?_
          exact aw_zret d_MD_canShare_74 rfl (Or.inl rfl) h
        · replace h := h.2 q
          refine aw_iconst (v := 1) d_MD_canShare_69 (by decide) ?_
          refine aw_goto (tgt := 74) d_MD_canShare_70 (by decide) ?_
          exact aw_zret d_MD_canShare_74 rfl (Or.inr rfl) h
    · replace h := h.2 q
      refine aw_iload_n d_MD_canShare_24 rfl ?_
      refine aw_goto (tgt := 29) d_MD_canShare_25 (by decide) ?_
      refine aw_istore d_MD_canShare_29 (Nat.le_of_ble_eq_true rfl) ?_
      refine aw_aload_n d_MD_canShare_31 rfl ?_
      refine aw_iload_n d_MD_canShare_32 rfl ?_
      refine aw_callV (as := [.inl x2]) d_MD_canShare_33 lm_MD_153 rfl rfl (by decide) rfl (Nat.le_of_ble_eq_true rfl) rfl h (fun r15 u14 h => ?_)
      refine aw_aload_n d_MD_canShare_36 rfl ?_
      refine aw_iload d_MD_canShare_37 rfl ?_
      refine aw_callV (as := [.inl x2]) d_MD_canShare_39 lm_MD_153 rfl rfl (by decide) rfl (Nat.le_of_ble_eq_true rfl) rfl h (fun r17 u16 h => ?_)
      refine aw_isub d_MD_canShare_42 ?_
      refine aw_top (fun y18 e => ?_)
      replace h := h _ e
      refine aw_istore d_MD_canShare_43 (Nat.le_of_ble_eq_true rfl) ?_
      refine aw_iload d_MD_canShare_45 rfl ?_
      refine aw_if_le (tgt := 73) d_MD_canShare_47 (by decide) (fun q => ?_) (fun q => ?_)
      · replace h := h.1 q
        refine aw_iconst (v := 0) d_MD_canShare_73 (by decide) ?_
        exact aw_zret d_MD_canShare_74 rfl (Or.inl rfl) h
      · replace h := h.2 q
        refine aw_iload d_MD_canShare_50 rfl ?_
        refine aw_aload_n d_MD_canShare_52 rfl ?_
        refine aw_iload_n d_MD_canShare_53 rfl ?_
        refine aw_iconst (v := 0) d_MD_canShare_54 (by decide) ?_
        refine aw_callV (as := [.inl x2, .inl (0 : Int32)]) d_MD_canShare_55 lm_MD_156 rfl rfl (by decide) rfl (Nat.le_of_ble_eq_true rfl) rfl h (fun r20 u19 h => ?_)
        refine aw_aload_n d_MD_canShare_58 rfl ?_
        refine aw_iload d_MD_canShare_59 rfl ?_
        refine aw_iconst (v := 1) d_MD_canShare_61 (by decide) ?_
        refine aw_callV (as := [.inl x2, .inl (1 : Int32)]) d_MD_canShare_62 lm_MD_156 rfl rfl (by decide) rfl (Nat.le_of_ble_eq_true rfl) rfl h (fun r22 u21 h => ?_)
        refine aw_iadd d_MD_canShare_65 ?_
        refine aw_icmp_lt (tgt := 73) d_MD_canShare_66 (by decide) (fun q => ?_) (fun q => ?_)
        · replace h := h.1 q
          refine aw_iconst (v := 0) d_MD_canShare_73 (by decide) ?_
          exact aw_zret d_MD_canShare_74 rfl (Or.inl rfl) h
        · replace h := h.2 q
          refine aw_iconst (v := 1) d_MD_canShare_69 (by decide) ?_
          refine aw_goto (tgt := 74) d_MD_canShare_70 (by decide) ?_
          exact aw_zret d_MD_canShare_74 rfl (Or.inr rfl) h
  · replace h := h.2 q
    refine aw_iload_n d_MD_canShare_13 rfl ?_
    refine aw_goto (tgt := 18) d_MD_canShare_14 (by decide) ?_
    refine aw_istore_n d_MD_canShare_18 (Nat.le_of_ble_eq_true rfl) ?_
    refine aw_iload_n d_MD_canShare_19 rfl ?_
    refine aw_iload_n d_MD_canShare_20 rfl ?_
    refine aw_icmp_ne (tgt := 28) d_MD_canShare_21 (by decide) (fun q => ?_) (fun q => ?_)
    · replace h := h.1 q
      refine aw_iload_n d_MD_canShare_28 rfl ?_
      refine aw_istore d_MD_canShare_29 (Nat.le_of_ble_eq_true rfl) ?_
      refine aw_aload_n d_MD_canShare_31 rfl ?_
      refine aw_iload_n d_MD_canShare_32 rfl ?_
      refine aw_callV (as := [.inl x1]) d_MD_canShare_33 lm_MD_153 rfl rfl (by decide) rfl (Nat.le_of_ble_eq_true rfl) rfl h (fun r24 u23 h => ?_)
      refine aw_aload_n d_MD_canShare_36 rfl ?_
      refine aw_iload d_MD_canShare_37 rfl ?_
      refine aw_callV (as := [.inl x1]) d_MD_canShare_39 lm_MD_153 rfl rfl (by decide) rfl (Nat.le_of_ble_eq_true rfl) rfl h (fun r26 u25 h => ?_)
      refine aw_isub d_MD_canShare_42 ?_
      refine aw_top (fun y27 e => ?_)
      replace h := h _ e
      refine aw_istore d_MD_canShare_43 (Nat.le_of_ble_eq_true rfl) ?_
      refine aw_iload d_MD_canShare_45 rfl ?_
      refine aw_if_le (tgt := 73) d_MD_canShare_47 (by decide) (fun q => ?_) (fun q => ?_)
      · replace h := h.1 q
        refine aw_iconst (v := 0) d_MD_canShare_73 (by decide) ?_
        exact aw_zret d_MD_canShare_74 rfl (Or.inl rfl) h
      · replace h := h.2 q
        refine aw_iload d_MD_canShare_50 rfl ?_
        refine aw_aload_n d_MD_canShare_52 rfl ?_
        refine aw_iload_n d_MD_canShare_53 rfl ?_
        refine aw_iconst (v := 0) d_MD_canShare_54 (by decide) ?_
        refine aw_callV (as := [.inl x1, .inl (0 : Int32)]) d_MD_canShare_55 lm_MD_156 rfl rfl (by decide) rfl (Nat.le_of_ble_eq_true rfl) rfl h (fun r29 u28 h => ?_)
        refine aw_aload_n d_MD_canShare_58 rfl ?_
        refine aw_iload d_MD_canShare_59 rfl ?_
        refine aw_iconst (v := 1) d_MD_canShare_61 (by decide) ?_
        refine aw_callV (as := [.inl x1, .inl (1 : Int32)]) d_MD_canShare_62 lm_MD_156 rfl rfl (by decide) rfl (Nat.le_of_ble_eq_true rfl) rfl h (fun r31 u30 h => ?_)
        refine aw_iadd d_MD_canShare_65 ?_
        refine aw_icmp_lt (tgt := 73) d_MD_canShare_66 (by decide) (fun q => ?_) (fun q => ?_)
        · replace h := h.1 q
          refine aw_iconst (v := 0) d_MD_canShare_73 (by decide) ?_
          exact aw_zret d_MD_canShare_74 rfl (Or.inl rfl) h
        · replace h := h.2 q
          refine aw_iconst (v := 1) d_MD_canShare_69 (by decide) ?_
          refine aw_goto (tgt := 74) d_MD_canShare_70 (by decide) ?_
          exact aw_zret d_MD_canShare_74 rfl (Or.inr rfl) h
    · replace h := h.2 q
      refine aw_iload_n d_MD_canShare_24 rfl ?_
      refine aw_goto (tgt := 29) d_MD_canShare_25 (by decide) ?_
      refine aw_istore d_MD_canShare_29 (Nat.le_of_ble_eq_true rfl) ?_
      refine aw_aload_n d_MD_canShare_31 rfl ?_
      refine aw_iload_n d_MD_canShare_32 rfl ?_
      refine aw_callV (as := [.inl x1]) d_MD_canShare_33 lm_MD_153 rfl rfl (by decide) rfl (Nat.le_of_ble_eq_true rfl) rfl h (fun r33 u32 h => ?_)
      refine aw_aload_n d_MD_canShare_36 rfl ?_
      refine aw_iload d_MD_canShare_37 rfl ?_
      refine aw_callV (as := [.inl x2]) d_MD_canShare_39 lm_MD_153 rfl rfl (by decide) rfl (Nat.le_of_ble_eq_true rfl) rfl h (fun r35 u34 h => ?_)
      refine aw_isub d_MD_canShare_42 ?_
      refine aw_top (fun y36 e => ?_)
      replace h := h _ e
      refine aw_istore d_MD_canShare_43 (Nat.le_of_ble_eq_true rfl) ?_
      refine aw_iload d_MD_canShare_45 rfl ?_
      refine aw_if_le (tgt := 73) d_MD_canShare_47 (by decide) (fun q => ?_) (fun q => ?_)
      · replace h := h.1 q
        refine aw_iconst (v := 0) d_MD_canShare_73 (by decide) ?_
        exact aw_zret d_MD_canShare_74 rfl (Or.inl rfl) h
      · replace h := h.2 q
        refine aw_iload d_MD_canShare_50 rfl ?_
        refine aw_aload_n d_MD_canShare_52 rfl ?_
        refine aw_iload_n d_MD_canShare_53 rfl ?_
        refine aw_iconst (v := 0) d_MD_canShare_54 (by decide) ?_
        refine aw_callV (as := [.inl x1, .inl (0 : Int32)]) d_MD_canShare_55 lm_MD_156 rfl rfl (by decide) rfl (Nat.le_of_ble_eq_true rfl) rfl h (fun r38 u37 h => ?_)
        refine aw_aload_n d_MD_canShare_58 rfl ?_
        refine aw_iload d_MD_canShare_59 rfl ?_
        refine aw_iconst (v := 1) d_MD_canShare_61 (by decide) ?_
        refine aw_callV (as := [.inl x2, .inl (1 : Int32)]) d_MD_canShare_62 lm_MD_156 rfl rfl (by decide) rfl (Nat.le_of_ble_eq_true rfl) rfl h (fun r40 u39 h => ?_)
        refine aw_iadd d_MD_canShare_65 ?_
        refine aw_icmp_lt (tgt := 73) d_MD_canShare_66 (by decide) (fun q => ?_) (fun q => ?_)
        · replace h := h.1 q
          refine aw_iconst (v := 0) d_MD_canShare_73 (by decide) ?_
          exact aw_zret d_MD_canShare_74 rfl (Or.inl rfl) h
        · replace h := h.2 q
          refine aw_iconst (v := 1) d_MD_canShare_69 (by decide) ?_
          refine aw_goto (tgt := 74) d_MD_canShare_70 (by decide) ?_
          exact aw_zret d_MD_canShare_74 rfl (Or.inr rfl) h
theorem en_MD_canShare {G : Gp} {d : Nat} {Q : Int32 → Mem → Prop} {x1 x2 : Int32} {μ : Mem}
    (h : AW G (d + 1) M_MD_canShare Q 0 [some (.inr 42), some (.inl x1), some (.inl x2), none, none, none] [] μ) :
    Ct G (d + 1) M_MD_canShare [.inr 42, .inl x1, .inl x2] μ Q := ct_of (by decide) (Nat.le_of_ble_eq_true rfl) h
set_option maxRecDepth 100000 in
theorem vc_MD_listSigns_0 {G : Gp} {d : Nat} {Q : Int32 → Mem → Prop} {x1 x2 : Int32} {μ : Mem}
    (h : ∀ u1 : Mem, u1 = up μ 42 25 (0 : Int32) → AW G (d + 1) M_MD_listSigns Q 7 [some (.inr 42), some (.inl x1), some (.inl x2), some (.inl (0 : Int32)), none] [] u1) :
    AW G (d + 1) M_MD_listSigns Q 0 [some (.inr 42), some (.inl x1), some (.inl x2), none, none] [] μ := by
  refine aw_aload_n d_MD_listSigns_0 rfl ?_
  refine aw_iconst (v := 0) d_MD_listSigns_1 (by decide) ?_
  refine aw_putI d_MD_listSigns_2 lf_MD_159 ⟨_, _, _, rfl, rfl, rfl⟩ rfl rfl ?_
  refine aw_mem (fun u1 e => ?_)
  replace h := h _ e
  refine aw_iconst (v := 0) d_MD_listSigns_5 (by decide) ?_
  refine aw_istore_n d_MD_listSigns_6 (Nat.le_of_ble_eq_true rfl) ?_
  exact h
theorem en_MD_listSigns {G : Gp} {d : Nat} {Q : Int32 → Mem → Prop} {x1 x2 : Int32} {μ : Mem}
    (h : AW G (d + 1) M_MD_listSigns Q 0 [some (.inr 42), some (.inl x1), some (.inl x2), none, none] [] μ) :
    Ct G (d + 1) M_MD_listSigns [.inr 42, .inl x1, .inl x2] μ Q := ct_of (by decide) (Nat.le_of_ble_eq_true rfl) h
set_option maxRecDepth 100000 in
theorem vc_MD_listSigns_7 {G : Gp} {d : Nat} {Q : Int32 → Mem → Prop} {x1 x2 x3 : Int32} {μ : Mem}
    (h : ((μ 42 8) ≤ x3 → AW G (d + 1) M_MD_listSigns Q 124 [some (.inr 42), none, none, some (.inl (0 : Int32)), none] [] μ) ∧ (¬ (μ 42 8) ≤ x3 → vp_in x3 60 ∧ (¬ (μ 45 (ix x3)) = x1 → AW G (d + 1) M_MD_listSigns Q 7 [some (.inr 42), some (.inl x1), some (.inl x2), some (.inl (x3 + (1 : Int32))), none] [] μ) ∧ ((μ 45 (ix x3)) = x1 → vp_in x3 60 ∧ (¬ (μ 46 (ix x3)) = x2 → AW G (d + 1) M_MD_listSigns Q 7 [some (.inr 42), some (.inl x1), some (.inl x2), some (.inl (x3 + (1 : Int32))), none] [] μ) ∧ ((μ 46 (ix x3)) = x2 → vp_in x3 60 ∧ ((μ 56 (ix x3)) ≤ 0 → AW G (d + 1) M_MD_listSigns Q 7 [some (.inr 42), some (.inl x1), some (.inl x2), some (.inl (x3 + (1 : Int32))), none] [] μ) ∧ (¬ (μ 56 (ix x3)) ≤ 0 → ∀ y1 : Int32, y1 = (μ 42 25) → AW G (d + 1) M_MD_listSigns Q 50 [some (.inr 42), some (.inl x1), some (.inl x2), some (.inl x3), some (.inl y1)] [] μ))))) :
    AW G (d + 1) M_MD_listSigns Q 7 [some (.inr 42), some (.inl x1), some (.inl x2), some (.inl x3), none] [] μ := by
  refine aw_iload_n d_MD_listSigns_7 rfl ?_
  refine aw_aload_n d_MD_listSigns_8 rfl ?_
  refine aw_getI d_MD_listSigns_9 lf_MD_97 rfl rfl ?_
  refine aw_icmp_ge (tgt := 122) d_MD_listSigns_12 (by decide) (fun q => ?_) (fun q => ?_)
  · replace h := h.1 q
    refine aw_iconst (v := 0) d_MD_listSigns_122 (by decide) ?_
    refine aw_istore_n d_MD_listSigns_123 (Nat.le_of_ble_eq_true rfl) ?_
    refine aw_drop 1 ?_
    refine aw_drop 2 ?_
    exact h
  · replace h := h.2 q
    refine aw_aload_n d_MD_listSigns_15 rfl ?_
    refine aw_getR (t := 45) d_MD_listSigns_16 lf_MD_16 rfl rfl ?_
    refine aw_iload_n d_MD_listSigns_19 rfl ?_
    refine aw_iald d_MD_listSigns_20 rfl h.1 ?_
    replace h := h.2
    refine aw_iload_n d_MD_listSigns_21 rfl ?_
    refine aw_icmp_ne (tgt := 116) d_MD_listSigns_22 (by decide) (fun q => ?_) (fun q => ?_)
    · replace h := h.1 q
      refine aw_iinc (v := 1) d_MD_listSigns_116 rfl (by decide) ?_
      refine aw_goto (tgt := 7) d_MD_listSigns_119 (by decide) ?_
      exact h
    · replace h := h.2 q
      refine aw_aload_n d_MD_listSigns_25 rfl ?_
      refine aw_getR (t := 46) d_MD_listSigns_26 lf_MD_19 rfl rfl ?_
      refine aw_iload_n d_MD_listSigns_29 rfl ?_
      refine aw_iald d_MD_listSigns_30 rfl h.1 ?_
      replace h := h.2
      refine aw_iload_n d_MD_listSigns_31 rfl ?_
      refine aw_icmp_ne (tgt := 116) d_MD_listSigns_32 (by decide) (fun q => ?_) (fun q => ?_)
      · replace h := h.1 q
        refine aw_iinc (v := 1) d_MD_listSigns_116 rfl (by decide) ?_
        refine aw_goto (tgt := 7) d_MD_listSigns_119 (by decide) ?_
        exact h
      · replace h := h.2 q
        refine aw_aload_n d_MD_listSigns_35 rfl ?_
        refine aw_getR (t := 56) d_MD_listSigns_36 lf_MD_49 rfl rfl ?_
        refine aw_iload_n d_MD_listSigns_39 rfl ?_
        refine aw_iald d_MD_listSigns_40 rfl h.1 ?_
        replace h := h.2
        refine aw_if_le (tgt := 116) d_MD_listSigns_41 (by decide) (fun q => ?_) (fun q => ?_)
        · replace h := h.1 q
          refine aw_iinc (v := 1) d_MD_listSigns_116 rfl (by decide) ?_
          refine aw_goto (tgt := 7) d_MD_listSigns_119 (by decide) ?_
          exact h
        · replace h := h.2 q
          refine aw_aload_n d_MD_listSigns_44 rfl ?_
          refine aw_getI d_MD_listSigns_45 lf_MD_159 rfl rfl ?_
          refine aw_top (fun y1 e => ?_)
          replace h := h _ e
          refine aw_istore d_MD_listSigns_48 (Nat.le_of_ble_eq_true rfl) ?_
          exact h
set_option maxRecDepth 100000 in
theorem vc_MD_listSigns_50 {G : Gp} {d : Nat} {Q : Int32 → Mem → Prop} {x1 x2 x3 x4 : Int32} {μ : Mem}
    (h : (x4 ≤ 0 → vp_in x4 60 ∧ ∀ u1 : Mem, u1 = up μ 63 (ix x4) x3 → ∀ u2 : Mem, u2 = up u1 42 25 ((u1 42 25) + (1 : Int32)) → AW G (d + 1) M_MD_listSigns Q 7 [some (.inr 42), some (.inl x1), some (.inl x2), some (.inl (x3 + (1 : Int32))), none] [] u2) ∧ (¬ x4 ≤ 0 → vp_in (x4 - (1 : Int32)) 60 ∧ Ct G d M_MD_placeOf [.inr 42, .inl (μ 63 (ix (x4 - (1 : Int32))))] μ (fun r4 u3 => Ct G d M_MD_placeOf [.inr 42, .inl x3] u3 (fun r6 u5 => (r6 ≤ r4 → vp_in x4 60 ∧ ∀ u7 : Mem, u7 = up u5 63 (ix x4) x3 → ∀ u8 : Mem, u8 = up u7 42 25 ((u7 42 25) + (1 : Int32)) → AW G (d + 1) M_MD_listSigns Q 7 [some (.inr 42), some (.inl x1), some (.inl x2), some (.inl (x3 + (1 : Int32))), none] [] u8) ∧ (¬ r6 ≤ r4 → vp_in (x4 - (1 : Int32)) 60 ∧ vp_in x4 60 ∧ ∀ u9 : Mem, u9 = up u5 63 (ix x4) (u5 63 (ix (x4 - (1 : Int32)))) → AW G (d + 1) M_MD_listSigns Q 50 [some (.inr 42), some (.inl x1), some (.inl x2), some (.inl x3), some (.inl (x4 + (-1 : Int32)))] [] u9))))) :
    AW G (d + 1) M_MD_listSigns Q 50 [some (.inr 42), some (.inl x1), some (.inl x2), some (.inl x3), some (.inl x4)] [] μ := by
  refine aw_iload d_MD_listSigns_50 rfl ?_
  refine aw_if_le (tgt := 98) d_MD_listSigns_52 (by decide) (fun q => ?_) (fun q => ?_)
  · replace h := h.1 q
    refine aw_aload_n d_MD_listSigns_98 rfl ?_
    refine aw_getR (t := 63) d_MD_listSigns_99 lf_MD_75 rfl rfl ?_
    refine aw_iload d_MD_listSigns_102 rfl ?_
    refine aw_iload_n d_MD_listSigns_104 rfl ?_
    refine aw_iast d_MD_listSigns_105 rfl h.1 ?_
    replace h := h.2
    refine aw_mem (fun u1 e => ?_)
    replace h := h _ e
    refine aw_aload_n d_MD_listSigns_106 rfl ?_
    refine aw_dup d_MD_listSigns_107 ?_
    refine aw_getI d_MD_listSigns_108 lf_MD_159 rfl rfl ?_
    refine aw_iconst (v := 1) d_MD_listSigns_111 (by decide) ?_
    refine aw_iadd d_MD_listSigns_112 ?_
    refine aw_putI d_MD_listSigns_113 lf_MD_159 ⟨_, _, _, rfl, rfl, rfl⟩ rfl rfl ?_
    refine aw_mem (fun u2 e => ?_)
    replace h := h _ e
    refine aw_iinc (v := 1) d_MD_listSigns_116 rfl (by decide) ?_
    refine aw_goto (tgt := 7) d_MD_listSigns_119 (by decide) ?_
    refine aw_drop 4 ?_
    exact h
  · replace h := h.2 q
    refine aw_aload_n d_MD_listSigns_55 rfl ?_
    refine aw_aload_n d_MD_listSigns_56 rfl ?_
    refine aw_getR (t := 63) d_MD_listSigns_57 lf_MD_75 rfl rfl ?_
    refine aw_iload d_MD_listSigns_60 rfl ?_
    refine aw_iconst (v := 1) d_MD_listSigns_62 (by decide) ?_
    refine aw_isub d_MD_listSigns_63 ?_
    refine aw_iald d_MD_listSigns_64 rfl h.1 ?_
    replace h := h.2
    refine aw_callV (as := [.inl (μ 63 (ix (x4 - (1 : Int32))))]) d_MD_listSigns_65 lm_MD_153 rfl rfl (by decide) rfl (Nat.le_of_ble_eq_true rfl) rfl h (fun r4 u3 h => ?_)
    refine aw_aload_n d_MD_listSigns_68 rfl ?_
    refine aw_iload_n d_MD_listSigns_69 rfl ?_
    refine aw_callV (as := [.inl x3]) d_MD_listSigns_70 lm_MD_153 rfl rfl (by decide) rfl (Nat.le_of_ble_eq_true rfl) rfl h (fun r6 u5 h => ?_)
    refine aw_icmp_ge (tgt := 98) d_MD_listSigns_73 (by decide) (fun q => ?_) (fun q => ?_)
    · replace h := h.1 q
      refine aw_aload_n d_MD_listSigns_98 rfl ?_
      refine aw_getR (t := 63) d_MD_listSigns_99 lf_MD_75 rfl rfl ?_
      refine aw_iload d_MD_listSigns_102 rfl ?_
      refine aw_iload_n d_MD_listSigns_104 rfl ?_
      refine aw_iast d_MD_listSigns_105 rfl h.1 ?_
      replace h := h.2
      refine aw_mem (fun u7 e => ?_)
      replace h := h _ e
      refine aw_aload_n d_MD_listSigns_106 rfl ?_
      refine aw_dup d_MD_listSigns_107 ?_
      refine aw_getI d_MD_listSigns_108 lf_MD_159 rfl rfl ?_
      refine aw_iconst (v := 1) d_MD_listSigns_111 (by decide) ?_
      refine aw_iadd d_MD_listSigns_112 ?_
      refine aw_putI d_MD_listSigns_113 lf_MD_159 ⟨_, _, _, rfl, rfl, rfl⟩ rfl rfl ?_
      refine aw_mem (fun u8 e => ?_)
      replace h := h _ e
      refine aw_iinc (v := 1) d_MD_listSigns_116 rfl (by decide) ?_
      refine aw_goto (tgt := 7) d_MD_listSigns_119 (by decide) ?_
      refine aw_drop 4 ?_
      exact h
    · replace h := h.2 q
      refine aw_aload_n d_MD_listSigns_76 rfl ?_
      refine aw_getR (t := 63) d_MD_listSigns_77 lf_MD_75 rfl rfl ?_
      refine aw_iload d_MD_listSigns_80 rfl ?_
      refine aw_aload_n d_MD_listSigns_82 rfl ?_
      refine aw_getR (t := 63) d_MD_listSigns_83 lf_MD_75 rfl rfl ?_
      refine aw_iload d_MD_listSigns_86 rfl ?_
      refine aw_iconst (v := 1) d_MD_listSigns_88 (by decide) ?_
      refine aw_isub d_MD_listSigns_89 ?_
      refine aw_iald d_MD_listSigns_90 rfl h.1 ?_
      replace h := h.2
      refine aw_iast d_MD_listSigns_91 rfl h.1 ?_
      replace h := h.2
      refine aw_mem (fun u9 e => ?_)
      replace h := h _ e
      refine aw_iinc (v := (-1)) d_MD_listSigns_92 rfl (by decide) ?_
      refine aw_goto (tgt := 50) d_MD_listSigns_95 (by decide) ?_
      exact h
set_option maxRecDepth 100000 in
theorem vc_MD_listSigns_124 {G : Gp} {d : Nat} {Q : Int32 → Mem → Prop} {x3 : Int32} {μ : Mem}
    (h : ((μ 42 25) ≤ x3 → Q 0 μ) ∧ (¬ (μ 42 25) ≤ x3 → (¬ (x3 - x3 / (2 : Int32) * (2 : Int32)) = 0 → vp_in (((μ 42 25) - (1 : Int32)) - (x3 / (2 : Int32))) 60 ∧ vp_in x3 60 ∧ ∀ u1 : Mem, u1 = up μ 64 (ix x3) (μ 63 (ix (((μ 42 25) - (1 : Int32)) - (x3 / (2 : Int32))))) → AW G (d + 1) M_MD_listSigns Q 124 [some (.inr 42), none, none, some (.inl (x3 + (1 : Int32))), none] [] u1) ∧ ((x3 - x3 / (2 : Int32) * (2 : Int32)) = 0 → vp_in (x3 / (2 : Int32)) 60 ∧ vp_in x3 60 ∧ ∀ u2 : Mem, u2 = up μ 64 (ix x3) (μ 63 (ix (x3 / (2 : Int32)))) → AW G (d + 1) M_MD_listSigns Q 124 [some (.inr 42), none, none, some (.inl (x3 + (1 : Int32))), none] [] u2))) :
    AW G (d + 1) M_MD_listSigns Q 124 [some (.inr 42), none, none, some (.inl x3), none] [] μ := by
  refine aw_iload_n d_MD_listSigns_124 rfl ?_
  refine aw_aload_n d_MD_listSigns_125 rfl ?_
  refine aw_getI d_MD_listSigns_126 lf_MD_159 rfl rfl ?_
  refine aw_icmp_ge (tgt := 171) d_MD_listSigns_129 (by decide) (fun q => ?_) (fun q => ?_)
  · replace h := h.1 q
    exact aw_vret d_MD_listSigns_171 rfl h
  · replace h := h.2 q
    refine aw_aload_n d_MD_listSigns_132 rfl ?_
    refine aw_getR (t := 64) d_MD_listSigns_133 lf_MD_78 rfl rfl ?_
    refine aw_iload_n d_MD_listSigns_136 rfl ?_
    refine aw_aload_n d_MD_listSigns_137 rfl ?_
    refine aw_getR (t := 63) d_MD_listSigns_138 lf_MD_75 rfl rfl ?_
    refine aw_iload_n d_MD_listSigns_141 rfl ?_
    refine aw_iconst (v := 2) d_MD_listSigns_142 (by decide) ?_
    refine aw_irem d_MD_listSigns_143 (by decide) ?_
    refine aw_if_ne (tgt := 153) d_MD_listSigns_144 (by decide) (fun q => ?_) (fun q => ?_)
    · replace h := h.1 q
      refine aw_aload_n d_MD_listSigns_153 rfl ?_
      refine aw_getI d_MD_listSigns_154 lf_MD_159 rfl rfl ?_
      refine aw_iconst (v := 1) d_MD_listSigns_157 (by decide) ?_
      refine aw_isub d_MD_listSigns_158 ?_
      refine aw_iload_n d_MD_listSigns_159 rfl ?_
      refine aw_iconst (v := 2) d_MD_listSigns_160 (by decide) ?_
      refine aw_idiv d_MD_listSigns_161 (by decide) ?_
      refine aw_isub d_MD_listSigns_162 ?_
      refine aw_iald d_MD_listSigns_163 rfl h.1 ?_
      replace h := h.2
      refine aw_iast d_MD_listSigns_164 rfl h.1 ?_
      replace h := h.2
      refine aw_mem (fun u1 e => ?_)
      replace h := h _ e
      refine aw_iinc (v := 1) d_MD_listSigns_165 rfl (by decide) ?_
      refine aw_goto (tgt := 124) d_MD_listSigns_168 (by decide) ?_
      exact h
    · replace h := h.2 q
      refine aw_iload_n d_MD_listSigns_147 rfl ?_
      refine aw_iconst (v := 2) d_MD_listSigns_148 (by decide) ?_
      refine aw_idiv d_MD_listSigns_149 (by decide) ?_
      refine aw_goto (tgt := 163) d_MD_listSigns_150 (by decide) ?_
      refine aw_iald d_MD_listSigns_163 rfl h.1 ?_
      replace h := h.2
      refine aw_iast d_MD_listSigns_164 rfl h.1 ?_
      replace h := h.2
      refine aw_mem (fun u2 e => ?_)
      replace h := h _ e
      refine aw_iinc (v := 1) d_MD_listSigns_165 rfl (by decide) ?_
      refine aw_goto (tgt := 124) d_MD_listSigns_168 (by decide) ?_
      exact h
set_option maxRecDepth 100000 in
theorem vc_MD_widths_c_0 {G : Gp} {d : Nat} {Q : Int32 → Mem → Prop} {x2 : Int32} {μ : Mem}
    (h : AW G (d + 1) M_MD_widths Q 5 [some (.inr 42), some (.inr 65), some (.inl x2), some (.inl (0 : Int32)), some (.inl (0 : Int32)), none, none, none] [] μ) :
    AW G (d + 1) M_MD_widths Q 0 [some (.inr 42), some (.inr 65), some (.inl x2), none, none, none, none, none] [] μ := by
  refine aw_iconst (v := 0) d_MD_widths_0 (by decide) ?_
  refine aw_istore_n d_MD_widths_1 (Nat.le_of_ble_eq_true rfl) ?_
  refine aw_iconst (v := 0) d_MD_widths_2 (by decide) ?_
  refine aw_istore d_MD_widths_3 (Nat.le_of_ble_eq_true rfl) ?_
  exact h
theorem en_MD_widths_c {G : Gp} {d : Nat} {Q : Int32 → Mem → Prop} {x2 : Int32} {μ : Mem}
    (h : AW G (d + 1) M_MD_widths Q 0 [some (.inr 42), some (.inr 65), some (.inl x2), none, none, none, none, none] [] μ) :
    Ct G (d + 1) M_MD_widths [.inr 42, .inr 65, .inl x2] μ Q := ct_of (by decide) (Nat.le_of_ble_eq_true rfl) h
set_option maxRecDepth 100000 in
theorem vc_MD_widths_c_5 {G : Gp} {d : Nat} {Q : Int32 → Mem → Prop} {x2 x3 x4 : Int32} {μ : Mem}
    (h : ((6 : Int32) ≤ x2 → (x2 ≤ x4 → Q x3 μ) ∧ (¬ x2 ≤ x4 → AW G (d + 1) M_MD_widths Q 28 [some (.inr 42), some (.inr 65), some (.inl x2), some (.inl x3), some (.inl x4), some (.inl (0 : Int32)), some (.inl (0 : Int32)), none] [] μ)) ∧ (¬ (6 : Int32) ≤ x2 → ((6 : Int32) ≤ x4 → Q x3 μ) ∧ (¬ (6 : Int32) ≤ x4 → AW G (d + 1) M_MD_widths Q 28 [some (.inr 42), some (.inr 65), some (.inl x2), some (.inl x3), some (.inl x4), some (.inl (0 : Int32)), some (.inl (0 : Int32)), none] [] μ))) :
    AW G (d + 1) M_MD_widths Q 5 [some (.inr 42), some (.inr 65), some (.inl x2), some (.inl x3), some (.inl x4), none, none, none] [] μ := by
  refine aw_iload d_MD_widths_5 rfl ?_
  refine aw_iload_n d_MD_widths_7 rfl ?_
  refine aw_bipush (v := 6) d_MD_widths_8 (by decide) ?_
  refine aw_icmp_ge (tgt := 18) d_MD_widths_10 (by decide) (fun q => ?_) (fun q => ?_)
  · replace h := h.1 q
    refine aw_iload_n d_MD_widths_18 rfl ?_
    refine aw_icmp_ge (tgt := 93) d_MD_widths_19 (by decide) (fun q => ?_) (fun q => ?_)
    · replace h := h.1 q
      refine aw_iload_n d_MD_widths_93 rfl ?_
      exact aw_iret d_MD_widths_94 rfl h
    · replace h := h.2 q
      refine aw_iconst (v := 0) d_MD_widths_22 (by decide) ?_
      refine aw_istore d_MD_widths_23 (Nat.le_of_ble_eq_true rfl) ?_
      refine aw_iconst (v := 0) d_MD_widths_25 (by decide) ?_
      refine aw_istore d_MD_widths_26 (Nat.le_of_ble_eq_true rfl) ?_
      exact h
  · replace h := h.2 q
    refine aw_bipush (v := 6) d_MD_widths_13 (by decide) ?_
    refine aw_goto (tgt := 19) d_MD_widths_15 (by decide) ?_
    refine aw_icmp_ge (tgt := 93) d_MD_widths_19 (by decide) (fun q => ?_) (fun q => ?_)
    · replace h := h.1 q
      refine aw_iload_n d_MD_widths_93 rfl ?_
      exact aw_iret d_MD_widths_94 rfl h
    · replace h := h.2 q
      refine aw_iconst (v := 0) d_MD_widths_22 (by decide) ?_
      refine aw_istore d_MD_widths_23 (Nat.le_of_ble_eq_true rfl) ?_
      refine aw_iconst (v := 0) d_MD_widths_25 (by decide) ?_
      refine aw_istore d_MD_widths_26 (Nat.le_of_ble_eq_true rfl) ?_
      exact h
set_option maxRecDepth 100000 in
theorem vc_MD_widths_c_28 {G : Gp} {d : Nat} {Q : Int32 → Mem → Prop} {x2 x3 x4 x5 x6 : Int32} {μ : Mem}
    (h : (x2 ≤ x6 → ∀ y1 : Int32, y1 = (x3 + x5) → AW G (d + 1) M_MD_widths Q 5 [some (.inr 42), some (.inr 65), some (.inl x2), some (.inl y1), some (.inl (x4 + (1 : Int32))), none, none, none] [] μ) ∧ (¬ x2 ≤ x6 → vp_in x6 60 ∧ (¬ (μ 65 (ix x6)) = x4 → ((0 : Int32) ≤ x5 → AW G (d + 1) M_MD_widths Q 28 [some (.inr 42), some (.inr 65), some (.inl x2), some (.inl x3), some (.inl x4), some (.inl x5), some (.inl (x6 + (1 : Int32))), none] [] μ) ∧ (¬ (0 : Int32) ≤ x5 → AW G (d + 1) M_MD_widths Q 28 [some (.inr 42), some (.inr 65), some (.inl x2), some (.inl x3), some (.inl x4), some (.inl (0 : Int32)), some (.inl (x6 + (1 : Int32))), none] [] μ)) ∧ ((μ 65 (ix x6)) = x4 → vp_in x6 60 ∧ Ct G d M_MD_width [.inr 42, .inl (μ 64 (ix x6))] μ (fun r3 u2 => (r3 ≤ x5 → AW G (d + 1) M_MD_widths Q 28 [some (.inr 42), some (.inr 65), some (.inl x2), some (.inl x3), some (.inl x4), some (.inl x5), some (.inl (x6 + (1 : Int32))), none] [] u2) ∧ (¬ r3 ≤ x5 → AW G (d + 1) M_MD_widths Q 28 [some (.inr 42), some (.inr 65), some (.inl x2), some (.inl x3), some (.inl x4), some (.inl r3), some (.inl (x6 + (1 : Int32))), none] [] u2))))) :
    AW G (d + 1) M_MD_widths Q 28 [some (.inr 42), some (.inr 65), some (.inl x2), some (.inl x3), some (.inl x4), some (.inl x5), some (.inl x6), none] [] μ := by
  refine aw_iload d_MD_widths_28 rfl ?_
  refine aw_iload_n d_MD_widths_30 rfl ?_
  refine aw_icmp_ge (tgt := 82) d_MD_widths_31 (by decide) (fun q => ?_) (fun q => ?_)
  · replace h := h.1 q
    refine aw_iload_n d_MD_widths_82 rfl ?_
    refine aw_iload d_MD_widths_83 rfl ?_
    refine aw_iadd d_MD_widths_85 ?_
    refine aw_top (fun y1 e => ?_)
    replace h := h _ e
    refine aw_istore_n d_MD_widths_86 (Nat.le_of_ble_eq_true rfl) ?_
    refine aw_iinc (v := 1) d_MD_widths_87 rfl (by decide) ?_
    refine aw_goto (tgt := 5) d_MD_widths_90 (by decide) ?_
    refine aw_drop 5 ?_
    refine aw_drop 6 ?_
    exact h
  · replace h := h.2 q
    refine aw_aload_n d_MD_widths_34 rfl ?_
    refine aw_iload d_MD_widths_35 rfl ?_
    refine aw_iald d_MD_widths_37 rfl h.1 ?_
    replace h := h.2
    refine aw_iload d_MD_widths_38 rfl ?_
    refine aw_icmp_ne (tgt := 57) d_MD_widths_40 (by decide) (fun q => ?_) (fun q => ?_)
    · replace h := h.1 q
      refine aw_iconst (v := 0) d_MD_widths_57 (by decide) ?_
      refine aw_istore d_MD_widths_58 (Nat.le_of_ble_eq_true rfl) ?_
      refine aw_iload d_MD_widths_60 rfl ?_
      refine aw_iload d_MD_widths_62 rfl ?_
      refine aw_icmp_le (tgt := 72) d_MD_widths_64 (by decide) (fun q => ?_) (fun q => ?_)
      · replace h := h.1 q
        refine aw_iload d_MD_widths_72 rfl ?_
        refine aw_istore d_MD_widths_74 (Nat.le_of_ble_eq_true rfl) ?_
        refine aw_iinc (v := 1) d_MD_widths_76 rfl (by decide) ?_
        refine aw_goto (tgt := 28) d_MD_widths_79 (by decide) ?_
        refine aw_drop 7 ?_
        exact h
      · replace h := h.2 q
        refine aw_iload d_MD_widths_67 rfl ?_
        refine aw_goto (tgt := 74) d_MD_widths_69 (by decide) ?_
        refine aw_istore d_MD_widths_74 (Nat.le_of_ble_eq_true rfl) ?_
        refine aw_iinc (v := 1) d_MD_widths_76 rfl (by decide) ?_
        refine aw_goto (tgt := 28) d_MD_widths_79 (by decide) ?_
        refine aw_drop 7 ?_
        exact h
    · replace h := h.2 q
      refine aw_aload_n d_MD_widths_43 rfl ?_
      refine aw_aload_n d_MD_widths_44 rfl ?_
      refine aw_getR (t := 64) d_MD_widths_45 lf_MD_78 rfl rfl ?_
      refine aw_iload d_MD_widths_48 rfl ?_
      refine aw_iald d_MD_widths_50 rfl h.1 ?_
      replace h := h.2
      refine aw_callV (as := [.inl (μ 64 (ix x6))]) d_MD_widths_51 lm_MD_162 rfl rfl (by decide) rfl (Nat.le_of_ble_eq_true rfl) rfl h (fun r3 u2 h => ?_)
      refine aw_goto (tgt := 58) d_MD_widths_54 (by decide) ?_
      refine aw_istore d_MD_widths_58 (Nat.le_of_ble_eq_true rfl) ?_
      refine aw_iload d_MD_widths_60 rfl ?_
      refine aw_iload d_MD_widths_62 rfl ?_
      refine aw_icmp_le (tgt := 72) d_MD_widths_64 (by decide) (fun q => ?_) (fun q => ?_)
      · replace h := h.1 q
        refine aw_iload d_MD_widths_72 rfl ?_
        refine aw_istore d_MD_widths_74 (Nat.le_of_ble_eq_true rfl) ?_
        refine aw_iinc (v := 1) d_MD_widths_76 rfl (by decide) ?_
        refine aw_goto (tgt := 28) d_MD_widths_79 (by decide) ?_
        refine aw_drop 7 ?_
        exact h
      · replace h := h.2 q
        refine aw_iload d_MD_widths_67 rfl ?_
        refine aw_goto (tgt := 74) d_MD_widths_69 (by decide) ?_
        refine aw_istore d_MD_widths_74 (Nat.le_of_ble_eq_true rfl) ?_
        refine aw_iinc (v := 1) d_MD_widths_76 rfl (by decide) ?_
        refine aw_goto (tgt := 28) d_MD_widths_79 (by decide) ?_
        refine aw_drop 7 ?_
        exact h
set_option maxRecDepth 100000 in
theorem vc_MD_widths_b_0 {G : Gp} {d : Nat} {Q : Int32 → Mem → Prop} {x2 : Int32} {μ : Mem}
    (h : AW G (d + 1) M_MD_widths Q 5 [some (.inr 42), some (.inr 66), some (.inl x2), some (.inl (0 : Int32)), some (.inl (0 : Int32)), none, none, none] [] μ) :
    AW G (d + 1) M_MD_widths Q 0 [some (.inr 42), some (.inr 66), some (.inl x2), none, none, none, none, none] [] μ := by
  refine aw_iconst (v := 0) d_MD_widths_0 (by decide) ?_
  refine aw_istore_n d_MD_widths_1 (Nat.le_of_ble_eq_true rfl) ?_
  refine aw_iconst (v := 0) d_MD_widths_2 (by decide) ?_
  refine aw_istore d_MD_widths_3 (Nat.le_of_ble_eq_true rfl) ?_
  exact h
theorem en_MD_widths_b {G : Gp} {d : Nat} {Q : Int32 → Mem → Prop} {x2 : Int32} {μ : Mem}
    (h : AW G (d + 1) M_MD_widths Q 0 [some (.inr 42), some (.inr 66), some (.inl x2), none, none, none, none, none] [] μ) :
    Ct G (d + 1) M_MD_widths [.inr 42, .inr 66, .inl x2] μ Q := ct_of (by decide) (Nat.le_of_ble_eq_true rfl) h
set_option maxRecDepth 100000 in
theorem vc_MD_widths_b_5 {G : Gp} {d : Nat} {Q : Int32 → Mem → Prop} {x2 x3 x4 : Int32} {μ : Mem}
    (h : ((6 : Int32) ≤ x2 → (x2 ≤ x4 → Q x3 μ) ∧ (¬ x2 ≤ x4 → AW G (d + 1) M_MD_widths Q 28 [some (.inr 42), some (.inr 66), some (.inl x2), some (.inl x3), some (.inl x4), some (.inl (0 : Int32)), some (.inl (0 : Int32)), none] [] μ)) ∧ (¬ (6 : Int32) ≤ x2 → ((6 : Int32) ≤ x4 → Q x3 μ) ∧ (¬ (6 : Int32) ≤ x4 → AW G (d + 1) M_MD_widths Q 28 [some (.inr 42), some (.inr 66), some (.inl x2), some (.inl x3), some (.inl x4), some (.inl (0 : Int32)), some (.inl (0 : Int32)), none] [] μ))) :
    AW G (d + 1) M_MD_widths Q 5 [some (.inr 42), some (.inr 66), some (.inl x2), some (.inl x3), some (.inl x4), none, none, none] [] μ := by
  refine aw_iload d_MD_widths_5 rfl ?_
  refine aw_iload_n d_MD_widths_7 rfl ?_
  refine aw_bipush (v := 6) d_MD_widths_8 (by decide) ?_
  refine aw_icmp_ge (tgt := 18) d_MD_widths_10 (by decide) (fun q => ?_) (fun q => ?_)
  · replace h := h.1 q
    refine aw_iload_n d_MD_widths_18 rfl ?_
    refine aw_icmp_ge (tgt := 93) d_MD_widths_19 (by decide) (fun q => ?_) (fun q => ?_)
    · replace h := h.1 q
      refine aw_iload_n d_MD_widths_93 rfl ?_
      exact aw_iret d_MD_widths_94 rfl h
    · replace h := h.2 q
      refine aw_iconst (v := 0) d_MD_widths_22 (by decide) ?_
      refine aw_istore d_MD_widths_23 (Nat.le_of_ble_eq_true rfl) ?_
      refine aw_iconst (v := 0) d_MD_widths_25 (by decide) ?_
      refine aw_istore d_MD_widths_26 (Nat.le_of_ble_eq_true rfl) ?_
      exact h
  · replace h := h.2 q
    refine aw_bipush (v := 6) d_MD_widths_13 (by decide) ?_
    refine aw_goto (tgt := 19) d_MD_widths_15 (by decide) ?_
    refine aw_icmp_ge (tgt := 93) d_MD_widths_19 (by decide) (fun q => ?_) (fun q => ?_)
    · replace h := h.1 q
      refine aw_iload_n d_MD_widths_93 rfl ?_
      exact aw_iret d_MD_widths_94 rfl h
    · replace h := h.2 q
      refine aw_iconst (v := 0) d_MD_widths_22 (by decide) ?_
      refine aw_istore d_MD_widths_23 (Nat.le_of_ble_eq_true rfl) ?_
      refine aw_iconst (v := 0) d_MD_widths_25 (by decide) ?_
      refine aw_istore d_MD_widths_26 (Nat.le_of_ble_eq_true rfl) ?_
      exact h
set_option maxRecDepth 100000 in
theorem vc_MD_widths_b_28 {G : Gp} {d : Nat} {Q : Int32 → Mem → Prop} {x2 x3 x4 x5 x6 : Int32} {μ : Mem}
    (h : (x2 ≤ x6 → ∀ y1 : Int32, y1 = (x3 + x5) → AW G (d + 1) M_MD_widths Q 5 [some (.inr 42), some (.inr 66), some (.inl x2), some (.inl y1), some (.inl (x4 + (1 : Int32))), none, none, none] [] μ) ∧ (¬ x2 ≤ x6 → vp_in x6 60 ∧ (¬ (μ 66 (ix x6)) = x4 → ((0 : Int32) ≤ x5 → AW G (d + 1) M_MD_widths Q 28 [some (.inr 42), some (.inr 66), some (.inl x2), some (.inl x3), some (.inl x4), some (.inl x5), some (.inl (x6 + (1 : Int32))), none] [] μ) ∧ (¬ (0 : Int32) ≤ x5 → AW G (d + 1) M_MD_widths Q 28 [some (.inr 42), some (.inr 66), some (.inl x2), some (.inl x3), some (.inl x4), some (.inl (0 : Int32)), some (.inl (x6 + (1 : Int32))), none] [] μ)) ∧ ((μ 66 (ix x6)) = x4 → vp_in x6 60 ∧ Ct G d M_MD_width [.inr 42, .inl (μ 64 (ix x6))] μ (fun r3 u2 => (r3 ≤ x5 → AW G (d + 1) M_MD_widths Q 28 [some (.inr 42), some (.inr 66), some (.inl x2), some (.inl x3), some (.inl x4), some (.inl x5), some (.inl (x6 + (1 : Int32))), none] [] u2) ∧ (¬ r3 ≤ x5 → AW G (d + 1) M_MD_widths Q 28 [some (.inr 42), some (.inr 66), some (.inl x2), some (.inl x3), some (.inl x4), some (.inl r3), some (.inl (x6 + (1 : Int32))), none] [] u2))))) :
    AW G (d + 1) M_MD_widths Q 28 [some (.inr 42), some (.inr 66), some (.inl x2), some (.inl x3), some (.inl x4), some (.inl x5), some (.inl x6), none] [] μ := by
  refine aw_iload d_MD_widths_28 rfl ?_
  refine aw_iload_n d_MD_widths_30 rfl ?_
  refine aw_icmp_ge (tgt := 82) d_MD_widths_31 (by decide) (fun q => ?_) (fun q => ?_)
  · replace h := h.1 q
    refine aw_iload_n d_MD_widths_82 rfl ?_
    refine aw_iload d_MD_widths_83 rfl ?_
    refine aw_iadd d_MD_widths_85 ?_
    refine aw_top (fun y1 e => ?_)
    replace h := h _ e
    refine aw_istore_n d_MD_widths_86 (Nat.le_of_ble_eq_true rfl) ?_
    refine aw_iinc (v := 1) d_MD_widths_87 rfl (by decide) ?_
    refine aw_goto (tgt := 5) d_MD_widths_90 (by decide) ?_
    refine aw_drop 5 ?_
    refine aw_drop 6 ?_
    exact h
  · replace h := h.2 q
    refine aw_aload_n d_MD_widths_34 rfl ?_
    refine aw_iload d_MD_widths_35 rfl ?_
    refine aw_iald d_MD_widths_37 rfl h.1 ?_
    replace h := h.2
    refine aw_iload d_MD_widths_38 rfl ?_
    refine aw_icmp_ne (tgt := 57) d_MD_widths_40 (by decide) (fun q => ?_) (fun q => ?_)
    · replace h := h.1 q
      refine aw_iconst (v := 0) d_MD_widths_57 (by decide) ?_
      refine aw_istore d_MD_widths_58 (Nat.le_of_ble_eq_true rfl) ?_
      refine aw_iload d_MD_widths_60 rfl ?_
      refine aw_iload d_MD_widths_62 rfl ?_
      refine aw_icmp_le (tgt := 72) d_MD_widths_64 (by decide) (fun q => ?_) (fun q => ?_)
      · replace h := h.1 q
        refine aw_iload d_MD_widths_72 rfl ?_
        refine aw_istore d_MD_widths_74 (Nat.le_of_ble_eq_true rfl) ?_
        refine aw_iinc (v := 1) d_MD_widths_76 rfl (by decide) ?_
        refine aw_goto (tgt := 28) d_MD_widths_79 (by decide) ?_
        refine aw_drop 7 ?_
        exact h
      · replace h := h.2 q
        refine aw_iload d_MD_widths_67 rfl ?_
        refine aw_goto (tgt := 74) d_MD_widths_69 (by decide) ?_
        refine aw_istore d_MD_widths_74 (Nat.le_of_ble_eq_true rfl) ?_
        refine aw_iinc (v := 1) d_MD_widths_76 rfl (by decide) ?_
        refine aw_goto (tgt := 28) d_MD_widths_79 (by decide) ?_
        refine aw_drop 7 ?_
        exact h
    · replace h := h.2 q
      refine aw_aload_n d_MD_widths_43 rfl ?_
      refine aw_aload_n d_MD_widths_44 rfl ?_
      refine aw_getR (t := 64) d_MD_widths_45 lf_MD_78 rfl rfl ?_
      refine aw_iload d_MD_widths_48 rfl ?_
      refine aw_iald d_MD_widths_50 rfl h.1 ?_
      replace h := h.2
      refine aw_callV (as := [.inl (μ 64 (ix x6))]) d_MD_widths_51 lm_MD_162 rfl rfl (by decide) rfl (Nat.le_of_ble_eq_true rfl) rfl h (fun r3 u2 h => ?_)
      refine aw_goto (tgt := 58) d_MD_widths_54 (by decide) ?_
      refine aw_istore d_MD_widths_58 (Nat.le_of_ble_eq_true rfl) ?_
      refine aw_iload d_MD_widths_60 rfl ?_
      refine aw_iload d_MD_widths_62 rfl ?_
      refine aw_icmp_le (tgt := 72) d_MD_widths_64 (by decide) (fun q => ?_) (fun q => ?_)
      · replace h := h.1 q
        refine aw_iload d_MD_widths_72 rfl ?_
        refine aw_istore d_MD_widths_74 (Nat.le_of_ble_eq_true rfl) ?_
        refine aw_iinc (v := 1) d_MD_widths_76 rfl (by decide) ?_
        refine aw_goto (tgt := 28) d_MD_widths_79 (by decide) ?_
        refine aw_drop 7 ?_
        exact h
      · replace h := h.2 q
        refine aw_iload d_MD_widths_67 rfl ?_
        refine aw_goto (tgt := 74) d_MD_widths_69 (by decide) ?_
        refine aw_istore d_MD_widths_74 (Nat.le_of_ble_eq_true rfl) ?_
        refine aw_iinc (v := 1) d_MD_widths_76 rfl (by decide) ?_
        refine aw_goto (tgt := 28) d_MD_widths_79 (by decide) ?_
        refine aw_drop 7 ?_
        exact h
