/-! verification conditions, by program -/
set_option maxRecDepth 100000 in
theorem vc_MD_keySign_167 {G : Gp} {d : Nat} {Q : Int32 → Mem → Prop} {x5 x6 x7 s0 : Int32} {μ : Mem}
    (h : (x5 ≤ 0 → (¬ x7 = 0 → (¬ x7 = (1 : Int32) → ∀ y1 : Int32, y1 = ((7 : Int32) - (1 : Int32)) → AW G (d + 1) M_MD_keySign Q 204 [none, none, none, none, none, none, some (.inl x6), none, some (.inl s0), some (.inl y1)] [] μ) ∧ (x7 = (1 : Int32) → ∀ y2 : Int32, y2 = ((7 : Int32) - (2 : Int32)) → AW G (d + 1) M_MD_keySign Q 204 [none, none, none, none, none, none, some (.inl x6), none, some (.inl s0), some (.inl y2)] [] μ)) ∧ (x7 = 0 → ∀ y3 : Int32, y3 = ((7 : Int32) - (0 : Int32)) → AW G (d + 1) M_MD_keySign Q 204 [none, none, none, none, none, none, some (.inl x6), none, some (.inl s0), some (.inl y3)] [] μ)) ∧ (¬ x5 ≤ 0 → (¬ x7 = 0 → (¬ x7 = (1 : Int32) → ∀ y4 : Int32, y4 = ((9 : Int32) - (1 : Int32)) → AW G (d + 1) M_MD_keySign Q 204 [none, none, none, none, none, none, some (.inl x6), none, some (.inl s0), some (.inl y4)] [] μ) ∧ (x7 = (1 : Int32) → ∀ y5 : Int32, y5 = ((9 : Int32) - (2 : Int32)) → AW G (d + 1) M_MD_keySign Q 204 [none, none, none, none, none, none, some (.inl x6), none, some (.inl s0), some (.inl y5)] [] μ)) ∧ (x7 = 0 → ∀ y6 : Int32, y6 = ((9 : Int32) - (0 : Int32)) → AW G (d + 1) M_MD_keySign Q 204 [none, none, none, none, none, none, some (.inl x6), none, some (.inl s0), some (.inl y6)] [] μ))) :
    AW G (d + 1) M_MD_keySign Q 167 [none, none, none, none, none, some (.inl x5), some (.inl x6), some (.inl x7), none, none] [.inl s0] μ := by
  refine aw_istore d_MD_keySign_167 (Nat.le_of_ble_eq_true rfl) ?_
  refine aw_iload d_MD_keySign_169 rfl ?_
  refine aw_if_le (tgt := 179) d_MD_keySign_171 (by decide) (fun q => ?_) (fun q => ?_)
  · replace h := h.1 q
    refine aw_bipush (v := 7) d_MD_keySign_179 (by decide) ?_
    refine aw_iload d_MD_keySign_181 rfl ?_
    refine aw_if_ne (tgt := 190) d_MD_keySign_183 (by decide) (fun q => ?_) (fun q => ?_)
    · replace h := h.1 q
      refine aw_iload d_MD_keySign_190 rfl ?_
      refine aw_iconst (v := 1) d_MD_keySign_192 (by decide) ?_
      refine aw_icmp_ne (tgt := 200) d_MD_keySign_193 (by decide) (fun q => ?_) (fun q => ?_)
      · replace h := h.1 q
        refine aw_iconst (v := 1) d_MD_keySign_200 (by decide) ?_
        refine aw_isub d_MD_keySign_201 ?_
        refine aw_top (fun y1 e => ?_)
        replace h := h _ e
        refine aw_istore d_MD_keySign_202 (Nat.le_of_ble_eq_true rfl) ?_
        refine aw_drop 5 ?_
        refine aw_drop 7 ?_
        exact h
      · replace h := h.2 q
        refine aw_iconst (v := 2) d_MD_keySign_196 (by decide) ?_
        refine aw_goto (tgt := 201) d_MD_keySign_197 (by decide) ?_
        refine aw_isub d_MD_keySign_201 ?_
        refine aw_top (fun y2 e => ?_)
        replace h := h _ e
        refine aw_istore d_MD_keySign_202 (Nat.le_of_ble_eq_true rfl) ?_
        refine aw_drop 5 ?_
        refine aw_drop 7 ?_
        exact h
    · replace h := h.2 q
      refine aw_iconst (v := 0) d_MD_keySign_186 (by decide) ?_
      refine aw_goto (tgt := 201) d_MD_keySign_187 (by decide) ?_
      refine aw_isub d_MD_keySign_201 ?_
      refine aw_top (fun y3 e => ?_)
      replace h := h _ e
      refine aw_istore d_MD_keySign_202 (Nat.le_of_ble_eq_true rfl) ?_
      refine aw_drop 5 ?_
      refine aw_drop 7 ?_
      exact h
  · replace h := h.2 q
    refine aw_bipush (v := 9) d_MD_keySign_174 (by decide) ?_
    refine aw_goto (tgt := 181) d_MD_keySign_176 (by decide) ?_
    refine aw_iload d_MD_keySign_181 rfl ?_
    refine aw_if_ne (tgt := 190) d_MD_keySign_183 (by decide) (fun q => ?_) (fun q => ?_)
    · replace h := h.1 q
      refine aw_iload d_MD_keySign_190 rfl ?_
      refine aw_iconst (v := 1) d_MD_keySign_192 (by decide) ?_
      refine aw_icmp_ne (tgt := 200) d_MD_keySign_193 (by decide) (fun q => ?_) (fun q => ?_)
      · replace h := h.1 q
        refine aw_iconst (v := 1) d_MD_keySign_200 (by decide) ?_
        refine aw_isub d_MD_keySign_201 ?_
        refine aw_top (fun y4 e => ?_)
        replace h := h _ e
        refine aw_istore d_MD_keySign_202 (Nat.le_of_ble_eq_true rfl) ?_
        refine aw_drop 5 ?_
        refine aw_drop 7 ?_
        exact h
      · replace h := h.2 q
        refine aw_iconst (v := 2) d_MD_keySign_196 (by decide) ?_
        refine aw_goto (tgt := 201) d_MD_keySign_197 (by decide) ?_
        refine aw_isub d_MD_keySign_201 ?_
        refine aw_top (fun y5 e => ?_)
        replace h := h _ e
        refine aw_istore d_MD_keySign_202 (Nat.le_of_ble_eq_true rfl) ?_
        refine aw_drop 5 ?_
        refine aw_drop 7 ?_
        exact h
    · replace h := h.2 q
      refine aw_iconst (v := 0) d_MD_keySign_186 (by decide) ?_
      refine aw_goto (tgt := 201) d_MD_keySign_187 (by decide) ?_
      refine aw_isub d_MD_keySign_201 ?_
      refine aw_top (fun y6 e => ?_)
      replace h := h _ e
      refine aw_istore d_MD_keySign_202 (Nat.le_of_ble_eq_true rfl) ?_
      refine aw_drop 5 ?_
      refine aw_drop 7 ?_
      exact h
set_option maxRecDepth 100000 in
theorem vc_MD_keySign_204 {G : Gp} {d : Nat} {Q : Int32 → Mem → Prop} {x6 x8 x9 : Int32} {μ : Mem}
    (h : (((x9 + x8) - (x9 + x8) / (7 : Int32) * (7 : Int32)) = x6 → Q (x9 + (100 : Int32)) μ) ∧ (¬ ((x9 + x8) - (x9 + x8) / (7 : Int32) * (7 : Int32)) = x6 → AW G (d + 1) M_MD_keySign Q 204 [none, none, none, none, none, none, some (.inl x6), none, some (.inl x8), some (.inl (x9 + (-1 : Int32)))] [] μ)) :
    AW G (d + 1) M_MD_keySign Q 204 [none, none, none, none, none, none, some (.inl x6), none, some (.inl x8), some (.inl x9)] [] μ := by
  refine aw_iload d_MD_keySign_204 rfl ?_
  refine aw_iload d_MD_keySign_206 rfl ?_
  refine aw_iadd d_MD_keySign_208 ?_
  refine aw_bipush (v := 7) d_MD_keySign_209 (by decide) ?_
  refine aw_irem d_MD_keySign_211 (by decide) ?_
  refine aw_iload d_MD_keySign_212 rfl ?_
  refine aw_icmp_eq (tgt := 223) d_MD_keySign_214 (by decide) (fun q => ?_) (fun q => ?_)
  · replace h := h.1 q
    refine aw_iload d_MD_keySign_223 rfl ?_
    refine aw_bipush (v := 100) d_MD_keySign_225 (by decide) ?_
    refine aw_iadd d_MD_keySign_227 ?_
    exact aw_iret d_MD_keySign_228 rfl h
  · replace h := h.2 q
    refine aw_iinc (v := (-1)) d_MD_keySign_217 rfl (by decide) ?_
    refine aw_goto (tgt := 204) d_MD_keySign_220 (by decide) ?_
    exact h
