/-! whole_start; printed by wip/whole/print_start.py -/
set_option maxHeartbeats 8000000 in
set_option maxRecDepth 100000 in
/-- THE LAW, from its entry -/
theorem whole_start {p : Program} {e : Env} {s : State} {m : MethodId} {below : List Frame} {meth : Method} {c : Code} (l : Launch) {b L : Nat} {xs : Nat → Int32} (hL : L ≤ 3072) (C0 : lw_At p s m meth c b L xs) : W p l e room_1 s m #[Value.ref b] below meth c s.heap [] 0 0 (lw_Z below #[Value.ref b] s) (entryFrame m ([Value.ref b] : List Value).toArray 4) := by
  obtain ⟨hx, hb, hr, hml, hown, hts, hX, hbl, hlocks, hgv⟩ := id C0
  have hA : ∀ q : Nat, s.heap.size ≤ q → (fun q : Nat => s.heap.size ≤ q) q := fun _ h => h
  obtain ⟨gs, hgs⟩ := Classical.axiomOfChoice (st_all C0)
  have kn : ∀ k : Nat, ∃ d : ClassId × (Nat → Nat), ∀ q : vw_C, classes[k]? = some q → u_Kn s q.1 q.2.1 q.2.2 d.1 d.2 := by
    intro k
    cases hk : classes[k]? with
    | none => exact ⟨(0, fun _ => 0), fun q h => by cases h⟩
    | some q =>
      obtain ⟨Cn, T, N⟩ := q
      obtain ⟨o1, -, -⟩ := cls_ok k Cn T N hk
      obtain ⟨cC, iS, h⟩ := u_known hts (fun w hw => gw_lw (o1 w hw)) (hts _ (gw_lw (inst_ok k (Cn, T, N) hk)))
      exact ⟨(cC, iS), fun q' h' => by cases h'; exact h⟩
  obtain ⟨dd, hdd⟩ := Classical.axiomOfChoice kn
  obtain ⟨cI, kI, compI, f1, f2, f3⟩ := Cond.arrayClass_spec (hts _ (gw_lw li_int))
  obtain ⟨cZ, kZ, compZ, g1, g2, g3⟩ := Cond.arrayClass_spec (hts _ (gw_lw li_bool))
  generalize hDe : ((fun k => (dd k).1, fun k => (dd k).2) : va_G) = D
  have hK : va_K D classes [(cI, .int), (cZ, .boolean)] s := by
    subst hDe
    refine ⟨fun k q hq => hdd k q hq, fun k q hk => ?_⟩
    match k, hk with
    | 0, hk => cases hk; exact ⟨fun n z => ⟨fun k h => (by cases h), kI, f2, compI, f3⟩, f1⟩
    | 1, hk => cases hk; exact ⟨fun n z => ⟨fun k h => (by cases h), kZ, g2, compZ, g3⟩, g1⟩
    | k + 2, hk => simp at hk
  have hN : NW s := ⟨va_Nw.of rfl (hts _ nw_NO), va_Nw.of rfl (hts _ nw_BB), va_Nw.of rfl (hts _ nw_KR), va_Nw.of rfl (hts _ nw_SE)⟩
  have hS : va_S (fun q : Nat => s.heap.size ≤ q) s.heap s.heap [] := va_S.rf
  have hP : va_P D classes [] s.heap := fun k q h => by simp at h
  have hD : va_D (fun q : Nat => s.heap.size ≤ q) [] := ⟨fun i j p q h => by simp at h, fun k q h => by simp at h⟩
  have hl := lv_entry ([.ref b]) (n := 4) (Nat.le_of_ble_eq_true rfl)
  rw [lg_entry_eq]
  generalize (lg_sl ([.ref b]) ++ List.replicate (4 - (lg_sl ([.ref b])).length) Slot.unset).toArray = ls at hl ⊢
  have hl : lv_has ls 4 [(0, .ref b)] := hl
  refine va_new (ci := 7) (fs := fs_SD) (C := R_SD) (T := T_SD) (N := 8) hx hb hts (fun w hw => gw_lw (wi_SD w hw)) t_SD tk_SD hown (hts _ (gw_lw lL_7)) (hts _ (gw_lw (inst_ok 7 _ rfl))) (hts _ (gw_lw lL_S)) hK hP hD hS hA rfl df_SD (Nat.le_of_ble_eq_true rfl) (Nat.le_of_ble_eq_true rfl) d_law_0 (fun q0 H hP hD hS => ?_)
  have hP : va_P D classes [(q0, .inr (7, fs_SD))] H := hP
  have hD : va_D (fun q : Nat => s.heap.size ≤ q) [(q0, .inr (7, fs_SD))] := hD
  refine lv_dup hx hb d_law_3 rfl ?_
  have hFc := va_free (wc := [(q0, .inr (7, fs_SD))]) hD hS hA [0] rfl
  have k1 := lk_law_9
  have hcb := callB_of (R := room_1) (rm := rm_SD) (mc := 41) (ms := 8608) (own := R_law) (index := 9) (y := M_SD_init.1) (bytes := M_SD_init.2.1) (maxL := M_SD_init.2.2.1) (ret := none) 0 hts (lw_good (M' := M_SD_init) k1.2.2.1) rfl rfl rfl (hts _ (gw_lw k1.2.1)) (hts _ (gw_lw k1.1)) k1.2.2.2.1 ⟨by decide, by decide⟩
  refine va_callv (va_runI (As := []) (rest := [.ref q0]) ⟨hx, hb, hml, hown, hts⟩ (i_SD l D cI cZ q0 H.size) ⟨hcb, k1.2.2.2.2.2.1, hts _ (gw_lw k1.2.2.2.2.1)⟩ ⟨preI_blind _ D cI cZ _ _, fun U hU hW => ⟨rfl, by rw [hU], by rw [hU]; exact hP, va_K.moved hW.alike hK, hD.weaken (fun _ _ _ _ => trivial), NW.warm hW hN⟩⟩ rfl rfl hl.1 rfl (lv_room (Nat.le_of_ble_eq_true rfl)) d_law_4 ⟨Nat.le_of_ble_eq_true rfl, Nat.le_of_ble_eq_true rfl⟩) hS (fun q _ h => hFc q h) hFc (fun u t H1 locs ht hvm hw hB hz1 hk1 hS => ?_)
  obtain ⟨w1, hsh, hP1, hD1⟩ := hB
  rw [ht] at hP1
  obtain ⟨hP, hD⟩ := va_join (wr := []) (w1 := w1) hP hD [0] [] rfl rfl (by decide) (by decide) hk1 hFc hP1 hD1
  obtain ⟨q1, q2, q3, q4, q5, q6, q7, q8, q9, q10, q11, q12, q13, q14, q15, q16, q17, q18, q19, q20, q21, q22, q23, q24, q25, q26, q27, q28, q29, q30, q31, q32, q33, q34, q35, q36, q37, q38, q39, q40, q41, rfl⟩ := hsh
  rw [List.nil_append] at hP hD
  generalize H1 = H at hP hS ⊢
  refine lv_astore_n (lv' := [(1, .ref q0), (0, .ref b)]) hx hb d_law_7 rfl hl (by decide) rfl (fun ls hl => ?_)
  refine va_new (ci := 8) (fs := fs_MD) (C := R_MD) (T := T_MD) (N := 31) hx hb hts (fun w hw => gw_lw (wi_MD w hw)) t_MD tk_MD hown (hts _ (gw_lw lL_10)) (hts _ (gw_lw (inst_ok 8 _ rfl))) (hts _ (gw_lw lL_M)) hK hP hD hS hA rfl df_MD (Nat.le_of_ble_eq_true rfl) (Nat.le_of_ble_eq_true rfl) d_law_8 (fun r0 H hP hD hS => ?_)
  refine lv_dup hx hb d_law_11 rfl ?_
  have hPc := hP.sub (ws' := [(r0, .inr (8, fs_MD))]) [42] rfl
  have hDc := hD.sub (ws' := [(r0, .inr (8, fs_MD))]) [42] (by decide) rfl
  have hFc := va_free (wc := [(r0, .inr (8, fs_MD))]) hD hS hA [42] rfl
  have k2 := lk_law_12
  have hcb := callB_of (R := room_1) (rm := rm_MD) (mc := 26) (ms := 26465) (own := R_law) (index := 12) (y := M_MD_init.1) (bytes := M_MD_init.2.1) (maxL := M_MD_init.2.2.1) (ret := none) 0 hts (lw_good (M' := M_MD_init) k2.2.2.1) rfl rfl rfl (hts _ (gw_lw k2.2.1)) (hts _ (gw_lw k2.1)) k2.2.2.2.1 ⟨by decide, by decide⟩
  refine va_callv (va_runI (As := []) (rest := [.ref r0]) ⟨hx, hb, hml, hown, hts⟩ (i_MD l D cI cZ r0 H.size) ⟨hcb, k2.2.2.2.2.2.1, hts _ (gw_lw k2.2.2.2.2.1)⟩ ⟨preI_blind _ D cI cZ _ _, fun U hU hW => ⟨rfl, by rw [hU], by rw [hU]; exact hPc, va_K.moved hW.alike hK, hDc.weaken (fun _ _ _ _ => trivial), NW.warm hW hN⟩⟩ rfl rfl hl.1 rfl (lv_room (Nat.le_of_ble_eq_true rfl)) d_law_12 ⟨Nat.le_of_ble_eq_true rfl, Nat.le_of_ble_eq_true rfl⟩) hS (fun q _ h => hFc q h) hFc (fun u t H1 locs ht hvm hw hB hz1 hk1 hS => ?_)
  obtain ⟨w2, hsh, hP1, hD1⟩ := hB
  rw [ht] at hP1
  obtain ⟨hP, hD⟩ := va_join (wr := [(q0, .inr (7, [.ref q1, .ref q9, .ref q12, .ref q15, .ref q16, .ref q27, .ref q33, .ref q38])), (q1, .inr (4, [.ref q2, .ref q3, .ref q4, .ref q5, .ref q6, .ref q7, .ref q8, .int 0])), (q2, .inl (cI, 60, .inl (fun _ => 0))), (q3, .inl (cI, 60, .inl (fun _ => 0))), (q4, .inl (cI, 60, .inl (fun _ => 0))), (q5, .inl (cI, 60, .inl (fun _ => 0))), (q6, .inl (cI, 60, .inl (fun _ => 0))), (q7, .inl (cI, 60, .inl (fun _ => 0))), (q8, .inl (cI, 180, .inl (fun _ => 0))), (q9, .inr (0, [.ref q10, .ref q11])), (q10, .inl (cI, 20, .inl (fun _ => 0))), (q11, .inl (cZ, 20, .inl (fun _ => 0))), (q12, .inr (0, [.ref q13, .ref q14])), (q13, .inl (cI, 20, .inl (fun _ => 0))), (q14, .inl (cZ, 20, .inl (fun _ => 0))), (q15, .inl (cI, 5, .inl (fun _ => 0))), (q16, .inr (6, [.ref q1, .ref q9, .ref q15, .ref q17, .ref q23, .ref q24, .ref q25, .ref q26, .int 0, .int 0, .int 0])), (q17, .inr (5, [.ref q18, .ref q19, .ref q20, .ref q21, .ref q22])), (q18, .inl (cI, 280, .inl (fun _ => 0))), (q19, .inl (cI, 280, .inl (fun _ => 0))), (q20, .inl (cI, 280, .inl (fun _ => 0))), (q21, .inl (cI, 280, .inl (fun _ => 0))), (q22, .inl (cI, 280, .inl (fun _ => 0))), (q23, .inl (cI, 60, .inl (fun _ => 0))), (q24, .inl (cI, 60, .inl (fun _ => 0))), (q25, .inl (cI, 60, .inl (fun _ => 0))), (q26, .inl (cI, 60, .inl (fun _ => 0))), (q27, .inr (1, [.ref q1, .ref q16, .ref q28, .ref q29, .ref q30, .ref q31, .ref q32, .int 0, .int 0, .int (-1)])), (q28, .inl (cI, 60, .inl (fun _ => 0))), (q29, .inl (cI, 60, .inl (fun _ => 0))), (q30, .inl (cI, 60, .inl (fun _ => 0))), (q31, .inl (cI, 60, .inl (fun _ => 0))), (q32, .inl (cI, 60, .inl (fun _ => 0))), (q33, .inr (2, [.ref q1, .ref q34, .ref q35, .ref q36, .ref q37, .int 0, .int 0, .int 0, .int (-1)])), (q34, .inl (cI, 70, .inl (fun _ => 0))), (q35, .inl (cI, 60, .inl (fun _ => 0))), (q36, .inl (cI, 60, .inl (fun _ => 0))), (q37, .inl (cI, 5760, .inl (fun _ => 0))), (q38, .inr (3, [.ref q39, .ref q40, .ref q41, .int 0])), (q39, .inl (cI, 14, .inl (fun _ => 0))), (q40, .inl (cI, 14, .inl (fun _ => 0))), (q41, .inl (cI, 14, .inl (fun _ => 0)))]) (w1 := w2) hP hD [42] [0, 1, 2, 3, 4, 5, 6, 7, 8, 9, 10, 11, 12, 13, 14, 15, 16, 17, 18, 19, 20, 21, 22, 23, 24, 25, 26, 27, 28, 29, 30, 31, 32, 33, 34, 35, 36, 37, 38, 39, 40, 41] rfl rfl (by decide) (by decide) hk1 hFc hP1 hD1
  obtain ⟨r1, r2, r3, r4, r5, r6, r7, r8, r9, r10, r11, r12, r13, r14, r15, r16, r17, r18, r19, r20, r21, r22, r23, r24, r25, r26, rfl⟩ := hsh
  generalize H1 = H at hP hS ⊢
  rw [wsM_0 l D cI cZ gs] at hP hD
  generalize hGe : ((l, D, (fun k => ([q0, q1, q2, q3, q4, q5, q6, q7, q8, q9, q10, q11, q12, q13, q14, q15, q16, q17, q18, q19, q20, q21, q22, q23, q24, q25, q26, q27, q28, q29, q30, q31, q32, q33, q34, q35, q36, q37, q38, q39, q40, q41, r0, r1, r2, r3, r4, r5, r6, r7, r8, r9, r10, r11, r12, r13, r14, r15, r16, r17, r18, r19, r20, r21, r22, r23, r24, r25, r26] : List Nat).getD k 0), (cI, cZ), gs) : Gp) = G at hP hD
  have hge : ∀ k, k < NC → s.heap.size ≤ gA G k := by
    intro k hk
    have hkl : k < lay.length := by rw [lay_len]; exact hk
    exact hD.2 k _ (ws_at G μ0 (List.getElem?_eq_getElem hkl)).2
  have hG : Gok G := by
    intro i j hi hj he
    have hil : i < lay.length := by rw [lay_len]; exact hi
    have hjl : j < lay.length := by rw [lay_len]; exact hj
    exact hD.1 i j _ _ (ws_at G μ0 (List.getElem?_eq_getElem hil)).2 (ws_at G μ0 (List.getElem?_eq_getElem hjl)).2 he
  have hAA : ∀ q, AA G q → s.heap.size ≤ q := fun q h => by obtain ⟨j, hj, rfl⟩ := h; exact hge j hj
  have hg0 : gA G 0 = q0 := by rw [← hGe]; rfl
  have hg42 : gA G 42 = r0 := by rw [← hGe]; rfl
  have hgl : G.1 = l := by rw [← hGe]
  have hKG : va_K (gD G) classes (tysM G) s := by rw [← hGe]; exact hK
  have hPG : va_P (gD G) classes (wsM G μ0) H := by
    have : gD G = D := by rw [← hGe]
    rw [this]; exact hP
  have hSx : Sx G s s.heap := by
    refine ⟨va_Nw.of rfl (hts _ nw_W), fun k q hq => ?_⟩
    have hgS : gS G k = gs k := by rw [← hGe]
    rw [hgS]
    exact ⟨(hgs k q hq).1.narrow hAA, (hgs k q hq).2.narrow hAA⟩
  refine lv_astore_n (lv' := [(2, .ref r0), (1, .ref q0), (0, .ref b)]) hx hb d_law_15 rfl hl (by decide) rfl (fun ls hl => ?_)
  refine lv_iconst (v := 0) hx hb d_law_16 (by decide) ?_
  refine lv_istore_n (lv' := [(3, .int 0), (2, .ref r0), (1, .ref q0), (0, .ref b)]) hx hb d_law_17 rfl hl (by decide) rfl (fun ls hl => ?_)
  refine W.widen (k := 600000) (n := 7302250) (by decide) (by decide) ?_
  have hl' : lv_has ls 4 [(0, .ref b), (1, .ref (gA G 0)), (2, .ref (gA G 42)), (3, .int (nI 0))] := by
    rw [hg0, hg42]; exact lv_sub hl [3, 2, 1, 0] rfl
  have key := law_loop (G := G) (b := b) (xs := xs) hL (L + 1) 0 (Nat.zero_le L) (by omega) μ0 JJ_0 p e s m below meth c H locs ls C0 hG hKG hSx hge hPG hS hl'
  rw [hgl] at key
  exact key
