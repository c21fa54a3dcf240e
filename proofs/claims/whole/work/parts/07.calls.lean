/-! calls -/
section Calls
variable {G : Gp} {d : Nat} {M M' : Mt} {Q Q' : Int32 → Mem → Prop} {pc : Nat} {L : List (Option AV)} {st : List AV} {μ : Mem}
theorem cat_sum (G : Gp) : ∀ st : List AV, ((st.map (cv G)).map fun v => v.category).sum = st.length := by
  intro st
  induction st with
  | nil => rfl
  | cons a t ih => simp only [List.map_cons, List.sum_cons, cv_cat, ih, List.length_cons]; omega
theorem pre_blind (G : Gp) (av : List Value) (μ : Mem) : FrameBlind (va_Pc av (PreW G μ)) := by
  intro a U g mk q
  obtain ⟨q0, q1, q2, q3, q4⟩ := q
  exact ⟨q0, q1, q2, va_K.moved (u := U) (U := U.calling g mk a) (Vm.Alike.refl U.vm) q3, va_Nw.same rfl (u := U) (U := U.calling g mk a) rfl q4.1, fun k x hx => ⟨va_Z.moved (u := U) (U := U.calling g mk a) (Vm.Alike.refl U.vm) (q4.2 k x hx).1, va_T.moved (u := U) (U := U.calling g mk a) (Vm.Alike.refl U.vm) (q4.2 k x hx).2⟩⟩
theorem pre_at {p : Program} {s : State} {m : MethodId} {args : Array Value} {meth : Method} {c : Code} {H : Heap} {locs : List Loc} (C : Cx G M p s m args meth c) (hP : va_P (gD G) classes (wsM G μ) H) (hS : va_S (AA G) s.heap H locs) {U : State} (hU : U.heap = H) (hW : s.WarmedH U.vm) : PreW G μ U := by
  refine ⟨C.2.2.2.2.2.2.2.1, by rw [hU]; exact hP, va_K.moved hW.alike C.2.2.2.2.2.2.2.2.1, va_Nw.warmF hW C.2.2.2.2.2.2.2.2.2.1, fun k x hx => ?_⟩
  obtain ⟨h1, h2⟩ := C.2.2.2.2.2.2.2.2.2.2 k x hx
  exact ⟨(h1.moved hW.alike).kept (fun a ha hA => by rw [hU]; exact hS.2.1 a ha hA), (h2.moved hW.alike).kept (fun a ha hA => by rw [hU]; exact hS.2.1 a ha hA)⟩
theorem room_ok {n : Nat} (h : n ≤ 40) : (rmd d).frames + 1 ≤ (rmd (d + 1)).frames ∧ 8 + (n + 11) + (rmd d).locals ≤ (rmd (d + 1)).locals := by
  refine ⟨Nat.le_refl _, ?_⟩
  show 8 + (n + 11) + 64 * d ≤ 64 * (d + 1)
  omega
theorem cB_use {own : String} {idx n : Nat} {args : Array Value} {s : State} (hts : ∀ w ∈ mwords M, w.before args s = true) (h : cB own idx M' n) : CallB (rmd (d + 1)) s args own idx M'.1 M'.2.1 M'.2.2.1 M'.2.2.2 (mwords M') (rmd d) 0 0 n :=
  callB_of n hts (mw_good h.2.2.1) rfl rfl rfl (hts _ (mw_in h.2.1)) (hts _ (mw_in h.1)) h.2.2.2.1 (room_ok h.2.2.2.2)
theorem aw_callV {k ci nf n idx : Nat} {b : Bool} {ps : List (Option Nat)} {as : List AV} {ty : FieldType} (hd : decode M.2.1 pc = .ok (.invokevirtual idx, 3)) (hlk : cV M.1.cls idx M' n) (hk : lay[k]? = some (some ci, nf, b, ps)) (hc : (classes.getD ci ("", fun _ => ("", "", "", false), 0)).1 = M'.1.cls) (hci : ci < classes.length) (hn : as.length = n) (hst : st.length ≤ 8) (hr : M'.2.2.2 = some ty)
    (hm : Ct G d M' (.inr k :: as) μ Q') (kk : ∀ r u, Q' r u → AW G (d + 1) M Q (pc + 3) L (.inl r :: st) u) : AW G (d + 1) M Q pc L (as.reverse ++ .inr k :: st) μ := by
  intro p e s m args below meth c H locs ls C hP hS hl hL
  have hm' : Met G.1 M'.1 (mwords M') (rmd d) (va_Pc ((.inr k :: as).map (cv G)) (PreW G μ)) (va_Qi Q' (fun u t => va_P (gD G) classes (wsM G u) t.heap) (AA G)) 0 0 (AA G) := by
    have h2 := hm
    unfold Ct at h2
    rw [hr] at h2
    exact h2
  have hcl : classes[ci]? = some (classes.getD ci ("", fun _ => ("", "", "", false), 0)) := by
    rw [List.getD_eq_getElem?_getD, List.getElem?_eq_getElem hci]; rfl
  have hrec := va_recv C.2.2.2.2.2.2.2.2.1 hP hcl (q0 := k) (a := gA G k) (fs := (List.range nf).map (fv G ps (μ k))) (ws_at G μ hk).2
  rw [hc] at hrec
  have hstk : (as.reverse ++ .inr k :: st).map (cv G) = (as.map (cv G)).reverse ++ .ref (gA G k) :: st.map (cv G) := by
    rw [List.map_append, List.map_reverse, List.map_cons]
    show _ ++ Value.ref (rf G k) :: _ = _
    rw [rf_lt hk]
  rw [hstk]
  refine va_calli (va_runV (As := as.map (cv G)) (rest := st.map (cv G)) (C := M'.1.cls) (b := gA G k) ⟨C.1, C.2.1, C.2.2.2.1, C.2.2.2.2.1, C.2.2.2.2.2.1⟩ hm' ⟨cB_use C.2.2.2.2.2.1 hlk.1, C.2.2.2.2.2.1 _ (mw_in hlk.2.1), C.2.2.2.2.2.1 _ (mw_in hlk.2.2)⟩ ⟨pre_blind G _ μ, hrec, fun U hU hW => ⟨?_, pre_at C hP hS hU hW⟩⟩ rfl (by rw [List.length_map]; exact hn) (by rw [hl.1]) rfl (lv_room (by rw [cat_sum]; exact hst)) hd ⟨Nat.le_refl _, Nat.le_refl _⟩) hS (fun _ _ h => h) (fun _ h => h) (fun r u t H1 locs1 ht hvm hw hB hz1 hk1 hS1 => ?_)
  · rw [List.map_cons]
    show (Value.ref (gA G k) :: _).toArray = (Value.ref (rf G k) :: _).toArray
    rw [rf_lt hk]
  · rw [ht] at hB
    exact kk r u hw p e s m args below meth c H1 locs1 ls C hB hS1 hl hL
theorem aw_callVv {k ci nf n idx : Nat} {b : Bool} {ps : List (Option Nat)} {as : List AV} (hd : decode M.2.1 pc = .ok (.invokevirtual idx, 3)) (hlk : cV M.1.cls idx M' n) (hk : lay[k]? = some (some ci, nf, b, ps)) (hc : (classes.getD ci ("", fun _ => ("", "", "", false), 0)).1 = M'.1.cls) (hci : ci < classes.length) (hn : as.length = n) (hst : st.length ≤ 8) (hr : M'.2.2.2 = none)
    (hm : Ct G d M' (.inr k :: as) μ Q') (kk : ∀ u, Q' 0 u → AW G (d + 1) M Q (pc + 3) L st u) : AW G (d + 1) M Q pc L (as.reverse ++ .inr k :: st) μ := by
  intro p e s m args below meth c H locs ls C hP hS hl hL
  have hm' : Met G.1 M'.1 (mwords M') (rmd d) (va_Pc ((.inr k :: as).map (cv G)) (PreW G μ)) (va_Qv (fun u => Q' 0 u) (fun u t => va_P (gD G) classes (wsM G u) t.heap) (AA G)) 0 0 (AA G) := by
    have h2 := hm
    unfold Ct at h2
    rw [hr] at h2
    exact h2
  have hcl : classes[ci]? = some (classes.getD ci ("", fun _ => ("", "", "", false), 0)) := by
    rw [List.getD_eq_getElem?_getD, List.getElem?_eq_getElem hci]; rfl
  have hrec := va_recv C.2.2.2.2.2.2.2.2.1 hP hcl (q0 := k) (a := gA G k) (fs := (List.range nf).map (fv G ps (μ k))) (ws_at G μ hk).2
  rw [hc] at hrec
  have hstk : (as.reverse ++ .inr k :: st).map (cv G) = (as.map (cv G)).reverse ++ .ref (gA G k) :: st.map (cv G) := by
    rw [List.map_append, List.map_reverse, List.map_cons]
    show _ ++ Value.ref (rf G k) :: _ = _
    rw [rf_lt hk]
  rw [hstk]
  refine va_callv (va_runV (As := as.map (cv G)) (rest := st.map (cv G)) (C := M'.1.cls) (b := gA G k) ⟨C.1, C.2.1, C.2.2.2.1, C.2.2.2.2.1, C.2.2.2.2.2.1⟩ hm' ⟨cB_use C.2.2.2.2.2.1 hlk.1, C.2.2.2.2.2.1 _ (mw_in hlk.2.1), C.2.2.2.2.2.1 _ (mw_in hlk.2.2)⟩ ⟨pre_blind G _ μ, hrec, fun U hU hW => ⟨?_, pre_at C hP hS hU hW⟩⟩ rfl (by rw [List.length_map]; exact hn) (by rw [hl.1]) rfl (lv_room (by rw [cat_sum]; exact hst)) hd ⟨Nat.le_refl _, Nat.le_refl _⟩) hS (fun _ _ h => h) (fun _ h => h) (fun u t H1 locs1 ht hvm hw hB hz1 hk1 hS1 => ?_)
  · rw [List.map_cons]
    show (Value.ref (gA G k) :: _).toArray = (Value.ref (rf G k) :: _).toArray
    rw [rf_lt hk]
  · rw [ht] at hB
    exact kk u hw p e s m args below meth c H1 locs1 ls C hB hS1 hl hL
theorem aw_callS {n idx : Nat} {as : List AV} {ty : FieldType} (hd : decode M.2.1 pc = .ok (.invokestatic idx, 3)) (hlk : cS M.1.cls idx M' n) (hn : as.length = n) (hst : st.length ≤ 8) (hr : M'.2.2.2 = some ty)
    (hm : Ct G d M' as μ Q') (kk : ∀ r u, Q' r u → AW G (d + 1) M Q (pc + 3) L (.inl r :: st) u) : AW G (d + 1) M Q pc L (as.reverse ++ st) μ := by
  intro p e s m args below meth c H locs ls C hP hS hl hL
  have hm' : Met G.1 M'.1 (mwords M') (rmd d) (va_Pc (as.map (cv G)) (PreW G μ)) (va_Qi Q' (fun u t => va_P (gD G) classes (wsM G u) t.heap) (AA G)) 0 0 (AA G) := by
    have h2 := hm
    unfold Ct at h2
    rw [hr] at h2
    exact h2
  rw [List.map_append, List.map_reverse]
  refine va_calli (va_runS (As := as.map (cv G)) (rest := st.map (cv G)) ⟨C.1, C.2.1, C.2.2.2.1, C.2.2.2.2.1, C.2.2.2.2.2.1⟩ hm' ⟨cB_use C.2.2.2.2.2.1 hlk.1, C.2.2.2.2.2.1 _ (mw_in hlk.2)⟩ ⟨pre_blind G _ μ, fun U hU hW => ⟨rfl, pre_at C hP hS hU hW⟩⟩ rfl (by rw [List.length_map]; exact hn) (by rw [hl.1]) rfl (lv_room (by rw [cat_sum]; exact hst)) hd ⟨Nat.le_refl _, Nat.le_refl _⟩) hS (fun _ _ h => h) (fun _ h => h) (fun r u t H1 locs1 ht hvm hw hB hz1 hk1 hS1 => ?_)
  rw [ht] at hB
  exact kk r u hw p e s m args below meth c H1 locs1 ls C hB hS1 hl hL
theorem aw_callSv {n idx : Nat} {as : List AV} (hd : decode M.2.1 pc = .ok (.invokestatic idx, 3)) (hlk : cS M.1.cls idx M' n) (hn : as.length = n) (hst : st.length ≤ 8) (hr : M'.2.2.2 = none)
    (hm : Ct G d M' as μ Q') (kk : ∀ u, Q' 0 u → AW G (d + 1) M Q (pc + 3) L st u) : AW G (d + 1) M Q pc L (as.reverse ++ st) μ := by
  intro p e s m args below meth c H locs ls C hP hS hl hL
  have hm' : Met G.1 M'.1 (mwords M') (rmd d) (va_Pc (as.map (cv G)) (PreW G μ)) (va_Qv (fun u => Q' 0 u) (fun u t => va_P (gD G) classes (wsM G u) t.heap) (AA G)) 0 0 (AA G) := by
    have h2 := hm
    unfold Ct at h2
    rw [hr] at h2
    exact h2
  rw [List.map_append, List.map_reverse]
  refine va_callv (va_runS (As := as.map (cv G)) (rest := st.map (cv G)) ⟨C.1, C.2.1, C.2.2.2.1, C.2.2.2.2.1, C.2.2.2.2.2.1⟩ hm' ⟨cB_use C.2.2.2.2.2.1 hlk.1, C.2.2.2.2.2.1 _ (mw_in hlk.2)⟩ ⟨pre_blind G _ μ, fun U hU hW => ⟨rfl, pre_at C hP hS hU hW⟩⟩ rfl (by rw [List.length_map]; exact hn) (by rw [hl.1]) rfl (lv_room (by rw [cat_sum]; exact hst)) hd ⟨Nat.le_refl _, Nat.le_refl _⟩) hS (fun _ _ h => h) (fun _ h => h) (fun u t H1 locs1 ht hvm hw hB hz1 hk1 hS1 => ?_)
  rw [ht] at hB
  exact kk u hw p e s m args below meth c H1 locs1 ls C hB hS1 hl hL
def cpm (μ : Mem) (k0 k1 sp dp n : Nat) : Mem := fun c j => if c = k1 then va_cpy (μ k0) (μ k1) sp dp n j else μ c j
theorem aw_copy {idx k0 k1 n0 n1 : Nat} {sp dp n : Int32} (hd : decode M.2.1 pc = .ok (.invokestatic idx, 3)) (hlk : Cond.methodLink M.1.cls idx arraycopyName ∈ gw_tbl ∧ Cond.native arraycopyName ∈ gw_tbl ∧ Cond.static arraycopyName ∈ gw_tbl ∧ Cond.initialized "java/lang/System" ∈ gw_tbl) (hk0 : lay[k0]? = some (none, n0, false, [])) (hk1 : lay[k1]? = some (none, n1, false, []))
    (h1 : ¬ sp < 0) (h2 : ¬ dp < 0) (h3 : ¬ n < 0) (h4 : sp.toNatClampNeg + n.toNatClampNeg ≤ n0) (h5 : dp.toNatClampNeg + n.toNatClampNeg ≤ n1) (hst : st.length ≤ 8) (hd1 : 1 ≤ d)
    (kk : AW G d M Q (pc + 3) L st (cpm μ k0 k1 sp.toNatClampNeg dp.toNatClampNeg n.toNatClampNeg)) : AW G d M Q pc L (.inl n :: .inl dp :: .inr k1 :: .inl sp :: .inr k0 :: st) μ := by
  intro p e s m args below meth c H locs ls C hP hS hl hL
  show W _ _ _ _ _ _ _ _ _ _ _ _ _ _ _ (F0 m pc ls (.int n :: .int dp :: .ref (rf G k1) :: .int sp :: .ref (rf G k0) :: st.map (cv G)))
  rw [rf_lt hk0, rf_lt hk1]
  have hts := C.2.2.2.2.2.1
  refine va_copyi C.1 C.2.1 (C.2.2.2.1.trans hl.1.symm) C.2.2.2.2.1 (hts _ (mw_in hlk.1)) (hts _ (mw_in hlk.2.1)) (hts _ (mw_in hlk.2.2.1)) (hts _ (mw_in hlk.2.2.2)) C.2.2.2.2.2.2.2.2.1 hP (ws_D C.2.2.2.2.2.2.2.1 μ) hS k0 k1 0 0 (ty := .int) (ws_at G μ hk0).2 (ws_at G μ hk1).2 rfl rfl rfl h1 h2 h3 h4 h5 (fun _ _ => rfl) hd1 ?_ hd fun H1 locs1 hP1 _ hS1 => ?_
  · rw [cat_sum]
    show _ ≤ 64 * d
    have : nativeFrameWords "java/lang/System" "arraycopy" 5 + 11 ≤ 56 := by decide
    omega
  · rw [ws_set G μ (cpm μ k0 k1 sp.toNatClampNeg dp.toNatClampNeg n.toNatClampNeg) hk1 (by rw [show cpm μ k0 k1 sp.toNatClampNeg dp.toNatClampNeg n.toNatClampNeg k1 = va_cpy (μ k0) (μ k1) sp.toNatClampNeg dp.toNatClampNeg n.toNatClampNeg from by funext i; simp [cpm]]; rfl) (fun j hj => by funext i; simp [cpm, hj])] at hP1
    exact kk p e s m args below meth c H1 locs1 ls C hP1 hS1 hl hL
end Calls
abbrev ix (i : Int32) : Nat := i.toNatClampNeg
theorem aw_weak {G : Gp} {d : Nat} {M : Mt} {Q : Int32 → Mem → Prop} {pc : Nat} {L L' : List (Option AV)} {st : List AV} {μ : Mem} (hlen : L'.length = L.length) (hsub : ∀ (i : Nat) (v : AV), L'[i]? = some (some v) → L[i]? = some (some v)) (k : AW G d M Q pc L' st μ) : AW G d M Q pc L st μ := by
  intro p e s m args below meth c H locs ls C hP hS hl hL
  refine k p e s m args below meth c H locs ls C hP hS ⟨hl.1, hl.2.1, fun q hq => ?_⟩ (hlen.trans hL)
  obtain ⟨j, v, h1, rfl⟩ := (lvOf_mem _ 0 q).mp hq
  exact hl.2.2 _ ((lvOf_mem L 0 _).mpr ⟨j, v, hsub j v h1, rfl⟩)
theorem aw_drop {G : Gp} {d : Nat} {M : Mt} {Q : Int32 → Mem → Prop} {pc : Nat} {L : List (Option AV)} {st : List AV} {μ : Mem} (i : Nat) (k : AW G d M Q pc (L.set i none) st μ) : AW G d M Q pc L st μ := by
  refine aw_weak (List.length_set ..) (fun j v h => ?_) k
  by_cases hj : j = i
  · subst hj
    by_cases hl : j < L.length
    · rw [List.getElem?_set_self hl] at h; cases h
    · rw [List.getElem?_eq_none (by simpa using Nat.le_of_not_lt hl)] at h; cases h
  · rw [List.getElem?_set_ne (Ne.symm hj)] at h; exact h
def cM (own : String) (idx : Nat) (nm : MethodName) (code : ByteArray) (n : Nat) : Prop := Cond.methodLink own idx nm ∈ gw_tbl ∧ Cond.static nm ∈ gw_tbl ∧ Cond.initialized "java/lang/Math" ∈ gw_tbl ∧ Cond.code nm code n (some .int) ∈ gw_tbl
def mmax (x y : Int32) : Int32 := if x < y then y else x
def mmin (x y : Int32) : Int32 := if y < x then y else x
def mabs (x : Int32) : Int32 := if 0 ≤ x then x else 0 - x
section MathCalls
variable {G : Gp} {d : Nat} {M M' : Mt} {Q Q' : Int32 → Mem → Prop} {pc : Nat} {L : List (Option AV)} {st : List AV} {μ : Mem} {x y : Int32} {idx : Nat}
theorem aw_mmax (hd : decode M.2.1 pc = .ok (.invokestatic idx, 3)) (hlk : cM M.1.cls idx Lib.Math.max.name Lib.Math.max.code 2) (hst : st.length ≤ 8) (hd1 : 1 ≤ d) (k : AW G d M Q (pc + 3) L (.inl (mmax x y) :: st) μ) : AW G d M Q pc L (.inl y :: .inl x :: st) μ := by
  intro p e s m args below meth c H locs ls C hP hS hl hL
  have hts := C.2.2.2.2.2.1
  exact va_mmax C.1 C.2.1 (C.2.2.2.1.trans hl.1.symm) C.2.2.2.2.1 (hts _ (mw_in hlk.1)) (hts _ (mw_in hlk.2.1)) (hts _ (mw_in hlk.2.2.1)) (hts _ (mw_in hlk.2.2.2)) hd1 (by rw [cat_sum]; show _ ≤ 64 * d; omega) (Nat.le_refl _) (Nat.le_refl _) hd (k p e s m args below meth c H locs ls C hP hS hl hL)
theorem aw_mmin (hd : decode M.2.1 pc = .ok (.invokestatic idx, 3)) (hlk : cM M.1.cls idx Lib.Math.min.name Lib.Math.min.code 2) (hst : st.length ≤ 8) (hd1 : 1 ≤ d) (k : AW G d M Q (pc + 3) L (.inl (mmin x y) :: st) μ) : AW G d M Q pc L (.inl y :: .inl x :: st) μ := by
  intro p e s m args below meth c H locs ls C hP hS hl hL
  have hts := C.2.2.2.2.2.1
  exact va_mmin C.1 C.2.1 (C.2.2.2.1.trans hl.1.symm) C.2.2.2.2.1 (hts _ (mw_in hlk.1)) (hts _ (mw_in hlk.2.1)) (hts _ (mw_in hlk.2.2.1)) (hts _ (mw_in hlk.2.2.2)) hd1 (by rw [cat_sum]; show _ ≤ 64 * d; omega) (Nat.le_refl _) (Nat.le_refl _) hd (k p e s m args below meth c H locs ls C hP hS hl hL)
theorem aw_mabs (hd : decode M.2.1 pc = .ok (.invokestatic idx, 3)) (hlk : cM M.1.cls idx Lib.Math.abs.name Lib.Math.abs.code 1) (hst : st.length ≤ 8) (hd1 : 1 ≤ d) (k : AW G d M Q (pc + 3) L (.inl (mabs x) :: st) μ) : AW G d M Q pc L (.inl x :: st) μ := by
  intro p e s m args below meth c H locs ls C hP hS hl hL
  have hts := C.2.2.2.2.2.1
  exact va_mabs C.1 C.2.1 (C.2.2.2.1.trans hl.1.symm) C.2.2.2.2.1 (hts _ (mw_in hlk.1)) (hts _ (mw_in hlk.2.1)) (hts _ (mw_in hlk.2.2.1)) (hts _ (mw_in hlk.2.2.2)) hd1 (by rw [cat_sum]; show _ ≤ 64 * d; omega) (Nat.le_refl _) (Nat.le_refl _) hd (k p e s m args below meth c H locs ls C hP hS hl hL)
end MathCalls
theorem aw_top {G : Gp} {d : Nat} {M : Mt} {Q : Int32 → Mem → Prop} {pc : Nat} {L : List (Option AV)} {st : List AV} {μ : Mem} {x : Int32} (k : ∀ y : Int32, y = x → AW G d M Q pc L (.inl y :: st) μ) : AW G d M Q pc L (.inl x :: st) μ := k _ rfl
theorem aw_mem {G : Gp} {d : Nat} {M : Mt} {Q : Int32 → Mem → Prop} {pc : Nat} {L : List (Option AV)} {st : List AV} {μ : Mem} (k : ∀ u : Mem, u = μ → AW G d M Q pc L st u) : AW G d M Q pc L st μ := k _ rfl
