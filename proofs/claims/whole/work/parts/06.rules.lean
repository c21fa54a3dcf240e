/-! rules of the judgement, an instruction a row -/
section Rules
variable {G : Gp} {d : Nat} {M : Mt} {Q : Int32 → Mem → Prop} {pc : Nat} {L : List (Option AV)} {st : List AV} {μ : Mem}
theorem aw_iconst {n : Int} {v : Int32} (hd : decode M.2.1 pc = .ok (.iconst n, 1)) (hv : Int32.ofInt n = v) (k : AW G d M Q (pc + 1) L (.inl v :: st) μ) : AW G d M Q pc L st μ := by
  intro p e s m args below meth c H locs ls C hP hS hl hL
  exact lv_iconst C.1 C.2.1 hd hv (k p e s m args below meth c H locs ls C hP hS hl hL)
theorem aw_bipush {n : Int} {v : Int32} (hd : decode M.2.1 pc = .ok (.bipush n, 2)) (hv : (Int8.ofInt n).toInt32 = v) (k : AW G d M Q (pc + 2) L (.inl v :: st) μ) : AW G d M Q pc L st μ := by
  intro p e s m args below meth c H locs ls C hP hS hl hL
  exact lv_bipush C.1 C.2.1 hd hv (k p e s m args below meth c H locs ls C hP hS hl hL)
theorem aw_sipush {n : Int} {v : Int32} (hd : decode M.2.1 pc = .ok (.sipush n, 3)) (hv : (Int16.ofInt n).toInt32 = v) (k : AW G d M Q (pc + 3) L (.inl v :: st) μ) : AW G d M Q pc L st μ := by
  intro p e s m args below meth c H locs ls C hP hS hl hL
  exact lv_sipush C.1 C.2.1 hd hv (k p e s m args below meth c H locs ls C hP hS hl hL)
theorem aw_ldc {i : Nat} {v : Int32} (hd : decode M.2.1 pc = .ok (.ldc i, 2)) (hw : Cond.constant M.1.cls i v ∈ gw_tbl) (k : AW G d M Q (pc + 2) L (.inl v :: st) μ) : AW G d M Q pc L st μ := by
  intro p e s m args below meth c H locs ls C hP hS hl hL
  exact lv_ldc C.1 C.2.1 C.2.2.2.2.1 (C.2.2.2.2.2.1 _ (mw_in hw)) hd (k p e s m args below meth c H locs ls C hP hS hl hL)
theorem aw_iload_n {i : Fin 4} {x : Int32} (hd : decode M.2.1 pc = .ok (.iload_n i, 1)) (hx : L[(i : Nat)]? = some (some (.inl x))) (k : AW G d M Q (pc + 1) L (.inl x :: st) μ) : AW G d M Q pc L st μ := by
  intro p e s m args below meth c H locs ls C hP hS hl hL
  exact lv_iload_n C.1 C.2.1 hd rfl (lv_get hl hx) (k p e s m args below meth c H locs ls C hP hS hl hL)
theorem aw_iload {i : Nat} {x : Int32} (hd : decode M.2.1 pc = .ok (.iload i, 2)) (hx : L[i]? = some (some (.inl x))) (k : AW G d M Q (pc + 2) L (.inl x :: st) μ) : AW G d M Q pc L st μ := by
  intro p e s m args below meth c H locs ls C hP hS hl hL
  exact lv_iload C.1 C.2.1 hd (lv_get hl hx) (k p e s m args below meth c H locs ls C hP hS hl hL)
theorem aw_aload_n {i : Fin 4} {x : Nat} (hd : decode M.2.1 pc = .ok (.aload_n i, 1)) (hx : L[(i : Nat)]? = some (some (.inr x))) (k : AW G d M Q (pc + 1) L (.inr x :: st) μ) : AW G d M Q pc L st μ := by
  intro p e s m args below meth c H locs ls C hP hS hl hL
  exact lv_aload_n C.1 C.2.1 hd rfl (lv_get hl hx) (k p e s m args below meth c H locs ls C hP hS hl hL)
theorem aw_aload {i : Nat} {x : Nat} (hd : decode M.2.1 pc = .ok (.aload i, 2)) (hx : L[i]? = some (some (.inr x))) (k : AW G d M Q (pc + 2) L (.inr x :: st) μ) : AW G d M Q pc L st μ := by
  intro p e s m args below meth c H locs ls C hP hS hl hL
  exact lv_aload C.1 C.2.1 hd (lv_get hl hx) (k p e s m args below meth c H locs ls C hP hS hl hL)
theorem aw_istore_n {i : Fin 4} {x : Int32} (hd : decode M.2.1 pc = .ok (.istore_n i, 1)) (hi : (i : Nat) < L.length) (k : AW G d M Q (pc + 1) (L.set i (some (.inl x))) st μ) : AW G d M Q pc L (.inl x :: st) μ := by
  intro p e s m args below meth c H locs ls C hP hS hl hL
  exact lv_istore_n C.1 C.2.1 hd rfl hl (by rw [← hL]; exact hi) rfl fun ls' h' => k p e s m args below meth c H locs ls' C hP hS (lv_upd (v := .inl x) hi h') (by rw [List.length_set]; exact hL)
theorem aw_istore {i : Nat} {x : Int32} (hd : decode M.2.1 pc = .ok (.istore i, 2)) (hi : i < L.length) (k : AW G d M Q (pc + 2) (L.set i (some (.inl x))) st μ) : AW G d M Q pc L (.inl x :: st) μ := by
  intro p e s m args below meth c H locs ls C hP hS hl hL
  exact lv_istore C.1 C.2.1 hd hl (by rw [← hL]; exact hi) rfl fun ls' h' => k p e s m args below meth c H locs ls' C hP hS (lv_upd (v := .inl x) hi h') (by rw [List.length_set]; exact hL)
theorem aw_iinc {i : Nat} {n : Int} {x v : Int32} (hd : decode M.2.1 pc = .ok (.iinc i n, 3)) (hx : L[i]? = some (some (.inl x))) (hv : Int32.ofInt n = v) (k : AW G d M Q (pc + 3) (L.set i (some (.inl (x + v)))) st μ) : AW G d M Q pc L st μ := by
  intro p e s m args below meth c H locs ls C hP hS hl hL
  have hi : i < L.length := (List.getElem?_eq_some_iff.mp hx).1
  have hm : (i, Value.int x) ∈ lvOf G 0 L := (lvOf_mem L 0 _).mpr ⟨i, .inl x, hx, by rw [Nat.zero_add]; rfl⟩
  obtain ⟨j, hj⟩ := List.getElem?_of_mem hm
  exact lv_iinc (v := x + v) C.1 C.2.1 hd hl hj (by rw [hv]) (by rw [← hL]; exact hi) rfl fun ls' h' => k p e s m args below meth c H locs ls' C hP hS (lv_upd (v := .inl (x + v)) hi h') (by rw [List.length_set]; exact hL)
theorem aw_iadd {x y : Int32} (hd : decode M.2.1 pc = .ok (.iadd, 1)) (k : AW G d M Q (pc + 1) L (.inl (x + y) :: st) μ) : AW G d M Q pc L (.inl y :: .inl x :: st) μ := by
  intro p e s m args below meth c H locs ls C hP hS hl hL
  exact lv_iadd C.1 C.2.1 hd (k p e s m args below meth c H locs ls C hP hS hl hL)
theorem aw_isub {x y : Int32} (hd : decode M.2.1 pc = .ok (.isub, 1)) (k : AW G d M Q (pc + 1) L (.inl (x - y) :: st) μ) : AW G d M Q pc L (.inl y :: .inl x :: st) μ := by
  intro p e s m args below meth c H locs ls C hP hS hl hL
  exact lv_isub C.1 C.2.1 hd (k p e s m args below meth c H locs ls C hP hS hl hL)
theorem aw_imul {x y : Int32} (hd : decode M.2.1 pc = .ok (.imul, 1)) (k : AW G d M Q (pc + 1) L (.inl (x * y) :: st) μ) : AW G d M Q pc L (.inl y :: .inl x :: st) μ := by
  intro p e s m args below meth c H locs ls C hP hS hl hL
  exact lv_imul C.1 C.2.1 hd (k p e s m args below meth c H locs ls C hP hS hl hL)
theorem aw_idiv {x y : Int32} (hd : decode M.2.1 pc = .ok (.idiv, 1)) (hy : ¬ y = 0) (k : AW G d M Q (pc + 1) L (.inl (x / y) :: st) μ) : AW G d M Q pc L (.inl y :: .inl x :: st) μ := by
  intro p e s m args below meth c H locs ls C hP hS hl hL
  exact lv_idiv C.1 C.2.1 hd hy (k p e s m args below meth c H locs ls C hP hS hl hL)
theorem aw_irem {x y : Int32} (hd : decode M.2.1 pc = .ok (.irem, 1)) (hy : ¬ y = 0) (k : AW G d M Q (pc + 1) L (.inl (x - x / y * y) :: st) μ) : AW G d M Q pc L (.inl y :: .inl x :: st) μ := by
  intro p e s m args below meth c H locs ls C hP hS hl hL
  exact lv_irem C.1 C.2.1 hd hy (k p e s m args below meth c H locs ls C hP hS hl hL)
theorem aw_iand {x y : Int32} (hd : decode M.2.1 pc = .ok (.iand, 1)) (k : AW G d M Q (pc + 1) L (.inl (x &&& y) :: st) μ) : AW G d M Q pc L (.inl y :: .inl x :: st) μ := by
  intro p e s m args below meth c H locs ls C hP hS hl hL
  exact lv_iand C.1 C.2.1 hd (k p e s m args below meth c H locs ls C hP hS hl hL)
theorem aw_ior {x y : Int32} (hd : decode M.2.1 pc = .ok (.ior, 1)) (k : AW G d M Q (pc + 1) L (.inl (x ||| y) :: st) μ) : AW G d M Q pc L (.inl y :: .inl x :: st) μ := by
  intro p e s m args below meth c H locs ls C hP hS hl hL
  exact lv_ior C.1 C.2.1 hd (k p e s m args below meth c H locs ls C hP hS hl hL)
theorem aw_ishl {x y : Int32} (hd : decode M.2.1 pc = .ok (.ishl, 1)) (k : AW G d M Q (pc + 1) L (.inl (x <<< (y &&& 31)) :: st) μ) : AW G d M Q pc L (.inl y :: .inl x :: st) μ := by
  intro p e s m args below meth c H locs ls C hP hS hl hL
  exact lv_ishl C.1 C.2.1 hd (k p e s m args below meth c H locs ls C hP hS hl hL)
theorem aw_ineg {x : Int32} (hd : decode M.2.1 pc = .ok (.ineg, 1)) (k : AW G d M Q (pc + 1) L (.inl (-x) :: st) μ) : AW G d M Q pc L (.inl x :: st) μ := by
  intro p e s m args below meth c H locs ls C hP hS hl hL
  exact lv_ineg C.1 C.2.1 hd (k p e s m args below meth c H locs ls C hP hS hl hL)
theorem aw_dup {v : AV} (hd : decode M.2.1 pc = .ok (.dup, 1)) (k : AW G d M Q (pc + 1) L (v :: v :: st) μ) : AW G d M Q pc L (v :: st) μ := by
  intro p e s m args below meth c H locs ls C hP hS hl hL
  exact lv_dup C.1 C.2.1 hd (cv_cat G v) (k p e s m args below meth c H locs ls C hP hS hl hL)
theorem aw_dup2 {v w : AV} (hd : decode M.2.1 pc = .ok (.dup2, 1)) (k : AW G d M Q (pc + 1) L (v :: w :: v :: w :: st) μ) : AW G d M Q pc L (v :: w :: st) μ := by
  intro p e s m args below meth c H locs ls C hP hS hl hL
  exact lv_dup2_11 C.1 C.2.1 hd (cv_cat G v) (cv_cat G w) (k p e s m args below meth c H locs ls C hP hS hl hL)
theorem aw_goto {off : Int} {tgt : Nat} (hd : decode M.2.1 pc = .ok (.goto off, 3)) (ht : (pc : Int) + off = (tgt : Int)) (k : AW G d M Q tgt L st μ) : AW G d M Q pc L st μ := by
  intro p e s m args below meth c H locs ls C hP hS hl hL
  exact lv_goto C.1 C.2.1 hd ht (k p e s m args below meth c H locs ls C hP hS hl hL)
theorem aw_if_eq {x : Int32} {off : Int} {tgt : Nat} (hd : decode M.2.1 pc = .ok (.ifCond .eq off, 3)) (ht : (pc : Int) + off = (tgt : Int)) (kt : x = 0 → AW G d M Q tgt L st μ) (kf : ¬ x = 0 → AW G d M Q (pc + 3) L st μ) : AW G d M Q pc L (.inl x :: st) μ := by
  intro p e s m args below meth c H locs ls C hP hS hl hL
  exact lv_if_eq C.1 C.2.1 hd ht (fun h => kt h p e s m args below meth c H locs ls C hP hS hl hL) (fun h => kf h p e s m args below meth c H locs ls C hP hS hl hL)
theorem aw_icmp_eq {x y : Int32} {off : Int} {tgt : Nat} (hd : decode M.2.1 pc = .ok (.if_icmp .eq off, 3)) (ht : (pc : Int) + off = (tgt : Int)) (kt : x = y → AW G d M Q tgt L st μ) (kf : ¬ x = y → AW G d M Q (pc + 3) L st μ) : AW G d M Q pc L (.inl y :: .inl x :: st) μ := by
  intro p e s m args below meth c H locs ls C hP hS hl hL
  exact lv_icmp_eq C.1 C.2.1 hd ht (fun h => kt h p e s m args below meth c H locs ls C hP hS hl hL) (fun h => kf h p e s m args below meth c H locs ls C hP hS hl hL)
theorem aw_if_ne {x : Int32} {off : Int} {tgt : Nat} (hd : decode M.2.1 pc = .ok (.ifCond .ne off, 3)) (ht : (pc : Int) + off = (tgt : Int)) (kt : ¬ x = 0 → AW G d M Q tgt L st μ) (kf : x = 0 → AW G d M Q (pc + 3) L st μ) : AW G d M Q pc L (.inl x :: st) μ := by
  intro p e s m args below meth c H locs ls C hP hS hl hL
  exact lv_if_ne C.1 C.2.1 hd ht (fun h => kt h p e s m args below meth c H locs ls C hP hS hl hL) (fun h => kf h p e s m args below meth c H locs ls C hP hS hl hL)
theorem aw_icmp_ne {x y : Int32} {off : Int} {tgt : Nat} (hd : decode M.2.1 pc = .ok (.if_icmp .ne off, 3)) (ht : (pc : Int) + off = (tgt : Int)) (kt : ¬ x = y → AW G d M Q tgt L st μ) (kf : x = y → AW G d M Q (pc + 3) L st μ) : AW G d M Q pc L (.inl y :: .inl x :: st) μ := by
  intro p e s m args below meth c H locs ls C hP hS hl hL
  exact lv_icmp_ne C.1 C.2.1 hd ht (fun h => kt h p e s m args below meth c H locs ls C hP hS hl hL) (fun h => kf h p e s m args below meth c H locs ls C hP hS hl hL)
theorem aw_if_lt {x : Int32} {off : Int} {tgt : Nat} (hd : decode M.2.1 pc = .ok (.ifCond .lt off, 3)) (ht : (pc : Int) + off = (tgt : Int)) (kt : x < 0 → AW G d M Q tgt L st μ) (kf : ¬ x < 0 → AW G d M Q (pc + 3) L st μ) : AW G d M Q pc L (.inl x :: st) μ := by
  intro p e s m args below meth c H locs ls C hP hS hl hL
  exact lv_if_lt C.1 C.2.1 hd ht (fun h => kt h p e s m args below meth c H locs ls C hP hS hl hL) (fun h => kf h p e s m args below meth c H locs ls C hP hS hl hL)
theorem aw_icmp_lt {x y : Int32} {off : Int} {tgt : Nat} (hd : decode M.2.1 pc = .ok (.if_icmp .lt off, 3)) (ht : (pc : Int) + off = (tgt : Int)) (kt : x < y → AW G d M Q tgt L st μ) (kf : ¬ x < y → AW G d M Q (pc + 3) L st μ) : AW G d M Q pc L (.inl y :: .inl x :: st) μ := by
  intro p e s m args below meth c H locs ls C hP hS hl hL
  exact lv_icmp_lt C.1 C.2.1 hd ht (fun h => kt h p e s m args below meth c H locs ls C hP hS hl hL) (fun h => kf h p e s m args below meth c H locs ls C hP hS hl hL)
theorem aw_if_ge {x : Int32} {off : Int} {tgt : Nat} (hd : decode M.2.1 pc = .ok (.ifCond .ge off, 3)) (ht : (pc : Int) + off = (tgt : Int)) (kt : 0 ≤ x → AW G d M Q tgt L st μ) (kf : ¬ 0 ≤ x → AW G d M Q (pc + 3) L st μ) : AW G d M Q pc L (.inl x :: st) μ := by
  intro p e s m args below meth c H locs ls C hP hS hl hL
  exact lv_if_ge C.1 C.2.1 hd ht (fun h => kt h p e s m args below meth c H locs ls C hP hS hl hL) (fun h => kf h p e s m args below meth c H locs ls C hP hS hl hL)
theorem aw_icmp_ge {x y : Int32} {off : Int} {tgt : Nat} (hd : decode M.2.1 pc = .ok (.if_icmp .ge off, 3)) (ht : (pc : Int) + off = (tgt : Int)) (kt : y ≤ x → AW G d M Q tgt L st μ) (kf : ¬ y ≤ x → AW G d M Q (pc + 3) L st μ) : AW G d M Q pc L (.inl y :: .inl x :: st) μ := by
  intro p e s m args below meth c H locs ls C hP hS hl hL
  exact lv_icmp_ge C.1 C.2.1 hd ht (fun h => kt h p e s m args below meth c H locs ls C hP hS hl hL) (fun h => kf h p e s m args below meth c H locs ls C hP hS hl hL)
theorem aw_if_gt {x : Int32} {off : Int} {tgt : Nat} (hd : decode M.2.1 pc = .ok (.ifCond .gt off, 3)) (ht : (pc : Int) + off = (tgt : Int)) (kt : 0 < x → AW G d M Q tgt L st μ) (kf : ¬ 0 < x → AW G d M Q (pc + 3) L st μ) : AW G d M Q pc L (.inl x :: st) μ := by
  intro p e s m args below meth c H locs ls C hP hS hl hL
  exact lv_if_gt C.1 C.2.1 hd ht (fun h => kt h p e s m args below meth c H locs ls C hP hS hl hL) (fun h => kf h p e s m args below meth c H locs ls C hP hS hl hL)
theorem aw_icmp_gt {x y : Int32} {off : Int} {tgt : Nat} (hd : decode M.2.1 pc = .ok (.if_icmp .gt off, 3)) (ht : (pc : Int) + off = (tgt : Int)) (kt : y < x → AW G d M Q tgt L st μ) (kf : ¬ y < x → AW G d M Q (pc + 3) L st μ) : AW G d M Q pc L (.inl y :: .inl x :: st) μ := by
  intro p e s m args below meth c H locs ls C hP hS hl hL
  exact lv_icmp_gt C.1 C.2.1 hd ht (fun h => kt h p e s m args below meth c H locs ls C hP hS hl hL) (fun h => kf h p e s m args below meth c H locs ls C hP hS hl hL)
theorem aw_if_le {x : Int32} {off : Int} {tgt : Nat} (hd : decode M.2.1 pc = .ok (.ifCond .le off, 3)) (ht : (pc : Int) + off = (tgt : Int)) (kt : x ≤ 0 → AW G d M Q tgt L st μ) (kf : ¬ x ≤ 0 → AW G d M Q (pc + 3) L st μ) : AW G d M Q pc L (.inl x :: st) μ := by
  intro p e s m args below meth c H locs ls C hP hS hl hL
  exact lv_if_le C.1 C.2.1 hd ht (fun h => kt h p e s m args below meth c H locs ls C hP hS hl hL) (fun h => kf h p e s m args below meth c H locs ls C hP hS hl hL)
theorem aw_icmp_le {x y : Int32} {off : Int} {tgt : Nat} (hd : decode M.2.1 pc = .ok (.if_icmp .le off, 3)) (ht : (pc : Int) + off = (tgt : Int)) (kt : x ≤ y → AW G d M Q tgt L st μ) (kf : ¬ x ≤ y → AW G d M Q (pc + 3) L st μ) : AW G d M Q pc L (.inl y :: .inl x :: st) μ := by
  intro p e s m args below meth c H locs ls C hP hS hl hL
  exact lv_icmp_le C.1 C.2.1 hd ht (fun h => kt h p e s m args below meth c H locs ls C hP hS hl hL) (fun h => kf h p e s m args below meth c H locs ls C hP hS hl hL)
theorem aw_table {dflt lo hi : Int} {offs : Array Int} {len : Nat} {x : Int32} {dt : Nat} {tg : List Nat} (hd : decode M.2.1 pc = .ok (.tableswitch dflt lo hi offs, len)) (hdt : (pc : Int) + dflt = (dt : Int)) (hlo : lo = 0) (hhi : hi + 1 = (tg.length : Int)) (htg : ∀ j, j < tg.length → ∃ off, offs[j]? = some off ∧ (pc : Int) + off = ((tg.getD j 0 : Nat) : Int))
    (kd : (x.toInt < 0 ∨ hi < x.toInt) → AW G d M Q dt L st μ) (kk : ∀ j, j < tg.length → x = nI j → AW G d M Q (tg.getD j 0) L st μ) : AW G d M Q pc L (.inl x :: st) μ := by
  intro p e s m args below meth c H locs ls C hP hS hl hL
  by_cases h1 : x.toInt < 0
  · exact lv_tableOut C.1 C.2.1 hd (Or.inl (by omega)) hdt (kd (Or.inl h1) p e s m args below meth c H locs ls C hP hS hl hL)
  · by_cases h2 : hi < x.toInt
    · exact lv_tableOut C.1 C.2.1 hd (Or.inr h2) hdt (kd (Or.inr h2) p e s m args below meth c H locs ls C hP hS hl hL)
    · have hj : x.toInt.toNat < tg.length := by omega
      have h31 : x.toInt.toNat < 2 ^ 31 := by have := x.toInt_lt; omega
      have hxj : x = nI x.toInt.toNat := by
        apply Int32.toInt_inj.mp
        rw [nI_toInt h31]; omega
      obtain ⟨off, ho, ht⟩ := htg _ hj
      exact lv_tableIn C.1 C.2.1 hd (by omega) h2 (by rw [show (x.toInt - lo).toNat = x.toInt.toNat by omega]; exact ho) ht (kk _ hj hxj p e s m args below meth c H locs ls C hP hS hl hL)
/-- field j of class ci, as entry idx of the class own names it -/
theorem rf_lt {k : Nat} {e : LayE} (h : lay[k]? = some e) : rf G k = gA G k := by
  have hk : k < NC := by rw [← lay_len]; exact (List.getElem?_eq_some_iff.mp h).1
  unfold rf
  rw [if_pos (Nat.lt_trans hk (by decide))]
theorem aw_get {k ci n j idx : Nat} {b : Bool} {ps : List (Option Nat)} (hd : decode M.2.1 pc = .ok (.getfield idx, 3)) (hlk : fLnk M.1.cls idx ci j) (hk : lay[k]? = some (some ci, n, b, ps)) (hj : j < n) {v : AV} (hv : fv G ps (μ k) j = cv G v)
    (kk : AW G d M Q (pc + 3) L (v :: st) μ) : AW G d M Q pc L (.inr k :: st) μ := by
  intro p e s m args below meth c H locs ls C hP hS hl hL
  obtain ⟨Cn, T, N, hc, hjN, hw⟩ := hlk
  obtain ⟨h1, h2, h3⟩ := cls_ok ci Cn T N hc
  show W _ _ _ _ _ _ _ _ _ _ _ _ _ _ _ (F0 m pc ls (.ref (rf G k) :: st.map (cv G)))
  rw [rf_lt hk]
  refine va_get (D := gD G) (ci := ci) (v := cv G v) (C := Cn) (T := T) (N := N) C.1 C.2.1 C.2.2.2.2.2.1 (fun w hw => mw_in (h1 w hw)) C.2.2.2.2.1 C.2.2.2.2.2.2.2.2.1 hP k (ws_at G μ hk).2 hc j hjN (C.2.2.2.2.2.1 _ (mw_in hw)) (fun _ h9 => h9) ?_ hd (kk p e s m args below meth c H locs ls C hP hS hl hL)
  show ((List.range n).map (fv G ps (μ k)))[j]? = _
  rw [List.getElem?_map, List.getElem?_range hj, Option.map_some, hv]
/-- an int or boolean field is read -/
theorem aw_getI {k ci n j idx : Nat} {b : Bool} {ps : List (Option Nat)} (hd : decode M.2.1 pc = .ok (.getfield idx, 3)) (hlk : fLnk M.1.cls idx ci j) (hk : lay[k]? = some (some ci, n, b, ps)) (hj : (decide (j < n) && decide (ps.getD j none = none)) = true)
    (kk : AW G d M Q (pc + 3) L (.inl (μ k j) :: st) μ) : AW G d M Q pc L (.inr k :: st) μ := by
  rw [Bool.and_eq_true, decide_eq_true_eq, decide_eq_true_eq] at hj
  refine aw_get hd hlk hk hj.1 ?_ kk
  unfold fv; rw [hj.2]; rfl
/-- a field that holds a cell is read -/
theorem aw_getR {k ci n j idx t : Nat} {b : Bool} {ps : List (Option Nat)} (hd : decode M.2.1 pc = .ok (.getfield idx, 3)) (hlk : fLnk M.1.cls idx ci j) (hk : lay[k]? = some (some ci, n, b, ps)) (hj : (decide (j < n) && (decide (ps.getD j none = some t) && decide (t < NC))) = true)
    (kk : AW G d M Q (pc + 3) L (.inr t :: st) μ) : AW G d M Q pc L (.inr k :: st) μ := by
  rw [Bool.and_eq_true, Bool.and_eq_true, decide_eq_true_eq, decide_eq_true_eq, decide_eq_true_eq] at hj
  refine aw_get hd hlk hk hj.1 ?_ kk
  unfold fv; rw [hj.2.1]
  show Value.ref _ = Value.ref (rf G t)
  unfold rf; rw [if_pos (Nat.lt_trans hj.2.2 (by decide))]
theorem aw_put {k ci n j idx : Nat} {b : Bool} {ps : List (Option Nat)} {x : Int32} (hd : decode M.2.1 pc = .ok (.putfield idx, 3)) (hlk : fLnk M.1.cls idx ci j) (hk : lay[k]? = some (some ci, n, b, ps)) (hj : (decide (j < n) && decide (ps.getD j none = none)) = true)
    {ty : FieldType} (hf : ∃ (C : String) (T : u_T) (N : Nat), classes[ci]? = some (C, T, N) ∧ (T j).2.2.2 = false ∧ parseFieldDescriptor (T j).2.2.1 = some ty) (hn : narrow ty (.int x) = .int x) (hfit : fits ty (.int x) = true)
    (kk : AW G d M Q (pc + 3) L st (up μ k j x)) : AW G d M Q pc L (.inl x :: .inr k :: st) μ := by
  intro p e s m args below meth c H locs ls C hP hS hl hL
  rw [Bool.and_eq_true, decide_eq_true_eq, decide_eq_true_eq] at hj
  obtain ⟨Cn, T, N, hc, hjN, hw⟩ := hlk
  obtain ⟨h1, ⟨ty0, h2⟩, h3⟩ := cls_ok ci Cn T N hc
  obtain ⟨C2, T2, N2, hc2, hfin, hds⟩ := hf
  cases hc.symm.trans hc2
  show W _ _ _ _ _ _ _ _ _ _ _ _ _ _ _ (F0 m pc ls (.int x :: .ref (rf G k) :: st.map (cv G)))
  rw [rf_lt hk]
  refine va_put (D := gD G) (ci := ci) (v := .int x) (ty := ty) (C := Cn) (T := T) (N := N) C.1 C.2.1 C.2.2.2.2.2.1 (fun w hw => mw_in (h1 w hw)) ty0 h2 h3 C.2.2.2.2.1 C.2.2.2.2.2.2.2.2.1 hP (ws_D C.2.2.2.2.2.2.2.1 μ) hS k (ws_at G μ hk).2 hc j hjN (C.2.2.2.2.2.1 _ (mw_in hw)) (fun _ h9 => h9) hfin hds hn hfit ?_ hd fun H1 locs1 hP1 _ hS1 => ?_
  · show j < ((List.range n).map (fv G ps (μ k))).length
    simpa using hj.1
  · rw [ws_set G μ (up μ k j x) hk (by rw [up_self]; show _ = Sum.inr (ci, ((List.range n).map (fv G ps (μ k))).set j (.int x)); rw [fv_set G ps (μ k) n j x hj.2]; rfl) (fun i hi => up_ne μ j x hi)] at hP1
    exact kk p e s m args below meth c H1 locs1 ls C hP1 hS1 hl hL
theorem aw_putI {k ci n j idx : Nat} {b : Bool} {ps : List (Option Nat)} {x : Int32} (hd : decode M.2.1 pc = .ok (.putfield idx, 3)) (hlk : fLnk M.1.cls idx ci j) (hf : fInt ci j) (hk : lay[k]? = some (some ci, n, b, ps)) (hj : (decide (j < n) && decide (ps.getD j none = none)) = true)
    (kk : AW G d M Q (pc + 3) L st (up μ k j x)) : AW G d M Q pc L (.inl x :: .inr k :: st) μ := by
  obtain ⟨C, T, N, h1, h2, h3⟩ := hf
  exact aw_put (ty := .int) hd hlk hk hj ⟨C, T, N, h1, h2, by rw [h3]; decide⟩ rfl rfl kk
theorem aw_putZ {k ci n j idx : Nat} {b : Bool} {ps : List (Option Nat)} {x : Int32} (hd : decode M.2.1 pc = .ok (.putfield idx, 3)) (hlk : fLnk M.1.cls idx ci j) (hf : fBool ci j) (hk : lay[k]? = some (some ci, n, b, ps)) (hj : (decide (j < n) && decide (ps.getD j none = none)) = true) (hx : x = 0 ∨ x = 1)
    (kk : AW G d M Q (pc + 3) L st (up μ k j x)) : AW G d M Q pc L (.inl x :: .inr k :: st) μ := by
  obtain ⟨C, T, N, h1, h2, h3⟩ := hf
  exact aw_put (ty := .boolean) hd hlk hk hj ⟨C, T, N, h1, h2, by rw [h3]; decide⟩ (by rcases hx with rfl | rfl <;> rfl) (by rcases hx with rfl | rfl <;> rfl) kk
theorem aw_iald {k n : Nat} {i : Int32} (hd : decode M.2.1 pc = .ok (.iaload, 1)) (hk : lay[k]? = some (none, n, false, [])) (hi : vp_in i n) (kk : AW G d M Q (pc + 1) L (.inl (μ k i.toNatClampNeg) :: st) μ) : AW G d M Q pc L (.inl i :: .inr k :: st) μ := by
  intro p e s m args below meth c H locs ls C hP hS hl hL
  show W _ _ _ _ _ _ _ _ _ _ _ _ _ _ _ (F0 m pc ls (.int i :: .ref (rf G k) :: st.map (cv G)))
  rw [rf_lt hk]
  exact va_iald C.1 C.2.1 C.2.2.2.2.2.2.2.2.1 hP k 0 (ws_at G μ hk).2 rfl hi hd (kk p e s m args below meth c H locs ls C hP hS hl hL)
theorem aw_zald {k n : Nat} {i : Int32} (hd : decode M.2.1 pc = .ok (.baload, 1)) (hk : lay[k]? = some (none, n, true, [])) (hi : vp_in i n) (kk : AW G d M Q (pc + 1) L (.inl (μ k i.toNatClampNeg) :: st) μ) : AW G d M Q pc L (.inl i :: .inr k :: st) μ := by
  intro p e s m args below meth c H locs ls C hP hS hl hL
  show W _ _ _ _ _ _ _ _ _ _ _ _ _ _ _ (F0 m pc ls (.int i :: .ref (rf G k) :: st.map (cv G)))
  rw [rf_lt hk]
  exact va_zald C.1 C.2.1 C.2.2.2.2.2.2.2.2.1 hP k 1 (ws_at G μ hk).2 rfl hi hd (kk p e s m args below meth c H locs ls C hP hS hl hL)
theorem aw_iast {k n : Nat} {i x : Int32} (hd : decode M.2.1 pc = .ok (.iastore, 1)) (hk : lay[k]? = some (none, n, false, [])) (hi : vp_in i n) (kk : AW G d M Q (pc + 1) L st (up μ k i.toNatClampNeg x)) : AW G d M Q pc L (.inl x :: .inl i :: .inr k :: st) μ := by
  intro p e s m args below meth c H locs ls C hP hS hl hL
  show W _ _ _ _ _ _ _ _ _ _ _ _ _ _ _ (F0 m pc ls (.int x :: .int i :: .ref (rf G k) :: st.map (cv G)))
  rw [rf_lt hk]
  refine va_iast C.1 C.2.1 C.2.2.2.2.2.2.2.2.1 hP (ws_D C.2.2.2.2.2.2.2.1 μ) hS k 0 (ws_at G μ hk).2 rfl hi hd fun H1 locs1 hP1 _ hS1 => ?_
  rw [ws_set G μ (up μ k i.toNatClampNeg x) hk (by rw [up_self]; rfl) (fun j hj => up_ne μ _ x hj)] at hP1
  exact kk p e s m args below meth c H1 locs1 ls C hP1 hS1 hl hL
theorem aw_zast {k n : Nat} {i x : Int32} (hd : decode M.2.1 pc = .ok (.bastore, 1)) (hk : lay[k]? = some (none, n, true, [])) (hi : vp_in i n) (hx : x = 0 ∨ x = 1) (kk : AW G d M Q (pc + 1) L st (up μ k i.toNatClampNeg x)) : AW G d M Q pc L (.inl x :: .inl i :: .inr k :: st) μ := by
  intro p e s m args below meth c H locs ls C hP hS hl hL
  show W _ _ _ _ _ _ _ _ _ _ _ _ _ _ _ (F0 m pc ls (.int x :: .int i :: .ref (rf G k) :: st.map (cv G)))
  rw [rf_lt hk]
  refine va_zast C.1 C.2.1 C.2.2.2.2.2.2.2.2.1 hP (ws_D C.2.2.2.2.2.2.2.1 μ) hS k 1 (ws_at G μ hk).2 rfl hi hd fun H1 locs1 hP1 _ hS1 => ?_
  have hb : vp_nar .boolean x = x := by rcases hx with rfl | rfl <;> rfl
  rw [hb, ws_set G μ (up μ k i.toNatClampNeg x) hk (by rw [up_self]; rfl) (fun j hj => up_ne μ _ x hj)] at hP1
  exact kk p e s m args below meth c H1 locs1 ls C hP1 hS1 hl hL
theorem aw_alen {k n : Nat} {v : Int32} (hd : decode M.2.1 pc = .ok (.arraylength, 1)) (hk : lay[k]? = some (none, n, false, [])) (hv : Int32.ofNat n = v) (kk : AW G d M Q (pc + 1) L (.inl v :: st) μ) : AW G d M Q pc L (.inr k :: st) μ := by
  intro p e s m args below meth c H locs ls C hP hS hl hL
  show W _ _ _ _ _ _ _ _ _ _ _ _ _ _ _ (F0 m pc ls (.ref (rf G k) :: st.map (cv G)))
  rw [rf_lt hk]
  exact va_alen C.1 C.2.1 C.2.2.2.2.2.2.2.2.1 hP k 0 (ws_at G μ hk).2 (ty := .int) rfl hv hd (kk p e s m args below meth c H locs ls C hP hS hl hL)
/-- static array t is named by entry idx of class own -/
theorem aw_gets {idx t : Nat} (hd : decode M.2.1 pc = .ok (.getstatic idx, 3)) (hlk : sLnk M.1.cls idx t) (kk : AW G d M Q (pc + 3) L (.inr (1000 + t) :: st) μ) : AW G d M Q pc L st μ := by
  intro p e s m args below meth c H locs ls C hP hS hl hL
  obtain ⟨q, hq, hw⟩ := hlk
  obtain ⟨hZ, -⟩ := C.2.2.2.2.2.2.2.2.2.2 t q hq
  have k2 := kk p e s m args below meth c H locs ls C hP hS hl hL
  have e2 : (List.map (cv G) (.inr (1000 + t) :: st)) = Value.ref (gS G t) :: st.map (cv G) := by
    rw [List.map_cons]
    show Value.ref (rf G (1000 + t)) :: _ = _
    unfold rf
    rw [if_neg (by omega), Nat.add_sub_cancel_left]
  rw [e2] at k2
  rcases hw with hw | ⟨host, hw⟩
  · exact va_gets C.1 C.2.1 hZ hS C.2.2.2.2.1 (C.2.2.2.2.2.1 _ (mw_in hw)) (fun _ h => h) hd k2
  · exact va_getsN C.1 C.2.1 hZ hS C.2.2.2.2.1 (by rw [hw]; exact va_Nw.use rfl C.2.2.2.2.2.2.2.2.2.1) (fun _ h => h) hd k2
theorem aw_sald {t : Nat} {q : String × String × List Int32} {i : Int32} (hd : decode M.2.1 pc = .ok (.iaload, 1)) (hq : stt[t]? = some q) (hi : vp_in i q.2.2.length) (kk : AW G d M Q (pc + 1) L (.inl (q.2.2.getD i.toNatClampNeg 0) :: st) μ) : AW G d M Q pc L (.inl i :: .inr (1000 + t) :: st) μ := by
  intro p e s m args below meth c H locs ls C hP hS hl hL
  obtain ⟨-, hT⟩ := C.2.2.2.2.2.2.2.2.2.2 t q hq
  show W _ _ _ _ _ _ _ _ _ _ _ _ _ _ _ (F0 m pc ls (.int i :: .ref (rf G (1000 + t)) :: st.map (cv G)))
  unfold rf
  rw [if_neg (by omega), Nat.add_sub_cancel_left]
  exact va_ti C.1 C.2.1 hT hS hi rfl hd (kk p e s m args below meth c H locs ls C hP hS hl hL)
theorem aw_slen {t : Nat} {q : String × String × List Int32} {v : Int32} (hd : decode M.2.1 pc = .ok (.arraylength, 1)) (hq : stt[t]? = some q) (hv : Int32.ofNat q.2.2.length = v) (kk : AW G d M Q (pc + 1) L (.inl v :: st) μ) : AW G d M Q pc L (.inr (1000 + t) :: st) μ := by
  intro p e s m args below meth c H locs ls C hP hS hl hL
  obtain ⟨-, hT⟩ := C.2.2.2.2.2.2.2.2.2.2 t q hq
  show W _ _ _ _ _ _ _ _ _ _ _ _ _ _ _ (F0 m pc ls (.ref (rf G (1000 + t)) :: st.map (cv G)))
  unfold rf
  rw [if_neg (by omega), Nat.add_sub_cancel_left]
  exact va_tlen C.1 C.2.1 hT hS hv hd (kk p e s m args below meth c H locs ls C hP hS hl hL)
theorem aw_iret {x : Int32} (hd : decode M.2.1 pc = .ok (.ireturn, 1)) (hr : M.2.2.2 = some .int) (hq : Q x μ) : AW G d M Q pc L [.inl x] μ := by
  intro p e s m args below meth c H locs ls C hP hS hl hL
  have hr2 : meth.sig.returnType = some .int := C.2.2.1.trans hr
  refine W.iret (v := x) C.1 C.2.1 hr2 (fun t ht hW => ?_) hS.2.2 hd C.2.2.2.2.2.2.1
  rw [hr]
  exact ⟨⟨x, μ, rfl, hq, by dsimp only; rw [ht]; exact hP⟩, hS.F ht⟩
theorem aw_zret {x : Int32} (hd : decode M.2.1 pc = .ok (.ireturn, 1)) (hr : M.2.2.2 = some .boolean) (hx : x = 0 ∨ x = 1) (hq : Q x μ) : AW G d M Q pc L [.inl x] μ := by
  intro p e s m args below meth c H locs ls C hP hS hl hL
  have hr2 : meth.sig.returnType = some .boolean := C.2.2.1.trans hr
  refine W.zret (v := x) C.1 C.2.1 hr2 (by rcases hx with rfl | rfl <;> rfl) (fun t ht hW => ?_) hS.2.2 hd C.2.2.2.2.2.2.1
  rw [hr]
  exact ⟨⟨x, μ, rfl, hq, by dsimp only; rw [ht]; exact hP⟩, hS.F ht⟩
theorem aw_vret (hd : decode M.2.1 pc = .ok (.return_, 1)) (hr : M.2.2.2 = none) (hq : Q 0 μ) : AW G d M Q pc L [] μ := by
  intro p e s m args below meth c H locs ls C hP hS hl hL
  have hr2 : meth.sig.returnType = none := C.2.2.1.trans hr
  refine W.vret C.1 C.2.1 hr2 (fun t ht hW => ?_) hS.2.2 hd C.2.2.2.2.2.2.1
  rw [hr]
  exact ⟨⟨μ, rfl, hq, by dsimp only; rw [ht]; exact hP⟩, hS.F ht⟩
end Rules
