/-! constructors, printed by wip/whole/print_init.py -/
theorem li_int : Cond.arrayClass (newarray.typeOf .int) ∈ gw_tbl := gw_at 126 (by decide +kernel) (by decide +kernel)
theorem li_bool : Cond.arrayClass (newarray.typeOf .boolean) ∈ gw_tbl := gw_at 140 (by decide +kernel) (by decide +kernel)
theorem li_oi : Cond.instanceMethod objectInit ∈ gw_tbl := gw_at 78 (by decide +kernel) (by decide +kernel)
theorem li_oc : Cond.code objectInit ⟨#[0xb1]⟩ 1 none ∈ gw_tbl := gw_at 79 (by decide +kernel) (by decide +kernel)
abbrev c_SD_init : ByteArray := prog_1_method_1_code
def M_SD_init : Mt := (⟨"SignDots", "<init>", "()V"⟩, c_SD_init, 1, none)
abbrev c_NO_init : ByteArray := prog_6_method_1_code
def M_NO_init : Mt := (⟨"SignDots$Notes", "<init>", "()V"⟩, c_NO_init, 1, none)
abbrev c_BB_init : ByteArray := prog_2_method_1_code
def M_BB_init : Mt := (⟨"SignDots$ByBar", "<init>", "()V"⟩, c_BB_init, 1, none)
abbrev c_SG_init : ByteArray := prog_8_method_1_code
def M_SG_init : Mt := (⟨"SignDots$Signs", "<init>", "(LSignDots$Notes;LSignDots$ByBar;[I)V"⟩, c_SG_init, 4, none)
abbrev c_SE_init : ByteArray := prog_7_method_1_code
def M_SE_init : Mt := (⟨"SignDots$Seats", "<init>", "()V"⟩, c_SE_init, 1, none)
abbrev c_CO_init : ByteArray := prog_3_method_1_code
def M_CO_init : Mt := (⟨"SignDots$Columns", "<init>", "(LSignDots$Notes;LSignDots$Signs;)V"⟩, c_CO_init, 3, none)
abbrev c_DS_init : ByteArray := prog_4_method_1_code
def M_DS_init : Mt := (⟨"SignDots$DotSpaces", "<init>", "(LSignDots$Notes;)V"⟩, c_DS_init, 2, none)
abbrev c_KR_init : ByteArray := prog_5_method_1_code
def M_KR_init : Mt := (⟨"SignDots$KeyRow", "<init>", "()V"⟩, c_KR_init, 1, none)
abbrev c_MD_init : ByteArray := prog_10_method_1_code
def M_MD_init : Mt := (⟨"SignDotsModel", "<init>", "()V"⟩, c_MD_init, 1, none)
theorem d_NO_init_0 : decode c_NO_init 0 = .ok (.aload_n 0, 1) := by decide +kernel
theorem d_NO_init_1 : decode c_NO_init 1 = .ok (.invokespecial 3, 3) := by decide +kernel
theorem d_NO_init_4 : decode c_NO_init 4 = .ok (.aload_n 0, 1) := by decide +kernel
theorem d_NO_init_5 : decode c_NO_init 5 = .ok (.bipush 60, 2) := by decide +kernel
theorem d_NO_init_7 : decode c_NO_init 7 = .ok (.newarray .int, 2) := by decide +kernel
theorem d_NO_init_9 : decode c_NO_init 9 = .ok (.putfield 9, 3) := by decide +kernel
theorem d_NO_init_12 : decode c_NO_init 12 = .ok (.aload_n 0, 1) := by decide +kernel
theorem d_NO_init_13 : decode c_NO_init 13 = .ok (.bipush 60, 2) := by decide +kernel
theorem d_NO_init_15 : decode c_NO_init 15 = .ok (.newarray .int, 2) := by decide +kernel
theorem d_NO_init_17 : decode c_NO_init 17 = .ok (.putfield 15, 3) := by decide +kernel
theorem d_NO_init_20 : decode c_NO_init 20 = .ok (.aload_n 0, 1) := by decide +kernel
theorem d_NO_init_21 : decode c_NO_init 21 = .ok (.bipush 60, 2) := by decide +kernel
theorem d_NO_init_23 : decode c_NO_init 23 = .ok (.newarray .int, 2) := by decide +kernel
theorem d_NO_init_25 : decode c_NO_init 25 = .ok (.putfield 18, 3) := by decide +kernel
theorem d_NO_init_28 : decode c_NO_init 28 = .ok (.aload_n 0, 1) := by decide +kernel
theorem d_NO_init_29 : decode c_NO_init 29 = .ok (.bipush 60, 2) := by decide +kernel
theorem d_NO_init_31 : decode c_NO_init 31 = .ok (.newarray .int, 2) := by decide +kernel
theorem d_NO_init_33 : decode c_NO_init 33 = .ok (.putfield 21, 3) := by decide +kernel
theorem d_NO_init_36 : decode c_NO_init 36 = .ok (.aload_n 0, 1) := by decide +kernel
theorem d_NO_init_37 : decode c_NO_init 37 = .ok (.bipush 60, 2) := by decide +kernel
theorem d_NO_init_39 : decode c_NO_init 39 = .ok (.newarray .int, 2) := by decide +kernel
theorem d_NO_init_41 : decode c_NO_init 41 = .ok (.putfield 24, 3) := by decide +kernel
theorem d_NO_init_44 : decode c_NO_init 44 = .ok (.aload_n 0, 1) := by decide +kernel
theorem d_NO_init_45 : decode c_NO_init 45 = .ok (.bipush 60, 2) := by decide +kernel
theorem d_NO_init_47 : decode c_NO_init 47 = .ok (.newarray .int, 2) := by decide +kernel
theorem d_NO_init_49 : decode c_NO_init 49 = .ok (.putfield 27, 3) := by decide +kernel
theorem d_NO_init_52 : decode c_NO_init 52 = .ok (.aload_n 0, 1) := by decide +kernel
theorem d_NO_init_53 : decode c_NO_init 53 = .ok (.sipush 180, 3) := by decide +kernel
theorem d_NO_init_56 : decode c_NO_init 56 = .ok (.newarray .int, 2) := by decide +kernel
theorem d_NO_init_58 : decode c_NO_init 58 = .ok (.putfield 30, 3) := by decide +kernel
theorem d_NO_init_61 : decode c_NO_init 61 = .ok (.return_, 1) := by decide +kernel
theorem lo_NO : Cond.methodLink "SignDots$Notes" 3 objectInit ∈ gw_tbl := gw_at 85 (by decide +kernel) (by decide +kernel)
theorem ff_NO_9 : fFin "SignDots$Notes" 9 4 0 (.array .int) := ⟨_, _, _, rfl, by decide, gw_at 86 (by decide +kernel) (by decide +kernel), rfl, rfl, by decide +kernel⟩
theorem ff_NO_15 : fFin "SignDots$Notes" 15 4 1 (.array .int) := ⟨_, _, _, rfl, by decide, gw_at 91 (by decide +kernel) (by decide +kernel), rfl, rfl, by decide +kernel⟩
theorem ff_NO_18 : fFin "SignDots$Notes" 18 4 2 (.array .int) := ⟨_, _, _, rfl, by decide, gw_at 94 (by decide +kernel) (by decide +kernel), rfl, rfl, by decide +kernel⟩
theorem ff_NO_21 : fFin "SignDots$Notes" 21 4 3 (.array .int) := ⟨_, _, _, rfl, by decide, gw_at 97 (by decide +kernel) (by decide +kernel), rfl, rfl, by decide +kernel⟩
theorem ff_NO_24 : fFin "SignDots$Notes" 24 4 4 (.array .int) := ⟨_, _, _, rfl, by decide, gw_at 98 (by decide +kernel) (by decide +kernel), rfl, rfl, by decide +kernel⟩
theorem ff_NO_27 : fFin "SignDots$Notes" 27 4 5 (.array .int) := ⟨_, _, _, rfl, by decide, gw_at 100 (by decide +kernel) (by decide +kernel), rfl, rfl, by decide +kernel⟩
theorem ff_NO_30 : fFin "SignDots$Notes" 30 4 6 (.array .int) := ⟨_, _, _, rfl, by decide, gw_at 105 (by decide +kernel) (by decide +kernel), rfl, rfl, by decide +kernel⟩
def fs_NO : List Value := [.null, .null, .null, .null, .null, .null, .null, .int 0]
theorem df_NO : ∀ j, j < 8 → defaultValue (t_NO j) = vp_V fs_NO j := fun j hj => by
  match j, hj with
  | 0, _ => rfl
  | 1, _ => rfl
  | 2, _ => rfl
  | 3, _ => rfl
  | 4, _ => rfl
  | 5, _ => rfl
  | 6, _ => rfl
  | 7, _ => rfl
  | n + 8, h => omega
def Sh_NO (cI cZ : ClassId) (h0 : Nat) (w : va_W) : Prop := ∃ q1 q2 q3 q4 q5 q6 q7 : Nat, w = [(h0, .inr (4, [.ref q1, .ref q2, .ref q3, .ref q4, .ref q5, .ref q6, .ref q7, .int 0])), (q1, .inl (cI, 60, .inl (fun _ => 0))), (q2, .inl (cI, 60, .inl (fun _ => 0))), (q3, .inl (cI, 60, .inl (fun _ => 0))), (q4, .inl (cI, 60, .inl (fun _ => 0))), (q5, .inl (cI, 60, .inl (fun _ => 0))), (q6, .inl (cI, 60, .inl (fun _ => 0))), (q7, .inl (cI, 180, .inl (fun _ => 0)))]
abbrev rm_NO : Room := { frames := 1, cells := 7, slots := 540, locals := 12 }
set_option maxRecDepth 20000 in
theorem i_NO (l : Launch) (D : va_G) (cI cZ : ClassId) : CtI l D cI cZ M_NO_init [] 4 fs_NO rm_NO (Sh_NO cI cZ) := by
  refine cti_of rfl rfl rfl (Nat.le_of_ble_eq_true rfl) (fun _ => rfl) (fun h0 sz => ?_)
  refine iw_aload d_NO_init_0 (j := 0) rfl ?_
  refine iw_obj d_NO_init_1 lo_NO li_oi li_oc (by decide) (by decide) ?_
  refine iw_aload d_NO_init_4 (j := 0) rfl ?_
  refine iw_push (lp := 2) (n := 60) (Or.inr (Or.inl ⟨60, d_NO_init_5, rfl, rfl⟩)) ?_
  refine iw_newa' d_NO_init_7 rfl (Or.inl ⟨rfl, rfl⟩) li_int (by decide) rfl (by decide) (by decide) (by decide) (fun q1 => ?_)
  refine iw_putF [.ref q1, .null, .null, .null, .null, .null, .null, .int 0] d_NO_init_9 ff_NO_9 rfl rfl (Nat.le_of_ble_eq_true rfl) rfl ?_
  refine iw_norm [(h0, .inr (4, [.ref q1, .null, .null, .null, .null, .null, .null, .int 0])), (q1, .inl (cI, 60, .inl (fun _ => 0)))] rfl ?_
  refine iw_aload d_NO_init_12 (j := 0) rfl ?_
  refine iw_push (lp := 2) (n := 60) (Or.inr (Or.inl ⟨60, d_NO_init_13, rfl, rfl⟩)) ?_
  refine iw_newa' d_NO_init_15 rfl (Or.inl ⟨rfl, rfl⟩) li_int (by decide) rfl (by decide) (by decide) (by decide) (fun q2 => ?_)
  refine iw_putF [.ref q1, .ref q2, .null, .null, .null, .null, .null, .int 0] d_NO_init_17 ff_NO_15 rfl rfl (Nat.le_of_ble_eq_true rfl) rfl ?_
  refine iw_norm [(h0, .inr (4, [.ref q1, .ref q2, .null, .null, .null, .null, .null, .int 0])), (q1, .inl (cI, 60, .inl (fun _ => 0))), (q2, .inl (cI, 60, .inl (fun _ => 0)))] rfl ?_
  refine iw_aload d_NO_init_20 (j := 0) rfl ?_
  refine iw_push (lp := 2) (n := 60) (Or.inr (Or.inl ⟨60, d_NO_init_21, rfl, rfl⟩)) ?_
  refine iw_newa' d_NO_init_23 rfl (Or.inl ⟨rfl, rfl⟩) li_int (by decide) rfl (by decide) (by decide) (by decide) (fun q3 => ?_)
  refine iw_putF [.ref q1, .ref q2, .ref q3, .null, .null, .null, .null, .int 0] d_NO_init_25 ff_NO_18 rfl rfl (Nat.le_of_ble_eq_true rfl) rfl ?_
  refine iw_norm [(h0, .inr (4, [.ref q1, .ref q2, .ref q3, .null, .null, .null, .null, .int 0])), (q1, .inl (cI, 60, .inl (fun _ => 0))), (q2, .inl (cI, 60, .inl (fun _ => 0))), (q3, .inl (cI, 60, .inl (fun _ => 0)))] rfl ?_
  refine iw_aload d_NO_init_28 (j := 0) rfl ?_
  refine iw_push (lp := 2) (n := 60) (Or.inr (Or.inl ⟨60, d_NO_init_29, rfl, rfl⟩)) ?_
  refine iw_newa' d_NO_init_31 rfl (Or.inl ⟨rfl, rfl⟩) li_int (by decide) rfl (by decide) (by decide) (by decide) (fun q4 => ?_)
  refine iw_putF [.ref q1, .ref q2, .ref q3, .ref q4, .null, .null, .null, .int 0] d_NO_init_33 ff_NO_21 rfl rfl (Nat.le_of_ble_eq_true rfl) rfl ?_
  refine iw_norm [(h0, .inr (4, [.ref q1, .ref q2, .ref q3, .ref q4, .null, .null, .null, .int 0])), (q1, .inl (cI, 60, .inl (fun _ => 0))), (q2, .inl (cI, 60, .inl (fun _ => 0))), (q3, .inl (cI, 60, .inl (fun _ => 0))), (q4, .inl (cI, 60, .inl (fun _ => 0)))] rfl ?_
  refine iw_aload d_NO_init_36 (j := 0) rfl ?_
  refine iw_push (lp := 2) (n := 60) (Or.inr (Or.inl ⟨60, d_NO_init_37, rfl, rfl⟩)) ?_
  refine iw_newa' d_NO_init_39 rfl (Or.inl ⟨rfl, rfl⟩) li_int (by decide) rfl (by decide) (by decide) (by decide) (fun q5 => ?_)
  refine iw_putF [.ref q1, .ref q2, .ref q3, .ref q4, .ref q5, .null, .null, .int 0] d_NO_init_41 ff_NO_24 rfl rfl (Nat.le_of_ble_eq_true rfl) rfl ?_
  refine iw_norm [(h0, .inr (4, [.ref q1, .ref q2, .ref q3, .ref q4, .ref q5, .null, .null, .int 0])), (q1, .inl (cI, 60, .inl (fun _ => 0))), (q2, .inl (cI, 60, .inl (fun _ => 0))), (q3, .inl (cI, 60, .inl (fun _ => 0))), (q4, .inl (cI, 60, .inl (fun _ => 0))), (q5, .inl (cI, 60, .inl (fun _ => 0)))] rfl ?_
  refine iw_aload d_NO_init_44 (j := 0) rfl ?_
  refine iw_push (lp := 2) (n := 60) (Or.inr (Or.inl ⟨60, d_NO_init_45, rfl, rfl⟩)) ?_
  refine iw_newa' d_NO_init_47 rfl (Or.inl ⟨rfl, rfl⟩) li_int (by decide) rfl (by decide) (by decide) (by decide) (fun q6 => ?_)
  refine iw_putF [.ref q1, .ref q2, .ref q3, .ref q4, .ref q5, .ref q6, .null, .int 0] d_NO_init_49 ff_NO_27 rfl rfl (Nat.le_of_ble_eq_true rfl) rfl ?_
  refine iw_norm [(h0, .inr (4, [.ref q1, .ref q2, .ref q3, .ref q4, .ref q5, .ref q6, .null, .int 0])), (q1, .inl (cI, 60, .inl (fun _ => 0))), (q2, .inl (cI, 60, .inl (fun _ => 0))), (q3, .inl (cI, 60, .inl (fun _ => 0))), (q4, .inl (cI, 60, .inl (fun _ => 0))), (q5, .inl (cI, 60, .inl (fun _ => 0))), (q6, .inl (cI, 60, .inl (fun _ => 0)))] rfl ?_
  refine iw_aload d_NO_init_52 (j := 0) rfl ?_
  refine iw_push (lp := 3) (n := 180) (Or.inr (Or.inr ⟨180, d_NO_init_53, rfl, rfl⟩)) ?_
  refine iw_newa' d_NO_init_56 rfl (Or.inl ⟨rfl, rfl⟩) li_int (by decide) rfl (by decide) (by decide) (by decide) (fun q7 => ?_)
  refine iw_putF [.ref q1, .ref q2, .ref q3, .ref q4, .ref q5, .ref q6, .ref q7, .int 0] d_NO_init_58 ff_NO_30 rfl rfl (Nat.le_of_ble_eq_true rfl) rfl ?_
  refine iw_norm [(h0, .inr (4, [.ref q1, .ref q2, .ref q3, .ref q4, .ref q5, .ref q6, .ref q7, .int 0])), (q1, .inl (cI, 60, .inl (fun _ => 0))), (q2, .inl (cI, 60, .inl (fun _ => 0))), (q3, .inl (cI, 60, .inl (fun _ => 0))), (q4, .inl (cI, 60, .inl (fun _ => 0))), (q5, .inl (cI, 60, .inl (fun _ => 0))), (q6, .inl (cI, 60, .inl (fun _ => 0))), (q7, .inl (cI, 180, .inl (fun _ => 0)))] rfl ?_
  exact iw_ret d_NO_init_61 ⟨q1, q2, q3, q4, q5, q6, q7, rfl⟩
theorem d_BB_init_0 : decode c_BB_init 0 = .ok (.aload_n 0, 1) := by decide +kernel
theorem d_BB_init_1 : decode c_BB_init 1 = .ok (.invokespecial 3, 3) := by decide +kernel
theorem d_BB_init_4 : decode c_BB_init 4 = .ok (.aload_n 0, 1) := by decide +kernel
theorem d_BB_init_5 : decode c_BB_init 5 = .ok (.bipush 20, 2) := by decide +kernel
theorem d_BB_init_7 : decode c_BB_init 7 = .ok (.newarray .int, 2) := by decide +kernel
theorem d_BB_init_9 : decode c_BB_init 9 = .ok (.putfield 9, 3) := by decide +kernel
theorem d_BB_init_12 : decode c_BB_init 12 = .ok (.aload_n 0, 1) := by decide +kernel
theorem d_BB_init_13 : decode c_BB_init 13 = .ok (.bipush 20, 2) := by decide +kernel
theorem d_BB_init_15 : decode c_BB_init 15 = .ok (.newarray .boolean, 2) := by decide +kernel
theorem d_BB_init_17 : decode c_BB_init 17 = .ok (.putfield 15, 3) := by decide +kernel
theorem d_BB_init_20 : decode c_BB_init 20 = .ok (.return_, 1) := by decide +kernel
theorem lo_BB : Cond.methodLink "SignDots$ByBar" 3 objectInit ∈ gw_tbl := gw_at 132 (by decide +kernel) (by decide +kernel)
theorem ff_BB_9 : fFin "SignDots$ByBar" 9 0 0 (.array .int) := ⟨_, _, _, rfl, by decide, gw_at 133 (by decide +kernel) (by decide +kernel), rfl, rfl, by decide +kernel⟩
theorem ff_BB_15 : fFin "SignDots$ByBar" 15 0 1 (.array .boolean) := ⟨_, _, _, rfl, by decide, gw_at 134 (by decide +kernel) (by decide +kernel), rfl, rfl, by decide +kernel⟩
def fs_BB : List Value := [.null, .null]
theorem df_BB : ∀ j, j < 2 → defaultValue (t_BB j) = vp_V fs_BB j := fun j hj => by
  match j, hj with
  | 0, _ => rfl
  | 1, _ => rfl
  | n + 2, h => omega
def Sh_BB (cI cZ : ClassId) (h0 : Nat) (w : va_W) : Prop := ∃ q1 q2 : Nat, w = [(h0, .inr (0, [.ref q1, .ref q2])), (q1, .inl (cI, 20, .inl (fun _ => 0))), (q2, .inl (cZ, 20, .inl (fun _ => 0)))]
abbrev rm_BB : Room := { frames := 1, cells := 2, slots := 40, locals := 12 }
set_option maxRecDepth 20000 in
theorem i_BB (l : Launch) (D : va_G) (cI cZ : ClassId) : CtI l D cI cZ M_BB_init [] 0 fs_BB rm_BB (Sh_BB cI cZ) := by
  refine cti_of rfl rfl rfl (Nat.le_of_ble_eq_true rfl) (fun _ => rfl) (fun h0 sz => ?_)
  refine iw_aload d_BB_init_0 (j := 0) rfl ?_
  refine iw_obj d_BB_init_1 lo_BB li_oi li_oc (by decide) (by decide) ?_
  refine iw_aload d_BB_init_4 (j := 0) rfl ?_
  refine iw_push (lp := 2) (n := 20) (Or.inr (Or.inl ⟨20, d_BB_init_5, rfl, rfl⟩)) ?_
  refine iw_newa' d_BB_init_7 rfl (Or.inl ⟨rfl, rfl⟩) li_int (by decide) rfl (by decide) (by decide) (by decide) (fun q1 => ?_)
  refine iw_putF [.ref q1, .null] d_BB_init_9 ff_BB_9 rfl rfl (Nat.le_of_ble_eq_true rfl) rfl ?_
  refine iw_norm [(h0, .inr (0, [.ref q1, .null])), (q1, .inl (cI, 20, .inl (fun _ => 0)))] rfl ?_
  refine iw_aload d_BB_init_12 (j := 0) rfl ?_
  refine iw_push (lp := 2) (n := 20) (Or.inr (Or.inl ⟨20, d_BB_init_13, rfl, rfl⟩)) ?_
  refine iw_newa' d_BB_init_15 rfl (Or.inr ⟨rfl, rfl⟩) li_bool (by decide) rfl (by decide) (by decide) (by decide) (fun q2 => ?_)
  refine iw_putF [.ref q1, .ref q2] d_BB_init_17 ff_BB_15 rfl rfl (Nat.le_of_ble_eq_true rfl) rfl ?_
  refine iw_norm [(h0, .inr (0, [.ref q1, .ref q2])), (q1, .inl (cI, 20, .inl (fun _ => 0))), (q2, .inl (cZ, 20, .inl (fun _ => 0)))] rfl ?_
  exact iw_ret d_BB_init_20 ⟨q1, q2, rfl⟩
theorem d_SE_init_0 : decode c_SE_init 0 = .ok (.aload_n 0, 1) := by decide +kernel
theorem d_SE_init_1 : decode c_SE_init 1 = .ok (.invokespecial 3, 3) := by decide +kernel
theorem d_SE_init_4 : decode c_SE_init 4 = .ok (.aload_n 0, 1) := by decide +kernel
theorem d_SE_init_5 : decode c_SE_init 5 = .ok (.sipush 280, 3) := by decide +kernel
theorem d_SE_init_8 : decode c_SE_init 8 = .ok (.newarray .int, 2) := by decide +kernel
theorem d_SE_init_10 : decode c_SE_init 10 = .ok (.putfield 11, 3) := by decide +kernel
theorem d_SE_init_13 : decode c_SE_init 13 = .ok (.aload_n 0, 1) := by decide +kernel
theorem d_SE_init_14 : decode c_SE_init 14 = .ok (.sipush 280, 3) := by decide +kernel
theorem d_SE_init_17 : decode c_SE_init 17 = .ok (.newarray .int, 2) := by decide +kernel
theorem d_SE_init_19 : decode c_SE_init 19 = .ok (.putfield 15, 3) := by decide +kernel
theorem d_SE_init_22 : decode c_SE_init 22 = .ok (.aload_n 0, 1) := by decide +kernel
theorem d_SE_init_23 : decode c_SE_init 23 = .ok (.sipush 280, 3) := by decide +kernel
theorem d_SE_init_26 : decode c_SE_init 26 = .ok (.newarray .int, 2) := by decide +kernel
theorem d_SE_init_28 : decode c_SE_init 28 = .ok (.putfield 18, 3) := by decide +kernel
theorem d_SE_init_31 : decode c_SE_init 31 = .ok (.aload_n 0, 1) := by decide +kernel
theorem d_SE_init_32 : decode c_SE_init 32 = .ok (.sipush 280, 3) := by decide +kernel
theorem d_SE_init_35 : decode c_SE_init 35 = .ok (.newarray .int, 2) := by decide +kernel
theorem d_SE_init_37 : decode c_SE_init 37 = .ok (.putfield 21, 3) := by decide +kernel
theorem d_SE_init_40 : decode c_SE_init 40 = .ok (.aload_n 0, 1) := by decide +kernel
theorem d_SE_init_41 : decode c_SE_init 41 = .ok (.sipush 280, 3) := by decide +kernel
theorem d_SE_init_44 : decode c_SE_init 44 = .ok (.newarray .int, 2) := by decide +kernel
theorem d_SE_init_46 : decode c_SE_init 46 = .ok (.putfield 24, 3) := by decide +kernel
theorem d_SE_init_49 : decode c_SE_init 49 = .ok (.return_, 1) := by decide +kernel
theorem lo_SE : Cond.methodLink "SignDots$Seats" 3 objectInit ∈ gw_tbl := gw_at 152 (by decide +kernel) (by decide +kernel)
theorem ff_SE_11 : fFin "SignDots$Seats" 11 5 0 (.array .int) := ⟨_, _, _, rfl, by decide, gw_at 153 (by decide +kernel) (by decide +kernel), rfl, rfl, by decide +kernel⟩
theorem ff_SE_15 : fFin "SignDots$Seats" 15 5 1 (.array .int) := ⟨_, _, _, rfl, by decide, gw_at 154 (by decide +kernel) (by decide +kernel), rfl, rfl, by decide +kernel⟩
theorem ff_SE_18 : fFin "SignDots$Seats" 18 5 2 (.array .int) := ⟨_, _, _, rfl, by decide, gw_at 155 (by decide +kernel) (by decide +kernel), rfl, rfl, by decide +kernel⟩
theorem ff_SE_21 : fFin "SignDots$Seats" 21 5 3 (.array .int) := ⟨_, _, _, rfl, by decide, gw_at 156 (by decide +kernel) (by decide +kernel), rfl, rfl, by decide +kernel⟩
theorem ff_SE_24 : fFin "SignDots$Seats" 24 5 4 (.array .int) := ⟨_, _, _, rfl, by decide, gw_at 157 (by decide +kernel) (by decide +kernel), rfl, rfl, by decide +kernel⟩
def fs_SE : List Value := [.null, .null, .null, .null, .null]
theorem df_SE : ∀ j, j < 5 → defaultValue (t_SE j) = vp_V fs_SE j := fun j hj => by
  match j, hj with
  | 0, _ => rfl
  | 1, _ => rfl
  | 2, _ => rfl
  | 3, _ => rfl
  | 4, _ => rfl
  | n + 5, h => omega
def Sh_SE (cI cZ : ClassId) (h0 : Nat) (w : va_W) : Prop := ∃ q1 q2 q3 q4 q5 : Nat, w = [(h0, .inr (5, [.ref q1, .ref q2, .ref q3, .ref q4, .ref q5])), (q1, .inl (cI, 280, .inl (fun _ => 0))), (q2, .inl (cI, 280, .inl (fun _ => 0))), (q3, .inl (cI, 280, .inl (fun _ => 0))), (q4, .inl (cI, 280, .inl (fun _ => 0))), (q5, .inl (cI, 280, .inl (fun _ => 0)))]
abbrev rm_SE : Room := { frames := 1, cells := 5, slots := 1400, locals := 12 }
set_option maxRecDepth 20000 in
theorem i_SE (l : Launch) (D : va_G) (cI cZ : ClassId) : CtI l D cI cZ M_SE_init [] 5 fs_SE rm_SE (Sh_SE cI cZ) := by
  refine cti_of rfl rfl rfl (Nat.le_of_ble_eq_true rfl) (fun _ => rfl) (fun h0 sz => ?_)
  refine iw_aload d_SE_init_0 (j := 0) rfl ?_
  refine iw_obj d_SE_init_1 lo_SE li_oi li_oc (by decide) (by decide) ?_
  refine iw_aload d_SE_init_4 (j := 0) rfl ?_
  refine iw_push (lp := 3) (n := 280) (Or.inr (Or.inr ⟨280, d_SE_init_5, rfl, rfl⟩)) ?_
  refine iw_newa' d_SE_init_8 rfl (Or.inl ⟨rfl, rfl⟩) li_int (by decide) rfl (by decide) (by decide) (by decide) (fun q1 => ?_)
  refine iw_putF [.ref q1, .null, .null, .null, .null] d_SE_init_10 ff_SE_11 rfl rfl (Nat.le_of_ble_eq_true rfl) rfl ?_
  refine iw_norm [(h0, .inr (5, [.ref q1, .null, .null, .null, .null])), (q1, .inl (cI, 280, .inl (fun _ => 0)))] rfl ?_
  refine iw_aload d_SE_init_13 (j := 0) rfl ?_
  refine iw_push (lp := 3) (n := 280) (Or.inr (Or.inr ⟨280, d_SE_init_14, rfl, rfl⟩)) ?_
  refine iw_newa' d_SE_init_17 rfl (Or.inl ⟨rfl, rfl⟩) li_int (by decide) rfl (by decide) (by decide) (by decide) (fun q2 => ?_)
  refine iw_putF [.ref q1, .ref q2, .null, .null, .null] d_SE_init_19 ff_SE_15 rfl rfl (Nat.le_of_ble_eq_true rfl) rfl ?_
  refine iw_norm [(h0, .inr (5, [.ref q1, .ref q2, .null, .null, .null])), (q1, .inl (cI, 280, .inl (fun _ => 0))), (q2, .inl (cI, 280, .inl (fun _ => 0)))] rfl ?_
  refine iw_aload d_SE_init_22 (j := 0) rfl ?_
  refine iw_push (lp := 3) (n := 280) (Or.inr (Or.inr ⟨280, d_SE_init_23, rfl, rfl⟩)) ?_
  refine iw_newa' d_SE_init_26 rfl (Or.inl ⟨rfl, rfl⟩) li_int (by decide) rfl (by decide) (by decide) (by decide) (fun q3 => ?_)
  refine iw_putF [.ref q1, .ref q2, .ref q3, .null, .null] d_SE_init_28 ff_SE_18 rfl rfl (Nat.le_of_ble_eq_true rfl) rfl ?_
  refine iw_norm [(h0, .inr (5, [.ref q1, .ref q2, .ref q3, .null, .null])), (q1, .inl (cI, 280, .inl (fun _ => 0))), (q2, .inl (cI, 280, .inl (fun _ => 0))), (q3, .inl (cI, 280, .inl (fun _ => 0)))] rfl ?_
  refine iw_aload d_SE_init_31 (j := 0) rfl ?_
  refine iw_push (lp := 3) (n := 280) (Or.inr (Or.inr ⟨280, d_SE_init_32, rfl, rfl⟩)) ?_
  refine iw_newa' d_SE_init_35 rfl (Or.inl ⟨rfl, rfl⟩) li_int (by decide) rfl (by decide) (by decide) (by decide) (fun q4 => ?_)
  refine iw_putF [.ref q1, .ref q2, .ref q3, .ref q4, .null] d_SE_init_37 ff_SE_21 rfl rfl (Nat.le_of_ble_eq_true rfl) rfl ?_
  refine iw_norm [(h0, .inr (5, [.ref q1, .ref q2, .ref q3, .ref q4, .null])), (q1, .inl (cI, 280, .inl (fun _ => 0))), (q2, .inl (cI, 280, .inl (fun _ => 0))), (q3, .inl (cI, 280, .inl (fun _ => 0))), (q4, .inl (cI, 280, .inl (fun _ => 0)))] rfl ?_
  refine iw_aload d_SE_init_40 (j := 0) rfl ?_
  refine iw_push (lp := 3) (n := 280) (Or.inr (Or.inr ⟨280, d_SE_init_41, rfl, rfl⟩)) ?_
  refine iw_newa' d_SE_init_44 rfl (Or.inl ⟨rfl, rfl⟩) li_int (by decide) rfl (by decide) (by decide) (by decide) (fun q5 => ?_)
  refine iw_putF [.ref q1, .ref q2, .ref q3, .ref q4, .ref q5] d_SE_init_46 ff_SE_24 rfl rfl (Nat.le_of_ble_eq_true rfl) rfl ?_
  refine iw_norm [(h0, .inr (5, [.ref q1, .ref q2, .ref q3, .ref q4, .ref q5])), (q1, .inl (cI, 280, .inl (fun _ => 0))), (q2, .inl (cI, 280, .inl (fun _ => 0))), (q3, .inl (cI, 280, .inl (fun _ => 0))), (q4, .inl (cI, 280, .inl (fun _ => 0))), (q5, .inl (cI, 280, .inl (fun _ => 0)))] rfl ?_
  exact iw_ret d_SE_init_49 ⟨q1, q2, q3, q4, q5, rfl⟩
theorem d_KR_init_0 : decode c_KR_init 0 = .ok (.aload_n 0, 1) := by decide +kernel
theorem d_KR_init_1 : decode c_KR_init 1 = .ok (.invokespecial 3, 3) := by decide +kernel
theorem d_KR_init_4 : decode c_KR_init 4 = .ok (.aload_n 0, 1) := by decide +kernel
theorem d_KR_init_5 : decode c_KR_init 5 = .ok (.bipush 14, 2) := by decide +kernel
theorem d_KR_init_7 : decode c_KR_init 7 = .ok (.newarray .int, 2) := by decide +kernel
theorem d_KR_init_9 : decode c_KR_init 9 = .ok (.putfield 11, 3) := by decide +kernel
theorem d_KR_init_12 : decode c_KR_init 12 = .ok (.aload_n 0, 1) := by decide +kernel
theorem d_KR_init_13 : decode c_KR_init 13 = .ok (.bipush 14, 2) := by decide +kernel
theorem d_KR_init_15 : decode c_KR_init 15 = .ok (.newarray .int, 2) := by decide +kernel
theorem d_KR_init_17 : decode c_KR_init 17 = .ok (.putfield 15, 3) := by decide +kernel
theorem d_KR_init_20 : decode c_KR_init 20 = .ok (.aload_n 0, 1) := by decide +kernel
theorem d_KR_init_21 : decode c_KR_init 21 = .ok (.bipush 14, 2) := by decide +kernel
theorem d_KR_init_23 : decode c_KR_init 23 = .ok (.newarray .int, 2) := by decide +kernel
theorem d_KR_init_25 : decode c_KR_init 25 = .ok (.putfield 18, 3) := by decide +kernel
theorem d_KR_init_28 : decode c_KR_init 28 = .ok (.return_, 1) := by decide +kernel
theorem lo_KR : Cond.methodLink "SignDots$KeyRow" 3 objectInit ∈ gw_tbl := gw_at 283 (by decide +kernel) (by decide +kernel)
theorem ff_KR_11 : fFin "SignDots$KeyRow" 11 3 0 (.array .int) := ⟨_, _, _, rfl, by decide, gw_at 284 (by decide +kernel) (by decide +kernel), rfl, rfl, by decide +kernel⟩
theorem ff_KR_15 : fFin "SignDots$KeyRow" 15 3 1 (.array .int) := ⟨_, _, _, rfl, by decide, gw_at 286 (by decide +kernel) (by decide +kernel), rfl, rfl, by decide +kernel⟩
theorem ff_KR_18 : fFin "SignDots$KeyRow" 18 3 2 (.array .int) := ⟨_, _, _, rfl, by decide, gw_at 288 (by decide +kernel) (by decide +kernel), rfl, rfl, by decide +kernel⟩
def fs_KR : List Value := [.null, .null, .null, .int 0]
theorem df_KR : ∀ j, j < 4 → defaultValue (t_KR j) = vp_V fs_KR j := fun j hj => by
  match j, hj with
  | 0, _ => rfl
  | 1, _ => rfl
  | 2, _ => rfl
  | 3, _ => rfl
  | n + 4, h => omega
def Sh_KR (cI cZ : ClassId) (h0 : Nat) (w : va_W) : Prop := ∃ q1 q2 q3 : Nat, w = [(h0, .inr (3, [.ref q1, .ref q2, .ref q3, .int 0])), (q1, .inl (cI, 14, .inl (fun _ => 0))), (q2, .inl (cI, 14, .inl (fun _ => 0))), (q3, .inl (cI, 14, .inl (fun _ => 0)))]
abbrev rm_KR : Room := { frames := 1, cells := 3, slots := 42, locals := 12 }
set_option maxRecDepth 20000 in
theorem i_KR (l : Launch) (D : va_G) (cI cZ : ClassId) : CtI l D cI cZ M_KR_init [] 3 fs_KR rm_KR (Sh_KR cI cZ) := by
  refine cti_of rfl rfl rfl (Nat.le_of_ble_eq_true rfl) (fun _ => rfl) (fun h0 sz => ?_)
  refine iw_aload d_KR_init_0 (j := 0) rfl ?_
  refine iw_obj d_KR_init_1 lo_KR li_oi li_oc (by decide) (by decide) ?_
  refine iw_aload d_KR_init_4 (j := 0) rfl ?_
  refine iw_push (lp := 2) (n := 14) (Or.inr (Or.inl ⟨14, d_KR_init_5, rfl, rfl⟩)) ?_
  refine iw_newa' d_KR_init_7 rfl (Or.inl ⟨rfl, rfl⟩) li_int (by decide) rfl (by decide) (by decide) (by decide) (fun q1 => ?_)
  refine iw_putF [.ref q1, .null, .null, .int 0] d_KR_init_9 ff_KR_11 rfl rfl (Nat.le_of_ble_eq_true rfl) rfl ?_
  refine iw_norm [(h0, .inr (3, [.ref q1, .null, .null, .int 0])), (q1, .inl (cI, 14, .inl (fun _ => 0)))] rfl ?_
  refine iw_aload d_KR_init_12 (j := 0) rfl ?_
  refine iw_push (lp := 2) (n := 14) (Or.inr (Or.inl ⟨14, d_KR_init_13, rfl, rfl⟩)) ?_
  refine iw_newa' d_KR_init_15 rfl (Or.inl ⟨rfl, rfl⟩) li_int (by decide) rfl (by decide) (by decide) (by decide) (fun q2 => ?_)
  refine iw_putF [.ref q1, .ref q2, .null, .int 0] d_KR_init_17 ff_KR_15 rfl rfl (Nat.le_of_ble_eq_true rfl) rfl ?_
  refine iw_norm [(h0, .inr (3, [.ref q1, .ref q2, .null, .int 0])), (q1, .inl (cI, 14, .inl (fun _ => 0))), (q2, .inl (cI, 14, .inl (fun _ => 0)))] rfl ?_
  refine iw_aload d_KR_init_20 (j := 0) rfl ?_
  refine iw_push (lp := 2) (n := 14) (Or.inr (Or.inl ⟨14, d_KR_init_21, rfl, rfl⟩)) ?_
  refine iw_newa' d_KR_init_23 rfl (Or.inl ⟨rfl, rfl⟩) li_int (by decide) rfl (by decide) (by decide) (by decide) (fun q3 => ?_)
  refine iw_putF [.ref q1, .ref q2, .ref q3, .int 0] d_KR_init_25 ff_KR_18 rfl rfl (Nat.le_of_ble_eq_true rfl) rfl ?_
  refine iw_norm [(h0, .inr (3, [.ref q1, .ref q2, .ref q3, .int 0])), (q1, .inl (cI, 14, .inl (fun _ => 0))), (q2, .inl (cI, 14, .inl (fun _ => 0))), (q3, .inl (cI, 14, .inl (fun _ => 0)))] rfl ?_
  exact iw_ret d_KR_init_28 ⟨q1, q2, q3, rfl⟩
theorem d_DS_init_0 : decode c_DS_init 0 = .ok (.aload_n 0, 1) := by decide +kernel
theorem d_DS_init_1 : decode c_DS_init 1 = .ok (.invokespecial 3, 3) := by decide +kernel
theorem d_DS_init_4 : decode c_DS_init 4 = .ok (.aload_n 0, 1) := by decide +kernel
theorem d_DS_init_5 : decode c_DS_init 5 = .ok (.bipush 70, 2) := by decide +kernel
theorem d_DS_init_7 : decode c_DS_init 7 = .ok (.newarray .int, 2) := by decide +kernel
theorem d_DS_init_9 : decode c_DS_init 9 = .ok (.putfield 9, 3) := by decide +kernel
theorem d_DS_init_12 : decode c_DS_init 12 = .ok (.aload_n 0, 1) := by decide +kernel
theorem d_DS_init_13 : decode c_DS_init 13 = .ok (.bipush 60, 2) := by decide +kernel
theorem d_DS_init_15 : decode c_DS_init 15 = .ok (.newarray .int, 2) := by decide +kernel
theorem d_DS_init_17 : decode c_DS_init 17 = .ok (.putfield 15, 3) := by decide +kernel
theorem d_DS_init_20 : decode c_DS_init 20 = .ok (.aload_n 0, 1) := by decide +kernel
theorem d_DS_init_21 : decode c_DS_init 21 = .ok (.bipush 60, 2) := by decide +kernel
theorem d_DS_init_23 : decode c_DS_init 23 = .ok (.newarray .int, 2) := by decide +kernel
theorem d_DS_init_25 : decode c_DS_init 25 = .ok (.putfield 18, 3) := by decide +kernel
theorem d_DS_init_28 : decode c_DS_init 28 = .ok (.aload_n 0, 1) := by decide +kernel
theorem d_DS_init_29 : decode c_DS_init 29 = .ok (.sipush 5760, 3) := by decide +kernel
theorem d_DS_init_32 : decode c_DS_init 32 = .ok (.newarray .int, 2) := by decide +kernel
theorem d_DS_init_34 : decode c_DS_init 34 = .ok (.putfield 21, 3) := by decide +kernel
theorem d_DS_init_37 : decode c_DS_init 37 = .ok (.aload_n 0, 1) := by decide +kernel
theorem d_DS_init_38 : decode c_DS_init 38 = .ok (.iconst (-1), 1) := by decide +kernel
theorem d_DS_init_39 : decode c_DS_init 39 = .ok (.putfield 24, 3) := by decide +kernel
theorem d_DS_init_42 : decode c_DS_init 42 = .ok (.aload_n 0, 1) := by decide +kernel
theorem d_DS_init_43 : decode c_DS_init 43 = .ok (.aload_n 1, 1) := by decide +kernel
theorem d_DS_init_44 : decode c_DS_init 44 = .ok (.putfield 28, 3) := by decide +kernel
theorem d_DS_init_47 : decode c_DS_init 47 = .ok (.return_, 1) := by decide +kernel
theorem lo_DS : Cond.methodLink "SignDots$DotSpaces" 3 objectInit ∈ gw_tbl := gw_at 249 (by decide +kernel) (by decide +kernel)
theorem ff_DS_9 : fFin "SignDots$DotSpaces" 9 2 1 (.array .int) := ⟨_, _, _, rfl, by decide, gw_at 251 (by decide +kernel) (by decide +kernel), rfl, rfl, by decide +kernel⟩
theorem ff_DS_15 : fFin "SignDots$DotSpaces" 15 2 2 (.array .int) := ⟨_, _, _, rfl, by decide, gw_at 252 (by decide +kernel) (by decide +kernel), rfl, rfl, by decide +kernel⟩
theorem ff_DS_18 : fFin "SignDots$DotSpaces" 18 2 3 (.array .int) := ⟨_, _, _, rfl, by decide, gw_at 253 (by decide +kernel) (by decide +kernel), rfl, rfl, by decide +kernel⟩
theorem ff_DS_21 : fFin "SignDots$DotSpaces" 21 2 4 (.array .int) := ⟨_, _, _, rfl, by decide, gw_at 254 (by decide +kernel) (by decide +kernel), rfl, rfl, by decide +kernel⟩
theorem fa_DS_24 : fLnk "SignDots$DotSpaces" 24 2 8 := ⟨_, _, _, rfl, by decide, gw_at 258 (by decide +kernel) (by decide +kernel)⟩
theorem fi_DS_24 : fInt 2 8 := ⟨_, _, _, rfl, rfl, rfl⟩
theorem ff_DS_28 : fFin "SignDots$DotSpaces" 28 2 0 (.object "SignDots$Notes") := ⟨_, _, _, rfl, by decide, gw_at 250 (by decide +kernel) (by decide +kernel), rfl, rfl, by decide +kernel⟩
def fs_DS : List Value := [.null, .null, .null, .null, .null, .int 0, .int 0, .int 0, .int 0]
theorem df_DS : ∀ j, j < 9 → defaultValue (t_DS j) = vp_V fs_DS j := fun j hj => by
  match j, hj with
  | 0, _ => rfl
  | 1, _ => rfl
  | 2, _ => rfl
  | 3, _ => rfl
  | 4, _ => rfl
  | 5, _ => rfl
  | 6, _ => rfl
  | 7, _ => rfl
  | 8, _ => rfl
  | n + 9, h => omega
def Sh_DS (cI cZ : ClassId) (a1 : Nat) (h0 : Nat) (w : va_W) : Prop := ∃ q1 q2 q3 q4 : Nat, w = [(h0, .inr (2, [.ref a1, .ref q1, .ref q2, .ref q3, .ref q4, .int 0, .int 0, .int 0, .int (-1)])), (q1, .inl (cI, 70, .inl (fun _ => 0))), (q2, .inl (cI, 60, .inl (fun _ => 0))), (q3, .inl (cI, 60, .inl (fun _ => 0))), (q4, .inl (cI, 5760, .inl (fun _ => 0)))]
abbrev rm_DS : Room := { frames := 1, cells := 4, slots := 5950, locals := 12 }
set_option maxRecDepth 20000 in
theorem i_DS (l : Launch) (D : va_G) (cI cZ : ClassId) (a1 : Nat) : CtI l D cI cZ M_DS_init [.ref a1] 2 fs_DS rm_DS (Sh_DS cI cZ a1) := by
  refine cti_of rfl rfl rfl (Nat.le_of_ble_eq_true rfl) (fun _ => rfl) (fun h0 sz => ?_)
  refine iw_aload d_DS_init_0 (j := 0) rfl ?_
  refine iw_obj d_DS_init_1 lo_DS li_oi li_oc (by decide) (by decide) ?_
  refine iw_aload d_DS_init_4 (j := 0) rfl ?_
  refine iw_push (lp := 2) (n := 70) (Or.inr (Or.inl ⟨70, d_DS_init_5, rfl, rfl⟩)) ?_
  refine iw_newa' d_DS_init_7 rfl (Or.inl ⟨rfl, rfl⟩) li_int (by decide) rfl (by decide) (by decide) (by decide) (fun q1 => ?_)
  refine iw_putF [.null, .ref q1, .null, .null, .null, .int 0, .int 0, .int 0, .int 0] d_DS_init_9 ff_DS_9 rfl rfl (Nat.le_of_ble_eq_true rfl) rfl ?_
  refine iw_norm [(h0, .inr (2, [.null, .ref q1, .null, .null, .null, .int 0, .int 0, .int 0, .int 0])), (q1, .inl (cI, 70, .inl (fun _ => 0)))] rfl ?_
  refine iw_aload d_DS_init_12 (j := 0) rfl ?_
  refine iw_push (lp := 2) (n := 60) (Or.inr (Or.inl ⟨60, d_DS_init_13, rfl, rfl⟩)) ?_
  refine iw_newa' d_DS_init_15 rfl (Or.inl ⟨rfl, rfl⟩) li_int (by decide) rfl (by decide) (by decide) (by decide) (fun q2 => ?_)
  refine iw_putF [.null, .ref q1, .ref q2, .null, .null, .int 0, .int 0, .int 0, .int 0] d_DS_init_17 ff_DS_15 rfl rfl (Nat.le_of_ble_eq_true rfl) rfl ?_
  refine iw_norm [(h0, .inr (2, [.null, .ref q1, .ref q2, .null, .null, .int 0, .int 0, .int 0, .int 0])), (q1, .inl (cI, 70, .inl (fun _ => 0))), (q2, .inl (cI, 60, .inl (fun _ => 0)))] rfl ?_
  refine iw_aload d_DS_init_20 (j := 0) rfl ?_
  refine iw_push (lp := 2) (n := 60) (Or.inr (Or.inl ⟨60, d_DS_init_21, rfl, rfl⟩)) ?_
  refine iw_newa' d_DS_init_23 rfl (Or.inl ⟨rfl, rfl⟩) li_int (by decide) rfl (by decide) (by decide) (by decide) (fun q3 => ?_)
  refine iw_putF [.null, .ref q1, .ref q2, .ref q3, .null, .int 0, .int 0, .int 0, .int 0] d_DS_init_25 ff_DS_18 rfl rfl (Nat.le_of_ble_eq_true rfl) rfl ?_
  refine iw_norm [(h0, .inr (2, [.null, .ref q1, .ref q2, .ref q3, .null, .int 0, .int 0, .int 0, .int 0])), (q1, .inl (cI, 70, .inl (fun _ => 0))), (q2, .inl (cI, 60, .inl (fun _ => 0))), (q3, .inl (cI, 60, .inl (fun _ => 0)))] rfl ?_
  refine iw_aload d_DS_init_28 (j := 0) rfl ?_
  refine iw_push (lp := 3) (n := 5760) (Or.inr (Or.inr ⟨5760, d_DS_init_29, rfl, rfl⟩)) ?_
  refine iw_newa' d_DS_init_32 rfl (Or.inl ⟨rfl, rfl⟩) li_int (by decide) rfl (by decide) (by decide) (by decide) (fun q4 => ?_)
  refine iw_putF [.null, .ref q1, .ref q2, .ref q3, .ref q4, .int 0, .int 0, .int 0, .int 0] d_DS_init_34 ff_DS_21 rfl rfl (Nat.le_of_ble_eq_true rfl) rfl ?_
  refine iw_norm [(h0, .inr (2, [.null, .ref q1, .ref q2, .ref q3, .ref q4, .int 0, .int 0, .int 0, .int 0])), (q1, .inl (cI, 70, .inl (fun _ => 0))), (q2, .inl (cI, 60, .inl (fun _ => 0))), (q3, .inl (cI, 60, .inl (fun _ => 0))), (q4, .inl (cI, 5760, .inl (fun _ => 0)))] rfl ?_
  refine iw_aload d_DS_init_37 (j := 0) rfl ?_
  refine iw_push (lp := 1) (n := -1) (Or.inl ⟨-1, d_DS_init_38, rfl, rfl⟩) ?_
  refine iw_putI [.null, .ref q1, .ref q2, .ref q3, .ref q4, .int 0, .int 0, .int 0, .int (-1)] d_DS_init_39 fa_DS_24 fi_DS_24 (Nat.le_of_ble_eq_true rfl) rfl ?_
  refine iw_aload d_DS_init_42 (j := 0) rfl ?_
  refine iw_aload d_DS_init_43 (j := 1) rfl ?_
  refine iw_putF [.ref a1, .ref q1, .ref q2, .ref q3, .ref q4, .int 0, .int 0, .int 0, .int (-1)] d_DS_init_44 ff_DS_28 rfl rfl (Nat.le_of_ble_eq_true rfl) rfl ?_
  exact iw_ret d_DS_init_47 ⟨q1, q2, q3, q4, rfl⟩
theorem d_CO_init_0 : decode c_CO_init 0 = .ok (.aload_n 0, 1) := by decide +kernel
theorem d_CO_init_1 : decode c_CO_init 1 = .ok (.invokespecial 3, 3) := by decide +kernel
theorem d_CO_init_4 : decode c_CO_init 4 = .ok (.aload_n 0, 1) := by decide +kernel
theorem d_CO_init_5 : decode c_CO_init 5 = .ok (.bipush 60, 2) := by decide +kernel
theorem d_CO_init_7 : decode c_CO_init 7 = .ok (.newarray .int, 2) := by decide +kernel
theorem d_CO_init_9 : decode c_CO_init 9 = .ok (.putfield 9, 3) := by decide +kernel
theorem d_CO_init_12 : decode c_CO_init 12 = .ok (.aload_n 0, 1) := by decide +kernel
theorem d_CO_init_13 : decode c_CO_init 13 = .ok (.bipush 60, 2) := by decide +kernel
theorem d_CO_init_15 : decode c_CO_init 15 = .ok (.newarray .int, 2) := by decide +kernel
theorem d_CO_init_17 : decode c_CO_init 17 = .ok (.putfield 15, 3) := by decide +kernel
theorem d_CO_init_20 : decode c_CO_init 20 = .ok (.aload_n 0, 1) := by decide +kernel
theorem d_CO_init_21 : decode c_CO_init 21 = .ok (.bipush 60, 2) := by decide +kernel
theorem d_CO_init_23 : decode c_CO_init 23 = .ok (.newarray .int, 2) := by decide +kernel
theorem d_CO_init_25 : decode c_CO_init 25 = .ok (.putfield 18, 3) := by decide +kernel
theorem d_CO_init_28 : decode c_CO_init 28 = .ok (.aload_n 0, 1) := by decide +kernel
theorem d_CO_init_29 : decode c_CO_init 29 = .ok (.bipush 60, 2) := by decide +kernel
theorem d_CO_init_31 : decode c_CO_init 31 = .ok (.newarray .int, 2) := by decide +kernel
theorem d_CO_init_33 : decode c_CO_init 33 = .ok (.putfield 21, 3) := by decide +kernel
theorem d_CO_init_36 : decode c_CO_init 36 = .ok (.aload_n 0, 1) := by decide +kernel
theorem d_CO_init_37 : decode c_CO_init 37 = .ok (.bipush 60, 2) := by decide +kernel
theorem d_CO_init_39 : decode c_CO_init 39 = .ok (.newarray .int, 2) := by decide +kernel
theorem d_CO_init_41 : decode c_CO_init 41 = .ok (.putfield 24, 3) := by decide +kernel
theorem d_CO_init_44 : decode c_CO_init 44 = .ok (.aload_n 0, 1) := by decide +kernel
theorem d_CO_init_45 : decode c_CO_init 45 = .ok (.iconst (-1), 1) := by decide +kernel
theorem d_CO_init_46 : decode c_CO_init 46 = .ok (.putfield 27, 3) := by decide +kernel
theorem d_CO_init_49 : decode c_CO_init 49 = .ok (.aload_n 0, 1) := by decide +kernel
theorem d_CO_init_50 : decode c_CO_init 50 = .ok (.aload_n 1, 1) := by decide +kernel
theorem d_CO_init_51 : decode c_CO_init 51 = .ok (.putfield 31, 3) := by decide +kernel
theorem d_CO_init_54 : decode c_CO_init 54 = .ok (.aload_n 0, 1) := by decide +kernel
theorem d_CO_init_55 : decode c_CO_init 55 = .ok (.aload_n 2, 1) := by decide +kernel
theorem d_CO_init_56 : decode c_CO_init 56 = .ok (.putfield 35, 3) := by decide +kernel
theorem d_CO_init_59 : decode c_CO_init 59 = .ok (.return_, 1) := by decide +kernel
theorem lo_CO : Cond.methodLink "SignDots$Columns" 3 objectInit ∈ gw_tbl := gw_at 212 (by decide +kernel) (by decide +kernel)
theorem ff_CO_9 : fFin "SignDots$Columns" 9 1 2 (.array .int) := ⟨_, _, _, rfl, by decide, gw_at 215 (by decide +kernel) (by decide +kernel), rfl, rfl, by decide +kernel⟩
theorem ff_CO_15 : fFin "SignDots$Columns" 15 1 3 (.array .int) := ⟨_, _, _, rfl, by decide, gw_at 216 (by decide +kernel) (by decide +kernel), rfl, rfl, by decide +kernel⟩
theorem ff_CO_18 : fFin "SignDots$Columns" 18 1 4 (.array .int) := ⟨_, _, _, rfl, by decide, gw_at 217 (by decide +kernel) (by decide +kernel), rfl, rfl, by decide +kernel⟩
theorem ff_CO_21 : fFin "SignDots$Columns" 21 1 5 (.array .int) := ⟨_, _, _, rfl, by decide, gw_at 218 (by decide +kernel) (by decide +kernel), rfl, rfl, by decide +kernel⟩
theorem ff_CO_24 : fFin "SignDots$Columns" 24 1 6 (.array .int) := ⟨_, _, _, rfl, by decide, gw_at 219 (by decide +kernel) (by decide +kernel), rfl, rfl, by decide +kernel⟩
theorem fa_CO_27 : fLnk "SignDots$Columns" 27 1 9 := ⟨_, _, _, rfl, by decide, gw_at 222 (by decide +kernel) (by decide +kernel)⟩
theorem fi_CO_27 : fInt 1 9 := ⟨_, _, _, rfl, rfl, rfl⟩
theorem ff_CO_31 : fFin "SignDots$Columns" 31 1 0 (.object "SignDots$Notes") := ⟨_, _, _, rfl, by decide, gw_at 213 (by decide +kernel) (by decide +kernel), rfl, rfl, by decide +kernel⟩
theorem ff_CO_35 : fFin "SignDots$Columns" 35 1 1 (.object "SignDots$Signs") := ⟨_, _, _, rfl, by decide, gw_at 214 (by decide +kernel) (by decide +kernel), rfl, rfl, by decide +kernel⟩
def fs_CO : List Value := [.null, .null, .null, .null, .null, .null, .null, .int 0, .int 0, .int 0]
theorem df_CO : ∀ j, j < 10 → defaultValue (t_CO j) = vp_V fs_CO j := fun j hj => by
  match j, hj with
  | 0, _ => rfl
  | 1, _ => rfl
  | 2, _ => rfl
  | 3, _ => rfl
  | 4, _ => rfl
  | 5, _ => rfl
  | 6, _ => rfl
  | 7, _ => rfl
  | 8, _ => rfl
  | 9, _ => rfl
  | n + 10, h => omega
def Sh_CO (cI cZ : ClassId) (a1 a2 : Nat) (h0 : Nat) (w : va_W) : Prop := ∃ q1 q2 q3 q4 q5 : Nat, w = [(h0, .inr (1, [.ref a1, .ref a2, .ref q1, .ref q2, .ref q3, .ref q4, .ref q5, .int 0, .int 0, .int (-1)])), (q1, .inl (cI, 60, .inl (fun _ => 0))), (q2, .inl (cI, 60, .inl (fun _ => 0))), (q3, .inl (cI, 60, .inl (fun _ => 0))), (q4, .inl (cI, 60, .inl (fun _ => 0))), (q5, .inl (cI, 60, .inl (fun _ => 0)))]
abbrev rm_CO : Room := { frames := 1, cells := 5, slots := 300, locals := 12 }
set_option maxRecDepth 20000 in
theorem i_CO (l : Launch) (D : va_G) (cI cZ : ClassId) (a1 a2 : Nat) : CtI l D cI cZ M_CO_init [.ref a1, .ref a2] 1 fs_CO rm_CO (Sh_CO cI cZ a1 a2) := by
  refine cti_of rfl rfl rfl (Nat.le_of_ble_eq_true rfl) (fun _ => rfl) (fun h0 sz => ?_)
  refine iw_aload d_CO_init_0 (j := 0) rfl ?_
  refine iw_obj d_CO_init_1 lo_CO li_oi li_oc (by decide) (by decide) ?_
  refine iw_aload d_CO_init_4 (j := 0) rfl ?_
  refine iw_push (lp := 2) (n := 60) (Or.inr (Or.inl ⟨60, d_CO_init_5, rfl, rfl⟩)) ?_
  refine iw_newa' d_CO_init_7 rfl (Or.inl ⟨rfl, rfl⟩) li_int (by decide) rfl (by decide) (by decide) (by decide) (fun q1 => ?_)
  refine iw_putF [.null, .null, .ref q1, .null, .null, .null, .null, .int 0, .int 0, .int 0] d_CO_init_9 ff_CO_9 rfl rfl (Nat.le_of_ble_eq_true rfl) rfl ?_
  refine iw_norm [(h0, .inr (1, [.null, .null, .ref q1, .null, .null, .null, .null, .int 0, .int 0, .int 0])), (q1, .inl (cI, 60, .inl (fun _ => 0)))] rfl ?_
  refine iw_aload d_CO_init_12 (j := 0) rfl ?_
  refine iw_push (lp := 2) (n := 60) (Or.inr (Or.inl ⟨60, d_CO_init_13, rfl, rfl⟩)) ?_
  refine iw_newa' d_CO_init_15 rfl (Or.inl ⟨rfl, rfl⟩) li_int (by decide) rfl (by decide) (by decide) (by decide) (fun q2 => ?_)
  refine iw_putF [.null, .null, .ref q1, .ref q2, .null, .null, .null, .int 0, .int 0, .int 0] d_CO_init_17 ff_CO_15 rfl rfl (Nat.le_of_ble_eq_true rfl) rfl ?_
  refine iw_norm [(h0, .inr (1, [.null, .null, .ref q1, .ref q2, .null, .null, .null, .int 0, .int 0, .int 0])), (q1, .inl (cI, 60, .inl (fun _ => 0))), (q2, .inl (cI, 60, .inl (fun _ => 0)))] rfl ?_
  refine iw_aload d_CO_init_20 (j := 0) rfl ?_
  refine iw_push (lp := 2) (n := 60) (Or.inr (Or.inl ⟨60, d_CO_init_21, rfl, rfl⟩)) ?_
  refine iw_newa' d_CO_init_23 rfl (Or.inl ⟨rfl, rfl⟩) li_int (by decide) rfl (by decide) (by decide) (by decide) (fun q3 => ?_)
  refine iw_putF [.null, .null, .ref q1, .ref q2, .ref q3, .null, .null, .int 0, .int 0, .int 0] d_CO_init_25 ff_CO_18 rfl rfl (Nat.le_of_ble_eq_true rfl) rfl ?_
  refine iw_norm [(h0, .inr (1, [.null, .null, .ref q1, .ref q2, .ref q3, .null, .null, .int 0, .int 0, .int 0])), (q1, .inl (cI, 60, .inl (fun _ => 0))), (q2, .inl (cI, 60, .inl (fun _ => 0))), (q3, .inl (cI, 60, .inl (fun _ => 0)))] rfl ?_
  refine iw_aload d_CO_init_28 (j := 0) rfl ?_
  refine iw_push (lp := 2) (n := 60) (Or.inr (Or.inl ⟨60, d_CO_init_29, rfl, rfl⟩)) ?_
  refine iw_newa' d_CO_init_31 rfl (Or.inl ⟨rfl, rfl⟩) li_int (by decide) rfl (by decide) (by decide) (by decide) (fun q4 => ?_)
  refine iw_putF [.null, .null, .ref q1, .ref q2, .ref q3, .ref q4, .null, .int 0, .int 0, .int 0] d_CO_init_33 ff_CO_21 rfl rfl (Nat.le_of_ble_eq_true rfl) rfl ?_
  refine iw_norm [(h0, .inr (1, [.null, .null, .ref q1, .ref q2, .ref q3, .ref q4, .null, .int 0, .int 0, .int 0])), (q1, .inl (cI, 60, .inl (fun _ => 0))), (q2, .inl (cI, 60, .inl (fun _ => 0))), (q3, .inl (cI, 60, .inl (fun _ => 0))), (q4, .inl (cI, 60, .inl (fun _ => 0)))] rfl ?_
  refine iw_aload d_CO_init_36 (j := 0) rfl ?_
  refine iw_push (lp := 2) (n := 60) (Or.inr (Or.inl ⟨60, d_CO_init_37, rfl, rfl⟩)) ?_
  refine iw_newa' d_CO_init_39 rfl (Or.inl ⟨rfl, rfl⟩) li_int (by decide) rfl (by decide) (by decide) (by decide) (fun q5 => ?_)
  refine iw_putF [.null, .null, .ref q1, .ref q2, .ref q3, .ref q4, .ref q5, .int 0, .int 0, .int 0] d_CO_init_41 ff_CO_24 rfl rfl (Nat.le_of_ble_eq_true rfl) rfl ?_
  refine iw_norm [(h0, .inr (1, [.null, .null, .ref q1, .ref q2, .ref q3, .ref q4, .ref q5, .int 0, .int 0, .int 0])), (q1, .inl (cI, 60, .inl (fun _ => 0))), (q2, .inl (cI, 60, .inl (fun _ => 0))), (q3, .inl (cI, 60, .inl (fun _ => 0))), (q4, .inl (cI, 60, .inl (fun _ => 0))), (q5, .inl (cI, 60, .inl (fun _ => 0)))] rfl ?_
  refine iw_aload d_CO_init_44 (j := 0) rfl ?_
  refine iw_push (lp := 1) (n := -1) (Or.inl ⟨-1, d_CO_init_45, rfl, rfl⟩) ?_
  refine iw_putI [.null, .null, .ref q1, .ref q2, .ref q3, .ref q4, .ref q5, .int 0, .int 0, .int (-1)] d_CO_init_46 fa_CO_27 fi_CO_27 (Nat.le_of_ble_eq_true rfl) rfl ?_
  refine iw_aload d_CO_init_49 (j := 0) rfl ?_
  refine iw_aload d_CO_init_50 (j := 1) rfl ?_
  refine iw_putF [.ref a1, .null, .ref q1, .ref q2, .ref q3, .ref q4, .ref q5, .int 0, .int 0, .int (-1)] d_CO_init_51 ff_CO_31 rfl rfl (Nat.le_of_ble_eq_true rfl) rfl ?_
  refine iw_aload d_CO_init_54 (j := 0) rfl ?_
  refine iw_aload d_CO_init_55 (j := 2) rfl ?_
  refine iw_putF [.ref a1, .ref a2, .ref q1, .ref q2, .ref q3, .ref q4, .ref q5, .int 0, .int 0, .int (-1)] d_CO_init_56 ff_CO_35 rfl rfl (Nat.le_of_ble_eq_true rfl) rfl ?_
  exact iw_ret d_CO_init_59 ⟨q1, q2, q3, q4, q5, rfl⟩
theorem d_SG_init_0 : decode c_SG_init 0 = .ok (.aload_n 0, 1) := by decide +kernel
theorem d_SG_init_1 : decode c_SG_init 1 = .ok (.invokespecial 3, 3) := by decide +kernel
theorem d_SG_init_4 : decode c_SG_init 4 = .ok (.aload_n 0, 1) := by decide +kernel
theorem d_SG_init_5 : decode c_SG_init 5 = .ok (.new 9, 3) := by decide +kernel
theorem d_SG_init_8 : decode c_SG_init 8 = .ok (.dup, 1) := by decide +kernel
theorem d_SG_init_9 : decode c_SG_init 9 = .ok (.invokespecial 11, 3) := by decide +kernel
theorem d_SG_init_12 : decode c_SG_init 12 = .ok (.putfield 12, 3) := by decide +kernel
theorem d_SG_init_15 : decode c_SG_init 15 = .ok (.aload_n 0, 1) := by decide +kernel
theorem d_SG_init_16 : decode c_SG_init 16 = .ok (.bipush 60, 2) := by decide +kernel
theorem d_SG_init_18 : decode c_SG_init 18 = .ok (.newarray .int, 2) := by decide +kernel
theorem d_SG_init_20 : decode c_SG_init 20 = .ok (.putfield 18, 3) := by decide +kernel
theorem d_SG_init_23 : decode c_SG_init 23 = .ok (.aload_n 0, 1) := by decide +kernel
theorem d_SG_init_24 : decode c_SG_init 24 = .ok (.bipush 60, 2) := by decide +kernel
theorem d_SG_init_26 : decode c_SG_init 26 = .ok (.newarray .int, 2) := by decide +kernel
theorem d_SG_init_28 : decode c_SG_init 28 = .ok (.putfield 22, 3) := by decide +kernel
theorem d_SG_init_31 : decode c_SG_init 31 = .ok (.aload_n 0, 1) := by decide +kernel
theorem d_SG_init_32 : decode c_SG_init 32 = .ok (.bipush 60, 2) := by decide +kernel
theorem d_SG_init_34 : decode c_SG_init 34 = .ok (.newarray .int, 2) := by decide +kernel
theorem d_SG_init_36 : decode c_SG_init 36 = .ok (.putfield 25, 3) := by decide +kernel
theorem d_SG_init_39 : decode c_SG_init 39 = .ok (.aload_n 0, 1) := by decide +kernel
theorem d_SG_init_40 : decode c_SG_init 40 = .ok (.bipush 60, 2) := by decide +kernel
theorem d_SG_init_42 : decode c_SG_init 42 = .ok (.newarray .int, 2) := by decide +kernel
theorem d_SG_init_44 : decode c_SG_init 44 = .ok (.putfield 28, 3) := by decide +kernel
theorem d_SG_init_47 : decode c_SG_init 47 = .ok (.aload_n 0, 1) := by decide +kernel
theorem d_SG_init_48 : decode c_SG_init 48 = .ok (.aload_n 1, 1) := by decide +kernel
theorem d_SG_init_49 : decode c_SG_init 49 = .ok (.putfield 31, 3) := by decide +kernel
theorem d_SG_init_52 : decode c_SG_init 52 = .ok (.aload_n 0, 1) := by decide +kernel
theorem d_SG_init_53 : decode c_SG_init 53 = .ok (.aload_n 2, 1) := by decide +kernel
theorem d_SG_init_54 : decode c_SG_init 54 = .ok (.putfield 35, 3) := by decide +kernel
theorem d_SG_init_57 : decode c_SG_init 57 = .ok (.aload_n 0, 1) := by decide +kernel
theorem d_SG_init_58 : decode c_SG_init 58 = .ok (.aload_n 3, 1) := by decide +kernel
theorem d_SG_init_59 : decode c_SG_init 59 = .ok (.putfield 39, 3) := by decide +kernel
theorem d_SG_init_62 : decode c_SG_init 62 = .ok (.return_, 1) := by decide +kernel
theorem lo_SG : Cond.methodLink "SignDots$Signs" 3 objectInit ∈ gw_tbl := gw_at 146 (by decide +kernel) (by decide +kernel)
theorem ln_SG_9 : Cond.classLink "SignDots$Signs" 9 "SignDots$Seats" ∈ gw_tbl ∧ Cond.instantiable "SignDots$Seats" 5 ∈ gw_tbl ∧ Cond.initialized "SignDots$Seats" ∈ gw_tbl := ⟨gw_at 147 (by decide +kernel) (by decide +kernel), gw_at 148 (by decide +kernel) (by decide +kernel), gw_at 64 (by decide +kernel) (by decide +kernel)⟩
theorem lk_SG_11 : cI2 "SignDots$Signs" 11 M_SE_init 0 := ⟨fun _ h => h.2.2.2, gw_at 64 (by decide +kernel) (by decide +kernel), gw_at 151 (by decide +kernel) (by decide +kernel), ⟨by decide +kernel, by decide +kernel, by decide +kernel⟩, gw_at 150 (by decide +kernel) (by decide +kernel), rfl, rfl⟩
theorem ff_SG_12 : fFin "SignDots$Signs" 12 6 3 (.object "SignDots$Seats") := ⟨_, _, _, rfl, by decide, gw_at 172 (by decide +kernel) (by decide +kernel), rfl, rfl, by decide +kernel⟩
theorem ff_SG_18 : fFin "SignDots$Signs" 18 6 4 (.array .int) := ⟨_, _, _, rfl, by decide, gw_at 173 (by decide +kernel) (by decide +kernel), rfl, rfl, by decide +kernel⟩
theorem ff_SG_22 : fFin "SignDots$Signs" 22 6 5 (.array .int) := ⟨_, _, _, rfl, by decide, gw_at 174 (by decide +kernel) (by decide +kernel), rfl, rfl, by decide +kernel⟩
theorem ff_SG_25 : fFin "SignDots$Signs" 25 6 6 (.array .int) := ⟨_, _, _, rfl, by decide, gw_at 176 (by decide +kernel) (by decide +kernel), rfl, rfl, by decide +kernel⟩
theorem ff_SG_28 : fFin "SignDots$Signs" 28 6 7 (.array .int) := ⟨_, _, _, rfl, by decide, gw_at 179 (by decide +kernel) (by decide +kernel), rfl, rfl, by decide +kernel⟩
theorem ff_SG_31 : fFin "SignDots$Signs" 31 6 0 (.object "SignDots$Notes") := ⟨_, _, _, rfl, by decide, gw_at 169 (by decide +kernel) (by decide +kernel), rfl, rfl, by decide +kernel⟩
theorem ff_SG_35 : fFin "SignDots$Signs" 35 6 1 (.object "SignDots$ByBar") := ⟨_, _, _, rfl, by decide, gw_at 170 (by decide +kernel) (by decide +kernel), rfl, rfl, by decide +kernel⟩
theorem ff_SG_39 : fFin "SignDots$Signs" 39 6 2 (.array .int) := ⟨_, _, _, rfl, by decide, gw_at 171 (by decide +kernel) (by decide +kernel), rfl, rfl, by decide +kernel⟩
def fs_SG : List Value := [.null, .null, .null, .null, .null, .null, .null, .null, .int 0, .int 0, .int 0]
theorem df_SG : ∀ j, j < 11 → defaultValue (t_SG j) = vp_V fs_SG j := fun j hj => by
  match j, hj with
  | 0, _ => rfl
  | 1, _ => rfl
  | 2, _ => rfl
  | 3, _ => rfl
  | 4, _ => rfl
  | 5, _ => rfl
  | 6, _ => rfl
  | 7, _ => rfl
  | 8, _ => rfl
  | 9, _ => rfl
  | 10, _ => rfl
  | n + 11, h => omega
def Sh_SG (cI cZ : ClassId) (a1 a2 a3 : Nat) (h0 : Nat) (w : va_W) : Prop := ∃ q1 q2 q3 q4 q5 q6 q7 q8 q9 q10 : Nat, w = [(h0, .inr (6, [.ref a1, .ref a2, .ref a3, .ref q1, .ref q7, .ref q8, .ref q9, .ref q10, .int 0, .int 0, .int 0])), (q1, .inr (5, [.ref q2, .ref q3, .ref q4, .ref q5, .ref q6])), (q2, .inl (cI, 280, .inl (fun _ => 0))), (q3, .inl (cI, 280, .inl (fun _ => 0))), (q4, .inl (cI, 280, .inl (fun _ => 0))), (q5, .inl (cI, 280, .inl (fun _ => 0))), (q6, .inl (cI, 280, .inl (fun _ => 0))), (q7, .inl (cI, 60, .inl (fun _ => 0))), (q8, .inl (cI, 60, .inl (fun _ => 0))), (q9, .inl (cI, 60, .inl (fun _ => 0))), (q10, .inl (cI, 60, .inl (fun _ => 0)))]
abbrev rm_SG : Room := { frames := 2, cells := 10, slots := 1645, locals := 32 }
set_option maxRecDepth 20000 in
theorem i_SG (l : Launch) (D : va_G) (cI cZ : ClassId) (a1 a2 a3 : Nat) : CtI l D cI cZ M_SG_init [.ref a1, .ref a2, .ref a3] 6 fs_SG rm_SG (Sh_SG cI cZ a1 a2 a3) := by
  refine cti_of rfl rfl rfl (Nat.le_of_ble_eq_true rfl) (fun _ => rfl) (fun h0 sz => ?_)
  refine iw_aload d_SG_init_0 (j := 0) rfl ?_
  refine iw_obj d_SG_init_1 lo_SG li_oi li_oc (by decide) (by decide) ?_
  refine iw_aload d_SG_init_4 (j := 0) rfl ?_
  refine iw_new' (cj := 5) (Cn := R_SE) (T := T_SE) (N := 5) (ty := t_SE) (fs0 := fs_SE) d_SG_init_5 rfl tk_SE ln_SG_9.1 ln_SG_9.2.1 ln_SG_9.2.2 df_SE (by decide) (by decide) (fun q1 => ?_)
  refine iw_dup d_SG_init_8 ?_
  refine iw_init' (as' := []) (b := q1) (st := [.ref q1, .ref h0]) d_SG_init_9 (Or.inr lk_SG_11) (i_SE l D cI cZ) rfl (Nat.le_of_ble_eq_true rfl) (by decide) (by decide) (by decide) 1 rfl [0] rfl (by decide) (by decide) (fun w hw => ?_)
  obtain ⟨q2, q3, q4, q5, q6, rfl⟩ := hw
  refine iw_putF [.null, .null, .null, .ref q1, .null, .null, .null, .null, .int 0, .int 0, .int 0] d_SG_init_12 ff_SG_12 rfl rfl (Nat.le_of_ble_eq_true rfl) rfl ?_
  refine iw_norm [(h0, .inr (6, [.null, .null, .null, .ref q1, .null, .null, .null, .null, .int 0, .int 0, .int 0])), (q1, .inr (5, [.ref q2, .ref q3, .ref q4, .ref q5, .ref q6])), (q2, .inl (cI, 280, .inl (fun _ => 0))), (q3, .inl (cI, 280, .inl (fun _ => 0))), (q4, .inl (cI, 280, .inl (fun _ => 0))), (q5, .inl (cI, 280, .inl (fun _ => 0))), (q6, .inl (cI, 280, .inl (fun _ => 0)))] rfl ?_
  refine iw_aload d_SG_init_15 (j := 0) rfl ?_
  refine iw_push (lp := 2) (n := 60) (Or.inr (Or.inl ⟨60, d_SG_init_16, rfl, rfl⟩)) ?_
  refine iw_newa' d_SG_init_18 rfl (Or.inl ⟨rfl, rfl⟩) li_int (by decide) rfl (by decide) (by decide) (by decide) (fun q7 => ?_)
  refine iw_putF [.null, .null, .null, .ref q1, .ref q7, .null, .null, .null, .int 0, .int 0, .int 0] d_SG_init_20 ff_SG_18 rfl rfl (Nat.le_of_ble_eq_true rfl) rfl ?_
  refine iw_norm [(h0, .inr (6, [.null, .null, .null, .ref q1, .ref q7, .null, .null, .null, .int 0, .int 0, .int 0])), (q1, .inr (5, [.ref q2, .ref q3, .ref q4, .ref q5, .ref q6])), (q2, .inl (cI, 280, .inl (fun _ => 0))), (q3, .inl (cI, 280, .inl (fun _ => 0))), (q4, .inl (cI, 280, .inl (fun _ => 0))), (q5, .inl (cI, 280, .inl (fun _ => 0))), (q6, .inl (cI, 280, .inl (fun _ => 0))), (q7, .inl (cI, 60, .inl (fun _ => 0)))] rfl ?_
  refine iw_aload d_SG_init_23 (j := 0) rfl ?_
  refine iw_push (lp := 2) (n := 60) (Or.inr (Or.inl ⟨60, d_SG_init_24, rfl, rfl⟩)) ?_
  refine iw_newa' d_SG_init_26 rfl (Or.inl ⟨rfl, rfl⟩) li_int (by decide) rfl (by decide) (by decide) (by decide) (fun q8 => ?_)
  refine iw_putF [.null, .null, .null, .ref q1, .ref q7, .ref q8, .null, .null, .int 0, .int 0, .int 0] d_SG_init_28 ff_SG_22 rfl rfl (Nat.le_of_ble_eq_true rfl) rfl ?_
  refine iw_norm [(h0, .inr (6, [.null, .null, .null, .ref q1, .ref q7, .ref q8, .null, .null, .int 0, .int 0, .int 0])), (q1, .inr (5, [.ref q2, .ref q3, .ref q4, .ref q5, .ref q6])), (q2, .inl (cI, 280, .inl (fun _ => 0))), (q3, .inl (cI, 280, .inl (fun _ => 0))), (q4, .inl (cI, 280, .inl (fun _ => 0))), (q5, .inl (cI, 280, .inl (fun _ => 0))), (q6, .inl (cI, 280, .inl (fun _ => 0))), (q7, .inl (cI, 60, .inl (fun _ => 0))), (q8, .inl (cI, 60, .inl (fun _ => 0)))] rfl ?_
  refine iw_aload d_SG_init_31 (j := 0) rfl ?_
  refine iw_push (lp := 2) (n := 60) (Or.inr (Or.inl ⟨60, d_SG_init_32, rfl, rfl⟩)) ?_
  refine iw_newa' d_SG_init_34 rfl (Or.inl ⟨rfl, rfl⟩) li_int (by decide) rfl (by decide) (by decide) (by decide) (fun q9 => ?_)
  refine iw_putF [.null, .null, .null, .ref q1, .ref q7, .ref q8, .ref q9, .null, .int 0, .int 0, .int 0] d_SG_init_36 ff_SG_25 rfl rfl (Nat.le_of_ble_eq_true rfl) rfl ?_
  refine iw_norm [(h0, .inr (6, [.null, .null, .null, .ref q1, .ref q7, .ref q8, .ref q9, .null, .int 0, .int 0, .int 0])), (q1, .inr (5, [.ref q2, .ref q3, .ref q4, .ref q5, .ref q6])), (q2, .inl (cI, 280, .inl (fun _ => 0))), (q3, .inl (cI, 280, .inl (fun _ => 0))), (q4, .inl (cI, 280, .inl (fun _ => 0))), (q5, .inl (cI, 280, .inl (fun _ => 0))), (q6, .inl (cI, 280, .inl (fun _ => 0))), (q7, .inl (cI, 60, .inl (fun _ => 0))), (q8, .inl (cI, 60, .inl (fun _ => 0))), (q9, .inl (cI, 60, .inl (fun _ => 0)))] rfl ?_
  refine iw_aload d_SG_init_39 (j := 0) rfl ?_
  refine iw_push (lp := 2) (n := 60) (Or.inr (Or.inl ⟨60, d_SG_init_40, rfl, rfl⟩)) ?_
  refine iw_newa' d_SG_init_42 rfl (Or.inl ⟨rfl, rfl⟩) li_int (by decide) rfl (by decide) (by decide) (by decide) (fun q10 => ?_)
  refine iw_putF [.null, .null, .null, .ref q1, .ref q7, .ref q8, .ref q9, .ref q10, .int 0, .int 0, .int 0] d_SG_init_44 ff_SG_28 rfl rfl (Nat.le_of_ble_eq_true rfl) rfl ?_
  refine iw_norm [(h0, .inr (6, [.null, .null, .null, .ref q1, .ref q7, .ref q8, .ref q9, .ref q10, .int 0, .int 0, .int 0])), (q1, .inr (5, [.ref q2, .ref q3, .ref q4, .ref q5, .ref q6])), (q2, .inl (cI, 280, .inl (fun _ => 0))), (q3, .inl (cI, 280, .inl (fun _ => 0))), (q4, .inl (cI, 280, .inl (fun _ => 0))), (q5, .inl (cI, 280, .inl (fun _ => 0))), (q6, .inl (cI, 280, .inl (fun _ => 0))), (q7, .inl (cI, 60, .inl (fun _ => 0))), (q8, .inl (cI, 60, .inl (fun _ => 0))), (q9, .inl (cI, 60, .inl (fun _ => 0))), (q10, .inl (cI, 60, .inl (fun _ => 0)))] rfl ?_
  refine iw_aload d_SG_init_47 (j := 0) rfl ?_
  refine iw_aload d_SG_init_48 (j := 1) rfl ?_
  refine iw_putF [.ref a1, .null, .null, .ref q1, .ref q7, .ref q8, .ref q9, .ref q10, .int 0, .int 0, .int 0] d_SG_init_49 ff_SG_31 rfl rfl (Nat.le_of_ble_eq_true rfl) rfl ?_
  refine iw_aload d_SG_init_52 (j := 0) rfl ?_
  refine iw_aload d_SG_init_53 (j := 2) rfl ?_
  refine iw_putF [.ref a1, .ref a2, .null, .ref q1, .ref q7, .ref q8, .ref q9, .ref q10, .int 0, .int 0, .int 0] d_SG_init_54 ff_SG_35 rfl rfl (Nat.le_of_ble_eq_true rfl) rfl ?_
  refine iw_aload d_SG_init_57 (j := 0) rfl ?_
  refine iw_aload d_SG_init_58 (j := 3) rfl ?_
  refine iw_putF [.ref a1, .ref a2, .ref a3, .ref q1, .ref q7, .ref q8, .ref q9, .ref q10, .int 0, .int 0, .int 0] d_SG_init_59 ff_SG_39 rfl rfl (Nat.le_of_ble_eq_true rfl) rfl ?_
  exact iw_ret d_SG_init_62 ⟨q1, q2, q3, q4, q5, q6, q7, q8, q9, q10, rfl⟩
theorem d_SD_init_0 : decode c_SD_init 0 = .ok (.aload_n 0, 1) := by decide +kernel
theorem d_SD_init_1 : decode c_SD_init 1 = .ok (.invokespecial 1, 3) := by decide +kernel
theorem d_SD_init_4 : decode c_SD_init 4 = .ok (.aload_n 0, 1) := by decide +kernel
theorem d_SD_init_5 : decode c_SD_init 5 = .ok (.new 7, 3) := by decide +kernel
theorem d_SD_init_8 : decode c_SD_init 8 = .ok (.dup, 1) := by decide +kernel
theorem d_SD_init_9 : decode c_SD_init 9 = .ok (.invokespecial 9, 3) := by decide +kernel
theorem d_SD_init_12 : decode c_SD_init 12 = .ok (.putfield 10, 3) := by decide +kernel
theorem d_SD_init_15 : decode c_SD_init 15 = .ok (.aload_n 0, 1) := by decide +kernel
theorem d_SD_init_16 : decode c_SD_init 16 = .ok (.new 16, 3) := by decide +kernel
theorem d_SD_init_19 : decode c_SD_init 19 = .ok (.dup, 1) := by decide +kernel
theorem d_SD_init_20 : decode c_SD_init 20 = .ok (.invokespecial 18, 3) := by decide +kernel
theorem d_SD_init_23 : decode c_SD_init 23 = .ok (.putfield 19, 3) := by decide +kernel
theorem d_SD_init_26 : decode c_SD_init 26 = .ok (.aload_n 0, 1) := by decide +kernel
theorem d_SD_init_27 : decode c_SD_init 27 = .ok (.new 16, 3) := by decide +kernel
theorem d_SD_init_30 : decode c_SD_init 30 = .ok (.dup, 1) := by decide +kernel
theorem d_SD_init_31 : decode c_SD_init 31 = .ok (.invokespecial 18, 3) := by decide +kernel
theorem d_SD_init_34 : decode c_SD_init 34 = .ok (.putfield 23, 3) := by decide +kernel
theorem d_SD_init_37 : decode c_SD_init 37 = .ok (.aload_n 0, 1) := by decide +kernel
theorem d_SD_init_38 : decode c_SD_init 38 = .ok (.iconst 5, 1) := by decide +kernel
theorem d_SD_init_39 : decode c_SD_init 39 = .ok (.newarray .int, 2) := by decide +kernel
theorem d_SD_init_41 : decode c_SD_init 41 = .ok (.putfield 26, 3) := by decide +kernel
theorem d_SD_init_44 : decode c_SD_init 44 = .ok (.aload_n 0, 1) := by decide +kernel
theorem d_SD_init_45 : decode c_SD_init 45 = .ok (.new 30, 3) := by decide +kernel
theorem d_SD_init_48 : decode c_SD_init 48 = .ok (.dup, 1) := by decide +kernel
theorem d_SD_init_49 : decode c_SD_init 49 = .ok (.aload_n 0, 1) := by decide +kernel
theorem d_SD_init_50 : decode c_SD_init 50 = .ok (.getfield 10, 3) := by decide +kernel
theorem d_SD_init_53 : decode c_SD_init 53 = .ok (.aload_n 0, 1) := by decide +kernel
theorem d_SD_init_54 : decode c_SD_init 54 = .ok (.getfield 19, 3) := by decide +kernel
theorem d_SD_init_57 : decode c_SD_init 57 = .ok (.aload_n 0, 1) := by decide +kernel
theorem d_SD_init_58 : decode c_SD_init 58 = .ok (.getfield 26, 3) := by decide +kernel
theorem d_SD_init_61 : decode c_SD_init 61 = .ok (.invokespecial 32, 3) := by decide +kernel
theorem d_SD_init_64 : decode c_SD_init 64 = .ok (.putfield 35, 3) := by decide +kernel
theorem d_SD_init_67 : decode c_SD_init 67 = .ok (.aload_n 0, 1) := by decide +kernel
theorem d_SD_init_68 : decode c_SD_init 68 = .ok (.new 39, 3) := by decide +kernel
theorem d_SD_init_71 : decode c_SD_init 71 = .ok (.dup, 1) := by decide +kernel
theorem d_SD_init_72 : decode c_SD_init 72 = .ok (.aload_n 0, 1) := by decide +kernel
theorem d_SD_init_73 : decode c_SD_init 73 = .ok (.getfield 10, 3) := by decide +kernel
theorem d_SD_init_76 : decode c_SD_init 76 = .ok (.aload_n 0, 1) := by decide +kernel
theorem d_SD_init_77 : decode c_SD_init 77 = .ok (.getfield 35, 3) := by decide +kernel
theorem d_SD_init_80 : decode c_SD_init 80 = .ok (.invokespecial 41, 3) := by decide +kernel
theorem d_SD_init_83 : decode c_SD_init 83 = .ok (.putfield 44, 3) := by decide +kernel
theorem d_SD_init_86 : decode c_SD_init 86 = .ok (.aload_n 0, 1) := by decide +kernel
theorem d_SD_init_87 : decode c_SD_init 87 = .ok (.new 48, 3) := by decide +kernel
theorem d_SD_init_90 : decode c_SD_init 90 = .ok (.dup, 1) := by decide +kernel
theorem d_SD_init_91 : decode c_SD_init 91 = .ok (.aload_n 0, 1) := by decide +kernel
theorem d_SD_init_92 : decode c_SD_init 92 = .ok (.getfield 10, 3) := by decide +kernel
theorem d_SD_init_95 : decode c_SD_init 95 = .ok (.invokespecial 50, 3) := by decide +kernel
theorem d_SD_init_98 : decode c_SD_init 98 = .ok (.putfield 53, 3) := by decide +kernel
theorem d_SD_init_101 : decode c_SD_init 101 = .ok (.aload_n 0, 1) := by decide +kernel
theorem d_SD_init_102 : decode c_SD_init 102 = .ok (.new 57, 3) := by decide +kernel
theorem d_SD_init_105 : decode c_SD_init 105 = .ok (.dup, 1) := by decide +kernel
theorem d_SD_init_106 : decode c_SD_init 106 = .ok (.invokespecial 59, 3) := by decide +kernel
theorem d_SD_init_109 : decode c_SD_init 109 = .ok (.putfield 60, 3) := by decide +kernel
theorem d_SD_init_112 : decode c_SD_init 112 = .ok (.return_, 1) := by decide +kernel
theorem lo_SD : Cond.methodLink "SignDots" 1 objectInit ∈ gw_tbl := gw_at 77 (by decide +kernel) (by decide +kernel)
theorem ln_SD_7 : Cond.classLink "SignDots" 7 "SignDots$Notes" ∈ gw_tbl ∧ Cond.instantiable "SignDots$Notes" 8 ∈ gw_tbl ∧ Cond.initialized "SignDots$Notes" ∈ gw_tbl := ⟨gw_at 80 (by decide +kernel) (by decide +kernel), gw_at 81 (by decide +kernel) (by decide +kernel), gw_at 61 (by decide +kernel) (by decide +kernel)⟩
theorem lk_SD_9 : cI2 "SignDots" 9 M_NO_init 0 := ⟨fun _ h => h.1, gw_at 61 (by decide +kernel) (by decide +kernel), gw_at 84 (by decide +kernel) (by decide +kernel), ⟨by decide +kernel, by decide +kernel, by decide +kernel⟩, gw_at 83 (by decide +kernel) (by decide +kernel), rfl, rfl⟩
theorem ff_SD_10 : fFin "SignDots" 10 7 0 (.object "SignDots$Notes") := ⟨_, _, _, rfl, by decide, gw_at 301 (by decide +kernel) (by decide +kernel), rfl, rfl, by decide +kernel⟩
theorem ln_SD_16 : Cond.classLink "SignDots" 16 "SignDots$ByBar" ∈ gw_tbl ∧ Cond.instantiable "SignDots$ByBar" 2 ∈ gw_tbl ∧ Cond.initialized "SignDots$ByBar" ∈ gw_tbl := ⟨gw_at 127 (by decide +kernel) (by decide +kernel), gw_at 128 (by decide +kernel) (by decide +kernel), gw_at 62 (by decide +kernel) (by decide +kernel)⟩
theorem lk_SD_18 : cI2 "SignDots" 18 M_BB_init 0 := ⟨fun _ h => h.2.1, gw_at 62 (by decide +kernel) (by decide +kernel), gw_at 131 (by decide +kernel) (by decide +kernel), ⟨by decide +kernel, by decide +kernel, by decide +kernel⟩, gw_at 130 (by decide +kernel) (by decide +kernel), rfl, rfl⟩
theorem ff_SD_19 : fFin "SignDots" 19 7 1 (.object "SignDots$ByBar") := ⟨_, _, _, rfl, by decide, gw_at 302 (by decide +kernel) (by decide +kernel), rfl, rfl, by decide +kernel⟩
theorem ff_SD_23 : fFin "SignDots" 23 7 2 (.object "SignDots$ByBar") := ⟨_, _, _, rfl, by decide, gw_at 303 (by decide +kernel) (by decide +kernel), rfl, rfl, by decide +kernel⟩
theorem ff_SD_26 : fFin "SignDots" 26 7 3 (.array .int) := ⟨_, _, _, rfl, by decide, gw_at 304 (by decide +kernel) (by decide +kernel), rfl, rfl, by decide +kernel⟩
theorem ln_SD_30 : Cond.classLink "SignDots" 30 "SignDots$Signs" ∈ gw_tbl ∧ Cond.instantiable "SignDots$Signs" 11 ∈ gw_tbl ∧ Cond.initialized "SignDots$Signs" ∈ gw_tbl := ⟨gw_at 141 (by decide +kernel) (by decide +kernel), gw_at 142 (by decide +kernel) (by decide +kernel), gw_at 63 (by decide +kernel) (by decide +kernel)⟩
theorem fa_SD_10 : fLnk "SignDots" 10 7 0 := ⟨_, _, _, rfl, by decide, gw_at 301 (by decide +kernel) (by decide +kernel)⟩
theorem fa_SD_19 : fLnk "SignDots" 19 7 1 := ⟨_, _, _, rfl, by decide, gw_at 302 (by decide +kernel) (by decide +kernel)⟩
theorem fa_SD_26 : fLnk "SignDots" 26 7 3 := ⟨_, _, _, rfl, by decide, gw_at 304 (by decide +kernel) (by decide +kernel)⟩
theorem lk_SD_32 : cI1 "SignDots" 32 M_SG_init 3 := ⟨gw_at 143 (by decide +kernel) (by decide +kernel), gw_at 63 (by decide +kernel) (by decide +kernel), gw_at 145 (by decide +kernel) (by decide +kernel), ⟨by decide +kernel, by decide +kernel, by decide +kernel⟩, gw_at 144 (by decide +kernel) (by decide +kernel), rfl, rfl⟩
theorem ff_SD_35 : fFin "SignDots" 35 7 4 (.object "SignDots$Signs") := ⟨_, _, _, rfl, by decide, gw_at 305 (by decide +kernel) (by decide +kernel), rfl, rfl, by decide +kernel⟩
theorem ln_SD_39 : Cond.classLink "SignDots" 39 "SignDots$Columns" ∈ gw_tbl ∧ Cond.instantiable "SignDots$Columns" 10 ∈ gw_tbl ∧ Cond.initialized "SignDots$Columns" ∈ gw_tbl := ⟨gw_at 207 (by decide +kernel) (by decide +kernel), gw_at 208 (by decide +kernel) (by decide +kernel), gw_at 65 (by decide +kernel) (by decide +kernel)⟩
theorem fa_SD_35 : fLnk "SignDots" 35 7 4 := ⟨_, _, _, rfl, by decide, gw_at 305 (by decide +kernel) (by decide +kernel)⟩
theorem lk_SD_41 : cI1 "SignDots" 41 M_CO_init 2 := ⟨gw_at 209 (by decide +kernel) (by decide +kernel), gw_at 65 (by decide +kernel) (by decide +kernel), gw_at 211 (by decide +kernel) (by decide +kernel), ⟨by decide +kernel, by decide +kernel, by decide +kernel⟩, gw_at 210 (by decide +kernel) (by decide +kernel), rfl, rfl⟩
theorem ff_SD_44 : fFin "SignDots" 44 7 5 (.object "SignDots$Columns") := ⟨_, _, _, rfl, by decide, gw_at 306 (by decide +kernel) (by decide +kernel), rfl, rfl, by decide +kernel⟩
theorem ln_SD_48 : Cond.classLink "SignDots" 48 "SignDots$DotSpaces" ∈ gw_tbl ∧ Cond.instantiable "SignDots$DotSpaces" 9 ∈ gw_tbl ∧ Cond.initialized "SignDots$DotSpaces" ∈ gw_tbl := ⟨gw_at 244 (by decide +kernel) (by decide +kernel), gw_at 245 (by decide +kernel) (by decide +kernel), gw_at 66 (by decide +kernel) (by decide +kernel)⟩
theorem lk_SD_50 : cI1 "SignDots" 50 M_DS_init 1 := ⟨gw_at 246 (by decide +kernel) (by decide +kernel), gw_at 66 (by decide +kernel) (by decide +kernel), gw_at 248 (by decide +kernel) (by decide +kernel), ⟨by decide +kernel, by decide +kernel, by decide +kernel⟩, gw_at 247 (by decide +kernel) (by decide +kernel), rfl, rfl⟩
theorem ff_SD_53 : fFin "SignDots" 53 7 6 (.object "SignDots$DotSpaces") := ⟨_, _, _, rfl, by decide, gw_at 307 (by decide +kernel) (by decide +kernel), rfl, rfl, by decide +kernel⟩
theorem ln_SD_57 : Cond.classLink "SignDots" 57 "SignDots$KeyRow" ∈ gw_tbl ∧ Cond.instantiable "SignDots$KeyRow" 4 ∈ gw_tbl ∧ Cond.initialized "SignDots$KeyRow" ∈ gw_tbl := ⟨gw_at 278 (by decide +kernel) (by decide +kernel), gw_at 279 (by decide +kernel) (by decide +kernel), gw_at 67 (by decide +kernel) (by decide +kernel)⟩
theorem lk_SD_59 : cI2 "SignDots" 59 M_KR_init 0 := ⟨fun _ h => h.2.2.1, gw_at 67 (by decide +kernel) (by decide +kernel), gw_at 282 (by decide +kernel) (by decide +kernel), ⟨by decide +kernel, by decide +kernel, by decide +kernel⟩, gw_at 281 (by decide +kernel) (by decide +kernel), rfl, rfl⟩
theorem ff_SD_60 : fFin "SignDots" 60 7 7 (.object "SignDots$KeyRow") := ⟨_, _, _, rfl, by decide, gw_at 308 (by decide +kernel) (by decide +kernel), rfl, rfl, by decide +kernel⟩
def fs_SD : List Value := [.null, .null, .null, .null, .null, .null, .null, .null]
theorem df_SD : ∀ j, j < 8 → defaultValue (t_SD j) = vp_V fs_SD j := fun j hj => by
  match j, hj with
  | 0, _ => rfl
  | 1, _ => rfl
  | 2, _ => rfl
  | 3, _ => rfl
  | 4, _ => rfl
  | 5, _ => rfl
  | 6, _ => rfl
  | 7, _ => rfl
  | n + 8, h => omega
def Sh_SD (cI cZ : ClassId) (h0 : Nat) (w : va_W) : Prop := ∃ q1 q2 q3 q4 q5 q6 q7 q8 q9 q10 q11 q12 q13 q14 q15 q16 q17 q18 q19 q20 q21 q22 q23 q24 q25 q26 q27 q28 q29 q30 q31 q32 q33 q34 q35 q36 q37 q38 q39 q40 q41 : Nat, w = [(h0, .inr (7, [.ref q1, .ref q9, .ref q12, .ref q15, .ref q16, .ref q27, .ref q33, .ref q38])), (q1, .inr (4, [.ref q2, .ref q3, .ref q4, .ref q5, .ref q6, .ref q7, .ref q8, .int 0])), (q2, .inl (cI, 60, .inl (fun _ => 0))), (q3, .inl (cI, 60, .inl (fun _ => 0))), (q4, .inl (cI, 60, .inl (fun _ => 0))), (q5, .inl (cI, 60, .inl (fun _ => 0))), (q6, .inl (cI, 60, .inl (fun _ => 0))), (q7, .inl (cI, 60, .inl (fun _ => 0))), (q8, .inl (cI, 180, .inl (fun _ => 0))), (q9, .inr (0, [.ref q10, .ref q11])), (q10, .inl (cI, 20, .inl (fun _ => 0))), (q11, .inl (cZ, 20, .inl (fun _ => 0))), (q12, .inr (0, [.ref q13, .ref q14])), (q13, .inl (cI, 20, .inl (fun _ => 0))), (q14, .inl (cZ, 20, .inl (fun _ => 0))), (q15, .inl (cI, 5, .inl (fun _ => 0))), (q16, .inr (6, [.ref q1, .ref q9, .ref q15, .ref q17, .ref q23, .ref q24, .ref q25, .ref q26, .int 0, .int 0, .int 0])), (q17, .inr (5, [.ref q18, .ref q19, .ref q20, .ref q21, .ref q22])), (q18, .inl (cI, 280, .inl (fun _ => 0))), (q19, .inl (cI, 280, .inl (fun _ => 0))), (q20, .inl (cI, 280, .inl (fun _ => 0))), (q21, .inl (cI, 280, .inl (fun _ => 0))), (q22, .inl (cI, 280, .inl (fun _ => 0))), (q23, .inl (cI, 60, .inl (fun _ => 0))), (q24, .inl (cI, 60, .inl (fun _ => 0))), (q25, .inl (cI, 60, .inl (fun _ => 0))), (q26, .inl (cI, 60, .inl (fun _ => 0))), (q27, .inr (1, [.ref q1, .ref q16, .ref q28, .ref q29, .ref q30, .ref q31, .ref q32, .int 0, .int 0, .int (-1)])), (q28, .inl (cI, 60, .inl (fun _ => 0))), (q29, .inl (cI, 60, .inl (fun _ => 0))), (q30, .inl (cI, 60, .inl (fun _ => 0))), (q31, .inl (cI, 60, .inl (fun _ => 0))), (q32, .inl (cI, 60, .inl (fun _ => 0))), (q33, .inr (2, [.ref q1, .ref q34, .ref q35, .ref q36, .ref q37, .int 0, .int 0, .int 0, .int (-1)])), (q34, .inl (cI, 70, .inl (fun _ => 0))), (q35, .inl (cI, 60, .inl (fun _ => 0))), (q36, .inl (cI, 60, .inl (fun _ => 0))), (q37, .inl (cI, 5760, .inl (fun _ => 0))), (q38, .inr (3, [.ref q39, .ref q40, .ref q41, .int 0])), (q39, .inl (cI, 14, .inl (fun _ => 0))), (q40, .inl (cI, 14, .inl (fun _ => 0))), (q41, .inl (cI, 14, .inl (fun _ => 0)))]
abbrev rm_SD : Room := { frames := 3, cells := 41, slots := 8608, locals := 55 }
set_option maxRecDepth 20000 in
theorem i_SD (l : Launch) (D : va_G) (cI cZ : ClassId) : CtI l D cI cZ M_SD_init [] 7 fs_SD rm_SD (Sh_SD cI cZ) := by
  refine cti_of rfl rfl rfl (Nat.le_of_ble_eq_true rfl) (fun _ => rfl) (fun h0 sz => ?_)
  refine iw_aload d_SD_init_0 (j := 0) rfl ?_
  refine iw_obj d_SD_init_1 lo_SD li_oi li_oc (by decide) (by decide) ?_
  refine iw_aload d_SD_init_4 (j := 0) rfl ?_
  refine iw_new' (cj := 4) (Cn := R_NO) (T := T_NO) (N := 8) (ty := t_NO) (fs0 := fs_NO) d_SD_init_5 rfl tk_NO ln_SD_7.1 ln_SD_7.2.1 ln_SD_7.2.2 df_NO (by decide) (by decide) (fun q1 => ?_)
  refine iw_dup d_SD_init_8 ?_
  refine iw_init' (as' := []) (b := q1) (st := [.ref q1, .ref h0]) d_SD_init_9 (Or.inr lk_SD_9) (i_NO l D cI cZ) rfl (Nat.le_of_ble_eq_true rfl) (by decide) (by decide) (by decide) 1 rfl [0] rfl (by decide) (by decide) (fun w hw => ?_)
  obtain ⟨q2, q3, q4, q5, q6, q7, q8, rfl⟩ := hw
  refine iw_putF [.ref q1, .null, .null, .null, .null, .null, .null, .null] d_SD_init_12 ff_SD_10 rfl rfl (Nat.le_of_ble_eq_true rfl) rfl ?_
  refine iw_norm [(h0, .inr (7, [.ref q1, .null, .null, .null, .null, .null, .null, .null])), (q1, .inr (4, [.ref q2, .ref q3, .ref q4, .ref q5, .ref q6, .ref q7, .ref q8, .int 0])), (q2, .inl (cI, 60, .inl (fun _ => 0))), (q3, .inl (cI, 60, .inl (fun _ => 0))), (q4, .inl (cI, 60, .inl (fun _ => 0))), (q5, .inl (cI, 60, .inl (fun _ => 0))), (q6, .inl (cI, 60, .inl (fun _ => 0))), (q7, .inl (cI, 60, .inl (fun _ => 0))), (q8, .inl (cI, 180, .inl (fun _ => 0)))] rfl ?_
  refine iw_aload d_SD_init_15 (j := 0) rfl ?_
  refine iw_new' (cj := 0) (Cn := R_BB) (T := T_BB) (N := 2) (ty := t_BB) (fs0 := fs_BB) d_SD_init_16 rfl tk_BB ln_SD_16.1 ln_SD_16.2.1 ln_SD_16.2.2 df_BB (by decide) (by decide) (fun q9 => ?_)
  refine iw_dup d_SD_init_19 ?_
  refine iw_init' (as' := []) (b := q9) (st := [.ref q9, .ref h0]) d_SD_init_20 (Or.inr lk_SD_18) (i_BB l D cI cZ) rfl (Nat.le_of_ble_eq_true rfl) (by decide) (by decide) (by decide) 9 rfl [0, 1, 2, 3, 4, 5, 6, 7, 8] rfl (by decide) (by decide) (fun w hw => ?_)
  obtain ⟨q10, q11, rfl⟩ := hw
  refine iw_putF [.ref q1, .ref q9, .null, .null, .null, .null, .null, .null] d_SD_init_23 ff_SD_19 rfl rfl (Nat.le_of_ble_eq_true rfl) rfl ?_
  refine iw_norm [(h0, .inr (7, [.ref q1, .ref q9, .null, .null, .null, .null, .null, .null])), (q1, .inr (4, [.ref q2, .ref q3, .ref q4, .ref q5, .ref q6, .ref q7, .ref q8, .int 0])), (q2, .inl (cI, 60, .inl (fun _ => 0))), (q3, .inl (cI, 60, .inl (fun _ => 0))), (q4, .inl (cI, 60, .inl (fun _ => 0))), (q5, .inl (cI, 60, .inl (fun _ => 0))), (q6, .inl (cI, 60, .inl (fun _ => 0))), (q7, .inl (cI, 60, .inl (fun _ => 0))), (q8, .inl (cI, 180, .inl (fun _ => 0))), (q9, .inr (0, [.ref q10, .ref q11])), (q10, .inl (cI, 20, .inl (fun _ => 0))), (q11, .inl (cZ, 20, .inl (fun _ => 0)))] rfl ?_
  refine iw_aload d_SD_init_26 (j := 0) rfl ?_
  refine iw_new' (cj := 0) (Cn := R_BB) (T := T_BB) (N := 2) (ty := t_BB) (fs0 := fs_BB) d_SD_init_27 rfl tk_BB ln_SD_16.1 ln_SD_16.2.1 ln_SD_16.2.2 df_BB (by decide) (by decide) (fun q12 => ?_)
  refine iw_dup d_SD_init_30 ?_
  refine iw_init' (as' := []) (b := q12) (st := [.ref q12, .ref h0]) d_SD_init_31 (Or.inr lk_SD_18) (i_BB l D cI cZ) rfl (Nat.le_of_ble_eq_true rfl) (by decide) (by decide) (by decide) 12 rfl [0, 1, 2, 3, 4, 5, 6, 7, 8, 9, 10, 11] rfl (by decide) (by decide) (fun w hw => ?_)
  obtain ⟨q13, q14, rfl⟩ := hw
  refine iw_putF [.ref q1, .ref q9, .ref q12, .null, .null, .null, .null, .null] d_SD_init_34 ff_SD_23 rfl rfl (Nat.le_of_ble_eq_true rfl) rfl ?_
  refine iw_norm [(h0, .inr (7, [.ref q1, .ref q9, .ref q12, .null, .null, .null, .null, .null])), (q1, .inr (4, [.ref q2, .ref q3, .ref q4, .ref q5, .ref q6, .ref q7, .ref q8, .int 0])), (q2, .inl (cI, 60, .inl (fun _ => 0))), (q3, .inl (cI, 60, .inl (fun _ => 0))), (q4, .inl (cI, 60, .inl (fun _ => 0))), (q5, .inl (cI, 60, .inl (fun _ => 0))), (q6, .inl (cI, 60, .inl (fun _ => 0))), (q7, .inl (cI, 60, .inl (fun _ => 0))), (q8, .inl (cI, 180, .inl (fun _ => 0))), (q9, .inr (0, [.ref q10, .ref q11])), (q10, .inl (cI, 20, .inl (fun _ => 0))), (q11, .inl (cZ, 20, .inl (fun _ => 0))), (q12, .inr (0, [.ref q13, .ref q14])), (q13, .inl (cI, 20, .inl (fun _ => 0))), (q14, .inl (cZ, 20, .inl (fun _ => 0)))] rfl ?_
  refine iw_aload d_SD_init_37 (j := 0) rfl ?_
  refine iw_push (lp := 1) (n := 5) (Or.inl ⟨5, d_SD_init_38, rfl, rfl⟩) ?_
  refine iw_newa' d_SD_init_39 rfl (Or.inl ⟨rfl, rfl⟩) li_int (by decide) rfl (by decide) (by decide) (by decide) (fun q15 => ?_)
  refine iw_putF [.ref q1, .ref q9, .ref q12, .ref q15, .null, .null, .null, .null] d_SD_init_41 ff_SD_26 rfl rfl (Nat.le_of_ble_eq_true rfl) rfl ?_
  refine iw_norm [(h0, .inr (7, [.ref q1, .ref q9, .ref q12, .ref q15, .null, .null, .null, .null])), (q1, .inr (4, [.ref q2, .ref q3, .ref q4, .ref q5, .ref q6, .ref q7, .ref q8, .int 0])), (q2, .inl (cI, 60, .inl (fun _ => 0))), (q3, .inl (cI, 60, .inl (fun _ => 0))), (q4, .inl (cI, 60, .inl (fun _ => 0))), (q5, .inl (cI, 60, .inl (fun _ => 0))), (q6, .inl (cI, 60, .inl (fun _ => 0))), (q7, .inl (cI, 60, .inl (fun _ => 0))), (q8, .inl (cI, 180, .inl (fun _ => 0))), (q9, .inr (0, [.ref q10, .ref q11])), (q10, .inl (cI, 20, .inl (fun _ => 0))), (q11, .inl (cZ, 20, .inl (fun _ => 0))), (q12, .inr (0, [.ref q13, .ref q14])), (q13, .inl (cI, 20, .inl (fun _ => 0))), (q14, .inl (cZ, 20, .inl (fun _ => 0))), (q15, .inl (cI, 5, .inl (fun _ => 0)))] rfl ?_
  refine iw_aload d_SD_init_44 (j := 0) rfl ?_
  refine iw_new' (cj := 6) (Cn := R_SG) (T := T_SG) (N := 11) (ty := t_SG) (fs0 := fs_SG) d_SD_init_45 rfl tk_SG ln_SD_30.1 ln_SD_30.2.1 ln_SD_30.2.2 df_SG (by decide) (by decide) (fun q16 => ?_)
  refine iw_dup d_SD_init_48 ?_
  refine iw_aload d_SD_init_49 (j := 0) rfl ?_
  refine iw_getf d_SD_init_50 fa_SD_10 rfl ?_
  refine iw_aload d_SD_init_53 (j := 0) rfl ?_
  refine iw_getf d_SD_init_54 fa_SD_19 rfl ?_
  refine iw_aload d_SD_init_57 (j := 0) rfl ?_
  refine iw_getf d_SD_init_58 fa_SD_26 rfl ?_
  refine iw_init' (as' := [.ref q1, .ref q9, .ref q15]) (b := q16) (st := [.ref q16, .ref h0]) d_SD_init_61 (Or.inl lk_SD_32) (i_SG l D cI cZ q1 q9 q15) rfl (Nat.le_of_ble_eq_true rfl) (by decide) (by decide) (by decide) 16 rfl [0, 1, 2, 3, 4, 5, 6, 7, 8, 9, 10, 11, 12, 13, 14, 15] rfl (by decide) (by decide) (fun w hw => ?_)
  obtain ⟨q17, q18, q19, q20, q21, q22, q23, q24, q25, q26, rfl⟩ := hw
  refine iw_putF [.ref q1, .ref q9, .ref q12, .ref q15, .ref q16, .null, .null, .null] d_SD_init_64 ff_SD_35 rfl rfl (Nat.le_of_ble_eq_true rfl) rfl ?_
  refine iw_norm [(h0, .inr (7, [.ref q1, .ref q9, .ref q12, .ref q15, .ref q16, .null, .null, .null])), (q1, .inr (4, [.ref q2, .ref q3, .ref q4, .ref q5, .ref q6, .ref q7, .ref q8, .int 0])), (q2, .inl (cI, 60, .inl (fun _ => 0))), (q3, .inl (cI, 60, .inl (fun _ => 0))), (q4, .inl (cI, 60, .inl (fun _ => 0))), (q5, .inl (cI, 60, .inl (fun _ => 0))), (q6, .inl (cI, 60, .inl (fun _ => 0))), (q7, .inl (cI, 60, .inl (fun _ => 0))), (q8, .inl (cI, 180, .inl (fun _ => 0))), (q9, .inr (0, [.ref q10, .ref q11])), (q10, .inl (cI, 20, .inl (fun _ => 0))), (q11, .inl (cZ, 20, .inl (fun _ => 0))), (q12, .inr (0, [.ref q13, .ref q14])), (q13, .inl (cI, 20, .inl (fun _ => 0))), (q14, .inl (cZ, 20, .inl (fun _ => 0))), (q15, .inl (cI, 5, .inl (fun _ => 0))), (q16, .inr (6, [.ref q1, .ref q9, .ref q15, .ref q17, .ref q23, .ref q24, .ref q25, .ref q26, .int 0, .int 0, .int 0])), (q17, .inr (5, [.ref q18, .ref q19, .ref q20, .ref q21, .ref q22])), (q18, .inl (cI, 280, .inl (fun _ => 0))), (q19, .inl (cI, 280, .inl (fun _ => 0))), (q20, .inl (cI, 280, .inl (fun _ => 0))), (q21, .inl (cI, 280, .inl (fun _ => 0))), (q22, .inl (cI, 280, .inl (fun _ => 0))), (q23, .inl (cI, 60, .inl (fun _ => 0))), (q24, .inl (cI, 60, .inl (fun _ => 0))), (q25, .inl (cI, 60, .inl (fun _ => 0))), (q26, .inl (cI, 60, .inl (fun _ => 0)))] rfl ?_
  refine iw_aload d_SD_init_67 (j := 0) rfl ?_
  refine iw_new' (cj := 1) (Cn := R_CO) (T := T_CO) (N := 10) (ty := t_CO) (fs0 := fs_CO) d_SD_init_68 rfl tk_CO ln_SD_39.1 ln_SD_39.2.1 ln_SD_39.2.2 df_CO (by decide) (by decide) (fun q27 => ?_)
  refine iw_dup d_SD_init_71 ?_
  refine iw_aload d_SD_init_72 (j := 0) rfl ?_
  refine iw_getf d_SD_init_73 fa_SD_10 rfl ?_
  refine iw_aload d_SD_init_76 (j := 0) rfl ?_
  refine iw_getf d_SD_init_77 fa_SD_35 rfl ?_
  refine iw_init' (as' := [.ref q1, .ref q16]) (b := q27) (st := [.ref q27, .ref h0]) d_SD_init_80 (Or.inl lk_SD_41) (i_CO l D cI cZ q1 q16) rfl (Nat.le_of_ble_eq_true rfl) (by decide) (by decide) (by decide) 27 rfl [0, 1, 2, 3, 4, 5, 6, 7, 8, 9, 10, 11, 12, 13, 14, 15, 16, 17, 18, 19, 20, 21, 22, 23, 24, 25, 26] rfl (by decide) (by decide) (fun w hw => ?_)
  obtain ⟨q28, q29, q30, q31, q32, rfl⟩ := hw
  refine iw_putF [.ref q1, .ref q9, .ref q12, .ref q15, .ref q16, .ref q27, .null, .null] d_SD_init_83 ff_SD_44 rfl rfl (Nat.le_of_ble_eq_true rfl) rfl ?_
  refine iw_norm [(h0, .inr (7, [.ref q1, .ref q9, .ref q12, .ref q15, .ref q16, .ref q27, .null, .null])), (q1, .inr (4, [.ref q2, .ref q3, .ref q4, .ref q5, .ref q6, .ref q7, .ref q8, .int 0])), (q2, .inl (cI, 60, .inl (fun _ => 0))), (q3, .inl (cI, 60, .inl (fun _ => 0))), (q4, .inl (cI, 60, .inl (fun _ => 0))), (q5, .inl (cI, 60, .inl (fun _ => 0))), (q6, .inl (cI, 60, .inl (fun _ => 0))), (q7, .inl (cI, 60, .inl (fun _ => 0))), (q8, .inl (cI, 180, .inl (fun _ => 0))), (q9, .inr (0, [.ref q10, .ref q11])), (q10, .inl (cI, 20, .inl (fun _ => 0))), (q11, .inl (cZ, 20, .inl (fun _ => 0))), (q12, .inr (0, [.ref q13, .ref q14])), (q13, .inl (cI, 20, .inl (fun _ => 0))), (q14, .inl (cZ, 20, .inl (fun _ => 0))), (q15, .inl (cI, 5, .inl (fun _ => 0))), (q16, .inr (6, [.ref q1, .ref q9, .ref q15, .ref q17, .ref q23, .ref q24, .ref q25, .ref q26, .int 0, .int 0, .int 0])), (q17, .inr (5, [.ref q18, .ref q19, .ref q20, .ref q21, .ref q22])), (q18, .inl (cI, 280, .inl (fun _ => 0))), (q19, .inl (cI, 280, .inl (fun _ => 0))), (q20, .inl (cI, 280, .inl (fun _ => 0))), (q21, .inl (cI, 280, .inl (fun _ => 0))), (q22, .inl (cI, 280, .inl (fun _ => 0))), (q23, .inl (cI, 60, .inl (fun _ => 0))), (q24, .inl (cI, 60, .inl (fun _ => 0))), (q25, .inl (cI, 60, .inl (fun _ => 0))), (q26, .inl (cI, 60, .inl (fun _ => 0))), (q27, .inr (1, [.ref q1, .ref q16, .ref q28, .ref q29, .ref q30, .ref q31, .ref q32, .int 0, .int 0, .int (-1)])), (q28, .inl (cI, 60, .inl (fun _ => 0))), (q29, .inl (cI, 60, .inl (fun _ => 0))), (q30, .inl (cI, 60, .inl (fun _ => 0))), (q31, .inl (cI, 60, .inl (fun _ => 0))), (q32, .inl (cI, 60, .inl (fun _ => 0)))] rfl ?_
  refine iw_aload d_SD_init_86 (j := 0) rfl ?_
  refine iw_new' (cj := 2) (Cn := R_DS) (T := T_DS) (N := 9) (ty := t_DS) (fs0 := fs_DS) d_SD_init_87 rfl tk_DS ln_SD_48.1 ln_SD_48.2.1 ln_SD_48.2.2 df_DS (by decide) (by decide) (fun q33 => ?_)
  refine iw_dup d_SD_init_90 ?_
  refine iw_aload d_SD_init_91 (j := 0) rfl ?_
  refine iw_getf d_SD_init_92 fa_SD_10 rfl ?_
  refine iw_init' (as' := [.ref q1]) (b := q33) (st := [.ref q33, .ref h0]) d_SD_init_95 (Or.inl lk_SD_50) (i_DS l D cI cZ q1) rfl (Nat.le_of_ble_eq_true rfl) (by decide) (by decide) (by decide) 33 rfl [0, 1, 2, 3, 4, 5, 6, 7, 8, 9, 10, 11, 12, 13, 14, 15, 16, 17, 18, 19, 20, 21, 22, 23, 24, 25, 26, 27, 28, 29, 30, 31, 32] rfl (by decide) (by decide) (fun w hw => ?_)
  obtain ⟨q34, q35, q36, q37, rfl⟩ := hw
  refine iw_putF [.ref q1, .ref q9, .ref q12, .ref q15, .ref q16, .ref q27, .ref q33, .null] d_SD_init_98 ff_SD_53 rfl rfl (Nat.le_of_ble_eq_true rfl) rfl ?_
  refine iw_norm [(h0, .inr (7, [.ref q1, .ref q9, .ref q12, .ref q15, .ref q16, .ref q27, .ref q33, .null])), (q1, .inr (4, [.ref q2, .ref q3, .ref q4, .ref q5, .ref q6, .ref q7, .ref q8, .int 0])), (q2, .inl (cI, 60, .inl (fun _ => 0))), (q3, .inl (cI, 60, .inl (fun _ => 0))), (q4, .inl (cI, 60, .inl (fun _ => 0))), (q5, .inl (cI, 60, .inl (fun _ => 0))), (q6, .inl (cI, 60, .inl (fun _ => 0))), (q7, .inl (cI, 60, .inl (fun _ => 0))), (q8, .inl (cI, 180, .inl (fun _ => 0))), (q9, .inr (0, [.ref q10, .ref q11])), (q10, .inl (cI, 20, .inl (fun _ => 0))), (q11, .inl (cZ, 20, .inl (fun _ => 0))), (q12, .inr (0, [.ref q13, .ref q14])), (q13, .inl (cI, 20, .inl (fun _ => 0))), (q14, .inl (cZ, 20, .inl (fun _ => 0))), (q15, .inl (cI, 5, .inl (fun _ => 0))), (q16, .inr (6, [.ref q1, .ref q9, .ref q15, .ref q17, .ref q23, .ref q24, .ref q25, .ref q26, .int 0, .int 0, .int 0])), (q17, .inr (5, [.ref q18, .ref q19, .ref q20, .ref q21, .ref q22])), (q18, .inl (cI, 280, .inl (fun _ => 0))), (q19, .inl (cI, 280, .inl (fun _ => 0))), (q20, .inl (cI, 280, .inl (fun _ => 0))), (q21, .inl (cI, 280, .inl (fun _ => 0))), (q22, .inl (cI, 280, .inl (fun _ => 0))), (q23, .inl (cI, 60, .inl (fun _ => 0))), (q24, .inl (cI, 60, .inl (fun _ => 0))), (q25, .inl (cI, 60, .inl (fun _ => 0))), (q26, .inl (cI, 60, .inl (fun _ => 0))), (q27, .inr (1, [.ref q1, .ref q16, .ref q28, .ref q29, .ref q30, .ref q31, .ref q32, .int 0, .int 0, .int (-1)])), (q28, .inl (cI, 60, .inl (fun _ => 0))), (q29, .inl (cI, 60, .inl (fun _ => 0))), (q30, .inl (cI, 60, .inl (fun _ => 0))), (q31, .inl (cI, 60, .inl (fun _ => 0))), (q32, .inl (cI, 60, .inl (fun _ => 0))), (q33, .inr (2, [.ref q1, .ref q34, .ref q35, .ref q36, .ref q37, .int 0, .int 0, .int 0, .int (-1)])), (q34, .inl (cI, 70, .inl (fun _ => 0))), (q35, .inl (cI, 60, .inl (fun _ => 0))), (q36, .inl (cI, 60, .inl (fun _ => 0))), (q37, .inl (cI, 5760, .inl (fun _ => 0)))] rfl ?_
  refine iw_aload d_SD_init_101 (j := 0) rfl ?_
  refine iw_new' (cj := 3) (Cn := R_KR) (T := T_KR) (N := 4) (ty := t_KR) (fs0 := fs_KR) d_SD_init_102 rfl tk_KR ln_SD_57.1 ln_SD_57.2.1 ln_SD_57.2.2 df_KR (by decide) (by decide) (fun q38 => ?_)
  refine iw_dup d_SD_init_105 ?_
  refine iw_init' (as' := []) (b := q38) (st := [.ref q38, .ref h0]) d_SD_init_106 (Or.inr lk_SD_59) (i_KR l D cI cZ) rfl (Nat.le_of_ble_eq_true rfl) (by decide) (by decide) (by decide) 38 rfl [0, 1, 2, 3, 4, 5, 6, 7, 8, 9, 10, 11, 12, 13, 14, 15, 16, 17, 18, 19, 20, 21, 22, 23, 24, 25, 26, 27, 28, 29, 30, 31, 32, 33, 34, 35, 36, 37] rfl (by decide) (by decide) (fun w hw => ?_)
  obtain ⟨q39, q40, q41, rfl⟩ := hw
  refine iw_putF [.ref q1, .ref q9, .ref q12, .ref q15, .ref q16, .ref q27, .ref q33, .ref q38] d_SD_init_109 ff_SD_60 rfl rfl (Nat.le_of_ble_eq_true rfl) rfl ?_
  refine iw_norm [(h0, .inr (7, [.ref q1, .ref q9, .ref q12, .ref q15, .ref q16, .ref q27, .ref q33, .ref q38])), (q1, .inr (4, [.ref q2, .ref q3, .ref q4, .ref q5, .ref q6, .ref q7, .ref q8, .int 0])), (q2, .inl (cI, 60, .inl (fun _ => 0))), (q3, .inl (cI, 60, .inl (fun _ => 0))), (q4, .inl (cI, 60, .inl (fun _ => 0))), (q5, .inl (cI, 60, .inl (fun _ => 0))), (q6, .inl (cI, 60, .inl (fun _ => 0))), (q7, .inl (cI, 60, .inl (fun _ => 0))), (q8, .inl (cI, 180, .inl (fun _ => 0))), (q9, .inr (0, [.ref q10, .ref q11])), (q10, .inl (cI, 20, .inl (fun _ => 0))), (q11, .inl (cZ, 20, .inl (fun _ => 0))), (q12, .inr (0, [.ref q13, .ref q14])), (q13, .inl (cI, 20, .inl (fun _ => 0))), (q14, .inl (cZ, 20, .inl (fun _ => 0))), (q15, .inl (cI, 5, .inl (fun _ => 0))), (q16, .inr (6, [.ref q1, .ref q9, .ref q15, .ref q17, .ref q23, .ref q24, .ref q25, .ref q26, .int 0, .int 0, .int 0])), (q17, .inr (5, [.ref q18, .ref q19, .ref q20, .ref q21, .ref q22])), (q18, .inl (cI, 280, .inl (fun _ => 0))), (q19, .inl (cI, 280, .inl (fun _ => 0))), (q20, .inl (cI, 280, .inl (fun _ => 0))), (q21, .inl (cI, 280, .inl (fun _ => 0))), (q22, .inl (cI, 280, .inl (fun _ => 0))), (q23, .inl (cI, 60, .inl (fun _ => 0))), (q24, .inl (cI, 60, .inl (fun _ => 0))), (q25, .inl (cI, 60, .inl (fun _ => 0))), (q26, .inl (cI, 60, .inl (fun _ => 0))), (q27, .inr (1, [.ref q1, .ref q16, .ref q28, .ref q29, .ref q30, .ref q31, .ref q32, .int 0, .int 0, .int (-1)])), (q28, .inl (cI, 60, .inl (fun _ => 0))), (q29, .inl (cI, 60, .inl (fun _ => 0))), (q30, .inl (cI, 60, .inl (fun _ => 0))), (q31, .inl (cI, 60, .inl (fun _ => 0))), (q32, .inl (cI, 60, .inl (fun _ => 0))), (q33, .inr (2, [.ref q1, .ref q34, .ref q35, .ref q36, .ref q37, .int 0, .int 0, .int 0, .int (-1)])), (q34, .inl (cI, 70, .inl (fun _ => 0))), (q35, .inl (cI, 60, .inl (fun _ => 0))), (q36, .inl (cI, 60, .inl (fun _ => 0))), (q37, .inl (cI, 5760, .inl (fun _ => 0))), (q38, .inr (3, [.ref q39, .ref q40, .ref q41, .int 0])), (q39, .inl (cI, 14, .inl (fun _ => 0))), (q40, .inl (cI, 14, .inl (fun _ => 0))), (q41, .inl (cI, 14, .inl (fun _ => 0)))] rfl ?_
  exact iw_ret d_SD_init_112 ⟨q1, q2, q3, q4, q5, q6, q7, q8, q9, q10, q11, q12, q13, q14, q15, q16, q17, q18, q19, q20, q21, q22, q23, q24, q25, q26, q27, q28, q29, q30, q31, q32, q33, q34, q35, q36, q37, q38, q39, q40, q41, rfl⟩
theorem d_MD_init_0 : decode c_MD_init 0 = .ok (.aload_n 0, 1) := by decide +kernel
theorem d_MD_init_1 : decode c_MD_init 1 = .ok (.invokespecial 1, 3) := by decide +kernel
theorem d_MD_init_4 : decode c_MD_init 4 = .ok (.aload_n 0, 1) := by decide +kernel
theorem d_MD_init_5 : decode c_MD_init 5 = .ok (.bipush 60, 2) := by decide +kernel
theorem d_MD_init_7 : decode c_MD_init 7 = .ok (.newarray .int, 2) := by decide +kernel
theorem d_MD_init_9 : decode c_MD_init 9 = .ok (.putfield 7, 3) := by decide +kernel
theorem d_MD_init_12 : decode c_MD_init 12 = .ok (.aload_n 0, 1) := by decide +kernel
theorem d_MD_init_13 : decode c_MD_init 13 = .ok (.bipush 60, 2) := by decide +kernel
theorem d_MD_init_15 : decode c_MD_init 15 = .ok (.newarray .int, 2) := by decide +kernel
theorem d_MD_init_17 : decode c_MD_init 17 = .ok (.putfield 13, 3) := by decide +kernel
theorem d_MD_init_20 : decode c_MD_init 20 = .ok (.aload_n 0, 1) := by decide +kernel
theorem d_MD_init_21 : decode c_MD_init 21 = .ok (.bipush 60, 2) := by decide +kernel
theorem d_MD_init_23 : decode c_MD_init 23 = .ok (.newarray .int, 2) := by decide +kernel
theorem d_MD_init_25 : decode c_MD_init 25 = .ok (.putfield 16, 3) := by decide +kernel
theorem d_MD_init_28 : decode c_MD_init 28 = .ok (.aload_n 0, 1) := by decide +kernel
theorem d_MD_init_29 : decode c_MD_init 29 = .ok (.bipush 60, 2) := by decide +kernel
theorem d_MD_init_31 : decode c_MD_init 31 = .ok (.newarray .int, 2) := by decide +kernel
theorem d_MD_init_33 : decode c_MD_init 33 = .ok (.putfield 19, 3) := by decide +kernel
theorem d_MD_init_36 : decode c_MD_init 36 = .ok (.aload_n 0, 1) := by decide +kernel
theorem d_MD_init_37 : decode c_MD_init 37 = .ok (.bipush 60, 2) := by decide +kernel
theorem d_MD_init_39 : decode c_MD_init 39 = .ok (.newarray .int, 2) := by decide +kernel
theorem d_MD_init_41 : decode c_MD_init 41 = .ok (.putfield 22, 3) := by decide +kernel
theorem d_MD_init_44 : decode c_MD_init 44 = .ok (.aload_n 0, 1) := by decide +kernel
theorem d_MD_init_45 : decode c_MD_init 45 = .ok (.bipush 60, 2) := by decide +kernel
theorem d_MD_init_47 : decode c_MD_init 47 = .ok (.newarray .int, 2) := by decide +kernel
theorem d_MD_init_49 : decode c_MD_init 49 = .ok (.putfield 25, 3) := by decide +kernel
theorem d_MD_init_52 : decode c_MD_init 52 = .ok (.aload_n 0, 1) := by decide +kernel
theorem d_MD_init_53 : decode c_MD_init 53 = .ok (.bipush 60, 2) := by decide +kernel
theorem d_MD_init_55 : decode c_MD_init 55 = .ok (.newarray .int, 2) := by decide +kernel
theorem d_MD_init_57 : decode c_MD_init 57 = .ok (.putfield 28, 3) := by decide +kernel
theorem d_MD_init_60 : decode c_MD_init 60 = .ok (.aload_n 0, 1) := by decide +kernel
theorem d_MD_init_61 : decode c_MD_init 61 = .ok (.bipush 60, 2) := by decide +kernel
theorem d_MD_init_63 : decode c_MD_init 63 = .ok (.newarray .int, 2) := by decide +kernel
theorem d_MD_init_65 : decode c_MD_init 65 = .ok (.putfield 31, 3) := by decide +kernel
theorem d_MD_init_68 : decode c_MD_init 68 = .ok (.aload_n 0, 1) := by decide +kernel
theorem d_MD_init_69 : decode c_MD_init 69 = .ok (.bipush 20, 2) := by decide +kernel
theorem d_MD_init_71 : decode c_MD_init 71 = .ok (.newarray .int, 2) := by decide +kernel
theorem d_MD_init_73 : decode c_MD_init 73 = .ok (.putfield 34, 3) := by decide +kernel
theorem d_MD_init_76 : decode c_MD_init 76 = .ok (.aload_n 0, 1) := by decide +kernel
theorem d_MD_init_77 : decode c_MD_init 77 = .ok (.bipush 20, 2) := by decide +kernel
theorem d_MD_init_79 : decode c_MD_init 79 = .ok (.newarray .int, 2) := by decide +kernel
theorem d_MD_init_81 : decode c_MD_init 81 = .ok (.putfield 37, 3) := by decide +kernel
theorem d_MD_init_84 : decode c_MD_init 84 = .ok (.aload_n 0, 1) := by decide +kernel
theorem d_MD_init_85 : decode c_MD_init 85 = .ok (.iconst 5, 1) := by decide +kernel
theorem d_MD_init_86 : decode c_MD_init 86 = .ok (.newarray .int, 2) := by decide +kernel
theorem d_MD_init_88 : decode c_MD_init 88 = .ok (.putfield 40, 3) := by decide +kernel
theorem d_MD_init_91 : decode c_MD_init 91 = .ok (.aload_n 0, 1) := by decide +kernel
theorem d_MD_init_92 : decode c_MD_init 92 = .ok (.bipush 60, 2) := by decide +kernel
theorem d_MD_init_94 : decode c_MD_init 94 = .ok (.newarray .int, 2) := by decide +kernel
theorem d_MD_init_96 : decode c_MD_init 96 = .ok (.putfield 43, 3) := by decide +kernel
theorem d_MD_init_99 : decode c_MD_init 99 = .ok (.aload_n 0, 1) := by decide +kernel
theorem d_MD_init_100 : decode c_MD_init 100 = .ok (.bipush 60, 2) := by decide +kernel
theorem d_MD_init_102 : decode c_MD_init 102 = .ok (.newarray .int, 2) := by decide +kernel
theorem d_MD_init_104 : decode c_MD_init 104 = .ok (.putfield 46, 3) := by decide +kernel
theorem d_MD_init_107 : decode c_MD_init 107 = .ok (.aload_n 0, 1) := by decide +kernel
theorem d_MD_init_108 : decode c_MD_init 108 = .ok (.bipush 60, 2) := by decide +kernel
theorem d_MD_init_110 : decode c_MD_init 110 = .ok (.newarray .int, 2) := by decide +kernel
theorem d_MD_init_112 : decode c_MD_init 112 = .ok (.putfield 49, 3) := by decide +kernel
theorem d_MD_init_115 : decode c_MD_init 115 = .ok (.aload_n 0, 1) := by decide +kernel
theorem d_MD_init_116 : decode c_MD_init 116 = .ok (.bipush 60, 2) := by decide +kernel
theorem d_MD_init_118 : decode c_MD_init 118 = .ok (.newarray .boolean, 2) := by decide +kernel
theorem d_MD_init_120 : decode c_MD_init 120 = .ok (.putfield 52, 3) := by decide +kernel
theorem d_MD_init_123 : decode c_MD_init 123 = .ok (.aload_n 0, 1) := by decide +kernel
theorem d_MD_init_124 : decode c_MD_init 124 = .ok (.sipush 280, 3) := by decide +kernel
theorem d_MD_init_127 : decode c_MD_init 127 = .ok (.newarray .int, 2) := by decide +kernel
theorem d_MD_init_129 : decode c_MD_init 129 = .ok (.putfield 56, 3) := by decide +kernel
theorem d_MD_init_132 : decode c_MD_init 132 = .ok (.aload_n 0, 1) := by decide +kernel
theorem d_MD_init_133 : decode c_MD_init 133 = .ok (.sipush 280, 3) := by decide +kernel
theorem d_MD_init_136 : decode c_MD_init 136 = .ok (.newarray .int, 2) := by decide +kernel
theorem d_MD_init_138 : decode c_MD_init 138 = .ok (.putfield 59, 3) := by decide +kernel
theorem d_MD_init_141 : decode c_MD_init 141 = .ok (.aload_n 0, 1) := by decide +kernel
theorem d_MD_init_142 : decode c_MD_init 142 = .ok (.sipush 280, 3) := by decide +kernel
theorem d_MD_init_145 : decode c_MD_init 145 = .ok (.newarray .int, 2) := by decide +kernel
theorem d_MD_init_147 : decode c_MD_init 147 = .ok (.putfield 62, 3) := by decide +kernel
theorem d_MD_init_150 : decode c_MD_init 150 = .ok (.aload_n 0, 1) := by decide +kernel
theorem d_MD_init_151 : decode c_MD_init 151 = .ok (.sipush 280, 3) := by decide +kernel
theorem d_MD_init_154 : decode c_MD_init 154 = .ok (.newarray .boolean, 2) := by decide +kernel
theorem d_MD_init_156 : decode c_MD_init 156 = .ok (.putfield 65, 3) := by decide +kernel
theorem d_MD_init_159 : decode c_MD_init 159 = .ok (.aload_n 0, 1) := by decide +kernel
theorem d_MD_init_160 : decode c_MD_init 160 = .ok (.sipush 280, 3) := by decide +kernel
theorem d_MD_init_163 : decode c_MD_init 163 = .ok (.newarray .boolean, 2) := by decide +kernel
theorem d_MD_init_165 : decode c_MD_init 165 = .ok (.putfield 68, 3) := by decide +kernel
theorem d_MD_init_168 : decode c_MD_init 168 = .ok (.aload_n 0, 1) := by decide +kernel
theorem d_MD_init_169 : decode c_MD_init 169 = .ok (.iconst (-1), 1) := by decide +kernel
theorem d_MD_init_170 : decode c_MD_init 170 = .ok (.putfield 71, 3) := by decide +kernel
theorem d_MD_init_173 : decode c_MD_init 173 = .ok (.aload_n 0, 1) := by decide +kernel
theorem d_MD_init_174 : decode c_MD_init 174 = .ok (.bipush 60, 2) := by decide +kernel
theorem d_MD_init_176 : decode c_MD_init 176 = .ok (.newarray .int, 2) := by decide +kernel
theorem d_MD_init_178 : decode c_MD_init 178 = .ok (.putfield 75, 3) := by decide +kernel
theorem d_MD_init_181 : decode c_MD_init 181 = .ok (.aload_n 0, 1) := by decide +kernel
theorem d_MD_init_182 : decode c_MD_init 182 = .ok (.bipush 60, 2) := by decide +kernel
theorem d_MD_init_184 : decode c_MD_init 184 = .ok (.newarray .int, 2) := by decide +kernel
theorem d_MD_init_186 : decode c_MD_init 186 = .ok (.putfield 78, 3) := by decide +kernel
theorem d_MD_init_189 : decode c_MD_init 189 = .ok (.aload_n 0, 1) := by decide +kernel
theorem d_MD_init_190 : decode c_MD_init 190 = .ok (.bipush 60, 2) := by decide +kernel
theorem d_MD_init_192 : decode c_MD_init 192 = .ok (.newarray .int, 2) := by decide +kernel
theorem d_MD_init_194 : decode c_MD_init 194 = .ok (.putfield 81, 3) := by decide +kernel
theorem d_MD_init_197 : decode c_MD_init 197 = .ok (.aload_n 0, 1) := by decide +kernel
theorem d_MD_init_198 : decode c_MD_init 198 = .ok (.bipush 60, 2) := by decide +kernel
theorem d_MD_init_200 : decode c_MD_init 200 = .ok (.newarray .int, 2) := by decide +kernel
theorem d_MD_init_202 : decode c_MD_init 202 = .ok (.putfield 84, 3) := by decide +kernel
theorem d_MD_init_205 : decode c_MD_init 205 = .ok (.aload_n 0, 1) := by decide +kernel
theorem d_MD_init_206 : decode c_MD_init 206 = .ok (.bipush 60, 2) := by decide +kernel
theorem d_MD_init_208 : decode c_MD_init 208 = .ok (.newarray .int, 2) := by decide +kernel
theorem d_MD_init_210 : decode c_MD_init 210 = .ok (.putfield 87, 3) := by decide +kernel
theorem d_MD_init_213 : decode c_MD_init 213 = .ok (.aload_n 0, 1) := by decide +kernel
theorem d_MD_init_214 : decode c_MD_init 214 = .ok (.sipush 24000, 3) := by decide +kernel
theorem d_MD_init_217 : decode c_MD_init 217 = .ok (.newarray .int, 2) := by decide +kernel
theorem d_MD_init_219 : decode c_MD_init 219 = .ok (.putfield 90, 3) := by decide +kernel
theorem d_MD_init_222 : decode c_MD_init 222 = .ok (.return_, 1) := by decide +kernel
theorem lo_MD : Cond.methodLink "SignDotsModel" 1 objectInit ∈ gw_tbl := gw_at 725 (by decide +kernel) (by decide +kernel)
theorem ff_MD_7 : fFin "SignDotsModel" 7 8 0 (.array .int) := ⟨_, _, _, rfl, by decide, gw_at 726 (by decide +kernel) (by decide +kernel), rfl, rfl, by decide +kernel⟩
theorem ff_MD_13 : fFin "SignDotsModel" 13 8 1 (.array .int) := ⟨_, _, _, rfl, by decide, gw_at 727 (by decide +kernel) (by decide +kernel), rfl, rfl, by decide +kernel⟩
theorem ff_MD_16 : fFin "SignDotsModel" 16 8 2 (.array .int) := ⟨_, _, _, rfl, by decide, gw_at 728 (by decide +kernel) (by decide +kernel), rfl, rfl, by decide +kernel⟩
theorem ff_MD_19 : fFin "SignDotsModel" 19 8 3 (.array .int) := ⟨_, _, _, rfl, by decide, gw_at 729 (by decide +kernel) (by decide +kernel), rfl, rfl, by decide +kernel⟩
theorem ff_MD_22 : fFin "SignDotsModel" 22 8 4 (.array .int) := ⟨_, _, _, rfl, by decide, gw_at 730 (by decide +kernel) (by decide +kernel), rfl, rfl, by decide +kernel⟩
theorem ff_MD_25 : fFin "SignDotsModel" 25 8 5 (.array .int) := ⟨_, _, _, rfl, by decide, gw_at 731 (by decide +kernel) (by decide +kernel), rfl, rfl, by decide +kernel⟩
theorem ff_MD_28 : fFin "SignDotsModel" 28 8 6 (.array .int) := ⟨_, _, _, rfl, by decide, gw_at 732 (by decide +kernel) (by decide +kernel), rfl, rfl, by decide +kernel⟩
theorem ff_MD_31 : fFin "SignDotsModel" 31 8 7 (.array .int) := ⟨_, _, _, rfl, by decide, gw_at 733 (by decide +kernel) (by decide +kernel), rfl, rfl, by decide +kernel⟩
theorem ff_MD_34 : fFin "SignDotsModel" 34 8 9 (.array .int) := ⟨_, _, _, rfl, by decide, gw_at 735 (by decide +kernel) (by decide +kernel), rfl, rfl, by decide +kernel⟩
theorem ff_MD_37 : fFin "SignDotsModel" 37 8 10 (.array .int) := ⟨_, _, _, rfl, by decide, gw_at 736 (by decide +kernel) (by decide +kernel), rfl, rfl, by decide +kernel⟩
theorem ff_MD_40 : fFin "SignDotsModel" 40 8 11 (.array .int) := ⟨_, _, _, rfl, by decide, gw_at 737 (by decide +kernel) (by decide +kernel), rfl, rfl, by decide +kernel⟩
theorem ff_MD_43 : fFin "SignDotsModel" 43 8 12 (.array .int) := ⟨_, _, _, rfl, by decide, gw_at 738 (by decide +kernel) (by decide +kernel), rfl, rfl, by decide +kernel⟩
theorem ff_MD_46 : fFin "SignDotsModel" 46 8 13 (.array .int) := ⟨_, _, _, rfl, by decide, gw_at 739 (by decide +kernel) (by decide +kernel), rfl, rfl, by decide +kernel⟩
theorem ff_MD_49 : fFin "SignDotsModel" 49 8 14 (.array .int) := ⟨_, _, _, rfl, by decide, gw_at 740 (by decide +kernel) (by decide +kernel), rfl, rfl, by decide +kernel⟩
theorem ff_MD_52 : fFin "SignDotsModel" 52 8 15 (.array .boolean) := ⟨_, _, _, rfl, by decide, gw_at 741 (by decide +kernel) (by decide +kernel), rfl, rfl, by decide +kernel⟩
theorem ff_MD_56 : fFin "SignDotsModel" 56 8 16 (.array .int) := ⟨_, _, _, rfl, by decide, gw_at 742 (by decide +kernel) (by decide +kernel), rfl, rfl, by decide +kernel⟩
theorem ff_MD_59 : fFin "SignDotsModel" 59 8 17 (.array .int) := ⟨_, _, _, rfl, by decide, gw_at 743 (by decide +kernel) (by decide +kernel), rfl, rfl, by decide +kernel⟩
theorem ff_MD_62 : fFin "SignDotsModel" 62 8 18 (.array .int) := ⟨_, _, _, rfl, by decide, gw_at 744 (by decide +kernel) (by decide +kernel), rfl, rfl, by decide +kernel⟩
theorem ff_MD_65 : fFin "SignDotsModel" 65 8 19 (.array .boolean) := ⟨_, _, _, rfl, by decide, gw_at 745 (by decide +kernel) (by decide +kernel), rfl, rfl, by decide +kernel⟩
theorem ff_MD_68 : fFin "SignDotsModel" 68 8 20 (.array .boolean) := ⟨_, _, _, rfl, by decide, gw_at 746 (by decide +kernel) (by decide +kernel), rfl, rfl, by decide +kernel⟩
theorem fa_MD_71 : fLnk "SignDotsModel" 71 8 22 := ⟨_, _, _, rfl, by decide, gw_at 748 (by decide +kernel) (by decide +kernel)⟩
theorem fi_MD_71 : fInt 8 22 := ⟨_, _, _, rfl, rfl, rfl⟩
theorem ff_MD_75 : fFin "SignDotsModel" 75 8 23 (.array .int) := ⟨_, _, _, rfl, by decide, gw_at 749 (by decide +kernel) (by decide +kernel), rfl, rfl, by decide +kernel⟩
theorem ff_MD_78 : fFin "SignDotsModel" 78 8 24 (.array .int) := ⟨_, _, _, rfl, by decide, gw_at 750 (by decide +kernel) (by decide +kernel), rfl, rfl, by decide +kernel⟩
theorem ff_MD_81 : fFin "SignDotsModel" 81 8 26 (.array .int) := ⟨_, _, _, rfl, by decide, gw_at 752 (by decide +kernel) (by decide +kernel), rfl, rfl, by decide +kernel⟩
theorem ff_MD_84 : fFin "SignDotsModel" 84 8 27 (.array .int) := ⟨_, _, _, rfl, by decide, gw_at 753 (by decide +kernel) (by decide +kernel), rfl, rfl, by decide +kernel⟩
theorem ff_MD_87 : fFin "SignDotsModel" 87 8 28 (.array .int) := ⟨_, _, _, rfl, by decide, gw_at 754 (by decide +kernel) (by decide +kernel), rfl, rfl, by decide +kernel⟩
theorem ff_MD_90 : fFin "SignDotsModel" 90 8 29 (.array .int) := ⟨_, _, _, rfl, by decide, gw_at 755 (by decide +kernel) (by decide +kernel), rfl, rfl, by decide +kernel⟩
def fs_MD : List Value := [.null, .null, .null, .null, .null, .null, .null, .null, .int 0, .null, .null, .null, .null, .null, .null, .null, .null, .null, .null, .null, .null, .int 0, .int 0, .null, .null, .int 0, .null, .null, .null, .null, .int 0]
theorem df_MD : ∀ j, j < 31 → defaultValue (t_MD j) = vp_V fs_MD j := fun j hj => by
  match j, hj with
  | 0, _ => rfl
  | 1, _ => rfl
  | 2, _ => rfl
  | 3, _ => rfl
  | 4, _ => rfl
  | 5, _ => rfl
  | 6, _ => rfl
  | 7, _ => rfl
  | 8, _ => rfl
  | 9, _ => rfl
  | 10, _ => rfl
  | 11, _ => rfl
  | 12, _ => rfl
  | 13, _ => rfl
  | 14, _ => rfl
  | 15, _ => rfl
  | 16, _ => rfl
  | 17, _ => rfl
  | 18, _ => rfl
  | 19, _ => rfl
  | 20, _ => rfl
  | 21, _ => rfl
  | 22, _ => rfl
  | 23, _ => rfl
  | 24, _ => rfl
  | 25, _ => rfl
  | 26, _ => rfl
  | 27, _ => rfl
  | 28, _ => rfl
  | 29, _ => rfl
  | 30, _ => rfl
  | n + 31, h => omega
def Sh_MD (cI cZ : ClassId) (h0 : Nat) (w : va_W) : Prop := ∃ q1 q2 q3 q4 q5 q6 q7 q8 q9 q10 q11 q12 q13 q14 q15 q16 q17 q18 q19 q20 q21 q22 q23 q24 q25 q26 : Nat, w = [(h0, .inr (8, [.ref q1, .ref q2, .ref q3, .ref q4, .ref q5, .ref q6, .ref q7, .ref q8, .int 0, .ref q9, .ref q10, .ref q11, .ref q12, .ref q13, .ref q14, .ref q15, .ref q16, .ref q17, .ref q18, .ref q19, .ref q20, .int 0, .int (-1), .ref q21, .ref q22, .int 0, .ref q23, .ref q24, .ref q25, .ref q26, .int 0])), (q1, .inl (cI, 60, .inl (fun _ => 0))), (q2, .inl (cI, 60, .inl (fun _ => 0))), (q3, .inl (cI, 60, .inl (fun _ => 0))), (q4, .inl (cI, 60, .inl (fun _ => 0))), (q5, .inl (cI, 60, .inl (fun _ => 0))), (q6, .inl (cI, 60, .inl (fun _ => 0))), (q7, .inl (cI, 60, .inl (fun _ => 0))), (q8, .inl (cI, 60, .inl (fun _ => 0))), (q9, .inl (cI, 20, .inl (fun _ => 0))), (q10, .inl (cI, 20, .inl (fun _ => 0))), (q11, .inl (cI, 5, .inl (fun _ => 0))), (q12, .inl (cI, 60, .inl (fun _ => 0))), (q13, .inl (cI, 60, .inl (fun _ => 0))), (q14, .inl (cI, 60, .inl (fun _ => 0))), (q15, .inl (cZ, 60, .inl (fun _ => 0))), (q16, .inl (cI, 280, .inl (fun _ => 0))), (q17, .inl (cI, 280, .inl (fun _ => 0))), (q18, .inl (cI, 280, .inl (fun _ => 0))), (q19, .inl (cZ, 280, .inl (fun _ => 0))), (q20, .inl (cZ, 280, .inl (fun _ => 0))), (q21, .inl (cI, 60, .inl (fun _ => 0))), (q22, .inl (cI, 60, .inl (fun _ => 0))), (q23, .inl (cI, 60, .inl (fun _ => 0))), (q24, .inl (cI, 60, .inl (fun _ => 0))), (q25, .inl (cI, 60, .inl (fun _ => 0))), (q26, .inl (cI, 24000, .inl (fun _ => 0)))]
abbrev rm_MD : Room := { frames := 1, cells := 26, slots := 26465, locals := 12 }
set_option maxRecDepth 20000 in
theorem i_MD (l : Launch) (D : va_G) (cI cZ : ClassId) : CtI l D cI cZ M_MD_init [] 8 fs_MD rm_MD (Sh_MD cI cZ) := by
  refine cti_of rfl rfl rfl (Nat.le_of_ble_eq_true rfl) (fun _ => rfl) (fun h0 sz => ?_)
  refine iw_aload d_MD_init_0 (j := 0) rfl ?_
  refine iw_obj d_MD_init_1 lo_MD li_oi li_oc (by decide) (by decide) ?_
  refine iw_aload d_MD_init_4 (j := 0) rfl ?_
  refine iw_push (lp := 2) (n := 60) (Or.inr (Or.inl ⟨60, d_MD_init_5, rfl, rfl⟩)) ?_
  refine iw_newa' d_MD_init_7 rfl (Or.inl ⟨rfl, rfl⟩) li_int (by decide) rfl (by decide) (by decide) (by decide) (fun q1 => ?_)
  refine iw_putF [.ref q1, .null, .null, .null, .null, .null, .null, .null, .int 0, .null, .null, .null, .null, .null, .null, .null, .null, .null, .null, .null, .null, .int 0, .int 0, .null, .null, .int 0, .null, .null, .null, .null, .int 0] d_MD_init_9 ff_MD_7 rfl rfl (Nat.le_of_ble_eq_true rfl) rfl ?_
  refine iw_norm [(h0, .inr (8, [.ref q1, .null, .null, .null, .null, .null, .null, .null, .int 0, .null, .null, .null, .null, .null, .null, .null, .null, .null, .null, .null, .null, .int 0, .int 0, .null, .null, .int 0, .null, .null, .null, .null, .int 0])), (q1, .inl (cI, 60, .inl (fun _ => 0)))] rfl ?_
  refine iw_aload d_MD_init_12 (j := 0) rfl ?_
  refine iw_push (lp := 2) (n := 60) (Or.inr (Or.inl ⟨60, d_MD_init_13, rfl, rfl⟩)) ?_
  refine iw_newa' d_MD_init_15 rfl (Or.inl ⟨rfl, rfl⟩) li_int (by decide) rfl (by decide) (by decide) (by decide) (fun q2 => ?_)
  refine iw_putF [.ref q1, .ref q2, .null, .null, .null, .null, .null, .null, .int 0, .null, .null, .null, .null, .null, .null, .null, .null, .null, .null, .null, .null, .int 0, .int 0, .null, .null, .int 0, .null, .null, .null, .null, .int 0] d_MD_init_17 ff_MD_13 rfl rfl (Nat.le_of_ble_eq_true rfl) rfl ?_
  refine iw_norm [(h0, .inr (8, [.ref q1, .ref q2, .null, .null, .null, .null, .null, .null, .int 0, .null, .null, .null, .null, .null, .null, .null, .null, .null, .null, .null, .null, .int 0, .int 0, .null, .null, .int 0, .null, .null, .null, .null, .int 0])), (q1, .inl (cI, 60, .inl (fun _ => 0))), (q2, .inl (cI, 60, .inl (fun _ => 0)))] rfl ?_
  refine iw_aload d_MD_init_20 (j := 0) rfl ?_
  refine iw_push (lp := 2) (n := 60) (Or.inr (Or.inl ⟨60, d_MD_init_21, rfl, rfl⟩)) ?_
  refine iw_newa' d_MD_init_23 rfl (Or.inl ⟨rfl, rfl⟩) li_int (by decide) rfl (by decide) (by decide) (by decide) (fun q3 => ?_)
  refine iw_putF [.ref q1, .ref q2, .ref q3, .null, .null, .null, .null, .null, .int 0, .null, .null, .null, .null, .null, .null, .null, .null, .null, .null, .null, .null, .int 0, .int 0, .null, .null, .int 0, .null, .null, .null, .null, .int 0] d_MD_init_25 ff_MD_16 rfl rfl (Nat.le_of_ble_eq_true rfl) rfl ?_
  refine iw_norm [(h0, .inr (8, [.ref q1, .ref q2, .ref q3, .null, .null, .null, .null, .null, .int 0, .null, .null, .null, .null, .null, .null, .null, .null, .null, .null, .null, .null, .int 0, .int 0, .null, .null, .int 0, .null, .null, .null, .null, .int 0])), (q1, .inl (cI, 60, .inl (fun _ => 0))), (q2, .inl (cI, 60, .inl (fun _ => 0))), (q3, .inl (cI, 60, .inl (fun _ => 0)))] rfl ?_
  refine iw_aload d_MD_init_28 (j := 0) rfl ?_
  refine iw_push (lp := 2) (n := 60) (Or.inr (Or.inl ⟨60, d_MD_init_29, rfl, rfl⟩)) ?_
  refine iw_newa' d_MD_init_31 rfl (Or.inl ⟨rfl, rfl⟩) li_int (by decide) rfl (by decide) (by decide) (by decide) (fun q4 => ?_)
  refine iw_putF [.ref q1, .ref q2, .ref q3, .ref q4, .null, .null, .null, .null, .int 0, .null, .null, .null, .null, .null, .null, .null, .null, .null, .null, .null, .null, .int 0, .int 0, .null, .null, .int 0, .null, .null, .null, .null, .int 0] d_MD_init_33 ff_MD_19 rfl rfl (Nat.le_of_ble_eq_true rfl) rfl ?_
  refine iw_norm [(h0, .inr (8, [.ref q1, .ref q2, .ref q3, .ref q4, .null, .null, .null, .null, .int 0, .null, .null, .null, .null, .null, .null, .null, .null, .null, .null, .null, .null, .int 0, .int 0, .null, .null, .int 0, .null, .null, .null, .null, .int 0])), (q1, .inl (cI, 60, .inl (fun _ => 0))), (q2, .inl (cI, 60, .inl (fun _ => 0))), (q3, .inl (cI, 60, .inl (fun _ => 0))), (q4, .inl (cI, 60, .inl (fun _ => 0)))] rfl ?_
  refine iw_aload d_MD_init_36 (j := 0) rfl ?_
  refine iw_push (lp := 2) (n := 60) (Or.inr (Or.inl ⟨60, d_MD_init_37, rfl, rfl⟩)) ?_
  refine iw_newa' d_MD_init_39 rfl (Or.inl ⟨rfl, rfl⟩) li_int (by decide) rfl (by decide) (by decide) (by decide) (fun q5 => ?_)
  refine iw_putF [.ref q1, .ref q2, .ref q3, .ref q4, .ref q5, .null, .null, .null, .int 0, .null, .null, .null, .null, .null, .null, .null, .null, .null, .null, .null, .null, .int 0, .int 0, .null, .null, .int 0, .null, .null, .null, .null, .int 0] d_MD_init_41 ff_MD_22 rfl rfl (Nat.le_of_ble_eq_true rfl) rfl ?_
  refine iw_norm [(h0, .inr (8, [.ref q1, .ref q2, .ref q3, .ref q4, .ref q5, .null, .null, .null, .int 0, .null, .null, .null, .null, .null, .null, .null, .null, .null, .null, .null, .null, .int 0, .int 0, .null, .null, .int 0, .null, .null, .null, .null, .int 0])), (q1, .inl (cI, 60, .inl (fun _ => 0))), (q2, .inl (cI, 60, .inl (fun _ => 0))), (q3, .inl (cI, 60, .inl (fun _ => 0))), (q4, .inl (cI, 60, .inl (fun _ => 0))), (q5, .inl (cI, 60, .inl (fun _ => 0)))] rfl ?_
  refine iw_aload d_MD_init_44 (j := 0) rfl ?_
  refine iw_push (lp := 2) (n := 60) (Or.inr (Or.inl ⟨60, d_MD_init_45, rfl, rfl⟩)) ?_
  refine iw_newa' d_MD_init_47 rfl (Or.inl ⟨rfl, rfl⟩) li_int (by decide) rfl (by decide) (by decide) (by decide) (fun q6 => ?_)
  refine iw_putF [.ref q1, .ref q2, .ref q3, .ref q4, .ref q5, .ref q6, .null, .null, .int 0, .null, .null, .null, .null, .null, .null, .null, .null, .null, .null, .null, .null, .int 0, .int 0, .null, .null, .int 0, .null, .null, .null, .null, .int 0] d_MD_init_49 ff_MD_25 rfl rfl (Nat.le_of_ble_eq_true rfl) rfl ?_
  refine iw_norm [(h0, .inr (8, [.ref q1, .ref q2, .ref q3, .ref q4, .ref q5, .ref q6, .null, .null, .int 0, .null, .null, .null, .null, .null, .null, .null, .null, .null, .null, .null, .null, .int 0, .int 0, .null, .null, .int 0, .null, .null, .null, .null, .int 0])), (q1, .inl (cI, 60, .inl (fun _ => 0))), (q2, .inl (cI, 60, .inl (fun _ => 0))), (q3, .inl (cI, 60, .inl (fun _ => 0))), (q4, .inl (cI, 60, .inl (fun _ => 0))), (q5, .inl (cI, 60, .inl (fun _ => 0))), (q6, .inl (cI, 60, .inl (fun _ => 0)))] rfl ?_
  refine iw_aload d_MD_init_52 (j := 0) rfl ?_
  refine iw_push (lp := 2) (n := 60) (Or.inr (Or.inl ⟨60, d_MD_init_53, rfl, rfl⟩)) ?_
  refine iw_newa' d_MD_init_55 rfl (Or.inl ⟨rfl, rfl⟩) li_int (by decide) rfl (by decide) (by decide) (by decide) (fun q7 => ?_)
  refine iw_putF [.ref q1, .ref q2, .ref q3, .ref q4, .ref q5, .ref q6, .ref q7, .null, .int 0, .null, .null, .null, .null, .null, .null, .null, .null, .null, .null, .null, .null, .int 0, .int 0, .null, .null, .int 0, .null, .null, .null, .null, .int 0] d_MD_init_57 ff_MD_28 rfl rfl (Nat.le_of_ble_eq_true rfl) rfl ?_
  refine iw_norm [(h0, .inr (8, [.ref q1, .ref q2, .ref q3, .ref q4, .ref q5, .ref q6, .ref q7, .null, .int 0, .null, .null, .null, .null, .null, .null, .null, .null, .null, .null, .null, .null, .int 0, .int 0, .null, .null, .int 0, .null, .null, .null, .null, .int 0])), (q1, .inl (cI, 60, .inl (fun _ => 0))), (q2, .inl (cI, 60, .inl (fun _ => 0))), (q3, .inl (cI, 60, .inl (fun _ => 0))), (q4, .inl (cI, 60, .inl (fun _ => 0))), (q5, .inl (cI, 60, .inl (fun _ => 0))), (q6, .inl (cI, 60, .inl (fun _ => 0))), (q7, .inl (cI, 60, .inl (fun _ => 0)))] rfl ?_
  refine iw_aload d_MD_init_60 (j := 0) rfl ?_
  refine iw_push (lp := 2) (n := 60) (Or.inr (Or.inl ⟨60, d_MD_init_61, rfl, rfl⟩)) ?_
  refine iw_newa' d_MD_init_63 rfl (Or.inl ⟨rfl, rfl⟩) li_int (by decide) rfl (by decide) (by decide) (by decide) (fun q8 => ?_)
  refine iw_putF [.ref q1, .ref q2, .ref q3, .ref q4, .ref q5, .ref q6, .ref q7, .ref q8, .int 0, .null, .null, .null, .null, .null, .null, .null, .null, .null, .null, .null, .null, .int 0, .int 0, .null, .null, .int 0, .null, .null, .null, .null, .int 0] d_MD_init_65 ff_MD_31 rfl rfl (Nat.le_of_ble_eq_true rfl) rfl ?_
  refine iw_norm [(h0, .inr (8, [.ref q1, .ref q2, .ref q3, .ref q4, .ref q5, .ref q6, .ref q7, .ref q8, .int 0, .null, .null, .null, .null, .null, .null, .null, .null, .null, .null, .null, .null, .int 0, .int 0, .null, .null, .int 0, .null, .null, .null, .null, .int 0])), (q1, .inl (cI, 60, .inl (fun _ => 0))), (q2, .inl (cI, 60, .inl (fun _ => 0))), (q3, .inl (cI, 60, .inl (fun _ => 0))), (q4, .inl (cI, 60, .inl (fun _ => 0))), (q5, .inl (cI, 60, .inl (fun _ => 0))), (q6, .inl (cI, 60, .inl (fun _ => 0))), (q7, .inl (cI, 60, .inl (fun _ => 0))), (q8, .inl (cI, 60, .inl (fun _ => 0)))] rfl ?_
  refine iw_aload d_MD_init_68 (j := 0) rfl ?_
  refine iw_push (lp := 2) (n := 20) (Or.inr (Or.inl ⟨20, d_MD_init_69, rfl, rfl⟩)) ?_
  refine iw_newa' d_MD_init_71 rfl (Or.inl ⟨rfl, rfl⟩) li_int (by decide) rfl (by decide) (by decide) (by decide) (fun q9 => ?_)
  refine iw_putF [.ref q1, .ref q2, .ref q3, .ref q4, .ref q5, .ref q6, .ref q7, .ref q8, .int 0, .ref q9, .null, .null, .null, .null, .null, .null, .null, .null, .null, .null, .null, .int 0, .int 0, .null, .null, .int 0, .null, .null, .null, .null, .int 0] d_MD_init_73 ff_MD_34 rfl rfl (Nat.le_of_ble_eq_true rfl) rfl ?_
  refine iw_norm [(h0, .inr (8, [.ref q1, .ref q2, .ref q3, .ref q4, .ref q5, .ref q6, .ref q7, .ref q8, .int 0, .ref q9, .null, .null, .null, .null, .null, .null, .null, .null, .null, .null, .null, .int 0, .int 0, .null, .null, .int 0, .null, .null, .null, .null, .int 0])), (q1, .inl (cI, 60, .inl (fun _ => 0))), (q2, .inl (cI, 60, .inl (fun _ => 0))), (q3, .inl (cI, 60, .inl (fun _ => 0))), (q4, .inl (cI, 60, .inl (fun _ => 0))), (q5, .inl (cI, 60, .inl (fun _ => 0))), (q6, .inl (cI, 60, .inl (fun _ => 0))), (q7, .inl (cI, 60, .inl (fun _ => 0))), (q8, .inl (cI, 60, .inl (fun _ => 0))), (q9, .inl (cI, 20, .inl (fun _ => 0)))] rfl ?_
  refine iw_aload d_MD_init_76 (j := 0) rfl ?_
  refine iw_push (lp := 2) (n := 20) (Or.inr (Or.inl ⟨20, d_MD_init_77, rfl, rfl⟩)) ?_
  refine iw_newa' d_MD_init_79 rfl (Or.inl ⟨rfl, rfl⟩) li_int (by decide) rfl (by decide) (by decide) (by decide) (fun q10 => ?_)
  refine iw_putF [.ref q1, .ref q2, .ref q3, .ref q4, .ref q5, .ref q6, .ref q7, .ref q8, .int 0, .ref q9, .ref q10, .null, .null, .null, .null, .null, .null, .null, .null, .null, .null, .int 0, .int 0, .null, .null, .int 0, .null, .null, .null, .null, .int 0] d_MD_init_81 ff_MD_37 rfl rfl (Nat.le_of_ble_eq_true rfl) rfl ?_
  refine iw_norm [(h0, .inr (8, [.ref q1, .ref q2, .ref q3, .ref q4, .ref q5, .ref q6, .ref q7, .ref q8, .int 0, .ref q9, .ref q10, .null, .null, .null, .null, .null, .null, .null, .null, .null, .null, .int 0, .int 0, .null, .null, .int 0, .null, .null, .null, .null, .int 0])), (q1, .inl (cI, 60, .inl (fun _ => 0))), (q2, .inl (cI, 60, .inl (fun _ => 0))), (q3, .inl (cI, 60, .inl (fun _ => 0))), (q4, .inl (cI, 60, .inl (fun _ => 0))), (q5, .inl (cI, 60, .inl (fun _ => 0))), (q6, .inl (cI, 60, .inl (fun _ => 0))), (q7, .inl (cI, 60, .inl (fun _ => 0))), (q8, .inl (cI, 60, .inl (fun _ => 0))), (q9, .inl (cI, 20, .inl (fun _ => 0))), (q10, .inl (cI, 20, .inl (fun _ => 0)))] rfl ?_
  refine iw_aload d_MD_init_84 (j := 0) rfl ?_
  refine iw_push (lp := 1) (n := 5) (Or.inl ⟨5, d_MD_init_85, rfl, rfl⟩) ?_
  refine iw_newa' d_MD_init_86 rfl (Or.inl ⟨rfl, rfl⟩) li_int (by decide) rfl (by decide) (by decide) (by decide) (fun q11 => ?_)
  refine iw_putF [.ref q1, .ref q2, .ref q3, .ref q4, .ref q5, .ref q6, .ref q7, .ref q8, .int 0, .ref q9, .ref q10, .ref q11, .null, .null, .null, .null, .null, .null, .null, .null, .null, .int 0, .int 0, .null, .null, .int 0, .null, .null, .null, .null, .int 0] d_MD_init_88 ff_MD_40 rfl rfl (Nat.le_of_ble_eq_true rfl) rfl ?_
  refine iw_norm [(h0, .inr (8, [.ref q1, .ref q2, .ref q3, .ref q4, .ref q5, .ref q6, .ref q7, .ref q8, .int 0, .ref q9, .ref q10, .ref q11, .null, .null, .null, .null, .null, .null, .null, .null, .null, .int 0, .int 0, .null, .null, .int 0, .null, .null, .null, .null, .int 0])), (q1, .inl (cI, 60, .inl (fun _ => 0))), (q2, .inl (cI, 60, .inl (fun _ => 0))), (q3, .inl (cI, 60, .inl (fun _ => 0))), (q4, .inl (cI, 60, .inl (fun _ => 0))), (q5, .inl (cI, 60, .inl (fun _ => 0))), (q6, .inl (cI, 60, .inl (fun _ => 0))), (q7, .inl (cI, 60, .inl (fun _ => 0))), (q8, .inl (cI, 60, .inl (fun _ => 0))), (q9, .inl (cI, 20, .inl (fun _ => 0))), (q10, .inl (cI, 20, .inl (fun _ => 0))), (q11, .inl (cI, 5, .inl (fun _ => 0)))] rfl ?_
  refine iw_aload d_MD_init_91 (j := 0) rfl ?_
  refine iw_push (lp := 2) (n := 60) (Or.inr (Or.inl ⟨60, d_MD_init_92, rfl, rfl⟩)) ?_
  refine iw_newa' d_MD_init_94 rfl (Or.inl ⟨rfl, rfl⟩) li_int (by decide) rfl (by decide) (by decide) (by decide) (fun q12 => ?_)
  refine iw_putF [.ref q1, .ref q2, .ref q3, .ref q4, .ref q5, .ref q6, .ref q7, .ref q8, .int 0, .ref q9, .ref q10, .ref q11, .ref q12, .null, .null, .null, .null, .null, .null, .null, .null, .int 0, .int 0, .null, .null, .int 0, .null, .null, .null, .null, .int 0] d_MD_init_96 ff_MD_43 rfl rfl (Nat.le_of_ble_eq_true rfl) rfl ?_
  refine iw_norm [(h0, .inr (8, [.ref q1, .ref q2, .ref q3, .ref q4, .ref q5, .ref q6, .ref q7, .ref q8, .int 0, .ref q9, .ref q10, .ref q11, .ref q12, .null, .null, .null, .null, .null, .null, .null, .null, .int 0, .int 0, .null, .null, .int 0, .null, .null, .null, .null, .int 0])), (q1, .inl (cI, 60, .inl (fun _ => 0))), (q2, .inl (cI, 60, .inl (fun _ => 0))), (q3, .inl (cI, 60, .inl (fun _ => 0))), (q4, .inl (cI, 60, .inl (fun _ => 0))), (q5, .inl (cI, 60, .inl (fun _ => 0))), (q6, .inl (cI, 60, .inl (fun _ => 0))), (q7, .inl (cI, 60, .inl (fun _ => 0))), (q8, .inl (cI, 60, .inl (fun _ => 0))), (q9, .inl (cI, 20, .inl (fun _ => 0))), (q10, .inl (cI, 20, .inl (fun _ => 0))), (q11, .inl (cI, 5, .inl (fun _ => 0))), (q12, .inl (cI, 60, .inl (fun _ => 0)))] rfl ?_
  refine iw_aload d_MD_init_99 (j := 0) rfl ?_
  refine iw_push (lp := 2) (n := 60) (Or.inr (Or.inl ⟨60, d_MD_init_100, rfl, rfl⟩)) ?_
  refine iw_newa' d_MD_init_102 rfl (Or.inl ⟨rfl, rfl⟩) li_int (by decide) rfl (by decide) (by decide) (by decide) (fun q13 => ?_)
  refine iw_putF [.ref q1, .ref q2, .ref q3, .ref q4, .ref q5, .ref q6, .ref q7, .ref q8, .int 0, .ref q9, .ref q10, .ref q11, .ref q12, .ref q13, .null, .null, .null, .null, .null, .null, .null, .int 0, .int 0, .null, .null, .int 0, .null, .null, .null, .null, .int 0] d_MD_init_104 ff_MD_46 rfl rfl (Nat.le_of_ble_eq_true rfl) rfl ?_
  refine iw_norm [(h0, .inr (8, [.ref q1, .ref q2, .ref q3, .ref q4, .ref q5, .ref q6, .ref q7, .ref q8, .int 0, .ref q9, .ref q10, .ref q11, .ref q12, .ref q13, .null, .null, .null, .null, .null, .null, .null, .int 0, .int 0, .null, .null, .int 0, .null, .null, .null, .null, .int 0])), (q1, .inl (cI, 60, .inl (fun _ => 0))), (q2, .inl (cI, 60, .inl (fun _ => 0))), (q3, .inl (cI, 60, .inl (fun _ => 0))), (q4, .inl (cI, 60, .inl (fun _ => 0))), (q5, .inl (cI, 60, .inl (fun _ => 0))), (q6, .inl (cI, 60, .inl (fun _ => 0))), (q7, .inl (cI, 60, .inl (fun _ => 0))), (q8, .inl (cI, 60, .inl (fun _ => 0))), (q9, .inl (cI, 20, .inl (fun _ => 0))), (q10, .inl (cI, 20, .inl (fun _ => 0))), (q11, .inl (cI, 5, .inl (fun _ => 0))), (q12, .inl (cI, 60, .inl (fun _ => 0))), (q13, .inl (cI, 60, .inl (fun _ => 0)))] rfl ?_
  refine iw_aload d_MD_init_107 (j := 0) rfl ?_
  refine iw_push (lp := 2) (n := 60) (Or.inr (Or.inl ⟨60, d_MD_init_108, rfl, rfl⟩)) ?_
  refine iw_newa' d_MD_init_110 rfl (Or.inl ⟨rfl, rfl⟩) li_int (by decide) rfl (by decide) (by decide) (by decide) (fun q14 => ?_)
  refine iw_putF [.ref q1, .ref q2, .ref q3, .ref q4, .ref q5, .ref q6, .ref q7, .ref q8, .int 0, .ref q9, .ref q10, .ref q11, .ref q12, .ref q13, .ref q14, .null, .null, .null, .null, .null, .null, .int 0, .int 0, .null, .null, .int 0, .null, .null, .null, .null, .int 0] d_MD_init_112 ff_MD_49 rfl rfl (Nat.le_of_ble_eq_true rfl) rfl ?_
  refine iw_norm [(h0, .inr (8, [.ref q1, .ref q2, .ref q3, .ref q4, .ref q5, .ref q6, .ref q7, .ref q8, .int 0, .ref q9, .ref q10, .ref q11, .ref q12, .ref q13, .ref q14, .null, .null, .null, .null, .null, .null, .int 0, .int 0, .null, .null, .int 0, .null, .null, .null, .null, .int 0])), (q1, .inl (cI, 60, .inl (fun _ => 0))), (q2, .inl (cI, 60, .inl (fun _ => 0))), (q3, .inl (cI, 60, .inl (fun _ => 0))), (q4, .inl (cI, 60, .inl (fun _ => 0))), (q5, .inl (cI, 60, .inl (fun _ => 0))), (q6, .inl (cI, 60, .inl (fun _ => 0))), (q7, .inl (cI, 60, .inl (fun _ => 0))), (q8, .inl (cI, 60, .inl (fun _ => 0))), (q9, .inl (cI, 20, .inl (fun _ => 0))), (q10, .inl (cI, 20, .inl (fun _ => 0))), (q11, .inl (cI, 5, .inl (fun _ => 0))), (q12, .inl (cI, 60, .inl (fun _ => 0))), (q13, .inl (cI, 60, .inl (fun _ => 0))), (q14, .inl (cI, 60, .inl (fun _ => 0)))] rfl ?_
  refine iw_aload d_MD_init_115 (j := 0) rfl ?_
  refine iw_push (lp := 2) (n := 60) (Or.inr (Or.inl ⟨60, d_MD_init_116, rfl, rfl⟩)) ?_
  refine iw_newa' d_MD_init_118 rfl (Or.inr ⟨rfl, rfl⟩) li_bool (by decide) rfl (by decide) (by decide) (by decide) (fun q15 => ?_)
  refine iw_putF [.ref q1, .ref q2, .ref q3, .ref q4, .ref q5, .ref q6, .ref q7, .ref q8, .int 0, .ref q9, .ref q10, .ref q11, .ref q12, .ref q13, .ref q14, .ref q15, .null, .null, .null, .null, .null, .int 0, .int 0, .null, .null, .int 0, .null, .null, .null, .null, .int 0] d_MD_init_120 ff_MD_52 rfl rfl (Nat.le_of_ble_eq_true rfl) rfl ?_
  refine iw_norm [(h0, .inr (8, [.ref q1, .ref q2, .ref q3, .ref q4, .ref q5, .ref q6, .ref q7, .ref q8, .int 0, .ref q9, .ref q10, .ref q11, .ref q12, .ref q13, .ref q14, .ref q15, .null, .null, .null, .null, .null, .int 0, .int 0, .null, .null, .int 0, .null, .null, .null, .null, .int 0])), (q1, .inl (cI, 60, .inl (fun _ => 0))), (q2, .inl (cI, 60, .inl (fun _ => 0))), (q3, .inl (cI, 60, .inl (fun _ => 0))), (q4, .inl (cI, 60, .inl (fun _ => 0))), (q5, .inl (cI, 60, .inl (fun _ => 0))), (q6, .inl (cI, 60, .inl (fun _ => 0))), (q7, .inl (cI, 60, .inl (fun _ => 0))), (q8, .inl (cI, 60, .inl (fun _ => 0))), (q9, .inl (cI, 20, .inl (fun _ => 0))), (q10, .inl (cI, 20, .inl (fun _ => 0))), (q11, .inl (cI, 5, .inl (fun _ => 0))), (q12, .inl (cI, 60, .inl (fun _ => 0))), (q13, .inl (cI, 60, .inl (fun _ => 0))), (q14, .inl (cI, 60, .inl (fun _ => 0))), (q15, .inl (cZ, 60, .inl (fun _ => 0)))] rfl ?_
  refine iw_aload d_MD_init_123 (j := 0) rfl ?_
  refine iw_push (lp := 3) (n := 280) (Or.inr (Or.inr ⟨280, d_MD_init_124, rfl, rfl⟩)) ?_
  refine iw_newa' d_MD_init_127 rfl (Or.inl ⟨rfl, rfl⟩) li_int (by decide) rfl (by decide) (by decide) (by decide) (fun q16 => ?_)
  refine iw_putF [.ref q1, .ref q2, .ref q3, .ref q4, .ref q5, .ref q6, .ref q7, .ref q8, .int 0, .ref q9, .ref q10, .ref q11, .ref q12, .ref q13, .ref q14, .ref q15, .ref q16, .null, .null, .null, .null, .int 0, .int 0, .null, .null, .int 0, .null, .null, .null, .null, .int 0] d_MD_init_129 ff_MD_56 rfl rfl (Nat.le_of_ble_eq_true rfl) rfl ?_
  refine iw_norm [(h0, .inr (8, [.ref q1, .ref q2, .ref q3, .ref q4, .ref q5, .ref q6, .ref q7, .ref q8, .int 0, .ref q9, .ref q10, .ref q11, .ref q12, .ref q13, .ref q14, .ref q15, .ref q16, .null, .null, .null, .null, .int 0, .int 0, .null, .null, .int 0, .null, .null, .null, .null, .int 0])), (q1, .inl (cI, 60, .inl (fun _ => 0))), (q2, .inl (cI, 60, .inl (fun _ => 0))), (q3, .inl (cI, 60, .inl (fun _ => 0))), (q4, .inl (cI, 60, .inl (fun _ => 0))), (q5, .inl (cI, 60, .inl (fun _ => 0))), (q6, .inl (cI, 60, .inl (fun _ => 0))), (q7, .inl (cI, 60, .inl (fun _ => 0))), (q8, .inl (cI, 60, .inl (fun _ => 0))), (q9, .inl (cI, 20, .inl (fun _ => 0))), (q10, .inl (cI, 20, .inl (fun _ => 0))), (q11, .inl (cI, 5, .inl (fun _ => 0))), (q12, .inl (cI, 60, .inl (fun _ => 0))), (q13, .inl (cI, 60, .inl (fun _ => 0))), (q14, .inl (cI, 60, .inl (fun _ => 0))), (q15, .inl (cZ, 60, .inl (fun _ => 0))), (q16, .inl (cI, 280, .inl (fun _ => 0)))] rfl ?_
  refine iw_aload d_MD_init_132 (j := 0) rfl ?_
  refine iw_push (lp := 3) (n := 280) (Or.inr (Or.inr ⟨280, d_MD_init_133, rfl, rfl⟩)) ?_
  refine iw_newa' d_MD_init_136 rfl (Or.inl ⟨rfl, rfl⟩) li_int (by decide) rfl (by decide) (by decide) (by decide) (fun q17 => ?_)
  refine iw_putF [.ref q1, .ref q2, .ref q3, .ref q4, .ref q5, .ref q6, .ref q7, .ref q8, .int 0, .ref q9, .ref q10, .ref q11, .ref q12, .ref q13, .ref q14, .ref q15, .ref q16, .ref q17, .null, .null, .null, .int 0, .int 0, .null, .null, .int 0, .null, .null, .null, .null, .int 0] d_MD_init_138 ff_MD_59 rfl rfl (Nat.le_of_ble_eq_true rfl) rfl ?_
  refine iw_norm [(h0, .inr (8, [.ref q1, .ref q2, .ref q3, .ref q4, .ref q5, .ref q6, .ref q7, .ref q8, .int 0, .ref q9, .ref q10, .ref q11, .ref q12, .ref q13, .ref q14, .ref q15, .ref q16, .ref q17, .null, .null, .null, .int 0, .int 0, .null, .null, .int 0, .null, .null, .null, .null, .int 0])), (q1, .inl (cI, 60, .inl (fun _ => 0))), (q2, .inl (cI, 60, .inl (fun _ => 0))), (q3, .inl (cI, 60, .inl (fun _ => 0))), (q4, .inl (cI, 60, .inl (fun _ => 0))), (q5, .inl (cI, 60, .inl (fun _ => 0))), (q6, .inl (cI, 60, .inl (fun _ => 0))), (q7, .inl (cI, 60, .inl (fun _ => 0))), (q8, .inl (cI, 60, .inl (fun _ => 0))), (q9, .inl (cI, 20, .inl (fun _ => 0))), (q10, .inl (cI, 20, .inl (fun _ => 0))), (q11, .inl (cI, 5, .inl (fun _ => 0))), (q12, .inl (cI, 60, .inl (fun _ => 0))), (q13, .inl (cI, 60, .inl (fun _ => 0))), (q14, .inl (cI, 60, .inl (fun _ => 0))), (q15, .inl (cZ, 60, .inl (fun _ => 0))), (q16, .inl (cI, 280, .inl (fun _ => 0))), (q17, .inl (cI, 280, .inl (fun _ => 0)))] rfl ?_
  refine iw_aload d_MD_init_141 (j := 0) rfl ?_
  refine iw_push (lp := 3) (n := 280) (Or.inr (Or.inr ⟨280, d_MD_init_142, rfl, rfl⟩)) ?_
  refine iw_newa' d_MD_init_145 rfl (Or.inl ⟨rfl, rfl⟩) li_int (by decide) rfl (by decide) (by decide) (by decide) (fun q18 => ?_)
  refine iw_putF [.ref q1, .ref q2, .ref q3, .ref q4, .ref q5, .ref q6, .ref q7, .ref q8, .int 0, .ref q9, .ref q10, .ref q11, .ref q12, .ref q13, .ref q14, .ref q15, .ref q16, .ref q17, .ref q18, .null, .null, .int 0, .int 0, .null, .null, .int 0, .null, .null, .null, .null, .int 0] d_MD_init_147 ff_MD_62 rfl rfl (Nat.le_of_ble_eq_true rfl) rfl ?_
  refine iw_norm [(h0, .inr (8, [.ref q1, .ref q2, .ref q3, .ref q4, .ref q5, .ref q6, .ref q7, .ref q8, .int 0, .ref q9, .ref q10, .ref q11, .ref q12, .ref q13, .ref q14, .ref q15, .ref q16, .ref q17, .ref q18, .null, .null, .int 0, .int 0, .null, .null, .int 0, .null, .null, .null, .null, .int 0])), (q1, .inl (cI, 60, .inl (fun _ => 0))), (q2, .inl (cI, 60, .inl (fun _ => 0))), (q3, .inl (cI, 60, .inl (fun _ => 0))), (q4, .inl (cI, 60, .inl (fun _ => 0))), (q5, .inl (cI, 60, .inl (fun _ => 0))), (q6, .inl (cI, 60, .inl (fun _ => 0))), (q7, .inl (cI, 60, .inl (fun _ => 0))), (q8, .inl (cI, 60, .inl (fun _ => 0))), (q9, .inl (cI, 20, .inl (fun _ => 0))), (q10, .inl (cI, 20, .inl (fun _ => 0))), (q11, .inl (cI, 5, .inl (fun _ => 0))), (q12, .inl (cI, 60, .inl (fun _ => 0))), (q13, .inl (cI, 60, .inl (fun _ => 0))), (q14, .inl (cI, 60, .inl (fun _ => 0))), (q15, .inl (cZ, 60, .inl (fun _ => 0))), (q16, .inl (cI, 280, .inl (fun _ => 0))), (q17, .inl (cI, 280, .inl (fun _ => 0))), (q18, .inl (cI, 280, .inl (fun _ => 0)))] rfl ?_
  refine iw_aload d_MD_init_150 (j := 0) rfl ?_
  refine iw_push (lp := 3) (n := 280) (Or.inr (Or.inr ⟨280, d_MD_init_151, rfl, rfl⟩)) ?_
  refine iw_newa' d_MD_init_154 rfl (Or.inr ⟨rfl, rfl⟩) li_bool (by decide) rfl (by decide) (by decide) (by decide) (fun q19 => ?_)
  refine iw_putF [.ref q1, .ref q2, .ref q3, .ref q4, .ref q5, .ref q6, .ref q7, .ref q8, .int 0, .ref q9, .ref q10, .ref q11, .ref q12, .ref q13, .ref q14, .ref q15, .ref q16, .ref q17, .ref q18, .ref q19, .null, .int 0, .int 0, .null, .null, .int 0, .null, .null, .null, .null, .int 0] d_MD_init_156 ff_MD_65 rfl rfl (Nat.le_of_ble_eq_true rfl) rfl ?_
  refine iw_norm [(h0, .inr (8, [.ref q1, .ref q2, .ref q3, .ref q4, .ref q5, .ref q6, .ref q7, .ref q8, .int 0, .ref q9, .ref q10, .ref q11, .ref q12, .ref q13, .ref q14, .ref q15, .ref q16, .ref q17, .ref q18, .ref q19, .null, .int 0, .int 0, .null, .null, .int 0, .null, .null, .null, .null, .int 0])), (q1, .inl (cI, 60, .inl (fun _ => 0))), (q2, .inl (cI, 60, .inl (fun _ => 0))), (q3, .inl (cI, 60, .inl (fun _ => 0))), (q4, .inl (cI, 60, .inl (fun _ => 0))), (q5, .inl (cI, 60, .inl (fun _ => 0))), (q6, .inl (cI, 60, .inl (fun _ => 0))), (q7, .inl (cI, 60, .inl (fun _ => 0))), (q8, .inl (cI, 60, .inl (fun _ => 0))), (q9, .inl (cI, 20, .inl (fun _ => 0))), (q10, .inl (cI, 20, .inl (fun _ => 0))), (q11, .inl (cI, 5, .inl (fun _ => 0))), (q12, .inl (cI, 60, .inl (fun _ => 0))), (q13, .inl (cI, 60, .inl (fun _ => 0))), (q14, .inl (cI, 60, .inl (fun _ => 0))), (q15, .inl (cZ, 60, .inl (fun _ => 0))), (q16, .inl (cI, 280, .inl (fun _ => 0))), (q17, .inl (cI, 280, .inl (fun _ => 0))), (q18, .inl (cI, 280, .inl (fun _ => 0))), (q19, .inl (cZ, 280, .inl (fun _ => 0)))] rfl ?_
  refine iw_aload d_MD_init_159 (j := 0) rfl ?_
  refine iw_push (lp := 3) (n := 280) (Or.inr (Or.inr ⟨280, d_MD_init_160, rfl, rfl⟩)) ?_
  refine iw_newa' d_MD_init_163 rfl (Or.inr ⟨rfl, rfl⟩) li_bool (by decide) rfl (by decide) (by decide) (by decide) (fun q20 => ?_)
  refine iw_putF [.ref q1, .ref q2, .ref q3, .ref q4, .ref q5, .ref q6, .ref q7, .ref q8, .int 0, .ref q9, .ref q10, .ref q11, .ref q12, .ref q13, .ref q14, .ref q15, .ref q16, .ref q17, .ref q18, .ref q19, .ref q20, .int 0, .int 0, .null, .null, .int 0, .null, .null, .null, .null, .int 0] d_MD_init_165 ff_MD_68 rfl rfl (Nat.le_of_ble_eq_true rfl) rfl ?_
  refine iw_norm [(h0, .inr (8, [.ref q1, .ref q2, .ref q3, .ref q4, .ref q5, .ref q6, .ref q7, .ref q8, .int 0, .ref q9, .ref q10, .ref q11, .ref q12, .ref q13, .ref q14, .ref q15, .ref q16, .ref q17, .ref q18, .ref q19, .ref q20, .int 0, .int 0, .null, .null, .int 0, .null, .null, .null, .null, .int 0])), (q1, .inl (cI, 60, .inl (fun _ => 0))), (q2, .inl (cI, 60, .inl (fun _ => 0))), (q3, .inl (cI, 60, .inl (fun _ => 0))), (q4, .inl (cI, 60, .inl (fun _ => 0))), (q5, .inl (cI, 60, .inl (fun _ => 0))), (q6, .inl (cI, 60, .inl (fun _ => 0))), (q7, .inl (cI, 60, .inl (fun _ => 0))), (q8, .inl (cI, 60, .inl (fun _ => 0))), (q9, .inl (cI, 20, .inl (fun _ => 0))), (q10, .inl (cI, 20, .inl (fun _ => 0))), (q11, .inl (cI, 5, .inl (fun _ => 0))), (q12, .inl (cI, 60, .inl (fun _ => 0))), (q13, .inl (cI, 60, .inl (fun _ => 0))), (q14, .inl (cI, 60, .inl (fun _ => 0))), (q15, .inl (cZ, 60, .inl (fun _ => 0))), (q16, .inl (cI, 280, .inl (fun _ => 0))), (q17, .inl (cI, 280, .inl (fun _ => 0))), (q18, .inl (cI, 280, .inl (fun _ => 0))), (q19, .inl (cZ, 280, .inl (fun _ => 0))), (q20, .inl (cZ, 280, .inl (fun _ => 0)))] rfl ?_
  refine iw_aload d_MD_init_168 (j := 0) rfl ?_
  refine iw_push (lp := 1) (n := -1) (Or.inl ⟨-1, d_MD_init_169, rfl, rfl⟩) ?_
  refine iw_putI [.ref q1, .ref q2, .ref q3, .ref q4, .ref q5, .ref q6, .ref q7, .ref q8, .int 0, .ref q9, .ref q10, .ref q11, .ref q12, .ref q13, .ref q14, .ref q15, .ref q16, .ref q17, .ref q18, .ref q19, .ref q20, .int 0, .int (-1), .null, .null, .int 0, .null, .null, .null, .null, .int 0] d_MD_init_170 fa_MD_71 fi_MD_71 (Nat.le_of_ble_eq_true rfl) rfl ?_
  refine iw_aload d_MD_init_173 (j := 0) rfl ?_
  refine iw_push (lp := 2) (n := 60) (Or.inr (Or.inl ⟨60, d_MD_init_174, rfl, rfl⟩)) ?_
  refine iw_newa' d_MD_init_176 rfl (Or.inl ⟨rfl, rfl⟩) li_int (by decide) rfl (by decide) (by decide) (by decide) (fun q21 => ?_)
  refine iw_putF [.ref q1, .ref q2, .ref q3, .ref q4, .ref q5, .ref q6, .ref q7, .ref q8, .int 0, .ref q9, .ref q10, .ref q11, .ref q12, .ref q13, .ref q14, .ref q15, .ref q16, .ref q17, .ref q18, .ref q19, .ref q20, .int 0, .int (-1), .ref q21, .null, .int 0, .null, .null, .null, .null, .int 0] d_MD_init_178 ff_MD_75 rfl rfl (Nat.le_of_ble_eq_true rfl) rfl ?_
  refine iw_norm [(h0, .inr (8, [.ref q1, .ref q2, .ref q3, .ref q4, .ref q5, .ref q6, .ref q7, .ref q8, .int 0, .ref q9, .ref q10, .ref q11, .ref q12, .ref q13, .ref q14, .ref q15, .ref q16, .ref q17, .ref q18, .ref q19, .ref q20, .int 0, .int (-1), .ref q21, .null, .int 0, .null, .null, .null, .null, .int 0])), (q1, .inl (cI, 60, .inl (fun _ => 0))), (q2, .inl (cI, 60, .inl (fun _ => 0))), (q3, .inl (cI, 60, .inl (fun _ => 0))), (q4, .inl (cI, 60, .inl (fun _ => 0))), (q5, .inl (cI, 60, .inl (fun _ => 0))), (q6, .inl (cI, 60, .inl (fun _ => 0))), (q7, .inl (cI, 60, .inl (fun _ => 0))), (q8, .inl (cI, 60, .inl (fun _ => 0))), (q9, .inl (cI, 20, .inl (fun _ => 0))), (q10, .inl (cI, 20, .inl (fun _ => 0))), (q11, .inl (cI, 5, .inl (fun _ => 0))), (q12, .inl (cI, 60, .inl (fun _ => 0))), (q13, .inl (cI, 60, .inl (fun _ => 0))), (q14, .inl (cI, 60, .inl (fun _ => 0))), (q15, .inl (cZ, 60, .inl (fun _ => 0))), (q16, .inl (cI, 280, .inl (fun _ => 0))), (q17, .inl (cI, 280, .inl (fun _ => 0))), (q18, .inl (cI, 280, .inl (fun _ => 0))), (q19, .inl (cZ, 280, .inl (fun _ => 0))), (q20, .inl (cZ, 280, .inl (fun _ => 0))), (q21, .inl (cI, 60, .inl (fun _ => 0)))] rfl ?_
  refine iw_aload d_MD_init_181 (j := 0) rfl ?_
  refine iw_push (lp := 2) (n := 60) (Or.inr (Or.inl ⟨60, d_MD_init_182, rfl, rfl⟩)) ?_
  refine iw_newa' d_MD_init_184 rfl (Or.inl ⟨rfl, rfl⟩) li_int (by decide) rfl (by decide) (by decide) (by decide) (fun q22 => ?_)
  refine iw_putF [.ref q1, .ref q2, .ref q3, .ref q4, .ref q5, .ref q6, .ref q7, .ref q8, .int 0, .ref q9, .ref q10, .ref q11, .ref q12, .ref q13, .ref q14, .ref q15, .ref q16, .ref q17, .ref q18, .ref q19, .ref q20, .int 0, .int (-1), .ref q21, .ref q22, .int 0, .null, .null, .null, .null, .int 0] d_MD_init_186 ff_MD_78 rfl rfl (Nat.le_of_ble_eq_true rfl) rfl ?_
  refine iw_norm [(h0, .inr (8, [.ref q1, .ref q2, .ref q3, .ref q4, .ref q5, .ref q6, .ref q7, .ref q8, .int 0, .ref q9, .ref q10, .ref q11, .ref q12, .ref q13, .ref q14, .ref q15, .ref q16, .ref q17, .ref q18, .ref q19, .ref q20, .int 0, .int (-1), .ref q21, .ref q22, .int 0, .null, .null, .null, .null, .int 0])), (q1, .inl (cI, 60, .inl (fun _ => 0))), (q2, .inl (cI, 60, .inl (fun _ => 0))), (q3, .inl (cI, 60, .inl (fun _ => 0))), (q4, .inl (cI, 60, .inl (fun _ => 0))), (q5, .inl (cI, 60, .inl (fun _ => 0))), (q6, .inl (cI, 60, .inl (fun _ => 0))), (q7, .inl (cI, 60, .inl (fun _ => 0))), (q8, .inl (cI, 60, .inl (fun _ => 0))), (q9, .inl (cI, 20, .inl (fun _ => 0))), (q10, .inl (cI, 20, .inl (fun _ => 0))), (q11, .inl (cI, 5, .inl (fun _ => 0))), (q12, .inl (cI, 60, .inl (fun _ => 0))), (q13, .inl (cI, 60, .inl (fun _ => 0))), (q14, .inl (cI, 60, .inl (fun _ => 0))), (q15, .inl (cZ, 60, .inl (fun _ => 0))), (q16, .inl (cI, 280, .inl (fun _ => 0))), (q17, .inl (cI, 280, .inl (fun _ => 0))), (q18, .inl (cI, 280, .inl (fun _ => 0))), (q19, .inl (cZ, 280, .inl (fun _ => 0))), (q20, .inl (cZ, 280, .inl (fun _ => 0))), (q21, .inl (cI, 60, .inl (fun _ => 0))), (q22, .inl (cI, 60, .inl (fun _ => 0)))] rfl ?_
  refine iw_aload d_MD_init_189 (j := 0) rfl ?_
  refine iw_push (lp := 2) (n := 60) (Or.inr (Or.inl ⟨60, d_MD_init_190, rfl, rfl⟩)) ?_
  refine iw_newa' d_MD_init_192 rfl (Or.inl ⟨rfl, rfl⟩) li_int (by decide) rfl (by decide) (by decide) (by decide) (fun q23 => ?_)
  refine iw_putF [.ref q1, .ref q2, .ref q3, .ref q4, .ref q5, .ref q6, .ref q7, .ref q8, .int 0, .ref q9, .ref q10, .ref q11, .ref q12, .ref q13, .ref q14, .ref q15, .ref q16, .ref q17, .ref q18, .ref q19, .ref q20, .int 0, .int (-1), .ref q21, .ref q22, .int 0, .ref q23, .null, .null, .null, .int 0] d_MD_init_194 ff_MD_81 rfl rfl (Nat.le_of_ble_eq_true rfl) rfl ?_
  refine iw_norm [(h0, .inr (8, [.ref q1, .ref q2, .ref q3, .ref q4, .ref q5, .ref q6, .ref q7, .ref q8, .int 0, .ref q9, .ref q10, .ref q11, .ref q12, .ref q13, .ref q14, .ref q15, .ref q16, .ref q17, .ref q18, .ref q19, .ref q20, .int 0, .int (-1), .ref q21, .ref q22, .int 0, .ref q23, .null, .null, .null, .int 0])), (q1, .inl (cI, 60, .inl (fun _ => 0))), (q2, .inl (cI, 60, .inl (fun _ => 0))), (q3, .inl (cI, 60, .inl (fun _ => 0))), (q4, .inl (cI, 60, .inl (fun _ => 0))), (q5, .inl (cI, 60, .inl (fun _ => 0))), (q6, .inl (cI, 60, .inl (fun _ => 0))), (q7, .inl (cI, 60, .inl (fun _ => 0))), (q8, .inl (cI, 60, .inl (fun _ => 0))), (q9, .inl (cI, 20, .inl (fun _ => 0))), (q10, .inl (cI, 20, .inl (fun _ => 0))), (q11, .inl (cI, 5, .inl (fun _ => 0))), (q12, .inl (cI, 60, .inl (fun _ => 0))), (q13, .inl (cI, 60, .inl (fun _ => 0))), (q14, .inl (cI, 60, .inl (fun _ => 0))), (q15, .inl (cZ, 60, .inl (fun _ => 0))), (q16, .inl (cI, 280, .inl (fun _ => 0))), (q17, .inl (cI, 280, .inl (fun _ => 0))), (q18, .inl (cI, 280, .inl (fun _ => 0))), (q19, .inl (cZ, 280, .inl (fun _ => 0))), (q20, .inl (cZ, 280, .inl (fun _ => 0))), (q21, .inl (cI, 60, .inl (fun _ => 0))), (q22, .inl (cI, 60, .inl (fun _ => 0))), (q23, .inl (cI, 60, .inl (fun _ => 0)))] rfl ?_
  refine iw_aload d_MD_init_197 (j := 0) rfl ?_
  refine iw_push (lp := 2) (n := 60) (Or.inr (Or.inl ⟨60, d_MD_init_198, rfl, rfl⟩)) ?_
  refine iw_newa' d_MD_init_200 rfl (Or.inl ⟨rfl, rfl⟩) li_int (by decide) rfl (by decide) (by decide) (by decide) (fun q24 => ?_)
  refine iw_putF [.ref q1, .ref q2, .ref q3, .ref q4, .ref q5, .ref q6, .ref q7, .ref q8, .int 0, .ref q9, .ref q10, .ref q11, .ref q12, .ref q13, .ref q14, .ref q15, .ref q16, .ref q17, .ref q18, .ref q19, .ref q20, .int 0, .int (-1), .ref q21, .ref q22, .int 0, .ref q23, .ref q24, .null, .null, .int 0] d_MD_init_202 ff_MD_84 rfl rfl (Nat.le_of_ble_eq_true rfl) rfl ?_
  refine iw_norm [(h0, .inr (8, [.ref q1, .ref q2, .ref q3, .ref q4, .ref q5, .ref q6, .ref q7, .ref q8, .int 0, .ref q9, .ref q10, .ref q11, .ref q12, .ref q13, .ref q14, .ref q15, .ref q16, .ref q17, .ref q18, .ref q19, .ref q20, .int 0, .int (-1), .ref q21, .ref q22, .int 0, .ref q23, .ref q24, .null, .null, .int 0])), (q1, .inl (cI, 60, .inl (fun _ => 0))), (q2, .inl (cI, 60, .inl (fun _ => 0))), (q3, .inl (cI, 60, .inl (fun _ => 0))), (q4, .inl (cI, 60, .inl (fun _ => 0))), (q5, .inl (cI, 60, .inl (fun _ => 0))), (q6, .inl (cI, 60, .inl (fun _ => 0))), (q7, .inl (cI, 60, .inl (fun _ => 0))), (q8, .inl (cI, 60, .inl (fun _ => 0))), (q9, .inl (cI, 20, .inl (fun _ => 0))), (q10, .inl (cI, 20, .inl (fun _ => 0))), (q11, .inl (cI, 5, .inl (fun _ => 0))), (q12, .inl (cI, 60, .inl (fun _ => 0))), (q13, .inl (cI, 60, .inl (fun _ => 0))), (q14, .inl (cI, 60, .inl (fun _ => 0))), (q15, .inl (cZ, 60, .inl (fun _ => 0))), (q16, .inl (cI, 280, .inl (fun _ => 0))), (q17, .inl (cI, 280, .inl (fun _ => 0))), (q18, .inl (cI, 280, .inl (fun _ => 0))), (q19, .inl (cZ, 280, .inl (fun _ => 0))), (q20, .inl (cZ, 280, .inl (fun _ => 0))), (q21, .inl (cI, 60, .inl (fun _ => 0))), (q22, .inl (cI, 60, .inl (fun _ => 0))), (q23, .inl (cI, 60, .inl (fun _ => 0))), (q24, .inl (cI, 60, .inl (fun _ => 0)))] rfl ?_
  refine iw_aload d_MD_init_205 (j := 0) rfl ?_
  refine iw_push (lp := 2) (n := 60) (Or.inr (Or.inl ⟨60, d_MD_init_206, rfl, rfl⟩)) ?_
  refine iw_newa' d_MD_init_208 rfl (Or.inl ⟨rfl, rfl⟩) li_int (by decide) rfl (by decide) (by decide) (by decide) (fun q25 => ?_)
  refine iw_putF [.ref q1, .ref q2, .ref q3, .ref q4, .ref q5, .ref q6, .ref q7, .ref q8, .int 0, .ref q9, .ref q10, .ref q11, .ref q12, .ref q13, .ref q14, .ref q15, .ref q16, .ref q17, .ref q18, .ref q19, .ref q20, .int 0, .int (-1), .ref q21, .ref q22, .int 0, .ref q23, .ref q24, .ref q25, .null, .int 0] d_MD_init_210 ff_MD_87 rfl rfl (Nat.le_of_ble_eq_true rfl) rfl ?_
  refine iw_norm [(h0, .inr (8, [.ref q1, .ref q2, .ref q3, .ref q4, .ref q5, .ref q6, .ref q7, .ref q8, .int 0, .ref q9, .ref q10, .ref q11, .ref q12, .ref q13, .ref q14, .ref q15, .ref q16, .ref q17, .ref q18, .ref q19, .ref q20, .int 0, .int (-1), .ref q21, .ref q22, .int 0, .ref q23, .ref q24, .ref q25, .null, .int 0])), (q1, .inl (cI, 60, .inl (fun _ => 0))), (q2, .inl (cI, 60, .inl (fun _ => 0))), (q3, .inl (cI, 60, .inl (fun _ => 0))), (q4, .inl (cI, 60, .inl (fun _ => 0))), (q5, .inl (cI, 60, .inl (fun _ => 0))), (q6, .inl (cI, 60, .inl (fun _ => 0))), (q7, .inl (cI, 60, .inl (fun _ => 0))), (q8, .inl (cI, 60, .inl (fun _ => 0))), (q9, .inl (cI, 20, .inl (fun _ => 0))), (q10, .inl (cI, 20, .inl (fun _ => 0))), (q11, .inl (cI, 5, .inl (fun _ => 0))), (q12, .inl (cI, 60, .inl (fun _ => 0))), (q13, .inl (cI, 60, .inl (fun _ => 0))), (q14, .inl (cI, 60, .inl (fun _ => 0))), (q15, .inl (cZ, 60, .inl (fun _ => 0))), (q16, .inl (cI, 280, .inl (fun _ => 0))), (q17, .inl (cI, 280, .inl (fun _ => 0))), (q18, .inl (cI, 280, .inl (fun _ => 0))), (q19, .inl (cZ, 280, .inl (fun _ => 0))), (q20, .inl (cZ, 280, .inl (fun _ => 0))), (q21, .inl (cI, 60, .inl (fun _ => 0))), (q22, .inl (cI, 60, .inl (fun _ => 0))), (q23, .inl (cI, 60, .inl (fun _ => 0))), (q24, .inl (cI, 60, .inl (fun _ => 0))), (q25, .inl (cI, 60, .inl (fun _ => 0)))] rfl ?_
  refine iw_aload d_MD_init_213 (j := 0) rfl ?_
  refine iw_push (lp := 3) (n := 24000) (Or.inr (Or.inr ⟨24000, d_MD_init_214, rfl, rfl⟩)) ?_
  refine iw_newa' d_MD_init_217 rfl (Or.inl ⟨rfl, rfl⟩) li_int (by decide) rfl (by decide) (by decide) (by decide) (fun q26 => ?_)
  refine iw_putF [.ref q1, .ref q2, .ref q3, .ref q4, .ref q5, .ref q6, .ref q7, .ref q8, .int 0, .ref q9, .ref q10, .ref q11, .ref q12, .ref q13, .ref q14, .ref q15, .ref q16, .ref q17, .ref q18, .ref q19, .ref q20, .int 0, .int (-1), .ref q21, .ref q22, .int 0, .ref q23, .ref q24, .ref q25, .ref q26, .int 0] d_MD_init_219 ff_MD_90 rfl rfl (Nat.le_of_ble_eq_true rfl) rfl ?_
  refine iw_norm [(h0, .inr (8, [.ref q1, .ref q2, .ref q3, .ref q4, .ref q5, .ref q6, .ref q7, .ref q8, .int 0, .ref q9, .ref q10, .ref q11, .ref q12, .ref q13, .ref q14, .ref q15, .ref q16, .ref q17, .ref q18, .ref q19, .ref q20, .int 0, .int (-1), .ref q21, .ref q22, .int 0, .ref q23, .ref q24, .ref q25, .ref q26, .int 0])), (q1, .inl (cI, 60, .inl (fun _ => 0))), (q2, .inl (cI, 60, .inl (fun _ => 0))), (q3, .inl (cI, 60, .inl (fun _ => 0))), (q4, .inl (cI, 60, .inl (fun _ => 0))), (q5, .inl (cI, 60, .inl (fun _ => 0))), (q6, .inl (cI, 60, .inl (fun _ => 0))), (q7, .inl (cI, 60, .inl (fun _ => 0))), (q8, .inl (cI, 60, .inl (fun _ => 0))), (q9, .inl (cI, 20, .inl (fun _ => 0))), (q10, .inl (cI, 20, .inl (fun _ => 0))), (q11, .inl (cI, 5, .inl (fun _ => 0))), (q12, .inl (cI, 60, .inl (fun _ => 0))), (q13, .inl (cI, 60, .inl (fun _ => 0))), (q14, .inl (cI, 60, .inl (fun _ => 0))), (q15, .inl (cZ, 60, .inl (fun _ => 0))), (q16, .inl (cI, 280, .inl (fun _ => 0))), (q17, .inl (cI, 280, .inl (fun _ => 0))), (q18, .inl (cI, 280, .inl (fun _ => 0))), (q19, .inl (cZ, 280, .inl (fun _ => 0))), (q20, .inl (cZ, 280, .inl (fun _ => 0))), (q21, .inl (cI, 60, .inl (fun _ => 0))), (q22, .inl (cI, 60, .inl (fun _ => 0))), (q23, .inl (cI, 60, .inl (fun _ => 0))), (q24, .inl (cI, 60, .inl (fun _ => 0))), (q25, .inl (cI, 60, .inl (fun _ => 0))), (q26, .inl (cI, 24000, .inl (fun _ => 0)))] rfl ?_
  exact iw_ret d_MD_init_222 ⟨q1, q2, q3, q4, q5, q6, q7, q8, q9, q10, q11, q12, q13, q14, q15, q16, q17, q18, q19, q20, q21, q22, q23, q24, q25, q26, rfl⟩
