/-! constructors: a judgement over worlds that grow -/
def y_NO_init : MethodName := ⟨"SignDots$Notes", "<init>", "()V"⟩
def y_BB_init : MethodName := ⟨"SignDots$ByBar", "<init>", "()V"⟩
def y_KR_init : MethodName := ⟨"SignDots$KeyRow", "<init>", "()V"⟩
def y_SE_init : MethodName := ⟨"SignDots$Seats", "<init>", "()V"⟩
def NW (U : State) : Prop := va_Nw (.methodLinkNest "SignDots" 9 y_NO_init "SignDots") U ∧ va_Nw (.methodLinkNest "SignDots" 18 y_BB_init "SignDots") U ∧ va_Nw (.methodLinkNest "SignDots" 59 y_KR_init "SignDots") U ∧ va_Nw (.methodLinkNest "SignDots$Signs" 11 y_SE_init "SignDots") U
theorem NW.same {u U : State} (h : u.vm = U.vm) (hN : NW u) : NW U := ⟨va_Nw.same rfl h hN.1, va_Nw.same rfl h hN.2.1, va_Nw.same rfl h hN.2.2.1, va_Nw.same rfl h hN.2.2.2⟩
theorem NW.warm {s U : State} (hW : s.WarmedH U.vm) (hN : NW s) : NW U := ⟨va_Nw.warmM hW hN.1, va_Nw.warmM hW hN.2.1, va_Nw.warmM hW hN.2.2.1, va_Nw.warmM hW hN.2.2.2⟩
def IC (M : Mt) (D : va_G) (cI cZ : ClassId) (p : Program) (s : State) (m : MethodId) (args : Array Value) (meth : Method) (c : Code) : Prop := p.tables.exec = Jvm.exec ∧ c.code = M.2.1 ∧ meth.sig.returnType = none ∧ c.maxLocals = M.2.2.1 ∧ s.vm.findClass M.1.cls = some m.cls ∧ (∀ w ∈ mwords M, w.before args s = true) ∧ meth.locks = false ∧ meth.name = "<init>" ∧ va_K D classes [(cI, .int), (cZ, .boolean)] s ∧ NW s
def PreI (D : va_G) (cI cZ : ClassId) (sz : Nat) (ws : va_W) (U : State) : Prop := U.heap.size = sz ∧ va_P D classes ws U.heap ∧ va_K D classes [(cI, .int), (cZ, .boolean)] U ∧ va_D (fun _ => True) ws ∧ NW U
def CtI (l : Launch) (D : va_G) (cI cZ : ClassId) (M : Mt) (as : List Value) (ci : Nat) (fs0 : List Value) (rm : Room) (Sh : Nat → va_W → Prop) : Prop := ∀ h0 sz, Met l M.1 (mwords M) rm (va_Pc (.ref h0 :: as) (PreI D cI cZ sz [(h0, .inr (ci, fs0))])) (va_Qv (fun _ : Unit => True) (fun _ t => ∃ w1, Sh h0 w1 ∧ va_P D classes w1 t.heap ∧ va_D (va_A [(h0, .inr (ci, fs0))] sz) w1) (va_A [(h0, .inr (ci, fs0))] sz)) rm.cells rm.slots (va_A [(h0, .inr (ci, fs0))] sz)
def IW (l : Launch) (D : va_G) (cI cZ : ClassId) (M : Mt) (R : Room) (sz : Nat) (A : Nat → Prop) (as : List Value) (Qc : Array Value → State → Outcome → State → Prop) (mc ms pc : Nat) (st : List Value) (ws : va_W) (cells slots : Nat) : Prop :=
  ∀ (p : Program) (e : Env) (s : State) (m : MethodId) (args : Array Value) (below : List Frame) (meth : Method) (c : Code) (H : Heap) (locs : List Loc) (ls : Array Slot), IC M D cI cZ p s m args meth c → s.heap.size = sz → (∀ q, sz ≤ q → A q) → va_P D classes ws H → va_D A ws → va_S A s.heap H locs → lv_has ls M.2.2.1 (lv_args 0 as) → W p l e R s m args below meth c H locs cells slots (MQ below Qc args s mc ms A) (F0 m pc ls st)
def PushD (cc : ByteArray) (pc lp : Nat) (n : Int32) : Prop := (∃ z, decode cc pc = .ok (.iconst z, 1) ∧ Int32.ofInt z = n ∧ lp = 1) ∨ (∃ z, decode cc pc = .ok (.bipush z, 2) ∧ (Int8.ofInt z).toInt32 = n ∧ lp = 2) ∨ (∃ z, decode cc pc = .ok (.sipush z, 3) ∧ (Int16.ofInt z).toInt32 = n ∧ lp = 3)
def fFin (own : String) (idx ci k : Nat) (ty : FieldType) : Prop := ∃ (C : String) (T : u_T) (N : Nat), classes[ci]? = some (C, T, N) ∧ k < N ∧ Cond.fieldLink own idx (T k).1 (T k).2.1 (T k).2.2.1 ∈ gw_tbl ∧ (T k).2.2.2 = true ∧ (T k).1 = own ∧ parseFieldDescriptor (T k).2.2.1 = some ty
section
variable {l : Launch} {D : va_G} {cI cZ : ClassId} {M : Mt} {R : Room} {sz : Nat} {A : Nat → Prop} {as : List Value} {Qc : Array Value → State → Outcome → State → Prop} {mc ms pc : Nat} {st : List Value} {ws : va_W} {cells slots : Nat} {h0 ci : Nat} {fs : List Value} {rest : va_W}
theorem iw_push {lp : Nat} {n : Int32} (hp : PushD M.2.1 pc lp n) (k : IW l D cI cZ M R sz A as Qc mc ms (pc + lp) (.int n :: st) ws cells slots) : IW l D cI cZ M R sz A as Qc mc ms pc st ws cells slots := by
  intro p e s m args below meth c H locs ls C hz hA hP hD hS hl
  have kk := k p e s m args below meth c H locs ls C hz hA hP hD hS hl
  rcases hp with ⟨z, h1, h2, h3⟩ | ⟨z, h1, h2, h3⟩ | ⟨z, h1, h2, h3⟩
  · subst h3; exact lv_iconst C.1 C.2.1 h1 h2 kk
  · subst h3; exact lv_bipush C.1 C.2.1 h1 h2 kk
  · subst h3; exact lv_sipush C.1 C.2.1 h1 h2 kk
theorem iw_aload {k : Fin 4} {x : Nat} (hd : decode M.2.1 pc = .ok (.aload_n k, 1)) {j : Nat} (hx : (lv_args 0 as)[j]? = some ((k : Nat), .ref x)) (kk : IW l D cI cZ M R sz A as Qc mc ms (pc + 1) (.ref x :: st) ws cells slots) : IW l D cI cZ M R sz A as Qc mc ms pc st ws cells slots := by
  intro p e s m args below meth c H locs ls C hz hA hP hD hS hl
  exact lv_aload_n C.1 C.2.1 hd rfl (lv_at hl j hx) (kk p e s m args below meth c H locs ls C hz hA hP hD hS hl)
theorem iw_dup {x : Nat} (hd : decode M.2.1 pc = .ok (.dup, 1)) (kk : IW l D cI cZ M R sz A as Qc mc ms (pc + 1) (.ref x :: .ref x :: st) ws cells slots) : IW l D cI cZ M R sz A as Qc mc ms pc (.ref x :: st) ws cells slots := by
  intro p e s m args below meth c H locs ls C hz hA hP hD hS hl
  exact lv_dup C.1 C.2.1 hd rfl (kk p e s m args below meth c H locs ls C hz hA hP hD hS hl)
theorem iw_obj {idx : Nat} (d1 : decode M.2.1 pc = .ok (.invokespecial idx, 3)) (hl1 : Cond.methodLink M.1.cls idx objectInit ∈ gw_tbl) (hl2 : Cond.instanceMethod objectInit ∈ gw_tbl) (hl3 : Cond.code objectInit ⟨#[0xb1]⟩ 1 none ∈ gw_tbl) (hR : 1 ≤ R.frames) (hR2 : 12 ≤ R.locals) (kk : IW l D cI cZ M R sz A as Qc mc ms (pc + 3) [] ws cells slots) : IW l D cI cZ M R sz A as Qc mc ms pc [.ref h0] ws cells slots := by
  intro p e s m args below meth c H locs ls C hz hA hP hD hS hl
  have hts := C.2.2.2.2.2.1
  refine W.objInit C.1 C.2.1 C.2.2.2.2.1 (hts _ (mw_in hl1)) (hts _ (mw_in hl2)) (hts _ (mw_in hl3)) rfl (by rw [C.2.2.2.1]; exact hl.1) rfl d1 hR ?_ ?_
  · show 2 * 0 + 0 + 12 ≤ R.locals
    omega
  · exact W.eq (g2 := F0 m (pc + 3) ls []) rfl (kk p e s m args below meth c H locs ls C hz hA hP hD hS hl)
theorem iw_newa {at' : ArrayType} {ty : FieldType} {cX : ClassId} {n : Int32} {N : Nat} (hd : decode M.2.1 pc = .ok (.newarray at', 2)) (hty : newarray.typeOf at' = ty) (hX : (cX = cI ∧ ty = .int) ∨ (cX = cZ ∧ ty = .boolean)) (harr : Cond.arrayClass (newarray.typeOf at') ∈ gw_tbl) (hn : ¬ n < 0) (hN : n.toNatClampNeg = N) (hNb : N ≤ 100000) (hc : cells + 1 ≤ R.cells) (hs : slots + N ≤ R.slots)
    (kk : ∀ q, IW l D cI cZ M R sz A as Qc mc ms (pc + 2) (.ref q :: st) (ws ++ [(q, .inl (cX, N, .inl (fun _ => 0)))]) (cells + 1) (slots + N)) : IW l D cI cZ M R sz A as Qc mc ms pc (.int n :: st) ws cells slots := by
  intro p e s m args below meth c H locs ls C hz hA hP hD hS hl
  have hK := C.2.2.2.2.2.2.2.2.1
  have hby : N * componentBytes ty ≤ 536870912 := by
    have : componentBytes ty ≤ 8 := by
      rcases hX with h | h
      · rw [h.2]; decide
      · rw [h.2]; decide
    exact Nat.le_trans (Nat.mul_le_mul hNb this) (by decide)
  refine va_newa (a0 := (N, .inl (fun _ => 0))) C.1 C.2.1 (C.2.2.2.2.2.1 _ (mw_in harr)) hty hK hP hD hS (fun q h => hA q (by rw [← hz]; exact h)) (fun cA => ?_) hn hN hby hc hs hd (fun q cA H1 hK1 hP1 hD1 hS1 => ?_)
  · rcases hX with h | h
    · rw [h.2]; rfl
    · rw [h.2]; rfl
  · have e1 := (hK1.2 2 (cA, ty) rfl).2
    have hcA : cA = cX := by
      rcases hX with ⟨h1, h2⟩ | ⟨h1, h2⟩
      · rw [h1]
        have e2 := (hK.2 0 (cI, .int) rfl).2
        rw [h2] at e1
        have e1 : s.vm.findClass ("[" ++ FieldType.toString .int) = some cA := e1
        have e2 : s.vm.findClass ("[" ++ FieldType.toString .int) = some cI := e2
        exact Option.some.inj (e1.symm.trans e2)
      · rw [h1]
        have e2 := (hK.2 1 (cZ, .boolean) rfl).2
        rw [h2] at e1
        have e1 : s.vm.findClass ("[" ++ FieldType.toString .boolean) = some cA := e1
        have e2 : s.vm.findClass ("[" ++ FieldType.toString .boolean) = some cZ := e2
        exact Option.some.inj (e1.symm.trans e2)
    rw [hcA] at hP1 hD1
    exact kk q p e s m args below meth c H1 locs ls C hz hA hP1 hD1 hS1 hl
theorem iw_putF {idx k : Nat} {ty : FieldType} {v : Value} (fs' : List Value) (hd : decode M.2.1 pc = .ok (.putfield idx, 3)) (hf : fFin M.1.cls idx ci k ty) (hn : narrow ty v = v) (hfit : fits ty v = true) (hlk : k < fs.length) (hfs : fs.set k v = fs')
    (kk : IW l D cI cZ M R sz A as Qc mc ms (pc + 3) st ((h0, .inr (ci, fs')) :: rest) cells slots) : IW l D cI cZ M R sz A as Qc mc ms pc (v :: .ref h0 :: st) ((h0, .inr (ci, fs)) :: rest) cells slots := by
  subst hfs
  intro p e s m args below meth c H locs ls C hz hA hP hD hS hl
  obtain ⟨Cn, T, N, f1, f2, f3, f4, f5, f6⟩ := hf
  obtain ⟨o1, ⟨ty0, o2⟩, o3⟩ := cls_ok ci Cn T N f1
  have hts := C.2.2.2.2.2.1
  exact va_putF C.1 C.2.1 hts (fun w hw => mw_in (o1 w hw)) ty0 o2 o3 C.2.2.2.2.1 C.2.2.2.2.2.2.2.2.1 hP hD hS 0 rfl f1 k f2 (hts _ (mw_in f3)) (fun _ h9 => h9) f4 C.2.2.2.2.2.2.2.1 f5 f6 hn hfit hlk hd (fun H1 locs1 hP1 hD1 hS1 => kk p e s m args below meth c H1 locs1 ls C hz hA hP1 hD1 hS1 hl)
theorem iw_putI {idx k : Nat} {x : Int32} (fs' : List Value) (hd : decode M.2.1 pc = .ok (.putfield idx, 3)) (hf : fLnk M.1.cls idx ci k) (hi : fInt ci k) (hlk : k < fs.length) (hfs : fs.set k (.int x) = fs')
    (kk : IW l D cI cZ M R sz A as Qc mc ms (pc + 3) st ((h0, .inr (ci, fs')) :: rest) cells slots) : IW l D cI cZ M R sz A as Qc mc ms pc (.int x :: .ref h0 :: st) ((h0, .inr (ci, fs)) :: rest) cells slots := by
  subst hfs
  intro p e s m args below meth c H locs ls C hz hA hP hD hS hl
  obtain ⟨Cn, T, N, f1, f2, f3⟩ := hf
  obtain ⟨Cn', T', N', g1, g2, g3⟩ := hi
  cases f1.symm.trans g1
  obtain ⟨o1, ⟨ty0, o2⟩, o3⟩ := cls_ok ci Cn T N f1
  have hts := C.2.2.2.2.2.1
  exact va_put (ty := .int) C.1 C.2.1 hts (fun w hw => mw_in (o1 w hw)) ty0 o2 o3 C.2.2.2.2.1 C.2.2.2.2.2.2.2.2.1 hP hD hS 0 rfl f1 k f2 (hts _ (mw_in f3)) (fun _ h9 => h9) g2 (by rw [g3]; decide +kernel) rfl rfl hlk hd (fun H1 locs1 hP1 hD1 hS1 => kk p e s m args below meth c H1 locs1 ls C hz hA hP1 hD1 hS1 hl)
theorem iw_getf {idx k : Nat} {v : Value} (hd : decode M.2.1 pc = .ok (.getfield idx, 3)) (hf : fLnk M.1.cls idx ci k) (hv : fs[k]? = some v)
    (kk : IW l D cI cZ M R sz A as Qc mc ms (pc + 3) (v :: st) ((h0, .inr (ci, fs)) :: rest) cells slots) : IW l D cI cZ M R sz A as Qc mc ms pc (.ref h0 :: st) ((h0, .inr (ci, fs)) :: rest) cells slots := by
  intro p e s m args below meth c H locs ls C hz hA hP hD hS hl
  obtain ⟨Cn, T, N, f1, f2, f3⟩ := hf
  obtain ⟨o1, -, -⟩ := cls_ok ci Cn T N f1
  have hts := C.2.2.2.2.2.1
  exact va_get C.1 C.2.1 hts (fun w hw => mw_in (o1 w hw)) C.2.2.2.2.1 C.2.2.2.2.2.2.2.2.1 hP 0 rfl f1 k f2 (hts _ (mw_in f3)) (fun _ h9 => h9) hv hd (kk p e s m args below meth c H locs ls C hz hA hP hD hS hl)
theorem iw_new {idx cj N : Nat} {Cn : String} {T : u_T} {ty : Nat → FieldType} {fs0 : List Value} (hd : decode M.2.1 pc = .ok (.new idx, 3)) (hc : classes[cj]? = some (Cn, T, N)) (hty : ∀ k, k < N → parseFieldDescriptor (T k).2.2.1 = some (ty k)) (h1 : Cond.classLink M.1.cls idx Cn ∈ gw_tbl) (h2 : Cond.instantiable Cn N ∈ gw_tbl) (h3 : Cond.initialized Cn ∈ gw_tbl) (hfs : ∀ j, j < N → defaultValue (ty j) = vp_V fs0 j) (hcl : cells + 1 ≤ R.cells) (hsl : slots + N ≤ R.slots)
    (kk : ∀ q, IW l D cI cZ M R sz A as Qc mc ms (pc + 3) (.ref q :: st) (ws ++ [(q, .inr (cj, fs0))]) (cells + 1) (slots + N)) : IW l D cI cZ M R sz A as Qc mc ms pc st ws cells slots := by
  intro p e s m args below meth c H locs ls C hz hA hP hD hS hl
  obtain ⟨o1, -, -⟩ := cls_ok cj Cn T N hc
  have hts := C.2.2.2.2.2.1
  exact va_new C.1 C.2.1 hts (fun w hw => mw_in (o1 w hw)) ty hty C.2.2.2.2.1 (hts _ (mw_in h1)) (hts _ (mw_in h2)) (hts _ (mw_in h3)) C.2.2.2.2.2.2.2.2.1 hP hD hS (fun q h => hA q (by rw [← hz]; exact h)) hc hfs hcl hsl hd (fun q H1 hP1 hD1 hS1 => kk q p e s m args below meth c H1 locs ls C hz hA hP1 hD1 hS1 hl)
theorem preI_blind (av : List Value) (D : va_G) (cI cZ : ClassId) (sz : Nat) (ws : va_W) : FrameBlind (va_Pc av (PreI D cI cZ sz ws)) := by
  intro a U g mk q
  obtain ⟨q0, q1, q2, q3, q4, q5⟩ := q
  exact ⟨q0, q1, q2, va_K.moved (u := U) (U := U.calling g mk a) (Vm.Alike.refl U.vm) q3, q4, NW.same (u := U) (U := U.calling g mk a) rfl q5⟩
/-- what a call of a constructor asks of the tables -/
def cI1 (own : String) (idx : Nat) (M' : Mt) (n : Nat) : Prop := Cond.methodLink own idx M'.1 ∈ gw_tbl ∧ Cond.initialized M'.1.cls ∈ gw_tbl ∧ Cond.code M'.1 M'.2.1 M'.2.2.1 M'.2.2.2 ∈ gw_tbl ∧ (M'.1.cls ≠ "java/lang/invoke/MethodHandle" ∧ M'.1.cls ≠ "java/lang/invoke/VarHandle" ∧ (parseMethodDescriptor M'.1.desc).map (fun d => d.parameters.length) = some n) ∧ Cond.instanceMethod M'.1 ∈ gw_tbl ∧ M'.1.name = "<init>" ∧ M'.2.2.2 = none
def cI2 (own : String) (idx : Nat) (M' : Mt) (n : Nat) : Prop := (∀ U, NW U → va_Nw (.methodLinkNest own idx M'.1 "SignDots") U) ∧ Cond.initialized M'.1.cls ∈ gw_tbl ∧ Cond.code M'.1 M'.2.1 M'.2.2.1 M'.2.2.2 ∈ gw_tbl ∧ (M'.1.cls ≠ "java/lang/invoke/MethodHandle" ∧ M'.1.cls ≠ "java/lang/invoke/VarHandle" ∧ (parseMethodDescriptor M'.1.desc).map (fun d => d.parameters.length) = some n) ∧ Cond.instanceMethod M'.1 ∈ gw_tbl ∧ M'.1.name = "<init>" ∧ M'.2.2.2 = none
theorem iw_init {idx n cj b : Nat} {M' : Mt} {as' fs0 : List Value} {rm : Room} {Sh : Nat → va_W → Prop} (hd : decode M.2.1 pc = .ok (.invokespecial idx, 3)) (hlk : cI1 M.1.cls idx M' n ∨ cI2 M.1.cls idx M' n) (hm : CtI l D cI cZ M' as' cj fs0 rm Sh) (hn : as'.length = n) (hst : (st.map fun v => v.category).sum ≤ 8) (hR : rm.frames + 1 ≤ R.frames ∧ 8 + (M'.2.2.1 + 11) + rm.locals ≤ R.locals) (hcl : cells + rm.cells ≤ R.cells) (hsl : slots + rm.slots ≤ R.slots) (is : List Nat) (his : is.map (fun i => (ws ++ [(b, .inr (cj, fs0))])[i]?) = ws.map some) (hnd : va_nd is = true) (hni : ∀ i ∈ is, i ∉ [ws.length])
    (kk : ∀ w1, Sh b w1 → IW l D cI cZ M R sz A as Qc mc ms (pc + 3) st (ws ++ w1) (cells + rm.cells) (slots + rm.slots)) : IW l D cI cZ M R sz A as Qc mc ms pc (as'.reverse ++ .ref b :: st) (ws ++ [(b, .inr (cj, fs0))]) cells slots := by
  intro p e s m args below meth c H locs ls C hz hA hP hD hS hl
  have hts := C.2.2.2.2.2.1
  have hK := C.2.2.2.2.2.2.2.2.1
  have hC : ([ws.length] : List Nat).map (fun i => (ws ++ [(b, (.inr (cj, fs0) : va_E))])[i]?) = ([(b, (.inr (cj, fs0) : va_E))] : va_W).map some := by simp
  have hPc : va_P D classes [(b, .inr (cj, fs0))] H := hP.sub [ws.length] (by simp)
  have hDc : va_D A [(b, .inr (cj, fs0))] := hD.sub [ws.length] rfl hC
  have hFc := va_free (wc := [(b, .inr (cj, fs0))]) hD hS (fun q h => hA q (by rw [← hz]; exact h)) [ws.length] hC
  have fin : ∀ (u : Unit) (t : State) (H1 : Heap) (locs1 : List Loc), t.heap = H1 → s.vm.Alike t.vm → True → (∃ w1, Sh b w1 ∧ va_P D classes w1 t.heap ∧ va_D (va_A [(b, .inr (cj, fs0))] H.size) w1) → H.size ≤ H1.size → (∀ q : Nat, q < H.size → ¬ va_A [(b, .inr (cj, fs0))] H.size q → H1[q]? = H[q]?) → va_S A s.heap H1 locs1 → W p l e R s m args below meth c H1 locs1 (cells + rm.cells) (slots + rm.slots) (MQ below Qc args s mc ms A) (F0 m (pc + 3) ls st) := by
    intro u t H1 locs1 ht hvm _ hB hz1 hk1 hS1
    obtain ⟨w1, hsh, hP1, hD1⟩ := hB
    rw [ht] at hP1
    obtain ⟨hP2, hD2⟩ := va_join (wr := ws) (w1 := w1) hP hD [ws.length] is hC his hnd hni hk1 hFc hP1 hD1
    exact kk w1 hsh p e s m args below meth c H1 locs1 ls C hz hA hP2 hD2 hS1 hl
  have hpre : PreS s H (va_Pc (.ref b :: as') (PreI D cI cZ H.size [(b, .inr (cj, fs0))])) (.ref b :: as') := ⟨preI_blind _ D cI cZ _ _, fun U hU hW => ⟨rfl, by rw [hU], by rw [hU]; exact hPc, va_K.moved hW.alike hK, hDc.weaken (fun _ _ _ _ => trivial), NW.warm hW C.2.2.2.2.2.2.2.2.2⟩⟩
  rcases hlk with ⟨k1, k2, k3, k4, k5, k6, k7⟩ | ⟨k1, k2, k3, k4, k5, k6, k7⟩
  · have hcb := callB_of (R := R) (rm := rm) (mc := rm.cells) (ms := rm.slots) (own := M.1.cls) (index := idx) (y := M'.1) (bytes := M'.2.1) (maxL := M'.2.2.1) (ret := none) n hts (mw_good (M' := M') k3) (by rw [← k7]; rfl) rfl rfl (hts _ (mw_in k2)) (hts _ (mw_in k1)) k4 hR
    exact va_callv (va_runI (As := as') (rest := st) ⟨C.1, C.2.1, C.2.2.2.1, C.2.2.2.2.1, hts⟩ (hm b H.size) ⟨hcb, k6, hts _ (mw_in k5)⟩ hpre rfl hn hl.1 rfl (lv_room hst) hd ⟨hcl, hsl⟩) hS (fun q _ h => hFc q h) hFc fin
  · have hcb := va_cnB (R := R) (rm := rm) (mc := rm.cells) (ms := rm.slots) (own := M.1.cls) (host := "SignDots") (index := idx) (y := M'.1) (bytes := M'.2.1) (maxL := M'.2.2.1) (ret := none) n hts (mw_good (M' := M') k3) (by rw [← k7]; rfl) rfl rfl (k1 s C.2.2.2.2.2.2.2.2.2) (hts _ (mw_in k2)) k4 hR
    exact va_callv (va_runIN (As := as') (rest := st) ⟨C.1, C.2.1, C.2.2.2.1, C.2.2.2.2.1, hts⟩ (hm b H.size) ⟨hcb, k6, hts _ (mw_in k5)⟩ hpre rfl hn hl.1 rfl (lv_room hst) hd ⟨hcl, hsl⟩) hS (fun q _ h => hFc q h) hFc fin
theorem iw_newa' {x : Nat × va_E} {at' : ArrayType} {ty : FieldType} {cX : ClassId} {n : Int32} {N : Nat} (hd : decode M.2.1 pc = .ok (.newarray at', 2)) (hty : newarray.typeOf at' = ty) (hX : (cX = cI ∧ ty = .int) ∨ (cX = cZ ∧ ty = .boolean)) (harr : Cond.arrayClass (newarray.typeOf at') ∈ gw_tbl) (hn : ¬ n < 0) (hN : n.toNatClampNeg = N) (hNb : N ≤ 100000) (hc : cells + 1 ≤ R.cells) (hs : slots + N ≤ R.slots)
    (kk : ∀ q, IW l D cI cZ M R sz A as Qc mc ms (pc + 2) (.ref q :: st) (x :: (rest ++ [(q, .inl (cX, N, .inl (fun _ => 0)))])) (cells + 1) (slots + N)) : IW l D cI cZ M R sz A as Qc mc ms pc (.int n :: st) (x :: rest) cells slots := iw_newa hd hty hX harr hn hN hNb hc hs kk
theorem iw_new' {x : Nat × va_E} {idx cj N : Nat} {Cn : String} {T : u_T} {ty : Nat → FieldType} {fs0 : List Value} (hd : decode M.2.1 pc = .ok (.new idx, 3)) (hc : classes[cj]? = some (Cn, T, N)) (hty : ∀ k, k < N → parseFieldDescriptor (T k).2.2.1 = some (ty k)) (h1 : Cond.classLink M.1.cls idx Cn ∈ gw_tbl) (h2 : Cond.instantiable Cn N ∈ gw_tbl) (h3 : Cond.initialized Cn ∈ gw_tbl) (hfs : ∀ j, j < N → defaultValue (ty j) = vp_V fs0 j) (hcl : cells + 1 ≤ R.cells) (hsl : slots + N ≤ R.slots)
    (kk : ∀ q, IW l D cI cZ M R sz A as Qc mc ms (pc + 3) (.ref q :: st) (x :: (rest ++ [(q, .inr (cj, fs0))])) (cells + 1) (slots + N)) : IW l D cI cZ M R sz A as Qc mc ms pc st (x :: rest) cells slots := iw_new hd hc hty h1 h2 h3 hfs hcl hsl kk
theorem iw_init' {x : Nat × va_E} {idx n cj b : Nat} {M' : Mt} {as' fs0 : List Value} {rm : Room} {Sh : Nat → va_W → Prop} (hd : decode M.2.1 pc = .ok (.invokespecial idx, 3)) (hlk : cI1 M.1.cls idx M' n ∨ cI2 M.1.cls idx M' n) (hm : CtI l D cI cZ M' as' cj fs0 rm Sh) (hn : as'.length = n) (hst : (st.map fun v => v.category).sum ≤ 8) (hR : rm.frames + 1 ≤ R.frames ∧ 8 + (M'.2.2.1 + 11) + rm.locals ≤ R.locals) (hcl : cells + rm.cells ≤ R.cells) (hsl : slots + rm.slots ≤ R.slots) (len : Nat) (hlen : rest.length + 1 = len) (is : List Nat) (his : is.map (fun i => ((x :: rest) ++ [(b, .inr (cj, fs0))])[i]?) = (x :: rest).map some) (hnd : va_nd is = true) (hni : ∀ i ∈ is, i ∉ [len])
    (kk : ∀ w1, Sh b w1 → IW l D cI cZ M R sz A as Qc mc ms (pc + 3) st (x :: (rest ++ w1)) (cells + rm.cells) (slots + rm.slots)) : IW l D cI cZ M R sz A as Qc mc ms pc (as'.reverse ++ .ref b :: st) (x :: (rest ++ [(b, .inr (cj, fs0))])) cells slots :=
  iw_init (ws := x :: rest) hd hlk hm hn hst hR hcl hsl is his hnd (by rw [List.length_cons, hlen]; exact hni) kk
theorem iw_norm (ws' : va_W) (h : ws = ws') (k : IW l D cI cZ M R sz A as Qc mc ms pc st ws' cells slots) : IW l D cI cZ M R sz A as Qc mc ms pc st ws cells slots := by rw [h]; exact k
theorem iw_ret {Sh : Nat → va_W → Prop} (hd : decode M.2.1 pc = .ok (.return_, 1)) (hsh : Sh h0 ws) : IW l D cI cZ M R sz A as (va_Qv (fun _ : Unit => True) (fun _ t => ∃ w1, Sh h0 w1 ∧ va_P D classes w1 t.heap ∧ va_D A w1) A) mc ms pc [] ws mc ms := by
  intro p e s m args below meth c H locs ls C hz hA hP hD hS hl
  have hlocks := C.2.2.2.2.2.2.1
  exact W.vret C.1 C.2.1 C.2.2.1 (fun t ht hW => ⟨⟨(), rfl, trivial, ws, hsh, by rw [ht]; exact hP, hD⟩, hS.F ht⟩) hS.2.2 hd
theorem cti_of {rm : Room} {Sh : Nat → va_W → Prop} (hy : plainName M.1.cls = true) (hr : M.2.2.2 = none) (hnm : M.1.name = "<init>") (hn : (lg_sl (.ref 0 :: as)).length ≤ M.2.2.1) (hn2 : ∀ h0, (lg_sl (.ref h0 :: as)).length = (lg_sl (.ref 0 :: as)).length)
    (h : ∀ h0 sz, IW l D cI cZ M rm sz (va_A [(h0, .inr (ci, fs))] sz) (.ref h0 :: as) (va_Qv (fun _ : Unit => True) (fun _ t => ∃ w1, Sh h0 w1 ∧ va_P D classes w1 t.heap ∧ va_D (va_A [(h0, .inr (ci, fs))] sz) w1) (va_A [(h0, .inr (ci, fs))] sz)) rm.cells rm.slots 0 [] [(h0, .inr (ci, fs))] 0 0) : CtI l D cI cZ M as ci fs rm Sh := by
  intro h0 sz
  refine Met.ofW (cc := M.2.1) (maxL := M.2.2.1) (ret := none) hy (by unfold mwords; rw [hr]) ?_
  intro p e s m args below meth c s₁ B hml hv
  obtain ⟨rfl, hsz, hP, hK, hD0, hN⟩ := hv
  have hts := atoms_spec (ws := mwords M) B.pre
  have hown : s.vm.findClass M.1.cls = some m.cls := findClass_of_methodNamed B.named
  have hl := lv_entry (.ref h0 :: as) (n := M.2.2.1) (by rw [hn2]; exact hn)
  rw [lg_entry_eq]
  generalize (lg_sl (.ref h0 :: as) ++ List.replicate (M.2.2.1 - (lg_sl (.ref h0 :: as)).length) Slot.unset).toArray = ls at hl ⊢
  exact h h0 sz p e s m _ below meth c s.heap [] ls ⟨B.exec, B.bytes, B.returns, hml, hown, hts, B.notSynchronized, by rw [← hnm]; exact (name_of_methodNamed B.named B.method).1, hK, hN⟩ hsz (fun q h => Or.inr h) hP hD0.self va_S.rf hl
end
