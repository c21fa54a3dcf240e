/-! THE QUIET WORLD: all cells are made; a memory is a function of (cell, place) to ints. A judgement AW over the kit's W that hides the machine's context. -/
abbrev AV : Type := Int32 ⊕ Nat
abbrev Mem : Type := Nat → Nat → Int32
/-- launch, class numbers, addresses of the cells, classes of int and boolean arrays, addresses of the static arrays -/
abbrev Gp : Type := Launch × va_G × (Nat → Nat) × (ClassId × ClassId) × (Nat → Nat)
abbrev gD (G : Gp) : va_G := G.2.1
abbrev gA (G : Gp) : Nat → Nat := G.2.2.1
abbrev gI (G : Gp) : ClassId := G.2.2.2.1.1
abbrev gZ (G : Gp) : ClassId := G.2.2.2.1.2
abbrev gS (G : Gp) : Nat → Nat := G.2.2.2.2
def rf (G : Gp) (k : Nat) : Nat := if k < 1000 then gA G k else gS G (k - 1000)
def cv (G : Gp) : AV → Value
  | .inl x => .int x
  | .inr k => .ref (rf G k)
def fv (G : Gp) (ps : List (Option Nat)) (f : Nat → Int32) (j : Nat) : Value := match ps.getD j none with
  | some t => .ref (gA G t)
  | none => .int (f j)
def cellE (G : Gp) (e : LayE) (f : Nat → Int32) : va_E := match e.1 with
  | some ci => .inr (ci, (List.range e.2.1).map (fv G e.2.2.2 f))
  | none => .inl (if e.2.2.1 then gZ G else gI G, e.2.1, .inl f)
def wsM (G : Gp) (μ : Mem) : va_W := (List.range NC).map (fun k => (gA G k, cellE G (lay.getD k (none, 0, false, [])) (μ k)))
def up (μ : Mem) (c i : Nat) (x : Int32) : Mem := fun c' i' => if c' = c ∧ i' = i then x else μ c' i'
def AA (G : Gp) : Nat → Prop := fun q => ∃ k, k < NC ∧ q = gA G k
def Gok (G : Gp) : Prop := ∀ i j, i < NC → j < NC → gA G i = gA G j → i = j
/-- a link between nest mates: the one static that another class reads -/
def Sx (G : Gp) (U : State) (H : Heap) : Prop := va_Nw nwW U ∧ ∀ (k : Nat) (q : String × String × List Int32), stt[k]? = some q → va_Z q.1 q.2.1 "[I" (.ref (gS G k)) (AA G) U H ∧ va_T .int (gS G k) q.2.2.length (fun j => .int (q.2.2.getD j 0)) (AA G) U H
abbrev tysM (G : Gp) : List (ClassId × FieldType) := [(gI G, .int), (gZ G, .boolean)]
def mwords (M : Mt) : List Cond := .code M.1 M.2.1 M.2.2.1 M.2.2.2 :: gw_tbl
def rmd (d : Nat) : Room := { frames := d, cells := 0, slots := 0, locals := 64 * d }
def PreW (G : Gp) (μ : Mem) (U : State) : Prop := Gok G ∧ va_P (gD G) classes (wsM G μ) U.heap ∧ va_K (gD G) classes (tysM G) U ∧ Sx G U U.heap
def Qof (G : Gp) (ret : Option FieldType) (Q : Int32 → Mem → Prop) : Array Value → State → Outcome → State → Prop := match ret with
  | none => va_Qv (fun u => Q 0 u) (fun u t => va_P (gD G) classes (wsM G u) t.heap) (AA G)
  | some _ => va_Qi Q (fun u t => va_P (gD G) classes (wsM G u) t.heap) (AA G)
/-- the contract: called with these arguments in this memory, the method returns, and Q answer memory -/
def Ct (G : Gp) (d : Nat) (M : Mt) (as : List AV) (μ : Mem) (Q : Int32 → Mem → Prop) : Prop :=
  Met G.1 M.1 (mwords M) (rmd d) (va_Pc (as.map (cv G)) (PreW G μ)) (Qof G M.2.2.2 Q) 0 0 (AA G)
def lvOf (G : Gp) : Nat → List (Option AV) → List (Nat × Value)
  | _, [] => []
  | n, none :: t => lvOf G (n + 1) t
  | n, some v :: t => (n, cv G v) :: lvOf G (n + 1) t
def Cx (G : Gp) (M : Mt) (p : Program) (s : State) (m : MethodId) (args : Array Value) (meth : Method) (c : Code) : Prop :=
  p.tables.exec = Jvm.exec ∧ c.code = M.2.1 ∧ meth.sig.returnType = M.2.2.2 ∧ c.maxLocals = M.2.2.1 ∧ s.vm.findClass M.1.cls = some m.cls ∧ (∀ w ∈ mwords M, w.before args s = true) ∧ meth.locks = false ∧ Gok G ∧ va_K (gD G) classes (tysM G) s ∧ Sx G s s.heap
def AW (G : Gp) (d : Nat) (M : Mt) (Q : Int32 → Mem → Prop) (pc : Nat) (L : List (Option AV)) (st : List AV) (μ : Mem) : Prop :=
  ∀ (p : Program) (e : Env) (s : State) (m : MethodId) (args : Array Value) (below : List Frame) (meth : Method) (c : Code) (H : Heap) (locs : List Loc) (ls : Array Slot),
    Cx G M p s m args meth c → va_P (gD G) classes (wsM G μ) H → va_S (AA G) s.heap H locs → lv_has ls M.2.2.1 (lvOf G 0 L) → L.length = M.2.2.1 →
    W p G.1 e (rmd d) s m args below meth c H locs 0 0 (MQ below (Qof G M.2.2.2 Q) args s 0 0 (AA G)) (F0 m pc ls (st.map (cv G)))
theorem cv_cat (G : Gp) (v : AV) : (cv G v).category = 1 := by cases v <;> rfl
theorem lvOf_mem {G : Gp} : ∀ (L : List (Option AV)) (n : Nat) (q : Nat × Value), q ∈ lvOf G n L ↔ ∃ (j : Nat) (v : AV), L[j]? = some (some v) ∧ q = (n + j, cv G v) := by
  intro L
  induction L with
  | nil => intro n q; simp [lvOf]
  | cons a t ih =>
    intro n q
    cases a with
    | none =>
      simp only [lvOf, ih]
      constructor
      · rintro ⟨j, v, h1, h2⟩
        exact ⟨j + 1, v, by simpa using h1, by rw [h2]; congr 1; omega⟩
      · rintro ⟨j, v, h1, h2⟩
        cases j with
        | zero => simp at h1
        | succ j => exact ⟨j, v, by simpa using h1, by rw [h2]; congr 1; omega⟩
    | some w =>
      simp only [lvOf, List.mem_cons, ih]
      constructor
      · rintro (h | ⟨j, v, h1, h2⟩)
        · exact ⟨0, w, by simp, by rw [h]; rfl⟩
        · exact ⟨j + 1, v, by simpa using h1, by rw [h2]; congr 1; omega⟩
      · rintro ⟨j, v, h1, h2⟩
        cases j with
        | zero => left; simp at h1; rw [h2, h1]; rfl
        | succ j => right; exact ⟨j, v, by simpa using h1, by rw [h2]; congr 1; omega⟩
theorem lv_get {G : Gp} {ls : Array Slot} {nL : Nat} {L : List (Option AV)} (h : lv_has ls nL (lvOf G 0 L)) {i : Nat} {v : AV} (hi : L[i]? = some (some v)) : ls[i]? = some (.val (cv G v)) :=
  h.2.2 (i, cv G v) ((lvOf_mem L 0 _).mpr ⟨i, v, hi, by rw [Nat.zero_add]⟩)
theorem lv_upd {G : Gp} {ls : Array Slot} {nL : Nat} {L : List (Option AV)} {i : Nat} {v : AV} (hi : i < L.length) (h : lv_has ls nL ((i, cv G v) :: (lvOf G 0 L).filter (fun q => !(q.1 == i) && !(q.1 + 1 == i && q.2.category == 2)))) : lv_has ls nL (lvOf G 0 (L.set i (some v))) := by
  refine ⟨h.1, h.2.1, fun q hq => ?_⟩
  obtain ⟨j, w, h1, rfl⟩ := (lvOf_mem _ 0 q).mp hq
  refine h.2.2 _ ?_
  by_cases hj : j = i
  · subst hj
    rw [List.getElem?_set_self hi] at h1
    cases h1
    rw [Nat.zero_add]
    exact List.mem_cons_self
  · rw [List.getElem?_set_ne (Ne.symm hj)] at h1
    refine List.mem_cons_of_mem _ (List.mem_filter.mpr ⟨(lvOf_mem L 0 _).mpr ⟨j, w, h1, rfl⟩, ?_⟩)
    simp [cv_cat, hj]
theorem lv_args_of (G : Gp) : ∀ (as : List AV) (n : Nat), lv_args n (as.map (cv G)) = lvOf G n (as.map some) := by
  intro as
  induction as with
  | nil => intro n; rfl
  | cons a t ih => intro n; simp only [List.map_cons, lv_args, lvOf, cv_cat]; rw [if_neg (by decide), ih]
theorem lg_len (G : Gp) : ∀ as : List AV, (lg_sl (as.map (cv G))).length = as.length := by
  intro as
  induction as with
  | nil => rfl
  | cons a t ih =>
    simp only [lg_sl, List.map_cons, List.flatMap_cons, cv_cat] at ih ⊢
    rw [if_neg (by decide), List.length_append, ih]
    simp [Nat.add_comm]
theorem lvOf_none (G : Gp) : ∀ (k n : Nat), lvOf G n (List.replicate k none) = [] := by
  intro k
  induction k with
  | zero => intro n; rfl
  | succ k ih => intro n; rw [List.replicate_succ]; exact ih _
theorem lvOf_app (G : Gp) : ∀ (as : List (Option AV)) (n k : Nat), lvOf G n (as ++ List.replicate k none) = lvOf G n as := by
  intro as
  induction as with
  | nil => intro n k; exact lvOf_none G k n
  | cons a t ih =>
    intro n k
    cases a with
    | none => exact ih _ _
    | some v => simp only [List.cons_append, lvOf, ih]
theorem ws_at (G : Gp) (μ : Mem) {k : Nat} {e : LayE} (h : lay[k]? = some e) : k < NC ∧ (wsM G μ)[k]? = some (gA G k, cellE G e (μ k)) := by
  have hk : k < NC := by rw [← lay_len]; exact (List.getElem?_eq_some_iff.mp h).1
  refine ⟨hk, ?_⟩
  unfold wsM
  rw [List.getElem?_map, List.getElem?_range hk, Option.map_some, List.getD_eq_getElem?_getD, h]
  rfl
theorem ws_D {G : Gp} (hG : Gok G) (μ : Mem) : va_D (AA G) (wsM G μ) := by
  have key : ∀ (k : Nat) (q : Nat × va_E), (wsM G μ)[k]? = some q → k < NC ∧ q.1 = gA G k := by
    intro k q h
    unfold wsM at h
    rw [List.getElem?_map] at h
    by_cases hk : k < NC
    · rw [List.getElem?_range hk] at h
      refine ⟨hk, ?_⟩
      rw [← Option.some.inj h]
    · rw [List.getElem?_eq_none (by simpa using Nat.le_of_not_lt hk)] at h
      cases h
  refine ⟨fun i j p q hi hj he => ?_, fun k q h => ?_⟩
  · obtain ⟨h1, h2⟩ := key i p hi
    obtain ⟨h3, h4⟩ := key j q hj
    exact hG i j h1 h3 (by rw [← h2, ← h4]; exact he)
  · exact ⟨k, (key k q h).1, (key k q h).2⟩
theorem ws_set (G : Gp) (μ μ' : Mem) {k : Nat} {e : LayE} (h : lay[k]? = some e) {x : va_E} (hx : cellE G e (μ' k) = x) (ho : ∀ j, j ≠ k → μ' j = μ j) : (wsM G μ).set k (gA G k, x) = wsM G μ' := by
  have hk : k < NC := by rw [← lay_len]; exact (List.getElem?_eq_some_iff.mp h).1
  apply List.ext_getElem?
  intro j
  unfold wsM
  by_cases hj : j = k
  · subst hj
    rw [List.getElem?_set_self (by simpa using hk), List.getElem?_map, List.getElem?_range hk, Option.map_some, List.getD_eq_getElem?_getD, h, ← hx]
    rfl
  · rw [List.getElem?_set_ne (Ne.symm hj), List.getElem?_map, List.getElem?_map]
    by_cases hn : j < NC
    · rw [List.getElem?_range hn]; simp only [Option.map_some]; rw [ho j hj]
    · rw [List.getElem?_eq_none (by simpa using Nat.le_of_not_lt hn)]; rfl
theorem up_ne (μ : Mem) {c c' : Nat} (i : Nat) (x : Int32) (h : c' ≠ c) : up μ c i x c' = μ c' := by
  funext j; simp [up, h]
theorem up_self (μ : Mem) (c i : Nat) (x : Int32) : up μ c i x c = upd (μ c) i x := by
  funext j; simp [up, upd]
theorem fv_set (G : Gp) (ps : List (Option Nat)) (f : Nat → Int32) (n j : Nat) (x : Int32) (hp : ps.getD j none = none) : ((List.range n).map (fv G ps f)).set j (.int x) = (List.range n).map (fv G ps (upd f j x)) := by
  apply List.ext_getElem?
  intro i
  rw [List.getElem?_map]
  by_cases hi : i = j
  · subst hi
    by_cases hn : i < n
    · rw [List.getElem?_set_self (by simpa using hn), List.getElem?_range hn]
      rw [Option.map_some]; unfold fv; rw [hp]; simp [upd]
    · rw [List.getElem?_eq_none (by simpa using Nat.le_of_not_lt hn), List.getElem?_eq_none (by simpa using Nat.le_of_not_lt hn)]; rfl
  · rw [List.getElem?_set_ne (Ne.symm hi), List.getElem?_map]
    by_cases hn : i < n
    · rw [List.getElem?_range hn]
      simp [fv, upd, hi]
    · rw [List.getElem?_eq_none (by simpa using Nat.le_of_not_lt hn)]; rfl
theorem mw_code (M : Mt) : Cond.code M.1 M.2.1 M.2.2.1 M.2.2.2 ∈ mwords M := List.mem_cons_self
theorem mw_in {M : Mt} {w : Cond} (h : w ∈ gw_tbl) : w ∈ mwords M := List.mem_cons_of_mem _ h
theorem mw_good {M M' : Mt} (h : Cond.code M'.1 M'.2.1 M'.2.2.1 M'.2.2.2 ∈ gw_tbl) : GoodIn (mwords M) (mwords M') := by
  intro w hw
  have hw2 : w ∈ gw_tbl := by
    rcases List.mem_cons.mp hw with h1 | h1
    · rw [h1]; exact h
    · exact h1
  exact ⟨mw_in hw2, good_of_word (List.mem_filter.mp hw2).2⟩
/-- a contract out of a walk from the entry -/
theorem ct_of {G : Gp} {d : Nat} {M : Mt} {as : List AV} {μ : Mem} {Q : Int32 → Mem → Prop} (hy : plainName M.1.cls = true) (hn : as.length ≤ M.2.2.1)
    (h : AW G d M Q 0 (as.map some ++ List.replicate (M.2.2.1 - as.length) none) [] μ) : Ct G d M as μ Q := by
  refine Met.ofW (cc := M.2.1) (maxL := M.2.2.1) (ret := M.2.2.2) hy rfl ?_
  intro p e s m args below meth c s₁ B hml hv
  obtain ⟨rfl, hG, hP, hK, hS⟩ := hv
  have hts := atoms_spec (ws := mwords M) B.pre
  have hown : s.vm.findClass M.1.cls = some m.cls := findClass_of_methodNamed B.named
  have hl := lv_entry (as.map (cv G)) (n := M.2.2.1) (by rw [lg_len]; exact hn)
  rw [lg_entry_eq]
  generalize (lg_sl (as.map (cv G)) ++ List.replicate (M.2.2.1 - (lg_sl (as.map (cv G))).length) Slot.unset).toArray = ls at hl ⊢
  rw [lv_args_of] at hl
  refine h p e s m _ below meth c s.heap [] ls ⟨B.exec, B.bytes, B.returns, hml, hown, hts, B.notSynchronized, hG, hK, hS⟩ hP va_S.rf (by rw [lvOf_app]; exact hl) (by simp; omega)
theorem Ct.mono {G : Gp} {d : Nat} {M : Mt} {as : List AV} {μ : Mem} {Q Q' : Int32 → Mem → Prop} (h : Ct G d M as μ Q) (hq : ∀ r u, Q r u → Q' r u) : Ct G d M as μ Q' := by
  have hQ : ∀ a st o t, Qof G M.2.2.2 Q a st o t → Qof G M.2.2.2 Q' a st o t := by
    intro a st o t hh
    unfold Qof at hh ⊢
    cases hr : M.2.2.2 with
    | none => rw [hr] at hh; obtain ⟨⟨u, h1, h2, h3⟩, h4⟩ := hh; exact ⟨⟨u, h1, hq _ _ h2, h3⟩, h4⟩
    | some _ => rw [hr] at hh; obtain ⟨⟨r, u, h1, h2, h3⟩, h4⟩ := hh; exact ⟨⟨r, u, h1, hq _ _ h2, h3⟩, h4⟩
  intro p e ha hc hk s m args below hf happ hP hKK
  obtain ⟨n, o, h1, h2, h3, h4, h5⟩ := h p e ha hc hk s m args below hf happ hP hKK
  exact ⟨n, o, h1, h2, h3, hQ _ _ _ _ h4, h5⟩
