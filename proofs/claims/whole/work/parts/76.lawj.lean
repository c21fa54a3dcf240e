/-! the law: a judgement of its loop's body -/
def LJ (G : Gp) (b L : Nat) (xs : Nat → Int32) (pc : Nat) (st : List Value) (i : Nat) (μ : Mem) : Prop :=
  ∀ (p : Program) (e : Env) (s : State) (m : MethodId) (below : List Frame) (meth : Method) (c : Code) (H : Heap) (locs : List Loc) (ls : Array Slot), lw_At p s m meth c b L xs → Gok G → va_K (gD G) classes (tysM G) s → Sx G s s.heap → (∀ k, k < NC → s.heap.size ≤ gA G k) → va_P (gD G) classes (wsM G μ) H → va_S (fun q : Nat => s.heap.size ≤ q) s.heap H locs → lv_has ls 4 [(0, .ref b), (1, .ref (gA G 0)), (2, .ref (gA G 42)), (3, .int (nI i))] → W p G.1 e room_1 s m #[Value.ref b] below meth c H locs 600000 7302250 (lw_Z below #[Value.ref b] s) (F0 m pc ls st)
theorem gw_lw {w : Cond} (h : w ∈ gw_tbl) : w ∈ lw_tbl := (List.mem_filter.mp h).1
theorem lw_good {M' : Mt} (h : Cond.code M'.1 M'.2.1 M'.2.2.1 M'.2.2.2 ∈ gw_tbl) : GoodIn lw_tbl (mwords M') := by
  intro w hw
  have hw2 : w ∈ gw_tbl := by
    rcases List.mem_cons.mp hw with h1 | h1
    · rw [h1]; exact h
    · exact h1
  exact ⟨gw_lw hw2, good_of_word (List.mem_filter.mp hw2).2⟩
section
variable {G : Gp} {b L i : Nat} {xs : Nat → Int32} {pc : Nat} {st : List Value} {μ : Mem}
theorem lj_self1 (hd : decode code pc = .ok (.aload_n 1, 1)) (kk : LJ G b L xs (pc + 1) (.ref (gA G 0) :: st) i μ) : LJ G b L xs pc st i μ := by
  intro p e s m below meth c H locs ls C hG hK hSx hge hP hS hl
  exact lv_aload_n C.1 C.2.1 hd rfl (lv_at hl 1 rfl) (kk p e s m below meth c H locs ls C hG hK hSx hge hP hS hl)
theorem lj_self2 (hd : decode code pc = .ok (.aload_n 2, 1)) (kk : LJ G b L xs (pc + 1) (.ref (gA G 42) :: st) i μ) : LJ G b L xs pc st i μ := by
  intro p e s m below meth c H locs ls C hG hK hSx hge hP hS hl
  exact lv_aload_n C.1 C.2.1 hd rfl (lv_at hl 2 rfl) (kk p e s m below meth c H locs ls C hG hK hSx hge hP hS hl)
theorem lj_arg {k : Nat} {z : Int} (d0 : decode code pc = .ok (.aload_n 0, 1)) (d1 : decode code (pc + 1) = .ok (.iload_n 3, 1)) (d2 : decode code (pc + 1 + 1) = .ok (.iconst z, 1)) (d3 : decode code (pc + 1 + 1 + 1) = .ok (.iadd, 1)) (d4 : decode code (pc + 1 + 1 + 1 + 1) = .ok (.iaload, 1)) (hz : Int32.ofInt z = nI k) (hk : k < 6) (hi : i + 6 ≤ L) (hL : L ≤ 3072) (kk : LJ G b L xs (pc + 5) (.int (xs (i + k)) :: st) i μ) : LJ G b L xs pc st i μ := by
  intro p e s m below meth c H locs ls C hG hK hSx hge hP hS hl
  have k2 := kk p e s m below meth c H locs ls C hG hK hSx hge hP hS hl
  obtain ⟨hx, hb, hr, hml, hown, hts, hX, hbl, hlocks, hgv⟩ := C
  refine lv_aload_n hx hb d0 rfl (lv_at hl 0 rfl) ?_
  refine lv_iload_n hx hb d1 rfl (lv_at hl 3 rfl) ?_
  refine lv_iconst hx hb d2 hz ?_
  refine lv_iadd hx hb d3 ?_
  rw [nI_add]
  refine va_sld hx hb hX hbl (Nat.not_le.mpr hbl) hS (n_in (show i + k < L by omega) (by omega)) d4 ?_
  rw [show (nI (i + k)).toNatClampNeg = i + k from n_ix (by omega)]
  exact k2
theorem lj_eq {off : Int} {r r2 : Int32} (hd : decode code pc = .ok (.if_icmp .eq off, 3)) (ht : (pc : Int) + off = ((519 : Nat) : Int)) (he : r = r2) (kk : LJ G b L xs 519 [] i μ) : LJ G b L xs pc [.int r2, .int r] i μ := by
  intro p e s m below meth c H locs ls C hG hK hSx hge hP hS hl
  exact lv_icmp_eq C.1 C.2.1 hd ht (fun _ => kk p e s m below meth c H locs ls C hG hK hSx hge hP hS hl) (fun h => absurd he h)
theorem lj_call {k ci nf n idx : Nat} {bb : Bool} {ps : List (Option Nat)} {as : List AV} {ty : FieldType} {M' : Mt} (hd : decode code pc = .ok (.invokevirtual idx, 3)) (hlk : cV "SignDotsLaw" idx M' n) (hk : lay[k]? = some (some ci, nf, bb, ps)) (hc : (classes.getD ci ("", fun _ => ("", "", "", false), 0)).1 = M'.1.cls) (hci : ci < classes.length) (hn : as.length = n) (hst : (st.map fun v => v.category).sum ≤ 8) (hr : M'.2.2.2 = some ty)
    (hm : Ct G 13 M' (.inr k :: as) μ (fun r u => LJ G b L xs (pc + 3) (.int r :: st) i u)) : LJ G b L xs pc ((as.map (cv G)).reverse ++ .ref (gA G k) :: st) i μ := by
  intro p e s m below meth c H locs ls C hG hK hSx hge hP hS hl
  obtain ⟨hx, hb, hret, hml, hown, hts, hX, hbl, hlocks, hgv⟩ := id C
  have hm' : Met G.1 M'.1 (mwords M') (rmd 13) (va_Pc ((.inr k :: as).map (cv G)) (PreW G μ)) (va_Qi (fun r u => LJ G b L xs (pc + 3) (.int r :: st) i u) (fun u t => va_P (gD G) classes (wsM G u) t.heap) (AA G)) 0 0 (AA G) := by
    have h2 := hm
    unfold Ct at h2
    rw [hr] at h2
    exact h2
  have hcl : classes[ci]? = some (classes.getD ci ("", fun _ => ("", "", "", false), 0)) := by
    rw [List.getD_eq_getElem?_getD, List.getElem?_eq_getElem hci]; rfl
  have hrec := va_recv hK hP hcl (q0 := k) (a := gA G k) (fs := (List.range nf).map (fv G ps (μ k))) (ws_at G μ hk).2
  rw [hc] at hrec
  have hAA : ∀ q, AA G q → s.heap.size ≤ q := fun q h => by obtain ⟨j, hj, rfl⟩ := h; exact hge j hj
  have hcb := callB_of (R := room_1) (rm := rmd 13) (mc := 0) (ms := 0) (own := R_law) (index := idx) (y := M'.1) (bytes := M'.2.1) (maxL := M'.2.2.1) (ret := M'.2.2.2) n hts (lw_good hlk.1.2.2.1) rfl rfl rfl (hts _ (gw_lw hlk.1.2.1)) (hts _ (gw_lw hlk.1.1)) hlk.1.2.2.2.1 ⟨by decide, by
    have := hlk.1.2.2.2.2
    show 8 + (M'.2.2.1 + 11) + 64 * 13 ≤ 84000
    omega⟩
  refine va_calli (va_runV (As := as.map (cv G)) (rest := st) (C := M'.1.cls) (b := gA G k) ⟨hx, hb, hml, hown, hts⟩ hm' ⟨hcb, hts _ (gw_lw hlk.2.1), hts _ (gw_lw hlk.2.2)⟩ ⟨pre_blind G _ μ, hrec, fun U hU hW => ⟨?_, ?_⟩⟩ rfl (by rw [List.length_map]; exact hn) hl.1 rfl (lv_room hst) hd ⟨Nat.le_refl _, Nat.le_refl _⟩) hS (fun q _ h => hAA q h) hAA (fun r u t H1 locs1 ht hvm hw hB hz1 hk1 hS1 => ?_)
  · rw [List.map_cons]
    show (Value.ref (gA G k) :: _).toArray = (Value.ref (rf G k) :: _).toArray
    rw [rf_lt hk]
  · refine ⟨hG, by rw [hU]; exact hP, va_K.moved hW.alike hK, va_Nw.warmF hW hSx.1, fun k' x hx' => ?_⟩
    obtain ⟨h1, h2⟩ := hSx.2 k' x hx'
    exact ⟨(h1.moved hW.alike).kept (fun a ha _ => by rw [hU]; exact hS.2.1 a ha (Nat.not_le.mpr ha)), (h2.moved hW.alike).kept (fun a ha _ => by rw [hU]; exact hS.2.1 a ha (Nat.not_le.mpr ha))⟩
  · rw [ht] at hB
    exact hw p e s m below meth c H1 locs1 ls C hG hK hSx hge hB hS1 hl
end
