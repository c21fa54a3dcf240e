/-! both sides, call by call -/
def JJ (μ : Mem) : Prop := ∃ S o K KT, CI S o K KT μ ∧ RI S o K KT μ
section
variable {G : Gp} {S : Sc} {o : Nat → Nat} {K KT : Nat → Int32} {μ u : Mem} {P : Mem → Prop}
theorem RI.fr (h : RI S o K KT μ) (hf : FrC μ u) : RI S o K KT u := by
  obtain ⟨hR, hK, hO, hW⟩ := h
  refine ⟨hR.congr (by rw [hf 42 (by omega)]) (fun c _ _ => hf c (by omega)), hK.congr (fun c _ _ => hf c (by omega)), hO, fun h21 => ?_⟩
  rw [hf 42 (by omega)] at h21
  obtain ⟨w1, w2⟩ := hW h21
  refine ⟨w1.congr (fun c _ _ => hf c (by omega)), ?_⟩
  unfold PlI
  rw [hf 42 (by omega), hf 64 (by omega), hf 66 (by omega)]
  exact w2
theorem CI.fr (h : CI S o K KT μ) (hf : FrR μ u) : CI S o K KT u := by
  obtain ⟨h1, h2, h3, h4, h5, h6⟩ := h
  refine ⟨h1.congr (fun c _ _ => hf c (by omega)), ?_, ?_, ?_, ?_, ?_⟩
  · rw [hf 10 (by omega), hf 11 (by omega), hf 13 (by omega), hf 14 (by omega)]; exact h2
  · rw [hf 15 (by omega)]; exact h3
  · rw [hf 16 (by omega)]
    intro h
    obtain ⟨⟨a1, a2⟩, a3⟩ := h4 h
    refine ⟨⟨?_, ?_⟩, ?_⟩
    · rw [hf 23 (by omega)]; exact a1
    · rw [hf 24 (by omega)]; exact a2
    · rw [hf 25 (by omega), hf 26 (by omega)]; exact a3
  · unfold ColI
    rw [hf 27 (by omega), hf 29 (by omega), hf 30 (by omega)]
    exact h5
  · unfold DotI
    rw [hf 33 (by omega), hf 35 (by omega), hf 36 (by omega)]
    exact h6
theorem RI.new (hR : RN S u) (hK : RK S K KT u) (hO : Ord S o) (h : u 42 21 = 0) : RI S o K KT u := ⟨hR, hK, hO, fun h2 => absurd h h2⟩
/-- the shape of a step: the class answers, then the reference, alike -/
def StpJ (G : Gp) (M1 M2 : Mt) (as : List AV) (μ : Mem) (P : Mem → Prop) : Prop := Ct G 13 M1 (.inr 0 :: as) μ (fun r u => Ct G 13 M2 (.inr 42 :: as) u (fun r2 v => r = r2 ∧ P v))
theorem st_note {x0 x1 x2 x3 x4 : Int32} (hJ : JJ μ) (hP : ∀ v, JJ v → P v) : StpJ G M_SD_note M_MD_note [.inl x0, .inl x1, .inl x2, .inl x3, .inl x4] μ P := by
  obtain ⟨S, o, K, KT, hC, hR⟩ := hJ
  refine sd_note (d := 0) hC (fun h => ?_) (fun h h60 => ?_) (fun h h60 u o' hC' hf => ?_)
  · exact md_note (d := 12) hR.1 hR.2.1 (fun _ => ⟨rfl, hP _ ⟨S, o, K, KT, hC, hR⟩⟩) (fun h2 => absurd h2 h) (fun h2 => absurd h2 h)
  · exact md_note (d := 12) hR.1 hR.2.1 (fun h2 => absurd h h2) (fun _ _ => ⟨rfl, hP _ ⟨S, o, K, KT, hC, hR⟩⟩) (fun _ h2 => absurd h60 (by omega))
  · have hR' := hR.fr hf
    exact md_note (d := 12) hR'.1 hR'.2.1 (fun h2 => absurd h h2) (fun _ h2 => absurd h60 (by omega)) (fun _ _ v a1 a2 a3 a4 => ⟨rfl, hP v ⟨_, o', K, KT, hC'.fr a4, RI.new (a1 hC'.1.1) a2 hC'.1.2.1 a3⟩⟩)
theorem st_mark {x y v : Int32} (hJ : JJ μ) (hP : ∀ v, JJ v → P v) : StpJ G M_SD_mark M_MD_mark [.inl x, .inl y, .inl v] μ P := by
  obtain ⟨S, o, K, KT, hC, hR⟩ := hJ
  refine sd_mark (d := 0) hC (fun h1 => ?_) (fun h1 h2 => ?_) (fun h1 h2 h3 => ?_) (fun h1 h2 h3 u hC' hf => ?_)
  · exact md_mark (d := 10) hR.1 hR.2.1 (fun _ => ⟨rfl, hP _ ⟨S, o, K, KT, hC, hR⟩⟩) (fun h => absurd h h1) (fun h => absurd h h1) (fun h => absurd h h1)
  · exact md_mark (d := 10) hR.1 hR.2.1 (fun h => absurd h1 h) (fun _ _ => ⟨rfl, hP _ ⟨S, o, K, KT, hC, hR⟩⟩) (fun _ h => absurd h h2) (fun _ h => absurd h h2)
  · have fr : FrR μ (up μ 42 21 0) := fun c hc => by funext j; rw [up_at, if_neg (by omega)]
    exact md_mark (d := 10) hR.1 hR.2.1 (fun h => absurd h1 h) (fun _ h => absurd h2 h) (fun _ _ _ => ⟨rfl, hP _ ⟨S, o, K, KT, hC.fr fr, RI.new (hR.1.congr (by rw [up_at, if_neg (by omega)]) (fun c _ _ => by funext j; rw [up_at, if_neg (by omega)])) (hR.2.1.congr (fun c _ _ => by funext j; rw [up_at, if_neg (by omega)])) hR.2.2.1 (by rw [up_at, if_pos ⟨rfl, rfl⟩])⟩⟩) (fun _ _ h => absurd h3 h)
  · have hR' := hR.fr hf
    exact md_mark (d := 10) hR'.1 hR'.2.1 (fun h => absurd h1 h) (fun _ h => absurd h2 h) (fun _ _ h => absurd h h3) (fun _ _ _ w a1 a2 a3 a4 => ⟨rfl, hP w ⟨_, o, K, KT, hC'.fr a4, RI.new (a1 hC'.1.1) a2 hC'.1.2.1 a3⟩⟩)
theorem st_key {x y : Int32} (hJ : JJ μ) (hP : ∀ v, JJ v → P v) : StpJ G M_SD_key M_MD_key [.inl x, .inl y] μ P := by
  obtain ⟨S, o, K, KT, hC, hR⟩ := hJ
  refine sd_key (d := 0) hC (fun h1 => ?_) (fun h1 h2 u hC' hf => ?_)
  · exact md_key (d := 12) hR.1 hR.2.1 (fun _ => ⟨rfl, hP _ ⟨S, o, K, KT, hC, hR⟩⟩) (fun h h' => absurd ⟨h, h'⟩ h1)
  · have hR' := hR.fr hf
    exact md_key (d := 12) hR'.1 hR'.2.1 (fun h => absurd ⟨h1, h2⟩ h) (fun _ _ w a1 a2 a3 a4 => ⟨rfl, hP w ⟨_, o, K, KT, hC'.fr a4, RI.new a1 a2 hC'.1.2.1 a3⟩⟩)
theorem st_clef {x y : Int32} (hJ : JJ μ) (hP : ∀ v, JJ v → P v) : StpJ G M_SD_clef M_MD_clef [.inl x, .inl y] μ P := by
  obtain ⟨S, o, K, KT, hC, hR⟩ := hJ
  refine sd_clef (d := 0) hC (fun h1 => ?_) (fun h1 h2 u hC' hf => ?_)
  · exact md_clef (d := 12) hR.1 hR.2.1 (fun _ => ⟨rfl, hP _ ⟨S, o, K, KT, hC, hR⟩⟩) (fun h h' => absurd ⟨h, h'⟩ h1)
  · have hR' := hR.fr hf
    exact md_clef (d := 12) hR'.1 hR'.2.1 (fun h => absurd ⟨h1, h2⟩ h) (fun _ _ w a1 a2 a3 a4 => ⟨rfl, hP w ⟨_, o, _, _, hC'.fr a4, RI.new a1 a2 hC'.1.2.1 a3⟩⟩)
theorem st_rule {x y : Int32} (hJ : JJ μ) (hP : ∀ v, JJ v → P v) : StpJ G M_SD_rule M_MD_rule [.inl x, .inl y] μ P := by
  obtain ⟨S, o, K, KT, hC, hR⟩ := hJ
  refine sd_rule (d := 0) hC (fun h1 => ?_) (fun h1 h2 u hC' hf => ?_)
  · exact md_rule (d := 12) hR.1 hR.2.1 (fun _ => ⟨rfl, hP _ ⟨S, o, K, KT, hC, hR⟩⟩) (fun h h' => absurd ⟨h, h'⟩ h1)
  · have hR' := hR.fr hf
    exact md_rule (d := 12) hR'.1 hR'.2.1 (fun h => absurd ⟨h1, h2⟩ h) (fun _ _ w a1 a2 a3 a4 => ⟨rfl, hP w ⟨_, o, K, KT, hC'.fr a4, RI.new (a1 hC'.1.1) a2 hC'.1.2.1 a3⟩⟩)
theorem st_drop (hJ : JJ μ) (hP : ∀ v, JJ v → P v) : StpJ G M_SD_drop M_MD_drop [] μ P := by
  obtain ⟨S, o, K, KT, hC, hR⟩ := hJ
  refine sd_drop (d := 0) hC (fun h1 => ?_) (fun n h1 u o' hC' hf => ?_)
  · exact md_drop (d := 13) hR.1 hR.2.1 (fun _ => ⟨rfl, hP _ ⟨S, o, K, KT, hC, hR⟩⟩) (fun n h => absurd h1 (by omega))
  · have hR' := hR.fr hf
    refine md_drop (d := 13) hR'.1 hR'.2.1 (fun h => absurd h1 (by omega)) (fun n' h2 w a1 a2 a3 a4 => ?_)
    have hn : n = n' := by omega
    subst hn
    exact ⟨rfl, hP w ⟨_, o', K, KT, hC'.fr a4, RI.new (a1 hC'.1.1) a2 hC'.1.2.1 a3⟩⟩
theorem st_count {x : Int32} (hJ : JJ μ) (hP : ∀ v, JJ v → P v) : StpJ G M_SD_count M_MD_count [.inl x] μ P := by
  obtain ⟨S, o, K, KT, hC, hR⟩ := hJ
  exact sd_count (d := 0) hC (fun r u h1 hC' hf => md_count (d := 7) (hR.fr hf) (fun r2 v h2 hR' hf2 => ⟨aCount_u h1 h2, hP v ⟨S, o, K, KT, hC'.fr hf2, hR'⟩⟩))
theorem st_ordered {x : Int32} (hJ : JJ μ) (hP : ∀ v, JJ v → P v) : StpJ G M_SD_ordered M_MD_ordered [.inl x] μ P := by
  obtain ⟨S, o, K, KT, hC, hR⟩ := hJ
  exact sd_ordered (d := 0) hC (fun r u h1 hC' hf => md_ordered (d := 7) (hR.fr hf) (fun r2 v h2 hR' hf2 => ⟨aOrd_u h1 h2, hP v ⟨S, o, K, KT, hC'.fr hf2, hR'⟩⟩))
theorem st_sign {x y : Int32} (hJ : JJ μ) (hP : ∀ v, JJ v → P v) : StpJ G M_SD_sign M_MD_sign [.inl x, .inl y] μ P := by
  obtain ⟨S, o, K, KT, hC, hR⟩ := hJ
  exact sd_sign (d := 0) hC (fun r u h1 hC' hf => md_sign (d := 6) (hR.fr hf) (fun r2 v h2 hR' hf2 => ⟨aSign_u hC.1.2.1 h1 h2, hP v ⟨S, o, K, KT, hC'.fr hf2, hR'⟩⟩))
theorem st_extent {x y : Int32} (hJ : JJ μ) (hP : ∀ v, JJ v → P v) : StpJ G M_SD_extent M_MD_extent [.inl x, .inl y] μ P := by
  obtain ⟨S, o, K, KT, hC, hR⟩ := hJ
  exact sd_extent (d := 0) hC (fun r u h1 hC' hf => md_extent (d := 7) (hR.fr hf) (fun r2 v h2 hR' hf2 => ⟨aExt_u hC.1.2.1 h1 h2, hP v ⟨S, o, K, KT, hC'.fr hf2, hR'⟩⟩))
theorem st_dot {x : Int32} (hJ : JJ μ) (hP : ∀ v, JJ v → P v) : StpJ G M_SD_dot M_MD_dot [.inl x] μ P := by
  obtain ⟨S, o, K, KT, hC, hR⟩ := hJ
  exact sd_dot (d := 0) hC (fun r u h1 hC' hf => md_dot (d := 11) (hR.fr hf) (fun r2 v h2 hR' hf2 => ⟨aDot_u hC.1.1 hC.1.2.1 (fun b hb => (hC.2.1 b hb).2.2.2.2) h1 h2, hP v ⟨S, o, K, KT, hC'.fr hf2, hR'⟩⟩))
theorem st_keySigns {x : Int32} (hJ : JJ μ) (hP : ∀ v, JJ v → P v) : StpJ G M_SD_keySigns M_MD_keySigns [.inl x] μ P := by
  obtain ⟨S, o, K, KT, hC, hR⟩ := hJ
  exact sd_keySigns (d := 0) hC (fun r u h1 hC' hf => md_keySigns (d := 10) (hR.fr hf).1 (hR.fr hf).2.1 (fun r2 v h2 hf2 => ⟨aKs_u h1 h2, hP v ⟨S, o, K, KT, hC'.fr hf2.R, (hR.fr hf).frk hf2⟩⟩))
theorem st_keySign {x i y : Int32} (hJ : JJ μ) (hP : ∀ v, JJ v → P v) : StpJ G M_SD_keySign M_MD_keySign [.inl x, .inl i, .inl y] μ P := by
  obtain ⟨S, o, K, KT, hC, hR⟩ := hJ
  exact sd_keySign (d := 0) hC (fun r u h1 hC' hf => md_keySign (d := 9) (hR.fr hf).1 (hR.fr hf).2.1 (fun r2 v h2 hf2 => ⟨aKey_u h1 h2, hP v ⟨S, o, K, KT, hC'.fr hf2.R, (hR.fr hf).frk hf2⟩⟩))
def μ0 : Mem := fun c j => if (c = 27 ∧ j = 9) ∨ (c = 33 ∧ j = 8) ∨ (c = 42 ∧ j = 22) then -1 else 0
theorem JJ_0 : JJ μ0 := by
  have z : ∀ c j, ¬ ((c = 27 ∧ j = 9) ∨ (c = 33 ∧ j = 8) ∨ (c = 42 ∧ j = 22)) → μ0 c j = 0 := fun c j h => if_neg h
  have r0 : ∀ lo hi : Int, lo ≤ 0 → 0 ≤ hi → rg 0 lo hi := fun lo hi a b => ⟨by rw [Int32.toInt_zero]; exact a, by rw [Int32.toInt_zero]; exact b⟩
  have hB : Bd (0, fun _ _ => 0) := ⟨Nat.zero_le _, fun j hj => absurd hj (Nat.not_lt_zero j), fun b _ => ⟨r0 _ _ (by omega) (by omega), r0 _ _ (by omega) (by omega)⟩, r0 _ _ (by omega) (by omega), r0 _ _ (by omega) (by omega), r0 _ _ (by omega) (by omega), r0 _ _ (by omega) (by omega), r0 _ _ (by omega) (by omega)⟩
  have hO : Ord (0, fun _ _ => 0) (fun p => p) := ⟨fun p hp => absurd hp (Nat.not_lt_zero p), fun p q _ hq => absurd hq (Nat.not_lt_zero q), fun j hj => absurd hj (Nat.not_lt_zero j)⟩
  refine ⟨(0, fun _ _ => 0), fun p => p, fun _ => 0, fun _ => 0, ⟨⟨hB, hO, z 1 7 (by omega), fun p hp => absurd hp (Nat.not_lt_zero p), fun k j _ hj => absurd hj (Nat.not_lt_zero j), fun k j _ hj => absurd hj (Nat.not_lt_zero j)⟩, fun b _ => ⟨z 10 b (by omega), z 11 b (by omega), z 13 b (by omega), z 14 b (by omega), r0 _ _ (by omega) (by omega)⟩, fun k _ => z 15 k (by omega), fun h => absurd (z 16 10 (by omega)) h, Or.inl rfl, Or.inl rfl⟩, ?_⟩
  refine RI.new ⟨hB, z 42 8 (by omega), fun k j _ hj => absurd hj (Nat.not_lt_zero j)⟩ ⟨fun b hb => ⟨Or.inl rfl, fun _ => ?_, Or.inl rfl, fun _ => ?_, r0 _ _ (by omega) (by omega)⟩, fun b hb => ⟨?_, ?_⟩, fun k _ => z 53 k (by omega)⟩ hO (z 42 21 (by omega))
  · unfold bfK; split <;> rfl
  · split <;> rfl
  · show _ = if (0 : Int32) = 1 then _ else (0 : Int32)
    rw [if_neg (by decide)]; exact z 51 b (by omega)
  · show _ = if (0 : Int32) = 1 then _ else (0 : Int32)
    rw [if_neg (by decide)]; exact z 52 b (by omega)
end
