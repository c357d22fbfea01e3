/-! what holds between the two objects at every call -/
def byteOK (x : Int32) : Prop := x.toInt8.toInt32 = x
def TextR (len : Nat) (τ σ : St) : Prop := len ≤ 400 ∧ τ 0 1 = nI len ∧ σ 0 0 = nI len ∧ ∀ j, j < len → τ 1 j = σ 2 j ∧ byteOK (σ 2 j)
def HoldR (rm : Nat → Nat → Nat) (h kp : Nat) (μ σ : St) : Prop := h < 2 ^ rm 0 0 ∧ μ 0 9 = nI h ∧ σ 0 8 = nI h ∧ kp ≤ 2 ∧ μ 0 8 = nI kp ∧ σ 0 9 = nI kp ∧ ∀ j, j < kp → ∃ x, x < 2 ^ rm 0 0 ∧ μ 8 j = nI x ∧ σ 11 j = nI x
/-- a kept answer of the game: what any day of the reference's says -/
def GoodMin (N : Nat) (rm : Nat → Nat → Nat) (ru s : Nat) (v : Int64) : Prop := ∀ (σ : St) (hm : Nat) (σ' : St), RoomM rm 0 σ → HCp rm ru hm (hcOf ru s) → fMo_goes N (nI ru) (nI hm) (nI 399) (nI (rm 0 2)) (nI (rm 0 3)) σ = some σ' → ∀ i, i < rm 0 0 → ((((v.toUInt64 >>> (((8 : Int32) * nI i).toInt64.toUInt64 &&& Int64.toUInt64 63)).toInt64).toInt32) &&& (255 : Int32)) = σ' 14 i
def matt (rm : Nat → Nat → Nat) (ru : Nat) : Nat → Nat
  | 0 => 0
  | n + 1 => matt rm ru n + (if ¬ ru = 1 ∧ rm (n + 2) 2 < rm (n + 2) 1 then 2 ^ n else 0)
def GameR (N : Nat) (rm : Nat → Nat → Nat) (γ : St) (Γ : Nat → Int64) : Prop := γ 0 3 = -1 ∨ ∃ ru, ru < 5 ∧ γ 0 3 = nI ru ∧ γ 0 4 = nI (matt rm ru (rm 0 0)) ∧ ∀ s, s < 256 → Γ s = -1 ∨ GoodMin N rm ru s (Γ s)
def Rel (N : Nat) (μ τ γ : St) (Γ : Nat → Int64) (ρ σ : St) : Prop := ∃ (rm : Nat → Nat → Nat) (h kp len : Nat), rmN rm ∧ RoomC rm ρ ∧ RoomM rm 0 σ ∧ TextR len τ σ ∧ HoldR rm h kp μ σ ∧ GameR N rm γ Γ
def KM (σ σ' : St) : Prop := σ' 2 = σ 2 ∧ σ' 4 = σ 4 ∧ σ' 5 = σ 5 ∧ σ' 6 = σ 6 ∧ σ' 7 = σ 7 ∧ σ' 8 = σ 8 ∧ σ' 11 = σ 11 ∧ σ' 0 0 = σ 0 0 ∧ σ' 0 8 = σ 0 8 ∧ σ' 0 9 = σ 0 9
theorem KM.rf (σ : St) : KM σ σ := ⟨rfl, rfl, rfl, rfl, rfl, rfl, rfl, rfl, rfl, rfl⟩
theorem KM.tr {a b c : St} (h1 : KM a b) (h2 : KM b c) : KM a c := by
  obtain ⟨a1, a2, a3, a4, a5, a6, a7, a8, a9, a10⟩ := h1
  obtain ⟨b1, b2, b3, b4, b5, b6, b7, b8, b9, b10⟩ := h2
  exact ⟨b1.trans a1, b2.trans a2, b3.trans a3, b4.trans a4, b5.trans a5, b6.trans a6, b7.trans a7, b8.trans a8, b9.trans a9, b10.trans a10⟩
theorem FM.km {σ σ' : St} (h : FM σ σ') : KM σ σ' := ⟨h.1 2 (by decide), h.1 4 (by decide), h.1 5 (by decide), h.1 6 (by decide), h.1 7 (by decide), h.1 8 (by decide), h.1 11 (by decide), h.2 0 (by decide), h.2 8 (by decide), h.2 9 (by decide)⟩
theorem KM.arr {σ σ' : St} {f : Nat → Int32} (k : Nat) (hk : k ≠ 0 ∧ k ≠ 2 ∧ k ≠ 4 ∧ k ≠ 5 ∧ k ≠ 6 ∧ k ≠ 7 ∧ k ≠ 8 ∧ k ≠ 11) (h : KM σ σ') : KM σ (sA σ' k f) := by
  obtain ⟨a1, a2, a3, a4, a5, a6, a7, a8, a9, a10⟩ := h
  obtain ⟨k0, k2, k4, k5, k6, k7, k8, k11⟩ := hk
  refine ⟨?_, ?_, ?_, ?_, ?_, ?_, ?_, ?_, ?_, ?_⟩
  · rw [sA_n _ _ k2.symm]; exact a1
  · rw [sA_n _ _ k4.symm]; exact a2
  · rw [sA_n _ _ k5.symm]; exact a3
  · rw [sA_n _ _ k6.symm]; exact a4
  · rw [sA_n _ _ k7.symm]; exact a5
  · rw [sA_n _ _ k8.symm]; exact a6
  · rw [sA_n _ _ k11.symm]; exact a7
  · rw [sA_n _ _ k0.symm]; exact a8
  · rw [sA_n _ _ k0.symm]; exact a9
  · rw [sA_n _ _ k0.symm]; exact a10
theorem KM.room {σ σ' : St} {rm : Nat → Nat → Nat} {o : Nat} (h : KM σ σ') (hr : RoomM rm o σ) : RoomM rm o σ' := by
  unfold RoomM at hr ⊢
  rw [h.2.1, h.2.2.1, h.2.2.2.1, h.2.2.2.2.1, h.2.2.2.2.2.1]
  exact hr
theorem Rel.km {N : Nat} {μ τ γ : St} {Γ : Nat → Int64} {ρ σ σ' : St} (h : Rel N μ τ γ Γ ρ σ) (k : KM σ σ') : Rel N μ τ γ Γ ρ σ' := by
  obtain ⟨rm, hh, kp, len, h1, h2, h3, ⟨t1, t2, t3, t4⟩, ⟨y1, y2, y3, y4, y5, y6, y7⟩, h6⟩ := h
  obtain ⟨a1, a2, a3, a4, a5, a6, a7, a8, a9, a10⟩ := id k
  exact ⟨rm, hh, kp, len, h1, h2, k.room h3, ⟨t1, t2, by rw [a8]; exact t3, fun j hj => by rw [a1]; exact t4 j hj⟩, ⟨y1, y2, by rw [a9]; exact y3, y4, y5, by rw [a10]; exact y6, fun j hj => by rw [a7]; exact y7 j hj⟩, h6⟩
/-! comparisons of ints and longs, in plain words -/
theorem lg_le0 (x y : Int64) : (lg_cmp x y < 0) ↔ x < y := by
  unfold lg_cmp
  by_cases h1 : x > y
  · rw [if_pos h1]
    have := Int64.lt_iff_toInt_lt.mp h1
    refine ⟨fun z => absurd z (by decide), fun z => ?_⟩
    have := Int64.lt_iff_toInt_lt.mp z
    omega
  · rw [if_neg h1]
    by_cases h2 : x = y
    · rw [if_pos h2]
      refine ⟨fun z => absurd z (by decide), fun z => ?_⟩
      have := Int64.lt_iff_toInt_lt.mp z
      rw [h2] at this
      omega
    · rw [if_neg h2]
      refine ⟨fun _ => ?_, fun _ => by decide⟩
      have h3 : ¬ y.toInt < x.toInt := fun z => h1 (Int64.lt_iff_toInt_lt.mpr z)
      have h4 : ¬ x.toInt = y.toInt := fun z => h2 (Int64.toInt_inj.mp z)
      exact Int64.lt_iff_toInt_lt.mpr (by omega)
theorem lg_gt0 (x y : Int64) : (0 < lg_cmp x y) ↔ y < x := by
  unfold lg_cmp
  by_cases h1 : x > y
  · rw [if_pos h1]
    exact ⟨fun _ => h1, fun _ => by decide⟩
  · rw [if_neg h1]
    refine ⟨fun z => ?_, fun z => absurd z h1⟩
    by_cases h2 : x = y
    · rw [if_pos h2] at z; exact absurd z (by decide)
    · rw [if_neg h2] at z; exact absurd z (by decide)
/-- in(v, low, high) of the reference -/
theorem Mo_in (N : Nat) (a b c : Int64) : fMo_in N a b c = some (if b.toInt ≤ a.toInt ∧ a.toInt ≤ c.toInt then 1 else 0) := by
  unfold fMo_in
  by_cases h1 : lg_cmp a b < 0
  · have := Int64.lt_iff_toInt_lt.mp ((lg_le0 _ _).mp h1)
    rw [if_pos h1, if_neg (by omega)]
    first | rfl | exact gB_0 _
  · have h1' : ¬ a.toInt < b.toInt := fun z => h1 ((lg_le0 _ _).mpr (Int64.lt_iff_toInt_lt.mpr z))
    rw [if_neg h1]
    by_cases h2 : 0 < lg_cmp a c
    · have := Int64.lt_iff_toInt_lt.mp ((lg_gt0 _ _).mp h2)
      rw [if_pos h2, if_neg (by omega)]
      first | rfl | exact gB_0 _
    · have h2' : ¬ c.toInt < a.toInt := fun z => h2 ((lg_gt0 _ _).mpr (Int64.lt_iff_toInt_lt.mpr z))
      rw [if_neg h2, if_pos (by omega)]
      first | rfl | exact gB_1 _
theorem Ma_within (N : Nat) (a b c : Int32) : fMa_within N a b c = some (if b.toInt ≤ a.toInt ∧ a.toInt ≤ c.toInt then 1 else 0) := by
  unfold fMa_within
  by_cases h1 : a < b
  · have := Int32.lt_iff_toInt_lt.mp h1
    rw [if_pos h1, if_neg (by omega)]
    first | rfl | exact gB_0 _
  · have h1' : ¬ a.toInt < b.toInt := fun z => h1 (Int32.lt_iff_toInt_lt.mpr z)
    rw [if_neg h1]
    by_cases h2 : c < a
    · have := Int32.lt_iff_toInt_lt.mp h2
      rw [if_pos h2, if_neg (by omega)]
      first | rfl | exact gB_0 _
    · have h2' : ¬ c.toInt < a.toInt := fun z => h2 (Int32.lt_iff_toInt_lt.mpr z)
      rw [if_neg h2, if_pos (by omega)]
      first | rfl | exact gB_1 _
