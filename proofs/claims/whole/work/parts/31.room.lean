/-! a room in plain numbers: rm 0 = readers, seats, C, R, L, W, V; rm 1 s = kind; rm (i + 2) w = the numbers of a reader -/
def rmN (rm : Nat → Nat → Nat) : Prop := rm 0 0 ≤ 8 ∧ rm 0 1 ≤ 10 ∧ (1 ≤ rm 0 2 ∧ rm 0 2 ≤ 99) ∧ (1 ≤ rm 0 3 ∧ rm 0 3 ≤ 99) ∧ (1 ≤ rm 0 4 ∧ rm 0 4 ≤ 99) ∧ rm 0 5 ≤ 99 ∧ rm 0 6 ≤ 30 ∧ (∀ s, s < rm 0 1 → rm 1 s ≤ 3) ∧
  ∀ i, i < rm 0 0 → rm (i + 2) 0 ≤ 199 ∧ (1 ≤ rm (i + 2) 1 ∧ rm (i + 2) 1 ≤ 199) ∧ (1 ≤ rm (i + 2) 2 ∧ rm (i + 2) 2 ≤ 199) ∧ (1 ≤ rm (i + 2) 3 ∧ rm (i + 2) 3 ≤ 99) ∧ rm (i + 2) 4 ≤ 3 ∧ rm (i + 2) 5 ≤ 9 ∧ rm (i + 2) 6 ≤ 9
def RoomC (rm : Nat → Nat → Nat) (ρ : St) : Prop := ρ 0 2 = nI (rm 0 1) ∧ ρ 0 3 = nI (rm 0 0) ∧ ρ 0 4 = nI (rm 0 2) ∧ ρ 0 5 = nI (rm 0 3) ∧ ρ 0 6 = nI (rm 0 4) ∧ ρ 0 7 = nI (rm 0 5) ∧ ρ 0 8 = nI (rm 0 6) ∧ (∀ s, s < rm 0 1 → ρ 1 s = nI (rm 1 s)) ∧ ∀ i, i < rm 0 0 → ∀ w, w < 7 → ρ 2 (i * 7 + w) = nI (rm (i + 2) w)
def RoomM (rm : Nat → Nat → Nat) (o : Nat) (σ : St) : Prop := σ 4 o = nI (rm 0 1) ∧ σ 5 o = nI (rm 0 0) ∧ σ 8 (5 * o) = nI (rm 0 2) ∧ σ 8 (5 * o + 1) = nI (rm 0 3) ∧ σ 8 (5 * o + 2) = nI (rm 0 4) ∧ σ 8 (5 * o + 3) = nI (rm 0 5) ∧ σ 8 (5 * o + 4) = nI (rm 0 6) ∧ (∀ s, s < rm 0 1 → σ 6 (10 * o + s) = nI (rm 1 s)) ∧ ∀ i, i < rm 0 0 → ∀ w, w < 7 → σ 7 (56 * o + 7 * i + w) = nI (rm (i + 2) w)
theorem Ro_number {rm : Nat → Nat → Nat} {ρ : St} (hN : rmN rm) (hC : RoomC rm ρ) (N : Nat) {i w : Nat} (hi : i < rm 0 0) (hw : w < 7) : fRo_number N (nI i) (nI w) ρ = some (nI (rm (i + 2) w)) := by
  have h8 : rm 0 0 ≤ 8 := hN.1
  unfold fRo_number
  rw [if_neg (nI_pos (by omega)), hC.2.1, if_neg (nI_ge hi (by omega)), if_neg (nI_pos (by omega)), if_neg (show ¬ (7 : Int32) ≤ nI w from nI_ge (b := 7) hw (by omega))]
  unfold fRo_number_27
  rw [if_neg (show ¬ (1 : Int32) = 0 by decide), show nI i * (7 : Int32) + nI w = nI (i * 7 + w) by rw [lit, pk_mul, nI_add], gI_ok (by omega) (by decide), cl_nI (by omega)]
  unfold fRo_number_47
  rw [hC.2.2.2.2.2.2.2.2 i hi w hw]
theorem Mo_of {rm : Nat → Nat → Nat} {σ : St} (hN : rmN rm) (hC : RoomM rm 0 σ) (N : Nat) {i w : Nat} (hi : i < rm 0 0) (hw : w < 7) : fMo_of N (nI i) (nI w) σ = some (nI (rm (i + 2) w)) := by
  have h8 : rm 0 0 ≤ 8 := hN.1
  have h := hC.2.2.2.2.2.2.2.2 i hi w hw
  unfold fMo_of
  rw [show (7 : Int32) * nI i + nI w = nI (7 * i + w) by rw [lit, pk_mul, nI_add], gI_ok (by omega) (by decide), cl_nI (by omega)]
  rw [show 56 * 0 + 7 * i + w = 7 * i + w by omega] at h
  rw [h]
theorem Ro_kindOf {rm : Nat → Nat → Nat} {ρ : St} (hN : rmN rm) (hC : RoomC rm ρ) (N : Nat) {s : Nat} (hs : s < rm 0 1) : fRo_kindOf N (nI s) ρ = some (nI (rm 1 s)) := by
  have h8 : rm 0 1 ≤ 10 := hN.2.1
  unfold fRo_kindOf
  rw [if_neg (nI_pos (by omega)), hC.1, if_neg (nI_ge hs (by omega)), gI_ok (by omega) (by decide), cl_nI (by omega)]
  unfold fRo_kindOf_22
  rw [hC.2.2.2.2.2.2.2.1 s hs]
theorem Ro_goesOff {rm : Nat → Nat → Nat} {ρ : St} (hN : rmN rm) (hC : RoomC rm ρ) (N : Nat) {i : Nat} (hi : i < rm 0 0) : fRo_goesOff N (nI i) ρ = some (if rm (i + 2) 2 < rm (i + 2) 1 then 1 else 0) := by
  have hb := hN.2.2.2.2.2.2.2.2 i hi
  unfold fRo_goesOff
  rw [show (2 : Int32) = nI 2 from rfl, Ro_number hN hC N hi (by omega), cl1_s, show (1 : Int32) = nI 1 from rfl, Ro_number hN hC N hi (by omega), cl1_s]
  by_cases h : rm (i + 2) 2 < rm (i + 2) 1
  · rw [if_neg (nI_ge h (by omega)), if_pos h]
    exact gB_1 _
  · rw [if_pos (nI_le (by omega) (by omega)), if_neg h]
    exact gB_0 _
/-- what Integer.bitCount makes of an int -/
def bcv (x : Int32) : Int32 := (fBc_bitCount_0f7a4 0 x).getD 0
theorem bc_any (N : Nat) (x : Int32) : fBc_bitCount_0f7a4 N x = some (bcv x) := rfl
def btv (x : Int32) : Int32 := (fMo_bits 0 x).getD 0
theorem bt_any (N : Nat) (x : Int32) : fMo_bits N x = some (btv x) := rfl
def kl (a b : Nat) : Nat := (a &&& b) % 2 + (a &&& b) / 2
theorem bc_kl : ∀ a, a < 4 → ∀ b, b < 4 → bcv (nI a &&& nI b) = nI (kl a b) ∧ btv (nI a &&& nI b) = nI (kl a b) ∧ kl a b ≤ 2 := by decide +kernel
