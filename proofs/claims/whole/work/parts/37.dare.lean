section DAY
variable {rm : Nat → Nat → Nat} {ru hm hc ca po t : Nat} {lt : Nat → Nat} {σ0 : St} {rn us : Int32} {f8 f25 : Nat → Int32} {pend : Nat → Bool} {δ σ ρ : St}
def dareP (rm : Nat → Nat → Nat) (r t : Nat) (δ : St) (s : Nat) : Bool := decide (¬ δ 7 s = -1 ∧ ¬ (nI (rm (r + 2) 6) + (nI t - δ 3 (δ 7 s).toNatClampNeg) / (10 : Int32) < nI (rm ((δ 7 s).toNatClampNeg + 2) 5)))
theorem fsS_yes {p : Nat → Bool} {k j : Nat} (h : p k = true) : fsS p k (j + 1) = some k := by rw [fsS, if_pos h]
theorem fsS_no {p : Nat → Bool} {k j : Nat} (h : p k = false) : fsS p k (j + 1) = fsS p (k + 1) j := by rw [fsS, if_neg (by rw [h]; decide)]
theorem dareP_none {r : Nat} {s : Nat} (e : δ 7 s = -1) : dareP rm r t δ s = false := by
  unfold dareP
  exact decide_eq_false (fun z => z.1 e)
theorem dareP_iff {r i : Nat} {s : Nat} (hi : i < 8) (e : δ 7 s = nI i) : dareP rm r t δ s = true ↔ ¬ (nI (rm (r + 2) 6) + (nI t - δ 3 i) / (10 : Int32) < nI (rm (i + 2) 5)) := by
  unfold dareP
  rw [decide_eq_true_eq, e, cl_nI (by omega)]
  exact ⟨fun z => z.2, fun z => ⟨nI_nm1 (by omega), z⟩⟩
theorem Da_dare (hN : rmN rm) (hC : RoomC rm ρ) (N : Nat) (h : DR rm ru hm hc ca po t lt σ0 rn us f8 f25 pend δ σ) {r : Nat} (hr : r < rm 0 0) : ∀ (j k n : Nat), k + j = rm 0 1 →
    fDa_daredSeatFor_2 N δ ρ (n + 1 + j) (nI r) (nI t) (nI k) = some (cO (fsS (dareP rm r t δ) k j)) := by
  have h10 := hN.2.1
  have h08 := hN.1
  intro j
  induction j with
  | zero =>
    intro k n hk
    have hk : k = rm 0 1 := by omega
    subst hk
    have dl : δ 0 10 ≤ nI (rm 0 1) := by rw [h.2.1.2.1]; exact nI_le (Nat.le_refl _) (by omega)
    rw [Nat.add_zero, fDa_daredSeatFor_2, if_pos dl]
    rfl
  | succ j ih =>
    intro k n hk
    have hks : k < rm 0 1 := by omega
    have dl : ¬ δ 0 10 ≤ nI k := by rw [h.2.1.2.1]; exact nI_ge hks (by omega)
    have hih := ih (k + 1) n (by omega)
    rw [show n + 1 + (j + 1) = (n + 1 + j) + 1 by omega, fDa_daredSeatFor_2, if_neg dl, gI_ok (by omega) (by decide), cl_nI (by omega), nm_d]
    rcases h.held hks with ⟨c2, -⟩ | ⟨i, hi, c2, -, -⟩
    · rw [if_pos c2, fsS_no (dareP_none c2), fDa_daredSeatFor_60, nm_d, nI_1]
      exact hih
    · have hi8 : i < 8 := by omega
      have n5 : fRo_number N (nI i) (5 : Int32) ρ = some (nI (rm (i + 2) 5)) := Ro_number hN hC N hi (w := 5) (by decide)
      have n6 : fRo_number N (nI r) (6 : Int32) ρ = some (nI (rm (r + 2) 6)) := Ro_number hN hC N hr (w := 6) (by decide)
      rw [c2, if_neg (nI_nm1 (by omega)), n5, cl1_s, n6, cl1_s, Da_offFor N hi8, cl1_s]
      by_cases c : nI (rm (r + 2) 6) + (nI t - δ 3 i) / (10 : Int32) < nI (rm (i + 2) 5)
      · have hf : dareP rm r t δ k = false := by
          cases hz : dareP rm r t δ k with
          | false => rfl
          | true => exact absurd c ((dareP_iff hi8 c2).mp hz)
        rw [if_pos c, fsS_no hf, fDa_daredSeatFor_60, nm_d, nI_1]
        exact hih
      · rw [if_neg c, fsS_yes ((dareP_iff hi8 c2).mpr c), cO_s]
theorem Mo_dare (hN : rmN rm) (hM : RoomM rm 0 σ0) (N : Nat) (h : DR rm ru hm hc ca po t lt σ0 rn us f8 f25 pend δ σ) {r : Nat} (hr : r < rm 0 0) : ∀ (j k n : Nat), k + j = rm 0 1 →
    fMo_takesSeat_97 N σ (n + 2 + j) (4 : Int32) (nI r) (nI t) (-1 : Int32) (nI k) = some (cO (fsS (dareP rm r t δ) k j)) := by
  have h10 := hN.2.1
  have h08 := hN.1
  have hM' := h.1.room hM
  have g2 : ∀ x : Option Int32, gI (0 : Int32) 2 x = x := fun x => gI_ok (k := 0) (by decide) (by decide) x
  have m0 : ¬ (0 : Int32) ≤ -1 := m1_nle
  have y4 : (4 : Int32) = 4 := rfl
  intro j
  induction j with
  | zero =>
    intro k n hk
    have hk : k = rm 0 1 := by omega
    subst hk
    have ml : σ 4 0 ≤ nI (rm 0 1) := by rw [hM'.1]; exact nI_le (Nat.le_refl _) (by omega)
    rw [Nat.add_zero, show n + 2 = (n + 1) + 1 from rfl, fMo_takesSeat_97, g2, sb_cl0, if_pos ml, fMo_takesSeat_177]
    rfl
  | succ j ih =>
    intro k n hk
    have hks : k < rm 0 1 := by omega
    have ml : ¬ σ 4 0 ≤ nI k := by rw [hM'.1]; exact nI_ge hks (by omega)
    have hih := ih (k + 1) n (by omega)
    rw [show n + 2 + (j + 1) = (n + 2 + j) + 1 by omega, fMo_takesSeat_97, g2, sb_cl0, if_neg ml, if_neg m0, if_pos y4, gI_ok (by omega) (by decide), cl_nI (by omega), nm_d]
    rcases h.held hks with ⟨c2, c2'⟩ | ⟨i, hi, c2, c2', w1⟩
    · rw [c2', if_pos m1_neg, fsS_no (dareP_none c2), fMo_takesSeat_167, fMo_takesSeat_169, nm_d, nI_1]
      exact hih
    · have hi8 : i < 8 := by omega
      have n5 : fMo_of N (nI i) (5 : Int32) σ = some (nI (rm (i + 2) 5)) := Mo_of hN hM' N hi (w := 5) (by decide)
      have n6 : fMo_of N (nI r) (6 : Int32) σ = some (nI (rm (r + 2) 6)) := Mo_of hN hM' N hr (w := 6) (by decide)
      rw [c2', if_neg (nI_pos (by omega)), n5, cl1_s, n6, cl1_s, gI_ok hi8 (by decide), cl_nI (by omega), ← w1]
      by_cases c : nI (rm (r + 2) 6) + (nI t - δ 3 i) / (10 : Int32) < nI (rm (i + 2) 5)
      · have hf : dareP rm r t δ k = false := by
          cases hz : dareP rm r t δ k with
          | false => rfl
          | true => exact absurd c ((dareP_iff hi8 c2).mp hz)
        rw [if_pos c, fsS_no hf, fMo_takesSeat_167, fMo_takesSeat_169, nm_d, nI_1]
        exact hih
      · rw [if_neg c, fsS_yes ((dareP_iff hi8 c2).mpr c), cO_s, fMo_takesSeat_169, nm_d, nI_1, show n + 2 + j = (n + 1 + j) + 1 by omega, fMo_takesSeat_97, g2, sb_cl0]
        have z : (0 : Int32) ≤ nI k := nI_pos' (by omega)
        by_cases q : σ 4 0 ≤ nI (k + 1)
        · rw [if_pos q]; rfl
        · rw [if_neg q, if_pos z]; rfl
/-- the seat taken, in plain words -/
def seatS (rm : Nat → Nat → Nat) (ru t r : Nat) (δ : St) : Option Nat := match bestS (frS δ) (wS rm r) (rm 0 1) with
  | some b => some b
  | none => if ru = 4 then fsS (dareP rm r t δ) 0 (rm 0 1) else none
theorem seatS_lt {r b : Nat} (h : seatS rm ru t r δ = some b) : b < rm 0 1 := by
  unfold seatS at h
  split at h
  · rename_i c hc
    cases h
    exact bestS_lt _ _ hc
  · split at h
    · have := fsS_lt _ h
      omega
    · cases h
theorem Mo_takesSeat (hN : rmN rm) (hM : RoomM rm 0 σ0) {N : Nat} (hNN : 100 ≤ N) (hru : ru < 5) (h : DR rm ru hm hc ca po t lt σ0 rn us f8 f25 pend δ σ) {r : Nat} (hr : r < rm 0 0) : fMo_takesSeat N (nI ru) (nI r) (nI t) σ = some (cO (seatS rm ru t r δ)) := by
  have h10 := hN.2.1
  have hM' := h.1.room hM
  have g2 : ∀ x : Option Int32, gI (0 : Int32) 2 x = x := fun x => gI_ok (k := 0) (by decide) (by decide) x
  have e := Mo_best hN hM N h hr (nI ru) (nI t) (rm 0 1) 0 (N - rm 0 1 - 1) (by omega)
  rw [show N - rm 0 1 - 1 + 1 + rm 0 1 = N by omega] at e
  unfold fMo_takesSeat
  refine e.trans ?_
  unfold seatS
  cases hb : bestS (frS δ) (wS rm r) (rm 0 1) with
  | some b =>
    have hbl := bestS_lt _ _ hb
    have z : (0 : Int32) ≤ nI b := nI_pos' (by omega)
    obtain ⟨n, rfl⟩ : ∃ n, N = n + 1 := ⟨N - 1, by omega⟩
    rw [cO_s, fMo_takesSeat_97, g2, sb_cl0]
    by_cases q : σ 4 0 ≤ 0
    · rw [if_pos q]; rfl
    · rw [if_neg q, if_pos z]; rfl
  | none =>
    rw [cO_n]
    by_cases r4 : ru = 4
    · subst r4
      have d := Mo_dare hN hM N h hr (rm 0 1) 0 (N - rm 0 1 - 2) (by omega)
      rw [show N - rm 0 1 - 2 + 2 + rm 0 1 = N by omega] at d
      exact d
    · have n4 : ¬ nI ru = (4 : Int32) := nI_neq (b := 4) (by omega) (by decide) r4
      obtain ⟨n, rfl⟩ : ∃ n, N = n + 1 := ⟨N - 1, by omega⟩
      rw [fMo_takesSeat_97, g2, sb_cl0]
      dsimp only
      rw [if_neg r4]
      by_cases q : σ 4 0 ≤ 0
      · rw [if_pos q]; rfl
      · rw [if_neg q, if_neg m1_nle, if_neg n4]; rfl
theorem Da_takesSeat (hN : rmN rm) (hC : RoomC rm ρ) {N : Nat} (hNN : 100 ≤ N) (h : DR rm ru hm hc ca po t lt σ0 rn us f8 f25 pend δ σ) {r : Nat} (hr : r < rm 0 0) (k_2 : Int32 → Int32 → St → Option St) (e1 : δ 1 r = 1) (hru : ru < 5) : fDa_seekSeats_43 k_2 N ρ (nI t) (nI r) δ = fDa_seekSeats_82 k_2 N ρ (nI t) (nI r) (cO (seatS rm ru t r δ)) δ := by
  have h10 := hN.2.1
  have h08 := hN.1
  have a3 := h.2.1.2.2.1
  have n4 : fRo_number N (nI r) (4 : Int32) ρ = some (nI (rm (r + 2) 4)) := Ro_number hN hC N hr (w := 4) (by decide)
  have e := Da_best hN hC N h hr (rm 0 1) 0 (N - rm 0 1 - 1) (by omega)
  rw [show N - rm 0 1 - 1 + 1 + rm 0 1 = N by omega] at e
  have ef : fDa_freeSeatFor N (nI r) δ ρ = some (cO (bestS (frS δ) (wS rm r) (rm 0 1))) := by
    unfold fDa_freeSeatFor
    rw [n4, cl1_s]
    exact e
  rw [fDa_seekSeats_43, gI_ok (by omega) (by decide), cl_nI (by omega), if_pos e1, ef, cl1_s]
  unfold seatS
  cases hb : bestS (frS δ) (wS rm r) (rm 0 1) with
  | some b =>
    have hbl := bestS_lt _ _ hb
    rw [cO_s, if_neg (nI_nm1 (by omega))]
  | none =>
    rw [cO_n, if_pos rfl]
    dsimp only
    by_cases r4 : ru = 4
    · have d := Da_dare hN hC N h hr (rm 0 1) 0 (N - rm 0 1 - 1) (by omega)
      rw [show N - rm 0 1 - 1 + 1 + rm 0 1 = N by omega] at d
      have ed : fDa_daredSeatFor N (nI r) (nI t) δ ρ = some (cO (fsS (dareP rm r t δ) 0 (rm 0 1))) := d
      rw [if_pos r4, if_pos (show δ 0 11 = (4 : Int32) by rw [a3, r4]; rfl), ed, cl1_s]
    · rw [if_neg r4, if_neg (show ¬ δ 0 11 = (4 : Int32) by rw [a3]; exact nI_neq (b := 4) (by omega) (by decide) r4), cO_n]
end DAY
