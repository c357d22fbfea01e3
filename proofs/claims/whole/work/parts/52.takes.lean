/-! rooms that grow; a room taken over -/
def rmZ : Nat → Nat → Nat := fun x y => if x = 0 then [0, 0, 30, 20, 15, 20, 0].getD y 0 else 0
def rmS (rm : Nat → Nat → Nat) (p : Nat) : Nat → Nat → Nat := fun x y => if x = 1 ∧ y = rm 0 1 then p else if x = 0 ∧ y = 1 then rm 0 1 + 1 else rm x y
def rmR (rm : Nat → Nat → Nat) (f : Nat → Nat) : Nat → Nat → Nat := fun x y => if x = rm 0 0 + 2 then f y else if x = 0 ∧ y = 0 then rm 0 0 + 1 else rm x y
theorem rmZ_N : rmN rmZ := by
  refine ⟨by decide, by decide, by decide, by decide, by decide, by decide, by decide, fun s hs => absurd hs (by decide +revert), fun i hi => absurd hi (by decide +revert)⟩
theorem Ro_clear (N : Nat) (ρ : St) : ∃ ρ', fRo_clear N ρ = some ρ' ∧ RoomC rmZ ρ' := by
  unfold fRo_clear
  rw [nm_d, nm_d, nm_d, nm_d, nm_d, nm_d, nm_d]
  refine ⟨_, rfl, rfl, rfl, rfl, rfl, rfl, rfl, rfl, fun s hs => absurd hs (by show ¬ s < 0; omega), fun i hi => absurd hi (by show ¬ i < 0; omega)⟩
theorem rmS_1 (rm : Nat → Nat → Nat) (p : Nat) : rmS rm p 0 1 = rm 0 1 + 1 := rfl
theorem rmS_k (rm : Nat → Nat → Nat) (p : Nat) {y : Nat} (h : y ≠ 1) : rmS rm p 0 y = rm 0 y := by
  unfold rmS
  rw [if_neg (by omega), if_neg (by omega)]
theorem rmS_s (rm : Nat → Nat → Nat) (p s : Nat) : rmS rm p 1 s = if s = rm 0 1 then p else rm 1 s := by
  unfold rmS
  by_cases h : s = rm 0 1
  · rw [if_pos ⟨rfl, h⟩, if_pos h]
  · rw [if_neg (fun z => h z.2), if_neg (by omega), if_neg h]
theorem rmS_r (rm : Nat → Nat → Nat) (p i w : Nat) : rmS rm p (i + 2) w = rm (i + 2) w := by
  unfold rmS
  rw [if_neg (by omega), if_neg (by omega)]
theorem rmS_N {rm : Nat → Nat → Nat} (h : rmN rm) {p : Nat} (hp : p ≤ 3) (h1 : rm 0 1 < 10) : rmN (rmS rm p) := by
  unfold rmN at h ⊢
  rw [rmS_1, rmS_k rm p (by decide), rmS_k rm p (by decide), rmS_k rm p (by decide), rmS_k rm p (by decide), rmS_k rm p (by decide), rmS_k rm p (by decide)]
  obtain ⟨a1, a2, a3, a4, a5, a6, a7, a8, a9⟩ := h
  refine ⟨a1, by omega, a3, a4, a5, a6, a7, fun s hs => ?_, fun i hi => ?_⟩
  · rw [rmS_s]
    by_cases e : s = rm 0 1
    · rw [if_pos e]; exact hp
    · rw [if_neg e]; exact a8 s (by omega)
  · rw [rmS_r, rmS_r, rmS_r, rmS_r, rmS_r, rmS_r, rmS_r]; exact a9 i hi
theorem rmR_0 (rm : Nat → Nat → Nat) (f : Nat → Nat) : rmR rm f 0 0 = rm 0 0 + 1 := by
  unfold rmR
  rw [if_neg (by omega), if_pos ⟨rfl, rfl⟩]
theorem rmR_k (rm : Nat → Nat → Nat) (f : Nat → Nat) {y : Nat} (h : y ≠ 0) : rmR rm f 0 y = rm 0 y := by
  unfold rmR
  rw [if_neg (by omega), if_neg (by omega)]
theorem rmR_s (rm : Nat → Nat → Nat) (f : Nat → Nat) (s : Nat) : rmR rm f 1 s = rm 1 s := by
  unfold rmR
  rw [if_neg (by omega), if_neg (by omega)]
theorem rmR_r (rm : Nat → Nat → Nat) (f : Nat → Nat) (i w : Nat) : rmR rm f (i + 2) w = if i = rm 0 0 then f w else rm (i + 2) w := by
  unfold rmR
  by_cases h : i = rm 0 0
  · rw [if_pos (by omega), if_pos h]
  · rw [if_neg (by omega), if_neg (by omega), if_neg h]
def okR (f : Nat → Nat) : Prop := f 0 ≤ 199 ∧ (1 ≤ f 1 ∧ f 1 ≤ 199) ∧ (1 ≤ f 2 ∧ f 2 ≤ 199) ∧ (1 ≤ f 3 ∧ f 3 ≤ 99) ∧ f 4 ≤ 3 ∧ f 5 ≤ 9 ∧ f 6 ≤ 9
theorem rmR_N {rm : Nat → Nat → Nat} (h : rmN rm) {f : Nat → Nat} (hf : okR f) (h1 : rm 0 0 < 8) : rmN (rmR rm f) := by
  unfold rmN at h ⊢
  rw [rmR_0, rmR_k rm f (by decide), rmR_k rm f (by decide), rmR_k rm f (by decide), rmR_k rm f (by decide), rmR_k rm f (by decide), rmR_k rm f (by decide)]
  obtain ⟨a1, a2, a3, a4, a5, a6, a7, a8, a9⟩ := h
  refine ⟨by omega, a2, a3, a4, a5, a6, a7, fun s hs => ?_, fun i hi => ?_⟩
  · rw [rmR_s]; exact a8 s hs
  · rw [rmR_r, rmR_r, rmR_r, rmR_r, rmR_r, rmR_r, rmR_r]
    by_cases e : i = rm 0 0
    · rw [if_pos e, if_pos e, if_pos e, if_pos e, if_pos e, if_pos e, if_pos e]; exact hf
    · rw [if_neg e, if_neg e, if_neg e, if_neg e, if_neg e, if_neg e, if_neg e]; exact a9 i (by omega)
theorem Ro_addSeat {rm : Nat → Nat → Nat} {ρ : St} (hN : rmN rm) (hC : RoomC rm ρ) (N p : Nat) (h1 : rm 0 1 < 10) : ∃ ρ', fRo_addSeat N (nI p) ρ = some ((1 : Int32), ρ') ∧ RoomC (rmS rm p) ρ' := by
  obtain ⟨c1, c2, c3, c4, c5, c6, c7, c8, c9⟩ := hC
  unfold fRo_addSeat
  rw [c1, if_pos (show nI (rm 0 1) < (10 : Int32) from nI_lt (b := 10) h1 (by omega)), gI_ok (by omega) (by decide), nm_d, nm_d, cl_nI (by omega), sA_n _ _ (show 0 ≠ 1 by decide), c1, show nI (rm 0 1) + (1 : Int32) = nI (rm 0 1 + 1) from nI_1 _]
  refine ⟨_, rfl, ?_⟩
  unfold RoomC
  rw [rmS_1, rmS_k rm p (by decide), rmS_k rm p (by decide), rmS_k rm p (by decide), rmS_k rm p (by decide), rmS_k rm p (by decide), rmS_k rm p (by decide), sA_s, upd_s, upd_n _ _ (by decide), upd_n _ _ (by decide), upd_n _ _ (by decide), upd_n _ _ (by decide), upd_n _ _ (by decide), upd_n _ _ (by decide), sA_n _ _ (show 1 ≠ 0 by decide), sA_n _ _ (show 2 ≠ 0 by decide), sA_s, sA_n _ _ (show 2 ≠ 1 by decide)]
  refine ⟨rfl, c2, c3, c4, c5, c6, c7, fun s hs => ?_, fun i hi w hw => ?_⟩
  · rw [rmS_s]
    by_cases e : s = rm 0 1
    · rw [if_pos e, e, upd_s]
    · rw [if_neg e, upd_n _ _ e]; exact c8 s (by omega)
  · rw [rmS_r]; exact c9 i hi w hw
theorem Ro_addReader {rm : Nat → Nat → Nat} {ρ : St} (hN : rmN rm) (hC : RoomC rm ρ) (N : Nat) {told : Nat → Int32} {f : Nat → Nat} (ht : ∀ w, w < 7 → told w = nI (f w)) (h1 : rm 0 0 < 8) : ∃ ρ', fRo_addReader N told ρ = some ((1 : Int32), ρ') ∧ RoomC (rmR rm f) ρ' := by
  obtain ⟨c1, c2, c3, c4, c5, c6, c7, c8, c9⟩ := hC
  unfold fRo_addReader
  rw [c2, if_neg (show ¬ (8 : Int32) ≤ nI (rm 0 0) from nI_ge (b := 8) h1 (by omega)), show nI (rm 0 0) * (7 : Int32) = nI (rm 0 0 * 7) by rw [show (7 : Int32) = nI 7 from rfl, pk_mul]]
  unfold gC
  rw [if_neg (nI_pos (by omega)), cl_nI (by omega), if_pos (by omega), nm_d, nm_d, sA_n _ _ (show 0 ≠ 2 by decide), c2, show nI (rm 0 0) + (1 : Int32) = nI (rm 0 0 + 1) from nI_1 _]
  refine ⟨_, rfl, ?_⟩
  unfold RoomC
  rw [rmR_0, rmR_k rm f (by decide), rmR_k rm f (by decide), rmR_k rm f (by decide), rmR_k rm f (by decide), rmR_k rm f (by decide), rmR_k rm f (by decide), sA_s, upd_s, upd_n _ _ (by decide), upd_n _ _ (by decide), upd_n _ _ (by decide), upd_n _ _ (by decide), upd_n _ _ (by decide), upd_n _ _ (by decide), sA_n _ _ (show 1 ≠ 0 by decide), sA_n _ _ (show 2 ≠ 0 by decide), sA_s, sA_n _ _ (show 1 ≠ 2 by decide)]
  refine ⟨c1, rfl, c3, c4, c5, c6, c7, fun s hs => ?_, fun i hi w hw => ?_⟩
  · rw [rmR_s]; exact c8 s hs
  · rw [rmR_r]
    by_cases e : i = rm 0 0
    · rw [if_pos e, e, pk_cpy_in (by omega) (by omega), show 0 + (rm 0 0 * 7 + w - rm 0 0 * 7) = w by omega]; exact ht w hw
    · rw [if_neg e, pk_cpy_out (by omega)]; exact c9 i (by omega) w hw
theorem ev_ok : ∀ r, r < 9 → ((1 : Int32) <<< (nI r &&& 31)) - (1 : Int32) = nI (2 ^ r - 1) := by decide +kernel
/-- the reference takes the drafted room over -/
theorem Mo_takes {N : Nat} (hNN : 1000 ≤ N) {rm : Nat → Nat → Nat} {σ : St} (hN : rmN rm) (hM : RoomM rm 1 σ) : ∃ σ', fMo_takes N σ = some σ' ∧ RoomM rm 0 σ' ∧ σ' 0 8 = nI (2 ^ rm 0 0 - 1) ∧ σ' 0 9 = 0 ∧ σ' 0 0 = σ 0 0 ∧ σ' 2 = σ 2 ∧ σ' 5 0 = nI (rm 0 0) := by
  have h08 : rm 0 0 ≤ 8 := hN.1
  have h10 : rm 0 1 ≤ 10 := hN.2.1
  obtain ⟨m1, m2, m3, m4, m5, m6, m7, m8, m9⟩ := hM
  generalize hs : sA (sA σ 4 (upd (σ 4) 0 (nI (rm 0 1)))) 5 (upd (σ 5) 0 (nI (rm 0 0))) = s
  obtain ⟨σ', ⟨z0, z7, z6, z8⟩, g⟩ := lock1 (G := fun k σ' => (∀ j, j ≠ 6 → j ≠ 7 → j ≠ 8 → σ' j = s j) ∧ (∀ i, σ' 7 i = if i < k then s 7 (56 + i) else s 7 i) ∧ (∀ i, σ' 6 i = if i < k ∧ i < 10 then s 6 (10 + i) else s 6 i) ∧ (∀ i, σ' 8 i = if i < k ∧ i < 5 then s 8 (5 + i) else s 8 i)) (F1 := fun n k σ' => fMo_takes_26 N n (nI k) σ') 56 (fun k σ' hk hh => by
    obtain ⟨e0, e7, e6, e8⟩ := hh
    have p7 : σ' 7 (56 + k) = s 7 (56 + k) := by rw [e7, if_neg (by omega)]
    have p6 : σ' 6 (10 + k) = s 6 (10 + k) := by rw [e6, if_neg (by omega)]
    have p8 : σ' 8 (5 + k) = s 8 (5 + k) := by rw [e8, if_neg (by omega)]
    have q7 : ∀ i, upd (σ' 7) k (s 7 (56 + k)) i = if i < k + 1 then s 7 (56 + i) else s 7 i := fun i => by
      by_cases e : i = k
      · rw [e, upd_s, if_pos (by omega)]
      · rw [upd_n _ _ e, e7]
        by_cases h : i < k
        · rw [if_pos h, if_pos (by omega)]
        · rw [if_neg h, if_neg (by omega)]
    have q6 : k < 10 → ∀ i, upd (σ' 6) k (s 6 (10 + k)) i = if i < k + 1 ∧ i < 10 then s 6 (10 + i) else s 6 i := fun hk i => by
      by_cases e : i = k
      · rw [e, upd_s, if_pos (by omega)]
      · rw [upd_n _ _ e, e6]
        by_cases h : i < k ∧ i < 10
        · rw [if_pos h, if_pos (by omega)]
        · rw [if_neg h, if_neg (by omega)]
    have r6 : ¬ k < 10 → ∀ i, σ' 6 i = if i < k + 1 ∧ i < 10 then s 6 (10 + i) else s 6 i := fun hk i => by
      rw [e6]
      by_cases h : i < k ∧ i < 10
      · rw [if_pos h, if_pos (by omega)]
      · rw [if_neg h, if_neg (by omega)]
    have q8 : k < 5 → ∀ i, upd (σ' 8) k (s 8 (5 + k)) i = if i < k + 1 ∧ i < 5 then s 8 (5 + i) else s 8 i := fun hk i => by
      by_cases e : i = k
      · rw [e, upd_s, if_pos (by omega)]
      · rw [upd_n _ _ e, e8]
        by_cases h : i < k ∧ i < 5
        · rw [if_pos h, if_pos (by omega)]
        · rw [if_neg h, if_neg (by omega)]
    have r8 : ¬ k < 5 → ∀ i, σ' 8 i = if i < k + 1 ∧ i < 5 then s 8 (5 + i) else s 8 i := fun hk i => by
      rw [e8]
      by_cases h : i < k ∧ i < 5
      · rw [if_pos h, if_pos (by omega)]
      · rw [if_neg h, if_neg (by omega)]
    have a7 : (56 : Int32) + nI k = nI (56 + k) := by rw [show (56 : Int32) = nI 56 from rfl, nI_add]
    have a6 : (10 : Int32) + nI k = nI (10 + k) := by rw [show (10 : Int32) = nI 10 from rfl, nI_add]
    have a8 : (5 : Int32) + nI k = nI (5 + k) := by rw [show (5 : Int32) = nI 5 from rfl, nI_add]
    have b0 : ∀ n, fMo_takes_26 N (n + 1) (nI k) σ' = if (10 : Int32) ≤ nI k then fMo_takes_68 (fMo_takes_26 N n) N (nI k) (sA σ' 7 (upd (σ' 7) k (s 7 (56 + k)))) else gI ((10 : Int32) + nI k) 20 <| gI (nI k) 20 <| nm (sA (sA σ' 7 (upd (σ' 7) k (s 7 (56 + k)))) 6 (upd (sA σ' 7 (upd (σ' 7) k (s 7 (56 + k))) 6) (nI k).toNatClampNeg (sA σ' 7 (upd (σ' 7) k (s 7 (56 + k))) 6 ((10 : Int32) + nI k).toNatClampNeg))) fun σ_16 => fMo_takes_68 (fMo_takes_26 N n) N (nI k) σ_16 := fun n => by
      rw [fMo_takes_26, if_neg (show ¬ (56 : Int32) ≤ nI k from nI_ge (b := 56) hk (by omega)), a7, gI_ok (by omega) (by decide), gI_ok (by omega) (by decide), nm_d, cl_nI (by omega), cl_nI (by omega), p7]
    by_cases h1 : k < 10
    · by_cases h5 : k < 5
      · refine ⟨sA (sA (sA σ' 7 (upd (σ' 7) k (s 7 (56 + k)))) 6 (upd (σ' 6) k (s 6 (10 + k)))) 8 (upd (σ' 8) k (s 8 (5 + k))), ⟨fun j j6 j7 j8 => by rw [sA_n _ _ j8, sA_n _ _ j6, sA_n _ _ j7]; exact e0 j j6 j7 j8, fun i => by rw [sA_n _ _ (by decide), sA_n _ _ (by decide), sA_s]; exact q7 i, fun i => by rw [sA_n _ _ (by decide), sA_s]; exact q6 h1 i, fun i => by rw [sA_s]; exact q8 h5 i⟩, fun n => ?_⟩
        rw [b0, if_neg (show ¬ (10 : Int32) ≤ nI k from nI_ge (b := 10) h1 (by omega)), a6, gI_ok (by omega) (by decide), gI_ok (by omega) (by decide), nm_d, cl_nI (by omega), cl_nI (by omega), sA_n _ _ (show 6 ≠ 7 by decide), p6, fMo_takes_68, if_neg (show ¬ (5 : Int32) ≤ nI k from nI_ge (b := 5) h5 (by omega)), a8, gI_ok (by omega) (by decide), gI_ok (by omega) (by decide), nm_d, cl_nI (by omega), cl_nI (by omega), sA_n _ _ (show 8 ≠ 6 by decide), sA_n _ _ (show 8 ≠ 7 by decide), p8, fMo_takes_87, nm_d, nI_1]
      · refine ⟨sA (sA σ' 7 (upd (σ' 7) k (s 7 (56 + k)))) 6 (upd (σ' 6) k (s 6 (10 + k))), ⟨fun j j6 j7 j8 => by rw [sA_n _ _ j6, sA_n _ _ j7]; exact e0 j j6 j7 j8, fun i => by rw [sA_n _ _ (by decide), sA_s]; exact q7 i, fun i => by rw [sA_s]; exact q6 h1 i, fun i => by rw [sA_n _ _ (by decide), sA_n _ _ (by decide)]; exact r8 h5 i⟩, fun n => ?_⟩
        rw [b0, if_neg (show ¬ (10 : Int32) ≤ nI k from nI_ge (b := 10) h1 (by omega)), a6, gI_ok (by omega) (by decide), gI_ok (by omega) (by decide), nm_d, cl_nI (by omega), cl_nI (by omega), sA_n _ _ (show 6 ≠ 7 by decide), p6, fMo_takes_68, if_pos (show (5 : Int32) ≤ nI k from nI_le (a := 5) (by omega) (by omega)), fMo_takes_87, nm_d, nI_1]
    · refine ⟨sA σ' 7 (upd (σ' 7) k (s 7 (56 + k))), ⟨fun j j6 j7 j8 => by rw [sA_n _ _ j7]; exact e0 j j6 j7 j8, fun i => by rw [sA_s]; exact q7 i, fun i => by rw [sA_n _ _ (by decide)]; exact r6 h1 i, fun i => by rw [sA_n _ _ (by decide)]; exact r8 (by omega) i⟩, fun n => ?_⟩
      rw [b0, if_pos (show (10 : Int32) ≤ nI k from nI_le (a := 10) (by omega) (by omega)), fMo_takes_68, if_pos (show (5 : Int32) ≤ nI k from nI_le (a := 5) (by omega) (by omega)), fMo_takes_87, nm_d, nI_1]) 56 0 s (by omega) ⟨fun _ _ _ _ => rfl, fun i => (if_neg (by omega)).symm, fun i => (if_neg (by omega)).symm, fun i => (if_neg (by omega)).symm⟩
  have s5 : σ' 5 0 = nI (rm 0 0) := by rw [z0 5 (by decide) (by decide) (by decide), ← hs, sA_s, upd_s]
  have s4 : σ' 4 0 = nI (rm 0 1) := by rw [z0 4 (by decide) (by decide) (by decide), ← hs, sA_n _ _ (by decide), sA_s, upd_s]
  have t6 : s 6 = σ 6 := by rw [← hs, sA_n _ _ (by decide), sA_n _ _ (by decide)]
  have t7 : s 7 = σ 7 := by rw [← hs, sA_n _ _ (by decide), sA_n _ _ (by decide)]
  have t8 : s 8 = σ 8 := by rw [← hs, sA_n _ _ (by decide), sA_n _ _ (by decide)]
  have tz : σ' 0 = σ 0 := by rw [z0 0 (by decide) (by decide) (by decide), ← hs, sA_n _ _ (by decide), sA_n _ _ (by decide)]
  have t2 : σ' 2 = σ 2 := by rw [z0 2 (by decide) (by decide) (by decide), ← hs, sA_n _ _ (by decide), sA_n _ _ (by decide)]
  refine ⟨sA (sA σ' 0 (upd (σ' 0) 8 (nI (2 ^ rm 0 0 - 1)))) 0 (upd (upd (σ' 0) 8 (nI (2 ^ rm 0 0 - 1))) 9 (0 : Int32)), ?_, ?_, ?_, ?_, ?_, ?_, ?_⟩
  · unfold fMo_takes
    rw [gI1 (by decide) (by decide), gI0 (by decide) (by decide), nm_d, gI1 (by decide) (by decide), gI0 (by decide) (by decide), nm_d, cz0, cz1, m1, sA_n _ _ (show 5 ≠ 4 by decide), m2, hs]
    have e := g (N - 57 + 1)
    rw [show N - 57 + 1 + 56 = N by omega] at e
    refine e.trans ?_
    show fMo_takes_26 N (N - 57 + 1) (nI 56) σ' = _
    rw [fMo_takes_26, if_pos (show (56 : Int32) ≤ nI 56 by decide), gI0 (by decide) (by decide), nm_d, nm_d, cz0, s5, ev_ok _ (by omega), sA_s]
  · unfold RoomM
    rw [sA_n _ _ (show 4 ≠ 0 by decide), sA_n _ _ (show 5 ≠ 0 by decide), sA_n _ _ (show 6 ≠ 0 by decide), sA_n _ _ (show 7 ≠ 0 by decide), sA_n _ _ (show 8 ≠ 0 by decide), sA_n _ _ (show 4 ≠ 0 by decide), sA_n _ _ (show 5 ≠ 0 by decide), sA_n _ _ (show 6 ≠ 0 by decide), sA_n _ _ (show 7 ≠ 0 by decide), sA_n _ _ (show 8 ≠ 0 by decide)]
    refine ⟨s4, s5, ?_, ?_, ?_, ?_, ?_, fun x hx => ?_, fun i hi w hw => ?_⟩
    · rw [z8, if_pos (by decide), t8]; exact m3
    · rw [z8, if_pos (by decide), t8]; exact m4
    · rw [z8, if_pos (by decide), t8]; exact m5
    · rw [z8, if_pos (by decide), t8]; exact m6
    · rw [z8, if_pos (by decide), t8]; exact m7
    · rw [z6, if_pos (by omega), t6, show 10 + (10 * 0 + x) = 10 * 1 + x by omega]; exact m8 x hx
    · rw [z7, if_pos (by omega), t7, show 56 + (56 * 0 + 7 * i + w) = 56 * 1 + 7 * i + w by omega]; exact m9 i hi w hw
  · rw [sA_s, upd_n _ _ (by decide), upd_s]
  · rw [sA_s, upd_s]
  · rw [sA_s, upd_n _ _ (by decide), upd_n _ _ (by decide), tz]
  · rw [sA_n _ _ (by decide), sA_n _ _ (by decide)]; exact t2
  · rw [sA_n _ _ (by decide), sA_n _ _ (by decide)]; exact s5
