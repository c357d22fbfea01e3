/-! the calls that read and mark -/
theorem gI0 {α : Type} {n : Nat} (h : 0 < n) (hn : n < 2 ^ 31) (x : Option α) : gI (0 : Int32) n x = x := gI_ok (k := 0) h hn x
theorem gI1 {α : Type} {n : Nat} (h : 1 < n) (hn : n < 2 ^ 31) (x : Option α) : gI (1 : Int32) n x = x := gI_ok (k := 1) h hn x
theorem cz0 : (0 : Int32).toNatClampNeg = 0 := rfl
theorem cz1 : (1 : Int32).toNatClampNeg = 1 := rfl
theorem one0 : ¬ (1 : Int32) = 0 := by decide
theorem nI_of_int {a : Int32} {k : Nat} (h : a.toInt = k) (hk : k < 2 ^ 31) : a = nI k := Int32.toInt_inj.mp (by rw [h, nI_toInt hk])
theorem wi (N : Nat) (a b' c' : Int32) (b c : Int64) (lo : Nat) (hi : Int) (hb' : b'.toInt = lo) (hc' : c'.toInt = hi) (hb : b.toInt = lo) (hc : c.toInt = hi) (hh : hi < 2 ^ 31) :
    (∃ k : Nat, lo ≤ k ∧ (k : Int) ≤ hi ∧ a = nI k ∧ fMa_within N a b' c' = some 1 ∧ fMo_in N a.toInt64 b c = some 1) ∨ (fMa_within N a b' c' = some 0 ∧ fMo_in N a.toInt64 b c = some 0) := by
  rw [Ma_within, Mo_in, hb', hc', hb, hc, Int32.toInt_toInt64]
  by_cases h : (lo : Int) ≤ a.toInt ∧ a.toInt ≤ hi
  · rw [if_pos h]
    exact Or.inl ⟨a.toInt.toNat, by omega, by omega, nI_of_int (by omega) (by omega), rfl, rfl⟩
  · rw [if_neg h]
    exact Or.inr ⟨rfl, rfl⟩
theorem wiRule (N : Nat) (a : Int32) : (∃ k, k < 5 ∧ a = nI k ∧ fMa_isRule N a = some 1 ∧ fMo_isRule N a = some 1) ∨ (fMa_isRule N a = some 0 ∧ fMo_isRule N a = some 0) := by
  unfold fMa_isRule fMo_isRule
  rcases wi N a 0 4 0 4 0 4 (by decide) (by decide) (by decide) (by decide) (by decide) with ⟨k, h1, h2, h3, h4, h5⟩ | ⟨h4, h5⟩
  · exact Or.inl ⟨k, by omega, h3, by rw [h4]; rfl, by rw [h5]; rfl⟩
  · exact Or.inr ⟨by rw [h4]; rfl, by rw [h5]; rfl⟩
theorem m1_int {k : Nat} (h : k < 100) : (nI k - (1 : Int32)).toInt = (k : Int) - 1 := by
  have : ∀ k, k < 100 → (nI k - (1 : Int32)).toInt = (k : Int) - 1 := by decide +kernel
  exact this k h
theorem wiReader {rm : Nat → Nat → Nat} {ρ σ : St} (hN : rmN rm) (hC : RoomC rm ρ) (hM : RoomM rm 0 σ) (N : Nat) (a : Int32) : (∃ k, k < rm 0 0 ∧ a = nI k ∧ fMa_isReader N a ρ = some 1 ∧ fMo_isReader N a σ = some 1) ∨ (fMa_isReader N a ρ = some 0 ∧ fMo_isReader N a σ = some 0) := by
  have h8 : rm 0 0 ≤ 8 := hN.1
  unfold fMa_isReader fMo_isReader
  rw [gI0 (by decide) (by decide), cz0, hM.2.1]
  have hr : fRo_readerCount N ρ = some (nI (rm 0 0)) := by unfold fRo_readerCount; rw [hC.2.1]
  rw [hr, cl1_s]
  rcases wi N a 0 (nI (rm 0 0) - 1) 0 (nI (rm 0 0) - 1).toInt64 0 ((rm 0 0 : Int) - 1) (by decide) (m1_int (by omega)) (by decide) (by rw [Int32.toInt_toInt64]; exact m1_int (by omega)) (by omega) with ⟨k, h1, h2, h3, h4, h5⟩ | ⟨h4, h5⟩
  · exact Or.inl ⟨k, by omega, h3, by rw [h4]; rfl, by rw [h5]; rfl⟩
  · exact Or.inr ⟨by rw [h4]; rfl, by rw [h5]; rfl⟩
theorem wiSeat {rm : Nat → Nat → Nat} {ρ σ : St} (hN : rmN rm) (hC : RoomC rm ρ) (hM : RoomM rm 0 σ) (N : Nat) (a : Int32) : (∃ k, k < rm 0 1 ∧ a = nI k ∧ fMa_isSeat N a ρ = some 1 ∧ fMo_in N a.toInt64 (0 : Int64) (σ 4 0 - (1 : Int32)).toInt64 = some 1) ∨ (fMa_isSeat N a ρ = some 0 ∧ fMo_in N a.toInt64 (0 : Int64) (σ 4 0 - (1 : Int32)).toInt64 = some 0) := by
  have h8 : rm 0 1 ≤ 10 := hN.2.1
  unfold fMa_isSeat
  rw [hM.1]
  have hr : fRo_seatCount N ρ = some (nI (rm 0 1)) := by unfold fRo_seatCount; rw [hC.1]
  rw [hr, cl1_s]
  rcases wi N a 0 (nI (rm 0 1) - 1) 0 (nI (rm 0 1) - 1).toInt64 0 ((rm 0 1 : Int) - 1) (by decide) (m1_int (by omega)) (by decide) (by rw [Int32.toInt_toInt64]; exact m1_int (by omega)) (by omega) with ⟨k, h1, h2, h3, h4, h5⟩ | ⟨h4, h5⟩
  · exact Or.inl ⟨k, by omega, h3, by rw [h4]; rfl, h5⟩
  · exact Or.inr ⟨by rw [h4]; rfl, h5⟩
theorem RoomM.to {rm : Nat → Nat → Nat} {o : Nat} {σ σ' : St} (h : RoomM rm o σ) (h4 : σ' 4 = σ 4) (h5 : σ' 5 = σ 5) (h6 : σ' 6 = σ 6) (h7 : σ' 7 = σ 7) (h8 : σ' 8 = σ 8) : RoomM rm o σ' := by
  unfold RoomM at h ⊢
  rw [h4, h5, h6, h7, h8]
  exact h
theorem P_wipe {N : Nat} (hNN : 5000 ≤ N) {μ ς τ ε γ : St} {Γ : Nat → Int64} {δ ρ σ : St} {Λ : Nat → Int64} {dr r0 : Nat} (hR : Rel N μ τ γ Γ ρ σ) : ∃ (r : Int32) (τ' : St) (σ' : St), fMa_wipe N τ = some (r, τ') ∧ fMo_wipe N σ = some (r, σ') ∧ Rel N μ τ' γ Γ ρ σ' := by
  obtain ⟨rm, h, kp, len, hN, hC, hM, ⟨t1, t2, t3, t4⟩, ⟨y1, y2, y3, y4, y5, y6, y7⟩, hG⟩ := hR
  refine ⟨nI len, sA τ 0 (upd (τ 0) 1 (0 : Int32)), sA σ 0 (upd (σ 0) 0 (0 : Int32)), ?_, ?_, rm, h, kp, 0, hN, hC, hM.to (sA_n _ _ (by decide)) (sA_n _ _ (by decide)) (sA_n _ _ (by decide)) (sA_n _ _ (by decide)) (sA_n _ _ (by decide)), ⟨by decide, ?_, ?_, fun j hj => absurd hj (by omega)⟩, ⟨y1, y2, ?_, y4, y5, ?_, ?_⟩, hG⟩
  · unfold fMa_wipe fTe_length fTe_clear
    rw [cl1_s, nm_d, cl1_s, t2]
  · unfold fMo_wipe
    rw [nm_d, nm_d, t3]
  · rw [sA_s, upd_s]; rfl
  · rw [sA_s, upd_s]; rfl
  · rw [sA_s, upd_n _ _ (by decide)]; exact y3
  · rw [sA_s, upd_n _ _ (by decide)]; exact y6
  · rw [sA_n _ _ (by decide)]; exact y7
theorem P_reader {N : Nat} (hNN : 5000 ≤ N) {μ ς τ ε γ : St} {Γ : Nat → Int64} {δ ρ σ : St} {Λ : Nat → Int64} {dr r0 : Nat} (hR : Rel N μ τ γ Γ ρ σ) (a0 : Int32) (a1 : Int32) : ∃ (r : Int32), fMa_reader N a0 a1 μ ρ = some r ∧ fMo_reader N a0 a1 σ = some r ∧ Rel N μ τ γ Γ ρ σ := by
  have hR' := hR
  obtain ⟨rm, h, kp, len, hN, hC, hM, hT, ⟨y1, y2, y3, y4, y5, y6, y7⟩, hG⟩ := hR'
  unfold fMa_reader fMo_reader
  rcases wiReader hN hC hM N a0 with ⟨i, hi, e, u1, u2⟩ | ⟨u1, u2⟩
  · rw [u1, u2, cl1_s, cl1_s, if_neg one0, if_neg one0]
    rcases wi N a1 0 7 0 7 0 7 (by decide) (by decide) (by decide) (by decide) (by decide) with ⟨w, w1, w2, w3, w4, w5⟩ | ⟨w4, w5⟩
    · rw [w4, w5, cl1_s, cl1_s, if_neg one0, if_neg one0, w3, e]
      by_cases h7 : w = 7
      · rw [h7, if_pos (show nI 7 = (7 : Int32) from rfl), if_pos (show (7 : Int32) ≤ nI 7 by decide), y2, y3]
        exact ⟨_, rfl, rfl, hR⟩
      · rw [if_neg (show ¬ nI w = (7 : Int32) from nI_neq (b := 7) (by omega) (by decide) h7), if_neg (show ¬ (7 : Int32) ≤ nI w from nI_ge (b := 7) (by omega) (by omega)), Ro_number hN hC N hi (by omega), Mo_of hN hM N hi (by omega), cl1_s, cl1_s]
        exact ⟨_, rfl, rfl, hR⟩
    · rw [w4, w5, cl1_s, cl1_s, if_pos rfl, if_pos rfl]
      exact ⟨_, rfl, rfl, hR⟩
  · rw [u1, u2, cl1_s, cl1_s, if_pos rfl, if_pos rfl]
    exact ⟨_, rfl, rfl, hR⟩
theorem P_kind {N : Nat} (hNN : 5000 ≤ N) {μ ς τ ε γ : St} {Γ : Nat → Int64} {δ ρ σ : St} {Λ : Nat → Int64} {dr r0 : Nat} (hR : Rel N μ τ γ Γ ρ σ) (a0 : Int32) : ∃ (r : Int32), fMa_kind N a0 ρ = some r ∧ fMo_kind N a0 σ = some r ∧ Rel N μ τ γ Γ ρ σ := by
  have hR' := hR
  obtain ⟨rm, h, kp, len, hN, hC, hM, hT, hH, hG⟩ := hR'
  have h10 : rm 0 1 ≤ 10 := hN.2.1
  unfold fMa_kind fMo_kind
  rw [gI0 (by decide) (by decide), cz0]
  rcases wiSeat hN hC hM N a0 with ⟨i, hi, e, u1, u2⟩ | ⟨u1, u2⟩
  · have h6 := hM.2.2.2.2.2.2.2.1 i hi
    rw [show 10 * 0 + i = i by omega] at h6
    rw [u1, u2, cl1_s, cl1_s, if_neg one0, if_neg one0, e, Ro_kindOf hN hC N hi, cl1_s, gI_ok (by omega) (by decide), cl_nI (by omega), h6]
    exact ⟨_, rfl, rfl, hR⟩
  · rw [u1, u2, cl1_s, cl1_s, if_pos rfl, if_pos rfl]
    exact ⟨_, rfl, rfl, hR⟩
theorem p2_256 {n : Nat} (h : n ≤ 8) : 2 ^ n ≤ 256 := Nat.pow_le_pow_right (by decide) h
theorem P_hold {N : Nat} (hNN : 5000 ≤ N) {μ ς τ ε γ : St} {Γ : Nat → Int64} {δ ρ σ : St} {Λ : Nat → Int64} {dr r0 : Nat} (hR : Rel N μ τ γ Γ ρ σ) (a0 : Int32) (a1 : Int32) (hb : a1 = 0 ∨ a1 = 1) : ∃ (r : Int32) (μ' : St) (σ' : St), fMa_hold N a0 a1 ρ μ = some (r, μ') ∧ fMo_hold N a0 a1 σ = some (r, σ') ∧ Rel N μ' τ γ Γ ρ σ' := by
  have hR' := hR
  obtain ⟨rm, h, kp, len, hN, hC, hM, ⟨t1, t2, t3, t4⟩, ⟨y1, y2, y3, y4, y5, y6, y7⟩, hG⟩ := hR'
  have h8 : rm 0 0 ≤ 8 := hN.1
  have hp := p2_256 h8
  have key : ∀ x, x < 2 ^ rm 0 0 → Rel N (sA μ 0 (upd (μ 0) 9 (nI x))) τ γ Γ ρ (sA σ 0 (upd (σ 0) 8 (nI x))) := by
    intro x hx
    refine ⟨rm, x, kp, len, hN, hC, hM.to (sA_n _ _ (by decide)) (sA_n _ _ (by decide)) (sA_n _ _ (by decide)) (sA_n _ _ (by decide)) (sA_n _ _ (by decide)), ⟨t1, t2, ?_, ?_⟩, ⟨hx, ?_, ?_, y4, ?_, ?_, ?_⟩, hG⟩
    · rw [sA_s, upd_n _ _ (by decide)]; exact t3
    · rw [sA_n _ _ (by decide)]; exact t4
    · rw [sA_s, upd_s]
    · rw [sA_s, upd_s]
    · rw [sA_s, upd_n _ _ (by decide)]; exact y5
    · rw [sA_s, upd_n _ _ (by decide)]; exact y6
    · rw [sA_n _ _ (by decide), sA_n _ _ (by decide)]; exact y7
  unfold fMa_hold fMo_hold
  rcases wiReader hN hC hM N a0 with ⟨i, hi, e, u1, u2⟩ | ⟨u1, u2⟩
  · rw [u1, u2, cl1_s, cl1_s, if_neg one0, if_neg one0, nm_d, nm_d, y2, y3, e]
    rcases hb with hb | hb
    · rw [if_pos hb, if_pos hb, b_clr h (by omega) i (by omega)]
      unfold fMa_hold_45 fMo_hold_45
      rw [nm_d, nm_d]
      exact ⟨_, _, _, rfl, rfl, key _ (by omega)⟩
    · rw [if_neg (by rw [hb]; decide), if_neg (by rw [hb]; decide), (b_set h (by omega) i (by omega)).1]
      unfold fMa_hold_45 fMo_hold_45
      rw [nm_d, nm_d]
      exact ⟨_, _, _, rfl, rfl, key _ (Nat.or_lt_two_pow y1 (Nat.pow_lt_pow_right (by decide) hi))⟩
  · rw [u1, u2, cl1_s, cl1_s, if_pos rfl, if_pos rfl]
    exact ⟨_, _, _, rfl, rfl, hR⟩
theorem P_keep {N : Nat} (hNN : 5000 ≤ N) {μ ς τ ε γ : St} {Γ : Nat → Int64} {δ ρ σ : St} {Λ : Nat → Int64} {dr r0 : Nat} (hR : Rel N μ τ γ Γ ρ σ) : ∃ (r : Int32) (μ' : St) (σ' : St), fMa_keep N μ = some (r, μ') ∧ fMo_keep N σ = some (r, σ') ∧ Rel N μ' τ γ Γ ρ σ' := by
  have hR' := hR
  obtain ⟨rm, h, kp, len, hN, hC, hM, ⟨t1, t2, t3, t4⟩, ⟨y1, y2, y3, y4, y5, y6, y7⟩, hG⟩ := hR'
  unfold fMa_keep fMo_keep
  rw [y5, y6, if_neg (nI_pos (by omega))]
  by_cases h2 : kp = 2
  · rw [h2, if_neg (show ¬ nI 2 < (2 : Int32) by decide), if_pos (show nI 2 = (2 : Int32) from rfl)]
    exact ⟨_, _, _, rfl, rfl, hR⟩
  · rw [if_pos (show nI kp < (2 : Int32) from nI_lt (b := 2) (by omega) (by omega)), if_neg (show ¬ nI kp = (2 : Int32) from nI_neq (b := 2) (by omega) (by omega) h2), gI_ok (by omega) (by decide), gI_ok (by omega) (by decide), nm_d, nm_d, nm_d, nm_d, cl_nI (by omega), y2, y3]
    rw [sA_s, sA_s, upd_s, upd_s, sA_n μ _ (show 0 ≠ 8 by decide), sA_n σ _ (show 0 ≠ 11 by decide), y5, y6, show nI kp + (1 : Int32) = nI (kp + 1) from (nI_succ _).symm]
    refine ⟨_, _, _, rfl, rfl, rm, h, kp + 1, len, hN, hC, hM.to (by rw [sA_n _ _ (by decide), sA_n _ _ (by decide)]) (by rw [sA_n _ _ (by decide), sA_n _ _ (by decide)]) (by rw [sA_n _ _ (by decide), sA_n _ _ (by decide)]) (by rw [sA_n _ _ (by decide), sA_n _ _ (by decide)]) (by rw [sA_n _ _ (by decide), sA_n _ _ (by decide)]), ⟨t1, t2, ?_, ?_⟩, ⟨y1, ?_, ?_, by omega, ?_, ?_, ?_⟩, hG⟩
    · rw [sA_s, upd_n _ _ (by decide)]; exact t3
    · rw [sA_n _ _ (by decide), sA_n _ _ (by decide)]; exact t4
    · rw [sA_s, upd_n _ _ (by decide)]; exact y2
    · rw [sA_s, upd_n _ _ (by decide)]; exact y3
    · rw [sA_s, upd_s]
    · rw [sA_s, upd_s]
    · intro j hj
      rw [sA_n _ _ (show 8 ≠ 0 by decide), sA_n _ _ (show 11 ≠ 0 by decide), sA_s, sA_s]
      by_cases hk : j = kp
      · rw [hk, upd_s, upd_s]; exact ⟨h, y1, rfl, rfl⟩
      · rw [upd_n _ _ hk, upd_n _ _ hk]; exact y7 j (by omega)
theorem P_back {N : Nat} (hNN : 5000 ≤ N) {μ ς τ ε γ : St} {Γ : Nat → Int64} {δ ρ σ : St} {Λ : Nat → Int64} {dr r0 : Nat} (hR : Rel N μ τ γ Γ ρ σ) : ∃ (r : Int32) (μ' : St) (σ' : St), fMa_back N μ = some (r, μ') ∧ fMo_back N σ = some (r, σ') ∧ Rel N μ' τ γ Γ ρ σ' := by
  have hR' := hR
  obtain ⟨rm, h, kp, len, hN, hC, hM, ⟨t1, t2, t3, t4⟩, ⟨y1, y2, y3, y4, y5, y6, y7⟩, hG⟩ := hR'
  unfold fMa_back fMo_back
  rw [y5, y6]
  cases kp with
  | zero =>
    rw [if_pos (show nI 0 < (1 : Int32) by decide), if_pos (show nI 0 = (0 : Int32) from rfl)]
    exact ⟨_, _, _, rfl, rfl, hR⟩
  | succ k =>
    obtain ⟨x, x1, x2, x3⟩ := y7 k (by omega)
    rw [if_neg (show ¬ nI (k + 1) < (1 : Int32) from nI_nlt (b := 1) (by omega) (by omega)), if_pos (show nI (k + 1) ≤ (2 : Int32) from nI_le (b := 2) (by omega) (by omega)), if_neg (show ¬ nI (k + 1) = (0 : Int32) from nI_neq (b := 0) (by omega) (by omega) (by omega)), nm_d, nm_d, nm_d, nm_d, show nI (k + 1) - (1 : Int32) = nI k from nI_pred k]
    simp only [sA_s, upd_s, upd_n _ _ (show 8 ≠ 9 by decide), upd_n _ _ (show 9 ≠ 8 by decide)]
    rw [gI_ok (by omega) (by decide), gI_ok (by omega) (by decide), cl_nI (by omega), sA_n μ _ (show 8 ≠ 0 by decide), sA_n σ _ (show 11 ≠ 0 by decide), x2, x3]
    refine ⟨_, _, _, rfl, rfl, rm, x, k, len, hN, hC, hM.to (by rw [sA_n _ _ (by decide), sA_n _ _ (by decide)]) (by rw [sA_n _ _ (by decide), sA_n _ _ (by decide)]) (by rw [sA_n _ _ (by decide), sA_n _ _ (by decide)]) (by rw [sA_n _ _ (by decide), sA_n _ _ (by decide)]) (by rw [sA_n _ _ (by decide), sA_n _ _ (by decide)]), ⟨t1, t2, ?_, ?_⟩, ⟨x1, ?_, ?_, by omega, ?_, ?_, ?_⟩, hG⟩
    · rw [sA_s, upd_n _ _ (by decide), upd_n _ _ (by decide)]; exact t3
    · rw [sA_n _ _ (by decide), sA_n _ _ (by decide)]; exact t4
    · rw [sA_s, upd_s]
    · rw [sA_s, upd_s]
    · rw [sA_s, upd_n _ _ (by decide), upd_s]
    · rw [sA_s, upd_n _ _ (by decide), upd_s]
    · intro j hj
      rw [sA_n _ _ (by decide), sA_n _ _ (by decide), sA_n _ _ (by decide), sA_n _ _ (by decide)]
      exact y7 j (by omega)
theorem P_count {N : Nat} (hNN : 5000 ≤ N) {μ ς τ ε γ : St} {Γ : Nat → Int64} {δ ρ σ : St} {Λ : Nat → Int64} {dr r0 : Nat} (hR : Rel N μ τ γ Γ ρ σ) (a0 : Int32) : ∃ (r : Int32), fMa_count N a0 μ τ ρ = some r ∧ fMo_count N a0 σ = some r ∧ Rel N μ τ γ Γ ρ σ := by
  have hR' := hR
  obtain ⟨rm, h, kp, len, hN, hC, hM, ⟨t1, t2, t3, t4⟩, ⟨y1, y2, y3, y4, y5, y6, y7⟩, hG⟩ := hR'
  have hp := p2_256 hN.1
  unfold fMa_count fMo_count
  rw [gI0 (by decide) (by decide), gI0 (by decide) (by decide), cz0, hM.1, hM.2.1]
  by_cases h0 : a0 = 0
  · rw [if_pos h0, if_pos h0]; unfold fRo_seatCount; rw [hC.1]; exact ⟨_, rfl, rfl, hR⟩
  rw [if_neg h0, if_neg h0]
  by_cases h1 : a0 = 1
  · rw [if_pos h1, if_pos h1]; unfold fRo_readerCount; rw [hC.2.1]; exact ⟨_, rfl, rfl, hR⟩
  rw [if_neg h1, if_neg h1]
  by_cases h2 : a0 = 2
  · rw [if_pos h2, if_pos h2]; unfold fTe_length; rw [t2, t3]; exact ⟨_, rfl, rfl, hR⟩
  rw [if_neg h2, if_neg h2]
  by_cases h3 : a0 = 3
  · rw [if_pos h3, if_pos h3, y2, y3, Mo_many (by omega) (by omega), bc_any, cl1_s, cl1_s]; exact ⟨_, rfl, rfl, hR⟩
  rw [if_neg h3, if_neg h3]
  by_cases h4 : a0 = 4
  · rw [if_pos h4, if_pos h4, y5, y6]; exact ⟨_, rfl, rfl, hR⟩
  rw [if_neg h4, if_neg h4]
  exact ⟨_, rfl, rfl, hR⟩
