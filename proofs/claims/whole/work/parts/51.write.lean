/-! writing a row of bytes -/
theorem sh_u : ∀ k, k < 8 → ((((8 : Int32) * nI k).toInt64.toUInt64 &&& Int64.toUInt64 63).toBitVec % 64#64) = BitVec.ofNat 64 (8 * k) := by decide +kernel
theorem sh_s : ∀ k, k < 8 → ((((8 : Int32) * nI k).toInt64 &&& 63).toBitVec.smod 64#64) = BitVec.ofNat 64 (8 * k) := by decide +kernel
theorem by_eq (v : Int64) {k : Nat} (hk : k < 8) : ((((v.toUInt64 >>> (((8 : Int32) * nI k).toInt64.toUInt64 &&& Int64.toUInt64 63)).toInt64).toInt32).toInt8.toInt32) = (((v >>> (((8 : Int32) * nI k).toInt64 &&& 63)).toInt32).toInt8.toInt32) := by
  congr 1
  apply Int8.toBitVec_inj.mp
  have e1 : (v.toUInt64 >>> (((8 : Int32) * nI k).toInt64.toUInt64 &&& Int64.toUInt64 63)).toInt64.toBitVec = v.toBitVec >>> (8 * k) := by
    show (v.toUInt64 >>> (((8 : Int32) * nI k).toInt64.toUInt64 &&& Int64.toUInt64 63)).toBitVec = _
    rw [UInt64.toBitVec_shiftRight]
    show v.toBitVec >>> ((((8 : Int32) * nI k).toInt64.toUInt64 &&& Int64.toUInt64 63).toBitVec % 64#64) = _
    rw [sh_u k hk, BitVec.ushiftRight_eq', BitVec.toNat_ofNat, Nat.mod_eq_of_lt (by omega)]
  have e2 : (v >>> (((8 : Int32) * nI k).toInt64 &&& 63)).toBitVec = v.toBitVec.sshiftRight (8 * k) := by
    rw [Int64.toBitVec_shiftRight]
    show v.toBitVec.sshiftRight' ((((8 : Int32) * nI k).toInt64 &&& 63).toBitVec.smod 64#64) = _
    rw [sh_s k hk, BitVec.sshiftRight_eq', BitVec.toNat_ofNat, Nat.mod_eq_of_lt (by omega)]
  show ((v.toUInt64 >>> (((8 : Int32) * nI k).toInt64.toUInt64 &&& Int64.toUInt64 63)).toInt64.toBitVec.signExtend 32).signExtend 8 = ((v >>> (((8 : Int32) * nI k).toInt64 &&& 63)).toBitVec.signExtend 32).signExtend 8
  rw [e1, e2]
  apply BitVec.eq_of_getLsbD_eq
  intro i hi
  have d1 : decide (i < 8) = true := decide_eq_true hi
  simp only [BitVec.getLsbD_signExtend, hi, BitVec.getLsbD_ushiftRight, BitVec.getLsbD_sshiftRight, show i < 32 by omega, show i < 64 by omega, show ¬ 64 ≤ i by omega, show 8 * k + i < 64 by omega, if_true, decide_true, decide_false, Bool.not_false, Bool.true_and]
theorem write_loop {N : Nat} (v : Int64) : ∀ (r len : Nat) (τ σ : St), r ≤ 8 → len + r ≤ 400 → TextR len τ σ → ∃ τ' σ', TextR (len + r) τ' σ' ∧ (∀ j, j ≠ 0 → j ≠ 2 → σ' j = σ j) ∧ (∀ k, k ≠ 0 → σ' 0 k = σ 0 k) ∧ ∀ n, r ≤ n → fTe_append_25 N (n + 1) v (nI r - 1) τ = some ((1 : Int32), τ') ∧ fMo_write_34 N (n + 1) v (nI r - 1) σ = some (nI (len + r), σ') := by
  intro r
  induction r with
  | zero =>
    intro len τ σ _ hl hT
    refine ⟨τ, σ, hT, fun _ _ _ => rfl, fun _ _ => rfl, fun n _ => ?_⟩
    rw [fTe_append_25, fMo_write_34, if_pos (show nI 0 - 1 < 0 by decide), if_pos (show nI 0 - 1 < 0 by decide), hT.2.2.1]
    exact ⟨rfl, rfl⟩
  | succ r ih =>
    intro len τ σ hr hl hT
    obtain ⟨t1, t2, t3, t4⟩ := hT
    have hx := by_eq v (k := r) (by omega)
    generalize hX : (((v >>> (((8 : Int32) * nI r).toInt64 &&& 63)).toInt32).toInt8.toInt32) = X at hx
    have hXb : byteOK X := by
      unfold byteOK
      rw [← hX]
      exact congrArg Int8.toInt32 (by simp)
    obtain ⟨τ', σ', a1, a2, a3, a4⟩ := ih (len + 1) (sA (sA τ 1 (upd (τ 1) len X)) 0 (upd (τ 0) 1 (nI (len + 1)))) (sA (sA σ 2 (upd (σ 2) len X)) 0 (upd (σ 0) 0 (nI (len + 1)))) (by omega) (by omega) ⟨by omega, by rw [sA_s, upd_s], by rw [sA_s, upd_s], fun j hj => by
      rw [sA_n _ _ (show 1 ≠ 0 by decide), sA_n _ _ (show 2 ≠ 0 by decide), sA_s, sA_s]
      by_cases e : j = len
      · rw [e, upd_s, upd_s]; exact ⟨rfl, hXb⟩
      · rw [upd_n _ _ e, upd_n _ _ e]; exact t4 j (by omega)⟩
    refine ⟨τ', σ', by rw [show len + (r + 1) = len + 1 + r by omega]; exact a1, fun j h0 h2 => by rw [a2 j h0 h2, sA_n _ _ h0, sA_n _ _ h2], fun k hk => by rw [a3 k hk, sA_s, upd_n _ _ hk], fun n hn => ?_⟩
    obtain ⟨n', rfl⟩ : ∃ n', n = n' + 1 := ⟨n - 1, by omega⟩
    obtain ⟨b1, b2⟩ := a4 n' (by omega)
    have em : nI r + (-1) = nI r - 1 := (Int32.sub_eq_add_neg _ _).symm
    rw [fTe_append_25, fMo_write_34, nI_pred, if_neg (nI_pos (by omega)), if_neg (nI_pos (by omega)), t2, t3, gI_ok (by omega) (by decide), gI_ok (by omega) (by decide), nm_d, nm_d, nm_d, nm_d, nm_d, nm_d, cl_nI (by omega), pk_vb, pk_vb, hx, hX, em]
    rw [sA_n τ _ (show 0 ≠ 1 by decide), sA_n σ _ (show 0 ≠ 2 by decide), t2, t3, nI_1, show len + (r + 1) = len + 1 + r by omega]
    exact ⟨b1, b2⟩
theorem P_write {N : Nat} (hNN : 5000 ≤ N) {μ ς τ ε γ : St} {Γ : Nat → Int64} {δ ρ σ : St} {Λ : Nat → Int64} {dr r0 : Nat} (hR : Rel N μ τ γ Γ ρ σ) (a0 : Int32) (a1 : Int64) : ∃ (r : Int32) (τ' : St) (σ' : St), fMa_write N a0 a1 τ = some (r, τ') ∧ fMo_write N a0 a1 σ = some (r, σ') ∧ Rel N μ τ' γ Γ ρ σ' := by
  have hR' := hR
  obtain ⟨rm, h, kp, len, hN, hC, hM, hT, ⟨y1, y2, y3, y4, y5, y6, y7⟩, hG⟩ := hR'
  obtain ⟨t1, t2, t3, t4⟩ := id hT
  unfold fMa_write fMo_write
  rcases wi N a0 1 8 1 8 1 8 (by decide) (by decide) (by decide) (by decide) (by decide) with ⟨w, w1, w2, w3, w4, w5⟩ | ⟨w4, w5⟩
  rotate_left
  · rw [w4, w5, cl1_s, cl1_s, if_pos rfl, if_pos rfl]; exact ⟨_, _, _, rfl, rfl, hR⟩
  rw [w4, w5, cl1_s, cl1_s, if_neg one0, if_neg one0, w3, t3, nI_add]
  unfold fTe_append
  rw [if_neg (nI_pos (by omega)), t2, show (400 : Int32) = nI 400 from rfl, pk_sub t1, nm_d, nm_d]
  by_cases hl : len + w ≤ 400
  · rw [if_pos (nI_le (by omega) (by omega)), if_pos (nI_le hl (by omega))]
    obtain ⟨τ', σ', b1, b2, b3, b4⟩ := write_loop (N := N) a1 w len τ σ (by omega) hl hT
    obtain ⟨n, hn⟩ : ∃ n, N = n + 1 := ⟨N - 1, by omega⟩
    obtain ⟨c1, c2⟩ := b4 n (by omega)
    have c1' : fTe_append_25 N N a1 (nI w - 1) τ = some ((1 : Int32), τ') := by
      have := c1
      rwa [← hn] at this
    have c2' : fMo_write_34 N N a1 (nI w - 1) σ = some (nI (len + w), σ') := by
      have := c2
      rwa [← hn] at this
    rw [c1', c2', cl2_s, if_neg one0]
    unfold fTe_length
    rw [cl1_s, b1.2.1]
    refine ⟨_, _, _, rfl, rfl, rm, h, kp, len + w, hN, hC, hM.to (b2 4 (by decide) (by decide)) (b2 5 (by decide) (by decide)) (b2 6 (by decide) (by decide)) (b2 7 (by decide) (by decide)) (b2 8 (by decide) (by decide)), b1, ⟨y1, y2, ?_, y4, y5, ?_, ?_⟩, hG⟩
    · rw [b3 8 (by decide)]; exact y3
    · rw [b3 9 (by decide)]; exact y6
    · rw [b2 11 (by decide) (by decide)]; exact y7
  · rw [if_neg (nI_ge (by omega) (by omega)), if_neg (nI_ge (by omega) (by omega)), fTe_append_18, cl2_s, if_pos rfl]
    exact ⟨_, _, _, rfl, rfl, hR⟩
