/-! eight small numbers in one long -/
def pm (δ : St) : Nat → Int64 → Int64
  | 0, acc => acc
  | r + 1, acc => pm δ r ((acc <<< ((8 : Int32).toInt64 &&& 63)) ||| (δ 4 r).toInt64)
theorem pack_loop (N : Nat) (δ : St) : ∀ (r : Nat) (acc : Int64), r ≤ 8 → ∀ n, r ≤ n → fDa_packedMinutes_5 N δ (n + 1) acc (nI r - 1) = some (pm δ r acc) := by
  intro r
  induction r with
  | zero =>
    intro acc _ n _
    rw [fDa_packedMinutes_5, if_pos (show nI 0 - 1 < 0 by decide)]; rfl
  | succ r ih =>
    intro acc hr n hn
    obtain ⟨n', rfl⟩ : ∃ n', n = n' + 1 := ⟨n - 1, by omega⟩
    rw [fDa_packedMinutes_5, nI_pred, if_neg (nI_pos (by omega)), gI_ok (by omega) (by decide), cl_nI (by omega), nm_d, nm_d, show nI r + (-1) = nI r - 1 from (Int32.sub_eq_add_neg _ _).symm]
    exact ih _ (by omega) n' (by omega)
theorem Da_packed {N : Nat} (hNN : 100 ≤ N) (δ : St) : fDa_packedMinutes N δ = some (pm δ 8 0) := by
  obtain ⟨n, rfl⟩ : ∃ n, N = n + 1 := ⟨N - 1, by omega⟩
  exact pack_loop (n + 1) δ 8 0 (by omega) n (by omega)
theorem step_bits (acc d : Int64) (t : Nat) : ((acc <<< ((8 : Int32).toInt64 &&& 63)) ||| d).toBitVec.getLsbD t = ((decide (t < 64) && !decide (t < 8) && acc.toBitVec.getLsbD (t - 8)) || d.toBitVec.getLsbD t) := by
  have e : (acc <<< ((8 : Int32).toInt64 &&& 63)).toBitVec = acc.toBitVec <<< 8 := by
    rw [Int64.toBitVec_shiftLeft]
    show acc.toBitVec <<< ((((8 : Int32).toInt64 &&& 63).toBitVec).smod 64#64) = _
    rw [show ((((8 : Int32).toInt64 &&& 63).toBitVec).smod 64#64) = 8#64 by decide +kernel, BitVec.shiftLeft_eq']
    rfl
  rw [Int64.toBitVec_or, e, BitVec.getLsbD_or, BitVec.getLsbD_shiftLeft]
theorem small_bits {q t : Nat} (hq : q < 256) : ((nI q).toInt64).toBitVec.getLsbD t = q.testBit t := by
  rw [nI_l (by omega)]
  show (BitVec.ofNat 64 q).getLsbD t = _
  rw [BitVec.getLsbD_ofNat]
  by_cases h : t < 64
  · rw [decide_eq_true h, Bool.true_and]
  · rw [decide_eq_false h, Bool.false_and, Nat.testBit_lt_two_pow (Nat.lt_of_lt_of_le hq (show 2 ^ 8 ≤ 2 ^ t from Nat.pow_le_pow_right (by decide) (by omega)))]
theorem big_bit {q t : Nat} (hq : q < 256) (h : 8 ≤ t) : q.testBit t = false := Nat.testBit_lt_two_pow (Nat.lt_of_lt_of_le hq (show 2 ^ 8 ≤ 2 ^ t from Nat.pow_le_pow_right (by decide) h))
theorem pm_up (δ : St) : ∀ (r : Nat) (acc : Int64) (t : Nat), (∀ k, k < r → ∃ q, q < 256 ∧ δ 4 k = nI q) → 8 * r + t < 64 → (pm δ r acc).toBitVec.getLsbD (8 * r + t) = acc.toBitVec.getLsbD t := by
  intro r
  induction r with
  | zero => intro acc t _ _; rw [show 8 * 0 + t = t by omega]; rfl
  | succ r ih =>
    intro acc t hk ht
    obtain ⟨q, q1, q2⟩ := hk r (by omega)
    rw [pm, show 8 * (r + 1) + t = 8 * r + (8 + t) by omega, ih _ (8 + t) (fun k hk' => hk k (by omega)) (by omega), step_bits, q2, small_bits q1, big_bit q1 (by omega), decide_eq_true (show 8 + t < 64 by omega), decide_eq_false (show ¬ 8 + t < 8 by omega), show 8 + t - 8 = t by omega, Bool.or_false]
    rfl
theorem pm_at (δ : St) {i t q : Nat} (ht : t < 8) (hs : ∀ k, k ≤ i → ∃ q, q < 256 ∧ δ 4 k = nI q) (hq : q < 256) (e : δ 4 i = nI q) : ∀ (r : Nat) (acc : Int64), i < r → 8 * i + t < 64 → (pm δ r acc).toBitVec.getLsbD (8 * i + t) = q.testBit t := by
  intro r
  induction r with
  | zero => intro acc hi; exact absurd hi (by omega)
  | succ r ih =>
    intro acc hi h64
    by_cases h : i = r
    · subst h
      rw [pm, pm_up δ i _ t (fun k hk => hs k (by omega)) h64, step_bits, e, small_bits hq, decide_eq_true ht]
      simp
    · rw [pm]
      exact ih _ (by omega) h64
theorem pack_byte (δ : St) {i q : Nat} (hi : i < 8) (hs : ∀ k, k ≤ i → ∃ q, q < 256 ∧ δ 4 k = nI q) (hq : q < 256) (e : δ 4 i = nI q) : (((((pm δ 8 0).toUInt64 >>> (((8 : Int32) * nI i).toInt64.toUInt64 &&& Int64.toUInt64 63)).toInt64).toInt32) &&& (255 : Int32)) = nI q := by
  apply Int32.toBitVec_inj.mp
  have e1 : ((pm δ 8 0).toUInt64 >>> (((8 : Int32) * nI i).toInt64.toUInt64 &&& Int64.toUInt64 63)).toInt64.toBitVec = (pm δ 8 0).toBitVec >>> (8 * i) := by
    show ((pm δ 8 0).toUInt64 >>> (((8 : Int32) * nI i).toInt64.toUInt64 &&& Int64.toUInt64 63)).toBitVec = _
    rw [UInt64.toBitVec_shiftRight]
    show (pm δ 8 0).toBitVec >>> ((((8 : Int32) * nI i).toInt64.toUInt64 &&& Int64.toUInt64 63).toBitVec % 64#64) = _
    rw [sh_u i hi, BitVec.ushiftRight_eq', BitVec.toNat_ofNat, Nat.mod_eq_of_lt (by omega)]
  rw [Int32.toBitVec_and]
  show (((pm δ 8 0).toUInt64 >>> (((8 : Int32) * nI i).toInt64.toUInt64 &&& Int64.toUInt64 63)).toInt64.toBitVec.signExtend 32) &&& (255 : Int32).toBitVec = BitVec.ofNat 32 q
  rw [e1]
  apply BitVec.eq_of_getLsbD_eq
  intro t ht
  have m255 : ∀ t, t < 32 → (255 : Int32).toBitVec.getLsbD t = decide (t < 8) := by decide +kernel
  rw [BitVec.getLsbD_and, m255 t ht, BitVec.getLsbD_ofNat, decide_eq_true ht, Bool.true_and]
  by_cases h8 : t < 8
  · rw [decide_eq_true h8, Bool.and_true, BitVec.getLsbD_signExtend, decide_eq_true ht, Bool.true_and, if_pos (by omega), BitVec.getLsbD_ushiftRight]
    exact pm_at δ h8 hs hq e 8 0 hi (by omega)
  · rw [decide_eq_false h8, Bool.and_false, big_bit hq (by omega)]
