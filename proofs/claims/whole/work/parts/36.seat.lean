/-! which seat one takes -/
def cO (o : Option Nat) : Int32 := match o with
  | none => -1
  | some b => nI b
def bestS (fr : Nat → Bool) (w : Nat → Nat) : Nat → Option Nat
  | 0 => none
  | n + 1 => match fr n, bestS fr w n with
    | false, o => o
    | true, none => some n
    | true, some b => if w b < w n then some n else some b
theorem bestS_lt (fr : Nat → Bool) (w : Nat → Nat) : ∀ {n b : Nat}, bestS fr w n = some b → b < n
  | 0, b, h => by cases h
  | n + 1, b, h => by
    unfold bestS at h
    cases hf : fr n with
    | false =>
      rw [hf] at h
      have := bestS_lt fr w (n := n) h
      omega
    | true =>
      rw [hf] at h
      cases hb : bestS fr w n with
      | none => rw [hb] at h; cases h; omega
      | some c =>
        rw [hb] at h
        have hc := bestS_lt fr w hb
        dsimp only at h
        split at h
        · cases h; omega
        · cases h; omega
def mstS (w : Nat → Nat) (o : Option Nat) : Int32 := match o with
  | none => -1
  | some b => nI (w b)
theorem cO_n : cO none = -1 := rfl
theorem cO_s (b : Nat) : cO (some b) = nI b := rfl
theorem mS_n (w : Nat → Nat) : mstS w none = -1 := rfl
theorem mS_s (w : Nat → Nat) (b : Nat) : mstS w (some b) = nI (w b) := rfl
def fsS (p : Nat → Bool) (k : Nat) : Nat → Option Nat
  | 0 => none
  | j + 1 => if p k then some k else fsS p (k + 1) j
theorem fsS_lt (p : Nat → Bool) : ∀ {j k b : Nat}, fsS p k j = some b → b < k + j
  | 0, k, b, h => by cases h
  | j + 1, k, b, h => by
    unfold fsS at h
    split at h
    · cases h; omega
    · have := fsS_lt p (j := j) h
      omega
theorem Da_free_step {N : Nat} {ρ δ : St} {k w ns : Nat} {lk kd : Int32} (hns : δ 0 10 = nI ns) (hk : k < ns) (h10 : ns ≤ 10) (c1 : δ 6 k = -1) (c2 : δ 7 k = -1) (hkd : fRo_kindOf N (nI k) ρ = some kd) (hbc : fBc_bitCount_0f7a4 N (kd &&& lk) = some (nI w)) (n : Nat) (v3 v4 : Int32) :
    fDa_freeSeatFor_18 N δ ρ (n + 1) lk v3 v4 (nI k) = if nI w ≤ v4 then fDa_freeSeatFor_18 N δ ρ n lk v3 v4 (nI (k + 1)) else fDa_freeSeatFor_18 N δ ρ n lk (nI k) (nI w) (nI (k + 1)) := by
  have dl : ¬ δ 0 10 ≤ nI k := by rw [hns]; exact nI_ge hk (by omega)
  rw [fDa_freeSeatFor_18, if_neg dl, gI_ok (by omega) (by decide), cl_nI (by omega), if_pos c1, gI_ok (by omega) (by decide), if_pos c2, hkd, cl1_s, hbc, cl1_s]
  unfold fDa_freeSeatFor_82
  rw [nm_d, nm_d, nI_1]
theorem Mo_free_step {N : Nat} {σ : St} {k b ns wk wb : Nat} {lk : Int32} (hns : σ 4 0 = nI ns) (hk : k < ns) (hb : b < ns) (h10 : ns ≤ 10) (c1 : σ 19 k = -1) (c2 : σ 20 k = -1) {v1 v2 v3 : Int32} (hof : fMo_of N v2 (4 : Int32) σ = some lk) (hbk : fMo_bits N (σ 6 k &&& lk) = some (nI wk)) (hbb : fMo_bits N (σ 6 b &&& lk) = some (nI wb)) (n : Nat) :
    fMo_takesSeat_6 N σ (n + 1) v1 v2 v3 (nI b) (nI k) = if nI wk ≤ nI wb then fMo_takesSeat_6 N σ n v1 v2 v3 (nI b) (nI (k + 1)) else fMo_takesSeat_6 N σ n v1 v2 v3 (nI k) (nI (k + 1)) := by
  have ml : ¬ σ 4 0 ≤ nI k := by rw [hns]; exact nI_ge hk (by omega)
  have g2 : ∀ x : Option Int32, gI (0 : Int32) 2 x = x := fun x => gI_ok (k := 0) (by decide) (by decide) x
  rw [fMo_takesSeat_6, g2, sb_cl0, if_neg ml, gI_ok (by omega) (by decide), cl_nI (show k < 2 ^ 31 by omega), c1, if_neg m1_nle, gI_ok (by omega) (by decide), c2, if_neg m1_nle, if_neg (nI_pos (show b < 2 ^ 31 by omega)), gI_ok (by omega) (by decide), hof, cl1_s, hbk, cl1_s, gI_ok (by omega) (by decide), cl1_s, cl_nI (show b < 2 ^ 31 by omega), hbb, cl1_s]
  unfold fMo_takesSeat_86 fMo_takesSeat_79 fMo_takesSeat_86 fMo_takesSeat_88
  rw [nm_d, nm_d, nI_1]
section DAY
variable {rm : Nat → Nat → Nat} {ru hm hc ca po t : Nat} {lt : Nat → Nat} {σ0 : St} {rn us : Int32} {f8 f25 : Nat → Int32} {pend : Nat → Bool} {δ σ ρ : St}
def frS (δ : St) (s : Nat) : Bool := decide (δ 6 s = -1) && decide (δ 7 s = -1)
def wS (rm : Nat → Nat → Nat) (r s : Nat) : Nat := kl (rm 1 s) (rm (r + 2) 4)
theorem DR.held (h : DR rm ru hm hc ca po t lt σ0 rn us f8 f25 pend δ σ) {s : Nat} (hs : s < rm 0 1) : (δ 7 s = -1 ∧ σ 20 s = -1) ∨ ∃ i, i < rm 0 0 ∧ δ 7 s = nI i ∧ σ 20 s = nI i ∧ δ 3 i = σ 16 i := by
  obtain ⟨a1, a2, a3, a4⟩ := h.2.2.2.1 s hs
  rcases a4 with a4 | ⟨i, hi, b1, b2, b3⟩
  · exact Or.inl ⟨a2.trans a4, a4⟩
  · refine Or.inr ⟨i, hi, a2.trans b1, b1, ?_⟩
    have hpn : pend i = false := by
      rcases (h.2.2.1 i hi).2 with ⟨-, z, -⟩ | ⟨z, -⟩
      · rw [b2] at z; cases z
      · exact z
    obtain ⟨-, ⟨w, hw, w1, w2⟩, -⟩ := (h.st hi hpn).2.three b2
    rw [w1, w2]
theorem DR.sits (hN : rmN rm) (h : DR rm ru hm hc ca po t lt σ0 rn us f8 f25 pend δ σ) {s : Nat} (hs : s < rm 0 1) : (δ 6 s = -1 ∧ σ 19 s = -1) ∨ (¬ δ 6 s = -1 ∧ 0 ≤ σ 19 s) := by
  have h08 := hN.1
  obtain ⟨a1, a2, a3, a4⟩ := h.2.2.2.1 s hs
  rcases a3 with a3 | ⟨i, hi, b1, b2, b3⟩
  · exact Or.inl ⟨a1.trans a3, a3⟩
  · refine Or.inr ⟨?_, ?_⟩
    · rw [a1, b1]; exact nI_nm1 (by omega)
    · rw [b1]; exact nI_pos' (by omega)
theorem Da_best (hN : rmN rm) (hC : RoomC rm ρ) (N : Nat) (h : DR rm ru hm hc ca po t lt σ0 rn us f8 f25 pend δ σ) {r : Nat} (hr : r < rm 0 0) : ∀ (j k n : Nat), k + j = rm 0 1 →
    fDa_freeSeatFor_18 N δ ρ (n + 1 + j) (nI (rm (r + 2) 4)) (cO (bestS (frS δ) (wS rm r) k)) (mstS (wS rm r) (bestS (frS δ) (wS rm r) k)) (nI k) = some (cO (bestS (frS δ) (wS rm r) (rm 0 1))) := by
  have h10 := hN.2.1
  intro j
  induction j with
  | zero =>
    intro k n hk
    have hk : k = rm 0 1 := by omega
    subst hk
    have dl : δ 0 10 ≤ nI (rm 0 1) := by rw [h.2.1.2.1]; exact nI_le (Nat.le_refl _) (by omega)
    simp only [Nat.add_zero, fDa_freeSeatFor_18, dl, ↓reduceIte]
  | succ j ih =>
    intro k n hk
    have hks : k < rm 0 1 := by omega
    have dl : ¬ δ 0 10 ≤ nI k := by rw [h.2.1.2.1]; exact nI_ge hks (by omega)
    have g10 : ∀ x : Option Int32, gI (nI k) 10 x = x := fun x => gI_ok (by omega) (by decide) x
    have ck : (nI k).toNatClampNeg = k := cl_nI (by omega)
    have hkd := Ro_kindOf hN hC N hks
    have hb4 := (hN.2.2.2.2.2.2.2.2 r hr).2.2.2.2.1
    have hk3 := hN.2.2.2.2.2.2.2.1 k hks
    have hbc : fBc_bitCount_0f7a4 N (nI (rm 1 k) &&& nI (rm (r + 2) 4)) = some (nI (wS rm r k)) := by
      rw [bc_any, (bc_kl (rm 1 k) (by omega) (rm (r + 2) 4) (by omega)).1]
      rfl
    have hw2 : ∀ s, s < rm 0 1 → wS rm r s ≤ 2 := fun s hs => (bc_kl (rm 1 s) (by have := hN.2.2.2.2.2.2.2.1 s hs; omega) (rm (r + 2) 4) (by omega)).2.2
    have hwk := hw2 k hks
    have hih := ih (k + 1) n (by omega)
    rw [show n + 1 + (j + 1) = (n + 1 + j) + 1 by omega]
    have e1 : bestS (frS δ) (wS rm r) (k + 1) = (match frS δ k, bestS (frS δ) (wS rm r) k with | false, o => o | true, none => some k | true, some b => if wS rm r b < wS rm r k then some k else some b) := by rw [bestS]
    by_cases c1 : δ 6 k = -1
    · by_cases c2 : δ 7 k = -1
      · have hf : frS δ k = true := by simp [frS, c1, c2]
        rw [hf] at e1
        cases hb : bestS (frS δ) (wS rm r) k with
        | none =>
          rw [hb] at e1
          rw [e1] at hih
          simp only [cO_n, cO_s, mS_n, mS_s] at hih
          have cm : ¬ nI (wS rm r k) ≤ -1 := by
            intro z
            have z2 := Int32.le_iff_toInt_le.mp z
            rw [nI_toInt (by omega)] at z2
            have : (-1 : Int32).toInt = -1 := by decide
            omega
          rw [cO_n, mS_n, Da_free_step h.2.1.2.1 hks h10 c1 c2 hkd hbc, if_neg cm]
          exact hih
        | some b =>
          have hbl := bestS_lt _ _ hb
          have hwb := hw2 b (by omega)
          rw [hb] at e1
          by_cases c3 : wS rm r b < wS rm r k
          · have e1 : bestS (frS δ) (wS rm r) (k + 1) = some k := by rw [e1]; exact if_pos c3
            rw [e1] at hih
            simp only [cO_n, cO_s, mS_n, mS_s] at hih
            have cm : ¬ nI (wS rm r k) ≤ nI (wS rm r b) := nI_ge c3 (by omega)
            rw [cO_s, mS_s, Da_free_step h.2.1.2.1 hks h10 c1 c2 hkd hbc, if_neg cm]
            exact hih
          · have e1 : bestS (frS δ) (wS rm r) (k + 1) = some b := by rw [e1]; exact if_neg c3
            rw [e1] at hih
            simp only [cO_n, cO_s, mS_n, mS_s] at hih
            have cm : nI (wS rm r k) ≤ nI (wS rm r b) := nI_le (by omega) (by omega)
            rw [cO_s, mS_s, Da_free_step h.2.1.2.1 hks h10 c1 c2 hkd hbc, if_pos cm]
            exact hih
      · have hf : frS δ k = false := by simp [frS, c2]
        rw [hf] at e1
        have e1 : bestS (frS δ) (wS rm r) (k + 1) = bestS (frS δ) (wS rm r) k := e1
        rw [e1] at hih
        simp only [fDa_freeSeatFor_18, dl, ↓reduceIte, g10, ck, c1, c2, fDa_freeSeatFor_82, nm_d, nI_1]
        exact hih
    · have hf : frS δ k = false := by simp [frS, c1]
      rw [hf] at e1
      have e1 : bestS (frS δ) (wS rm r) (k + 1) = bestS (frS δ) (wS rm r) k := e1
      rw [e1] at hih
      simp only [fDa_freeSeatFor_18, dl, ↓reduceIte, g10, ck, c1, fDa_freeSeatFor_82, nm_d, nI_1]
      exact hih
theorem Mo_best (hN : rmN rm) (hM : RoomM rm 0 σ0) (N : Nat) (h : DR rm ru hm hc ca po t lt σ0 rn us f8 f25 pend δ σ) {r : Nat} (hr : r < rm 0 0) (v1 v3 : Int32) : ∀ (j k n : Nat), k + j = rm 0 1 →
    fMo_takesSeat_6 N σ (n + 1 + j) v1 (nI r) v3 (cO (bestS (frS δ) (wS rm r) k)) (nI k) = fMo_takesSeat_97 N σ N v1 (nI r) v3 (cO (bestS (frS δ) (wS rm r) (rm 0 1))) (0 : Int32) := by
  have h10 := hN.2.1
  have h08 := hN.1
  have hM' := h.1.room hM
  have g2 : ∀ x : Option Int32, gI (0 : Int32) 2 x = x := fun x => gI_ok (k := 0) (by decide) (by decide) x
  have c0 : (0 : Int32).toNatClampNeg = 0 := sb_cl0
  intro j
  induction j with
  | zero =>
    intro k n hk
    have hk : k = rm 0 1 := by omega
    subst hk
    have ml : σ 4 0 ≤ nI (rm 0 1) := by rw [hM'.1]; exact nI_le (Nat.le_refl _) (by omega)
    simp only [Nat.add_zero, fMo_takesSeat_6, g2, c0, ml, ↓reduceIte]
  | succ j ih =>
    intro k n hk
    have hks : k < rm 0 1 := by omega
    have ml : ¬ σ 4 0 ≤ nI k := by rw [hM'.1]; exact nI_ge hks (by omega)
    have g10 : ∀ x : Option Int32, gI (nI k) 10 x = x := fun x => gI_ok (by omega) (by decide) x
    have g20 : ∀ x : Option Int32, gI (nI k) 20 x = x := fun x => gI_ok (by omega) (by decide) x
    have ck : (nI k).toNatClampNeg = k := cl_nI (by omega)
    have hb4 := (hN.2.2.2.2.2.2.2.2 r hr).2.2.2.2.1
    have hof : fMo_of N (nI r) (4 : Int32) σ = some (nI (rm (r + 2) 4)) := Mo_of hN hM' N hr (w := 4) (by decide)
    have hkd : ∀ s, s < rm 0 1 → σ 6 s = nI (rm 1 s) := fun s hs => by have := hM'.2.2.2.2.2.2.2.1 s hs; simpa using this
    have hbt : ∀ s, s < rm 0 1 → fMo_bits N (σ 6 s &&& nI (rm (r + 2) 4)) = some (nI (wS rm r s)) ∧ wS rm r s ≤ 2 := fun s hs => by
      have hk3 := hN.2.2.2.2.2.2.2.1 s hs
      obtain ⟨z1, z2, z3⟩ := bc_kl (rm 1 s) (by omega) (rm (r + 2) 4) (by omega)
      exact ⟨by rw [hkd s hs, bt_any, z2]; rfl, z3⟩
    have hih := ih (k + 1) n (by omega)
    rw [show n + 1 + (j + 1) = (n + 1 + j) + 1 by omega]
    have e1 : bestS (frS δ) (wS rm r) (k + 1) = (match frS δ k, bestS (frS δ) (wS rm r) k with | false, o => o | true, none => some k | true, some b => if wS rm r b < wS rm r k then some k else some b) := by rw [bestS]
    rcases h.sits hN hks with ⟨c1, c1'⟩ | ⟨c1, c1'⟩
    · rcases h.held hks with ⟨c2, c2'⟩ | ⟨i, hi, c2, c2', -⟩
      · have hf : frS δ k = true := by simp [frS, c1, c2]
        rw [hf] at e1
        cases hb : bestS (frS δ) (wS rm r) k with
        | none =>
          rw [hb] at e1
          rw [e1] at hih
          simp only [cO_n, cO_s] at hih
          simp only [fMo_takesSeat_6, g2, c0, ml, ↓reduceIte, g10, ck, c1', c2', m1_nle, cO_n, m1_neg, fMo_takesSeat_79, fMo_takesSeat_86, fMo_takesSeat_88, nm_d, nI_1]
          exact hih
        | some b =>
          have hbl := bestS_lt _ _ hb
          have nb : ¬ nI b < 0 := nI_pos (by omega)
          have gb20 : ∀ x : Option Int32, gI (nI b) 20 x = x := fun x => gI_ok (by omega) (by decide) x
          have cb : (nI b).toNatClampNeg = b := cl_nI (by omega)
          obtain ⟨zk, zk2⟩ := hbt k hks
          obtain ⟨zb, zb2⟩ := hbt b (by omega)
          rw [hb] at e1
          by_cases c3 : wS rm r b < wS rm r k
          · have e1 : bestS (frS δ) (wS rm r) (k + 1) = some k := by rw [e1]; exact if_pos c3
            rw [e1] at hih
            simp only [cO_n, cO_s, mS_n, mS_s] at hih
            have cm : ¬ nI (wS rm r k) ≤ nI (wS rm r b) := nI_ge c3 (by omega)
            rw [cO_s, Mo_free_step hM'.1 hks (by omega) h10 c1' c2' hof zk zb, if_neg cm]
            exact hih
          · have e1 : bestS (frS δ) (wS rm r) (k + 1) = some b := by rw [e1]; exact if_neg c3
            rw [e1] at hih
            simp only [cO_n, cO_s, mS_n, mS_s] at hih
            have cm : nI (wS rm r k) ≤ nI (wS rm r b) := nI_le (by omega) (by omega)
            rw [cO_s, Mo_free_step hM'.1 hks (by omega) h10 c1' c2' hof zk zb, if_pos cm]
            exact hih
      · have hf : frS δ k = false := by simp [frS, c2, nI_nm1 (show i < 2 ^ 31 by omega)]
        rw [hf] at e1
        have e1 : bestS (frS δ) (wS rm r) (k + 1) = bestS (frS δ) (wS rm r) k := e1
        rw [e1] at hih
        have z2 : 0 ≤ σ 20 k := by rw [c2']; exact nI_pos' (by omega)
        simp only [fMo_takesSeat_6, g2, c0, ml, ↓reduceIte, g10, ck, c1', m1_nle, z2, fMo_takesSeat_88, nm_d, nI_1]
        exact hih
    · have hf : frS δ k = false := by simp [frS, c1]
      rw [hf] at e1
      have e1 : bestS (frS δ) (wS rm r) (k + 1) = bestS (frS δ) (wS rm r) k := e1
      rw [e1] at hih
      simp only [fMo_takesSeat_6, g2, c0, ml, ↓reduceIte, g10, ck, c1', fMo_takesSeat_88, nm_d, nI_1]
      exact hih
end DAY
