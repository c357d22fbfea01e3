/-! the text's figures on both sides -/
theorem by_cases8 : ∀ n, n < 256 → (n < 128 ∧ (Int8.ofBitVec (BitVec.ofNat 8 n)).toInt32 = nI n ∧ (Int8.ofBitVec (BitVec.ofNat 8 n)).toInt32 &&& (255 : Int32) = nI n) ∨ (128 ≤ n ∧ (Int8.ofBitVec (BitVec.ofNat 8 n)).toInt32 < 0 ∧ (Int8.ofBitVec (BitVec.ofNat 8 n)).toInt32 &&& (255 : Int32) = nI n) := by decide +kernel
theorem byte_code {x : Int32} (h : byteOK x) : ∃ n, n < 256 ∧ (x &&& (255 : Int32)) = nI n ∧ ((n < 128 ∧ x = nI n) ∨ (128 ≤ n ∧ x < 0)) := by
  have e : x = (Int8.ofBitVec (BitVec.ofNat 8 x.toInt8.toBitVec.toNat)).toInt32 := by
    rw [BitVec.ofNat_toNat, BitVec.setWidth_eq]
    exact h.symm
  have hl : x.toInt8.toBitVec.toNat < 256 := x.toInt8.toBitVec.isLt
  generalize x.toInt8.toBitVec.toNat = n at e hl
  rcases by_cases8 n hl with ⟨h1, h2, h3⟩ | ⟨h1, h2, h3⟩
  · exact ⟨n, hl, by rw [e]; exact h3, Or.inl ⟨h1, by rw [e]; exact h2⟩⟩
  · exact ⟨n, hl, by rw [e]; exact h3, Or.inr ⟨h1, by rw [e]; exact h2⟩⟩
/-- the codes of the text: 300 past its end -/
def TX (c : Nat → Nat) (len : Nat) (τ σ : St) : Prop := len ≤ 400 ∧ τ 0 1 = nI len ∧ σ 0 0 = nI len ∧ (∀ a, a < len → c a < 256 ∧ (τ 1 a &&& (255 : Int32)) = nI (c a) ∧ ((c a < 128 ∧ σ 2 a = nI (c a)) ∨ (128 ≤ c a ∧ σ 2 a < 0))) ∧ ∀ a, len ≤ a → c a = 300
theorem TX.ex {len : Nat} {τ σ : St} (h : TextR len τ σ) : ∃ c, TX c len τ σ := by
  obtain ⟨t1, t2, t3, t4⟩ := h
  refine ⟨fun a => if hh : a < len then (byte_code (t4 a hh).2).choose else 300, t1, t2, t3, fun a ha => ?_, fun a ha => ?_⟩
  · have hs := (byte_code (t4 a ha).2).choose_spec
    simp only [dif_pos ha]
    exact ⟨hs.1, (congrArg (fun z => z &&& (255 : Int32)) (t4 a ha).1).trans hs.2.1, hs.2.2⟩
  · simp only [dif_neg (show ¬ a < len by omega)]
theorem TX.to {c : Nat → Nat} {len : Nat} {τ σ σ' : St} (h : TX c len τ σ) (h0 : σ' 0 0 = σ 0 0) (h2 : σ' 2 = σ 2) : TX c len τ σ' := by
  obtain ⟨t1, t2, t3, t4, t5⟩ := h
  exact ⟨t1, t2, by rw [h0]; exact t3, by rw [h2]; exact t4, t5⟩
theorem tx_byte {c : Nat → Nat} {len : Nat} {τ σ : St} (h : TX c len τ σ) (N : Nat) {a : Nat} (ha : a < 1000) : (a < len ∧ c a < 256 ∧ fTe_byteAt N (nI a) τ = some (nI (c a))) ∨ (len ≤ a ∧ c a = 300 ∧ fTe_byteAt N (nI a) τ = some (-4)) := by
  obtain ⟨t1, t2, t3, t4, t5⟩ := h
  unfold fTe_byteAt
  rw [if_neg (nI_pos (by omega)), t2]
  by_cases hl : a < len
  · obtain ⟨h1, h2, h3⟩ := t4 a hl
    rw [if_neg (nI_ge hl (by omega)), gI_ok (by omega) (by decide), cl_nI (by omega), h2]
    exact Or.inl ⟨hl, h1, rfl⟩
  · rw [if_pos (nI_le (by omega) (by omega))]
    exact Or.inr ⟨by omega, t5 a (by omega), rfl⟩
def dgt (c : Nat → Nat) (a : Nat) : Bool := decide (48 ≤ c a ∧ c a ≤ 57)
/-- up to three figures: how many, and their value -/
def fl (c : Nat → Nat) (a : Nat) : Nat := if dgt c a then (if dgt c (a + 1) then (if dgt c (a + 2) then 3 else 2) else 1) else 0
def fv (c : Nat → Nat) (a : Nat) : Nat → Nat
  | 0 => 0
  | k + 1 => 10 * fv c a k + (c (a + k) - 48)
def ScS (ς ς' : St) (b : Nat) : Prop := ς' 0 2 = nI b ∧ ς' 2 = ς 2
theorem fig_step {c : Nat → Nat} {len : Nat} {τ σ : St} (h : TX c len τ σ) (N n : Nat) {a k : Nat} {ς : St} (ha : a + k < 900) (hk : k < 3) (h2 : ς 0 2 = nI (a + k)) (v : Int32) (hv : k = 0 ∨ v = nI (fv c a k)) :
    (dgt c (a + k) = true ∧ ∃ ς', ScS ς ς' (a + k + 1) ∧ fSc_readFigures_5 N τ (n + 1) v (nI k) ς = fSc_readFigures_5 N τ n (nI (fv c a (k + 1))) (nI (k + 1)) ς') ∨ (dgt c (a + k) = false ∧ fSc_readFigures_5 N τ (n + 1) v (nI k) ς = some (v, ς)) := by
  rw [fSc_readFigures_5, if_neg (show ¬ (3 : Int32) ≤ nI k from nI_ge (b := 3) hk (by omega)), h2]
  rcases tx_byte h N (show a + k < 1000 by omega) with ⟨b1, b2, b3⟩ | ⟨b1, b2, b3⟩
  · rw [b3, cl1_s]
    by_cases d1 : c (a + k) < 48
    · rw [if_pos (show nI (c (a + k)) < (48 : Int32) from nI_lt (b := 48) d1 (by omega))]
      exact Or.inr ⟨decide_eq_false (by omega), rfl⟩
    · rw [if_neg (show ¬ nI (c (a + k)) < (48 : Int32) from nI_nlt (b := 48) (by omega) (by omega))]
      by_cases d2 : c (a + k) ≤ 57
      · rw [if_pos (show nI (c (a + k)) ≤ (57 : Int32) from nI_le (b := 57) d2 (by omega))]
        refine Or.inl ⟨decide_eq_true (by omega), sA ς 0 (upd (ς 0) 2 (nI (a + k + 1))), ⟨by rw [sA_s, upd_s], by rw [sA_n _ _ (by decide)]⟩, ?_⟩
        have e48 : ∀ m, nI (m + c (a + k)) - (48 : Int32) = nI (m + (c (a + k) - 48)) := fun m => by
          rw [show (48 : Int32) = nI 48 from rfl, pk_sub (by omega)]
          congr 1
          omega
        by_cases k0 : k = 0
        · subst k0
          rw [if_pos (show nI 0 = (0 : Int32) from rfl), fSc_readFigures_49, nm_d, nm_d, nm_d, h2, nI_1, nI_1, show (0 : Int32) = nI 0 from rfl, nI_add, e48]
          rfl
        · rcases hv with hv | hv
          · exact absurd hv k0
          · rw [if_neg (show ¬ nI k = (0 : Int32) from nI_neq (b := 0) (by omega) (by omega) k0), fSc_readFigures_49, nm_d, nm_d, nm_d, h2, nI_1, nI_1, hv, show (10 : Int32) = nI 10 from rfl, pk_mul, nI_add, e48, Nat.mul_comm (fv c a k) 10]
            rfl
      · rw [if_neg (show ¬ nI (c (a + k)) ≤ (57 : Int32) from nI_ge (a := 57) (by omega) (by omega))]
        exact Or.inr ⟨decide_eq_false (by omega), rfl⟩
  · rw [b3, cl1_s, if_pos (show (-4 : Int32) < 48 by decide)]
    exact Or.inr ⟨decide_eq_false (by omega), rfl⟩
theorem fig_c {c : Nat → Nat} {len : Nat} {τ σ : St} (h : TX c len τ σ) {N : Nat} (hNN : 1000 ≤ N) {a : Nat} {ς : St} (ha : a < 800) (h2 : ς 0 2 = nI a) : ∃ ς', ScS ς ς' (a + fl c a) ∧ fSc_readFigures N τ ς = some (if fl c a = 0 then (-4 : Int32) else nI (fv c a (fl c a)), ς') := by
  obtain ⟨n, rfl⟩ : ∃ n, N = n + 4 := ⟨N - 4, by omega⟩
  unfold fSc_readFigures
  unfold fl
  rcases fig_step h (n + 4) (n + 3) (a := a) (k := 0) (ς := ς) (by omega) (by omega) h2 (-4) (Or.inl rfl) with ⟨d0, ς1, s1, e1⟩ | ⟨d0, e1⟩
  · rw [show a + 0 = a from rfl] at d0
    rw [if_pos d0]
    rcases fig_step h (n + 4) (n + 2) (a := a) (k := 1) (ς := ς1) (by omega) (by omega) s1.1 (nI (fv c a 1)) (Or.inr rfl) with ⟨d1, ς2, s2, e2⟩ | ⟨d1, e2⟩
    · rw [if_pos d1]
      rcases fig_step h (n + 4) (n + 1) (a := a) (k := 2) (ς := ς2) (by omega) (by omega) s2.1 (nI (fv c a 2)) (Or.inr rfl) with ⟨d2, ς3, s3, e3⟩ | ⟨d2, e3⟩
      · rw [if_pos d2]
        refine ⟨ς3, ⟨s3.1, s3.2.trans (s2.2.trans s1.2)⟩, (e1.trans (e2.trans e3)).trans ?_⟩
        rw [fSc_readFigures_5, if_pos (show (3 : Int32) ≤ nI (2 + 1) by decide)]
        rfl
      · rw [if_neg (by rw [d2]; decide)]
        exact ⟨ς2, ⟨s2.1, s2.2.trans s1.2⟩, e1.trans (e2.trans e3)⟩
    · rw [if_neg (by rw [d1]; decide)]
      exact ⟨ς1, s1, e1.trans e2⟩
  · rw [show a + 0 = a from rfl] at d0
    rw [if_neg (by rw [d0]; decide)]
    exact ⟨ς, ⟨h2, rfl⟩, e1⟩
def FN (σ σ' : St) (b : Nat) : Prop := σ' 0 2 = nI b ∧ (∀ j, j ≠ 0 → σ' j = σ j) ∧ ∀ k, k ≠ 2 → σ' 0 k = σ 0 k
theorem FN.tr {σ σ1 σ2 : St} {a b : Nat} (h1 : FN σ σ1 a) (h2 : FN σ1 σ2 b) : FN σ σ2 b := ⟨h2.1, fun j hj => (h2.2.1 j hj).trans (h1.2.1 j hj), fun k hk => (h2.2.2 k hk).trans (h1.2.2 k hk)⟩
theorem FN.tx {c : Nat → Nat} {len b : Nat} {τ σ σ' : St} (f : FN σ σ' b) (h : TX c len τ σ) : TX c len τ σ' := h.to (f.2.2 0 (by decide)) (f.2.1 2 (by decide))
theorem FN.set (σ : St) (b : Nat) : FN σ (sA σ 0 (upd (σ 0) 2 (nI b))) b := ⟨by rw [sA_s, upd_s], fun j hj => sA_n _ _ hj, fun k hk => by rw [sA_s, upd_n _ _ hk]⟩
theorem num_gate {c : Nat → Nat} {len : Nat} {τ σ : St} (h : TX c len τ σ) (N n : Nat) {b : Nat} (hb : b < 1000) (h2 : σ 0 2 = nI b) (v w : Int32) :
    (dgt c b = true ∧ b < len ∧ σ 2 b = nI (c b) ∧ fMo_number_4 N (n + 1) v w σ = if (3 : Int32) ≤ w then fMo_number_63 (fMo_number_4 N n) N w v σ else fMo_number_63 (fMo_number_4 N n) N w ((((10 : Int32) * v) + nI (c b)) - (48 : Int32)) σ) ∨ (dgt c b = false ∧ fMo_number_4 N (n + 1) v w σ = fMo_number_80 N v w σ) := by
  obtain ⟨t1, t2, t3, t4, t5⟩ := h
  rw [fMo_number_4, t3, h2]
  by_cases hl : b < len
  · obtain ⟨h1, _, h3⟩ := t4 b hl
    rw [if_neg (nI_ge hl (by omega)), gI_ok (by omega) (by decide), gI_ok (by omega) (by decide), cl_nI (by omega), Mo_in, cl1_s, Int32.toInt_toInt64, show (48 : Int64).toInt = 48 by decide, show (57 : Int64).toInt = 57 by decide]
    rcases h3 with ⟨q1, q2⟩ | ⟨q1, q2⟩
    · rw [q2, nI_toInt (by omega)]
      by_cases d : 48 ≤ c b ∧ c b ≤ 57
      · rw [if_pos (show (48 : Int) ≤ (c b : Int) ∧ (c b : Int) ≤ 57 by omega), if_neg one0]
        exact Or.inl ⟨decide_eq_true d, hl, rfl, rfl⟩
      · rw [if_neg (show ¬ ((48 : Int) ≤ (c b : Int) ∧ (c b : Int) ≤ 57) by omega), if_pos rfl]
        exact Or.inr ⟨decide_eq_false d, rfl⟩
    · have q3 := Int32.lt_iff_toInt_lt.mp q2
      have z : (0 : Int32).toInt = 0 := by decide
      rw [if_neg (show ¬ ((48 : Int) ≤ (σ 2 b).toInt ∧ (σ 2 b).toInt ≤ 57) by omega), if_pos rfl]
      exact Or.inr ⟨decide_eq_false (by omega), rfl⟩
  · rw [if_pos (nI_le (by omega) (by omega))]
    exact Or.inr ⟨decide_eq_false (by have := t5 b (by omega); omega), rfl⟩
theorem num_step {c : Nat → Nat} {len : Nat} {τ σ : St} (h : TX c len τ σ) (N n : Nat) {a k : Nat} (ha : a + k < 900) (hk : k < 3) (h2 : σ 0 2 = nI (a + k)) :
    (dgt c (a + k) = true ∧ ∃ σ', FN σ σ' (a + k + 1) ∧ fMo_number_4 N (n + 1) (nI (fv c a k)) (nI k) σ = fMo_number_4 N n (nI (fv c a (k + 1))) (nI (k + 1)) σ') ∨ (dgt c (a + k) = false ∧ fMo_number_4 N (n + 1) (nI (fv c a k)) (nI k) σ = fMo_number_80 N (nI (fv c a k)) (nI k) σ) := by
  rcases num_gate h N n (show a + k < 1000 by omega) h2 (nI (fv c a k)) (nI k) with ⟨d, hl, e2, e⟩ | ⟨d, e⟩
  · have d' : 48 ≤ c (a + k) ∧ c (a + k) ≤ 57 := of_decide_eq_true d
    refine Or.inl ⟨d, _, FN.set σ (a + k + 1), ?_⟩
    rw [e, if_neg (show ¬ (3 : Int32) ≤ nI k from nI_ge (b := 3) hk (by omega)), fMo_number_63, nm_d, nm_d, h2, nI_1, nI_1, show (10 : Int32) = nI 10 from rfl, pk_mul, nI_add, show (48 : Int32) = nI 48 from rfl, pk_sub (by omega), show 10 * fv c a k + c (a + k) - 48 = fv c a (k + 1) by rw [fv]; omega]
  · exact Or.inr ⟨d, e⟩
theorem num_80 (N : Nat) (v : Int32) {k : Nat} (hk : k < 1000) (σ : St) : fMo_number_80 N v (nI k) σ = some (if 1 ≤ k ∧ k ≤ 3 then v else -1, σ) := by
  unfold fMo_number_80
  rw [Mo_in, cl1_s, Int32.toInt_toInt64, nI_toInt (by omega), show (1 : Int64).toInt = 1 by decide, show (3 : Int64).toInt = 3 by decide]
  by_cases h : 1 ≤ k ∧ k ≤ 3
  · rw [if_pos (show (1 : Int) ≤ (k : Int) ∧ (k : Int) ≤ 3 by omega), if_neg one0, if_pos h]; rfl
  · rw [if_neg (show ¬ ((1 : Int) ≤ (k : Int) ∧ (k : Int) ≤ 3) by omega), if_pos rfl, if_neg h]; rfl
theorem num_tail {c : Nat → Nat} {len : Nat} {τ : St} (N : Nat) (v : Int32) : ∀ (m b k : Nat) (σ : St), TX c len τ σ → 400 ≤ b + m → b + m < 900 → 3 ≤ k → k + m < 900 → σ 0 2 = nI b → ∃ σ' b', FN σ σ' b' ∧ (dgt c b = false → b' = b) ∧ ∀ n, m ≤ n → fMo_number_4 N (n + 1) v (nI k) σ = some (if k = 3 ∧ dgt c b = false then v else -1, σ') := by
  intro m
  induction m with
  | zero =>
    intro b k σ h hb hb2 hk hk2 h2
    refine ⟨σ, b, ⟨h2, fun _ _ => rfl, fun _ _ => rfl⟩, fun _ => rfl, fun n _ => ?_⟩
    rcases num_gate h N n (show b < 1000 by omega) h2 v (nI k) with ⟨d, hl, _⟩ | ⟨d, e⟩
    · have := h.1
      exact absurd hl (by omega)
    · rw [e, num_80 N v (by omega)]
      by_cases h3 : k = 3
      · rw [if_pos (by omega), if_pos ⟨h3, d⟩]
      · rw [if_neg (by omega), if_neg (fun z => h3 z.1)]
  | succ m ih =>
    intro b k σ h hb hb2 hk hk2 h2
    cases hd : dgt c b with
    | true =>
      obtain ⟨σ', b', f, _, g⟩ := ih (b + 1) (k + 1) (sA σ 0 (upd (σ 0) 2 (nI (b + 1)))) ((FN.set σ (b + 1)).tx h) (by omega) (by omega) (by omega) (by omega) (FN.set σ (b + 1)).1
      refine ⟨σ', b', (FN.set σ (b + 1)).tr f, fun z => Bool.noConfusion z, fun n hn => ?_⟩
      obtain ⟨n', rfl⟩ : ∃ n', n = n' + 1 := ⟨n - 1, by omega⟩
      rcases num_gate h N (n' + 1) (show b < 1000 by omega) h2 v (nI k) with ⟨d, hl, e2, e⟩ | ⟨d, e⟩
      · rw [e, if_pos (show (3 : Int32) ≤ nI k from nI_le (a := 3) hk (by omega)), fMo_number_63, nm_d, nm_d, h2, nI_1, nI_1, g n' (by omega), if_neg (by omega), if_neg (fun z => Bool.noConfusion z.2)]
      · rw [hd] at d
        exact absurd d (by decide)
    | false =>
      refine ⟨σ, b, ⟨h2, fun _ _ => rfl, fun _ _ => rfl⟩, fun _ => rfl, fun n _ => ?_⟩
      rcases num_gate h N n (show b < 1000 by omega) h2 v (nI k) with ⟨d, hl, _⟩ | ⟨d, e⟩
      · rw [hd] at d
        exact absurd d (by decide)
      · rw [e, num_80 N v (by omega)]
        by_cases h3 : k = 3
        · rw [if_pos (by omega), if_pos ⟨h3, rfl⟩]
        · rw [if_neg (by omega), if_neg (fun z => h3 z.1)]
theorem fl_3 (c : Nat → Nat) (a : Nat) : fl c a ≤ 3 := by
  unfold fl
  split
  · split
    · split <;> omega
    · omega
  · omega
/-- the reference's number: good when one to three figures stand there and no fourth -/
theorem num_m {c : Nat → Nat} {len : Nat} {τ σ : St} (h : TX c len τ σ) {N : Nat} (hNN : 1000 ≤ N) {a : Nat} (ha : a ≤ 450) (h2 : σ 0 2 = nI a) : ∃ σ' b x, FN σ σ' b ∧ fMo_number N σ = some (x, σ') ∧ ((fl c a ≠ 0 ∧ dgt c (a + fl c a) = false ∧ x = nI (fv c a (fl c a)) ∧ b = a + fl c a) ∨ ((fl c a = 0 ∨ dgt c (a + fl c a) = true) ∧ x = -1)) := by
  obtain ⟨n, rfl⟩ : ∃ n, N = n + 4 := ⟨N - 4, by omega⟩
  unfold fMo_number
  rcases num_step h (n + 4) (n + 3) (a := a) (k := 0) (by omega) (by omega) h2 with ⟨d0, σ1, s1, e1⟩ | ⟨d0, e1⟩
  · rw [show a + 0 = a from rfl] at d0
    rcases num_step (s1.tx h) (n + 4) (n + 2) (a := a) (k := 1) (by omega) (by omega) s1.1 with ⟨d1, σ2, s2, e2⟩ | ⟨d1, e2⟩
    · rcases num_step ((s1.tr s2).tx h) (n + 4) (n + 1) (a := a) (k := 2) (by omega) (by omega) s2.1 with ⟨d2, σ3, s3, e3⟩ | ⟨d2, e3⟩
      · have hf : fl c a = 3 := by unfold fl; rw [if_pos d0, if_pos d1, if_pos d2]
        obtain ⟨σ', b', f, f2, g⟩ := num_tail (n + 4) (nI (fv c a 3)) 400 (a + 3) 3 σ3 ((s1.tr (s2.tr s3)).tx h) (by omega) (by omega) (by omega) (by omega) s3.1
        have e4 := e1.trans (e2.trans (e3.trans (g n (by omega))))
        rw [hf]
        cases hd : dgt c (a + 3) with
        | true => exact ⟨σ', b', _, s1.tr (s2.tr (s3.tr f)), e4, Or.inr ⟨Or.inr rfl, if_neg (fun z => by rw [hd] at z; exact Bool.noConfusion z.2)⟩⟩
        | false => exact ⟨σ', b', _, s1.tr (s2.tr (s3.tr f)), e4, Or.inl ⟨by omega, rfl, if_pos ⟨rfl, hd⟩, f2 hd⟩⟩
      · have hf : fl c a = 2 := by unfold fl; rw [if_pos d0, if_pos d1, if_neg (by rw [d2]; decide)]
        rw [hf]
        refine ⟨σ2, a + 2, _, s1.tr s2, e1.trans (e2.trans (e3.trans (num_80 _ _ (by omega) _))), Or.inl ⟨by omega, d2, by rw [if_pos (by omega)], rfl⟩⟩
    · have hf : fl c a = 1 := by unfold fl; rw [if_pos d0, if_neg (by rw [d1]; decide)]
      rw [hf]
      refine ⟨σ1, a + 1, _, s1, e1.trans (e2.trans (num_80 _ _ (by omega) _)), Or.inl ⟨by omega, d1, by rw [if_pos (by omega)], rfl⟩⟩
  · rw [show a + 0 = a from rfl] at d0
    have hf : fl c a = 0 := by unfold fl; rw [if_neg (by rw [d0]; decide)]
    refine ⟨σ, a, _, ⟨h2, fun _ _ => rfl, fun _ _ => rfl⟩, e1.trans (num_80 _ _ (by omega) _), Or.inr ⟨Or.inl hf, by rw [if_neg (by omega)]⟩⟩
