/-! a part of an item, on the reference's side -/
def FP (σ σ' : St) : Prop := (∀ j, j ≠ 0 → j ≠ 30 → σ' j = σ j) ∧ ∀ k, k ≠ 2 → σ' 0 k = σ 0 k
theorem FP.rf (σ : St) : FP σ σ := ⟨fun _ _ _ => rfl, fun _ _ => rfl⟩
theorem FP.tr {a b c : St} (h1 : FP a b) (h2 : FP b c) : FP a c := ⟨fun j h h' => (h2.1 j h h').trans (h1.1 j h h'), fun k hk => (h2.2 k hk).trans (h1.2 k hk)⟩
theorem FN.fp {σ σ' : St} {b : Nat} (h : FN σ σ' b) : FP σ σ' := ⟨fun j hj _ => h.2.1 j hj, h.2.2⟩
theorem FP.tx {c : Nat → Nat} {len : Nat} {τ σ σ' : St} (f : FP σ σ') (h : TX c len τ σ) : TX c len τ σ' := h.to (f.2 0 (by decide)) (f.1 2 (by decide) (by decide))
theorem it_fail (N : Nat) (v1 : Int32) {σ : St} {b : Nat} (h2 : σ 0 2 = nI b) : ∃ σ', FP σ σ' ∧ fMo_isItem_144 N v1 (0 : Int32) σ = some ((0 : Int32), σ') := by
  refine ⟨_, (FN.set σ (b + 1)).fp, ?_⟩
  rw [fMo_isItem_144, if_pos rfl, fMo_isItem_177, fMo_isItem_178, nm_d, if_pos rfl, fMo_isItem_205, fMo_isItem_206, gB_0, h2, nI_1]
/-- once a part is broken the item answers 0 -/
theorem it_stop (N n : Nat) (v1 v2 : Int32) (p : Nat) {σ : St} {b : Nat} (h2 : σ 0 2 = nI b) : ∃ σ', FP σ σ' ∧ fMo_isItem_38 N (n + 1) v1 v2 (0 : Int32) (nI p) σ = some ((0 : Int32), σ') := by
  obtain ⟨σ', f, e⟩ := it_fail N v1 h2
  refine ⟨σ', f, ?_⟩
  rw [fMo_isItem_38]
  by_cases h : v2 ≤ nI p
  · rw [if_pos h]; exact e
  · rw [if_neg h, if_pos rfl]; exact e
theorem it_121 (k38 : Int32 → Int32 → Int32 → Int32 → St → Option (Int32 × St)) (N : Nat) (v1 v2 : Int32) {p : Nat} (hp : p < 7) (x : Int32) (σ : St) : fMo_isItem_121 k38 N v1 v2 (nI p) (nI p) x σ = k38 v1 v2 (if x < 0 then 0 else 1) (nI (p + 1)) (sA σ 30 (upd (σ 30) p x)) := by
  rw [fMo_isItem_121, gI_ok (by omega) (by decide), nm_d, gI_ok (by omega) (by decide), cl_nI (by omega), sA_s, upd_s]
  by_cases h : x < 0
  · rw [if_pos h, if_pos h, fMo_isItem_137, nm_d, nI_1]
  · rw [if_neg h, if_neg h, fMo_isItem_137, nm_d, nI_1]
/-- a part that stands where it should -/
theorem it_part {c : Nat → Nat} {len : Nat} {τ σ : St} (h : TX c len τ σ) {N : Nat} (hNN : 1000 ≤ N) (n : Nat) (v1 : Int32) {q p a : Nat} (hq : q ≤ 7) (hpq : p < q) (ha : a ≤ 450) (hat : (p = 0 ∧ σ 0 2 = nI a) ∨ (0 < p ∧ ∃ a', a = a' + 1 ∧ σ 0 2 = nI a' ∧ c a' = 44)) :
    ∃ σ' b x, FP σ σ' ∧ σ' 30 p = x ∧ (∀ w, w ≠ p → σ' 30 w = σ 30 w) ∧ σ' 0 2 = nI b ∧ fMo_isItem_38 N (n + 1) v1 (nI q) (1 : Int32) (nI p) σ = fMo_isItem_38 N n v1 (nI q) (if x < 0 then 0 else 1) (nI (p + 1)) σ' ∧ ((fl c a ≠ 0 ∧ dgt c (a + fl c a) = false ∧ x = nI (fv c a (fl c a)) ∧ b = a + fl c a) ∨ ((fl c a = 0 ∨ dgt c (a + fl c a) = true) ∧ x = -1)) := by
  have go : ∀ σ1, FN σ σ1 a → ∃ σ' b x, FP σ σ' ∧ σ' 30 p = x ∧ (∀ w, w ≠ p → σ' 30 w = σ 30 w) ∧ σ' 0 2 = nI b ∧ cl2 (fMo_number N σ1) (fun r_8 σ_9 => fMo_isItem_121 (fMo_isItem_38 N n) N v1 (nI q) (nI p) (nI p) r_8 σ_9) = fMo_isItem_38 N n v1 (nI q) (if x < 0 then 0 else 1) (nI (p + 1)) σ' ∧ ((fl c a ≠ 0 ∧ dgt c (a + fl c a) = false ∧ x = nI (fv c a (fl c a)) ∧ b = a + fl c a) ∨ ((fl c a = 0 ∨ dgt c (a + fl c a) = true) ∧ x = -1)) := by
    intro σ1 f1
    obtain ⟨σ2, b, x, f2, e, alt⟩ := num_m (f1.tx h) hNN ha f1.1
    have f := (f1.tr f2)
    refine ⟨sA σ2 30 (upd (σ2 30) p x), b, x, ⟨fun j h0 h3 => by rw [sA_n _ _ h3]; exact f.2.1 j h0, fun k hk => by rw [sA_n _ _ (by decide)]; exact f.2.2 k hk⟩, by rw [sA_s, upd_s], fun w hw => by rw [sA_s, upd_n _ _ hw, f.2.1 30 (by decide)], by rw [sA_n _ _ (by decide)]; exact f.1, ?_, alt⟩
    rw [e, cl2_s, it_121 _ N v1 (nI q) (by omega)]
  rw [fMo_isItem_38, if_neg (nI_ge hpq (by omega)), if_neg one0]
  rcases hat with ⟨hp, e2⟩ | ⟨hp, a', ea, e2, e44⟩
  · subst hp
    obtain ⟨σ', b, x, r1, r2, r3, r4, r5, r6⟩ := go (sA σ 0 (upd (σ 0) 2 (nI a))) (FN.set σ a)
    refine ⟨σ', b, x, r1, r2, r3, r4, ?_, r6⟩
    rw [if_pos (show nI 0 = (0 : Int32) from rfl), fMo_isItem_78, fMo_isItem_83, if_pos (show nI 0 = (0 : Int32) from rfl), fMo_isItem_99, nm_d, if_neg one0, e2, Int32.add_zero]
    exact r5
  · subst ea
    obtain ⟨σ', b, x, r1, r2, r3, r4, r5, r6⟩ := go (sA σ 0 (upd (σ 0) 2 (nI (a' + 1)))) (FN.set σ (a' + 1))
    refine ⟨σ', b, x, r1, r2, r3, r4, ?_, r6⟩
    obtain ⟨t1, t2, t3, t4, t5⟩ := h
    have hl : a' < len := Classical.byContradiction fun z => by
      have := t5 a' (by omega)
      omega
    have e3 : σ 2 a' = (44 : Int32) := by
      rcases (t4 a' hl).2.2 with ⟨_, z⟩ | ⟨z, _⟩
      · rw [z, e44]; rfl
      · omega
    have np : ¬ nI p = (0 : Int32) := nI_neq (b := 0) (by omega) (by omega) (by omega)
    rw [if_neg np, t3, e2, if_neg (nI_ge hl (by omega)), gI_ok (by omega) (by decide), cl_nI (by omega), if_pos e3, fMo_isItem_78, fMo_isItem_83, if_neg np, fMo_isItem_99, nm_d, if_neg one0, e2, nI_1]
    exact r5
/-- no comma before a later part -/
theorem it_comma {c : Nat → Nat} {len : Nat} {τ σ : St} (h : TX c len τ σ) {N : Nat} (n : Nat) (v1 : Int32) {q p a' : Nat} (hq : q ≤ 7) (hpq : p < q) (hp : 0 < p) (ha : a' ≤ 450) (e2 : σ 0 2 = nI a') (e44 : c a' ≠ 44) : ∃ σ', FP σ σ' ∧ fMo_isItem_38 N (n + 2) v1 (nI q) (1 : Int32) (nI p) σ = some ((0 : Int32), σ') := by
  have np : ¬ nI p = (0 : Int32) := nI_neq (b := 0) (by omega) (by omega) (by omega)
  have bad : ∃ σ', FP σ σ' ∧ fMo_isItem_82 (fMo_isItem_38 N (n + 1)) N v1 (nI q) (nI p) σ = some ((0 : Int32), σ') := by
    obtain ⟨σ', f, e⟩ := it_stop N n v1 (nI q) (p + 1) (σ := sA (sA σ 0 (upd (σ 0) 2 (nI (a' + 1)))) 30 (upd ((sA σ 0 (upd (σ 0) 2 (nI (a' + 1)))) 30) p (-1))) (b := a' + 1) (by rw [sA_n _ _ (by decide), sA_s, upd_s])
    refine ⟨σ', FP.tr (b := sA (sA σ 0 (upd (σ 0) 2 (nI (a' + 1)))) 30 (upd ((sA σ 0 (upd (σ 0) 2 (nI (a' + 1)))) 30) p (-1))) ⟨fun j h0 h3 => by rw [sA_n _ _ h3, sA_n _ _ h0], fun k hk => by rw [sA_n _ _ (by decide), sA_s, upd_n _ _ hk]⟩ f, ?_⟩
    rw [fMo_isItem_82, fMo_isItem_83, if_neg np, fMo_isItem_99, nm_d, if_pos rfl, it_121 _ N v1 (nI q) (by omega), if_pos m1_neg, e2, nI_1]
    exact e
  obtain ⟨t1, t2, t3, t4, t5⟩ := h
  rw [fMo_isItem_38, if_neg (nI_ge hpq (by omega)), if_neg one0, if_neg np, t3, e2]
  by_cases hl : a' < len
  · have e3 : ¬ σ 2 a' = (44 : Int32) := by
      rcases (t4 a' hl).2.2 with ⟨z1, z⟩ | ⟨_, z⟩
      · rw [z]; exact nI_neq (b := 44) (by omega) (by omega) e44
      · intro y
        rw [y] at z
        exact absurd z (by decide)
    rw [if_neg (nI_ge hl (by omega)), gI_ok (by omega) (by decide), cl_nI (by omega), if_neg e3]
    exact bad
  · rw [if_pos (nI_le (by omega) (by omega))]
    exact bad
/-- the end of an item -/
theorem it_end {c : Nat → Nat} {len : Nat} {τ σ : St} (h : TX c len τ σ) (N n : Nat) (v1 : Int32) {q b : Nat} (hq : q ≤ 7) (hb : b ≤ 460) (e2 : σ 0 2 = nI b) : (c b = 59 ∧ ∃ σ1, FN σ σ1 (b + 1) ∧ fMo_isItem_38 N (n + 1) v1 (nI q) (1 : Int32) (nI q) σ = cl2 (fMo_isGood N v1 σ1) fun r_15 σ_16 => if r_15 = 0 then fMo_isItem_205 N σ_16 else fMo_isItem_206 N (1 : Int32) σ_16) ∨ (c b ≠ 59 ∧ ∃ σ1, FP σ σ1 ∧ fMo_isItem_38 N (n + 1) v1 (nI q) (1 : Int32) (nI q) σ = some ((0 : Int32), σ1)) := by
  have bad : fMo_isItem_177 N v1 σ = some ((0 : Int32), sA σ 0 (upd (σ 0) 2 (nI (b + 1)))) := by
    rw [fMo_isItem_177, fMo_isItem_178, nm_d, if_pos rfl, fMo_isItem_205, fMo_isItem_206, gB_0, e2, nI_1]
  obtain ⟨t1, t2, t3, t4, t5⟩ := h
  rw [fMo_isItem_38, if_pos (nI_le (Nat.le_refl _) (by omega)), fMo_isItem_144, if_neg one0, t3, e2]
  by_cases hl : b < len
  · rw [if_neg (nI_ge hl (by omega)), gI_ok (by omega) (by decide), cl_nI (by omega)]
    by_cases e59 : c b = 59
    · have e3 : σ 2 b = (59 : Int32) := by
        rcases (t4 b hl).2.2 with ⟨_, z⟩ | ⟨z, _⟩
        · rw [z, e59]; rfl
        · omega
      refine Or.inl ⟨e59, _, FN.set σ (b + 1), ?_⟩
      rw [if_pos e3, fMo_isItem_178, nm_d, if_neg one0, e2, nI_1]
    · have e3 : ¬ σ 2 b = (59 : Int32) := by
        rcases (t4 b hl).2.2 with ⟨z1, z⟩ | ⟨_, z⟩
        · rw [z]; exact nI_neq (b := 59) (by omega) (by omega) e59
        · intro y
          rw [y] at z
          exact absurd z (by decide)
      rw [if_neg e3]
      exact Or.inr ⟨e59, _, (FN.set σ (b + 1)).fp, bad⟩
  · rw [if_pos (nI_le (by omega) (by omega))]
    exact Or.inr ⟨by have := t5 b (by omega); omega, _, (FN.set σ (b + 1)).fp, bad⟩
