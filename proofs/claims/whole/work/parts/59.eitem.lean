/-! an item's parts: where they stand, what they are worth -/
def fa_ps (c : Nat → Nat) (a : Nat) : Nat → Nat
  | 0 => a
  | p + 1 => fa_ps c a p + fl c (fa_ps c a p) + 1
def fa_vs (c : Nat → Nat) (a p : Nat) : Nat := fv c (fa_ps c a p) (fl c (fa_ps c a p))
def fa_Syn (c : Nat → Nat) (a q p : Nat) : Prop := fl c (fa_ps c a p) ≠ 0 ∧ c (fa_ps c a p + fl c (fa_ps c a p)) = if p + 1 = q then 59 else 44
theorem fa_ps_s (c : Nat → Nat) (a p : Nat) : fa_ps c a (p + 1) = fa_ps c a p + fl c (fa_ps c a p) + 1 := rfl
theorem fv_lt (c : Nat → Nat) (a : Nat) : fv c a (fl c a) < 1000 := by
  have dg : ∀ k, dgt c k = true → c k - 48 ≤ 9 := fun k h => by
    have h' : 48 ≤ c k ∧ c k ≤ 57 := of_decide_eq_true h
    omega
  unfold fl
  by_cases d0 : dgt c a = true
  · rw [if_pos d0]
    have e0 := dg _ d0
    by_cases d1 : dgt c (a + 1) = true
    · rw [if_pos d1]
      have e1 := dg _ d1
      by_cases d2 : dgt c (a + 2) = true
      · rw [if_pos d2]
        have e2 := dg _ d2
        show 10 * (10 * (10 * 0 + (c a - 48)) + (c (a + 1) - 48)) + (c (a + 2) - 48) < 1000
        omega
      · rw [if_neg d2]
        show 10 * (10 * 0 + (c a - 48)) + (c (a + 1) - 48) < 1000
        omega
    · rw [if_neg d1]
      show 10 * 0 + (c a - 48) < 1000
      omega
  · rw [if_neg d0]
    show 0 < 1000
    omega
theorem fa_vs_lt (c : Nat → Nat) (a p : Nat) : fa_vs c a p < 1000 := fv_lt c _
theorem syn_nd {c : Nat → Nat} {a q p : Nat} (h : fa_Syn c a q p) : dgt c (fa_ps c a p + fl c (fa_ps c a p)) = false := by
  have h2 := h.2
  refine decide_eq_false ?_
  rw [h2]
  split <;> omega
theorem tx_in {c : Nat → Nat} {len : Nat} {τ σ : St} (h : TX c len τ σ) {b : Nat} (hc : c b < 300) : b < len := by
  obtain ⟨t1, t2, t3, t4, t5⟩ := h
  exact Classical.byContradiction fun z => by
    have := t5 b (by omega)
    omega
/-- the reference's side of an item's parts -/
theorem it_go {c : Nat → Nat} {len : Nat} {τ : St} {N : Nat} (hNN : 1000 ≤ N) (v1 : Int32) {q a : Nat} (hq : q ≤ 7) : ∀ (j p n : Nat) (σ : St), p + j + 1 = q → j + 3 ≤ n → TX c len τ σ → fa_ps c a p ≤ 400 → ((p = 0 ∧ σ 0 2 = nI (fa_ps c a p)) ∨ (0 < p ∧ ∃ a', fa_ps c a p = a' + 1 ∧ σ 0 2 = nI a' ∧ c a' = 44)) → (∀ w, w < p → fa_Syn c a q w ∧ σ 30 w = nI (fa_vs c a w)) →
    ∃ σ', FP σ σ' ∧ (((∀ w, w < q → fa_Syn c a q w ∧ σ' 30 w = nI (fa_vs c a w)) ∧ σ' 0 2 = nI (fa_ps c a q) ∧ fMo_isItem_38 N n v1 (nI q) (1 : Int32) (nI p) σ = cl2 (fMo_isGood N v1 σ') fun r_15 σ_16 => if r_15 = 0 then fMo_isItem_205 N σ_16 else fMo_isItem_206 N (1 : Int32) σ_16) ∨ ((∃ w, w < q ∧ ¬ fa_Syn c a q w) ∧ fMo_isItem_38 N n v1 (nI q) (1 : Int32) (nI p) σ = some ((0 : Int32), σ'))) := by
  intro j
  induction j with
  | zero =>
    intro p n σ hp hn h ha hat hw
    obtain ⟨n', rfl⟩ : ∃ n', n = n' + 2 := ⟨n - 2, by omega⟩
    obtain ⟨σ1, b, x, f1, x1, x2, e2, e, alt⟩ := it_part h hNN (n' + 1) v1 hq (show p < q by omega) (show fa_ps c a p ≤ 450 by omega) hat
    have h1 := f1.tx h
    have hpq : p + 1 = q := by omega
    have h3 := fl_3 c (fa_ps c a p)
    rcases alt with ⟨g1, g2, g3, g4⟩ | ⟨g1, g2⟩
    · have ex : ¬ x < 0 := by rw [g3]; exact nI_pos (by have := fv_lt c (fa_ps c a p); omega)
      rw [if_neg ex, hpq] at e
      rcases it_end h1 N n' v1 hq (show b ≤ 460 by omega) e2 with ⟨y1, σ2, f2, y2⟩ | ⟨y1, σ2, f2, y2⟩
      · refine ⟨σ2, f1.tr f2.fp, Or.inl ⟨fun w hwq => ?_, ?_, e.trans y2⟩⟩
        · rw [f2.2.1 30 (by decide)]
          by_cases ew : w = p
          · subst ew
            exact ⟨⟨g1, by rw [if_pos hpq, ← g4]; exact y1⟩, x1.trans g3⟩
          · rw [x2 w ew]
            exact hw w (by omega)
        · rw [← hpq, fa_ps_s, ← g4]
          exact f2.1
      · refine ⟨σ2, f1.tr f2, Or.inr ⟨⟨p, by omega, fun z => y1 ?_⟩, e.trans y2⟩⟩
        have := z.2
        rw [if_pos hpq, ← g4] at this
        exact this
    · have ex : x < 0 := by rw [g2]; exact m1_neg
      rw [if_pos ex] at e
      obtain ⟨σ2, f2, y2⟩ := it_stop N n' v1 (nI q) (p + 1) e2
      refine ⟨σ2, f1.tr f2, Or.inr ⟨⟨p, by omega, fun z => ?_⟩, e.trans y2⟩⟩
      rcases g1 with g1 | g1
      · exact z.1 g1
      · rw [syn_nd z] at g1
        exact Bool.noConfusion g1
  | succ j ih =>
    intro p n σ hp hn h ha hat hw
    obtain ⟨n', rfl⟩ : ∃ n', n = n' + 3 := ⟨n - 3, by omega⟩
    obtain ⟨σ1, b, x, f1, x1, x2, e2, e, alt⟩ := it_part h hNN (n' + 2) v1 hq (show p < q by omega) (show fa_ps c a p ≤ 450 by omega) hat
    have h1 := f1.tx h
    have hpq : ¬ p + 1 = q := by omega
    have h3 := fl_3 c (fa_ps c a p)
    rcases alt with ⟨g1, g2, g3, g4⟩ | ⟨g1, g2⟩
    · have ex : ¬ x < 0 := by rw [g3]; exact nI_pos (by have := fv_lt c (fa_ps c a p); omega)
      rw [if_neg ex] at e
      by_cases hc : c b = 44
      · have hb : b < len := tx_in h (by omega)
        have hl : len ≤ 400 := h.1
        obtain ⟨σ2, f2, alt2⟩ := ih (p + 1) (n' + 2) σ1 (by omega) (by omega) h1 (by rw [fa_ps_s, ← g4]; omega) (Or.inr ⟨by omega, b, by rw [fa_ps_s, ← g4], e2, hc⟩) (fun w hwp => by
          by_cases ew : w = p
          · subst ew
            exact ⟨⟨g1, by rw [if_neg hpq, ← g4]; exact hc⟩, x1.trans g3⟩
          · rw [x2 w ew]
            exact hw w (by omega))
        refine ⟨σ2, f1.tr f2, ?_⟩
        rcases alt2 with ⟨z1, z2, z3⟩ | ⟨z1, z3⟩
        · exact Or.inl ⟨z1, z2, e.trans z3⟩
        · exact Or.inr ⟨z1, e.trans z3⟩
      · obtain ⟨σ2, f2, y2⟩ := it_comma h1 (N := N) n' v1 hq (show p + 1 < q by omega) (by omega) (show b ≤ 450 by omega) e2 hc
        refine ⟨σ2, f1.tr f2, Or.inr ⟨⟨p, by omega, fun z => hc ?_⟩, e.trans y2⟩⟩
        have := z.2
        rw [if_neg hpq, ← g4] at this
        exact this
    · have ex : x < 0 := by rw [g2]; exact m1_neg
      rw [if_pos ex] at e
      obtain ⟨σ2, f2, y2⟩ := it_stop N (n' + 1) v1 (nI q) (p + 1) e2
      refine ⟨σ2, f1.tr f2, Or.inr ⟨⟨p, by omega, fun z => ?_⟩, e.trans y2⟩⟩
      rcases g1 with g1 | g1
      · exact z.1 g1
      · rw [syn_nd z] at g1
        exact Bool.noConfusion g1
/-- a code at a place, as the class reads it -/
theorem tx_sep {c : Nat → Nat} {len : Nat} {τ σ : St} (h : TX c len τ σ) (N : Nat) {b : Nat} (hb : b < 1000) : ∃ r, fTe_byteAt N (nI b) τ = some r ∧ ∀ s, s < 256 → (r = nI s ↔ c b = s) := by
  rcases tx_byte h N hb with ⟨b1, b2, b3⟩ | ⟨b1, b2, b3⟩
  · exact ⟨_, b3, fun s hs => ⟨fun e => nI_inj (by omega) (by omega) e, fun e => by rw [e]⟩⟩
  · refine ⟨_, b3, fun s hs => ⟨fun e => ?_, fun e => by omega⟩⟩
    have h4 := congrArg Int32.toInt e
    rw [nI_toInt (by omega), show (-4 : Int32).toInt = -4 by decide] at h4
    omega
def fa_lN : Nat → Nat := fun k => [0, 0, 1, 1, 1, 0, 0, 0, 1, 1, 1, 0, 0].getD k 0
def fa_mN : Nat → Nat := fun k => [3, 199, 199, 199, 99, 3, 9, 9, 99, 99, 99, 99, 30].getD k 0
theorem fa_zN : ∀ k, k < 13 → zLeast k = nI (fa_lN k) ∧ zMost k = nI (fa_mN k) ∧ fa_lN k < 1000 ∧ fa_mN k < 1000 := by decide +kernel
def fa_Ran (vs : Nat → Nat) (f p : Nat) : Prop := fa_lN (f + p) ≤ vs p ∧ vs p ≤ fa_mN (f + p)
theorem nu_120 {c : Nat → Nat} {b : Nat} (K : Int32 → Int32 → Int32 → St → Option (Int32 × St)) (N : Nat) (τ : St) (v2 v3 : Int32) (p s : Nat) (r : Int32) {ς : St} (h2 : ς 0 2 = nI b) (hr : r = nI s ↔ c b = s) : fSc_readNumbers_120 K N τ v2 v3 (nI p) r (nI s) ς = if c b = s then K v2 v3 (nI (p + 1)) (sA ς 0 (upd (ς 0) 2 (nI (b + 1)))) else some ((0 : Int32), ς) := by
  rw [fSc_readNumbers_120]
  by_cases e : c b = s
  · rw [if_pos (hr.mpr e), if_pos e, nm_d, nm_d, h2, nI_1, nI_1]
  · rw [if_neg (fun z => e (hr.mp z)), if_neg e]
/-- one part, on the class's side -/
theorem nu_step {c : Nat → Nat} {len : Nat} {τ σ : St} (h : TX c len τ σ) {N : Nat} (hNN : 1000 ≤ N) {q a f p : Nat} (hq : q ≤ 7) (hf : f + q ≤ 13) (hpq : p < q) (n : Nat) {ς : St} (ha : fa_ps c a p ≤ 400) (h2 : ς 0 2 = nI (fa_ps c a p)) :
    (∃ ς', (fa_Syn c a q p ∧ fa_Ran (fa_vs c a) f p) ∧ ς' 0 2 = nI (fa_ps c a (p + 1)) ∧ ς' 2 p = nI (fa_vs c a p) ∧ (∀ w, w ≠ p → ς' 2 w = ς 2 w) ∧ fSc_readNumbers_35 N τ (n + 1) (nI f) (nI q) (nI p) ς = fSc_readNumbers_35 N τ n (nI f) (nI q) (nI (p + 1)) ς') ∨ (∃ ς', ¬ (fa_Syn c a q p ∧ fa_Ran (fa_vs c a) f p) ∧ fSc_readNumbers_35 N τ (n + 1) (nI f) (nI q) (nI p) ς = some ((0 : Int32), ς')) := by
  obtain ⟨zl, zm, l1, m1⟩ := fa_zN (f + p) (by omega)
  obtain ⟨ς1, s1, e1⟩ := fig_c h hNN (show fa_ps c a p < 800 by omega) h2
  have h3 := fl_3 c (fa_ps c a p)
  have hv := fa_vs_lt c a p
  have hv2 := fv_lt c (fa_ps c a p)
  rw [fSc_readNumbers_35, if_neg (nI_ge hpq (by omega)), if_neg (show ¬ (7 : Int32) ≤ nI p from nI_ge (b := 7) (by omega) (by omega))]
  by_cases hz : fl c (fa_ps c a p) = 0
  · rw [if_pos hz] at e1
    rw [e1, cl2_s, nI_add, gI_ok (show f + p < 13 by omega) (by decide), cl_nI (by omega), zl, if_pos (show (-4 : Int32) < nI (fa_lN (f + p)) from Int32.lt_iff_toInt_lt.mpr (by rw [nI_toInt (by omega), show (-4 : Int32).toInt = -4 by decide]; omega))]
    exact Or.inr ⟨ς1, fun z => z.1.1 hz, rfl⟩
  · rw [if_neg hz] at e1
    rw [e1, cl2_s, nI_add, gI_ok (show f + p < 13 by omega) (by decide), cl_nI (by omega), zl]
    by_cases hl : fa_lN (f + p) ≤ fa_vs c a p
    · rw [if_neg (show ¬ nI (fv c (fa_ps c a p) (fl c (fa_ps c a p))) < nI (fa_lN (f + p)) from nI_nlt hl (by omega)), gI_ok (show f + p < 13 by omega) (by decide), zm]
      by_cases hm : fa_vs c a p ≤ fa_mN (f + p)
      · obtain ⟨r, er, hr⟩ := tx_sep h N (show fa_ps c a p + fl c (fa_ps c a p) < 1000 by omega)
        rw [if_pos (show nI (fv c (fa_ps c a p) (fl c (fa_ps c a p))) ≤ nI (fa_mN (f + p)) from nI_le hm (by omega)), gI_ok (show p < 7 by omega) (by decide), nm_d, cl_nI (show p < 2 ^ 31 by omega), sA_n _ _ (show 0 ≠ 2 by decide), s1.1, er, cl1_s, nI_1]
        have h14 : (sA ς1 2 (upd (ς1 2) p (nI (fv c (fa_ps c a p) (fl c (fa_ps c a p)))))) 0 2 = nI (fa_ps c a p + fl c (fa_ps c a p)) := by rw [sA_n _ _ (show 0 ≠ 2 by decide)]; exact s1.1
        have fin : ∀ s, s < 256 → (if p + 1 = q then 59 else 44) = s → (∃ ς', (fa_Syn c a q p ∧ fa_Ran (fa_vs c a) f p) ∧ ς' 0 2 = nI (fa_ps c a (p + 1)) ∧ ς' 2 p = nI (fa_vs c a p) ∧ (∀ w, w ≠ p → ς' 2 w = ς 2 w) ∧ fSc_readNumbers_120 (fSc_readNumbers_35 N τ n) N τ (nI f) (nI q) (nI p) r (nI s) (sA ς1 2 (upd (ς1 2) p (nI (fv c (fa_ps c a p) (fl c (fa_ps c a p)))))) = fSc_readNumbers_35 N τ n (nI f) (nI q) (nI (p + 1)) ς') ∨ (∃ ς', ¬ (fa_Syn c a q p ∧ fa_Ran (fa_vs c a) f p) ∧ fSc_readNumbers_120 (fSc_readNumbers_35 N τ n) N τ (nI f) (nI q) (nI p) r (nI s) (sA ς1 2 (upd (ς1 2) p (nI (fv c (fa_ps c a p) (fl c (fa_ps c a p)))))) = some ((0 : Int32), ς')) := by
          intro s hs es
          rw [nu_120 _ N τ _ _ p s r h14 (hr s hs)]
          by_cases ec : c (fa_ps c a p + fl c (fa_ps c a p)) = s
          · rw [if_pos ec]
            refine Or.inl ⟨_, ⟨⟨hz, ec.trans es.symm⟩, hl, hm⟩, ?_, ?_, fun w hw => ?_, rfl⟩
            · rw [sA_s, upd_s]; rfl
            · rw [sA_n _ _ (by decide), sA_s, upd_s]; rfl
            · rw [sA_n _ _ (by decide), sA_s, upd_n _ _ hw, s1.2]
          · rw [if_neg ec]
            exact Or.inr ⟨_, fun z => ec (z.1.2.trans es), rfl⟩
        by_cases hp1 : p + 1 = q
        · rw [if_pos (show nI q ≤ nI (p + 1) from nI_le (by omega) (by omega))]
          exact fin 59 (by omega) (if_pos hp1)
        · rw [if_neg (show ¬ nI q ≤ nI (p + 1) from nI_ge (by omega) (by omega))]
          exact fin 44 (by omega) (if_neg hp1)
      · rw [if_neg (show ¬ nI (fv c (fa_ps c a p) (fl c (fa_ps c a p))) ≤ nI (fa_mN (f + p)) from nI_ge (show fa_mN (f + p) < fv c (fa_ps c a p) (fl c (fa_ps c a p)) from Nat.lt_of_not_le hm) (by have := fv_lt c (fa_ps c a p); omega))]
        exact Or.inr ⟨ς1, fun z => hm z.2.2, rfl⟩
    · rw [if_pos (show nI (fv c (fa_ps c a p) (fl c (fa_ps c a p))) < nI (fa_lN (f + p)) from nI_lt (show fv c (fa_ps c a p) (fl c (fa_ps c a p)) < fa_lN (f + p) from Nat.lt_of_not_le hl) (by omega))]
      exact Or.inr ⟨ς1, fun z => hl z.2.1, rfl⟩
/-- the class's side of an item's parts -/
theorem nu_go {c : Nat → Nat} {len : Nat} {τ σ : St} (h : TX c len τ σ) {N : Nat} (hNN : 1000 ≤ N) {q a f : Nat} (hq : q ≤ 7) (hf : f + q ≤ 13) : ∀ (j p n : Nat) (ς : St), p + j = q → j + 1 ≤ n → fa_ps c a p ≤ 400 → ς 0 2 = nI (fa_ps c a p) → (∀ w, w < p → (fa_Syn c a q w ∧ fa_Ran (fa_vs c a) f w) ∧ ς 2 w = nI (fa_vs c a w)) →
    ∃ ς', ((∀ w, w < q → (fa_Syn c a q w ∧ fa_Ran (fa_vs c a) f w) ∧ ς' 2 w = nI (fa_vs c a w)) ∧ ς' 0 2 = nI (fa_ps c a q) ∧ fSc_readNumbers_35 N τ n (nI f) (nI q) (nI p) ς = some ((1 : Int32), ς')) ∨ ((∃ w, w < q ∧ ¬ (fa_Syn c a q w ∧ fa_Ran (fa_vs c a) f w)) ∧ fSc_readNumbers_35 N τ n (nI f) (nI q) (nI p) ς = some ((0 : Int32), ς')) := by
  intro j
  induction j with
  | zero =>
    intro p n ς hp hn ha h2 hw
    obtain ⟨n', rfl⟩ : ∃ n', n = n' + 1 := ⟨n - 1, by omega⟩
    have hpq : p = q := by omega
    subst hpq
    refine ⟨ς, Or.inl ⟨hw, h2, ?_⟩⟩
    rw [fSc_readNumbers_35, if_pos (nI_le (Nat.le_refl _) (by omega))]
    rfl
  | succ j ih =>
    intro p n ς hp hn ha h2 hw
    obtain ⟨n', rfl⟩ : ∃ n', n = n' + 1 := ⟨n - 1, by omega⟩
    rcases nu_step h hNN hq hf (show p < q by omega) n' ha h2 with ⟨ς1, g, y1, y2, y3, e⟩ | ⟨ς1, g, e⟩
    · have hb : fa_ps c a p + fl c (fa_ps c a p) < len := tx_in h (by rw [g.1.2]; split <;> omega)
      have hl : len ≤ 400 := h.1
      obtain ⟨ς2, alt⟩ := ih (p + 1) n' ς1 (by omega) (by omega) (by rw [fa_ps_s]; omega) y1 (fun w hwp => by
        by_cases ew : w = p
        · subst ew
          exact ⟨g, y2⟩
        · rw [y3 w ew]
          exact hw w (by omega))
      rw [e]
      exact ⟨ς2, alt⟩
    · exact ⟨ς1, Or.inr ⟨⟨p, by omega, g⟩, e⟩⟩
