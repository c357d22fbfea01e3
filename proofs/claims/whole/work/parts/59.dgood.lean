theorem good_rloop {N : Nat} {rm : Nat → Nat → Nat} (h8 : rm 0 0 < 8) {s : St} (m2 : s 5 1 = nI (rm 0 0)) : ∀ (j k : Nat) (σ : St), k + j = 7 → (∀ i, i ≠ 7 → σ i = s i) → (∀ p, p < 56 + 7 * rm 0 0 ∨ 56 + 7 * rm 0 0 + k ≤ p → σ 7 p = s 7 p) → (∀ w, w < k → σ 7 (56 + 7 * rm 0 0 + w) = s 30 w) → ∃ σ', (∀ i, i ≠ 7 → i ≠ 5 → σ' i = s i) ∧ σ' 5 = upd (s 5) 1 (nI (rm 0 0 + 1)) ∧ (∀ p, p < 56 + 7 * rm 0 0 → σ' 7 p = s 7 p) ∧ (∀ w, w < 7 → σ' 7 (56 + 7 * rm 0 0 + w) = s 30 w) ∧ ∀ n, j ≤ n → fMo_isGood_163 N (n + 1) (nI k) σ = some ((1 : Int32), σ') := by
  intro j
  induction j with
  | zero =>
    intro k σ hk h0 h1 h2
    have : k = 7 := by omega
    subst this
    have e5 : σ 5 1 = nI (rm 0 0) := by rw [h0 5 (by decide)]; exact m2
    refine ⟨sA σ 5 (upd (σ 5) 1 (nI (rm 0 0 + 1))), fun i i7 i5 => by rw [sA_n _ _ i5]; exact h0 i i7, by rw [sA_s, h0 5 (by decide)], fun p hp => by rw [sA_n _ _ (by decide)]; exact h1 p (Or.inl hp), fun w hw => by rw [sA_n _ _ (by decide)]; exact h2 w hw, fun n _ => ?_⟩
    rw [fMo_isGood_163, if_pos (show (7 : Int32) ≤ nI 7 by decide), gI1 (by decide) (by decide), gI1 (by decide) (by decide), nm_d, cz1, e5, nI_1]
    rfl
  | succ j ih =>
    intro k σ hk h0 h1 h2
    have e5 : σ 5 1 = nI (rm 0 0) := by rw [h0 5 (by decide)]; exact m2
    have e30 : σ 30 k = s 30 k := by rw [h0 30 (by decide)]
    obtain ⟨σ', a1, a2, a3, a4, a5⟩ := ih (k + 1) (sA σ 7 (upd (σ 7) (56 + 7 * rm 0 0 + k) (s 30 k))) (by omega) (fun i i7 => by rw [sA_n _ _ i7]; exact h0 i i7) (fun p hp => by rw [sA_s, upd_n _ _ (by omega)]; exact h1 p (by omega)) (fun w hw => by
      rw [sA_s]
      by_cases e : w = k
      · rw [e, upd_s]
      · rw [upd_n _ _ (by omega)]; exact h2 w (by omega))
    refine ⟨σ', a1, a2, a3, a4, fun n hn => ?_⟩
    obtain ⟨n', rfl⟩ : ∃ n', n = n' + 1 := ⟨n - 1, by omega⟩
    have ei : (56 : Int32) + (7 : Int32) * nI (rm 0 0) + nI k = nI (56 + 7 * rm 0 0 + k) := by
      rw [show (56 : Int32) = nI 56 from rfl, show (7 : Int32) = nI 7 from rfl, pk_mul, nI_add, nI_add]
    rw [fMo_isGood_163, if_neg (show ¬ (7 : Int32) ≤ nI k from nI_ge (b := 7) (by omega) (by omega)), gI1 (by decide) (by decide), gI_ok (by omega) (by decide), cz1, e5, ei, gI_ok (by omega) (by decide), nm_d, nm_d, cl_nI (by omega), cl_nI (by omega), e30, nI_1]
    exact a5 n' (by omega)
theorem good_r {N : Nat} (hNN : 1000 ≤ N) {rm : Nat → Nat → Nat} {vs : Nat → Nat} {σ : St} (hN : rmN rm) (hM : RoomM rm 1 σ) (hv : ∀ w, w < 7 → vs w < 1000) (e : ∀ w, w < 7 → σ 30 w = nI (vs w)) : GM N rm vs 1 (114 : Int32) σ := by
  have h08 : rm 0 0 ≤ 8 := hN.1
  have ii : ∀ w lo hi, w < 7 → lo < 1000 → hi < 1000 → fMo_isIn N (nI w) (nI lo) (nI hi) σ = some (if lo ≤ vs w ∧ vs w ≤ hi then 1 else 0) := fun w lo hi hw hl hh => Mo_isIn N hw (by have := hv w hw; omega) (by omega) (by omega) (e w hw)
  have i0 : fMo_isIn N (0 : Int32) (0 : Int32) (199 : Int32) σ = _ := ii 0 0 199 (by omega) (by omega) (by omega)
  have i1 : fMo_isIn N (1 : Int32) (1 : Int32) (199 : Int32) σ = _ := ii 1 1 199 (by omega) (by omega) (by omega)
  have i2 : fMo_isIn N (2 : Int32) (1 : Int32) (199 : Int32) σ = _ := ii 2 1 199 (by omega) (by omega) (by omega)
  have i3 : fMo_isIn N (3 : Int32) (1 : Int32) (99 : Int32) σ = _ := ii 3 1 99 (by omega) (by omega) (by omega)
  have i4 : fMo_isIn N (4 : Int32) (0 : Int32) (3 : Int32) σ = _ := ii 4 0 3 (by omega) (by omega) (by omega)
  have i5 : fMo_isIn N (5 : Int32) (0 : Int32) (9 : Int32) σ = _ := ii 5 0 9 (by omega) (by omega) (by omega)
  have i6 : fMo_isIn N (6 : Int32) (0 : Int32) (9 : Int32) σ = _ := ii 6 0 9 (by omega) (by omega) (by omega)
  obtain ⟨m1, m2, m3, m4, m5, m6, m7, m8, m9⟩ := hM
  have bad : ∀ X : Option (Int32 × St), nxt rm vs 1 = none → X = some ((0 : Int32), σ) → fMo_isGood N (114 : Int32) σ = X → GM N rm vs 1 (114 : Int32) σ := fun X h1 h2 h3 => ⟨σ, FR.rf σ, rfl, Or.inr ⟨h1, h3.trans h2⟩⟩
  have ef : fMo_isGood N (114 : Int32) σ = if (vs 0 ≤ 199 ∧ (1 ≤ vs 1 ∧ vs 1 ≤ 199) ∧ (1 ≤ vs 2 ∧ vs 2 ≤ 199) ∧ (1 ≤ vs 3 ∧ vs 3 ≤ 99) ∧ vs 4 ≤ 3 ∧ vs 5 ≤ 9 ∧ vs 6 ≤ 9) ∧ rm 0 0 < 8 then fMo_isGood_163 N N (0 : Int32) σ else some ((0 : Int32), σ) := by
    unfold fMo_isGood
    rw [if_neg (show ¬ (114 : Int32) = 115 by decide), if_pos rfl, i0, cl1_s]
    by_cases c0 : 0 ≤ vs 0 ∧ vs 0 ≤ 199
    rotate_left
    · rw [if_neg c0, if_pos rfl, if_neg (by omega)]; rfl
    rw [if_pos c0, if_neg one0, i1, cl1_s]
    by_cases c1 : 1 ≤ vs 1 ∧ vs 1 ≤ 199
    rotate_left
    · rw [if_neg c1, if_pos rfl, if_neg (by omega)]; rfl
    rw [if_pos c1, if_neg one0, i2, cl1_s]
    by_cases c2 : 1 ≤ vs 2 ∧ vs 2 ≤ 199
    rotate_left
    · rw [if_neg c2, if_pos rfl, if_neg (by omega)]; rfl
    rw [if_pos c2, if_neg one0, i3, cl1_s]
    by_cases c3 : 1 ≤ vs 3 ∧ vs 3 ≤ 99
    rotate_left
    · rw [if_neg c3, if_pos rfl, if_neg (by omega)]; rfl
    rw [if_pos c3, if_neg one0, i4, cl1_s]
    by_cases c4 : 0 ≤ vs 4 ∧ vs 4 ≤ 3
    rotate_left
    · rw [if_neg c4, if_pos rfl, if_neg (by omega)]; rfl
    rw [if_pos c4, if_neg one0, i5, cl1_s]
    by_cases c5 : 0 ≤ vs 5 ∧ vs 5 ≤ 9
    rotate_left
    · rw [if_neg c5, if_pos rfl, if_neg (by omega)]; rfl
    rw [if_pos c5, if_neg one0, i6, cl1_s]
    by_cases c6 : 0 ≤ vs 6 ∧ vs 6 ≤ 9
    rotate_left
    · rw [if_neg c6, if_pos rfl, if_neg (by omega)]; rfl
    rw [if_pos c6, if_neg one0, gI1 (by decide) (by decide), cz1, m2]
    by_cases c7 : rm 0 0 = 8
    · rw [if_pos (show nI (rm 0 0) = (8 : Int32) by rw [c7]; rfl), if_neg (by omega)]; rfl
    · rw [if_neg (show ¬ nI (rm 0 0) = (8 : Int32) from nI_neq (b := 8) (by omega) (by omega) c7), if_pos (by omega)]
  by_cases ok : (vs 0 ≤ 199 ∧ (1 ≤ vs 1 ∧ vs 1 ≤ 199) ∧ (1 ≤ vs 2 ∧ vs 2 ≤ 199) ∧ (1 ≤ vs 3 ∧ vs 3 ≤ 99) ∧ vs 4 ≤ 3 ∧ vs 5 ≤ 9 ∧ vs 6 ≤ 9) ∧ rm 0 0 < 8
  · rw [if_pos ok] at ef
    obtain ⟨n, hn⟩ : ∃ n, N = n + 1 := ⟨N - 1, by omega⟩
    obtain ⟨σ', a1, a2, a3, a4, a5⟩ := good_rloop (N := N) ok.2 m2 7 0 σ (by omega) (fun _ _ => rfl) (fun _ _ => rfl) (fun w hw => absurd hw (by omega))
    have a5' := a5 n (by omega)
    rw [← hn] at a5'
    refine ⟨σ', ⟨a1 2 (by decide) (by decide), a1 11 (by decide) (by decide), fun k _ => by rw [a1 0 (by decide) (by decide)], by rw [a1 4 (by decide) (by decide)], by rw [a2, upd_n _ _ (by decide)], fun t _ => by rw [a1 6 (by decide) (by decide)], fun t ht => a3 t (by omega), fun t _ => by rw [a1 8 (by decide) (by decide)]⟩, a1 0 (by decide) (by decide), Or.inl ⟨rmR rm vs, if_pos ok, ef.trans a5', ?_⟩⟩
    unfold RoomM
    rw [a1 4 (by decide) (by decide), a1 6 (by decide) (by decide), a1 8 (by decide) (by decide), a2, upd_s, rmR_0, rmR_k rm _ (by decide), rmR_k rm _ (by decide), rmR_k rm _ (by decide), rmR_k rm _ (by decide), rmR_k rm _ (by decide), rmR_k rm _ (by decide)]
    refine ⟨m1, rfl, m3, m4, m5, m6, m7, fun t ht => by rw [rmR_s]; exact m8 t ht, fun i hi w hw => ?_⟩
    rw [rmR_r]
    by_cases ei : i = rm 0 0
    · rw [if_pos ei, ei, show 56 * 1 + 7 * rm 0 0 + w = 56 + 7 * rm 0 0 + w by omega, a4 w hw]; exact e w hw
    · rw [if_neg ei, a3 _ (by omega)]; exact m9 i (by omega) w hw
  · exact bad _ (if_neg ok) (if_neg ok) ef
