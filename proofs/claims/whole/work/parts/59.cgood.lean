theorem good_s {N : Nat} {rm : Nat → Nat → Nat} {vs : Nat → Nat} {σ : St} (hN : rmN rm) (hM : RoomM rm 1 σ) (hv : vs 0 < 1000) (e : σ 30 0 = nI (vs 0)) : GM N rm vs 0 (115 : Int32) σ := by
  have h10 : rm 0 1 ≤ 10 := hN.2.1
  obtain ⟨m1, m2, m3, m4, m5, m6, m7, m8, m9⟩ := hM
  have ei := Mo_isIn (σ := σ) N (w := 0) (v := vs 0) (lo := 0) (hi := 3) (by omega) (by omega) (by omega) (by omega) e
  have ei' : fMo_isIn N (0 : Int32) (0 : Int32) (3 : Int32) σ = _ := ei
  have a10 : (10 : Int32) + nI (rm 0 1) = nI (10 + rm 0 1) := by rw [show (10 : Int32) = nI 10 from rfl, nI_add]
  unfold GM
  by_cases h3 : vs 0 ≤ 3
  · by_cases h1 : rm 0 1 = 10
    · refine ⟨σ, FR.rf σ, rfl, Or.inr ⟨if_neg (by omega), ?_⟩⟩
      unfold fMo_isGood
      rw [if_pos rfl, ei', cl1_s, if_pos (show 0 ≤ vs 0 ∧ vs 0 ≤ 3 by omega), if_neg one0, gI1 (by decide) (by decide), cz1, m1, if_pos (show nI (rm 0 1) = (10 : Int32) by rw [h1]; rfl)]
      rfl
    · refine ⟨sA (sA σ 6 (upd (σ 6) (10 + rm 0 1) (nI (vs 0)))) 4 (upd (σ 4) 1 (nI (rm 0 1 + 1))), ⟨by rw [sA_n _ _ (by decide), sA_n _ _ (by decide)], by rw [sA_n _ _ (by decide), sA_n _ _ (by decide)], fun k _ => by rw [sA_n _ _ (by decide), sA_n _ _ (by decide)], by rw [sA_s, upd_n _ _ (by decide)], by rw [sA_n _ _ (by decide), sA_n _ _ (by decide)], fun s hs => by rw [sA_n _ _ (by decide), sA_s, upd_n _ _ (by omega)], fun s hs => by rw [sA_n _ _ (by decide), sA_n _ _ (by decide)], fun s hs => by rw [sA_n _ _ (by decide), sA_n _ _ (by decide)]⟩, by rw [sA_n _ _ (by decide), sA_n _ _ (by decide)], Or.inl ⟨rmS rm (vs 0), if_pos ⟨h3, by omega⟩, ?_, ?_⟩⟩
      · unfold fMo_isGood
        rw [if_pos rfl, ei', cl1_s, if_pos (show 0 ≤ vs 0 ∧ vs 0 ≤ 3 by omega), if_neg one0, gI1 (by decide) (by decide), cz1, m1, if_neg (show ¬ nI (rm 0 1) = (10 : Int32) from nI_neq (b := 10) (by omega) (by omega) h1), gI1 (by decide) (by decide), gI0 (by decide) (by decide), a10, gI_ok (by omega) (by decide), nm_d, cl_nI (by omega), cz0, e, gI1 (by decide) (by decide), gI1 (by decide) (by decide), nm_d, sA_n _ _ (show 4 ≠ 6 by decide), m1, show nI (rm 0 1) + (1 : Int32) = nI (rm 0 1 + 1) from nI_1 _]
        rfl
      · unfold RoomM
        rw [sA_s, sA_n _ _ (show 5 ≠ 4 by decide), sA_n _ _ (show 6 ≠ 4 by decide), sA_n _ _ (show 7 ≠ 4 by decide), sA_n _ _ (show 8 ≠ 4 by decide), sA_n _ _ (show 5 ≠ 6 by decide), sA_s, sA_n _ _ (show 7 ≠ 6 by decide), sA_n _ _ (show 8 ≠ 6 by decide), upd_s, rmS_1, rmS_k rm _ (by decide), rmS_k rm _ (by decide), rmS_k rm _ (by decide), rmS_k rm _ (by decide), rmS_k rm _ (by decide), rmS_k rm _ (by decide)]
        refine ⟨rfl, m2, m3, m4, m5, m6, m7, fun s hs => ?_, fun i hi w hw => ?_⟩
        · rw [rmS_s]
          by_cases es : s = rm 0 1
          · rw [if_pos es, es, show 10 * 1 + rm 0 1 = 10 + rm 0 1 by omega, upd_s]
          · rw [if_neg es, upd_n _ _ (by omega)]; exact m8 s (by omega)
        · rw [rmS_r]; exact m9 i hi w hw
  · refine ⟨σ, FR.rf σ, rfl, Or.inr ⟨if_neg (by omega), ?_⟩⟩
    unfold fMo_isGood
    rw [if_pos rfl, ei', cl1_s, if_neg (show ¬ (0 ≤ vs 0 ∧ vs 0 ≤ 3) by omega), if_pos rfl]
    rfl
theorem good_c {N : Nat} {rm : Nat → Nat → Nat} {vs : Nat → Nat} {σ : St} (hM : RoomM rm 1 σ) (hv : vs 0 < 1000) (hv1 : vs 1 < 1000) (e : σ 30 0 = nI (vs 0)) (e1 : σ 30 1 = nI (vs 1)) : GM N rm vs 2 (99 : Int32) σ := by
  have h2 := RoomM.setK (RoomM.setK hM (k := 0) (v := vs 0) (by omega)) (k := 1) (v := vs 1) (by omega)
  refine ⟨_, FR.tr (FR.k8 σ (k := 0) (nI (vs 0))) (FR.k8 _ (k := 1) (nI (vs 1))), by rw [sA_n _ _ (by decide), sA_n _ _ (by decide)], ?_⟩
  generalize hs : sA (sA σ 8 (upd (σ 8) (5 + 0) (nI (vs 0)))) 8 (upd ((sA σ 8 (upd (σ 8) (5 + 0) (nI (vs 0)))) 8) (5 + 1) (nI (vs 1))) = s at h2 ⊢
  have s30 : s 30 = σ 30 := by rw [← hs, sA_n _ _ (by decide), sA_n _ _ (by decide)]
  have i0 := Mo_isIn (σ := s) N (w := 0) (v := vs 0) (lo := 1) (hi := 99) (by omega) (by omega) (by omega) (by omega) (by rw [s30]; exact e)
  have i1 := Mo_isIn (σ := s) N (w := 1) (v := vs 1) (lo := 1) (hi := 99) (by omega) (by omega) (by omega) (by omega) (by rw [s30]; exact e1)
  have i0' : fMo_isIn N (0 : Int32) (1 : Int32) (99 : Int32) s = _ := i0
  have i1' : fMo_isIn N (1 : Int32) (1 : Int32) (99 : Int32) s = _ := i1
  have ef : fMo_isGood N (99 : Int32) σ = some (if (1 ≤ vs 0 ∧ vs 0 ≤ 99) ∧ (1 ≤ vs 1 ∧ vs 1 ≤ 99) then 1 else 0, s) := by
    unfold fMo_isGood
    rw [if_neg (show ¬ (99 : Int32) = 115 by decide), if_neg (show ¬ (99 : Int32) = 114 by decide), if_pos rfl, gI0 (by decide) (by decide), show gI (5 : Int32) 10 = fun x : Option (Int32 × St) => x from funext fun x => gI_ok (k := 5) (by decide) (by decide) x, nm_d, cz0, e, gI1 (by decide) (by decide), show gI (6 : Int32) 10 = fun x : Option (Int32 × St) => x from funext fun x => gI_ok (k := 6) (by decide) (by decide) x, nm_d, cz1, sA_n _ _ (show 30 ≠ 8 by decide), e1, show (5 : Int32).toNatClampNeg = 5 + 0 from rfl, show (6 : Int32).toNatClampNeg = 5 + 1 from rfl, hs, i0', cl1_s, i1', cl1_s]
    by_cases a : 1 ≤ vs 0 ∧ vs 0 ≤ 99
    · rw [if_pos a, if_neg one0]
      by_cases b : 1 ≤ vs 1 ∧ vs 1 ≤ 99
      · rw [if_pos b, if_neg one0, if_pos ⟨a, b⟩, fMo_isGood_271, gB_1]
      · rw [if_neg b, if_pos rfl, if_neg (fun z => b z.2), fMo_isGood_270, fMo_isGood_271, gB_0]
    · rw [if_neg a, if_pos rfl, if_neg (fun z => a z.1), fMo_isGood_270, fMo_isGood_271, gB_0]
  rw [ef]
  unfold nxt
  by_cases h : (1 ≤ vs 0 ∧ vs 0 ≤ 99) ∧ (1 ≤ vs 1 ∧ vs 1 ≤ 99)
  · rw [if_pos h, if_pos h]; exact Or.inl ⟨_, rfl, rfl, h2⟩
  · rw [if_neg h, if_neg h]; exact Or.inr ⟨rfl, rfl⟩
