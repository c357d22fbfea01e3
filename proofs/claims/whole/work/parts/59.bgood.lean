/-- what a good item makes of the room: none when it is no good -/
def nxt (rm : Nat → Nat → Nat) (vs : Nat → Nat) : Nat → Option (Nat → Nat → Nat)
  | 0 => if vs 0 ≤ 3 ∧ rm 0 1 < 10 then some (rmS rm (vs 0)) else none
  | 1 => if (vs 0 ≤ 199 ∧ (1 ≤ vs 1 ∧ vs 1 ≤ 199) ∧ (1 ≤ vs 2 ∧ vs 2 ≤ 199) ∧ (1 ≤ vs 3 ∧ vs 3 ≤ 99) ∧ vs 4 ≤ 3 ∧ vs 5 ≤ 9 ∧ vs 6 ≤ 9) ∧ rm 0 0 < 8 then some (rmR rm vs) else none
  | 2 => if (1 ≤ vs 0 ∧ vs 0 ≤ 99) ∧ (1 ≤ vs 1 ∧ vs 1 ≤ 99) then some (rmK (rmK rm 2 (vs 0)) 3 (vs 1)) else none
  | 3 => if 1 ≤ vs 0 ∧ vs 0 ≤ 99 then some (rmK rm 4 (vs 0)) else none
  | 4 => if vs 0 ≤ 99 then some (rmK rm 5 (vs 0)) else none
  | _ => if vs 0 ≤ 30 then some (rmK rm 6 (vs 0)) else none
def GM (N : Nat) (rm : Nat → Nat → Nat) (vs : Nat → Nat) (I : Nat) (L : Int32) (σ : St) : Prop := ∃ σ', FR σ σ' ∧ σ' 0 = σ 0 ∧ ((∃ rm', nxt rm vs I = some rm' ∧ fMo_isGood N L σ = some ((1 : Int32), σ') ∧ RoomM rm' 1 σ') ∨ (nxt rm vs I = none ∧ fMo_isGood N L σ = some ((0 : Int32), σ')))
theorem gc7 {α : Type} {k n : Nat} (h : k < n) (hn : n < 2 ^ 31) (x : Option α) : gI (OfNat.ofNat k : Int32) n x = x := gI_ok (k := k) h hn x
theorem good_l {N : Nat} {rm : Nat → Nat → Nat} {vs : Nat → Nat} {σ : St} (hM : RoomM rm 1 σ) (hv : vs 0 < 1000) (e : σ 30 0 = nI (vs 0)) : GM N rm vs 3 (108 : Int32) σ := by
  refine ⟨sA σ 8 (upd (σ 8) (5 + 2) (nI (vs 0))), FR.k8 σ _, sA_n _ _ (by decide), ?_⟩
  have ei := Mo_isIn (σ := sA σ 8 (upd (σ 8) (5 + 2) (nI (vs 0)))) N (w := 0) (v := vs 0) (lo := 1) (hi := 99) (by omega) (by omega) (by omega) (by omega) (by rw [sA_n _ _ (by decide)]; exact e)
  have ef : fMo_isGood N (108 : Int32) σ = some (if 1 ≤ vs 0 ∧ vs 0 ≤ 99 then 1 else 0, sA σ 8 (upd (σ 8) (5 + 2) (nI (vs 0)))) := by
    unfold fMo_isGood
    rw [if_neg (show ¬ (108 : Int32) = 115 by decide), if_neg (show ¬ (108 : Int32) = 114 by decide), if_neg (show ¬ (108 : Int32) = 99 by decide), if_pos rfl, gI0 (by decide) (by decide), show gI (7 : Int32) 10 = fun x : Option (Int32 × St) => x from funext fun x => gI_ok (k := 7) (by decide) (by decide) x, nm_d, cz0, e, show (7 : Int32).toNatClampNeg = 5 + 2 from rfl, show (0 : Int32) = nI 0 from rfl, show (1 : Int32) = nI 1 from rfl, show (99 : Int32) = nI 99 from rfl, ei, cl1_s]
    split
    · exact gB_1 _
    · exact gB_0 _
  rw [ef]
  unfold nxt
  by_cases h : 1 ≤ vs 0 ∧ vs 0 ≤ 99
  · rw [if_pos h, if_pos h]; exact Or.inl ⟨_, rfl, rfl, hM.setK (k := 2) (by omega)⟩
  · rw [if_neg h, if_neg h]; exact Or.inr ⟨rfl, rfl⟩
theorem good_w {N : Nat} {rm : Nat → Nat → Nat} {vs : Nat → Nat} {σ : St} (hM : RoomM rm 1 σ) (hv : vs 0 < 1000) (e : σ 30 0 = nI (vs 0)) : GM N rm vs 4 (119 : Int32) σ := by
  refine ⟨sA σ 8 (upd (σ 8) (5 + 3) (nI (vs 0))), FR.k8 σ _, sA_n _ _ (by decide), ?_⟩
  have ei := Mo_isIn (σ := sA σ 8 (upd (σ 8) (5 + 3) (nI (vs 0)))) N (w := 0) (v := vs 0) (lo := 0) (hi := 99) (by omega) (by omega) (by omega) (by omega) (by rw [sA_n _ _ (by decide)]; exact e)
  have ef : fMo_isGood N (119 : Int32) σ = some (if 0 ≤ vs 0 ∧ vs 0 ≤ 99 then 1 else 0, sA σ 8 (upd (σ 8) (5 + 3) (nI (vs 0)))) := by
    unfold fMo_isGood
    rw [if_neg (show ¬ (119 : Int32) = 115 by decide), if_neg (show ¬ (119 : Int32) = 114 by decide), if_neg (show ¬ (119 : Int32) = 99 by decide), if_neg (show ¬ (119 : Int32) = 108 by decide), if_pos rfl, gI0 (by decide) (by decide), show gI (8 : Int32) 10 = fun x : Option (Int32 × St) => x from funext fun x => gI_ok (k := 8) (by decide) (by decide) x, nm_d, cz0, e, show (8 : Int32).toNatClampNeg = 5 + 3 from rfl, show (0 : Int32) = nI 0 from rfl, show (99 : Int32) = nI 99 from rfl, ei, cl1_s]
    split
    · exact gB_1 _
    · exact gB_0 _
  rw [ef]
  unfold nxt
  by_cases h : vs 0 ≤ 99
  · rw [if_pos (show 0 ≤ vs 0 ∧ vs 0 ≤ 99 by omega), if_pos h]; exact Or.inl ⟨_, rfl, rfl, hM.setK (k := 3) (by omega)⟩
  · rw [if_neg (show ¬ (0 ≤ vs 0 ∧ vs 0 ≤ 99) by omega), if_neg h]; exact Or.inr ⟨rfl, rfl⟩
theorem good_v {N : Nat} {rm : Nat → Nat → Nat} {vs : Nat → Nat} {σ : St} (hM : RoomM rm 1 σ) (hv : vs 0 < 1000) (e : σ 30 0 = nI (vs 0)) : GM N rm vs 5 (118 : Int32) σ := by
  refine ⟨sA σ 8 (upd (σ 8) (5 + 4) (nI (vs 0))), FR.k8 σ _, sA_n _ _ (by decide), ?_⟩
  have ei := Mo_isIn (σ := sA σ 8 (upd (σ 8) (5 + 4) (nI (vs 0)))) N (w := 0) (v := vs 0) (lo := 0) (hi := 30) (by omega) (by omega) (by omega) (by omega) (by rw [sA_n _ _ (by decide)]; exact e)
  have ef : fMo_isGood N (118 : Int32) σ = some (if 0 ≤ vs 0 ∧ vs 0 ≤ 30 then 1 else 0, sA σ 8 (upd (σ 8) (5 + 4) (nI (vs 0)))) := by
    unfold fMo_isGood
    rw [if_neg (show ¬ (118 : Int32) = 115 by decide), if_neg (show ¬ (118 : Int32) = 114 by decide), if_neg (show ¬ (118 : Int32) = 99 by decide), if_neg (show ¬ (118 : Int32) = 108 by decide), if_neg (show ¬ (118 : Int32) = 119 by decide), gI0 (by decide) (by decide), show gI (9 : Int32) 10 = fun x : Option (Int32 × St) => x from funext fun x => gI_ok (k := 9) (by decide) (by decide) x, nm_d, cz0, e, show (9 : Int32).toNatClampNeg = 5 + 4 from rfl, show (0 : Int32) = nI 0 from rfl, show (30 : Int32) = nI 30 from rfl, ei, cl1_s]
    split
    · exact gB_1 _
    · exact gB_0 _
  rw [ef]
  unfold nxt
  by_cases h : vs 0 ≤ 30
  · rw [if_pos (show 0 ≤ vs 0 ∧ vs 0 ≤ 30 by omega), if_pos h]; exact Or.inl ⟨_, rfl, rfl, hM.setK (k := 4) (by omega)⟩
  · rw [if_neg (show ¬ (0 ≤ vs 0 ∧ vs 0 ≤ 30) by omega), if_neg h]; exact Or.inr ⟨rfl, rfl⟩
