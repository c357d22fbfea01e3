/-- the day's rows ahead of minute 0 -/
def OP (rm : Nat → Nat → Nat) (ru hc ca po : Nat) (lt : Nat → Nat) (δ : St) : Prop :=
  δ 0 9 = nI (rm 0 0) ∧ δ 0 10 = nI (rm 0 1) ∧ δ 0 11 = nI ru ∧ δ 0 12 = nI hc ∧ δ 0 13 = nI ca ∧ δ 0 14 = nI po ∧ δ 0 15 = 0 ∧ δ 0 16 = nI (rm 0 0) ∧ δ 0 17 = 0 ∧ δ 0 18 = 0 ∧ δ 0 19 = 0 ∧
  (∀ i, i < rm 0 0 → δ 1 i = 0 ∧ δ 4 i = 0 ∧ δ 5 i = nI (rm (i + 2) 0 + lt i)) ∧ ∀ s, s < 10 → δ 6 s = -1 ∧ δ 7 s = -1
def hcOf (ru h : Nat) : Nat := if ru = 1 then 0 else h
theorem HCp_same {rm : Nat → Nat → Nat} {ru h : Nat} (hh : h < 256) : HCp rm ru h (hcOf ru h) := by
  refine ⟨hh, ?_, fun i _ _ => ?_⟩
  · unfold hcOf
    split <;> omega
  · unfold hcOf hb
    split
    · simp
    · rfl
theorem Ro_number_out {rm : Nat → Nat → Nat} {ρ : St} (hC : RoomC rm ρ) (N : Nat) {i : Nat} (hi : rm 0 0 ≤ i) (hi8 : i < 100) (w : Int32) : fRo_number N (nI i) w ρ = some 0 := by
  unfold fRo_number
  rw [if_neg (nI_pos (by omega)), hC.2.1, if_pos (nI_le hi (by omega))]
  rfl
theorem Da_open {rm : Nat → Nat → Nat} {ρ : St} (hN : rmN rm) (hC : RoomC rm ρ) {N : Nat} (hNN : 100 ≤ N) {ru h : Nat} (hru : ru < 5) (δ : St) : ∃ δ1, fDa_open N (nI ru) (nI h) ρ δ = some δ1 ∧ OP rm ru (hcOf ru h) (rm 0 2) (rm 0 3) (fun _ => 0) δ1 := by
  have h08 := hN.1
  have h10 := hN.2.1
  have hrc : fRo_readerCount N ρ = some (nI (rm 0 0)) := by
    show some (ρ 0 3) = _
    rw [hC.2.1]
  have hsc : fRo_seatCount N ρ = some (nI (rm 0 1)) := by
    show some (ρ 0 2) = _
    rw [hC.1]
  have hcm : fRo_cardMinutes N ρ = some (nI (rm 0 2)) := by
    show some (ρ 0 4) = _
    rw [hC.2.2.1]
  have hpm : fRo_porterMinutes N ρ = some (nI (rm 0 3)) := by
    show some (ρ 0 5) = _
    rw [hC.2.2.2.1]
  have n8 : ¬ (8 : Int32) < nI (rm 0 0) := nI_nlt (a := 8) (b := rm 0 0) (by omega) (by omega)
  have n10 : ¬ (10 : Int32) < nI (rm 0 1) := nI_nlt (a := 10) (b := rm 0 1) (by omega) (by omega)
  -- the loop, from any rows with the ints in place
  have loop : ∀ δ0 : St, δ0 0 9 = nI (rm 0 0) → δ0 0 10 = nI (rm 0 1) → δ0 0 11 = nI ru → δ0 0 12 = nI (hcOf ru h) → δ0 0 13 = nI (rm 0 2) → δ0 0 14 = nI (rm 0 3) → ∃ δ1, fDa_open_65 N ρ N (0 : Int32) δ0 = some δ1 ∧ OP rm ru (hcOf ru h) (rm 0 2) (rm 0 3) (fun _ => 0) δ1 := by
    intro δ0 i9 i10 i11 i12 i13 i14
    obtain ⟨δ1, ⟨z0, z1⟩, g⟩ := lock1 (G := fun k δ' => δ' 0 = δ0 0 ∧ ∀ i, i < k → δ' 1 i = 0 ∧ δ' 4 i = 0 ∧ (i < rm 0 0 → δ' 5 i = nI (rm (i + 2) 0))) (F1 := fun n k δ => fDa_open_65 N ρ n (nI k) δ) 8 (fun k δ' hk hh => by
      obtain ⟨e0, e1⟩ := hh
      have g8 : ∀ x : Option St, gI (nI k) 8 x = x := fun x => gI_ok hk (by decide) x
      have ck : (nI k).toNatClampNeg = k := cl_nI (by omega)
      obtain ⟨r, hr, hr2⟩ : ∃ r, fRo_number N (nI k) (0 : Int32) ρ = some r ∧ (k < rm 0 0 → r = nI (rm (k + 2) 0)) := by
        by_cases c : k < rm 0 0
        · exact ⟨_, Ro_number hN hC N c (w := 0) (by decide), fun _ => rfl⟩
        · exact ⟨0, Ro_number_out hC N (by omega) (by omega) _, fun z => absurd z c⟩
      refine ⟨sA (sA (sA (sA (sA δ' 1 (upd (δ' 1) k 0)) 2 (upd (δ' 2) k (-1))) 3 (upd (δ' 3) k 0)) 4 (upd (δ' 4) k 0)) 5 (upd (δ' 5) k r), ⟨e0, fun i hi => ?_⟩, fun n => ?_⟩
      · show upd (δ' 1) k 0 i = 0 ∧ upd (δ' 4) k 0 i = 0 ∧ (i < rm 0 0 → upd (δ' 5) k r i = nI (rm (i + 2) 0))
        by_cases e : i = k
        · subst e
          rw [upd_s, upd_s, upd_s]
          exact ⟨rfl, rfl, hr2⟩
        · rw [upd_n _ _ e, upd_n _ _ e, upd_n _ _ e]
          exact e1 i (by omega)
      · rw [fDa_open_65, if_neg (show ¬ (8 : Int32) ≤ nI k from nI_ge (b := 8) hk (by omega)), g8, ck, nm_d, g8, nm_d, g8, nm_d, g8, nm_d, hr, cl1_s, g8, nm_d, nm_d, nI_1]
        rfl) 8 0 δ0 (by omega) ⟨rfl, fun i hi => absurd hi (by omega)⟩
    have e := g (N - 8 - 1 + 1)
    rw [show N - 8 - 1 + 1 + 8 = N by omega] at e
    refine ⟨_, e.trans (show fDa_open_65 N ρ (N - 8 - 1 + 1) (nI 8) δ1 = _ by rw [fDa_open_65, if_pos (show (8 : Int32) ≤ nI 8 by decide), nm_d, nm_d, nm_d, nm_d, nm_d, nm_d, nm_d]), ?_⟩
    refine ⟨?_, ?_, ?_, ?_, ?_, ?_, rfl, ?_, rfl, rfl, rfl, fun i hi => ?_, fun s hs => ?_⟩
    · show δ1 0 9 = _
      rw [z0, i9]
    · show δ1 0 10 = _
      rw [z0, i10]
    · show δ1 0 11 = _
      rw [z0, i11]
    · show δ1 0 12 = _
      rw [z0, i12]
    · show δ1 0 13 = _
      rw [z0, i13]
    · show δ1 0 14 = _
      rw [z0, i14]
    · show δ1 0 9 = _
      rw [z0, i9]
    · obtain ⟨y1, y2, y3⟩ := z1 i (by omega)
      exact ⟨y1, y2, y3 hi⟩
    · show fillI (δ1 6) 10 (-1) s = -1 ∧ fillI (δ1 7) 10 (-1) s = -1
      unfold fillI
      rw [if_pos hs, if_pos hs]
      exact ⟨rfl, rfl⟩
  have both : ∀ x : Int32, x = nI (hcOf ru h) → ∃ δ1, fDa_open_47 N ρ x (sA (sA (sA δ 0 (upd (δ 0) 9 (nI (rm 0 0)))) 0 (upd (upd (δ 0) 9 (nI (rm 0 0))) 10 (nI (rm 0 1)))) 0 (upd (upd (upd (δ 0) 9 (nI (rm 0 0))) 10 (nI (rm 0 1))) 11 (nI ru))) = some δ1 ∧ OP rm ru (hcOf ru h) (rm 0 2) (rm 0 3) (fun _ => 0) δ1 := by
    intro x hx
    rw [fDa_open_47, nm_d, hcm, cl1_s, hpm, cl1_s, fDa_useCards, nm_d, nm_d, cl1_s]
    exact loop _ rfl rfl rfl hx rfl rfl
  rw [fDa_open, hrc, cl1_s, if_neg n8, nm_d, hsc, cl1_s, if_neg n10, nm_d, nm_d]
  by_cases r1 : ru = 1
  · rw [if_pos (show nI ru = (1 : Int32) by rw [r1]; rfl)]
    exact both 0 (by unfold hcOf; rw [if_pos r1]; rfl)
  · rw [if_neg (show ¬ nI ru = (1 : Int32) from nI_neq (b := 1) (by omega) (by decide) r1)]
    exact both (nI h) (by unfold hcOf; rw [if_neg r1])
theorem Da_useCards {rm : Nat → Nat → Nat} {ru hc ca po : Nat} {lt : Nat → Nat} {δ : St} (N c p : Nat) (h : OP rm ru hc ca po lt δ) : ∃ δ1, fDa_useCards N (nI c) (nI p) δ = some δ1 ∧ OP rm ru hc c p lt δ1 := by
  obtain ⟨a1, a2, a3, a4, a5, a6, a7⟩ := h
  exact ⟨_, rfl, a1, a2, a3, a4, rfl, rfl, a7⟩
/-! days by draws -/
def ltOf (rm : Nat → Nat → Nat) (z i : Nat) : Nat := (7919 * z + 6151 * i + 1) * (7919 * z + 6151 * i + 1) % 65521 % (rm 0 6 + 1)
theorem lt_le {rm : Nat → Nat → Nat} (hN : rmN rm) (z i : Nat) : ltOf rm z i ≤ 30 := by
  have h := hN.2.2.2.2.2.2.1
  have := Nat.mod_lt ((7919 * z + 6151 * i + 1) * (7919 * z + 6151 * i + 1) % 65521) (show rm 0 6 + 1 > 0 by omega)
  unfold ltOf
  omega
theorem lt_eq {rm : Nat → Nat → Nat} (hN : rmN rm) {z i : Nat} (hz : z < 10000) (hi : i < 8) {x : Int64} (hx : x = (((7919 : Int64) * ((nI z).toInt64)) + ((6151 : Int64) * ((nI i).toInt64))) + (1 : Int64)) {v : Int32} (hv : v = nI (rm 0 6 + 1)) :
    (((x * x) - (x * x) / (65521 : Int64) * (65521 : Int64)) - ((x * x) - (x * x) / (65521 : Int64) * (65521 : Int64)) / (v.toInt64) * (v.toInt64)).toInt32 = nI (ltOf rm z i) ∧ ¬ v.toInt64 = 0 := by
  have h6 := hN.2.2.2.2.2.2.1
  have e : x = lN (7919 * z + 6151 * i + 1) := by
    rw [hx, nI_l (by omega), nI_l (by omega), show (7919 : Int64) = lN 7919 from rfl, show (6151 : Int64) = lN 6151 from rfl, show (1 : Int64) = lN 1 from rfl, lN_mul, lN_mul, lN_add, lN_add]
  have ev : v.toInt64 = lN (rm 0 6 + 1) := by rw [hv, nI_l (by omega)]
  have hb : (7919 * z + 6151 * i + 1) * (7919 * z + 6151 * i + 1) < 2 ^ 63 := by
    have h1 : 7919 * z + 6151 * i + 1 ≤ 80000000 := by omega
    have := Nat.mul_le_mul h1 h1
    omega
  have hm := Nat.mod_lt ((7919 * z + 6151 * i + 1) * (7919 * z + 6151 * i + 1)) (show 65521 > 0 by omega)
  refine ⟨?_, ?_⟩
  · rw [ev, e, lN_mul, show (65521 : Int64) = lN 65521 from rfl, pk_lRem hb (by omega) (by omega), pk_lRem (by omega) (by omega) (by omega), lN_i]
    rfl
  · rw [ev]
    intro q
    have := (pk_lEQ (a := rm 0 6 + 1) (b := 0) (by omega) (by omega)).mp q
    omega
theorem Da_comeLater {rm : Nat → Nat → Nat} {ρ : St} (hN : rmN rm) (hC : RoomC rm ρ) {N : Nat} (hNN : 100 ≤ N) {ru hc ca po z : Nat} (hz : z < 10000) {δ : St} (h : OP rm ru hc ca po (fun _ => 0) δ) : ∃ δ1, fDa_comeLater N (nI z) ρ δ = some δ1 ∧ OP rm ru hc ca po (ltOf rm z) δ1 := by
  have h08 := hN.1
  have h6 := hN.2.2.2.2.2.2.1
  have hlm : fRo_laterMinutes N ρ = some (nI (rm 0 6)) := by
    show some (ρ 0 8) = _
    rw [hC.2.2.2.2.2.2.1]
  obtain ⟨a1, a2, a3, a4, a5, a6, a7, a8, a9, a10, a11, a12, a13⟩ := h
  obtain ⟨δ1, ⟨z0, z1, z2, z3⟩, g⟩ := lock1 (G := fun k δ' => (∀ j, j ≠ 5 → δ' j = δ j) ∧ (∀ i, k ≤ i → δ' 5 i = δ 5 i) ∧ (∀ i, i < k → δ' 5 i = nI (rm (i + 2) 0 + ltOf rm z i)) ∧ True) (F1 := fun n k δ' => fDa_comeLater_12 N ρ n (nI z) (nI (rm 0 6 + 1)) (nI k) δ') (rm 0 0) (fun k δ' hk hh => by
    obtain ⟨e0, e1, e2, -⟩ := hh
    have g8 : ∀ x : Option St, gI (nI k) 8 x = x := fun x => gI_ok (by omega) (by decide) x
    have ck : (nI k).toNatClampNeg = k := cl_nI (by omega)
    obtain ⟨l1, l2⟩ := lt_eq hN hz (show k < 8 by omega) rfl (v := nI (rm 0 6 + 1)) rfl
    have dl : ¬ δ' 0 9 ≤ nI k := by rw [e0 0 (by decide), a1]; exact nI_ge hk (by omega)
    have e5 : δ' 5 k = nI (rm (k + 2) 0) := by rw [e1 k (Nat.le_refl k), (a12 k hk).2.2]; rfl
    refine ⟨sA δ' 5 (upd (δ' 5) k (nI (rm (k + 2) 0 + ltOf rm z k))), ⟨fun j hj => by rw [sA_n _ _ hj]; exact e0 j hj, fun i hi => ?_, fun i hi => ?_, trivial⟩, fun n => ?_⟩
    · rw [sA_s, upd_n _ _ (by omega)]; exact e1 i (by omega)
    · rw [sA_s]
      by_cases e : i = k
      · subst e; rw [upd_s]
      · rw [upd_n _ _ e]; exact e2 i (by omega)
    · rw [fDa_comeLater_12, if_neg dl, if_neg (nI_nle (by omega) (by omega)), nm_d, g8, gZL_ok l2, g8, ck, nm_d, nm_d, nI_1, l1, e5, nI_add]) (rm 0 0) 0 δ (by omega) ⟨fun _ _ => rfl, fun _ _ => rfl, fun i hi => absurd hi (by omega), trivial⟩
  refine ⟨δ1, ?_, ?_⟩
  · rw [fDa_comeLater, hlm, cl1_s, nm_d, show (1 : Int32) = nI 1 from rfl, nI_add]
    have e := g (N - rm 0 0 - 1 + 1)
    rw [show N - rm 0 0 - 1 + 1 + rm 0 0 = N by omega] at e
    refine e.trans ?_
    have dl : δ1 0 9 ≤ nI (rm 0 0) := by rw [z0 0 (by decide), a1]; exact nI_le (Nat.le_refl _) (by omega)
    show fDa_comeLater_12 N ρ (N - rm 0 0 - 1 + 1) (nI z) (nI (rm 0 6 + 1)) (nI (rm 0 0)) δ1 = _
    rw [fDa_comeLater_12, if_pos dl, fDa_comeLater_69]
  · unfold OP
    rw [z0 0 (by decide), z0 1 (by decide), z0 4 (by decide), z0 6 (by decide), z0 7 (by decide)]
    exact ⟨a1, a2, a3, a4, a5, a6, a7, a8, a9, a10, a11, fun i hi => ⟨(a12 i hi).1, (a12 i hi).2.1, z2 i hi⟩, a13⟩
