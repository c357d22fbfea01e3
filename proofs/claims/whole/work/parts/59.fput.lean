/-! what the class does with a good item -/
def fa_PT (N : Nat) (rm : Nat → Nat → Nat) (vs : Nat → Nat) (I : Nat) (ς ρ : St) : Prop := ∃ ρ', (∃ rm', nxt rm vs I = some rm' ∧ fSc_put N (nI I) ς ρ = some ((1 : Int32), ρ') ∧ RoomC rm' ρ' ∧ rmN rm') ∨ (nxt rm vs I = none ∧ fSc_put N (nI I) ς ρ = some ((0 : Int32), ρ'))
theorem put_s {N : Nat} {rm : Nat → Nat → Nat} {vs : Nat → Nat} {ς ρ : St} (hN : rmN rm) (hC : RoomC rm ρ) (hr : ∀ w, w < 1 → fa_Ran vs 0 w) (e : ∀ w, w < 1 → ς 2 w = nI (vs w)) : fa_PT N rm vs 0 ς ρ := by
  have r0 : vs 0 ≤ 3 := (hr 0 (by omega)).2
  have h10 : rm 0 1 ≤ 10 := hN.2.1
  have ep : fSc_put N (nI 0) ς ρ = cl2 (fRo_addSeat N (nI (vs 0)) ρ) fun r_3 ρ_4 => gB r_3 <| some (r_3, ρ_4) := by
    unfold fSc_put
    rw [if_pos (show nI 0 = (0 : Int32) from rfl), gI0 (by decide) (by decide), cz0, e 0 (by omega)]
  unfold fa_PT
  rw [ep]
  by_cases h : rm 0 1 < 10
  · obtain ⟨ρ', a1, a2⟩ := Ro_addSeat hN hC N (vs 0) h
    rw [a1, cl2_s, gB_1]
    exact ⟨ρ', Or.inl ⟨rmS rm (vs 0), if_pos ⟨r0, h⟩, rfl, a2, rmS_N hN r0 h⟩⟩
  · have a1 : fRo_addSeat N (nI (vs 0)) ρ = some ((0 : Int32), ρ) := by
      unfold fRo_addSeat
      rw [hC.1, if_neg (show ¬ nI (rm 0 1) < (10 : Int32) from nI_nlt (b := 10) (by omega) (by omega))]
    rw [a1, cl2_s, gB_0]
    exact ⟨ρ, Or.inr ⟨if_neg (fun z => h z.2), rfl⟩⟩
theorem put_r {N : Nat} {rm : Nat → Nat → Nat} {vs : Nat → Nat} {ς ρ : St} (hN : rmN rm) (hC : RoomC rm ρ) (hr : ∀ w, w < 7 → fa_Ran vs 1 w) (e : ∀ w, w < 7 → ς 2 w = nI (vs w)) : fa_PT N rm vs 1 ς ρ := by
  have ok : okR vs := ⟨(hr 0 (by omega)).2, hr 1 (by omega), hr 2 (by omega), hr 3 (by omega), (hr 4 (by omega)).2, (hr 5 (by omega)).2, (hr 6 (by omega)).2⟩
  have h08 : rm 0 0 ≤ 8 := hN.1
  have ep : fSc_put N (nI 1) ς ρ = cl2 (fRo_addReader N (ς 2) ρ) fun r_3 ρ_4 => gB r_3 <| some (r_3, ρ_4) := by
    unfold fSc_put
    rw [if_neg (show ¬ nI 1 = (0 : Int32) by decide), if_pos (show nI 1 = (1 : Int32) from rfl)]
  unfold fa_PT
  rw [ep]
  by_cases h : rm 0 0 < 8
  · obtain ⟨ρ', a1, a2⟩ := Ro_addReader hN hC N (told := ς 2) (f := vs) e h
    rw [a1, cl2_s, gB_1]
    exact ⟨ρ', Or.inl ⟨rmR rm vs, if_pos ⟨ok, h⟩, rfl, a2, rmR_N hN ok h⟩⟩
  · have a1 : fRo_addReader N (ς 2) ρ = some ((0 : Int32), ρ) := by
      unfold fRo_addReader
      rw [hC.2.1, if_pos (show (8 : Int32) ≤ nI (rm 0 0) from nI_le (a := 8) (by omega) (by omega))]
    rw [a1, cl2_s, gB_0]
    exact ⟨ρ, Or.inr ⟨if_neg (fun z => h z.2), rfl⟩⟩
theorem put_c {N : Nat} {rm : Nat → Nat → Nat} {vs : Nat → Nat} {ς ρ : St} (hN : rmN rm) (hC : RoomC rm ρ) (hr : ∀ w, w < 2 → fa_Ran vs 8 w) (e : ∀ w, w < 2 → ς 2 w = nI (vs w)) : fa_PT N rm vs 2 ς ρ := by
  have r0 : 1 ≤ vs 0 ∧ vs 0 ≤ 99 := hr 0 (by omega)
  have r1 : 1 ≤ vs 1 ∧ vs 1 ≤ 99 := hr 1 (by omega)
  have hC2 := RoomC.setK (RoomC.setK hC (k := 0) (v := vs 0) (by omega)) (k := 1) (v := vs 1) (by omega)
  have hN2 : rmN (rmK (rmK rm 2 (vs 0)) 3 (vs 1)) := rmK_N (k := 1) (rmK_N (k := 0) hN (by omega) r0.2 (fun _ => r0.1) (fun z => absurd z (by omega))) (by omega) r1.2 (fun _ => r1.1) (fun z => absurd z (by omega))
  refine ⟨_, Or.inl ⟨rmK (rmK rm 2 (vs 0)) 3 (vs 1), if_pos ⟨r0, r1⟩, ?_, hC2, hN2⟩⟩
  unfold fSc_put
  rw [if_neg (show ¬ nI 2 = (0 : Int32) by decide), if_neg (show ¬ nI 2 = (1 : Int32) by decide), if_pos (show nI 2 = (2 : Int32) from rfl), gI0 (by decide) (by decide), gI1 (by decide) (by decide), cz0, cz1, e 0 (by omega), e 1 (by omega), fRo_setCards, nm_d, nm_d, cl2_s, gB_1]
theorem put_l {N : Nat} {rm : Nat → Nat → Nat} {vs : Nat → Nat} {ς ρ : St} (hN : rmN rm) (hC : RoomC rm ρ) (hr : ∀ w, w < 1 → fa_Ran vs 10 w) (e : ∀ w, w < 1 → ς 2 w = nI (vs w)) : fa_PT N rm vs 3 ς ρ := by
  have r0 : 1 ≤ vs 0 ∧ vs 0 ≤ 99 := hr 0 (by omega)
  have hC2 := RoomC.setK hC (k := 2) (v := vs 0) (by omega)
  have hN2 : rmN (rmK rm 4 (vs 0)) := rmK_N (k := 2) hN (by omega) r0.2 (fun _ => r0.1) (fun z => absurd z (by omega))
  refine ⟨_, Or.inl ⟨rmK rm 4 (vs 0), if_pos r0, ?_, hC2, hN2⟩⟩
  unfold fSc_put
  rw [if_neg (show ¬ nI 3 = (0 : Int32) by decide), if_neg (show ¬ nI 3 = (1 : Int32) by decide), if_neg (show ¬ nI 3 = (2 : Int32) by decide), if_pos (show nI 3 = (3 : Int32) from rfl), gI0 (by decide) (by decide), cz0, e 0 (by omega), fRo_setLamps, nm_d, cl2_s, gB_1]
theorem put_w {N : Nat} {rm : Nat → Nat → Nat} {vs : Nat → Nat} {ς ρ : St} (hN : rmN rm) (hC : RoomC rm ρ) (hr : ∀ w, w < 1 → fa_Ran vs 11 w) (e : ∀ w, w < 1 → ς 2 w = nI (vs w)) : fa_PT N rm vs 4 ς ρ := by
  have r0 : vs 0 ≤ 99 := (hr 0 (by omega)).2
  have hC2 := RoomC.setK hC (k := 3) (v := vs 0) (by omega)
  have hN2 : rmN (rmK rm 5 (vs 0)) := rmK_N (k := 3) hN (by omega) r0 (fun z => absurd z (by omega)) (fun z => absurd z (by omega))
  refine ⟨_, Or.inl ⟨rmK rm 5 (vs 0), if_pos r0, ?_, hC2, hN2⟩⟩
  unfold fSc_put
  rw [if_neg (show ¬ nI 4 = (0 : Int32) by decide), if_neg (show ¬ nI 4 = (1 : Int32) by decide), if_neg (show ¬ nI 4 = (2 : Int32) by decide), if_neg (show ¬ nI 4 = (3 : Int32) by decide), if_pos (show nI 4 = (4 : Int32) from rfl), gI0 (by decide) (by decide), cz0, e 0 (by omega), fRo_setSeeking, nm_d, cl2_s, gB_1]
theorem put_v {N : Nat} {rm : Nat → Nat → Nat} {vs : Nat → Nat} {ς ρ : St} (hN : rmN rm) (hC : RoomC rm ρ) (hr : ∀ w, w < 1 → fa_Ran vs 12 w) (e : ∀ w, w < 1 → ς 2 w = nI (vs w)) : fa_PT N rm vs 5 ς ρ := by
  have r0 : vs 0 ≤ 30 := (hr 0 (by omega)).2
  have hC2 := RoomC.setK hC (k := 4) (v := vs 0) (by omega)
  have hN2 : rmN (rmK rm 6 (vs 0)) := rmK_N (k := 4) hN (by omega) (by omega) (fun z => absurd z (by omega)) (fun _ => r0)
  refine ⟨_, Or.inl ⟨rmK rm 6 (vs 0), if_pos r0, ?_, hC2, hN2⟩⟩
  unfold fSc_put
  rw [if_neg (show ¬ nI 5 = (0 : Int32) by decide), if_neg (show ¬ nI 5 = (1 : Int32) by decide), if_neg (show ¬ nI 5 = (2 : Int32) by decide), if_neg (show ¬ nI 5 = (3 : Int32) by decide), if_neg (show ¬ nI 5 = (4 : Int32) by decide), gI0 (by decide) (by decide), cz0, e 0 (by omega), fRo_setLater, nm_d, cl2_s, gB_1]
/-! a part out of its range -/
theorem no_s {rm : Nat → Nat → Nat} {vs : Nat → Nat} (h : ∃ w, w < 1 ∧ ¬ fa_Ran vs 0 w) : nxt rm vs 0 = none := by
  obtain ⟨w, hw, hn⟩ := h
  refine if_neg (fun z => hn ?_)
  have : w = 0 := by omega
  subst this
  exact ⟨Nat.zero_le _, z.1⟩
theorem no_r {rm : Nat → Nat → Nat} {vs : Nat → Nat} (h : ∃ w, w < 7 ∧ ¬ fa_Ran vs 1 w) : nxt rm vs 1 = none := by
  obtain ⟨w, hw, hn⟩ := h
  refine if_neg (fun z => hn ?_)
  obtain ⟨⟨z0, z1, z2, z3, z4, z5, z6⟩, _⟩ := z
  rcases w with _ | _ | _ | _ | _ | _ | _ | w
  · exact ⟨Nat.zero_le _, z0⟩
  · exact z1
  · exact z2
  · exact z3
  · exact ⟨Nat.zero_le _, z4⟩
  · exact ⟨Nat.zero_le _, z5⟩
  · exact ⟨Nat.zero_le _, z6⟩
  · omega
theorem no_c {rm : Nat → Nat → Nat} {vs : Nat → Nat} (h : ∃ w, w < 2 ∧ ¬ fa_Ran vs 8 w) : nxt rm vs 2 = none := by
  obtain ⟨w, hw, hn⟩ := h
  refine if_neg (fun z => hn ?_)
  rcases w with _ | _ | w
  · exact z.1
  · exact z.2
  · omega
theorem no_l {rm : Nat → Nat → Nat} {vs : Nat → Nat} (h : ∃ w, w < 1 ∧ ¬ fa_Ran vs 10 w) : nxt rm vs 3 = none := by
  obtain ⟨w, hw, hn⟩ := h
  refine if_neg (fun z => hn ?_)
  have : w = 0 := by omega
  subst this
  exact z
theorem no_w {rm : Nat → Nat → Nat} {vs : Nat → Nat} (h : ∃ w, w < 1 ∧ ¬ fa_Ran vs 11 w) : nxt rm vs 4 = none := by
  obtain ⟨w, hw, hn⟩ := h
  refine if_neg (fun z => hn ?_)
  have : w = 0 := by omega
  subst this
  exact ⟨Nat.zero_le _, z⟩
theorem no_v {rm : Nat → Nat → Nat} {vs : Nat → Nat} (h : ∃ w, w < 1 ∧ ¬ fa_Ran vs 12 w) : nxt rm vs 5 = none := by
  obtain ⟨w, hw, hn⟩ := h
  refine if_neg (fun z => hn ?_)
  have : w = 0 := by omega
  subst this
  exact ⟨Nat.zero_le _, z⟩
