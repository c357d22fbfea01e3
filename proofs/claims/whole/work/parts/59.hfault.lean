/-! fault and lay -/
theorem fa_loop {c : Nat → Nat} {len : Nat} {τ : St} {N : Nat} (hNN : 1000 ≤ N) : ∀ (m a v n : Nat) (rm : Nat → Nat → Nat) (ς ρ σ : St), len ≤ a + m → a ≤ len → v ≤ a → m + 1 ≤ n → rmN rm → RoomC rm ρ → RoomM rm 1 σ → TX c len τ σ → ς 0 2 = nI a → σ 0 2 = nI a → ∃ r ς' ρ' σ', fSc_readInto_11 N τ n (nI v) ς ρ = some (r, ς', ρ') ∧ fMo_fault_9 N n σ = some (r, σ') ∧ FR σ σ' ∧ (r = (-4 : Int32) → ∃ rm', rmN rm' ∧ RoomC rm' ρ' ∧ RoomM rm' 1 σ') := by
  have fin : ∀ (v n : Nat) (rm : Nat → Nat → Nat) (ς ρ σ : St), rmN rm → RoomC rm ρ → RoomM rm 1 σ → TX c len τ σ → ς 0 2 = nI len → σ 0 2 = nI len → ∃ r ς' ρ' σ', fSc_readInto_11 N τ (n + 1) (nI v) ς ρ = some (r, ς', ρ') ∧ fMo_fault_9 N (n + 1) σ = some (r, σ') ∧ FR σ σ' ∧ (r = (-4 : Int32) → ∃ rm', rmN rm' ∧ RoomC rm' ρ' ∧ RoomM rm' 1 σ') := by
    intro v n rm ς ρ σ hN hC hM h h2 h3
    have hl := h.1
    refine ⟨-4, ς, ρ, σ, ?_, ?_, FR.rf σ, fun _ => ⟨rm, hN, hC, hM⟩⟩
    · rw [fSc_readInto_11]
      by_cases h4 : (400 : Int32) ≤ nI v
      · rw [if_pos h4]; rfl
      · rw [if_neg h4, fTe_length, cl1_s, h.2.1, h2, if_pos (nI_le (Nat.le_refl _) (by omega))]; rfl
    · rw [fMo_fault_9, h.2.2.1, h3, if_pos (nI_le (Nat.le_refl _) (by omega))]
  intro m
  induction m with
  | zero =>
    intro a v n rm ς ρ σ h1 h2 h3 h4 hN hC hM h e2 e3
    obtain ⟨n', rfl⟩ : ∃ n', n = n' + 1 := ⟨n - 1, by omega⟩
    have : a = len := by omega
    subst this
    exact fin v n' rm ς ρ σ hN hC hM h e2 e3
  | succ m ih =>
    intro a v n rm ς ρ σ h1 h2 h3 h4 hN hC hM h e2 e3
    obtain ⟨n', rfl⟩ : ∃ n', n = n' + 1 := ⟨n - 1, by omega⟩
    have hl := h.1
    by_cases ha : a = len
    · subst ha
      exact fin v n' rm ς ρ σ hN hC hM h e2 e3
    · obtain ⟨ς', ρ', σ', fr, alt⟩ := item_any h hNN (show a < len by omega) hN hC hM e2 e3
      rcases alt with ⟨rm', b, g1, g2, g3, g4, g5, g6, g7, g8, g9⟩ | ⟨g1, g2⟩
      · obtain ⟨r, ς2, ρ2, σ2, y1, y2, y3, y4⟩ := ih b (v + 1) n' rm' ς' ρ' σ' (by omega) g7 (by omega) (by omega) g1 g2 g3 (fr.tx h) g4 g5
        exact ⟨r, ς2, ρ2, σ2, (g8 n' v (by omega)).trans y1, (g9 n').trans y2, FR.tr fr y3, y4⟩
      · exact ⟨nI a, ς', ρ', σ', g1 n' v (by omega), g2 n', fr, fun z => absurd z (nI_n4 (by omega))⟩
theorem Mo_begins (N : Nat) (σ : St) : ∃ σ', fMo_begins N σ = some σ' ∧ RoomM rmZ 1 σ' ∧ FR σ σ' ∧ σ' 0 = σ 0 := by
  unfold fMo_begins
  simp only [gc_1_2, gc_5_10, gc_6_10, gc_7_10, gc_8_10, gc_9_10, nm_d]
  refine ⟨_, rfl, ⟨rfl, rfl, rfl, rfl, rfl, rfl, rfl, fun s hs => absurd hs (by show ¬ s < 0; omega), fun i hi => absurd hi (by show ¬ i < 0; omega)⟩, ⟨rfl, rfl, fun _ _ => rfl, rfl, rfl, fun _ _ => rfl, fun _ _ => rfl, fun s hs => ?_⟩, rfl⟩
  rw [sA_s, upd_n _ _ (show s ≠ Int32.toNatClampNeg 9 from (show s ≠ 9 by omega)), sA_s, upd_n _ _ (show s ≠ Int32.toNatClampNeg 8 from (show s ≠ 8 by omega)), sA_s, upd_n _ _ (show s ≠ Int32.toNatClampNeg 7 from (show s ≠ 7 by omega)), sA_s, upd_n _ _ (show s ≠ Int32.toNatClampNeg 6 from (show s ≠ 6 by omega)), sA_s, upd_n _ _ (show s ≠ Int32.toNatClampNeg 5 from (show s ≠ 5 by omega))]
  rfl
theorem fa_both {c : Nat → Nat} {len : Nat} {τ σ : St} (h : TX c len τ σ) {N : Nat} (hNN : 5000 ≤ N) (ς ε : St) : ∃ r ς' ε' σ', fSc_readInto N τ ς ε = some (r, ς', ε') ∧ fMo_fault N σ = some (r, σ') ∧ FR σ σ' ∧ (r = (-4 : Int32) → ∃ rm', rmN rm' ∧ RoomC rm' ε' ∧ RoomM rm' 1 σ') := by
  have hl := h.1
  obtain ⟨ρ1, r1, r2⟩ := Ro_clear N ε
  have f1 := FN.set σ 0
  obtain ⟨σ1, m1, m2, m3, m4⟩ := Mo_begins N (sA σ 0 (upd (σ 0) 2 (nI 0)))
  have fr := FR.tr f1.fp.fr m3
  obtain ⟨r, ς', ε', σ', y1, y2, y3, y4⟩ := fa_loop (c := c) (len := len) (τ := τ) (N := N) (by omega) len 0 0 N rmZ (sA ς 0 (upd (ς 0) 2 (nI 0))) ρ1 σ1 (by omega) (by omega) (by omega) (by omega) rmZ_N r2 m2 (fr.tx h) (by rw [sA_s, upd_s]) (by rw [m4]; exact f1.1)
  refine ⟨r, ς', ε', σ', ?_, ?_, FR.tr fr y3, y4⟩
  · unfold fSc_readInto
    rw [r1, cl1_s, nm_d]
    exact y1
  · unfold fMo_fault
    rw [nm_d]
    show cl1 (fMo_begins N (sA σ 0 (upd (σ 0) 2 (nI 0)))) _ = _
    rw [m1, cl1_s]
    exact y2
theorem P_fault {N : Nat} (hNN : 5000 ≤ N) {μ ς τ ε γ : St} {Γ : Nat → Int64} {δ ρ σ : St} {Λ : Nat → Int64} {dr r0 : Nat} (hR : Rel N μ τ γ Γ ρ σ) : ∃ (r : Int32) (ς' : St) (ε' : St) (σ' : St), fMa_fault N τ ς ε = some (r, ς', ε') ∧ fMo_fault N σ = some (r, σ') ∧ Rel N μ τ γ Γ ρ σ' := by
  obtain ⟨rm, hh, kp, len, hN, hC, hM, hT, hH, hG⟩ := id hR
  obtain ⟨c, hX⟩ := TX.ex hT
  obtain ⟨r, ς', ε', σ', y1, y2, y3, y4⟩ := fa_both hX hNN ς ε
  refine ⟨r, ς', ε', σ', ?_, y2, hR.fr y3⟩
  unfold fMa_fault
  rw [y1, cl3_s]
theorem P_lay {N : Nat} (hNN : 5000 ≤ N) {μ ς τ ε γ : St} {Γ : Nat → Int64} {δ ρ σ : St} {Λ : Nat → Int64} {dr r0 : Nat} (hR : Rel N μ τ γ Γ ρ σ) : ∃ (r : Int32) (bb : Bool) (μ' : St) (ς' : St) (ε' : St) (γ' : St) (ρ' : St) (σ' : St), fMa_lay N τ μ ς ε γ ρ = some (r, bb, μ', ς', ε', γ', ρ') ∧ fMo_lay N σ = some (r, σ') ∧ Rel N μ' τ γ' Γ ρ' σ' := by
  obtain ⟨rm, hh, kp, len, hN, hC, hM, hT, hH, hG⟩ := id hR
  obtain ⟨c, hX⟩ := TX.ex hT
  obtain ⟨r, ς', ε', σ', y1, y2, y3, y4⟩ := fa_both hX hNN ς ε
  have hR' := hR.fr y3
  unfold fMa_lay fMo_lay
  rw [y1, cl3_s, y2, cl2_s]
  by_cases hr : r = (-4 : Int32)
  · obtain ⟨rm', hN', hC', hM'⟩ := y4 hr
    have h08 : rm' 0 0 ≤ 8 := hN'.1
    have h10 : rm' 0 1 ≤ 10 := hN'.2.1
    have q1 : σ' 4 1 = nI (rm' 0 1) := hM'.1
    have q2 : σ' 5 1 = nI (rm' 0 0) := hM'.2.1
    rw [if_pos hr, if_pos hr, fRo_seatCount, cl1_s, hC'.1, gI1 (by decide) (by decide), cz1, q1]
    by_cases s0 : rm' 0 1 = 0
    · rw [if_pos (show nI (rm' 0 1) = (0 : Int32) by rw [s0]; rfl), if_pos (show nI (rm' 0 1) = (0 : Int32) by rw [s0]; rfl)]
      exact ⟨_, _, _, _, _, _, _, _, rfl, rfl, hR'⟩
    · have n0 : ¬ nI (rm' 0 1) = (0 : Int32) := nI_neq (b := 0) (by omega) (by omega) s0
      rw [if_neg n0, if_neg n0, fRo_readerCount, cl1_s, hC'.2.1, gI1 (by decide) (by decide), q2]
      by_cases t0 : rm' 0 0 = 0
      · rw [if_pos (show nI (rm' 0 0) = (0 : Int32) by rw [t0]; rfl), if_pos (show nI (rm' 0 0) = (0 : Int32) by rw [t0]; rfl)]
        exact ⟨_, _, _, _, _, _, _, _, rfl, rfl, hR'⟩
      · have n1 : ¬ nI (rm' 0 0) = (0 : Int32) := nI_neq (b := 0) (by omega) (by omega) t0
        obtain ⟨σ2, k1, k2, k3, k4, k5, k6, k7⟩ := Mo_takes (N := N) (by omega) hN' hM'
        have ev : fRo_everybody N ε' = some (nI (2 ^ rm' 0 0 - 1)) := by
          unfold fRo_everybody
          rw [hC'.2.1, ev_ok _ (by omega)]
        rw [if_neg n1, if_neg n1, nm_d, ev, cl1_s, nm_d, nm_d, cl1_s, k1, cl1_s, gI0 (by decide) (by decide), cz0, k7]
        obtain ⟨t1, t2, t3, t4⟩ := hT
        refine ⟨_, _, _, _, _, _, _, _, rfl, rfl, rm', 2 ^ rm' 0 0 - 1, 0, len, hN', hC', k2, ⟨t1, t2, by rw [k5, y3.2.2.1 0 (by decide)]; exact t3, by rw [k6, y3.1]; exact t4⟩, ⟨Nat.sub_lt (Nat.two_pow_pos _) (by omega), ?_, k3, by omega, ?_, k4, fun j hj => absurd hj (by omega)⟩, Or.inl ?_⟩
        · rw [sA_s, upd_n _ _ (by decide), sA_s, upd_s]
        · rw [sA_s, upd_s]; rfl
        · rw [sA_s, upd_s]
  · rw [if_neg hr, if_neg hr]
    exact ⟨_, _, _, _, _, _, _, _, rfl, rfl, hR'⟩
