/-! the calls that run many days -/
theorem card_sim {N : Nat} (hNN : 5000 ≤ N) {rm : Nat → Nat → Nat} {μ ρ σ : St} (hN : rmN rm) (hC : RoomC rm ρ) (hM : RoomM rm 0 σ) {h : Nat} (hh : h < 256) (y2 : μ 0 9 = nI h) (y3 : σ 0 8 = nI h) {c p : Nat} (h0 : 0 < p) (hp : p < 100) (δ : St) :
    ∃ q δ' σ', q < 256 ∧ fMa_shutOutByCards N (nI c) (nI p) μ ρ δ = some (bcv (nI q), δ') ∧ fMo_goes N (2 : Int32) (σ 0 8) (399 : Int32) (nI c) (nI p) σ = some σ' ∧ fMo_many N (σ' 0 22) = some (bcv (nI q)) ∧ FM σ σ' := by
  obtain ⟨δ1, o1, o2⟩ := Da_open hN hC (N := N) (by omega) (ru := 2) (h := h) (by omega) δ
  obtain ⟨δ2, c1, c2⟩ := Da_useCards N c p o2
  obtain ⟨δ', σ', rn, g1, g2, g3⟩ := goes_sim hN hC hM (HCp_same hh) (N := N) (by omega) (by omega) h0 hp (show 399 < 400 by omega) c2
  obtain ⟨d1, ⟨q, q1, q2, q3⟩, _⟩ := g1.dc
  refine ⟨q, δ', σ', q1, ?_, ?_, ?_, g1.fm⟩
  · unfold fMa_shutOutByCards
    rw [show (2 : Int32) = nI 2 from rfl, show (399 : Int32) = nI 399 from rfl, y2, o1, cl1_s, c1, cl1_s, g2, cl1_s]
    unfold fDa_shutOut
    rw [cl1_s, q2, bc_any, cl1_s]
  · rw [y3, show (2 : Int32) = nI 2 from rfl, show (399 : Int32) = nI 399 from rfl]; exact g3
  · rw [q3]; exact Mo_many (by omega) q1
theorem porter_loop {N : Nat} (hNN : 5000 ≤ N) {μ τ γ : St} {Γ : Nat → Int64} {ρ : St} {r0 : Nat} (a : Int32) : ∀ (j : Nat), j ≤ 99 → ∀ (δ σ : St) (dr : Nat), Rel N μ τ γ Γ ρ σ → ∀ n, j ≤ n → ∃ (r : Int32) (δ' : St) (dr' : Nat) (σ' : St), fMa_porter_15 N μ ρ r0 (n + 1) a (nI j) δ dr = some (r, δ', dr') ∧ fMo_porter_17 N (n + 1) a (nI j) σ = some (r, σ') ∧ Rel N μ τ γ Γ ρ σ' := by
  intro j
  induction j with
  | zero =>
    intro _ δ σ dr hR n _
    rw [fMa_porter_15, fMo_porter_17, if_pos (show nI 0 < (1 : Int32) by decide), if_pos (show nI 0 ≤ (0 : Int32) by decide)]
    exact ⟨_, _, _, _, rfl, rfl, hR⟩
  | succ j ih =>
    intro hj δ σ dr hR n hn
    obtain ⟨n', rfl⟩ : ∃ n', n = n' + 1 := ⟨n - 1, by omega⟩
    have hR' := hR
    obtain ⟨rm, h, kp, len, hN, hC, hM, _, ⟨y1, y2, y3, _⟩, _⟩ := hR'
    have hp := p2_256 hN.1
    obtain ⟨q, δ', σ', q1, g1, g2, g3, g4⟩ := card_sim hNN hN hC hM (show h < 256 by omega) y2 y3 (c := rm 0 2) (p := j + 1) (by omega) (by omega) δ
    have hc : fRo_cardMinutes N ρ = some (nI (rm 0 2)) := by unfold fRo_cardMinutes; rw [hC.2.2.1]
    rw [fMa_porter_15, fMo_porter_17, if_neg (show ¬ nI (j + 1) < (1 : Int32) from nI_nlt (b := 1) (by omega) (by omega)), if_neg (nI_nle (by omega) (by omega)), hc, cl1_s, gI0 (by decide) (by decide), cz0, hM.card, g1, g2, cl2_s, cl1_s, g3, cl1_s]
    by_cases hb : a < bcv (nI q)
    · rw [if_pos hb, if_pos hb, nm_d, nm_d, pk_m1]
      exact ih (by omega) δ' σ' r0 (hR.km g4.km) n' (by omega)
    · rw [if_neg hb, if_neg hb]
      exact ⟨_, _, _, _, rfl, rfl, hR.km g4.km⟩
theorem card_loop {N : Nat} (hNN : 5000 ≤ N) {μ τ γ : St} {Γ : Nat → Int64} {ρ : St} {r0 : Nat} (a : Int32) : ∀ (j : Nat), j ≤ 99 → ∀ (δ σ : St) (dr : Nat), Rel N μ τ γ Γ ρ σ → ∀ n, j ≤ n → ∃ (r : Int32) (δ' : St) (dr' : Nat) (σ' : St), fMa_card_15 N μ ρ r0 (n + 1) a (nI j) δ dr = some (r, δ', dr') ∧ fMo_card_17 N (n + 1) a (nI j) σ = some (r, σ') ∧ Rel N μ τ γ Γ ρ σ' := by
  intro j
  induction j with
  | zero =>
    intro _ δ σ dr hR n _
    rw [fMa_card_15, fMo_card_17, if_pos (show nI 0 < (1 : Int32) by decide), if_pos (show nI 0 ≤ (0 : Int32) by decide)]
    exact ⟨_, _, _, _, rfl, rfl, hR⟩
  | succ j ih =>
    intro hj δ σ dr hR n hn
    obtain ⟨n', rfl⟩ : ∃ n', n = n' + 1 := ⟨n - 1, by omega⟩
    have hR' := hR
    obtain ⟨rm, h, kp, len, hN, hC, hM, _, ⟨y1, y2, y3, _⟩, _⟩ := hR'
    have hp := p2_256 hN.1
    have hpo := hN.2.2.2.1
    obtain ⟨q, δ', σ', q1, g1, g2, g3, g4⟩ := card_sim hNN hN hC hM (show h < 256 by omega) y2 y3 (c := j + 1) (p := rm 0 3) (by omega) (by omega) δ
    have hc : fRo_porterMinutes N ρ = some (nI (rm 0 3)) := by unfold fRo_porterMinutes; rw [hC.2.2.2.1]
    rw [fMa_card_15, fMo_card_17, if_neg (show ¬ nI (j + 1) < (1 : Int32) from nI_nlt (b := 1) (by omega) (by omega)), if_neg (nI_nle (by omega) (by omega)), hc, cl1_s, gI1 (by decide) (by decide), cz1, hM.port, g1, g2, cl2_s, cl1_s, g3, cl1_s]
    by_cases hb : a < bcv (nI q)
    · rw [if_pos hb, if_pos hb, nm_d, nm_d, pk_m1]
      exact ih (by omega) δ' σ' r0 (hR.km g4.km) n' (by omega)
    · rw [if_neg hb, if_neg hb]
      exact ⟨_, _, _, _, rfl, rfl, hR.km g4.km⟩
theorem P_porter {N : Nat} (hNN : 5000 ≤ N) {μ ς τ ε γ : St} {Γ : Nat → Int64} {δ ρ σ : St} {Λ : Nat → Int64} {dr r0 : Nat} (hR : Rel N μ τ γ Γ ρ σ) (a0 : Int32) : ∃ (r : Int32) (δ' : St) (dr' : Nat) (σ' : St), fMa_porter N a0 μ ρ r0 δ dr = some (r, δ', dr') ∧ fMo_porter N a0 σ = some (r, σ') ∧ Rel N μ τ γ Γ ρ σ' := by
  unfold fMa_porter fMo_porter
  rcases wi N a0 0 8 0 8 0 8 (by decide) (by decide) (by decide) (by decide) (by decide) with ⟨w, w1, w2, w3, w4, w5⟩ | ⟨w4, w5⟩
  · rw [w4, w5, cl1_s, cl1_s, if_neg one0, if_neg one0]
    obtain ⟨n, rfl⟩ : ∃ n, N = n + 1 := ⟨N - 1, by omega⟩
    exact porter_loop hNN a0 99 (by omega) δ σ dr hR n (by omega)
  · rw [w4, w5, cl1_s, cl1_s, if_pos rfl, if_pos rfl]; exact ⟨_, _, _, _, rfl, rfl, hR⟩
theorem P_card {N : Nat} (hNN : 5000 ≤ N) {μ ς τ ε γ : St} {Γ : Nat → Int64} {δ ρ σ : St} {Λ : Nat → Int64} {dr r0 : Nat} (hR : Rel N μ τ γ Γ ρ σ) (a0 : Int32) : ∃ (r : Int32) (δ' : St) (dr' : Nat) (σ' : St), fMa_card N a0 μ ρ r0 δ dr = some (r, δ', dr') ∧ fMo_card N a0 σ = some (r, σ') ∧ Rel N μ τ γ Γ ρ σ' := by
  unfold fMa_card fMo_card
  rcases wi N a0 0 8 0 8 0 8 (by decide) (by decide) (by decide) (by decide) (by decide) with ⟨w, w1, w2, w3, w4, w5⟩ | ⟨w4, w5⟩
  · rw [w4, w5, cl1_s, cl1_s, if_neg one0, if_neg one0]
    obtain ⟨n, rfl⟩ : ∃ n, N = n + 1 := ⟨N - 1, by omega⟩
    exact card_loop hNN a0 99 (by omega) δ σ dr hR n (by omega)
  · rw [w4, w5, cl1_s, cl1_s, if_pos rfl, if_pos rfl]; exact ⟨_, _, _, _, rfl, rfl, hR⟩
theorem gI4 {α : Type} {n : Nat} (h : 4 < n) (hn : n < 2 ^ 31) (x : Option α) : gI (4 : Int32) n x = x := gI_ok (k := 4) h hn x
/-- the draws of a late row -/
theorem draw_row {N : Nat} {rm : Nat → Nat → Nat} (hN : rmN rm) {z : Nat} (hz : z < 10000) (v2 : Int32) {σ0 : St} (hM : RoomM rm 0 σ0) : ∀ (j k : Nat) (σ : St), k + j = 8 → FM σ0 σ → (∀ i, i < k → σ 18 i = nI (ltOf rm z i)) → ∃ σ', FM σ0 σ' ∧ (∀ i, i < 8 → σ' 18 i = nI (ltOf rm z i)) ∧ ∀ n, fMo_drawnDay_2 N (n + j) (nI z) v2 (nI k) σ = fMo_drawnDay_2 N n (nI z) v2 (nI 8) σ' := by
  have h6 := hN.2.2.2.2.2.2.1
  intro j
  induction j with
  | zero =>
    intro k σ hk hF h
    have : k = 8 := by omega
    subst this
    exact ⟨σ, hF, h, fun _ => rfl⟩
  | succ j ih =>
    intro k σ hk hF h
    have e4 : σ 8 4 = nI (rm 0 6) := (hF.room hM).2.2.2.2.2.2.1
    obtain ⟨l1, l2⟩ := lt_eq hN hz (show k < 8 by omega) rfl (v := nI (rm 0 6 + 1)) rfl
    obtain ⟨σ', z1, z2, z3⟩ := ih (k + 1) (sA σ 18 (upd (σ 18) k (nI (ltOf rm z k)))) (by omega) (hF.arr 18 (by decide) (by decide)) (fun i hi => by
      rw [sA_s]
      by_cases e : i = k
      · rw [e, upd_s]
      · rw [upd_n _ _ e]; exact h i (by omega))
    refine ⟨σ', z1, z2, fun n => ?_⟩
    rw [← z3 n, show n + (j + 1) = n + j + 1 from rfl, fMo_drawnDay_2, if_neg (show ¬ (8 : Int32) ≤ nI k from nI_ge (b := 8) (by omega) (by omega)), nm_d, gI4 (by decide) (by decide), cz4, e4, show nI (rm 0 6) + (1 : Int32) = nI (rm 0 6 + 1) from nI_1 _, gZL_ok l2, gI_ok (by omega) (by decide), cl_nI (by omega), nm_d, nm_d, l1, nI_1]
theorem draw_sim {N : Nat} (hNN : 5000 ≤ N) {μ τ γ : St} {Γ : Nat → Int64} {ρ σ : St} (hR : Rel N μ τ γ Γ ρ σ) {z ru : Nat} (hz : z < 10000) (hru : ru < 5) (δ : St) : ∃ (r : Int32) (δ' : St) (σ' : St), fMa_shutOutByDraw N (nI z) (nI ru) μ ρ δ = some (r, δ') ∧ fMo_drawnDay N (nI z) (nI ru) σ = some (r, σ') ∧ Rel N μ τ γ Γ ρ σ' := by
  have hR' := hR
  obtain ⟨rm, h, kp, len, hN, hC, hM, _, ⟨y1, y2, y3, _⟩, _⟩ := hR'
  have hp := p2_256 hN.1
  have hpo := hN.2.2.2.1
  have h08 : rm 0 0 ≤ 8 := hN.1
  obtain ⟨δ1, o1, o2⟩ := Da_open hN hC (N := N) (by omega) (h := h) hru δ
  obtain ⟨δ2, c1, c2⟩ := Da_comeLater hN hC (N := N) (by omega) hz o2
  obtain ⟨σ1, z1, z2, z3⟩ := draw_row (N := N) hN hz (nI ru) hM 8 0 σ (by omega) (FM.rf σ) (fun i hi => absurd hi (by omega))
  have hM1 := z1.room hM
  obtain ⟨δ', σ', rn, g1, g2, g3⟩ := day_sim (lt := ltOf rm z) hN hC hM1 (HCp_same (show h < 256 by omega)) (N := N) (by omega) hru (by omega) (by omega) (fun i _ => lt_le hN z i) (show 399 < 400 by omega) c2 (fun i hi => z2 i (by omega))
  obtain ⟨d1, ⟨q, q1, q2, q3⟩, _⟩ := g1.dc
  refine ⟨bcv (nI q), δ', σ', ?_, ?_, hR.km (z1.tr g1.fm).km⟩
  · unfold fMa_shutOutByDraw
    rw [show (399 : Int32) = nI 399 from rfl, y2, o1, cl1_s, c1, cl1_s, g2, cl1_s]
    unfold fDa_shutOut
    rw [cl1_s, q2, bc_any, cl1_s]
  · have e := z3 (N - 9 + 1)
    rw [show N - 9 + 1 + 8 = N by omega] at e
    unfold fMo_drawnDay
    refine e.trans ?_
    rw [fMo_drawnDay_2, if_pos (show (8 : Int32) ≤ nI 8 by decide), gI0 (by decide) (by decide), gI1 (by decide) (by decide), cz0, cz1, hM1.card, hM1.port, z1.2 8 (by decide), y3, show (399 : Int32) = nI 399 from rfl, g3, cl1_s, q3, Mo_many (by omega) q1, cl1_s]
theorem wiSeed (N : Nat) (a : Int32) : (∃ k, k < 10000 ∧ a = nI k ∧ fMa_within N a (0 : Int32) (9999 : Int32) = some 1 ∧ fMo_isSeed N a = some 1) ∨ (fMa_within N a (0 : Int32) (9999 : Int32) = some 0 ∧ fMo_isSeed N a = some 0) := by
  unfold fMo_isSeed
  rcases wi N a 0 9999 0 9999 0 9999 (by decide) (by decide) (by decide) (by decide) (by decide) with ⟨k, h1, h2, h3, h4, h5⟩ | ⟨h4, h5⟩
  · exact Or.inl ⟨k, by omega, h3, h4, by rw [h5]; rfl⟩
  · exact Or.inr ⟨h4, by rw [h5]; rfl⟩
theorem P_drawn {N : Nat} (hNN : 5000 ≤ N) {μ ς τ ε γ : St} {Γ : Nat → Int64} {δ ρ σ : St} {Λ : Nat → Int64} {dr r0 : Nat} (hR : Rel N μ τ γ Γ ρ σ) (a0 : Int32) (a1 : Int32) : ∃ (r : Int32) (δ' : St) (dr' : Nat) (σ' : St), fMa_drawn N a0 a1 μ ρ r0 δ dr = some (r, δ', dr') ∧ fMo_drawn N a0 a1 σ = some (r, σ') ∧ Rel N μ τ γ Γ ρ σ' := by
  unfold fMa_drawn fMo_drawn
  rcases wiSeed N a0 with ⟨z, hz, e0, u1, u2⟩ | ⟨u1, u2⟩
  rotate_left
  · rw [u1, u2, cl1_s, cl1_s, if_pos rfl, if_pos rfl]; exact ⟨_, _, _, _, rfl, rfl, hR⟩
  rw [u1, u2, cl1_s, cl1_s, if_neg one0, if_neg one0]
  rcases wiRule N a1 with ⟨ru, hru, e1, u1, u2⟩ | ⟨u1, u2⟩
  rotate_left
  · rw [u1, u2, cl1_s, cl1_s, if_pos rfl, if_pos rfl]; exact ⟨_, _, _, _, rfl, rfl, hR⟩
  obtain ⟨r, δ', σ', g1, g2, g3⟩ := draw_sim hNN hR hz hru δ
  rw [u1, u2, cl1_s, cl1_s, if_neg one0, if_neg one0, e0, e1, g1, g2, cl2_s, cl2_s]
  exact ⟨_, _, _, _, rfl, rfl, g3⟩
theorem ten_loop {N : Nat} (hNN : 5000 ≤ N) {μ τ γ : St} {Γ : Nat → Int64} {ρ : St} {r0 : Nat} {z ru : Nat} (hz : z < 10000) (hru : ru < 5) : ∀ (j k : Nat), k + j = 10 → ∀ (v : Int32) (δ σ : St) (dr : Nat), Rel N μ τ γ Γ ρ σ → ∀ n, j ≤ n → ∃ (r : Int32) (δ' : St) (dr' : Nat) (σ' : St), fMa_ten_25 N μ ρ r0 (n + 1) (nI z) (nI ru) v (nI k) δ dr = some (r, δ', dr') ∧ fMo_ten_21 N (n + 1) (nI z) (nI ru) v (nI k) σ = some (r, σ') ∧ Rel N μ τ γ Γ ρ σ' := by
  intro j
  induction j with
  | zero =>
    intro k hk v δ σ dr hR n _
    have : k = 10 := by omega
    subst this
    rw [fMa_ten_25, fMo_ten_21, if_pos (show (10 : Int32) ≤ nI 10 by decide), if_pos (show (10 : Int32) ≤ nI 10 by decide)]
    exact ⟨_, _, _, _, rfl, rfl, hR⟩
  | succ j ih =>
    intro k hk v δ σ dr hR n hn
    obtain ⟨n', rfl⟩ : ∃ n', n = n' + 1 := ⟨n - 1, by omega⟩
    obtain ⟨r, δ', σ', g1, g2, g3⟩ := draw_sim hNN hR (z := (z + k) % 10000) (by omega) hru δ
    rw [fMa_ten_25, fMo_ten_21, if_neg (show ¬ (10 : Int32) ≤ nI k from nI_ge (b := 10) (by omega) (by omega)), if_neg (show ¬ (10 : Int32) ≤ nI k from nI_ge (b := 10) (by omega) (by omega)), nI_add, show (10000 : Int32) = nI 10000 from rfl, pk_rem (by omega) (by omega) (by omega), g1, g2, cl2_s, cl2_s]
    by_cases hb : r = 0
    · rw [if_pos hb, if_pos hb, fMa_ten_54, fMo_ten_50, nm_d, nm_d, nm_d, nm_d, nI_1]
      exact ih (k + 1) (by omega) _ δ' σ' r0 g3 n' (by omega)
    · rw [if_neg hb, if_neg hb, fMa_ten_54, fMo_ten_50, nm_d, nm_d, nm_d, nm_d, nI_1]
      exact ih (k + 1) (by omega) _ δ' σ' r0 g3 n' (by omega)
theorem P_ten {N : Nat} (hNN : 5000 ≤ N) {μ ς τ ε γ : St} {Γ : Nat → Int64} {δ ρ σ : St} {Λ : Nat → Int64} {dr r0 : Nat} (hR : Rel N μ τ γ Γ ρ σ) (a0 : Int32) (a1 : Int32) : ∃ (r : Int32) (δ' : St) (dr' : Nat) (σ' : St), fMa_ten N a0 a1 μ ρ r0 δ dr = some (r, δ', dr') ∧ fMo_ten N a0 a1 σ = some (r, σ') ∧ Rel N μ τ γ Γ ρ σ' := by
  unfold fMa_ten fMo_ten
  rcases wiSeed N a0 with ⟨z, hz, e0, u1, u2⟩ | ⟨u1, u2⟩
  rotate_left
  · rw [u1, u2, cl1_s, cl1_s, if_pos rfl, if_pos rfl]; exact ⟨_, _, _, _, rfl, rfl, hR⟩
  rw [u1, u2, cl1_s, cl1_s, if_neg one0, if_neg one0]
  rcases wiRule N a1 with ⟨ru, hru, e1, u1, u2⟩ | ⟨u1, u2⟩
  rotate_left
  · rw [u1, u2, cl1_s, cl1_s, if_pos rfl, if_pos rfl]; exact ⟨_, _, _, _, rfl, rfl, hR⟩
  rw [u1, u2, cl1_s, cl1_s, if_neg one0, if_neg one0, e0, e1]
  obtain ⟨n, rfl⟩ : ∃ n, N = n + 1 := ⟨N - 1, by omega⟩
  exact ten_loop hNN hz hru 10 0 (by omega) 0 δ σ dr hR n (by omega)
/-! how often -/
def best (ok : Nat → Bool) : Nat → Int32
  | 0 => -4
  | n + 1 => if ok (n + 1) then nI (n + 1) else best ok n
theorem often_c {N : Nat} {μ ρ δ : St} {r0 u p : Nat} {S : Nat → Nat} (hu : u ≤ 4000) (hp : p < 10000) (hS : ∀ d, 1 ≤ d → d < 100 → S d ≤ 4000 ∧ fDa_seenEvery N (nI d) δ = some (nI (S d * d))) : ∀ j, j < 100 → ∀ n, j ≤ n → fMa_often_37 N μ ρ r0 (n + 1) (nI p) (nI u) (nI j) δ = some (best (fun d => decide (S d * d ≤ u + p ∧ u ≤ S d * d + p)) j, δ, r0) := by
  intro j
  induction j with
  | zero =>
    intro _ n _
    rw [fMa_often_37, if_pos (show nI 0 < (1 : Int32) by decide)]; rfl
  | succ j ih =>
    intro hj n hn
    obtain ⟨n', rfl⟩ : ∃ n', n = n' + 1 := ⟨n - 1, by omega⟩
    obtain ⟨s1, s2⟩ := hS (j + 1) (by omega) hj
    have hb : S (j + 1) * (j + 1) ≤ 400000 := by
      have := Nat.mul_le_mul s1 (show j + 1 ≤ 100 by omega)
      omega
    have ti : (nI (S (j + 1) * (j + 1)) - nI u).toInt = ((S (j + 1) * (j + 1) : Nat) : Int) - u := pk_sub_toInt (by omega) (by omega)
    rw [fMa_often_37, if_neg (show ¬ nI (j + 1) < (1 : Int32) from nI_nlt (b := 1) (by omega) (by omega)), s2, cl1_s]
    by_cases hge : u ≤ S (j + 1) * (j + 1)
    · have e0 : nI (S (j + 1) * (j + 1)) - nI u = nI (S (j + 1) * (j + 1) - u) := pk_sub hge
      rw [e0, if_pos (nI_pos' (by omega))]
      by_cases hk : p < S (j + 1) * (j + 1) - u
      · rw [if_pos (nI_lt hk (by omega)), nm_d, pk_m1, ih (by omega) n' (by omega), best, if_neg (by simp only [decide_eq_true_eq]; omega)]
      · rw [if_neg (nI_nlt (by omega) (by omega)), best, if_pos (by simp only [decide_eq_true_eq]; omega)]
    · have hneg : ¬ (0 : Int32) ≤ nI (S (j + 1) * (j + 1)) - nI u := fun z => by
        have := Int32.le_iff_toInt_le.mp z
        rw [ti] at this
        have : (0 : Int32).toInt = 0 := by decide
        omega
      have e0 : 0 - (nI (S (j + 1) * (j + 1)) - nI u) = nI (u - S (j + 1) * (j + 1)) := by
        rw [← pk_sub (show S (j + 1) * (j + 1) ≤ u by omega), Int32.zero_sub, Int32.neg_sub]
      rw [if_neg hneg, e0]
      by_cases hk : p < u - S (j + 1) * (j + 1)
      · rw [if_pos (nI_lt hk (by omega)), nm_d, pk_m1, ih (by omega) n' (by omega), best, if_neg (by simp only [decide_eq_true_eq]; omega)]
      · rw [if_neg (nI_nlt (by omega) (by omega)), best, if_pos (by simp only [decide_eq_true_eq]; omega)]
theorem often_m {N : Nat} {σ : St} {u p : Nat} {S : Nat → Nat} (hu : u ≤ 4000) (h20 : σ 0 20 = nI u) (hp : p < 10000) (hS : ∀ d, 1 ≤ d → d < 100 → S d ≤ 4000 ∧ fMo_counted N (nI d) σ = some (nI (S d * d))) : ∀ j k, k + j = 99 → ∀ n, j ≤ n → fMo_often_32 N (n + 1) (nI p) (best (fun d => decide (S d * d ≤ u + p ∧ u ≤ S d * d + p)) k) (nI (k + 1)) σ = some (best (fun d => decide (S d * d ≤ u + p ∧ u ≤ S d * d + p)) 99, σ) := by
  intro j
  induction j with
  | zero =>
    intro k hk n _
    have : k = 99 := by omega
    subst this
    rw [fMo_often_32, if_pos (show (100 : Int32) ≤ nI (99 + 1) by decide)]
  | succ j ih =>
    intro k hk n hn
    obtain ⟨n', rfl⟩ : ∃ n', n = n' + 1 := ⟨n - 1, by omega⟩
    obtain ⟨s1, s2⟩ := hS (k + 1) (by omega) (by omega)
    have hb : S (k + 1) * (k + 1) ≤ 400000 := by
      have := Nat.mul_le_mul s1 (show k + 1 ≤ 100 by omega)
      omega
    have ti : (nI (S (k + 1) * (k + 1)) - nI u).toInt = ((S (k + 1) * (k + 1) : Nat) : Int) - u := pk_sub_toInt (by omega) (by omega)
    have tn : (-nI p).toInt = -(p : Int) := by
      have := pk_sub_toInt (a := 0) (b := p) (by omega) (by omega)
      rw [show nI 0 - nI p = -nI p from Int32.zero_sub _] at this
      omega
    rw [fMo_often_32, if_neg (show ¬ (100 : Int32) ≤ nI (k + 1) from nI_ge (b := 100) (by omega) (by omega)), s2, cl1_s, h20, Mo_in, cl1_s, Int32.toInt_toInt64, Int32.toInt_toInt64, Int32.toInt_toInt64, ti, tn, nI_toInt (by omega)]
    have ih' := ih (k + 1) (by omega) n' (by omega)
    by_cases hk : S (k + 1) * (k + 1) ≤ u + p ∧ u ≤ S (k + 1) * (k + 1) + p
    · rw [if_pos (show -(p : Int) ≤ ((S (k + 1) * (k + 1) : Nat) : Int) - u ∧ ((S (k + 1) * (k + 1) : Nat) : Int) - u ≤ p by omega), if_neg one0, fMo_often_68, nm_d, nI_1]
      rw [best, if_pos (decide_eq_true hk)] at ih'
      exact ih'
    · rw [if_neg (show ¬ (-(p : Int) ≤ ((S (k + 1) * (k + 1) : Nat) : Int) - u ∧ ((S (k + 1) * (k + 1) : Nat) : Int) - u ≤ p) by omega), if_pos rfl, fMo_often_68, nm_d, nI_1]
      rw [best, if_neg (by simp only [decide_eq_true_eq]; exact hk)] at ih'
      exact ih'
theorem P_often {N : Nat} (hNN : 5000 ≤ N) {μ ς τ ε γ : St} {Γ : Nat → Int64} {δ ρ σ : St} {Λ : Nat → Int64} {dr r0 : Nat} (hR : Rel N μ τ γ Γ ρ σ) (a0 : Int32) (a1 : Int32) : ∃ (r : Int32) (δ' : St) (dr' : Nat) (σ' : St), fMa_often N a0 a1 μ ρ r0 δ dr = some (r, δ', dr') ∧ fMo_often N a0 a1 σ = some (r, σ') ∧ Rel N μ τ γ Γ ρ σ' := by
  have hR' := hR
  obtain ⟨rm, h, kp, len, hN, hC, hM, ⟨t1, t2, t3, t4⟩, ⟨y1, y2, y3, y4, y5, y6, y7⟩, hG⟩ := hR'
  have hp := p2_256 hN.1
  unfold fMa_often fMo_often
  rcases wiRule N a0 with ⟨ru, hru, e0, u1, u2⟩ | ⟨u1, u2⟩
  rotate_left
  · rw [u1, u2, cl1_s, cl1_s, if_pos rfl, if_pos rfl]; exact ⟨_, _, _, _, rfl, rfl, hR⟩
  rw [u1, u2, cl1_s, cl1_s, if_neg one0, if_neg one0]
  rcases wi N a1 0 9999 0 9999 0 9999 (by decide) (by decide) (by decide) (by decide) (by decide) with ⟨w, w1, w2, w3, w4, w5⟩ | ⟨w4, w5⟩
  rotate_left
  · rw [w4, w5, cl1_s, cl1_s, if_pos rfl, if_pos rfl]; exact ⟨_, _, _, _, rfl, rfl, hR⟩
  obtain ⟨δ', σ', rn, g2, g3, g4⟩ := whole_sim hNN hN hC hM (show h < 256 by omega) y2 y3 hru δ
  obtain ⟨⟨us, us1, us2, us3⟩, all⟩ := g4.seen (N := N) (by omega)
  rw [w4, w5, cl1_s, cl1_s, if_neg one0, if_neg one0, e0, g2, cl1_s, g3, cl1_s, us2, cl1_s, w3]
  obtain ⟨S, hS⟩ : ∃ S : Nat → Nat, ∀ d, 1 ≤ d → d < 100 → S d ≤ 4000 ∧ fDa_seenEvery N (nI d) δ' = some (nI (S d * d)) ∧ fMo_counted N (nI d) σ' = some (nI (S d * d)) :=
    ⟨fun d => if hh : 1 ≤ d ∧ d < 100 then (all d hh.1 hh.2).choose else 0, fun d h1 h2 => by
      have := (all d h1 h2).choose_spec
      simp only [dif_pos (And.intro h1 h2)]
      exact this⟩
  obtain ⟨n, hn⟩ : ∃ n, N = n + 1 := ⟨N - 1, by omega⟩
  have r1 := often_c (N := N) (μ := μ) (ρ := ρ) (r0 := r0) us1 (show w < 10000 by omega) (fun d h1 h2 => ⟨(hS d h1 h2).1, (hS d h1 h2).2.1⟩) 99 (by omega) n (by omega)
  have r2 := often_m (N := N) us1 us3 (show w < 10000 by omega) (fun d h1 h2 => ⟨(hS d h1 h2).1, (hS d h1 h2).2.2⟩) 99 0 (by omega) n (by omega)
  rw [← hn] at r1 r2
  exact ⟨_, _, _, _, r1, r2, hR.km g4.fm.km⟩
