/-! all the sets at rest -/
theorem p2_ok : ∀ r, r < 9 → ((1 : Int32) <<< (nI r &&& 31)) = nI (2 ^ r) := by decide +kernel
def Tab (rm : Nat → Nat → Nat) (M : Nat → Nat → Int32) (s : Nat) (σ : St) : Prop := ∀ t, t < s → ∀ i, i < rm 0 0 → σ 26 (8 * t + i) = M t i
theorem tab_row (k33 : Int32 → Int32 → Int32 → Int32 → St → Option (Int32 × St)) (N : Nat) (v1 v2 v3 : Int32) {s : Nat} (hs : s < 256) {σ0 : St} : ∀ (j k : Nat) (σ : St), k + j = 8 → KM σ0 σ → ∃ σ', KM σ0 σ' ∧ (∀ p, p < 8 * s + k → σ' 26 p = σ 26 p) ∧ (∀ i, k ≤ i → i < 8 → σ' 26 (8 * s + i) = σ 14 i) ∧ ∀ n, j ≤ n → fMo_rests_64 k33 N (n + 1) v1 v2 v3 (nI s) (nI k) σ = k33 v1 v2 v3 (nI (s + 1)) σ' := by
  intro j
  induction j with
  | zero =>
    intro k σ hk hK
    have : k = 8 := by omega
    subst this
    refine ⟨σ, hK, fun _ _ => rfl, fun i h1 h2 => absurd h1 (by omega), fun n _ => ?_⟩
    rw [fMo_rests_64, if_pos (show (8 : Int32) ≤ nI 8 by decide), nm_d, nI_1]
  | succ j ih =>
    intro k σ hk hK
    obtain ⟨σ', a1, a2, a3, a4⟩ := ih (k + 1) (sA σ 26 (upd (σ 26) (8 * s + k) (σ 14 k))) (by omega) (KM.arr 26 (by decide) hK)
    refine ⟨σ', a1, fun p hp => ?_, fun i h1 h2 => ?_, fun n hn => ?_⟩
    · rw [a2 p (by omega), sA_s, upd_n _ _ (by omega)]
    · by_cases e : i = k
      · rw [e, a2 (8 * s + k) (by omega), sA_s, upd_s]
      · rw [a3 i (by omega) h2, sA_n _ _ (by decide)]
    · obtain ⟨n', rfl⟩ : ∃ n', n = n' + 1 := ⟨n - 1, by omega⟩
      have e8 : (8 : Int32) * nI s + nI k = nI (8 * s + k) := by rw [show (8 : Int32) = nI 8 from rfl, pk_mul, nI_add]
      rw [fMo_rests_64, if_neg (show ¬ (8 : Int32) ≤ nI k from nI_ge (b := 8) (by omega) (by omega)), e8, gI_ok (by omega) (by decide), gI_ok (by omega) (by decide), nm_d, nm_d, cl_nI (by omega), cl_nI (by omega), nI_1]
      exact a4 n' (by omega)
theorem tab_all {N : Nat} (hNN : 5000 ≤ N) {rm : Nat → Nat → Nat} {ρ σ0 : St} (hN : rmN rm) (hC : RoomC rm ρ) (hM : RoomM rm 0 σ0) {ru : Nat} (hru : ru < 5) {M : Nat → Nat → Int32} (hMi : Mins N rm ru M) (v2 : Int32) {T : Nat} (hT : T ≤ 256) : ∀ (j s : Nat) (σ : St), s + j = T → KM σ0 σ → Tab rm M s σ → ∃ σ', KM σ0 σ' ∧ Tab rm M T σ' ∧ ∀ n, j ≤ n → fMo_rests_33 N (n + 1) (nI ru) v2 (nI T) (nI s) σ = fMo_rests_117 N N v2 (nI T) (0 : Int32) (-4 : Int32) (-4 : Int32) (0 : Int32) σ' := by
  have h08 : rm 0 0 ≤ 8 := hN.1
  intro j
  induction j with
  | zero =>
    intro s σ hs hK hB
    have : s = T := by omega
    subst this
    refine ⟨σ, hK, hB, fun n _ => ?_⟩
    rw [fMo_rests_33, if_pos (nI_le (Nat.le_refl _) (by omega))]
  | succ j ih =>
    intro s σ hs hK hB
    have hM' := hK.room hM
    obtain ⟨_, _, σ1, _, _, _, g3, g4⟩ := go_sim hNN hN hC hM' (show s < 256 by omega) hru (show 399 < 400 by omega) z0
    have e26 : σ1 26 = σ 26 := g4.fm.1 26 (by decide)
    have row : ∀ n', ∃ σ2, KM σ0 σ2 ∧ (∀ p, p < 8 * s + 0 → σ2 26 p = σ1 26 p) ∧ (∀ i, 0 ≤ i → i < 8 → σ2 26 (8 * s + i) = σ1 14 i) ∧ ∀ n, 8 ≤ n → fMo_rests_64 (fMo_rests_33 N n') N (n + 1) (nI ru) v2 (nI T) (nI s) (nI 0) σ1 = fMo_rests_33 N n' (nI ru) v2 (nI T) (nI (s + 1)) σ2 := fun n' => tab_row (fMo_rests_33 N n') N (nI ru) v2 (nI T) (show s < 256 by omega) 8 0 σ1 (by omega) (hK.tr g4.fm.km)
    have row2 : ∃ σ2, KM σ0 σ2 ∧ (∀ p, p < 8 * s + 0 → σ2 26 p = σ1 26 p) ∧ (∀ i, 0 ≤ i → i < 8 → σ2 26 (8 * s + i) = σ1 14 i) ∧ ∀ n' n, 8 ≤ n → fMo_rests_64 (fMo_rests_33 N n') N (n + 1) (nI ru) v2 (nI T) (nI s) (nI 0) σ1 = fMo_rests_33 N n' (nI ru) v2 (nI T) (nI (s + 1)) σ2 := by
      obtain ⟨σ2, b1, b2, b3, b4⟩ := tab_row (fun a b c d σ => some (0, σ)) N (nI ru) v2 (nI T) (show s < 256 by omega) 8 0 σ1 (by omega) (hK.tr g4.fm.km)
      refine ⟨σ2, b1, b2, b3, fun n' n hn => ?_⟩
      have key : ∀ (k33 : Int32 → Int32 → Int32 → Int32 → St → Option (Int32 × St)) (j k : Nat) (σ : St), k + j = 8 → ∀ n, j ≤ n → fMo_rests_64 k33 N (n + 1) (nI ru) v2 (nI T) (nI s) (nI k) σ = cl2 (fMo_rests_64 (fun a b c d σ => some (0, σ)) N (n + 1) (nI ru) v2 (nI T) (nI s) (nI k) σ) (fun _ σ' => k33 (nI ru) v2 (nI T) (nI (s + 1)) σ') := by
        intro k33 j
        induction j with
        | zero =>
          intro k σ hk n _
          have : k = 8 := by omega
          subst this
          rw [fMo_rests_64, fMo_rests_64, if_pos (show (8 : Int32) ≤ nI 8 by decide), if_pos (show (8 : Int32) ≤ nI 8 by decide), nm_d, nm_d, cl2_s, nI_1]
        | succ j ih =>
          intro k σ hk n hn
          obtain ⟨n', rfl⟩ : ∃ n', n = n' + 1 := ⟨n - 1, by omega⟩
          have e8 : (8 : Int32) * nI s + nI k = nI (8 * s + k) := by rw [show (8 : Int32) = nI 8 from rfl, pk_mul, nI_add]
          rw [fMo_rests_64, if_neg (show ¬ (8 : Int32) ≤ nI k from nI_ge (b := 8) (by omega) (by omega)), e8, gI_ok (by omega) (by decide), gI_ok (by omega) (by decide), nm_d, nm_d]
          conv => rhs; rw [fMo_rests_64, if_neg (show ¬ (8 : Int32) ≤ nI k from nI_ge (b := 8) (by omega) (by omega)), e8, gI_ok (by omega) (by decide), gI_ok (by omega) (by decide), nm_d, nm_d]
          rw [nI_1]
          exact ih (k + 1) _ (by omega) n' (by omega)
      rw [key (fMo_rests_33 N n') 8 0 σ1 (by omega) n hn, b4 n hn, cl2_s]
    obtain ⟨σ2, b1, b2, b3, b4⟩ := row2
    obtain ⟨σ', a1, a2, a3⟩ := ih (s + 1) σ2 (by omega) b1 (fun t ht i hi => by
      by_cases e : t = s
      · rw [e, b3 i (by omega) (by omega), hMi s (by omega) i hi _ _ hM' g3]
      · rw [b2 _ (by omega), e26]; exact hB t (by omega) i hi)
    refine ⟨σ', a1, a2, fun n hn => ?_⟩
    obtain ⟨n', rfl⟩ : ∃ n', n = n' + 1 := ⟨n - 1, by omega⟩
    obtain ⟨N', hN'⟩ : ∃ N', N = N' + 1 := ⟨N - 1, by omega⟩
    have b4' := b4 (n' + 1) N' (by omega)
    rw [← hN'] at b4'
    rw [fMo_rests_33, if_neg (nI_ge (by omega) (by omega)), gI0 (by decide) (by decide), gI1 (by decide) (by decide), cz0, cz1, hM'.card, hM'.port, show (399 : Int32) = nI 399 from rfl, g3, cl1_s]
    exact b4'.trans (a3 n' (by omega))
theorem rs_inner (k117 : Int32 → Int32 → Int32 → Int32 → Int32 → Int32 → St → Option (Int32 × St)) (N : Nat) {rm : Nat → Nat → Nat} {σ : St} (hN : rmN rm) (hM : RoomM rm 0 σ) {M : Nat → Nat → Int32} (hB : Tab rm M (2 ^ rm 0 0) σ) {x : Nat} (hx : x < 2 ^ rm 0 0) (v2 v3 v4 v5 v6 : Int32) : ∀ (j i : Nat) (a : Bool), i + j = rm 0 0 → ∀ n, j ≤ n → fMo_rests_129 k117 N (n + 1) v2 v3 v4 v5 v6 (nI x) (b2i a) (nI i) σ = fMo_rests_204 k117 N v2 v3 v5 v6 (nI x) (b2i (a && rsB M x j i)) v4 (b2i (a && rsB M x j i)) σ := by
  have h08 : rm 0 0 ≤ 8 := hN.1
  have hp := p2_256 h08
  have n1 : ¬ b2i true = 0 := by decide
  intro j
  induction j with
  | zero =>
    intro i a hi n _
    rw [fMo_rests_129, gI0 (by decide) (by decide), cz0, hM.2.1, if_pos (nI_le (by omega) (by omega)), rsB, Bool.and_true]
    cases a with
    | true => rw [if_neg n1]; rfl
    | false => rw [if_pos b2i_f]; rfl
  | succ j ih =>
    intro i a hi n hn
    obtain ⟨n', rfl⟩ : ∃ n', n = n' + 1 := ⟨n - 1, by omega⟩
    have hlt : i < rm 0 0 := by omega
    obtain ⟨bx1, bx2⟩ := b_xor x (by omega) i (by omega)
    have bx3 : x ^^^ 2 ^ i < 2 ^ rm 0 0 := Nat.xor_lt_two_pow hx (Nat.pow_lt_pow_right (by decide) hlt)
    have e8 : ∀ y, (8 : Int32) * nI y + nI i = nI (8 * y + i) := fun y => by rw [show (8 : Int32) = nI 8 from rfl, pk_mul, nI_add]
    have s183 : fMo_rests_183 (fMo_rests_129 k117 N (n' + 1)) N v2 v3 v4 v5 v6 (nI x) (nI i) σ = fMo_rests_204 k117 N v2 v3 v5 v6 (nI x) (b2i false) v4 (b2i false) σ := by
      rw [fMo_rests_183, fMo_rests_184, nm_d, nI_1]
      exact (ih (i + 1) false (by omega) n' (by omega)).trans (by rw [Bool.false_and])
    rw [fMo_rests_129, gI0 (by decide) (by decide), cz0, hM.2.1, if_neg (nI_ge hlt (by omega)), rsB]
    cases a with
    | false => rw [if_pos b2i_f, s183, Bool.false_and]
    | true =>
      rw [if_neg n1, bx1, e8, e8, gI_ok (by omega) (by decide), gI_ok (by omega) (by decide), cl_nI (by omega), cl_nI (by omega), hB x hx i hlt, hB _ bx3 i hlt, Bool.true_and]
      by_cases h : M (x ^^^ 2 ^ i) i ≤ M x i
      · have hn' : ¬ M x i < M (x ^^^ 2 ^ i) i := fun z => by
          have z1 := Int32.lt_iff_toInt_lt.mp z
          have z2 := Int32.le_iff_toInt_le.mp h
          omega
        rw [if_neg hn', fMo_rests_184, nm_d, nI_1, decide_eq_true h, Bool.true_and]
        exact (ih (i + 1) true (by omega) n' (by omega)).trans (by rw [Bool.true_and])
      · have hn' : M x i < M (x ^^^ 2 ^ i) i := Int32.lt_iff_toInt_lt.mpr (by
          have z2 : ¬ (M (x ^^^ 2 ^ i) i).toInt ≤ (M x i).toInt := fun z => h (Int32.le_iff_toInt_le.mpr z)
          omega)
        rw [if_pos hn', s183, decide_eq_false h, Bool.false_and]
theorem rs_loop {N : Nat} (hNN : 5000 ≤ N) {rm : Nat → Nat → Nat} {ρ γ σ : St} (hN : rmN rm) (hC : RoomC rm ρ) (hM : RoomM rm 0 σ) {ru : Nat} (hru : ru < 5) {M : Nat → Nat → Int32} (hMi : Mins N rm ru M) (hB : Tab rm M (2 ^ rm 0 0) σ) (r0 : Nat) (v2 : Int32) : ∀ (j x : Nat) (cn fi la : Int32) (Γ : Nat → Int64) (δ : St) (dr : Nat), x + j = 2 ^ rm 0 0 → (fi = -4 ∨ ∃ y, y < 256 ∧ fi = nI y) → GameOn N rm ru γ Γ → ∀ n, j ≤ n → ∃ r Γ' δ' dr', fMa_rests_39 N ρ r0 (n + 1) v2 cn fi la (nI x) γ Γ δ dr = some (r, γ, Γ', δ', dr') ∧ fMo_rests_117 N (n + 1) v2 (nI (2 ^ rm 0 0)) cn fi la (nI x) σ = some (r, σ) ∧ GameOn N rm ru γ Γ' := by
  have h08 : rm 0 0 ≤ 8 := hN.1
  have hp := p2_256 h08
  have hp0 : 0 < 2 ^ rm 0 0 := Nat.pow_pos (by decide)
  have ev : fRo_everybody N ρ = some (nI (2 ^ rm 0 0 - 1)) := by
    unfold fRo_everybody
    rw [hC.2.1, ev_ok _ (by omega)]
  intro j
  induction j with
  | zero =>
    intro x cn fi la Γ δ dr hx hf hG n _
    rw [fMa_rests_39, fMo_rests_117, ev, cl1_s, if_pos (nI_lt (by omega) (by omega)), if_pos (nI_le (by omega) (by omega))]
    by_cases h0 : v2 = 0
    · rw [if_pos h0, if_pos h0]; exact ⟨_, _, _, _, rfl, rfl, hG⟩
    · rw [if_neg h0, if_neg h0]
      by_cases h1 : v2 = 1
      · rw [if_pos h1, if_pos h1]; exact ⟨_, _, _, _, rfl, rfl, hG⟩
      · rw [if_neg h1, if_neg h1]; exact ⟨_, _, _, _, rfl, rfl, hG⟩
  | succ j ih =>
    intro x cn fi la Γ δ dr hx hf hG n hn
    obtain ⟨n', rfl⟩ : ∃ n', n = n' + 1 := ⟨n - 1, by omega⟩
    obtain ⟨N', hN'⟩ : ∃ N', N = N' + 1 := ⟨N - 1, by omega⟩
    obtain ⟨Γ1, δ1, dr1, c1, c2⟩ := rest_c hNN hN hC hM hru hMi (show x < 256 by omega) r0 (rm 0 0) 0 (by omega) Γ δ dr hG N' (by omega)
    rw [← hN'] at c1
    have c1' : fGa_isRest N (nI x) γ ρ r0 Γ δ dr = some (b2i (rsB M x (rm 0 0) 0), Γ1, δ1, dr1) := c1
    have m := rs_inner (fMo_rests_117 N (n' + 1)) N hN hM hB (show x < 2 ^ rm 0 0 by omega) v2 (nI (2 ^ rm 0 0)) cn fi la (rm 0 0) 0 true (by omega) N' (by omega)
    rw [← hN', Bool.true_and] at m
    have m' : fMo_rests_129 (fMo_rests_117 N (n' + 1)) N N v2 (nI (2 ^ rm 0 0)) cn fi la (nI x) (1 : Int32) (0 : Int32) σ = _ := m
    rw [fMa_rests_39, fMo_rests_117, ev, cl1_s, if_neg (nI_nlt (by omega) (by omega)), if_neg (nI_ge (by omega) (by omega)), c1', cl4_s, m']
    cases rsB M x (rm 0 0) 0 with
    | false =>
      rw [if_pos b2i_f, fMa_rests_86, nm_d, fMo_rests_204, nm_d, if_pos b2i_f, fMo_rests_222, fMo_rests_224, if_pos b2i_f, fMo_rests_238, nm_d, b2i_f, Int32.add_zero, nI_1]
      exact ih (x + 1) cn fi la Γ1 δ1 dr1 (by omega) hf c2 n' (by omega)
    | true =>
      have n1 : ¬ b2i true = 0 := by decide
      rw [if_neg n1, nm_d, fMo_rests_204, nm_d, if_neg n1, b2i_t]
      rcases hf with hf | ⟨y, hy, hf⟩
      · rw [if_pos hf, if_neg (by rw [hf]; decide), fMa_rests_80, fMa_rests_86, nm_d, fMo_rests_224, if_neg one0, fMo_rests_238, nm_d, nI_1]
        exact ih (x + 1) _ _ _ Γ1 δ1 dr1 (by omega) (Or.inr ⟨x, by omega, rfl⟩) c2 n' (by omega)
      · have nf : ¬ fi = (-4 : Int32) := by
          rw [hf]
          intro z
          have := congrArg Int32.toInt z
          rw [nI_toInt (by omega)] at this
          have e : (-4 : Int32).toInt = -4 := by decide
          omega
        rw [if_neg nf, if_pos (by rw [hf]; exact nI_pos' (by omega)), fMa_rests_80, fMa_rests_86, nm_d, fMo_rests_222, fMo_rests_224, if_neg one0, fMo_rests_238, nm_d, nI_1]
        exact ih (x + 1) _ _ _ Γ1 δ1 dr1 (by omega) (Or.inr ⟨y, hy, hf⟩) c2 n' (by omega)
theorem P_rests {N : Nat} (hNN : 5000 ≤ N) {μ ς τ ε γ : St} {Γ : Nat → Int64} {δ ρ σ : St} {Λ : Nat → Int64} {dr r0 : Nat} (hR : Rel N μ τ γ Γ ρ σ) (a0 : Int32) (a1 : Int32) : ∃ (r : Int32) (γ' : St) (Γ' : Nat → Int64) (δ' : St) (dr' : Nat) (σ' : St), fMa_rests N a0 a1 ρ r0 γ Γ δ dr = some (r, γ', Γ', δ', dr') ∧ fMo_rests N a0 a1 σ = some (r, σ') ∧ Rel N μ τ γ' Γ' ρ σ' := by
  have hR' := hR
  obtain ⟨rm, h, kp, len, hN, hC, hM, hT, hH, hG⟩ := hR'
  have h08 : rm 0 0 ≤ 8 := hN.1
  have hp := p2_256 h08
  unfold fMa_rests fMo_rests
  rcases wiRule N a0 with ⟨ru, hru, e0, u1, u2⟩ | ⟨u1, u2⟩
  rotate_left
  · rw [u1, u2, cl1_s, cl1_s, if_pos rfl, if_pos rfl]; exact ⟨_, _, _, _, _, _, rfl, rfl, hR⟩
  rw [u1, u2, cl1_s, cl1_s, if_neg one0, if_neg one0]
  rcases wi N a1 0 2 0 2 0 2 (by decide) (by decide) (by decide) (by decide) (by decide) with ⟨w, w1, w2, w3, w4, w5⟩ | ⟨w4, w5⟩
  rotate_left
  · rw [w4, w5, cl1_s, cl1_s, if_pos rfl, if_pos rfl]; exact ⟨_, _, _, _, _, _, rfl, rfl, hR⟩
  rw [w4, w5, cl1_s, cl1_s, if_neg one0, if_neg one0, e0, gI0 (by decide) (by decide), nm_d, cz0, hM.2.1, p2_ok _ (by omega)]
  obtain ⟨M, hMi⟩ := mins_ex hNN hN hC hM hru
  obtain ⟨γ1, Γ1, p1, p2⟩ := play_ok hNN hN hC hG hru
  obtain ⟨n, hn⟩ : ∃ n, N = n + 1 := ⟨N - 1, by omega⟩
  obtain ⟨σ1, k1, k2, k3⟩ := tab_all hNN hN hC hM hru hMi a1 hp (2 ^ rm 0 0) 0 σ (by omega) (KM.rf σ) (fun t ht => absurd ht (by omega))
  have k3' := k3 n (by omega)
  rw [← hn] at k3'
  obtain ⟨r, Γ2, δ2, dr2, q1, q2, q3⟩ := rs_loop hNN hN hC (k1.room hM) hru hMi k2 r0 a1 (2 ^ rm 0 0) 0 0 (-4) (-4) Γ1 δ dr (by omega) (Or.inl rfl) p2 n (by omega)
  rw [← hn] at q1 q2
  rw [p1, cl2_s]
  exact ⟨r, γ1, Γ2, δ2, dr2, σ1, q1, k3'.trans q2, Rel.km ⟨rm, h, kp, len, hN, hC, hM, hT, hH, Or.inr ⟨ru, hru, q3⟩⟩ k1⟩
