/-! the calls that run one day -/
theorem count_zero {N : Nat} {σ : St} {rn : Nat} (hz : ∀ j, rn ≤ j → j < 400 → σ 25 j = 0) {d : Nat} (hd : 1 ≤ d) (hd' : d < 100) : ∀ (m k v : Nat), rn ≤ k → 400 ≤ k + m → k < 500 → ∀ n, m ≤ n → fMo_counted_4 N σ (n + 1) (nI d) (nI v) (nI k) = some (nI (v * d)) := by
  intro m
  induction m with
  | zero =>
    intro k v _ hk hk5 n _
    rw [fMo_counted_4, if_pos (show (400 : Int32) ≤ nI k from nI_le (a := 400) (by omega) (by omega)), pk_mul, Nat.mul_comm]
  | succ m ih =>
    intro k v hr hk hk5 n hn
    by_cases h4 : 400 ≤ k
    · rw [fMo_counted_4, if_pos (show (400 : Int32) ≤ nI k from nI_le (a := 400) (by omega) (by omega)), pk_mul, Nat.mul_comm]
    · obtain ⟨n', rfl⟩ : ∃ n', n = n' + 1 := ⟨n - 1, by omega⟩
      rw [fMo_counted_4, if_neg (show ¬ (400 : Int32) ≤ nI k from nI_ge (b := 400) (by omega) (by omega)), gI_ok (by omega) (by decide), cl_nI (by omega), nm_d, nm_d, hz k hr (by omega), show nI v + (0 : Int32) = nI v from Int32.add_zero _, nI_add]
      exact ih (k + d) v (by omega) (by omega) (by omega) n' (by omega)
theorem seen_count {N : Nat} {δ σ : St} {rn : Nat} {f : Nat → Nat} (hrn : rn ≤ 400) (h15 : δ 0 15 = nI rn) (h8 : ∀ j, j < rn → f j ≤ 10 ∧ δ 8 j = nI (f j) ∧ σ 25 j = nI (f j)) (hz : ∀ j, rn ≤ j → j < 400 → σ 25 j = 0) {d : Nat} (hd : 1 ≤ d) (hd' : d < 100) :
    ∀ (m k v : Nat), 400 ≤ k + m → k < 500 → ∃ s, s ≤ 10 * m ∧ (∀ n, m ≤ n → fDa_seenEvery_4 N δ (n + 1) (nI d) (nI v) (nI k) = some (nI ((v + s) * d))) ∧ (∀ n, m ≤ n → fMo_counted_4 N σ (n + 1) (nI d) (nI v) (nI k) = some (nI ((v + s) * d))) := by
  intro m
  induction m with
  | zero =>
    intro k v hk hk5
    refine ⟨0, by omega, fun n _ => ?_, fun n _ => count_zero hz hd hd' 0 k v (by omega) hk hk5 n (by omega)⟩
    rw [fDa_seenEvery_4, h15, if_pos (nI_le (by omega) (by omega)), fDa_seenEvery_32, pk_mul]; rfl
  | succ m ih =>
    intro k v hk hk5
    by_cases hr : k < rn
    · obtain ⟨f1, f2, f3⟩ := h8 k hr
      obtain ⟨s, s1, s2, s3⟩ := ih (k + d) (v + f k) (by omega) (by omega)
      refine ⟨f k + s, by omega, fun n hn => ?_, fun n hn => ?_⟩
      · obtain ⟨n', rfl⟩ : ∃ n', n = n' + 1 := ⟨n - 1, by omega⟩
        rw [fDa_seenEvery_4, h15, if_neg (nI_ge hr (by omega)), if_neg (show ¬ nI d ≤ (0 : Int32) from nI_ge (a := 0) (by omega) (by omega)), gI_ok (by omega) (by decide), cl_nI (by omega), nm_d, nm_d, f2, nI_add, nI_add, s2 n' (by omega), Nat.add_assoc]
      · obtain ⟨n', rfl⟩ : ∃ n', n = n' + 1 := ⟨n - 1, by omega⟩
        rw [fMo_counted_4, if_neg (show ¬ (400 : Int32) ≤ nI k from nI_ge (b := 400) (by omega) (by omega)), gI_ok (by omega) (by decide), cl_nI (by omega), nm_d, nm_d, f3, nI_add, nI_add, s3 n' (by omega), Nat.add_assoc]
    · refine ⟨0, by omega, fun n _ => ?_, fun n hn => count_zero hz hd hd' (m + 1) k v (by omega) hk hk5 n hn⟩
      rw [fDa_seenEvery_4, h15, if_pos (nI_le (by omega) (by omega)), fDa_seenEvery_32, pk_mul]; rfl
theorem count_one {N : Nat} {σ : St} : ∀ (m k : Nat), k + m = 400 → ∀ n, m ≤ n → fMo_counted_4 N σ (n + 1) (nI 1) (sumI (σ 25) k) (nI k) = some (sumI (σ 25) 400) := by
  intro m
  induction m with
  | zero =>
    intro k hk n _
    have : k = 400 := by omega
    subst this
    rw [fMo_counted_4, if_pos (show (400 : Int32) ≤ nI 400 by decide), show nI 1 * sumI (σ 25) 400 = sumI (σ 25) 400 from Int32.one_mul _]
  | succ m ih =>
    intro k hk n hn
    obtain ⟨n', rfl⟩ : ∃ n', n = n' + 1 := ⟨n - 1, by omega⟩
    rw [fMo_counted_4, if_neg (show ¬ (400 : Int32) ≤ nI k from nI_ge (b := 400) (by omega) (by omega)), gI_ok (by omega) (by decide), cl_nI (by omega), nm_d, nm_d, nI_add]
    exact ih (k + 1) (by omega) n' (by omega)
theorem RES.seen {rm : Nat → Nat → Nat} {ru hm hc ca po rn : Nat} {lt : Nat → Nat} {σ0 δ σ : St} {N : Nat} (hNN : 1000 ≤ N) (h : RES rm ru hm hc ca po 400 lt σ0 rn δ σ) : (∃ s, s ≤ 4000 ∧ fDa_used N δ = some (nI s) ∧ σ 0 20 = nI s) ∧ ∀ d, 1 ≤ d → d < 100 → ∃ s, s ≤ 4000 ∧ fDa_seenEvery N (nI d) δ = some (nI (s * d)) ∧ fMo_counted N (nI d) σ = some (nI (s * d)) := by
  obtain ⟨us, f8, f25, ⟨_, _, _, _, h15, e8, e25, e20⟩, hrn, hj, hz, hu⟩ := h
  subst e8 e25
  have hex : ∃ f : Nat → Nat, ∀ j, j < rn → f j ≤ 10 ∧ δ 8 j = nI (f j) ∧ σ 25 j = nI (f j) :=
    ⟨fun j => if hh : j < rn then (hj j hh).choose else 0, fun j hh => by
      have := (hj j hh).choose_spec
      simp only [dif_pos hh]
      exact this⟩
  obtain ⟨f, hf⟩ := hex
  have all : ∀ d, 1 ≤ d → d < 100 → ∃ s, s ≤ 4000 ∧ fDa_seenEvery N (nI d) δ = some (nI (s * d)) ∧ fMo_counted N (nI d) σ = some (nI (s * d)) := by
    intro d h1 h2
    obtain ⟨s, s1, s2, s3⟩ := seen_count (N := N) hrn h15 hf hz h1 h2 400 0 0 (by omega) (by omega)
    obtain ⟨n, rfl⟩ : ∃ n, N = n + 1 := ⟨N - 1, by omega⟩
    have s2' := s2 n (by omega)
    have s3' := s3 n (by omega)
    rw [Nat.zero_add] at s2' s3'
    exact ⟨s, by omega, s2', s3'⟩
  refine ⟨?_, all⟩
  obtain ⟨s, s1, s2, s3⟩ := all 1 (by omega) (by omega)
  obtain ⟨n, rfl⟩ : ∃ n, N = n + 1 := ⟨N - 1, by omega⟩
  have c1 := count_one (N := n + 1) (σ := σ) 400 0 (by omega) n (by omega)
  have c2 : fMo_counted (n + 1) (nI 1) σ = some (sumI (σ 25) 400) := c1
  rw [s3] at c2
  refine ⟨s, s1, ?_, ?_⟩
  · unfold fDa_used
    rw [show (1 : Int32) = nI 1 from rfl, s2, cl1_s, Nat.mul_one]
  · rw [e20, hu, ← Option.some.inj c2, Nat.mul_one]
theorem go_sim {N : Nat} (hNN : 5000 ≤ N) {rm : Nat → Nat → Nat} {ρ σ : St} (hN : rmN rm) (hC : RoomC rm ρ) (hM : RoomM rm 0 σ) {h : Nat} (hh : h < 256) {ru last : Nat} (hru : ru < 5) (hl : last < 400) (δ : St) :
    ∃ δ1 δ' σ' rn, fDa_open N (nI ru) (nI h) ρ δ = some δ1 ∧ fDa_runTo N (nI last) ρ δ1 = some δ' ∧ fMo_goes N (nI ru) (nI h) (nI last) (nI (rm 0 2)) (nI (rm 0 3)) σ = some σ' ∧ RES rm ru h (hcOf ru h) (rm 0 2) (rm 0 3) (last + 1) (fun _ => 0) σ rn δ' σ' := by
  obtain ⟨δ1, o1, o2⟩ := Da_open hN hC (N := N) (by omega) (h := h) hru δ
  have hp := hN.2.2.2.1
  obtain ⟨δ', σ', rn, g1, g2, g3⟩ := goes_sim hN hC hM (HCp_same hh) (N := N) (by omega) hru (by omega) (by omega) hl o2
  exact ⟨δ1, δ', σ', rn, o1, g2, g3, g1⟩
theorem RES.fm {rm : Nat → Nat → Nat} {ru hm hc ca po T rn : Nat} {lt : Nat → Nat} {σ0 δ σ : St} (h : RES rm ru hm hc ca po T lt σ0 rn δ σ) : FM σ0 σ := by
  obtain ⟨us, f8, f25, ⟨hf, _⟩, _⟩ := h
  exact hf
theorem RES.dc {rm : Nat → Nat → Nat} {ru hm hc ca po T rn : Nat} {lt : Nat → Nat} {σ0 δ σ : St} (h : RES rm ru hm hc ca po T lt σ0 rn δ σ) : δ 0 17 = σ 0 21 ∧ (∃ q, q < 256 ∧ δ 0 18 = nI q ∧ σ 0 22 = nI q) ∧ (∃ q, q < 256 ∧ δ 0 19 = nI q ∧ σ 0 23 = nI q) := by
  obtain ⟨us, f8, f25, ⟨_, ⟨_, _, _, _, _, _, _, a, b, c⟩, _⟩, _⟩ := h
  exact ⟨a, b, c⟩
theorem RES.rd {rm : Nat → Nat → Nat} {ru hm hc ca po T rn : Nat} {lt : Nat → Nat} {σ0 δ σ : St} (h : RES rm ru hm hc ca po T lt σ0 rn δ σ) {i : Nat} (hi : i < rm 0 0) : δ 1 i = σ 12 i ∧ ∃ q, q ≤ rm (i + 2) 1 ∧ δ 4 i = nI q ∧ σ 14 i = nI q := by
  obtain ⟨us, f8, f25, ⟨_, _, hr, _⟩, _⟩ := h
  obtain ⟨⟨_, _, q, q1, q2, q3, _⟩, hp⟩ := hr i hi
  refine ⟨?_, q, q1, q2, q3⟩
  rcases hp with ⟨a, _⟩ | ⟨_, b, _⟩
  · exact absurd a Bool.false_ne_true
  · exact b
theorem RES.sd {rm : Nat → Nat → Nat} {ru hm hc ca po T rn : Nat} {lt : Nat → Nat} {σ0 δ σ : St} (h : RES rm ru hm hc ca po T lt σ0 rn δ σ) {s : Nat} (hs : s < rm 0 1) : δ 6 s = σ 19 s ∧ δ 7 s = σ 20 s ∧ (σ 19 s = -1 ∨ ∃ i, i < rm 0 0 ∧ σ 19 s = nI i) ∧ (σ 20 s = -1 ∨ ∃ i, i < rm 0 0 ∧ σ 20 s = nI i) := by
  obtain ⟨us, f8, f25, ⟨_, _, _, hr, _⟩, _⟩ := h
  obtain ⟨a, b, c, d⟩ := hr s hs
  exact ⟨a, b, c.imp id (fun ⟨i, x, y, _⟩ => ⟨i, x, y⟩), d.imp id (fun ⟨i, x, y, _⟩ => ⟨i, x, y⟩)⟩
theorem cz4 : (4 : Int32).toNatClampNeg = 4 := rfl
theorem RoomM.card {rm : Nat → Nat → Nat} {σ : St} (h : RoomM rm 0 σ) : σ 8 0 = nI (rm 0 2) := h.2.2.1
theorem RoomM.port {rm : Nat → Nat → Nat} {σ : St} (h : RoomM rm 0 σ) : σ 8 1 = nI (rm 0 3) := h.2.2.2.1
theorem whole_sim {N : Nat} (hNN : 5000 ≤ N) {rm : Nat → Nat → Nat} {μ ρ σ : St} (hN : rmN rm) (hC : RoomC rm ρ) (hM : RoomM rm 0 σ) {h : Nat} (hh : h < 256) (y2 : μ 0 9 = nI h) (y3 : σ 0 8 = nI h) {ru : Nat} (hru : ru < 5) (δ : St) :
    ∃ δ' σ' rn, fMa_runWhole N (nI ru) μ ρ δ = some δ' ∧ fMo_whole N (nI ru) σ = some σ' ∧ RES rm ru h (hcOf ru h) (rm 0 2) (rm 0 3) 400 (fun _ => 0) σ rn δ' σ' := by
  obtain ⟨δ1, δ', σ', rn, g1, g2, g3, g4⟩ := go_sim hNN hN hC hM hh hru (show 399 < 400 by omega) δ
  refine ⟨δ', σ', rn, ?_, ?_, g4⟩
  · unfold fMa_runWhole
    rw [y2, g1, cl1_s, show (399 : Int32) = nI 399 from rfl, g2, cl1_s]
  · unfold fMo_whole
    rw [gI0 (by decide) (by decide), gI1 (by decide) (by decide), cz0, cz1, hM.card, hM.port, y3, show (399 : Int32) = nI 399 from rfl, g3, cl1_s]
theorem wiMinute (N : Nat) (a : Int32) : (∃ k, k < 400 ∧ a = nI k ∧ fMa_within N a (0 : Int32) (399 : Int32) = some 1 ∧ fMo_isMinute N a = some 1) ∨ (fMa_within N a (0 : Int32) (399 : Int32) = some 0 ∧ fMo_isMinute N a = some 0) := by
  unfold fMo_isMinute
  rcases wi N a 0 399 0 399 0 399 (by decide) (by decide) (by decide) (by decide) (by decide) with ⟨k, h1, h2, h3, h4, h5⟩ | ⟨h4, h5⟩
  · exact Or.inl ⟨k, by omega, h3, h4, by rw [h5]; rfl⟩
  · exact Or.inr ⟨h4, by rw [h5]; rfl⟩
theorem P_seat {N : Nat} (hNN : 5000 ≤ N) {μ ς τ ε γ : St} {Γ : Nat → Int64} {δ ρ σ : St} {Λ : Nat → Int64} {dr r0 : Nat} (hR : Rel N μ τ γ Γ ρ σ) (a0 : Int32) (a1 : Int32) (a2 : Int32) (a3 : Int32) : ∃ (r : Int32) (δ' : St) (dr' : Nat) (σ' : St), fMa_seat N a0 a1 a2 a3 μ ρ r0 δ dr = some (r, δ', dr') ∧ fMo_seat N a0 a1 a2 a3 σ = some (r, σ') ∧ Rel N μ τ γ Γ ρ σ' := by
  have hR' := hR
  obtain ⟨rm, h, kp, len, hN, hC, hM, ⟨t1, t2, t3, t4⟩, ⟨y1, y2, y3, y4, y5, y6, y7⟩, hG⟩ := hR'
  have hp := p2_256 hN.1
  have h10 : rm 0 1 ≤ 10 := hN.2.1
  have h08 : rm 0 0 ≤ 8 := hN.1
  unfold fMa_seat fMo_seat
  rcases wiRule N a0 with ⟨ru, hru, e0, u1, u2⟩ | ⟨u1, u2⟩
  rotate_left
  · rw [u1, u2, cl1_s, cl1_s, if_pos rfl, if_pos rfl]; exact ⟨_, _, _, _, rfl, rfl, hR⟩
  rw [u1, u2, cl1_s, cl1_s, if_neg one0, if_neg one0]
  rcases wiMinute N a1 with ⟨mi, hmi, e1, u1, u2⟩ | ⟨u1, u2⟩
  rotate_left
  · rw [u1, u2, cl1_s, cl1_s, if_pos rfl, if_pos rfl]; exact ⟨_, _, _, _, rfl, rfl, hR⟩
  rw [u1, u2, cl1_s, cl1_s, if_neg one0, if_neg one0, gI0 (by decide) (by decide), cz0]
  rcases wiSeat hN hC hM N a2 with ⟨s, hs, e2, u1, u2⟩ | ⟨u1, u2⟩
  rotate_left
  · rw [u1, u2, cl1_s, cl1_s, if_pos rfl, if_pos rfl]; exact ⟨_, _, _, _, rfl, rfl, hR⟩
  rw [u1, u2, cl1_s, cl1_s, if_neg one0, if_neg one0]
  rcases wi N a3 0 1 0 1 0 1 (by decide) (by decide) (by decide) (by decide) (by decide) with ⟨w, w1, w2, w3, w4, w5⟩ | ⟨w4, w5⟩
  rotate_left
  · rw [w4, w5, cl1_s, cl1_s, if_pos rfl, if_pos rfl]; exact ⟨_, _, _, _, rfl, rfl, hR⟩
  rw [w4, w5, cl1_s, cl1_s, if_neg one0, if_neg one0, gI0 (by decide) (by decide), gI1 (by decide) (by decide), cz1]
  obtain ⟨δ1, δ', σ', rn, g1, g2, g3, g4⟩ := go_sim hNN hN hC hM (show h < 256 by omega) hru hmi δ
  rw [y2, y3, e0, e1, e2, hM.card, hM.port, g1, cl1_s, g2, cl1_s, g3, cl1_s]
  obtain ⟨s1, s2, s3, s4⟩ := g4.sd hs
  have hRel := hR.km g4.fm.km
  have fin : ∀ x : Int32, (x = -1 ∨ ∃ i, i < rm 0 0 ∧ x = nI i) → ∃ (r : Int32) (δ1 : St) (dr' : Nat) (σ1 : St), fMa_seat_86 N μ ρ r0 x δ' = some (r, δ1, dr') ∧ fMo_seat_87 N x σ' = some (r, σ1) ∧ Rel N μ τ γ Γ ρ σ1 := by
    intro x hx
    unfold fMa_seat_86 fMo_seat_87
    rcases hx with hx | ⟨i, hi, hx⟩
    · rw [if_pos hx, if_neg (by rw [hx]; exact m1_nle)]
      exact ⟨_, _, _, _, rfl, rfl, hRel⟩
    · rw [if_neg (by rw [hx]; exact nI_nm1 (by omega)), if_pos (by rw [hx]; exact nI_le (a := 0) (by omega) (by omega))]
      exact ⟨_, _, _, _, rfl, rfl, hRel⟩
  have q1 : fDa_sitterOf N (nI s) δ' = some (σ' 19 s) := by
    unfold fDa_sitterOf
    rw [if_neg (nI_pos (by omega)), if_neg (show ¬ (10 : Int32) ≤ nI s from nI_ge (b := 10) (by omega) (by omega)), gI_ok (by omega) (by decide), cl_nI (by omega), s1]
    rfl
  have q2 : fDa_holderOf N (nI s) δ' = some (σ' 20 s) := by
    unfold fDa_holderOf
    rw [if_neg (nI_pos (by omega)), if_neg (show ¬ (10 : Int32) ≤ nI s from nI_ge (b := 10) (by omega) (by omega)), gI_ok (by omega) (by decide), cl_nI (by omega), s2]
    rfl
  rw [q1, q2, cl1_s, cl1_s, gI_ok (by omega) (by decide), gI_ok (by omega) (by decide), cl_nI (by omega)]
  by_cases h3 : a3 = 0
  · rw [if_pos h3, if_pos h3]; exact fin _ s3
  · rw [if_neg h3, if_neg h3]; exact fin _ s4
theorem P_does {N : Nat} (hNN : 5000 ≤ N) {μ ς τ ε γ : St} {Γ : Nat → Int64} {δ ρ σ : St} {Λ : Nat → Int64} {dr r0 : Nat} (hR : Rel N μ τ γ Γ ρ σ) (a0 : Int32) (a1 : Int32) (a2 : Int32) : ∃ (r : Int32) (δ' : St) (dr' : Nat) (σ' : St), fMa_does N a0 a1 a2 μ ρ r0 δ dr = some (r, δ', dr') ∧ fMo_does N a0 a1 a2 σ = some (r, σ') ∧ Rel N μ τ γ Γ ρ σ' := by
  have hR' := hR
  obtain ⟨rm, h, kp, len, hN, hC, hM, ⟨t1, t2, t3, t4⟩, ⟨y1, y2, y3, y4, y5, y6, y7⟩, hG⟩ := hR'
  have hp := p2_256 hN.1
  have h08 : rm 0 0 ≤ 8 := hN.1
  unfold fMa_does fMo_does
  rcases wiRule N a0 with ⟨ru, hru, e0, u1, u2⟩ | ⟨u1, u2⟩
  rotate_left
  · rw [u1, u2, cl1_s, cl1_s, if_pos rfl, if_pos rfl]; exact ⟨_, _, _, _, rfl, rfl, hR⟩
  rw [u1, u2, cl1_s, cl1_s, if_neg one0, if_neg one0]
  rcases wiMinute N a1 with ⟨mi, hmi, e1, u1, u2⟩ | ⟨u1, u2⟩
  rotate_left
  · rw [u1, u2, cl1_s, cl1_s, if_pos rfl, if_pos rfl]; exact ⟨_, _, _, _, rfl, rfl, hR⟩
  rw [u1, u2, cl1_s, cl1_s, if_neg one0, if_neg one0]
  rcases wiReader hN hC hM N a2 with ⟨i, hi, e2, u1, u2⟩ | ⟨u1, u2⟩
  rotate_left
  · rw [u1, u2, cl1_s, cl1_s, if_pos rfl, if_pos rfl]; exact ⟨_, _, _, _, rfl, rfl, hR⟩
  rw [u1, u2, cl1_s, cl1_s, if_neg one0, if_neg one0, gI0 (by decide) (by decide), gI1 (by decide) (by decide), cz0, cz1]
  obtain ⟨δ1, δ', σ', rn, g1, g2, g3, g4⟩ := go_sim hNN hN hC hM (show h < 256 by omega) hru hmi δ
  have q1 : fDa_stateOf N (nI i) δ' = some (σ' 12 i) := by
    unfold fDa_stateOf
    rw [if_neg (nI_pos (by omega)), if_neg (show ¬ (8 : Int32) ≤ nI i from nI_ge (b := 8) (by omega) (by omega)), gI_ok (by omega) (by decide), cl_nI (by omega), (g4.rd hi).1]
    rfl
  rw [y2, y3, e0, e1, e2, hM.card, hM.port, g1, cl1_s, g2, cl1_s, g3, cl1_s, q1, cl1_s, gI_ok (by omega) (by decide), cl_nI (by omega)]
  exact ⟨_, _, _, _, rfl, rfl, hR.km g4.fm.km⟩
theorem P_sat {N : Nat} (hNN : 5000 ≤ N) {μ ς τ ε γ : St} {Γ : Nat → Int64} {δ ρ σ : St} {Λ : Nat → Int64} {dr r0 : Nat} (hR : Rel N μ τ γ Γ ρ σ) (a0 : Int32) (a1 : Int32) : ∃ (r : Int32) (δ' : St) (dr' : Nat) (σ' : St), fMa_sat N a0 a1 μ ρ r0 δ dr = some (r, δ', dr') ∧ fMo_sat N a0 a1 σ = some (r, σ') ∧ Rel N μ τ γ Γ ρ σ' := by
  have hR' := hR
  obtain ⟨rm, h, kp, len, hN, hC, hM, ⟨t1, t2, t3, t4⟩, ⟨y1, y2, y3, y4, y5, y6, y7⟩, hG⟩ := hR'
  have hp := p2_256 hN.1
  have h08 : rm 0 0 ≤ 8 := hN.1
  unfold fMa_sat fMo_sat
  rcases wiRule N a0 with ⟨ru, hru, e0, u1, u2⟩ | ⟨u1, u2⟩
  rotate_left
  · rw [u1, u2, cl1_s, cl1_s, if_pos rfl, if_pos rfl]; exact ⟨_, _, _, _, rfl, rfl, hR⟩
  rw [u1, u2, cl1_s, cl1_s, if_neg one0, if_neg one0]
  rcases wiReader hN hC hM N a1 with ⟨i, hi, e2, u1, u2⟩ | ⟨u1, u2⟩
  rotate_left
  · rw [u1, u2, cl1_s, cl1_s, if_pos rfl, if_pos rfl]; exact ⟨_, _, _, _, rfl, rfl, hR⟩
  obtain ⟨δ', σ', rn, g2, g3, g4⟩ := whole_sim hNN hN hC hM (show h < 256 by omega) y2 y3 hru δ
  obtain ⟨q, q1, q2, q3⟩ := (g4.rd hi).2
  have q1 : fDa_minutesOf N (nI i) δ' = some (nI q) := by
    unfold fDa_minutesOf
    rw [if_neg (nI_pos (by omega)), if_neg (show ¬ (8 : Int32) ≤ nI i from nI_ge (b := 8) (by omega) (by omega)), gI_ok (by omega) (by decide), cl_nI (by omega), q2]
    rfl
  rw [u1, u2, cl1_s, cl1_s, if_neg one0, if_neg one0, e0, e2, g2, cl1_s, g3, cl1_s, q1, cl1_s, gI_ok (by omega) (by decide), cl_nI (by omega), q3]
  exact ⟨_, _, _, _, rfl, rfl, hR.km g4.fm.km⟩
theorem P_day {N : Nat} (hNN : 5000 ≤ N) {μ ς τ ε γ : St} {Γ : Nat → Int64} {δ ρ σ : St} {Λ : Nat → Int64} {dr r0 : Nat} (hR : Rel N μ τ γ Γ ρ σ) (a0 : Int32) (a1 : Int32) : ∃ (r : Int32) (δ' : St) (dr' : Nat) (σ' : St), fMa_day N a0 a1 μ ρ r0 δ dr = some (r, δ', dr') ∧ fMo_day N a0 a1 σ = some (r, σ') ∧ Rel N μ τ γ Γ ρ σ' := by
  have hR' := hR
  obtain ⟨rm, h, kp, len, hN, hC, hM, ⟨t1, t2, t3, t4⟩, ⟨y1, y2, y3, y4, y5, y6, y7⟩, hG⟩ := hR'
  have hp := p2_256 hN.1
  unfold fMa_day fMo_day
  rcases wiRule N a0 with ⟨ru, hru, e0, u1, u2⟩ | ⟨u1, u2⟩
  rotate_left
  · rw [u1, u2, cl1_s, cl1_s, if_pos rfl, if_pos rfl]; exact ⟨_, _, _, _, rfl, rfl, hR⟩
  rw [u1, u2, cl1_s, cl1_s, if_neg one0, if_neg one0]
  rcases wi N a1 0 5 0 5 0 5 (by decide) (by decide) (by decide) (by decide) (by decide) with ⟨w, w1, w2, w3, w4, w5⟩ | ⟨w4, w5⟩
  rotate_left
  · rw [w4, w5, cl1_s, cl1_s, if_pos rfl, if_pos rfl]; exact ⟨_, _, _, _, rfl, rfl, hR⟩
  obtain ⟨δ', σ', rn, g2, g3, g4⟩ := whole_sim hNN hN hC hM (show h < 256 by omega) y2 y3 hru δ
  rw [w4, w5, cl1_s, cl1_s, if_neg one0, if_neg one0, e0, g2, cl1_s, g3, cl1_s]
  obtain ⟨⟨us, us1, us2, us3⟩, _⟩ := g4.seen (N := N) (by omega)
  obtain ⟨d1, ⟨q, q1, q2, q3⟩, ⟨p, p1, p2, p3⟩⟩ := g4.dc
  have hRel := hR.km g4.fm.km
  unfold fDa_empty fDa_shutOut fDa_thrownOut
  rw [us2, cl1_s, cl1_s, cl1_s, cl1_s, cl1_s, cl1_s, d1, q2, q3, p2, p3, us3, bc_any, bc_any, Mo_many (by omega) q1, Mo_many (by omega) p1, cl1_s, cl1_s, cl1_s, cl1_s]
  by_cases h0 : a1 = 0
  · rw [if_pos h0, if_pos h0]; exact ⟨_, _, _, _, rfl, rfl, hRel⟩
  rw [if_neg h0, if_neg h0]
  by_cases h1 : a1 = 1
  · rw [if_pos h1, if_pos h1]; exact ⟨_, _, _, _, rfl, rfl, hRel⟩
  rw [if_neg h1, if_neg h1]
  by_cases h2 : a1 = 2
  · rw [if_pos h2, if_pos h2]; exact ⟨_, _, _, _, rfl, rfl, hRel⟩
  rw [if_neg h2, if_neg h2]
  by_cases h3 : a1 = 3
  · rw [if_pos h3, if_pos h3]; exact ⟨_, _, _, _, rfl, rfl, hRel⟩
  rw [if_neg h3, if_neg h3]
  by_cases h4 : a1 = 4
  · rw [if_pos h4, if_pos h4]; exact ⟨_, _, _, _, rfl, rfl, hRel⟩
  rw [if_neg h4, if_neg h4]
  exact ⟨_, _, _, _, rfl, rfl, hRel⟩
theorem P_rounds {N : Nat} (hNN : 5000 ≤ N) {μ ς τ ε γ : St} {Γ : Nat → Int64} {δ ρ σ : St} {Λ : Nat → Int64} {dr r0 : Nat} (hR : Rel N μ τ γ Γ ρ σ) (a0 : Int32) (a1 : Int32) : ∃ (r : Int32) (δ' : St) (dr' : Nat) (σ' : St), fMa_rounds N a0 a1 μ ρ r0 δ dr = some (r, δ', dr') ∧ fMo_rounds N a0 a1 σ = some (r, σ') ∧ Rel N μ τ γ Γ ρ σ' := by
  have hR' := hR
  obtain ⟨rm, h, kp, len, hN, hC, hM, ⟨t1, t2, t3, t4⟩, ⟨y1, y2, y3, y4, y5, y6, y7⟩, hG⟩ := hR'
  have hp := p2_256 hN.1
  unfold fMa_rounds fMo_rounds
  rcases wiRule N a0 with ⟨ru, hru, e0, u1, u2⟩ | ⟨u1, u2⟩
  rotate_left
  · rw [u1, u2, cl1_s, cl1_s, if_pos rfl, if_pos rfl]; exact ⟨_, _, _, _, rfl, rfl, hR⟩
  rw [u1, u2, cl1_s, cl1_s, if_neg one0, if_neg one0]
  rcases wi N a1 1 99 1 99 1 99 (by decide) (by decide) (by decide) (by decide) (by decide) with ⟨w, w1, w2, w3, w4, w5⟩ | ⟨w4, w5⟩
  rotate_left
  · rw [w4, w5, cl1_s, cl1_s, if_pos rfl, if_pos rfl]; exact ⟨_, _, _, _, rfl, rfl, hR⟩
  obtain ⟨δ', σ', rn, g2, g3, g4⟩ := whole_sim hNN hN hC hM (show h < 256 by omega) y2 y3 hru δ
  obtain ⟨s, s1, s2, s3⟩ := (g4.seen (N := N) (by omega)).2 w (by omega) (by omega)
  rw [w4, w5, cl1_s, cl1_s, if_neg one0, if_neg one0, e0, g2, cl1_s, g3, cl1_s, w3, s2, s3, cl1_s, cl1_s]
  exact ⟨_, _, _, _, rfl, rfl, hR.km g4.fm.km⟩
