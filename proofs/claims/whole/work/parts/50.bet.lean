/-! which rules are bettered -/
theorem Rel.mu {N : Nat} {μ μ' τ γ : St} {Γ : Nat → Int64} {ρ σ : St} (h : Rel N μ τ γ Γ ρ σ) (h0 : μ' 0 = μ 0) (h8 : μ' 8 = μ 8) : Rel N μ' τ γ Γ ρ σ := by
  obtain ⟨rm, hh, kp, len, h1, h2, h3, h4, ⟨y1, y2, y3, y4, y5, y6, y7⟩, h6⟩ := h
  exact ⟨rm, hh, kp, len, h1, h2, h3, h4, ⟨y1, by rw [h0]; exact y2, y3, y4, by rw [h0]; exact y5, y6, by rw [h8]; exact y7⟩, h6⟩
def b2i (b : Bool) : Int32 := if b then 1 else 0
theorem b2i_t : b2i true = 1 := rfl
theorem b2i_f : b2i false = 0 := rfl
theorem ng_int {p : Nat} (h : p < 2 ^ 30) : (-nI p).toInt = -(p : Int) := by
  have := pk_sub_toInt (a := 0) (b := p) (by omega) h
  rw [show nI 0 - nI p = -nI p from Int32.zero_sub _] at this
  omega
theorem bcv_8 : ∀ q, q < 256 → ∃ c, c < 9 ∧ bcv (nI q) = nI c := by decide +kernel
theorem bet_step (k_77 : Int32 → Int32 → Int32 → St → Option (Int32 × St)) (N n : Nat) (v1 : Int32) {i j w : Nat} (hi : i < 5) (hj : j < 5) (hw : w < 3) (a b : Bool) (σ : St) :
    fMo_bettered_91 k_77 N (n + 1) v1 (nI j) (nI i) (b2i a) (b2i b) (nI w) σ = fMo_bettered_91 k_77 N n v1 (nI j) (nI i) (b2i (a && decide (¬ σ 27 (3 * i + w) < σ 27 (3 * j + w)))) (b2i (b || decide (¬ σ 27 (3 * i + w) ≤ σ 27 (3 * j + w)))) (nI (w + 1)) σ := by
  have e3 : ∀ x, (3 : Int32) * nI x + nI w = nI (3 * x + w) := fun x => by rw [show (3 : Int32) = nI 3 from rfl, pk_mul, nI_add]
  have n1 : ¬ b2i true = 0 := by decide
  rw [fMo_bettered_91, if_neg (show ¬ (3 : Int32) ≤ nI w from nI_ge (b := 3) hw (by omega))]
  have s164 : ∀ (k0 : Int32), fMo_bettered_164 (fMo_bettered_91 k_77 N n) N v1 (nI j) (nI i) k0 (nI w) σ = fMo_bettered_91 k_77 N n v1 (nI j) (nI i) k0 (b2i true) (nI (w + 1)) σ := fun k0 => by
    rw [fMo_bettered_164, fMo_bettered_169, nm_d, nI_1, b2i_t]
  have s132 : ∀ (k0 : Int32), fMo_bettered_132 (fMo_bettered_91 k_77 N n) N v1 (nI j) (nI i) (b2i b) (nI w) k0 σ = fMo_bettered_91 k_77 N n v1 (nI j) (nI i) k0 (b2i (b || decide (¬ σ 27 (3 * i + w) ≤ σ 27 (3 * j + w)))) (nI (w + 1)) σ := fun k0 => by
    rw [fMo_bettered_132]
    cases b with
    | true => rw [if_neg n1, s164, Bool.true_or]
    | false =>
      rw [if_pos b2i_f, e3, e3, gI_ok (by omega) (by decide), gI_ok (by omega) (by decide), cl_nI (by omega), cl_nI (by omega), Bool.false_or]
      by_cases h : σ 27 (3 * i + w) ≤ σ 27 (3 * j + w)
      · rw [if_pos h, fMo_bettered_169, nm_d, nI_1, decide_eq_false (fun q => q h), b2i_f]
      · rw [if_neg h, s164, decide_eq_true h]
  cases a with
  | false => rw [if_pos b2i_f, fMo_bettered_131, s132, Bool.false_and, b2i_f]
  | true =>
    rw [if_neg n1, e3, e3, gI_ok (by omega) (by decide), gI_ok (by omega) (by decide), cl_nI (by omega), cl_nI (by omega), Bool.true_and]
    by_cases h : σ 27 (3 * i + w) < σ 27 (3 * j + w)
    · rw [if_pos h, fMo_bettered_131, s132, decide_eq_false (show ¬ ¬ σ 27 (3 * i + w) < σ 27 (3 * j + w) from fun q => q h), b2i_f]
    · rw [if_neg h, s132, decide_eq_true h, b2i_t]
def btb (U A B : Nat → Nat) (i j : Nat) : Bool := decide (U j ≤ U i ∧ A i ≤ A j ∧ B i ≤ B j ∧ (U j < U i ∨ A i < A j ∨ B i < B j))
def UAB (U A B : Nat → Nat) (k : Nat) (μ σ : St) : Prop := ∀ i, i < k → (U i ≤ 4000 ∧ A i < 9 ∧ B i < 9) ∧ μ 5 i = nI (U i) ∧ μ 6 i = nI (A i) ∧ μ 7 i = nI (B i) ∧ σ 27 (3 * i) = nI (U i) ∧ σ 27 (3 * i + 1) = -nI (A i) ∧ σ 27 (3 * i + 2) = -nI (B i)
theorem bet_c {U A B : Nat → Nat} {μ σ : St} (h : UAB U A B 5 μ σ) (N : Nat) {i j : Nat} (hi : i < 5) (hj : j < 5) : fMa_betters N (nI i) (nI j) μ = some (b2i (btb U A B i j)) := by
  obtain ⟨⟨i1, i2, i3⟩, i4, i5, i6, _⟩ := h i hi
  obtain ⟨⟨j1, j2, j3⟩, j4, j5, j6, _⟩ := h j hj
  have z0 : (0 : Int32).toInt = 0 := by decide
  rw [fMa_betters, gI_ok (by omega) (by decide), gI_ok (by omega) (by decide), nm_d, gI_ok (by omega) (by decide), gI_ok (by omega) (by decide), nm_d, gI_ok (by omega) (by decide), gI_ok (by omega) (by decide), nm_d, cl_nI (by omega), cl_nI (by omega), i4, i5, i6, j4, j5, j6, fMa_betters_72, fMa_betters_73, fMa_betters_73, gB_0, gB_1]
  have t1 : (nI (U i) - nI (U j)).toInt = (U i : Int) - U j := pk_sub_toInt (by omega) (by omega)
  have t2 : (nI (A j) - nI (A i)).toInt = (A j : Int) - A i := pk_sub_toInt (by omega) (by omega)
  have t3 : (nI (B j) - nI (B i)).toInt = (B j : Int) - B i := pk_sub_toInt (by omega) (by omega)
  unfold btb
  by_cases h1 : U j ≤ U i
  · rw [if_neg (fun z => by have := Int32.lt_iff_toInt_lt.mp z; omega)]
    by_cases h2 : A i ≤ A j
    · rw [if_neg (fun z => by have := Int32.lt_iff_toInt_lt.mp z; omega)]
      by_cases h3 : B i ≤ B j
      · rw [if_neg (fun z => by have := Int32.lt_iff_toInt_lt.mp z; omega), pk_sub h1, pk_sub h2, pk_sub h3, nI_add, nI_add]
        by_cases h4 : U i - U j + (A j - A i) + (B j - B i) = 0
        · rw [h4, if_pos (show nI 0 ≤ (0 : Int32) by decide), decide_eq_false (by omega)]; rfl
        · rw [if_neg (nI_nle (by omega) (by omega)), decide_eq_true (by omega)]; rfl
      · rw [if_pos (Int32.lt_iff_toInt_lt.mpr (by omega)), decide_eq_false (by omega)]; rfl
    · rw [if_pos (Int32.lt_iff_toInt_lt.mpr (by omega)), decide_eq_false (by omega)]; rfl
  · rw [if_pos (Int32.lt_iff_toInt_lt.mpr (by omega)), decide_eq_false (by omega)]; rfl
theorem bet_m {U A B : Nat → Nat} {μ σ : St} (h : UAB U A B 5 μ σ) (k_77 : Int32 → Int32 → Int32 → St → Option (Int32 × St)) (N n : Nat) (v1 : Int32) {i j : Nat} (hi : i < 5) (hj : j < 5) : fMo_bettered_91 k_77 N (n + 4) v1 (nI j) (nI i) (1 : Int32) (0 : Int32) (0 : Int32) σ = k_77 (v1 ||| (if btb U A B i j then ((1 : Int32) <<< (nI j &&& 31)) else 0)) (nI j) (nI (i + 1)) σ := by
  obtain ⟨⟨i1, i2, i3⟩, _, _, _, i4, i5, i6⟩ := h i hi
  obtain ⟨⟨j1, j2, j3⟩, _, _, _, j4, j5, j6⟩ := h j hj
  have e := ((bet_step k_77 N (n + 3) v1 hi hj (show 0 < 3 by omega) true false σ).trans (bet_step k_77 N (n + 2) v1 hi hj (show 1 < 3 by omega) _ _ σ)).trans (bet_step k_77 N (n + 1) v1 hi hj (show 2 < 3 by omega) _ _ σ)
  refine e.trans ?_
  rw [show 3 * i + 0 = 3 * i from rfl, show 3 * j + 0 = 3 * j from rfl, i4, i5, i6, j4, j5, j6]
  have a1 : (nI (U i) < nI (U j)) ↔ U i < U j := nI_ltI (by omega) (by omega)
  have a2 : (nI (U i) ≤ nI (U j)) ↔ U i ≤ U j := nI_leI (by omega) (by omega)
  have b1 : (-nI (A i) < -nI (A j)) ↔ A j < A i := by rw [Int32.lt_iff_toInt_lt, ng_int (by omega), ng_int (by omega)]; omega
  have b2 : (-nI (A i) ≤ -nI (A j)) ↔ A j ≤ A i := by rw [Int32.le_iff_toInt_le, ng_int (by omega), ng_int (by omega)]; omega
  have c1 : (-nI (B i) < -nI (B j)) ↔ B j < B i := by rw [Int32.lt_iff_toInt_lt, ng_int (by omega), ng_int (by omega)]; omega
  have c2 : (-nI (B i) ≤ -nI (B j)) ↔ B j ≤ B i := by rw [Int32.le_iff_toInt_le, ng_int (by omega), ng_int (by omega)]; omega
  generalize hp : (((true && decide ¬ nI (U i) < nI (U j)) && decide ¬ -nI (A i) < -nI (A j)) && decide ¬ -nI (B i) < -nI (B j)) = p
  generalize hq : (((false || decide ¬ nI (U i) ≤ nI (U j)) || decide ¬ -nI (A i) ≤ -nI (A j)) || decide ¬ -nI (B i) ≤ -nI (B j)) = q
  have hpq : btb U A B i j = (p && q) := by
    rw [← hp, ← hq]
    unfold btb
    rw [Bool.eq_iff_iff]
    simp only [Bool.and_eq_true, Bool.or_eq_true, decide_eq_true_eq, Bool.true_and, Bool.false_or, a1, a2, b1, b2, c1, c2]
    omega
  rw [show 2 + 1 = 3 from rfl, fMo_bettered_91, if_pos (show (3 : Int32) ≤ nI 3 by decide), hpq]
  have s : ∀ x, fMo_bettered_195 k_77 N (nI j) (nI i) v1 x σ = k_77 (v1 ||| x) (nI j) (nI (i + 1)) σ := fun x => by rw [fMo_bettered_195, nm_d, nm_d, nI_1]
  rw [fMo_bettered_194, s, s]
  cases p <;> cases q <;> rfl
theorem bet_inner {U A B : Nat → Nat} {μ σ : St} (h : UAB U A B 5 μ σ) {N : Nat} (hNN : 5000 ≤ N) {ρ : St} {r0 : Nat} (k67 : Int32 → Int32 → St → St → Nat → Option (Int32 × St × St × Nat)) (k70 : Int32 → Int32 → St → Option (Int32 × St)) {j : Nat} (hj : j < 5) (δ : St) (dr : Nat) : ∀ (m i : Nat) (v1 : Int32), i + m = 5 → ∃ v, ∀ n, m ≤ n → fMa_bettered_74 k67 N ρ r0 (n + 1) v1 (nI j) (nI i) μ δ dr = k67 v (nI (j + 1)) μ δ dr ∧ fMo_bettered_77 k70 N (n + 1) v1 (nI j) (nI i) σ = k70 v (nI (j + 1)) σ := by
  intro m
  induction m with
  | zero =>
    intro i v1 hi
    refine ⟨v1, fun n _ => ?_⟩
    have : i = 5 := by omega
    subst this
    rw [fMa_bettered_74, fMo_bettered_77, if_pos (show (5 : Int32) ≤ nI 5 by decide), if_pos (show (5 : Int32) ≤ nI 5 by decide), nm_d, nm_d, nI_1]
    exact ⟨rfl, rfl⟩
  | succ m ih =>
    intro i v1 hi
    obtain ⟨v, hv⟩ := ih (i + 1) (v1 ||| (if btb U A B i j then ((1 : Int32) <<< (nI j &&& 31)) else 0)) (by omega)
    refine ⟨v, fun n hn => ?_⟩
    obtain ⟨n', rfl⟩ : ∃ n', n = n' + 1 := ⟨n - 1, by omega⟩
    obtain ⟨N', hN'⟩ : ∃ N', N = N' + 4 := ⟨N - 4, by omega⟩
    have hm := bet_m h (fMo_bettered_77 k70 N (n' + 1)) N N' v1 (i := i) (by omega) hj
    rw [← hN'] at hm
    rw [fMa_bettered_74, fMo_bettered_77, if_neg (show ¬ (5 : Int32) ≤ nI i from nI_ge (b := 5) (by omega) (by omega)), if_neg (show ¬ (5 : Int32) ≤ nI i from nI_ge (b := 5) (by omega) (by omega)), bet_c h N (by omega) hj, cl1_s, hm]
    have hv' := hv n' (by omega)
    cases hb : btb U A B i j with
    | true =>
      rw [hb] at hv'
      rw [if_neg (show ¬ b2i true = 0 by decide), fMa_bettered_96, nm_d, nm_d, nI_1]
      exact hv'
    | false =>
      rw [hb] at hv'
      rw [if_pos b2i_f, fMa_bettered_96, nm_d, nm_d, nI_1]
      exact hv'
theorem bet_outer {U A B : Nat → Nat} {μ σ : St} (h : UAB U A B 5 μ σ) {N : Nat} (hNN : 5000 ≤ N) {ρ : St} {r0 : Nat} (δ : St) (dr : Nat) : ∀ (m j : Nat) (v1 : Int32), j + m = 5 → ∀ n, m ≤ n → ∃ v, fMa_bettered_67 N ρ r0 (n + 1) v1 (nI j) μ δ dr = some (v, μ, δ, dr) ∧ fMo_bettered_70 N (n + 1) v1 (nI j) σ = some (v, σ) := by
  intro m
  induction m with
  | zero =>
    intro j v1 hj n _
    have : j = 5 := by omega
    subst this
    rw [fMa_bettered_67, fMo_bettered_70, if_pos (show (5 : Int32) ≤ nI 5 by decide), if_pos (show (5 : Int32) ≤ nI 5 by decide)]
    exact ⟨_, rfl, rfl⟩
  | succ m ih =>
    intro j v1 hj n hn
    obtain ⟨n', rfl⟩ : ∃ n', n = n' + 1 := ⟨n - 1, by omega⟩
    obtain ⟨N', hN'⟩ : ∃ N', N = N' + 1 := ⟨N - 1, by omega⟩
    obtain ⟨v, hv⟩ := bet_inner h hNN (ρ := ρ) (r0 := r0) (fMa_bettered_67 N ρ r0 (n' + 1)) (fMo_bettered_70 N (n' + 1)) (j := j) (by omega) δ dr 5 0 v1 (by omega)
    obtain ⟨h1, h2⟩ := hv N' (by omega)
    rw [← hN'] at h1 h2
    obtain ⟨r, r1, r2⟩ := ih (j + 1) v (by omega) n' (by omega)
    rw [fMa_bettered_67, fMo_bettered_70, if_neg (show ¬ (5 : Int32) ≤ nI j from nI_ge (b := 5) (by omega) (by omega)), if_neg (show ¬ (5 : Int32) ≤ nI j from nI_ge (b := 5) (by omega) (by omega))]
    exact ⟨r, h1.trans r1, h2.trans r2⟩
theorem bet_fill {N : Nat} (hNN : 5000 ≤ N) {τ γ : St} {Γ : Nat → Int64} {ρ : St} {r0 : Nat} : ∀ (m k : Nat), k + m = 5 → ∀ (U A B : Nat → Nat) (μ δ σ : St) (dr : Nat), Rel N μ τ γ Γ ρ σ → UAB U A B k μ σ → ∀ n, m ≤ n → ∃ (r : Int32) (μ' : St) (δ' : St) (dr' : Nat) (σ' : St), fMa_bettered_2 N ρ r0 (n + 1) (nI k) μ δ dr = some (r, μ', δ', dr') ∧ fMo_bettered_2 N (n + 1) (nI k) σ = some (r, σ') ∧ Rel N μ' τ γ Γ ρ σ' := by
  intro m
  induction m with
  | zero =>
    intro k hk U A B μ δ σ dr hR hU n _
    have : k = 5 := by omega
    subst this
    obtain ⟨N', hN'⟩ : ∃ N', N = N' + 1 := ⟨N - 1, by omega⟩
    obtain ⟨r, r1, r2⟩ := bet_outer hU hNN (ρ := ρ) (r0 := r0) δ dr 5 0 0 (by omega) N' (by omega)
    rw [← hN'] at r1 r2
    rw [fMa_bettered_2, fMo_bettered_2, if_pos (show (5 : Int32) ≤ nI 5 by decide), if_pos (show (5 : Int32) ≤ nI 5 by decide)]
    exact ⟨r, μ, δ, dr, σ, r1, r2, hR⟩
  | succ m ih =>
    intro k hk U A B μ δ σ dr hR hU n hn
    obtain ⟨n', rfl⟩ : ∃ n', n = n' + 1 := ⟨n - 1, by omega⟩
    have hR' := hR
    obtain ⟨rm, h, kp, len, hN, hC, hM, _, ⟨y1, y2, y3, _⟩, _⟩ := hR'
    have hp := p2_256 hN.1
    obtain ⟨δ', σ', rn, g2, g3, g4⟩ := whole_sim hNN hN hC hM (show h < 256 by omega) y2 y3 (show k < 5 by omega) δ
    obtain ⟨⟨u, us1, us2, us3⟩, _⟩ := g4.seen (N := N) (by omega)
    obtain ⟨d1, ⟨q, q1, q2, q3⟩, ⟨p, p1, p2, p3⟩⟩ := g4.dc
    obtain ⟨a, a1, a2⟩ := bcv_8 q q1
    obtain ⟨b, b1, b2⟩ := bcv_8 p p1
    have m1 := Mo_many (N := N) (by omega) q1
    have m2 := Mo_many (N := N) (by omega) p1
    have e1 : fDa_shutOut N δ' = some (nI q) := by unfold fDa_shutOut; rw [q2]
    have e2 : fDa_thrownOut N δ' = some (nI p) := by unfold fDa_thrownOut; rw [p2]
    have x0 : (3 : Int32) * nI k = nI (3 * k) := by rw [show (3 : Int32) = nI 3 from rfl, pk_mul]
    have x1 : nI (3 * k) + (1 : Int32) = nI (3 * k + 1) := nI_1 _
    have x2 : nI (3 * k) + (2 : Int32) = nI (3 * k + 2) := by rw [show (2 : Int32) = nI 2 from rfl, nI_add]
    have f25 : g4.fm.1 = g4.fm.1 := rfl
    rw [fMa_bettered_2, fMo_bettered_2, if_neg (show ¬ (5 : Int32) ≤ nI k from nI_ge (b := 5) (by omega) (by omega)), if_neg (show ¬ (5 : Int32) ≤ nI k from nI_ge (b := 5) (by omega) (by omega)), g2, cl1_s, us2, cl1_s, gI_ok (by omega) (by decide), nm_d, e1, cl1_s, bc_any, cl1_s, gI_ok (by omega) (by decide), nm_d, e2, cl1_s, bc_any, cl1_s, gI_ok (by omega) (by decide), nm_d, nm_d, cl_nI (by omega), a2, b2]
    rw [g3, cl1_s, x0, gI_ok (by omega) (by decide), nm_d, sA_n _ _ (show 0 ≠ 27 by decide), q3, m1, cl1_s, x1, gI_ok (by omega) (by decide), nm_d, sA_n _ _ (show 0 ≠ 27 by decide), sA_n _ _ (show 0 ≠ 27 by decide), p3, m2, cl1_s, x2, gI_ok (by omega) (by decide), nm_d, nm_d, cl_nI (by omega), cl_nI (by omega), cl_nI (by omega), us3, a2, b2, nI_1]
    refine ih (k + 1) (by omega) (fun i => if i = k then u else U i) (fun i => if i = k then a else A i) (fun i => if i = k then b else B i) _ _ _ _ ?_ ?_ n' (by omega)
    · refine (hR.km (KM.arr 27 (by decide) (KM.arr 27 (by decide) (KM.arr 27 (by decide) g4.fm.km)))).mu ?_ ?_
      · rw [sA_n _ _ (by decide), sA_n _ _ (by decide), sA_n _ _ (by decide)]
      · rw [sA_n _ _ (by decide), sA_n _ _ (by decide), sA_n _ _ (by decide)]
    · have f27 : σ' 27 = σ 27 := g4.fm.1 27 (by decide)
      intro i hi
      dsimp only
      by_cases e : i = k
      · subst e
        rw [if_pos rfl, if_pos rfl, if_pos rfl]
        refine ⟨⟨us1, a1, b1⟩, ?_, ?_, ?_, ?_, ?_, ?_⟩
        · rw [sA_n _ _ (by decide), sA_n _ _ (by decide), sA_s, upd_s]
        · rw [sA_n _ _ (by decide), sA_s, upd_s]
        · rw [sA_s, upd_s]
        · rw [sA_s, upd_n _ _ (by omega), sA_s, upd_n _ _ (by omega), sA_s, upd_s]
        · rw [sA_s, upd_n _ _ (by omega), sA_s, upd_s]
        · rw [sA_s, upd_s]
      · rw [if_neg e, if_neg e, if_neg e]
        obtain ⟨w0, w1, w2, w3, w4, w5, w6⟩ := hU i (by omega)
        refine ⟨w0, ?_, ?_, ?_, ?_, ?_, ?_⟩
        · rw [sA_n _ _ (by decide), sA_n _ _ (by decide), sA_s, upd_n _ _ e]; exact w1
        · rw [sA_n _ _ (by decide), sA_s, upd_n _ _ e, sA_n _ _ (by decide)]; exact w2
        · rw [sA_s, upd_n _ _ e, sA_n _ _ (by decide), sA_n _ _ (by decide)]; exact w3
        · rw [sA_s, upd_n _ _ (by omega), sA_s, upd_n _ _ (by omega), sA_s, upd_n _ _ (by omega), f27]; exact w4
        · rw [sA_s, upd_n _ _ (by omega), sA_s, upd_n _ _ (by omega), sA_s, upd_n _ _ (by omega), f27]; exact w5
        · rw [sA_s, upd_n _ _ (by omega), sA_s, upd_n _ _ (by omega), sA_s, upd_n _ _ (by omega), f27]; exact w6
theorem P_bettered {N : Nat} (hNN : 5000 ≤ N) {μ ς τ ε γ : St} {Γ : Nat → Int64} {δ ρ σ : St} {Λ : Nat → Int64} {dr r0 : Nat} (hR : Rel N μ τ γ Γ ρ σ) : ∃ (r : Int32) (μ' : St) (δ' : St) (dr' : Nat) (σ' : St), fMa_bettered N ρ r0 μ δ dr = some (r, μ', δ', dr') ∧ fMo_bettered N σ = some (r, σ') ∧ Rel N μ' τ γ Γ ρ σ' := by
  obtain ⟨n, hn⟩ : ∃ n, N = n + 1 := ⟨N - 1, by omega⟩
  obtain ⟨r, μ', δ', dr', σ', h1, h2, h3⟩ := bet_fill hNN (r0 := r0) 5 0 (by omega) (fun _ => 0) (fun _ => 0) (fun _ => 0) μ δ σ dr hR (fun i hi => absurd hi (by omega)) n (by omega)
  rw [← hn] at h1 h2
  exact ⟨r, μ', δ', dr', σ', h1, h2, h3⟩
