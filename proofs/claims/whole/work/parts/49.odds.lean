/-! odds -/
def cb (k : Nat) : Nat → Nat
  | 0 => 1
  | j + 1 => cb k j * (k - j) / (j + 1)
def ac (k s : Nat) : Nat → Nat
  | 0 => 0
  | j + 1 => ac k s j + cb k j * s ^ j * (10 - s) ^ (k - j)
theorem cb_le : ∀ k, k < 15 → ∀ j, j < 16 → cb k j < 4000 := by decide +kernel
theorem ac_le : ∀ k, k < 15 → ∀ s, s < 11 → ∀ j, j < k + 2 → ac k s j ≤ 10 ^ 14 := by decide +kernel
theorem ac_all : ∀ k, k < 15 → ∀ s, s < 11 → ac k s (k + 1) = 10 ^ k := by decide +kernel
theorem Od_pw5 (N n a b : Nat) (ha : a < 2 ^ 31) (hb : b < 100) : ∀ (j i c : Nat), i + j = b → fOd_power_5 N (n + j + 1) (nI a) (nI b) (lN c) (nI i) = some (lN (c * a ^ j)) := by
  intro j
  induction j with
  | zero =>
    intro i c hi
    rw [fOd_power_5, if_pos (nI_le (by omega) (by omega)), Nat.pow_zero, Nat.mul_one]
  | succ j ih =>
    intro i c hi
    rw [show n + (j + 1) + 1 = n + j + 1 + 1 from rfl, fOd_power_5, if_neg (nI_ge (by omega) (by omega)), nm_d, nm_d, nI_l ha, lN_mul, nI_1, ih (i + 1) (c * a) (by omega), Nat.pow_succ', Nat.mul_assoc]
theorem Mo_pw5 (N n a b : Nat) (ha : a < 2 ^ 31) (hb : b < 100) : ∀ (j i c : Nat), i + j = b → fMo_power_5 N (n + j + 1) (nI a) (nI b) (lN c) (nI i) = some (lN (c * a ^ j)) := by
  intro j
  induction j with
  | zero =>
    intro i c hi
    rw [fMo_power_5, if_pos (nI_le (by omega) (by omega)), Nat.pow_zero, Nat.mul_one]
  | succ j ih =>
    intro i c hi
    rw [show n + (j + 1) + 1 = n + j + 1 + 1 from rfl, fMo_power_5, if_neg (nI_ge (by omega) (by omega)), nm_d, nm_d, nI_l ha, lN_mul, nI_1, ih (i + 1) (c * a) (by omega), Nat.pow_succ', Nat.mul_assoc]
theorem Od_power {N : Nat} (hN : 1000 ≤ N) {a b : Nat} (ha : a < 2 ^ 31) (hb : b < 100) : fOd_power N (nI a) (nI b) = some (lN (a ^ b)) := by
  have e := Od_pw5 N (N - b - 1) a b ha hb b 0 1 (by omega)
  rw [show N - b - 1 + b + 1 = N by omega, Nat.one_mul] at e
  exact e
theorem Mo_power {N : Nat} (hN : 1000 ≤ N) {a b : Nat} (ha : a < 2 ^ 31) (hb : b < 100) : fMo_power N (nI a) (nI b) = some (lN (a ^ b)) := by
  have e := Mo_pw5 N (N - b - 1) a b ha hb b 0 1 (by omega)
  rw [show N - b - 1 + b + 1 = N by omega, Nat.one_mul] at e
  exact e
theorem cb_step {k i : Nat} (hk : k < 15) (hi : i < 15) : lN (cb k i) * (nI (k - i)).toInt64 / (nI (i + 1)).toInt64 = lN (cb k (i + 1)) ∧ ¬ (nI (i + 1)).toInt64 = 0 := by
  have hc := cb_le k hk i (by omega)
  have hm : cb k i * (k - i) ≤ 4000 * 15 := Nat.mul_le_mul (by omega) (by omega)
  rw [nI_l (by omega), nI_l (by omega)]
  refine ⟨?_, ?_⟩
  · rw [lN_mul, pk_lDiv (by omega) (by omega) (by omega)]; rfl
  · intro q
    have := (pk_lEQ (a := i + 1) (b := 0) (by omega) (by omega)).mp q
    omega
theorem Od_nmt {N : Nat} (hN : 1000 ≤ N) {k t s : Nat} (hk : k < 15) (ht : t < 15) (hs : s < 11) : fOd_noMoreThan N (nI k) (nI t) (nI s) = some (lN (ac k s (min k t + 1))) := by
  have key : ∀ (j i n : Nat), i + j = min k t + 1 → fOd_noMoreThan_8 N (n + j + 1) (nI k) (nI t) (nI s) (lN (ac k s i)) (lN (cb k i)) (nI i) = some (lN (ac k s (min k t + 1))) := by
    intro j
    induction j with
    | zero =>
      intro i n hi
      have e : i = min k t + 1 := by omega
      rw [fOd_noMoreThan_8, fOd_noMoreThan_66, e]
      by_cases h1 : k < min k t + 1
      · rw [if_pos (nI_lt h1 (by omega))]
      · rw [if_neg (nI_nlt (by omega) (by omega)), if_pos (nI_lt (show t < min k t + 1 by omega) (by omega))]
    | succ j ih =>
      intro i n hi
      obtain ⟨c1, c2⟩ := cb_step hk (show i < 15 by omega)
      rw [show n + (j + 1) + 1 = n + j + 1 + 1 from rfl, fOd_noMoreThan_8, if_neg (nI_nlt (by omega) (by omega)), if_neg (nI_nlt (by omega) (by omega)), Od_power hN (by omega) (by omega), cl1_s, show (10 : Int32) = nI 10 from rfl, pk_sub (show s ≤ 10 by omega), pk_sub (show i ≤ k by omega), Od_power hN (by omega) (by omega), cl1_s, nm_d, show nI i + (1 : Int32) = nI (i + 1) from nI_1 i, gZL_ok c2, nm_d, nm_d, c1, lN_mul, lN_mul, lN_add]
      exact ih (i + 1) n (by omega)
  have e := key (min k t + 1) 0 (N - (min k t + 1) - 1) (by omega)
  rw [show N - (min k t + 1) - 1 + (min k t + 1) + 1 = N by omega] at e
  exact e
theorem Mo_come {N : Nat} (hN : 1000 ≤ N) {k t s : Nat} (hk : k < 15) (ht : t < 15) (hs : s < 11) : fMo_come N (nI k) (nI t) (nI s) = some (lN (ac k s (min k t + 1))) := by
  have key : ∀ (j i n : Nat), i + j = k + 1 → fMo_come_8 N (n + j + 1) (nI k) (nI t) (nI s) (lN (ac k s (min i (t + 1)))) (lN (cb k i)) (nI i) = some (lN (ac k s (min k t + 1))) := by
    intro j
    induction j with
    | zero =>
      intro i n hi
      rw [fMo_come_8, if_pos (nI_lt (show k < i by omega) (by omega)), show min i (t + 1) = min k t + 1 by omega]
    | succ j ih =>
      intro i n hi
      obtain ⟨c1, c2⟩ := cb_step hk (show i < 15 by omega)
      have ih' := ih (i + 1) n (by omega)
      rw [show n + (j + 1) + 1 = n + j + 1 + 1 from rfl, fMo_come_8, if_neg (nI_nlt (by omega) (by omega))]
      by_cases h1 : t < i
      · rw [show min (i + 1) (t + 1) = min i (t + 1) by omega] at ih'
        rw [if_pos (nI_lt h1 (by omega)), fMo_come_46, nm_d, show nI i + (1 : Int32) = nI (i + 1) from nI_1 i, gZL_ok c2, nm_d, nm_d, pk_sub (show i ≤ k by omega), c1, Int64.add_zero]
        exact ih'
      · rw [show min (i + 1) (t + 1) = i + 1 by omega] at ih'
        rw [show min i (t + 1) = i by omega]
        rw [if_neg (nI_nlt (by omega) (by omega)), Mo_power hN (by omega) (by omega), cl1_s, show (10 : Int32) = nI 10 from rfl, pk_sub (show s ≤ 10 by omega), pk_sub (show i ≤ k by omega), Mo_power hN (by omega) (by omega), cl1_s, fMo_come_46, nm_d, show nI i + (1 : Int32) = nI (i + 1) from nI_1 i, gZL_ok c2, nm_d, nm_d, pk_sub (show i ≤ k by omega), c1, lN_mul, lN_mul, lN_add]
        exact ih'
  have e := key (k + 1) 0 (N - (k + 1) - 1) (by omega)
  rw [show N - (k + 1) - 1 + (k + 1) + 1 = N by omega] at e
  exact e
theorem lg_le_0 (x y : Int64) : lg_cmp x y ≤ 0 ↔ x.toInt ≤ y.toInt := by
  have h := lg_gt0 x y
  have h2 : lg_cmp x y ≤ 0 ↔ ¬ 0 < lg_cmp x y := by
    rw [Int32.le_iff_toInt_le, Int32.lt_iff_toInt_lt]; omega
  rw [h2, h, Int64.lt_iff_toInt_lt]; omega
theorem lg_ge_0 (x y : Int64) : 0 ≤ lg_cmp x y ↔ y.toInt ≤ x.toInt := by
  have h := lg_le0 x y
  have h2 : 0 ≤ lg_cmp x y ↔ ¬ lg_cmp x y < 0 := by
    rw [Int32.le_iff_toInt_le, Int32.lt_iff_toInt_lt]; omega
  rw [h2, h, Int64.lt_iff_toInt_lt]; omega
theorem lg_eq_0 (x y : Int64) : lg_cmp x y = 0 ↔ x.toInt = y.toInt := by
  have h1 := lg_le_0 x y
  have h2 := lg_ge_0 x y
  have h3 : lg_cmp x y = 0 ↔ lg_cmp x y ≤ 0 ∧ 0 ≤ lg_cmp x y := by
    rw [Int32.le_iff_toInt_le, Int32.le_iff_toInt_le, ← Int32.toInt_inj]
    have : (0 : Int32).toInt = 0 := by decide
    omega
  rw [h3, h1, h2]; omega
/-- both common divisors, turn by turn -/
theorem gcds (N : Nat) (v1 v3 : Int64) (Λ : Nat → Int64) : ∀ (m a b : Nat), b < 2 ^ m → a < 2 ^ 62 → b < 2 ^ 62 → 0 < a + b → ∃ g, 0 < g ∧ g < 2 ^ 62 ∧ (∀ n c, 2 * m + 1 ≤ n → c + 2 * m < 1000 → fOd_commonDivisor_9 N n (lN a) (lN b) (nI c) = some (lN g)) ∧ ∀ n, 2 * m + 1 ≤ n → fMo_lowest_6 N n v1 v3 (lN a) (lN b) Λ = some (vp_updL (vp_updL Λ 27 (v1 / lN g)) 28 (v3 / lN g)) := by
  have z0 : ∀ b : Nat, b < 2 ^ 62 → 0 < b → ¬ lN b = 0 := fun b h1 h2 q => by
    have := (pk_lEQ (a := b) (b := 0) (by omega) (by omega)).mp q
    omega
  have t0 : (0 : Int64).toInt = 0 := by decide
  have stop : ∀ a, a < 2 ^ 62 → 0 < a → (∀ n c, 1 ≤ n → c < 1000 → fOd_commonDivisor_9 N n (lN a) (lN 0) (nI c) = some (lN a)) ∧ ∀ n, 1 ≤ n → fMo_lowest_6 N n v1 v3 (lN a) (lN 0) Λ = some (vp_updL (vp_updL Λ 27 (v1 / lN a)) 28 (v3 / lN a)) := by
    intro a ha h0
    refine ⟨fun n c hn hc => ?_, fun n hn => ?_⟩
    · obtain ⟨n', rfl⟩ : ∃ n', n = n' + 1 := ⟨n - 1, by omega⟩
      rw [fOd_commonDivisor_9, fOd_commonDivisor_45, if_neg (show ¬ (1000 : Int32) ≤ nI c from nI_ge (b := 1000) hc (by omega)), if_pos (by rw [lg_le_0]; decide)]
    · obtain ⟨n', rfl⟩ : ∃ n', n = n' + 1 := ⟨n - 1, by omega⟩
      rw [fMo_lowest_6, if_pos (by rw [lg_eq_0]; decide), gZL_ok (z0 a ha h0), nm_d, gZL_ok (z0 a ha h0), nm_d]
  have one : ∀ a b, a < 2 ^ 62 → b < 2 ^ 62 → 0 < b → (∀ n c, c < 1000 → fOd_commonDivisor_9 N (n + 1) (lN a) (lN b) (nI c) = fOd_commonDivisor_9 N n (lN b) (lN (a % b)) (nI (c + 1))) ∧ ∀ n, fMo_lowest_6 N (n + 1) v1 v3 (lN a) (lN b) Λ = fMo_lowest_6 N n v1 v3 (lN b) (lN (a % b)) Λ := by
    intro a b ha hb h0
    have tb : (lN b).toInt = (b : Int) := pk_lT (by omega)
    refine ⟨fun n c hc => ?_, fun n => ?_⟩
    · rw [fOd_commonDivisor_9, if_neg (show ¬ (1000 : Int32) ≤ nI c from nI_ge (b := 1000) hc (by omega)), if_neg (by rw [lg_le_0, tb, t0]; omega), gZL_ok (z0 b hb h0), nm_d, nm_d, pk_lRem (by omega) h0 (by omega), nI_1]
    · rw [fMo_lowest_6, if_neg (by rw [lg_eq_0, tb, t0]; omega), gZL_ok (z0 b hb h0), nm_d, pk_lRem (by omega) h0 (by omega)]
  intro m
  induction m with
  | zero =>
    intro a b h1 ha hb h0
    have : b = 0 := by omega
    subst this
    obtain ⟨s1, s2⟩ := stop a ha (by omega)
    exact ⟨a, by omega, ha, fun n c hn hc => s1 n c (by omega) (by omega), fun n hn => s2 n (by omega)⟩
  | succ m ih =>
    intro a b h1 ha hb h0
    by_cases b0 : b = 0
    · subst b0
      obtain ⟨s1, s2⟩ := stop a ha (by omega)
      exact ⟨a, by omega, ha, fun n c hn hc => s1 n c (by omega) (by omega), fun n hn => s2 n (by omega)⟩
    · obtain ⟨o1, o2⟩ := one a b ha hb (by omega)
      have hr := Nat.mod_lt a (show b > 0 by omega)
      by_cases r0 : a % b = 0
      · obtain ⟨s1, s2⟩ := stop b hb (by omega)
        rw [r0] at o1 o2
        refine ⟨b, by omega, hb, fun n c hn hc => ?_, fun n hn => ?_⟩
        · obtain ⟨n', rfl⟩ : ∃ n', n = n' + 1 := ⟨n - 1, by omega⟩
          rw [o1 n' c (by omega)]
          exact s1 n' (c + 1) (by omega) (by omega)
        · obtain ⟨n', rfl⟩ : ∃ n', n = n' + 1 := ⟨n - 1, by omega⟩
          rw [o2 n']
          exact s2 n' (by omega)
      · obtain ⟨q1, q2⟩ := one b (a % b) hb (by omega) (by omega)
        have hr2 := Nat.mod_lt b (show a % b > 0 by omega)
        have hlt : b % (a % b) < 2 ^ m := by
          rw [Nat.pow_succ] at h1
          by_cases hh : 2 * (a % b) ≤ b
          · omega
          · have : b % (a % b) = b - a % b := by
              rw [Nat.mod_eq_sub_mod (by omega), Nat.mod_eq_of_lt (by omega)]
            omega
        obtain ⟨g, g0, g1, g2, g3⟩ := ih (a % b) (b % (a % b)) hlt (by omega) (by omega) (by omega)
        refine ⟨g, g0, g1, fun n c hn hc => ?_, fun n hn => ?_⟩
        · obtain ⟨n', rfl⟩ : ∃ n', n = n' + 1 + 1 := ⟨n - 2, by omega⟩
          rw [o1 (n' + 1) c (by omega), q1 n' (c + 1) (by omega)]
          exact g2 n' (c + 1 + 1) (by omega) (by omega)
        · obtain ⟨n', rfl⟩ : ∃ n', n = n' + 1 + 1 := ⟨n - 2, by omega⟩
          rw [o2 (n' + 1), q2 n']
          exact g3 n' (by omega)
theorem P_booked {N : Nat} (hNN : 5000 ≤ N) {μ ς τ ε γ : St} {Γ : Nat → Int64} {δ ρ σ : St} {Λ : Nat → Int64} {dr r0 : Nat} (hR : Rel N μ τ γ Γ ρ σ) (a0 : Int32) (a1 : Int32) (a2 : Int32) (a3 : Int32) : ∃ (r : Int64) (Λ' : Nat → Int64), fMa_booked N a0 a1 a2 a3 = some r ∧ fMo_booked N a0 a1 a2 a3 Λ = some (r, Λ') ∧ Rel N μ τ γ Γ ρ σ := by
  unfold fMa_booked fMo_booked
  rcases wi N a0 1 14 1 14 1 14 (by decide) (by decide) (by decide) (by decide) (by decide) with ⟨k, k1, k2, k3, k4, k5⟩ | ⟨w4, w5⟩
  rotate_left
  · rw [w4, w5, cl1_s, cl1_s, if_pos rfl, if_pos rfl]; exact ⟨_, _, rfl, rfl, hR⟩
  rw [k4, k5, cl1_s, cl1_s, if_neg one0, if_neg one0]
  rcases wi N a1 1 14 1 14 1 14 (by decide) (by decide) (by decide) (by decide) (by decide) with ⟨t, t1, t2, t3, t4, t5⟩ | ⟨w4, w5⟩
  rotate_left
  · rw [w4, w5, cl1_s, cl1_s, if_pos rfl, if_pos rfl]; exact ⟨_, _, rfl, rfl, hR⟩
  rw [t4, t5, cl1_s, cl1_s, if_neg one0, if_neg one0]
  rcases wi N a2 0 10 0 10 0 10 (by decide) (by decide) (by decide) (by decide) (by decide) with ⟨s, s1, s2, s3, s4, s5⟩ | ⟨w4, w5⟩
  rotate_left
  · rw [w4, w5, cl1_s, cl1_s, if_pos rfl, if_pos rfl]; exact ⟨_, _, rfl, rfl, hR⟩
  rw [s4, s5, cl1_s, cl1_s, if_neg one0, if_neg one0]
  rcases wi N a3 0 1 0 1 0 1 (by decide) (by decide) (by decide) (by decide) (by decide) with ⟨w, w1, w2, w3, w4, w5⟩ | ⟨w4, w5⟩
  rotate_left
  · rw [w4, w5, cl1_s, cl1_s, if_pos rfl, if_pos rfl]; exact ⟨_, _, rfl, rfl, hR⟩
  rw [w4, w5, cl1_s, cl1_s, if_neg one0, if_neg one0, k3, t3, s3, Od_nmt (by omega) (by omega) (by omega) (by omega), Mo_come (by omega) (by omega) (by omega) (by omega), cl1_s, cl1_s, show (10 : Int32) = nI 10 from rfl, Od_power (by omega) (by omega) (by omega), Mo_power (by omega) (by omega) (by omega), cl1_s, cl1_s]
  have hA := ac_le k (by omega) s (by omega) (min k t + 1) (by omega)
  have hB : 10 ^ k ≤ 10 ^ 14 := Nat.pow_le_pow_right (by decide) (by omega)
  have hB0 : 0 < 10 ^ k := Nat.pow_pos (by decide)
  have e14 : (10 : Nat) ^ 14 = 100000000000000 := by decide
  generalize hA' : ac k s (min k t + 1) = A at hA ⊢
  generalize hB' : 10 ^ k = B at hB hB0 ⊢
  obtain ⟨g, g0, g1, g2, g3⟩ := gcds N (lN A) (lN B) Λ 62 A B (by omega) (by omega) (by omega) (by omega)
  have zg : ¬ lN g = 0 := fun q => by
    have := (pk_lEQ (a := g) (b := 0) (by omega) (by omega)).mp q
    omega
  have d1 : fOd_commonDivisor N (lN A) (lN B) = some (lN g) := g2 N 0 (by omega) (by omega)
  have d2 : fMo_lowest N (lN A) (lN B) Λ = some (vp_updL (vp_updL Λ 27 (lN A / lN g)) 28 (lN B / lN g)) := g3 N (by omega)
  rw [d1, d2, cl1_s, cl1_s, if_pos (by rw [lg_ge_0, pk_lT (by omega), show (1 : Int64).toInt = 1 by decide]; omega)]
  unfold fMa_booked_92 fMo_booked_83
  rw [gZL_ok zg, gZL_ok zg, pk_uLs, pk_uLn (by decide), pk_uLs]
  by_cases h3 : a3 = 0
  · rw [if_pos h3, if_pos h3]; exact ⟨_, _, rfl, rfl, hR⟩
  · rw [if_neg h3, if_neg h3]; exact ⟨_, _, rfl, rfl, hR⟩
theorem over_m {N : Nat} (hNN : 5000 ≤ N) {t s p : Nat} (ht : t < 15) (hs : s < 11) (ok : Nat → Prop) (hok : ∀ k, k < 15 → (ok k ↔ ¬ lg_cmp ((100 : Int64) * lN (ac k s (min k t + 1))) ((nI p).toInt64 * lN (10 ^ k)) < 0)) : ∀ (j k q : Nat), k + j = 15 → q < 15 → q ≤ k → ok q → (∀ i, q < i → i < k → ¬ ok i) → ∃ r, r < 15 ∧ q ≤ r ∧ ok r ∧ (∀ i, r < i → i < 15 → ¬ ok i) ∧ ∀ n, j ≤ n → fMo_over_44 N (n + 1) (nI t) (nI s) (nI p) (nI q) (nI k) = some (nI r) := by
  intro j
  induction j with
  | zero =>
    intro k q hk hq hqk h1 h2
    have : k = 15 := by omega
    subst this
    refine ⟨q, hq, by omega, h1, h2, fun n _ => ?_⟩
    rw [fMo_over_44, if_pos (show (15 : Int32) ≤ nI 15 by decide)]
  | succ j ih =>
    intro k q hk hq hqk h1 h2
    have hk' := hok k (by omega)
    by_cases hc : ok k
    · obtain ⟨r, r1, r2, r3, r4, r5⟩ := ih (k + 1) k (by omega) (by omega) (by omega) hc (fun i _ _ => absurd (show k < i by omega) (by omega))
      refine ⟨r, r1, by omega, r3, r4, fun n hn => ?_⟩
      obtain ⟨n', rfl⟩ : ∃ n', n = n' + 1 := ⟨n - 1, by omega⟩
      rw [fMo_over_44, if_neg (show ¬ (15 : Int32) ≤ nI k from nI_ge (b := 15) (by omega) (by omega)), Mo_come (by omega) (by omega) ht hs, cl1_s, show (10 : Int32) = nI 10 from rfl, Mo_power (by omega) (by omega) (by omega), cl1_s, if_neg (hk'.mp hc), fMo_over_83, nm_d, nI_1]
      exact r5 n' (by omega)
    · obtain ⟨r, r1, r2, r3, r4, r5⟩ := ih (k + 1) q (by omega) hq (by omega) h1 (fun i hi hi2 => by
        by_cases e : i = k
        · rw [e]; exact hc
        · exact h2 i hi (by omega))
      refine ⟨r, r1, r2, r3, r4, fun n hn => ?_⟩
      obtain ⟨n', rfl⟩ : ∃ n', n = n' + 1 := ⟨n - 1, by omega⟩
      have hlt : lg_cmp ((100 : Int64) * lN (ac k s (min k t + 1))) ((nI p).toInt64 * lN (10 ^ k)) < 0 := Classical.byContradiction fun z => hc (hk'.mpr z)
      rw [fMo_over_44, if_neg (show ¬ (15 : Int32) ≤ nI k from nI_ge (b := 15) (by omega) (by omega)), Mo_come (by omega) (by omega) ht hs, cl1_s, show (10 : Int32) = nI 10 from rfl, Mo_power (by omega) (by omega) (by omega), cl1_s, if_pos hlt, fMo_over_83, nm_d, nI_1]
      exact r5 n' (by omega)
theorem over_c {N : Nat} (hNN : 5000 ≤ N) {t s p : Nat} (ht : t < 15) (hs : s < 11) (ok : Nat → Prop) (hok : ∀ k, k < 15 → (ok k ↔ ¬ lg_cmp ((100 : Int64) * lN (ac k s (min k t + 1))) ((nI p).toInt64 * lN (10 ^ k)) < 0)) {r : Nat} (hr : r < 15) (htr : t ≤ r) (h1 : ok r) (h2 : ∀ i, r < i → i < 15 → ¬ ok i) : ∀ (j k : Nat), r + j = k → k < 15 → ∀ n, j ≤ n → fMa_over_36 N (n + 1) (nI t) (nI s) (nI p) (nI k) = some (nI r) := by
  intro j
  induction j with
  | zero =>
    intro k hk hk5 n _
    have : r = k := by omega
    subst this
    rw [fMa_over_36, if_neg (nI_nlt (by omega) (by omega)), Od_nmt (by omega) (by omega) ht hs, cl1_s, show (10 : Int32) = nI 10 from rfl, Od_power (by omega) (by omega) (by omega), cl1_s, Int64.mul_comm _ (100 : Int64), Int64.mul_comm _ ((nI p).toInt64), if_neg ((hok r hr).mp h1)]
  | succ j ih =>
    intro k hk hk5 n hn
    obtain ⟨n', rfl⟩ : ∃ n', n = n' + 1 := ⟨n - 1, by omega⟩
    obtain ⟨k', rfl⟩ : ∃ k', k = k' + 1 := ⟨k - 1, by omega⟩
    have hlt : lg_cmp ((100 : Int64) * lN (ac (k' + 1) s (min (k' + 1) t + 1))) ((nI p).toInt64 * lN (10 ^ (k' + 1))) < 0 := Classical.byContradiction fun z => h2 (k' + 1) (by omega) hk5 ((hok (k' + 1) hk5).mpr z)
    rw [fMa_over_36, if_neg (nI_nlt (by omega) (by omega)), Od_nmt (by omega) (by omega) ht hs, cl1_s, show (10 : Int32) = nI 10 from rfl, Od_power (by omega) (by omega) (by omega), cl1_s, Int64.mul_comm _ (100 : Int64), Int64.mul_comm _ ((nI p).toInt64), if_pos hlt, nm_d, pk_m1]
    exact ih k' (by omega) (by omega) n' (by omega)
theorem P_over {N : Nat} (hNN : 5000 ≤ N) {μ ς τ ε γ : St} {Γ : Nat → Int64} {δ ρ σ : St} {Λ : Nat → Int64} {dr r0 : Nat} (hR : Rel N μ τ γ Γ ρ σ) (a0 : Int32) (a1 : Int32) (a2 : Int32) : ∃ (r : Int32), fMa_over N a0 a1 a2 = some r ∧ fMo_over N a0 a1 a2 = some r ∧ Rel N μ τ γ Γ ρ σ := by
  unfold fMa_over fMo_over
  rcases wi N a0 1 14 1 14 1 14 (by decide) (by decide) (by decide) (by decide) (by decide) with ⟨t, t1, t2, t3, t4, t5⟩ | ⟨w4, w5⟩
  rotate_left
  · rw [w4, w5, cl1_s, cl1_s, if_pos rfl, if_pos rfl]; exact ⟨_, rfl, rfl, hR⟩
  rw [t4, t5, cl1_s, cl1_s, if_neg one0, if_neg one0]
  rcases wi N a1 0 10 0 10 0 10 (by decide) (by decide) (by decide) (by decide) (by decide) with ⟨s, s1, s2, s3, s4, s5⟩ | ⟨w4, w5⟩
  rotate_left
  · rw [w4, w5, cl1_s, cl1_s, if_pos rfl, if_pos rfl]; exact ⟨_, rfl, rfl, hR⟩
  rw [s4, s5, cl1_s, cl1_s, if_neg one0, if_neg one0]
  rcases wi N a2 0 100 0 100 0 100 (by decide) (by decide) (by decide) (by decide) (by decide) with ⟨p, p1, p2, p3, p4, p5⟩ | ⟨w4, w5⟩
  rotate_left
  · rw [w4, w5, cl1_s, cl1_s, if_pos rfl, if_pos rfl]; exact ⟨_, rfl, rfl, hR⟩
  rw [p4, p5, cl1_s, cl1_s, if_neg one0, if_neg one0, t3, s3, p3]
  have hB : 10 ^ t ≤ 10 ^ 14 := Nat.pow_le_pow_right (by decide) (by omega)
  have e14 : (10 : Nat) ^ 14 = 100000000000000 := by decide
  have h0 : ¬ lg_cmp ((100 : Int64) * lN (ac t s (min t t + 1))) ((nI p).toInt64 * lN (10 ^ t)) < 0 := by
    rw [Nat.min_self, ac_all t (by omega) s (by omega), nI_l (by omega), show (100 : Int64) = lN 100 from rfl, lN_mul, lN_mul, lg_le0, pk_lLT (by omega) (by
      have := Nat.mul_le_mul (show p ≤ 100 by omega) hB
      omega)]
    have := Nat.mul_le_mul_right (10 ^ t) (show p ≤ 100 by omega)
    omega
  obtain ⟨r, r1, r2, r3, r4, r5⟩ := over_m hNN (t := t) (s := s) (p := p) (by omega) (by omega) (fun k => ¬ lg_cmp ((100 : Int64) * lN (ac k s (min k t + 1))) ((nI p).toInt64 * lN (10 ^ k)) < 0) (fun k _ => Iff.rfl) (15 - t) t t (by omega) (by omega) (by omega) h0 (fun i _ _ => absurd (show t < i by omega) (by omega))
  obtain ⟨n, hn⟩ : ∃ n, N = n + 1 := ⟨N - 1, by omega⟩
  have q1 := over_c hNN (t := t) (s := s) (p := p) (by omega) (by omega) (fun k => ¬ lg_cmp ((100 : Int64) * lN (ac k s (min k t + 1))) ((nI p).toInt64 * lN (10 ^ k)) < 0) (fun k _ => Iff.rfl) r1 r2 r3 r4 (14 - r) 14 (by omega) (by omega) n (by omega)
  have q2 := r5 n (by omega)
  rw [← hn] at q1 q2
  exact ⟨_, q1, q2, hR⟩
theorem dare_loop {N : Nat} {rm : Nat → Nat → Nat} {ρ σ : St} (hN : rmN rm) (hC : RoomC rm ρ) (hM : RoomM rm 0 σ) (v1 v2 v3 : Int32) : ∀ (j i : Nat) (v4 v5 : Int32), i + j = rm 0 0 → ∀ n, j ≤ n → ∃ r, fMa_dare_40 N ρ (n + 1) v1 v2 v3 v4 v5 (nI i) = some r ∧ fMo_dare_45 N σ (n + 1) v1 v2 v3 v4 v5 (nI i) = some r := by
  have h08 : rm 0 0 ≤ 8 := hN.1
  have hc : fRo_readerCount N ρ = some (nI (rm 0 0)) := by unfold fRo_readerCount; rw [hC.2.1]
  intro j
  induction j with
  | zero =>
    intro i v4 v5 hi n _
    rw [fMa_dare_40, fMo_dare_45, hc, cl1_s, gI0 (by decide) (by decide), cz0, hM.2.1, if_pos (nI_le (by omega) (by omega)), if_pos (nI_le (by omega) (by omega))]
    by_cases h4 : v4 = 0
    · rw [if_pos h4, if_pos h4]; exact ⟨_, rfl, rfl⟩
    · rw [if_neg h4, if_neg h4]
      by_cases h3 : v3 = 0
      · rw [if_pos h3, if_pos h3]; exact ⟨_, rfl, rfl⟩
      · rw [if_neg h3, if_neg h3]; exact ⟨_, rfl, rfl⟩
  | succ j ih =>
    intro i v4 v5 hi n hn
    obtain ⟨n', rfl⟩ : ∃ n', n = n' + 1 := ⟨n - 1, by omega⟩
    have hlt : i < rm 0 0 := by omega
    have hb := hN.2.2.2.2.2.2.2.2 i hlt
    rw [fMa_dare_40, fMo_dare_45, hc, cl1_s, gI0 (by decide) (by decide), cz0, hM.2.1, if_neg (nI_ge hlt (by omega)), if_neg (nI_ge hlt (by omega)), show (3 : Int32) = nI 3 from rfl, Ro_number hN hC N hlt (by omega), cl1_s, Ro_goesOff hN hC N hlt, cl1_s, show (2 : Int32) = nI 2 from rfl, Mo_of hN hM N hlt (by omega), cl1_s, show (1 : Int32) = nI 1 from rfl, Mo_of hN hM N hlt (by omega), cl1_s]
    have same : ∃ r, fMa_dare_103 (fMa_dare_40 N ρ (n' + 1)) N ρ v1 v2 v3 v4 v5 (nI i) = some r ∧ fMo_dare_88 (fMo_dare_45 N σ (n' + 1)) N σ v1 v2 v3 v4 v5 (nI i) = some r := by
      rw [fMa_dare_103, nm_d, fMo_dare_88, fMo_dare_89, if_pos rfl, fMo_dare_103, nm_d, if_pos rfl, fMo_dare_130, fMo_dare_131, nm_d, nm_d, Int32.add_zero, Int32.add_zero, nI_1]
      exact ih (i + 1) v4 v5 (by omega) n' (by omega)
    by_cases hg : rm (i + 2) 2 < rm (i + 2) 1
    · rw [if_pos hg, if_neg (show ¬ nI 1 = (0 : Int32) by decide), if_neg (nI_ge hg (by omega)), Mo_of hN hM N hlt (by omega), cl1_s]
      by_cases h3 : nI (rm (i + 2) 3) ≤ v1
      · rw [if_pos h3, if_pos h3]; exact same
      · rw [if_neg h3, if_neg h3, nm_d, fMo_dare_89, if_neg (show ¬ nI 1 = (0 : Int32) by decide), fMo_dare_103, nm_d, if_neg (show ¬ nI 1 = (0 : Int32) by decide), show (3 : Int32) = nI 3 from rfl, Mo_of hN hM N hlt (by omega), cl1_s]
        by_cases h5 : v1 + v2 < nI (rm (i + 2) 3)
        · rw [if_pos h5, if_pos h5, fMa_dare_100, nm_d, fMa_dare_103, nm_d, fMo_dare_130, fMo_dare_131, nm_d, nm_d, nI_1]
          exact ih (i + 1) _ _ (by omega) n' (by omega)
        · rw [if_neg h5, if_neg h5, fMa_dare_100, nm_d, fMa_dare_103, nm_d, fMo_dare_131, nm_d, nm_d, nI_1]
          exact ih (i + 1) _ _ (by omega) n' (by omega)
    · rw [if_neg hg, if_pos rfl, if_pos (nI_le (by omega) (by omega))]; exact same
theorem P_dare {N : Nat} (hNN : 5000 ≤ N) {μ ς τ ε γ : St} {Γ : Nat → Int64} {δ ρ σ : St} {Λ : Nat → Int64} {dr r0 : Nat} (hR : Rel N μ τ γ Γ ρ σ) (a0 : Int32) (a1 : Int32) (a2 : Int32) : ∃ (r : Int32), fMa_dare N a0 a1 a2 ρ = some r ∧ fMo_dare N a0 a1 a2 σ = some r ∧ Rel N μ τ γ Γ ρ σ := by
  have hR' := hR
  obtain ⟨rm, h, kp, len, hN, hC, hM, _, _, _⟩ := hR'
  have h08 : rm 0 0 ≤ 8 := hN.1
  unfold fMa_dare fMo_dare
  rcases wi N a0 0 98 0 98 0 98 (by decide) (by decide) (by decide) (by decide) (by decide) with ⟨t, t1, t2, t3, t4, t5⟩ | ⟨w4, w5⟩
  rotate_left
  · rw [w4, w5, cl1_s, cl1_s, if_pos rfl, if_pos rfl]; exact ⟨_, rfl, rfl, hR⟩
  rw [t4, t5, cl1_s, cl1_s, if_neg one0, if_neg one0]
  rcases wi N a1 1 99 1 99 1 99 (by decide) (by decide) (by decide) (by decide) (by decide) with ⟨s, s1, s2, s3, s4, s5⟩ | ⟨w4, w5⟩
  rotate_left
  · rw [w4, w5, cl1_s, cl1_s, if_pos rfl, if_pos rfl]; exact ⟨_, rfl, rfl, hR⟩
  rw [s4, s5, cl1_s, cl1_s, if_neg one0, if_neg one0]
  rcases wi N a2 0 1 0 1 0 1 (by decide) (by decide) (by decide) (by decide) (by decide) with ⟨p, p1, p2, p3, p4, p5⟩ | ⟨w4, w5⟩
  rotate_left
  · rw [w4, w5, cl1_s, cl1_s, if_pos rfl, if_pos rfl]; exact ⟨_, rfl, rfl, hR⟩
  rw [p4, p5, cl1_s, cl1_s, if_neg one0, if_neg one0]
  obtain ⟨n, hn⟩ : ∃ n, N = n + 1 := ⟨N - 1, by omega⟩
  obtain ⟨r, q1, q2⟩ := dare_loop (N := N) hN hC hM a0 a1 a2 (rm 0 0) 0 0 0 (by omega) n (by omega)
  rw [← hn] at q1 q2
  exact ⟨r, q1, q2, hR⟩
