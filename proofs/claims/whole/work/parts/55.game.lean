/-! the game of coats -/
theorem nI_and {a b : Nat} (ha : a < 2 ^ 31) (hb : b < 2 ^ 31) : nI a &&& nI b = nI (a &&& b) := by
  apply Int32.toBitVec_inj.mp
  rw [Int32.toBitVec_and]
  apply BitVec.eq_of_toNat_eq
  have h : a &&& b ≤ a := Nat.and_le_left
  rw [BitVec.toNat_and, pk_tn (by omega), pk_tn (by omega), pk_tn (by omega)]
theorem bit_and {x m i : Nat} (h : m / 2 ^ i % 2 = 1) : (x &&& m) / 2 ^ i % 2 = x / 2 ^ i % 2 := by
  have e := Nat.testBit_and x m i
  rw [Nat.testBit_eq_decide_div_mod_eq, Nat.testBit_eq_decide_div_mod_eq, Nat.testBit_eq_decide_div_mod_eq, decide_eq_true h, Bool.and_true] at e
  have e' : ((x &&& m) / 2 ^ i % 2 = 1) ↔ (x / 2 ^ i % 2 = 1) := by
    rw [← decide_eq_true_iff (p := (x &&& m) / 2 ^ i % 2 = 1), e, decide_eq_true_iff]
  omega
theorem matt_lt (rm : Nat → Nat → Nat) (ru : Nat) : ∀ n, matt rm ru n < 2 ^ n
  | 0 => by unfold matt; decide
  | n + 1 => by
    have := matt_lt rm ru n
    unfold matt
    rw [Nat.pow_succ]
    split <;> omega
theorem matt_bit {rm : Nat → Nat → Nat} {ru i : Nat} (h1 : ¬ ru = 1) (h2 : rm (i + 2) 2 < rm (i + 2) 1) : ∀ n, i < n → matt rm ru n / 2 ^ i % 2 = 1
  | 0, h => absurd h (by omega)
  | n + 1, h => by
    have hl := matt_lt rm ru n
    unfold matt
    by_cases e : i = n
    · subst e
      rw [if_pos ⟨h1, h2⟩, Nat.add_div_right _ (Nat.pow_pos (by decide)), Nat.div_eq_of_lt hl]
    · have ih := matt_bit h1 h2 n (by omega)
      by_cases c : ¬ ru = 1 ∧ rm (n + 2) 2 < rm (n + 2) 1
      · rw [if_pos c]
        have e2 : 2 ^ n = 2 ^ (n - i - 1) * 2 * 2 ^ i := by
          rw [← Nat.pow_succ, ← Nat.pow_add]
          congr 1
          omega
        rw [e2, Nat.add_mul_div_right _ _ (Nat.pow_pos (by decide))]
        omega
      · rw [if_neg c, Nat.add_zero]; exact ih
theorem or_add {h i : Nat} (hl : h < 2 ^ i) : h ||| 2 ^ i = h + 2 ^ i := by
  have := Nat.two_pow_add_eq_or_of_lt hl 1
  rw [Nat.mul_one] at this
  rw [Nat.or_comm, ← this, Nat.add_comm]
theorem HCp_matt {rm : Nat → Nat → Nat} {ru x : Nat} (hx : x < 256) : HCp rm ru x (hcOf ru (x &&& matt rm ru (rm 0 0))) := by
  have hle : x &&& matt rm ru (rm 0 0) ≤ x := Nat.and_le_left
  unfold hcOf
  refine ⟨hx, by split <;> omega, fun i hi hg => ?_⟩
  unfold hb
  by_cases h : ru = 1
  · rw [if_pos h, if_pos h, Nat.zero_div]
  · rw [if_neg h, if_neg h, bit_and (matt_bit h hg _ hi)]
def GameOn (N : Nat) (rm : Nat → Nat → Nat) (ru : Nat) (γ : St) (Γ : Nat → Int64) : Prop := γ 0 3 = nI ru ∧ γ 0 4 = nI (matt rm ru (rm 0 0)) ∧ ∀ s, s < 256 → Γ s = -1 ∨ GoodMin N rm ru s (Γ s)
theorem game_day {N : Nat} (hNN : 5000 ≤ N) {rm : Nat → Nat → Nat} {ρ σ0 : St} (hN : rmN rm) (hC : RoomC rm ρ) (hM : RoomM rm 0 σ0) {ru s : Nat} (hru : ru < 5) (hs : s < 256) (δ : St) : ∃ δ1 δ', fDa_open N (nI ru) (nI s) ρ δ = some δ1 ∧ fDa_runTo N (nI 399) ρ δ1 = some δ' ∧ GoodMin N rm ru s (pm δ' 8 0) := by
  have hp := hN.2.2.2.1
  have h08 : rm 0 0 ≤ 8 := hN.1
  obtain ⟨δ1, o1, o2⟩ := Da_open hN hC (N := N) (by omega) (h := s) hru δ
  obtain ⟨δ', σ', rn, g1, g2, g3⟩ := goes_sim hN hC hM (HCp_same hs) (N := N) (by omega) hru (by omega) (by omega) (show 399 < 400 by omega) o2
  refine ⟨δ1, δ', o1, g2, fun σ hm σ2 hM2 hH hg i hi => ?_⟩
  obtain ⟨δ3, σ3, rn3, k1, k2, k3⟩ := goes_sim hN hC hM2 hH (N := N) (by omega) hru (by omega) (by omega) (show 399 < 400 by omega) o2
  have e1 : δ3 = δ' := Option.some.inj (k2.symm.trans g2)
  have e2 : σ3 = σ2 := Option.some.inj (k3.symm.trans hg)
  subst e1 e2
  obtain ⟨q, q1, q2, q3⟩ := (k1.rd hi).2
  have b := (hN.2.2.2.2.2.2.2.2 i hi).2.1.2
  rw [q3]
  refine pack_byte δ3 (by omega) (fun k hk => ?_) (by omega) q2
  obtain ⟨q', p1, p2, p3⟩ := (k1.rd (show k < rm 0 0 by omega)).2
  have b' := (hN.2.2.2.2.2.2.2.2 k (by omega)).2.1.2
  exact ⟨q', by omega, p2⟩
theorem play_loop {N : Nat} {rm : Nat → Nat → Nat} {ρ : St} (hN : rmN rm) (hC : RoomC rm ρ) {ru : Nat} (hru : ru < 5) (Γ : Nat → Int64) : ∀ (j k : Nat) (γ : St), k + j = rm 0 0 → γ 0 3 = nI ru → γ 0 4 = nI (matt rm ru k) → ∃ γ', γ' 0 3 = nI ru ∧ γ' 0 4 = nI (matt rm ru (rm 0 0)) ∧ ∀ n, j ≤ n → fGa_playBy_31 N ρ (n + 1) (nI ru) (nI k) γ Γ = some (γ', Γ) := by
  have h08 : rm 0 0 ≤ 8 := hN.1
  have hc : fRo_readerCount N ρ = some (nI (rm 0 0)) := by unfold fRo_readerCount; rw [hC.2.1]
  intro j
  induction j with
  | zero =>
    intro k γ hk g3 g4
    have e : k = rm 0 0 := by omega
    refine ⟨γ, g3, by rw [g4, e], fun n _ => ?_⟩
    rw [fGa_playBy_31, hc, cl1_s, if_pos (nI_le (by omega) (by omega))]
  | succ j ih =>
    intro k γ hk g3 g4
    have hlt : k < rm 0 0 := by omega
    have hl := matt_lt rm ru k
    have hp := p2_256 (show k ≤ 8 by omega)
    have gate : ∀ n, fGa_playBy_31 N ρ (n + 1) (nI ru) (nI k) γ Γ = if nI ru = (1 : Int32) then fGa_playBy_70 (fGa_playBy_31 N ρ n) N ρ (nI ru) (nI k) γ Γ else cl1 (fRo_goesOff N (nI k) ρ) fun r_6 => if r_6 = 0 then fGa_playBy_70 (fGa_playBy_31 N ρ n) N ρ (nI ru) (nI k) γ Γ else nm (sA γ 0 (upd (γ 0) 4 ((γ 0 4) ||| ((1 : Int32) <<< (nI k &&& 31))))) fun γ_9 => fGa_playBy_70 (fGa_playBy_31 N ρ n) N ρ (nI ru) (nI k) γ_9 Γ := fun n => by
      rw [fGa_playBy_31, hc, cl1_s, if_neg (nI_ge hlt (by omega))]
    by_cases c : ¬ ru = 1 ∧ rm (k + 2) 2 < rm (k + 2) 1
    · have e4 : matt rm ru (k + 1) = matt rm ru k ||| 2 ^ k := by rw [or_add hl, matt, if_pos c]
      obtain ⟨γ', a1, a2, a3⟩ := ih (k + 1) (sA γ 0 (upd (γ 0) 4 (nI (matt rm ru (k + 1))))) (by omega) (by rw [sA_s, upd_n _ _ (by decide)]; exact g3) (by rw [sA_s, upd_s])
      refine ⟨γ', a1, a2, fun n hn => ?_⟩
      obtain ⟨n', rfl⟩ : ∃ n', n = n' + 1 := ⟨n - 1, by omega⟩
      rw [gate, if_neg (show ¬ nI ru = (1 : Int32) from nI_neq (b := 1) (by omega) (by omega) c.1), Ro_goesOff hN hC N hlt, cl1_s, if_pos c.2, if_neg one0, nm_d, g4, (b_set _ (show matt rm ru k < 256 by omega) k (by omega)).1, ← e4, fGa_playBy_70, nm_d, nI_1]
      exact a3 n' (by omega)
    · have e4 : matt rm ru (k + 1) = matt rm ru k := by rw [matt, if_neg c, Nat.add_zero]
      obtain ⟨γ', a1, a2, a3⟩ := ih (k + 1) γ (by omega) g3 (by rw [g4, e4])
      refine ⟨γ', a1, a2, fun n hn => ?_⟩
      obtain ⟨n', rfl⟩ : ∃ n', n = n' + 1 := ⟨n - 1, by omega⟩
      have fin : fGa_playBy_70 (fGa_playBy_31 N ρ (n' + 1)) N ρ (nI ru) (nI k) γ Γ = some (γ', Γ) := by
        rw [fGa_playBy_70, nm_d, nI_1]
        exact a3 n' (by omega)
      rw [gate]
      by_cases h1 : ru = 1
      · rw [if_pos (show nI ru = (1 : Int32) by rw [h1]; rfl)]; exact fin
      · rw [if_neg (show ¬ nI ru = (1 : Int32) from nI_neq (b := 1) (by omega) (by omega) h1), Ro_goesOff hN hC N hlt, cl1_s, if_neg (fun z => c ⟨h1, z⟩), if_pos rfl]; exact fin
theorem play_ok {N : Nat} (hNN : 5000 ≤ N) {rm : Nat → Nat → Nat} {ρ γ : St} {Γ : Nat → Int64} (hN : rmN rm) (hC : RoomC rm ρ) (hG : GameR N rm γ Γ) {ru : Nat} (hru : ru < 5) : ∃ γ' Γ', fGa_playBy N (nI ru) ρ γ Γ = some (γ', Γ') ∧ GameOn N rm ru γ' Γ' := by
  have h08 : rm 0 0 ≤ 8 := hN.1
  unfold fGa_playBy
  by_cases h : γ 0 3 = nI ru
  · rw [if_pos h]
    rcases hG with hG | ⟨ru', r1, r2, r3, r4⟩
    · rw [h] at hG
      exact absurd hG (nI_nm1 (by omega))
    · have e : ru' = ru := nI_inj (by omega) (by omega) (r2.symm.trans h)
      subst e
      exact ⟨γ, Γ, rfl, h, r3, r4⟩
  · rw [if_neg h, nm_d, nm_d, nm_d]
    obtain ⟨n, hn⟩ : ∃ n, N = n + 1 := ⟨N - 1, by omega⟩
    obtain ⟨γ', a1, a2, a3⟩ := play_loop (N := N) hN hC hru (fillL Γ 256 (-1 : Int64)) (rm 0 0) 0 (sA (sA γ 0 (upd (γ 0) 3 (nI ru))) 0 (upd (sA γ 0 (upd (γ 0) 3 (nI ru)) 0) 4 (0 : Int32))) (by omega) (by rw [sA_s, upd_n _ _ (by decide), sA_s, upd_s]) (by rw [sA_s, upd_s]; rfl)
    have a := a3 n (by omega)
    rw [← hn] at a
    refine ⟨γ', _, a, a1, a2, fun s hs => Or.inl ?_⟩
    unfold fillL
    rw [if_pos hs]
theorem min_in {N : Nat} (hNN : 5000 ≤ N) {rm : Nat → Nat → Nat} {ρ γ σ0 : St} {Γ : Nat → Int64} (hN : rmN rm) (hC : RoomC rm ρ) (hM : RoomM rm 0 σ0) {ru : Nat} (hru : ru < 5) (hG : GameOn N rm ru γ Γ) {x i : Nat} (hx : x < 256) (hi : i < rm 0 0) (r0 : Nat) (δ : St) (dr : Nat) : ∃ v Γ' δ' dr', fGa_minutesIn N (nI x) (nI i) γ ρ r0 Γ δ dr = some (v, Γ', δ', dr') ∧ GameOn N rm ru γ Γ' ∧ ∀ σ σ', RoomM rm 0 σ → fMo_goes N (nI ru) (nI x) (nI 399) (nI (rm 0 2)) (nI (rm 0 3)) σ = some σ' → v = σ' 14 i := by
  have h08 : rm 0 0 ≤ 8 := hN.1
  obtain ⟨g3, g4, g5⟩ := hG
  have hl := matt_lt rm ru (rm 0 0)
  have hp := p2_256 h08
  have hle : x &&& matt rm ru (rm 0 0) ≤ x := Nat.and_le_left
  have hH := HCp_matt (rm := rm) (ru := ru) hx
  unfold fGa_minutesIn
  rw [nm_d, g4, nI_and (by omega) (by omega)]
  generalize hs : x &&& matt rm ru (rm 0 0) = s at hle hH ⊢
  rw [if_neg (nI_pos (by omega)), if_pos (show nI s < (256 : Int32) from nI_lt (b := 256) (by omega) (by omega)), gI_ok (by omega) (by decide), cl_nI (by omega)]
  have val : ∀ (Γ1 : Nat → Int64) (δ1 : St) (dr1 : Nat), GoodMin N rm ru s (Γ1 s) → ∃ v, fGa_minutesIn_74 N γ ρ r0 (nI i) (nI s) Γ1 δ1 dr1 = some (v, Γ1, δ1, dr1) ∧ ∀ σ σ', RoomM rm 0 σ → fMo_goes N (nI ru) (nI x) (nI 399) (nI (rm 0 2)) (nI (rm 0 3)) σ = some σ' → v = σ' 14 i := by
    intro Γ1 δ1 dr1 hg
    unfold fGa_minutesIn_74
    rw [gI_ok (by omega) (by decide), cl_nI (by omega)]
    exact ⟨_, rfl, fun σ σ' h1 h2 => hg σ x σ' h1 hH h2 i hi⟩
  by_cases h : lg_cmp (Γ s) (-1 : Int64) = 0
  · obtain ⟨δ1, δ', o1, o2, o3⟩ := game_day hNN hN hC hM hru (show s < 256 by omega) δ
    rw [if_pos h, g3, o1, cl1_s, show (399 : Int32) = nI 399 from rfl, o2, cl1_s, Da_packed (by omega), cl1_s, gI_ok (by omega) (by decide), nm_d]
    obtain ⟨v, v1, v2⟩ := val (vp_updL Γ s (pm δ' 8 0)) δ' r0 (by rw [pk_uLs]; exact o3)
    refine ⟨v, _, _, _, v1, ⟨g3, g4, fun t ht => ?_⟩, v2⟩
    by_cases e : t = s
    · rw [e, pk_uLs]; exact Or.inr o3
    · rw [pk_uLn e]; exact g5 t ht
  · rw [if_neg h]
    have hg : GoodMin N rm ru s (Γ s) := by
      rcases g5 s (by omega) with g | g
      · exact absurd ((lg_eq_0 _ _).mpr (by rw [g])) h
      · exact g
    obtain ⟨v, v1, v2⟩ := val Γ δ dr hg
    exact ⟨v, _, _, _, v1, ⟨g3, g4, g5⟩, v2⟩
/-- the minutes of each reader for each set, as any day of the reference says them -/
def Mins (N : Nat) (rm : Nat → Nat → Nat) (ru : Nat) (M : Nat → Nat → Int32) : Prop := ∀ x, x < 256 → ∀ i, i < rm 0 0 → ∀ σ σ', RoomM rm 0 σ → fMo_goes N (nI ru) (nI x) (nI 399) (nI (rm 0 2)) (nI (rm 0 3)) σ = some σ' → σ' 14 i = M x i
theorem mins_ex {N : Nat} (hNN : 5000 ≤ N) {rm : Nat → Nat → Nat} {ρ σ0 : St} (hN : rmN rm) (hC : RoomC rm ρ) (hM : RoomM rm 0 σ0) {ru : Nat} (hru : ru < 5) : ∃ M, Mins N rm ru M := by
  have h : ∀ x, ∃ v : Int64, x < 256 → GoodMin N rm ru x v := fun x => by
    by_cases hx : x < 256
    · obtain ⟨δ1, δ', _, _, o3⟩ := game_day hNN hN hC hM hru hx z0
      exact ⟨_, fun _ => o3⟩
    · exact ⟨0, fun z => absurd z hx⟩
  refine ⟨fun x i => ((((((h x).choose).toUInt64 >>> (((8 : Int32) * nI i).toInt64.toUInt64 &&& Int64.toUInt64 63)).toInt64).toInt32) &&& (255 : Int32)), fun x hx i hi σ σ' h1 h2 => ?_⟩
  exact ((h x).choose_spec hx σ x σ' h1 (HCp_same hx) h2 i hi).symm
def rsB (M : Nat → Nat → Int32) (x : Nat) : Nat → Nat → Bool
  | 0, _ => true
  | j + 1, i => decide (M (x ^^^ 2 ^ i) i ≤ M x i) && rsB M x j (i + 1)
theorem rest_c {N : Nat} (hNN : 5000 ≤ N) {rm : Nat → Nat → Nat} {ρ γ σ0 : St} (hN : rmN rm) (hC : RoomC rm ρ) (hM : RoomM rm 0 σ0) {ru : Nat} (hru : ru < 5) {M : Nat → Nat → Int32} (hMi : Mins N rm ru M) {x : Nat} (hx : x < 256) (r0 : Nat) : ∀ (j i : Nat), i + j = rm 0 0 → ∀ (Γ : Nat → Int64) (δ : St) (dr : Nat), GameOn N rm ru γ Γ → ∀ n, j ≤ n → ∃ Γ' δ' dr', fGa_isRest_2 N γ ρ r0 (n + 1) (nI x) (nI i) Γ δ dr = some (b2i (rsB M x j i), Γ', δ', dr') ∧ GameOn N rm ru γ Γ' := by
  have h08 : rm 0 0 ≤ 8 := hN.1
  have hc : fRo_readerCount N ρ = some (nI (rm 0 0)) := by unfold fRo_readerCount; rw [hC.2.1]
  have val : ∀ y, y < 256 → ∀ i, i < rm 0 0 → ∀ v, (∀ σ σ', RoomM rm 0 σ → fMo_goes N (nI ru) (nI y) (nI 399) (nI (rm 0 2)) (nI (rm 0 3)) σ = some σ' → v = σ' 14 i) → v = M y i := by
    intro y hy i hi v hv
    obtain ⟨_, _, σ', _, _, _, g3, _⟩ := go_sim hNN hN hC hM hy hru (show 399 < 400 by omega) z0
    rw [hv _ _ hM g3, hMi y hy i hi _ _ hM g3]
  intro j
  induction j with
  | zero =>
    intro i hi Γ δ dr hG n _
    rw [fGa_isRest_2, hc, cl1_s, if_pos (nI_le (by omega) (by omega))]
    exact ⟨_, _, _, rfl, hG⟩
  | succ j ih =>
    intro i hi Γ δ dr hG n hn
    obtain ⟨n', rfl⟩ : ∃ n', n = n' + 1 := ⟨n - 1, by omega⟩
    have hlt : i < rm 0 0 := by omega
    obtain ⟨bx1, bx2⟩ := b_xor x hx i (by omega)
    obtain ⟨v1, Γ1, δ1, dr1, a1, a2, a3⟩ := min_in hNN hN hC hM hru hG bx2 hlt r0 δ dr
    obtain ⟨v2, Γ2, δ2, dr2, b1, b2, b3⟩ := min_in hNN hN hC hM hru a2 hx hlt r0 δ1 dr1
    rw [fGa_isRest_2, hc, cl1_s, if_neg (nI_ge hlt (by omega)), bx1, a1, cl4_s, b1, cl4_s, val _ bx2 i hlt v1 a3, val _ hx i hlt v2 b3, rsB]
    by_cases h : M (x ^^^ 2 ^ i) i ≤ M x i
    · rw [if_pos h, nm_d, nI_1, decide_eq_true h, Bool.true_and]
      exact ih (i + 1) (by omega) Γ2 δ2 dr2 b2 n' (by omega)
    · rw [if_neg h, decide_eq_false h, Bool.false_and]
      exact ⟨_, _, _, rfl, b2⟩
theorem rest_m {N : Nat} (hNN : 5000 ≤ N) {rm : Nat → Nat → Nat} {ρ σ0 : St} (hN : rmN rm) (hC : RoomC rm ρ) (hM : RoomM rm 0 σ0) {ru : Nat} (hru : ru < 5) {M : Nat → Nat → Int32} (hMi : Mins N rm ru M) {x : Nat} (hx : x < 256) : ∀ (j i : Nat), i + j = rm 0 0 → ∀ (σ : St), KM σ0 σ → (∀ i, i < rm 0 0 → σ 26 i = M x i) → ∀ n, j ≤ n → ∃ σ', fMo_rest_78 N (n + 1) (nI ru) (nI x) (nI i) σ = some (b2i (rsB M x j i), σ') ∧ KM σ0 σ' := by
  have h08 : rm 0 0 ≤ 8 := hN.1
  intro j
  induction j with
  | zero =>
    intro i hi σ hK _ n _
    have hM' := hK.room hM
    rw [fMo_rest_78, gI0 (by decide) (by decide), cz0, hM'.2.1, if_pos (nI_le (by omega) (by omega))]
    exact ⟨_, rfl, hK⟩
  | succ j ih =>
    intro i hi σ hK h26 n hn
    obtain ⟨n', rfl⟩ : ∃ n', n = n' + 1 := ⟨n - 1, by omega⟩
    have hM' := hK.room hM
    have hlt : i < rm 0 0 := by omega
    obtain ⟨bx1, bx2⟩ := b_xor x hx i (by omega)
    obtain ⟨_, _, σ', _, _, _, g3, g4⟩ := go_sim hNN hN hC hM' bx2 hru (show 399 < 400 by omega) z0
    have e26 : σ' 26 = σ 26 := g4.fm.1 26 (by decide)
    rw [fMo_rest_78, gI0 (by decide) (by decide), cz0, hM'.2.1, if_neg (nI_ge hlt (by omega)), gI0 (by decide) (by decide), gI1 (by decide) (by decide), cz1, hM'.card, hM'.port, bx1, show (399 : Int32) = nI 399 from rfl, g3, cl1_s, gI_ok (by omega) (by decide), gI_ok (by omega) (by decide), cl_nI (by omega), e26, h26 i hlt, hMi _ bx2 i hlt _ _ hM' g3, rsB]
    by_cases h : M (x ^^^ 2 ^ i) i ≤ M x i
    · rw [if_pos h, nm_d, nI_1, decide_eq_true h, Bool.true_and]
      exact ih (i + 1) (by omega) σ' (hK.tr g4.fm.km) (fun k hk => by rw [e26]; exact h26 k hk) n' (by omega)
    · rw [if_neg h, decide_eq_false h, Bool.false_and]
      exact ⟨_, rfl, hK.tr g4.fm.km⟩
theorem rest_copy (N : Nat) (v1 v2 : Int32) {σ0 : St} : ∀ (j k : Nat) (σ : St), k + j = 8 → KM σ0 σ → (∀ i, i < k → σ 26 i = σ 14 i) → ∃ σ', KM σ0 σ' ∧ (∀ i, i < 8 → σ' 26 i = σ 14 i) ∧ ∀ n, j ≤ n → fMo_rest_52 N (n + 1) v1 v2 (nI k) σ = fMo_rest_78 N N v1 v2 (0 : Int32) σ' := by
  intro j
  induction j with
  | zero =>
    intro k σ hk hK h
    have : k = 8 := by omega
    subst this
    refine ⟨σ, hK, h, fun n _ => ?_⟩
    rw [fMo_rest_52, if_pos (show (8 : Int32) ≤ nI 8 by decide)]
  | succ j ih =>
    intro k σ hk hK h
    obtain ⟨σ', a1, a2, a3⟩ := ih (k + 1) (sA σ 26 (upd (σ 26) k (σ 14 k))) (by omega) (KM.arr 26 (by decide) hK) (fun i hi => by
      rw [sA_s, sA_n _ _ (by decide)]
      by_cases e : i = k
      · rw [e, upd_s]
      · rw [upd_n _ _ e]; exact h i (by omega))
    refine ⟨σ', a1, fun i hi => by rw [a2 i hi, sA_n _ _ (by decide)], fun n hn => ?_⟩
    obtain ⟨n', rfl⟩ : ∃ n', n = n' + 1 := ⟨n - 1, by omega⟩
    rw [fMo_rest_52, if_neg (show ¬ (8 : Int32) ≤ nI k from nI_ge (b := 8) (by omega) (by omega)), gI_ok (by omega) (by decide), gI_ok (by omega) (by decide), nm_d, nm_d, cl_nI (by omega), nI_1]
    exact a3 n' (by omega)
theorem P_rest {N : Nat} (hNN : 5000 ≤ N) {μ ς τ ε γ : St} {Γ : Nat → Int64} {δ ρ σ : St} {Λ : Nat → Int64} {dr r0 : Nat} (hR : Rel N μ τ γ Γ ρ σ) (a0 : Int32) (a1 : Int32) : ∃ (r : Int32) (γ' : St) (Γ' : Nat → Int64) (δ' : St) (dr' : Nat) (σ' : St), fMa_rest N a0 a1 ρ r0 γ Γ δ dr = some (r, γ', Γ', δ', dr') ∧ fMo_rest N a0 a1 σ = some (r, σ') ∧ Rel N μ τ γ' Γ' ρ σ' := by
  have hR' := hR
  obtain ⟨rm, h, kp, len, hN, hC, hM, hT, hH, hG⟩ := hR'
  have h08 : rm 0 0 ≤ 8 := hN.1
  have hp := p2_256 h08
  have hp0 : 0 < 2 ^ rm 0 0 := Nat.pow_pos (by decide)
  have ev : fRo_everybody N ρ = some (nI (2 ^ rm 0 0 - 1)) := by
    unfold fRo_everybody
    rw [hC.2.1, ev_ok _ (by omega)]
  unfold fMa_rest fMo_rest
  rcases wiRule N a0 with ⟨ru, hru, e0, u1, u2⟩ | ⟨u1, u2⟩
  rotate_left
  · rw [u1, u2, cl1_s, cl1_s, if_pos rfl, if_pos rfl]; exact ⟨_, _, _, _, _, _, rfl, rfl, hR⟩
  rw [u1, u2, cl1_s, cl1_s, if_neg one0, if_neg one0, ev, cl1_s, gI0 (by decide) (by decide), cz0, hM.2.1, ev_ok _ (by omega)]
  rcases wi N a1 0 (nI (2 ^ rm 0 0 - 1)) 0 (nI (2 ^ rm 0 0 - 1)).toInt64 0 ((2 ^ rm 0 0 - 1 : Nat) : Int) (by decide) (nI_toInt (by omega)) (by decide) (by rw [Int32.toInt_toInt64]; exact nI_toInt (by omega)) (by omega) with ⟨x, x1, x2, x3, x4, x5⟩ | ⟨w4, w5⟩
  rotate_left
  · rw [w4, w5, cl1_s, cl1_s, if_pos rfl, if_pos rfl]; exact ⟨_, _, _, _, _, _, rfl, rfl, hR⟩
  rw [x4, x5, cl1_s, cl1_s, if_neg one0, if_neg one0, e0, x3]
  have hx : x < 256 := by omega
  obtain ⟨M, hMi⟩ := mins_ex hNN hN hC hM hru
  obtain ⟨γ1, Γ1, p1, p2⟩ := play_ok hNN hN hC hG hru
  obtain ⟨n, hn⟩ : ∃ n, N = n + 1 := ⟨N - 1, by omega⟩
  obtain ⟨Γ2, δ2, dr2, c1, c2⟩ := rest_c hNN hN hC hM hru hMi hx r0 (rm 0 0) 0 (by omega) Γ1 δ dr p2 n (by omega)
  rw [← hn] at c1
  obtain ⟨_, _, σ1, _, _, _, g3, g4⟩ := go_sim hNN hN hC hM hx hru (show 399 < 400 by omega) z0
  obtain ⟨σ2, k1, k2, k3⟩ := rest_copy N (nI ru) (nI x) 8 0 σ1 (by omega) g4.fm.km (fun i hi => absurd hi (by omega))
  have k3' := k3 n (by omega)
  rw [← hn] at k3'
  obtain ⟨σ3, m1, m2⟩ := rest_m hNN hN hC hM hru hMi hx (rm 0 0) 0 (by omega) σ2 k1 (fun i hi => by rw [k2 i (by omega), hMi x hx i hi _ _ hM g3]) n (by omega)
  rw [← hn] at m1
  have c1' : fGa_isRest N (nI x) γ1 ρ r0 Γ1 δ dr = some (b2i (rsB M x (rm 0 0) 0), Γ2, δ2, dr2) := c1
  have m1' : fMo_rest_78 N N (nI ru) (nI x) (0 : Int32) σ2 = some (b2i (rsB M x (rm 0 0) 0), σ3) := m1
  have k3'' : fMo_rest_52 N N (nI ru) (nI x) (0 : Int32) σ1 = fMo_rest_78 N N (nI ru) (nI x) (0 : Int32) σ2 := k3'
  rw [p1, cl2_s, c1', cl4_s, gI0 (by decide) (by decide), gI1 (by decide) (by decide), cz1, hM.card, hM.port, show (399 : Int32) = nI 399 from rfl, g3, cl1_s, k3'', m1']
  have hRel : Rel N μ τ γ1 Γ2 ρ σ3 := Rel.km ⟨rm, h, kp, len, hN, hC, hM, hT, hH, Or.inr ⟨ru, hru, c2⟩⟩ m2
  cases rsB M x (rm 0 0) 0 with
  | true => rw [if_neg (show ¬ b2i true = 0 by decide)]; exact ⟨_, _, _, _, _, _, rfl, rfl, hRel⟩
  | false => rw [if_pos b2i_f]; exact ⟨_, _, _, _, _, _, rfl, rfl, hRel⟩
