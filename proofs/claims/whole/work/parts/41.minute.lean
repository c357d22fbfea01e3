def scN (f : Nat → Int32) : Nat → Nat
  | 0 => 0
  | n + 1 => scN f n + (if f n = -1 then 0 else 1)
theorem scN_le (f : Nat → Int32) : ∀ n, scN f n ≤ n
  | 0 => Nat.le_refl 0
  | n + 1 => by
    have := scN_le f n
    unfold scN
    split <;> omega
def sumI (f : Nat → Int32) : Nat → Int32
  | 0 => 0
  | n + 1 => sumI f n + f n
theorem sumI_cong {f g : Nat → Int32} : ∀ {n : Nat}, (∀ i, i < n → f i = g i) → sumI f n = sumI g n
  | 0, _ => rfl
  | n + 1, h => by
    unfold sumI
    rw [sumI_cong (fun i hi => h i (by omega)), h n (by omega)]
def finM (σ : St) (t : Nat) (v : Int32) : St := sA (sA σ 25 (upd (σ 25) t v)) 0 (upd (σ 0) 20 (σ 0 20 + v))
section DAY
variable {rm : Nat → Nat → Nat} {ru hm hc ca po t : Nat} {lt : Nat → Nat} {σ0 : St} {rn us : Int32} {f8 f25 : Nat → Int32} {pend pend' : Nat → Bool} {δ σ ρ : St}
theorem DR.emp (h : DR rm ru hm hc ca po t lt σ0 rn us f8 f25 pend δ σ) (x : Int32) : DR rm ru hm hc ca po t lt σ0 rn us f8 f25 pend (sA δ 0 (upd (δ 0) 17 x)) (sA σ 0 (upd (σ 0) 21 x)) := by
  obtain ⟨hF, hC, hR, hS, h15, h8, h25, h20⟩ := h
  obtain ⟨a1, a2, a3, a4, a5, a6, a7, a8, a9, a10⟩ := hC
  exact ⟨hF.int 21 (by decide), ⟨a1, a2, a3, a4, a5, a6, a7, rfl, a9, a10⟩, hR, hS, h15, h8, h25, h20⟩
theorem DR.finM (h : DR rm ru hm hc ca po t lt σ0 rn us f8 f25 pend δ σ) (v : Int32) : DR rm ru hm hc ca po t lt σ0 rn (us + v) f8 (upd f25 t v) pend δ (finM σ t v) := by
  obtain ⟨hF, hC, hR, hS, h15, h8, h25, h20⟩ := h
  refine ⟨(hF.arr 25 (by decide) (by decide)).int 20 (by decide), hC, hR, hS, h15, h8, ?_, ?_⟩
  · show upd (σ 25) t v = _
    rw [h25]
  · show upd (σ 0) 20 (σ 0 20 + v) 20 = _
    rw [upd_s, h20]
theorem DR.finD (h : DR rm ru hm hc ca po t lt σ0 rn us f8 f25 pend δ σ) (v : Int32) : DR rm ru hm hc ca po t lt σ0 rn us (upd f8 t v) f25 pend (sA δ 8 (upd (δ 8) t v)) σ := by
  obtain ⟨hF, hC, hR, hS, h15, h8, h25, h20⟩ := h
  refine ⟨hF, hC, hR, hS, h15, ?_, h25, h20⟩
  show upd (δ 8) t v = _
  rw [h8]
theorem DR.ran (h : DR rm ru hm hc ca po t lt σ0 rn us f8 f25 pend δ σ) (v : Int32) : DR rm ru hm hc ca po t lt σ0 v us f8 f25 pend (sA δ 0 (upd (δ 0) 15 v)) σ := by
  obtain ⟨hF, hC, hR, hS, h15, h8, h25, h20⟩ := h
  exact ⟨hF, hC, hR, hS, rfl, h8, h25, h20⟩
theorem DR.mono (h : DR rm ru hm hc ca po t lt σ0 rn us f8 f25 (fun _ => false) δ σ) : DR rm ru hm hc ca po (t + 1) lt σ0 rn us f8 f25 (fun _ => false) δ σ := by
  obtain ⟨hF, hC, hR, hS⟩ := h
  refine ⟨hF, hC, fun i hi => ?_, hS⟩
  obtain ⟨h1, h2⟩ := hR i hi
  refine ⟨h1, ?_⟩
  rcases h2 with ⟨z, -⟩ | ⟨z1, z2, z3⟩
  · cases z
  · refine Or.inr ⟨z1, z2, ?_⟩
    rcases z3 with z | z | z | ⟨y1, y2, ⟨w, hw, w1⟩, y4⟩ | z
    · exact Or.inl z
    · exact Or.inr (Or.inl z)
    · exact Or.inr (Or.inr (Or.inl z))
    · exact Or.inr (Or.inr (Or.inr (Or.inl ⟨y1, y2, ⟨w, by omega, w1⟩, y4⟩)))
    · exact Or.inr (Or.inr (Or.inr (Or.inr z)))
theorem ph5 (hN : rmN rm) (hM : RoomM rm 0 σ0) {N : Nat} (hNN : 100 ≤ N) (ht : t < 400) (h : DR rm ru hm hc ca po t lt σ0 rn us f8 f25 (fun _ => false) δ σ) :
    ∃ δ' σ' c, c ≤ 10 ∧ DR rm ru hm hc ca po t lt σ0 rn (us + nI c) (upd f8 t (nI c)) (upd f25 t (nI c)) (fun _ => false) δ' σ' ∧ fDa_countSeats N (nI t) δ = some δ' ∧ fMo_minute_217 N N (nI t) (0 : Int32) (0 : Int32) σ = some σ' := by
  have h10 := hN.2.1
  have h08 := hN.1
  have g2 : ∀ x : Option St, gI (0 : Int32) 2 x = x := fun x => gI_ok (k := 0) (by decide) (by decide) x
  obtain ⟨δ', σ', ⟨h', -⟩, q1, q2⟩ := lock (G := fun _ δ1 σ1 => DR rm ru hm hc ca po t lt σ0 rn us f8 f25 (fun _ => false) δ1 σ1 ∧ δ1 6 = δ 6) (F1 := fun n k δ1 => fDa_countSeats_4 N n (nI t) (nI (scN (δ 6) k)) (nI k) δ1) (F2 := fun n k σ1 => fMo_minute_217 N n (nI t) (nI (scN (δ 6) k)) (nI k) σ1) (rm 0 1) (fun k δ1 σ1 hk hh => by
    obtain ⟨h, h6⟩ := hh
    have hM' := h.1.room hM
    have dl : ¬ δ1 0 10 ≤ nI k := by rw [h.2.1.2.1]; exact nI_ge hk (by omega)
    have ml : ¬ σ1 4 0 ≤ nI k := by rw [hM'.1]; exact nI_ge hk (by omega)
    have g10 : ∀ x : Option St, gI (nI k) 10 x = x := fun x => gI_ok (by omega) (by decide) x
    have ck : (nI k).toNatClampNeg = k := cl_nI (by omega)
    have a8 : δ1 0 17 = σ1 0 21 := h.2.1.2.2.2.2.2.2.2.1
    have hsc := scN_le (δ 6) k
    -- what is added to the empty ones
    have key : ∃ x : Int32, (∀ n c, fDa_countSeats_28 (fDa_countSeats_4 N n) N (nI t) (nI k) (nI (scN (δ 6) k)) (nI c) δ1 = fDa_countSeats_4 N n (nI t) (nI (scN (δ 6) k + c)) (nI (k + 1)) (sA δ1 0 (upd (δ1 0) 17 x))) ∧ (∀ n c, fMo_minute_245 (fMo_minute_217 N n) N (nI t) (nI k) (nI (scN (δ 6) k)) (nI c) σ1 = fMo_minute_217 N n (nI t) (nI (scN (δ 6) k + c)) (nI (k + 1)) (sA σ1 0 (upd (σ1 0) 21 x))) := by
      rcases h.held hk with ⟨c2, c2'⟩ | ⟨i, hi, c2, c2', -⟩
      · refine ⟨δ1 0 17 + 0, fun n c => ?_, fun n c => ?_⟩
        · rw [fDa_countSeats_28, nm_d, g10, ck, if_pos c2, fDa_countSeats_50, nm_d, nm_d, nI_1, nI_add]
        · rw [fMo_minute_245, nm_d, g10, ck, c2', if_pos m1_neg, fMo_minute_268, nm_d, nm_d, nI_1, nI_add, a8]
      · refine ⟨δ1 0 17 + 1, fun n c => ?_, fun n c => ?_⟩
        · rw [fDa_countSeats_28, nm_d, g10, ck, c2, if_neg (nI_nm1 (by omega)), fDa_countSeats_50, nm_d, nm_d, nI_1, nI_add]
        · rw [fMo_minute_245, nm_d, g10, ck, c2', if_neg (nI_pos (by omega)), fMo_minute_268, nm_d, nm_d, nI_1, nI_add, a8]
    obtain ⟨x, k1, k2⟩ := key
    refine ⟨sA δ1 0 (upd (δ1 0) 17 x), sA σ1 0 (upd (σ1 0) 21 x), ⟨h.emp x, h6⟩, fun n => ?_, fun n => ?_⟩
    · rw [fDa_countSeats_4, if_neg dl, g10, ck]
      by_cases c1 : δ1 6 k = -1
      · have e : scN (δ 6) (k + 1) = scN (δ 6) k + 0 := by rw [scN, ← h6, if_pos c1]
        rw [if_pos c1, e]
        exact k1 n 0
      · have e : scN (δ 6) (k + 1) = scN (δ 6) k + 1 := by rw [scN, ← h6, if_neg c1]
        rw [if_neg c1, e]
        exact k1 n 1
    · rw [fMo_minute_217, g2, sb_cl0, if_neg ml, g10, ck]
      rcases h.sits hN hk with ⟨c1, c1'⟩ | ⟨c1, c1'⟩
      · have e : scN (δ 6) (k + 1) = scN (δ 6) k + 0 := by rw [scN, ← h6, if_pos c1]
        rw [c1', if_pos m1_neg, e]
        exact k2 n 0
      · have e : scN (δ 6) (k + 1) = scN (δ 6) k + 1 := by rw [scN, ← h6, if_neg c1]
        have n1 : ¬ σ1 19 k < 0 := by
          intro z
          have z1 := Int32.lt_iff_toInt_lt.mp z
          have z2 := Int32.le_iff_toInt_le.mp c1'
          omega
        rw [if_neg n1, e]
        exact k2 n 1) (rm 0 1) 0 δ σ (by omega) ⟨h, rfl⟩
  have hsc := scN_le (δ 6) (rm 0 1)
  refine ⟨sA δ' 8 (upd (δ' 8) t (nI (scN (δ 6) (rm 0 1)))), finM σ' t (nI (scN (δ 6) (rm 0 1))), scN (δ 6) (rm 0 1), by omega, (h'.finM _).finD _, ?_, ?_⟩
  · have e := q1 (N - rm 0 1 - 1 + 1)
    rw [show N - rm 0 1 - 1 + 1 + rm 0 1 = N by omega] at e
    refine e.trans ?_
    have dl : δ' 0 10 ≤ nI (rm 0 1) := by rw [h'.2.1.2.1]; exact nI_le (Nat.le_refl _) (by omega)
    show fDa_countSeats_4 N (N - rm 0 1 - 1 + 1) (nI t) (nI (scN (δ 6) (rm 0 1))) (nI (rm 0 1)) δ' = _
    rw [fDa_countSeats_4, if_pos dl, gI_ok ht (by decide), cl_nI (by omega), nm_d]
  · have e := q2 (N - rm 0 1 - 1 + 1)
    rw [show N - rm 0 1 - 1 + 1 + rm 0 1 = N by omega] at e
    refine e.trans ?_
    have ml : σ' 4 0 ≤ nI (rm 0 1) := by rw [(h'.1.room hM).1]; exact nI_le (Nat.le_refl _) (by omega)
    show fMo_minute_217 N (N - rm 0 1 - 1 + 1) (nI t) (nI (scN (δ 6) (rm 0 1))) (nI (rm 0 1)) σ' = _
    rw [fMo_minute_217, g2, sb_cl0, if_pos ml, gI_ok ht (by decide), cl_nI (by omega), nm_d, nm_d]
    rfl
theorem minute_sim (hN : rmN rm) (hC : RoomC rm ρ) (hM : RoomM rm 0 σ0) (hH : HCp rm ru hm hc) {N : Nat} (hNN : 100 ≤ N) (hru : ru < 5) (ht : t < 400) (h0 : 0 < po) (hp : po < 100) (hlt : ∀ i, i < rm 0 0 → lt i ≤ 30) (h : DR rm ru hm hc ca po t lt σ0 rn us f8 f25 (fun _ => false) δ σ) :
    ∃ δ1 δ2 δ3 δ4 δ5 σ' c, c ≤ 10 ∧ DR rm ru hm hc ca po t lt σ0 rn (us + nI c) (upd f8 t (nI c)) (upd f25 t (nI c)) (fun _ => false) δ5 σ' ∧ fDa_comeBack N (nI t) ρ δ = some δ1 ∧ fDa_freeHeld N (nI t) ρ δ1 = some δ2 ∧ fDa_seekSeats N (nI t) ρ δ2 = some δ3 ∧ fDa_sitOn N (nI t) ρ δ3 = some δ4 ∧ fDa_countSeats N (nI t) δ4 = some δ5 ∧ fMo_minute N (nI ru) (nI hm) (nI t) (nI ca) (nI po) σ = some σ' := by
  obtain ⟨δ1, σ1, h1, d1, m1⟩ := ph1 hN hC hM hH hNN (nI hm) (nI ca) (nI po) h
  obtain ⟨δ2, σ2, h2, d2, m2⟩ := ph2 hN hC hM hNN hru ht h0 hp h1
  obtain ⟨σ3, h3, m3⟩ := ph3a hN hM hNN hlt ht (nI ru) (nI hm) h2
  obtain ⟨δ3, σ4, h4, d3, m4⟩ := ph3b hN hC hM hNN hru hlt ht (nI hm) h3
  obtain ⟨δ4, σ5, h5, d4, m5⟩ := ph4 hN hC hM hH hNN hru h4
  obtain ⟨δ5, σ6, c, hc10, h6, d5, m6⟩ := ph5 hN hM hNN ht h5
  refine ⟨δ1, δ2, δ3, δ4, δ5, σ6, c, hc10, h6, d1, d2, d3, d4, d5, ?_⟩
  rw [m1, m2, cl1_s, m3, m4, m5, m6]
end DAY
