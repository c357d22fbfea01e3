def HCp (rm : Nat → Nat → Nat) (ru hm hc : Nat) : Prop := hm < 256 ∧ hc < 256 ∧ ∀ i, i < rm 0 0 → rm (i + 2) 2 < rm (i + 2) 1 → hc / 2 ^ i % 2 = hb ru hm i
theorem hb_lt (ru hm i : Nat) : hb ru hm i < 2 := by
  unfold hb
  split <;> omega
theorem thr_eq {hc q k b : Nat} (hc8 : hc < 256) (hq : q < 256) (hk : k < 8) (hb2 : b < 2) (e : hc / 2 ^ k % 2 = b) :
    ∃ z, z < 256 ∧ (nI q ||| (nI hc &&& ((1 : Int32) <<< (nI k &&& 31)))) = nI z ∧ (nI q ||| (if nI b = 0 then 0 else (1 : Int32) <<< (nI k &&& 31))) = nI z := by
  rw [b_one hc hc8 k hk, e]
  rcases (show b = 0 ∨ b = 1 by omega) with rfl | rfl
  · refine ⟨q, hq, ?_, ?_⟩
    · rw [if_neg (by decide), or0]
    · rw [if_pos (by decide), or0]
  · obtain ⟨g1, g2⟩ := b_set q hq k hk
    refine ⟨q ||| 2 ^ k, g2, ?_, ?_⟩
    · rw [if_pos rfl, g1]
    · rw [if_neg (by decide), g1]
section DAY
variable {rm : Nat → Nat → Nat} {ru hm hc ca po t : Nat} {lt : Nat → Nat} {σ0 : St} {rn us : Int32} {f8 f25 : Nat → Int32} {pend : Nat → Bool} {δ σ ρ : St}
/-- a reader that is off: it goes off at all -/
theorem DR.off (h : DR rm ru hm hc ca po t lt σ0 rn us f8 f25 pend δ σ) {k : Nat} (hk : k < rm 0 0) (e : δ 1 k = 3) : rm (k + 2) 2 < rm (k + 2) 1 := by
  obtain ⟨⟨-, -, q, -, -, -, b6, b7⟩, -⟩ := h.2.2.1 k hk
  have := b7 e
  rcases b6 with b6 | b6
  · rw [e] at b6; cases b6
  · omega
theorem st1 (hN : rmN rm) (hC : RoomC rm ρ) (hM : RoomM rm 0 σ0) (hH : HCp rm ru hm hc) (N : Nat) (v2 v4 v5 : Int32) : ∀ k δ σ, k < rm 0 0 → DR rm ru hm hc ca po t lt σ0 rn us f8 f25 (fun _ => false) δ σ →
    ∃ δ1 σ1, DR rm ru hm hc ca po t lt σ0 rn us f8 f25 (fun _ => false) δ1 σ1 ∧ (∀ n, fDa_comeBack_2 N ρ (n + 1) (nI t) (nI k) δ = fDa_comeBack_2 N ρ n (nI t) (nI (k + 1)) δ1) ∧ (∀ n, fMo_minute_3 N (n + 1) (nI ru) v2 (nI t) v4 v5 (nI k) σ = fMo_minute_3 N n (nI ru) v2 (nI t) v4 v5 (nI (k + 1)) σ1) := by
  intro k δ σ hk h
  have h08 := hN.1
  have h10 := hN.2.1
  have hk8 : k < 8 := by omega
  obtain ⟨e12, hRS⟩ := h.st hk rfl
  have hM' := h.1.room hM
  have dl : ¬ δ 0 9 ≤ nI k := by rw [h.2.1.1]; exact nI_ge hk (by omega)
  have ml : ¬ σ 5 0 ≤ nI k := by rw [hM'.2.1]; exact nI_ge hk (by omega)
  have g8 : ∀ x : Option St, gI (nI k) 8 x = x := fun x => gI_ok hk8 (by decide) x
  have g2 : ∀ x : Option St, gI (0 : Int32) 2 x = x := fun x => gI_ok (k := 0) (by decide) (by decide) x
  have c8 : (nI k).toNatClampNeg = k := cl_nI (by omega)
  have c0 : (0 : Int32).toNatClampNeg = 0 := sb_cl0
  have hn3 : fRo_number N (nI k) (3 : Int32) ρ = some (nI (rm (k + 2) 3)) := Ro_number hN hC N hk (w := 3) (by decide)
  have hm3 : fMo_of N (nI k) (3 : Int32) σ = some (nI (rm (k + 2) 3)) := Mo_of hN hM' N hk (w := 3) (by decide)
  have stay : (¬ (δ 1 k = 3 ∧ nI t - δ 3 k = nI (rm (k + 2) 3))) → ∃ δ1 σ1, DR rm ru hm hc ca po t lt σ0 rn us f8 f25 (fun _ => false) δ1 σ1 ∧ (∀ n, fDa_comeBack_2 N ρ (n + 1) (nI t) (nI k) δ = fDa_comeBack_2 N ρ n (nI t) (nI (k + 1)) δ1) ∧ (∀ n, fMo_minute_3 N (n + 1) (nI ru) v2 (nI t) v4 v5 (nI k) σ = fMo_minute_3 N n (nI ru) v2 (nI t) v4 v5 (nI (k + 1)) σ1) := by
    intro hne
    refine ⟨δ, σ, h, fun n => ?_, fun n => ?_⟩
    · by_cases c1 : δ 1 k = 3
      · have c2 : ¬ nI t - δ 3 k = nI (rm (k + 2) 3) := fun z => hne ⟨c1, z⟩
        simp only [fDa_comeBack_2, dl, c1, c2, ↓reduceIte, g8, c8, hn3, cl1_s, fDa_comeBack_99, nm_d, nI_1]
      · simp only [fDa_comeBack_2, dl, c1, ↓reduceIte, g8, c8, fDa_comeBack_99, nm_d, nI_1]
    · by_cases c1 : δ 1 k = 3
      · have c2 : ¬ nI t - δ 3 k = nI (rm (k + 2) 3) := fun z => hne ⟨c1, z⟩
        obtain ⟨-, ⟨w, -, w1, w2⟩, -⟩ := hRS.three c1
        have c2' : ¬ nI t - σ 16 k = nI (rm (k + 2) 3) := by rw [w2, ← w1]; exact c2
        have c1' : σ 12 k = 3 := e12 ▸ c1
        simp only [fMo_minute_3, g2, c0, ml, c1', c2', ↓reduceIte, g8, c8, hm3, cl1_s, fMo_minute_51, nm_d, nI_1]
      · have c1' : ¬ σ 12 k = 3 := e12 ▸ c1
        simp only [fMo_minute_3, g2, c0, ml, c1', ↓reduceIte, g8, c8, fMo_minute_51, nm_d, nI_1]
  by_cases c1 : δ 1 k = 3
  · by_cases c2 : nI t - δ 3 k = nI (rm (k + 2) 3)
    · obtain ⟨⟨p, hp, p1, p2⟩, ⟨w, -, w1, w2⟩, hheld⟩ := hRS.three c1
      have c2' : nI t - σ 16 k = nI (rm (k + 2) 3) := by rw [w2, ← w1]; exact c2
      have c1' : σ 12 k = 3 := e12 ▸ c1
      have hp10 : p < 10 := by omega
      obtain ⟨s1, s2, -, -⟩ := h.2.2.2.1 p hp
      by_cases c3 : σ 20 p = nI k
      · refine ⟨sitD δ k p, bsM σ k p, h.bsit hN hk rfl c1 hp p1 p2, fun n => ?_, fun n => ?_⟩
        · have c3' : δ 7 p = nI k := by rw [s2]; exact c3
          simp only [fDa_comeBack_2, dl, c1, c2, ↓reduceIte, g8, c8, hn3, cl1_s, nm_d, p1, Da_holderOf N hp10, c3', Da_sitDown N hk8 hp10, fDa_comeBack_99, nI_1]
        · simp only [fMo_minute_3, g2, c0, ml, c1', c2', ↓reduceIte, g8, c8, hm3, cl1_s, Mo_comesBack_sit N hk8 hp10 (nI t) p2 c3, fMo_minute_51, nm_d, nI_1]
      · obtain ⟨a1, a2, a3, a4, a5, a6, a7, a8, a9, q, hq, q1, q2⟩ := h.2.1
        obtain ⟨z, hz, z1, z2⟩ := thr_eq hH.2.1 hq hk8 (hb_lt ru hm k) (hH.2.2 k hk (h.off hk c1))
        refine ⟨bkD δ k (nI t) (δ 0 19 ||| (δ 0 12 &&& ((1 : Int32) <<< (nI k &&& 31)))), bkM σ k (nI t) (σ 0 23 ||| (if σ 17 k = 0 then 0 else (1 : Int32) <<< (nI k &&& 31))), h.bseek hN hk rfl c1 hp p1 c3 ⟨z, hz, by rw [q1, a4]; exact z1, by rw [q2, hheld]; exact z2⟩, fun n => ?_, fun n => ?_⟩
        · have c3' : ¬ δ 7 p = nI k := by rw [s2]; exact c3
          simp only [fDa_comeBack_2, dl, c1, c2, ↓reduceIte, g8, c8, hn3, cl1_s, nm_d, p1, Da_holderOf N hp10, c3', fDa_comeBack_99, nI_1]
          rfl
        · simp only [fMo_minute_3, g2, c0, ml, c1', c2', ↓reduceIte, g8, c8, hm3, cl1_s, Mo_comesBack_seek N hk8 hp10 (nI t) p2 c3, fMo_minute_51, nm_d, nI_1]
    · exact stay fun z => c2 z.2
  · exact stay fun z => c1 z.1
theorem ph1 (hN : rmN rm) (hC : RoomC rm ρ) (hM : RoomM rm 0 σ0) (hH : HCp rm ru hm hc) {N : Nat} (hNN : 100 ≤ N) (v2 v4 v5 : Int32) (h : DR rm ru hm hc ca po t lt σ0 rn us f8 f25 (fun _ => false) δ σ) :
    ∃ δ' σ', DR rm ru hm hc ca po t lt σ0 rn us f8 f25 (fun _ => false) δ' σ' ∧ fDa_comeBack N (nI t) ρ δ = some δ' ∧ fMo_minute N (nI ru) v2 (nI t) v4 v5 σ = cl1 (fMo_frees N (nI ru) (nI t) v4 v5 σ') (fun σ_43 => fMo_minute_70 N N (nI ru) v2 (nI t) (0 : Int32) σ_43) := by
  have h08 := hN.1
  obtain ⟨δ', σ', h', g1, g2⟩ := lock (G := fun _ => DR rm ru hm hc ca po t lt σ0 rn us f8 f25 (fun _ => false)) (F1 := fun n k δ => fDa_comeBack_2 N ρ n (nI t) (nI k) δ) (F2 := fun n k σ => fMo_minute_3 N n (nI ru) v2 (nI t) v4 v5 (nI k) σ) (rm 0 0) (st1 hN hC hM hH N v2 v4 v5) (rm 0 0) 0 δ σ (by omega) h
  refine ⟨δ', σ', h', ?_, ?_⟩
  · have e := g1 (N - rm 0 0 - 1 + 1)
    rw [show N - rm 0 0 - 1 + 1 + rm 0 0 = N by omega] at e
    refine e.trans ?_
    have dl : δ' 0 9 ≤ nI (rm 0 0) := by rw [h'.2.1.1]; exact nI_le (Nat.le_refl _) (by omega)
    simp only [fDa_comeBack_2, dl, ↓reduceIte]
  · have e := g2 (N - rm 0 0 - 1 + 1)
    rw [show N - rm 0 0 - 1 + 1 + rm 0 0 = N by omega] at e
    refine e.trans ?_
    have ml : σ' 5 0 ≤ nI (rm 0 0) := by rw [(h'.1.room hM).2.1]; exact nI_le (Nat.le_refl _) (by omega)
    have g2 : ∀ x : Option St, gI (0 : Int32) 2 x = x := fun x => gI_ok (k := 0) (by decide) (by decide) x
    have c0 : (0 : Int32).toNatClampNeg = 0 := sb_cl0
    simp only [fMo_minute_3, g2, c0, ml, ↓reduceIte]
end DAY
