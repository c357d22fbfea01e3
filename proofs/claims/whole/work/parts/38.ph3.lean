def takeM (σ : St) (k s : Nat) : St := sA (sA (sA (sA σ 20 (upd (σ 20) s (-1))) 19 (upd (σ 19) s (nI k))) 13 (upd (σ 13) k (nI s))) 12 (upd (σ 12) k 2)
def shutD (δ : St) (k : Nat) : St := sA (sA (sA δ 1 (upd (δ 1) k 4)) 0 (upd (δ 0) 16 (δ 0 16 - 1))) 0 (upd (upd (δ 0) 16 (δ 0 16 - 1)) 18 (δ 0 18 ||| ((1 : Int32) <<< (nI k &&& 31))))
def shutM (σ : St) (k : Nat) : St := sA (sA σ 12 (upd (σ 12) k 4)) 0 (upd (σ 0) 22 (σ 0 22 ||| ((1 : Int32) <<< (nI k &&& 31))))
def arrM (σ : St) (k t : Nat) : St := sA (sA σ 12 (upd (σ 12) k 1)) 15 (upd (σ 15) k (nI t))
def arrD (δ : St) (k t : Nat) : St := sA (sA δ 1 (upd (δ 1) k 1)) 3 (upd (δ 3) k (nI t))
section DAY
variable {rm : Nat → Nat → Nat} {ru hm hc ca po t : Nat} {lt : Nat → Nat} {σ0 : St} {rn us : Int32} {f8 f25 : Nat → Int32} {pend pend' : Nat → Bool} {δ σ ρ : St}
theorem DR.pnd (h : DR rm ru hm hc ca po t lt σ0 rn us f8 f25 pend δ σ) (hp : ∀ i, i < rm 0 0 → pend' i = pend i) : DR rm ru hm hc ca po t lt σ0 rn us f8 f25 pend' δ σ := by
  obtain ⟨hF, hC, hR, hS⟩ := h
  exact ⟨hF, hC, fun i hi => (hR i hi).cong (hp i hi) rfl rfl rfl rfl rfl rfl rfl rfl rfl rfl rfl rfl, hS⟩
theorem DR.take (h : DR rm ru hm hc ca po t lt σ0 rn us f8 f25 pend δ σ) {k p : Nat} (hk : k < rm 0 0) (hp : pend k = false) (e1 : δ 1 k = 1) (hps : p < rm 0 1) : DR rm ru hm hc ca po t lt σ0 rn us f8 f25 pend (sitD δ k p) (takeM σ k p) := by
  obtain ⟨hF, hC, hR, hS, h15, h8, h25, h20⟩ := h
  refine ⟨(((hF.arr 20 (by decide) (by decide)).arr 19 (by decide) (by decide)).arr 13 (by decide) (by decide)).arr 12 (by decide) (by decide), ?_, fun i hi => ?_, fun s hs => ?_, h15, h8, h25, h20⟩
  · obtain ⟨a1, a2, a3, a4, a5, a6, a7, a8⟩ := hC
    refine ⟨a1, a2, a3, a4, a5, a6, ?_, a8⟩
    show δ 0 16 = nI (cntL (upd (δ 1) k 2) (rm 0 0))
    rw [cntL_same (by rw [e1]; decide) (by decide)]
    exact a7
  · by_cases hik : i = k
    · subst hik
      obtain ⟨⟨b1, b2, q, b3, b4, b5, b6, b7⟩, -⟩ := hR i hi
      refine ⟨⟨b1, b2, q, b3, b4, b5, Or.inr ?_, fun z => ?_⟩, Or.inr ⟨hp, ?_, ?_⟩⟩
      · rcases b6 with b6 | b6
        · rw [e1] at b6; cases b6
        · exact b6
      · have z : upd (δ 1) i 2 i = 3 := z
        rw [upd_s] at z; cases z
      · show upd (δ 1) i 2 i = upd (σ 12) i 2 i
        rw [upd_s, upd_s]
      · exact Or.inr (Or.inr (Or.inl ⟨upd_s _ _ _, p, hps, upd_s _ _ _, upd_s _ _ _⟩))
    · exact (hR i hi).cong rfl (upd_n _ _ hik) (upd_n _ _ hik) rfl rfl rfl (upd_n _ _ hik) (upd_n _ _ hik) rfl rfl rfl rfl rfl
  · by_cases hsp : s = p
    · subst hsp
      refine ⟨?_, ?_, Or.inr ⟨k, hk, upd_s _ _ _, upd_s _ _ _, upd_s _ _ _⟩, Or.inl (upd_s _ _ _)⟩
      · show upd (δ 6) s (nI k) s = upd (σ 19) s (nI k) s
        rw [upd_s, upd_s]
      · show upd (δ 7) s (-1) s = upd (σ 20) s (-1) s
        rw [upd_s, upd_s]
    · refine (hS s hs).keep (upd_n _ _ hsp) (upd_n _ _ hsp) (upd_n _ _ hsp) (upd_n _ _ hsp) (fun i hi _ z1 z2 => ?_) (fun i hi _ z1 z2 => ?_)
      · have hik : i ≠ k := fun z => by rw [z, e1] at z1; cases z1
        exact ⟨(upd_n _ _ hik).trans z1, (upd_n _ _ hik).trans z2⟩
      · have hik : i ≠ k := fun z => by rw [z, e1] at z1; cases z1
        exact ⟨(upd_n _ _ hik).trans z1, (upd_n _ _ hik).trans z2⟩
theorem cnt_pred {f : Nat → Int32} {k n : Nat} (hn : n ≤ 8) (hk : k < n) (hf : ¬ f k = 4) : nI (cntL f n) - 1 = nI (cntL (upd f k 4) n) := by
  rw [← cntL_gone hk hf]
  exact nI_pred _
theorem DR.shut (hN : rmN rm) (h : DR rm ru hm hc ca po t lt σ0 rn us f8 f25 pend δ σ) {k : Nat} (hk : k < rm 0 0) (hp : pend k = false) (e1 : δ 1 k = 1) : DR rm ru hm hc ca po t lt σ0 rn us f8 f25 pend (shutD δ k) (shutM σ k) := by
  have h08 := hN.1
  obtain ⟨hF, hC, hR, hS, h15, h8, h25, h20⟩ := h
  refine ⟨(hF.arr 12 (by decide) (by decide)).int 22 (by decide), ?_, fun i hi => ?_, fun s hs => ?_, h15, h8, h25, h20⟩
  · obtain ⟨a1, a2, a3, a4, a5, a6, a7, a8, ⟨q, hq, q1, q2⟩, a10⟩ := hC
    obtain ⟨g1, g2⟩ := b_set q hq k (by omega)
    refine ⟨a1, a2, a3, a4, a5, a6, ?_, a8, ⟨q ||| 2 ^ k, g2, ?_, ?_⟩, a10⟩
    · show δ 0 16 - 1 = nI (cntL (upd (δ 1) k 4) (rm 0 0))
      rw [a7]
      exact cnt_pred h08 hk (by rw [e1]; decide)
    · show δ 0 18 ||| ((1 : Int32) <<< (nI k &&& 31)) = _
      rw [q1, g1]
    · show σ 0 22 ||| ((1 : Int32) <<< (nI k &&& 31)) = _
      rw [q2, g1]
  · by_cases hik : i = k
    · subst hik
      obtain ⟨⟨b1, b2, q, b3, b4, b5, b6, b7⟩, -⟩ := hR i hi
      refine ⟨⟨b1, b2, q, b3, b4, b5, Or.inl (upd_s _ _ _), fun z => ?_⟩, Or.inr ⟨hp, ?_, ?_⟩⟩
      · have z : upd (δ 1) i 4 i = 3 := z
        rw [upd_s] at z; cases z
      · show upd (δ 1) i 4 i = upd (σ 12) i 4 i
        rw [upd_s, upd_s]
      · exact Or.inr (Or.inr (Or.inr (Or.inr (upd_s _ _ _))))
    · exact (hR i hi).cong rfl (upd_n _ _ hik) rfl rfl rfl rfl (upd_n _ _ hik) rfl rfl rfl rfl rfl rfl
  · refine (hS s hs).keep rfl rfl rfl rfl (fun i hi _ z1 z2 => ?_) (fun i hi _ z1 z2 => ?_)
    · have hik : i ≠ k := fun z => by rw [z, e1] at z1; cases z1
      exact ⟨(upd_n _ _ hik).trans z1, z2⟩
    · have hik : i ≠ k := fun z => by rw [z, e1] at z1; cases z1
      exact ⟨(upd_n _ _ hik).trans z1, z2⟩
theorem DR.arvM (h : DR rm ru hm hc ca po t lt σ0 rn us f8 f25 pend δ σ) {k : Nat} (hp : pend k = false) (hp' : pend' k = true) (hpo : ∀ i, i ≠ k → pend' i = pend i) (e1 : δ 1 k = 0) (ht : rm (k + 2) 0 + lt k = t) : DR rm ru hm hc ca po t lt σ0 rn us f8 f25 pend' δ (arrM σ k t) := by
  obtain ⟨hF, hC, hR, hS, h15, h8, h25, h20⟩ := h
  refine ⟨(hF.arr 12 (by decide) (by decide)).arr 15 (by decide) (by decide), hC, fun i hi => ?_, hS, h15, h8, h25, h20⟩
  by_cases hik : i = k
  · subst hik
    exact ⟨(hR i hi).1, Or.inl ⟨hp', e1, upd_s _ _ _, upd_s _ _ _, ht⟩⟩
  · exact (hR i hi).cong (hpo i hik) rfl rfl rfl rfl rfl (upd_n _ _ hik) rfl rfl (upd_n _ _ hik) rfl rfl rfl
theorem DR.arvD (h : DR rm ru hm hc ca po t lt σ0 rn us f8 f25 pend δ σ) {k : Nat} (hk : k < rm 0 0) (hp : pend k = true) (hp' : pend' k = false) (hpo : ∀ i, i ≠ k → pend' i = pend i) : DR rm ru hm hc ca po t lt σ0 rn us f8 f25 pend' (arrD δ k t) σ := by
  obtain ⟨hF, hC, hR, hS, h15, h8, h25, h20⟩ := h
  have e1 : δ 1 k = 0 ∧ σ 12 k = 1 ∧ σ 15 k = nI t := by
    rcases (hR k hk).2 with ⟨-, z1, z2, z3, -⟩ | ⟨z, -⟩
    · exact ⟨z1, z2, z3⟩
    · rw [hp] at z; cases z
  refine ⟨hF, ?_, fun i hi => ?_, fun s hs => ?_, h15, h8, h25, h20⟩
  · obtain ⟨a1, a2, a3, a4, a5, a6, a7, a8⟩ := hC
    refine ⟨a1, a2, a3, a4, a5, a6, ?_, a8⟩
    show δ 0 16 = nI (cntL (upd (δ 1) k 1) (rm 0 0))
    rw [cntL_same (by rw [e1.1]; decide) (by decide)]
    exact a7
  · by_cases hik : i = k
    · subst hik
      obtain ⟨⟨b1, b2, q, b3, b4, b5, b6, b7⟩, -⟩ := hR i hi
      refine ⟨⟨b1, b2, q, b3, b4, b5, Or.inr ?_, fun z => ?_⟩, Or.inr ⟨hp', ?_, Or.inr (Or.inl ⟨upd_s _ _ _, ?_⟩)⟩⟩
      · rcases b6 with b6 | b6
        · rw [e1.1] at b6; cases b6
        · exact b6
      · have z : upd (δ 1) i 1 i = 3 := z
        rw [upd_s] at z; cases z
      · show upd (δ 1) i 1 i = σ 12 i
        rw [upd_s, e1.2.1]
      · show upd (δ 3) i (nI t) i = σ 15 i
        rw [upd_s, e1.2.2]
    · exact (hR i hi).cong (hpo i hik) (upd_n _ _ hik) rfl (upd_n _ _ hik) rfl rfl rfl rfl rfl rfl rfl rfl rfl
  · refine (hS s hs).keep rfl rfl rfl rfl (fun i hi _ z1 z2 => ?_) (fun i hi _ z1 z2 => ?_)
    · have hik : i ≠ k := fun z => by rw [z, e1.1] at z1; cases z1
      exact ⟨(upd_n _ _ hik).trans z1, z2⟩
    · have hik : i ≠ k := fun z => by rw [z, e1.1] at z1; cases z1
      exact ⟨(upd_n _ _ hik).trans z1, z2⟩
def pA (rm : Nat → Nat → Nat) (lt : Nat → Nat) (t : Nat) (δ : St) (k i : Nat) : Bool := decide (i < k) && (decide (δ 1 i = 0) && decide (rm (i + 2) 0 + lt i = t))
def pB (rm : Nat → Nat → Nat) (lt : Nat → Nat) (t : Nat) (δ : St) (k i : Nat) : Bool := decide (k ≤ i) && (decide (δ 1 i = 0) && decide (rm (i + 2) 0 + lt i = t))
theorem ph3a (hN : rmN rm) (hM : RoomM rm 0 σ0) {N : Nat} (hNN : 100 ≤ N) (hlt : ∀ i, i < rm 0 0 → lt i ≤ 30) (ht : t < 400) (v1 v2 : Int32) (h : DR rm ru hm hc ca po t lt σ0 rn us f8 f25 (fun _ => false) δ σ) :
    ∃ σ', DR rm ru hm hc ca po t lt σ0 rn us f8 f25 (pA rm lt t δ (rm 0 0)) δ σ' ∧ fMo_minute_70 N N v1 v2 (nI t) (0 : Int32) σ = fMo_minute_135 N N v1 v2 (nI t) (0 : Int32) σ' := by
  have h08 := hN.1
  have g2 : ∀ x : Option St, gI (0 : Int32) 2 x = x := fun x => gI_ok (k := 0) (by decide) (by decide) x
  obtain ⟨σ', h', g⟩ := lock1 (G := fun k σ => DR rm ru hm hc ca po t lt σ0 rn us f8 f25 (pA rm lt t δ k) δ σ) (F1 := fun n k σ => fMo_minute_70 N n v1 v2 (nI t) (nI k) σ) (rm 0 0) (fun k σ hk h => by
    have hM' := h.1.room hM
    have ml : ¬ σ 5 0 ≤ nI k := by rw [hM'.2.1]; exact nI_ge hk (by omega)
    have g8 : ∀ x : Option St, gI (nI k) 8 x = x := fun x => gI_ok (by omega) (by decide) x
    have ck : (nI k).toNatClampNeg = k := cl_nI (by omega)
    have hp : pA rm lt t δ k k = false := by simp [pA]
    have hof : fMo_of N (nI k) (0 : Int32) σ = some (nI (rm (k + 2) 0)) := Mo_of hN hM' N hk (w := 0) (by decide)
    obtain ⟨e12, -⟩ := h.st hk hp
    have e18 := (h.2.2.1 k hk).1.2.1
    have hb0 := (hN.2.2.2.2.2.2.2.2 k hk).1
    have hlk := hlt k hk
    have other : ∀ i, i ≠ k → pA rm lt t δ (k + 1) i = pA rm lt t δ k i := by
      intro i hik
      unfold pA
      have : decide (i < k + 1) = decide (i < k) := by
        rw [decide_eq_decide]; omega
      rw [this]
    by_cases c1 : δ 1 k = 0
    · have c1' : σ 12 k = 0 := e12 ▸ c1
      by_cases c2 : rm (k + 2) 0 + lt k = t
      · refine ⟨arrM σ k t, h.arvM hp (by simp [pA, c1, c2]) other c1 c2, fun n => ?_⟩
        have c2' : nI (rm (k + 2) 0) + σ 18 k = nI t := by rw [e18, nI_add, c2]
        rw [fMo_minute_70, g2, sb_cl0, if_neg ml, g8, ck, if_pos c1', hof, cl1_s, g8, if_pos c2', g8, nm_d, g8, nm_d, fMo_minute_126, nm_d, nI_1]
        rfl
      · refine ⟨σ, h.pnd (fun i hi => ?_), fun n => ?_⟩
        · by_cases hik : i = k
          · subst hik; simp [pA, c2]
          · exact other i hik
        · have c2' : ¬ nI (rm (k + 2) 0) + σ 18 k = nI t := by rw [e18, nI_add]; exact nI_neq (by omega) (by omega) c2
          rw [fMo_minute_70, g2, sb_cl0, if_neg ml, g8, ck, if_pos c1', hof, cl1_s, g8, if_neg c2', fMo_minute_126, nm_d, nI_1]
    · have c1' : ¬ σ 12 k = 0 := e12 ▸ c1
      refine ⟨σ, h.pnd (fun i hi => ?_), fun n => ?_⟩
      · by_cases hik : i = k
        · subst hik; simp [pA, c1]
        · exact other i hik
      · rw [fMo_minute_70, g2, sb_cl0, if_neg ml, g8, ck, if_neg c1', fMo_minute_126, nm_d, nI_1]) (rm 0 0) 0 σ (by omega) (h.pnd (fun i _ => by simp [pA]))
  refine ⟨σ', h', ?_⟩
  have e := g (N - rm 0 0 - 1 + 1)
  rw [show N - rm 0 0 - 1 + 1 + rm 0 0 = N by omega] at e
  refine e.trans ?_
  have ml : σ' 5 0 ≤ nI (rm 0 0) := by rw [(h'.1.room hM).2.1]; exact nI_le (Nat.le_refl _) (by omega)
  show fMo_minute_70 N (N - rm 0 0 - 1 + 1) v1 v2 (nI t) (nI (rm 0 0)) σ' = _
  rw [fMo_minute_70, g2, sb_cl0, if_pos ml]
theorem sk_core (hN : rmN rm) (hC : RoomC rm ρ) (hM : RoomM rm 0 σ0) {N : Nat} (hNN : 100 ≤ N) (hru : ru < 5) (h : DR rm ru hm hc ca po t lt σ0 rn us f8 f25 pend δ σ) {k : Nat} (hk : k < rm 0 0) (hp : pend k = false) (e1 : δ 1 k = 1) :
    ∃ δ1 σ1, DR rm ru hm hc ca po t lt σ0 rn us f8 f25 pend δ1 σ1 ∧ (∀ i, i ≠ k → δ1 1 i = δ 1 i) ∧ (∀ k_2 : Int32 → Int32 → St → Option St, fDa_seekSeats_43 k_2 N ρ (nI t) (nI k) δ = k_2 (nI t) (nI (k + 1)) δ1) ∧ fMo_seeks N (nI ru) (nI k) (nI t) σ = some σ1 := by
  have h08 := hN.1
  have h10 := hN.2.1
  have hM' := h.1.room hM
  have hk8 : k < 8 := by omega
  have hsn := (h.st hk hp).2.one e1
  have hse : fRo_seekMinutes N ρ = some (nI (rm 0 5)) := by
    show some (ρ 0 7) = _
    rw [hC.2.2.2.2.2.1]
  have c3 : (3 : Int32).toNatClampNeg = 3 := cl_nI (k := 3) (by decide)
  have g310 : ∀ x : Option St, gI (3 : Int32) 10 x = x := fun x => gI_ok (k := 3) (by decide) (by decide) x
  have h83 : σ 8 3 = nI (rm 0 5) := hM'.2.2.2.2.2.1
  cases hs : seatS rm ru t k δ with
  | some b =>
    have hb := seatS_lt hs
    have hb10 : b < 10 := by omega
    refine ⟨sitD δ k b, takeM σ k b, h.take hk hp e1 hb, fun i hik => upd_n _ _ hik, fun k_2 => ?_, ?_⟩
    · rw [Da_takesSeat hN hC hNN h hk k_2 e1 hru, hs, cO_s, fDa_seekSeats_82, if_neg (nI_nm1 (by omega)), Da_sitDown N hk8 hb10, cl1_s, fDa_seekSeats_143, nm_d, nI_1]
    · rw [fMo_seeks, Mo_takesSeat hN hM hNN hru h hk, hs, cO_s, cl1_s, if_neg (nI_pos (by omega)), gI_ok hb10 (by decide), cl_nI (show b < 2 ^ 31 by omega), nm_d, gI_ok hb10 (by decide), nm_d, gI_ok hk8 (by decide), cl_nI (show k < 2 ^ 31 by omega), nm_d, gI_ok hk8 (by decide), nm_d, fMo_seeks_84]
      rfl
  | none =>
    by_cases c : nI t - δ 3 k < nI (rm 0 5)
    · refine ⟨δ, σ, h, fun _ _ => rfl, fun k_2 => ?_, ?_⟩
      · rw [Da_takesSeat hN hC hNN h hk k_2 e1 hru, hs, cO_n, fDa_seekSeats_82, if_pos rfl, gI_ok hk8 (by decide), cl_nI (show k < 2 ^ 31 by omega), hse, cl1_s, if_pos c, fDa_seekSeats_143, nm_d, nI_1]
      · rw [fMo_seeks, Mo_takesSeat hN hM hNN hru h hk, hs, cO_n, cl1_s, if_pos m1_neg, gI_ok hk8 (by decide), cl_nI (show k < 2 ^ 31 by omega), g310, c3, h83, ← hsn, if_pos c, fMo_seeks_84]
    · refine ⟨shutD δ k, shutM σ k, h.shut hN hk hp e1, fun i hik => upd_n _ _ hik, fun k_2 => ?_, ?_⟩
      · rw [Da_takesSeat hN hC hNN h hk k_2 e1 hru, hs, cO_n, fDa_seekSeats_82, if_pos rfl, gI_ok hk8 (by decide), cl_nI (show k < 2 ^ 31 by omega), hse, cl1_s, if_neg c, gI_ok hk8 (by decide), nm_d, nm_d, nm_d, fDa_seekSeats_143, nm_d, nI_1]
        rfl
      · rw [fMo_seeks, Mo_takesSeat hN hM hNN hru h hk, hs, cO_n, cl1_s, if_pos m1_neg, gI_ok hk8 (by decide), cl_nI (show k < 2 ^ 31 by omega), g310, c3, h83, ← hsn, if_neg c, gI_ok hk8 (by decide), nm_d, nm_d, fMo_seeks_84]
        rfl
end DAY
