def satD (δ : St) (k : Nat) : St := sA δ 4 (upd (δ 4) k (δ 4 k + 1))
def satM (σ : St) (k : Nat) : St := sA σ 14 (upd (σ 14) k (σ 14 k + 1))
def goneD (δ : St) (k p : Nat) : St := sA (sA (sA (satD δ k) 6 (upd (δ 6) p (-1))) 1 (upd (δ 1) k 4)) 0 (upd (δ 0) 16 (δ 0 16 - 1))
def goneM (σ : St) (k p : Nat) : St := sA (sA (satM σ k) 12 (upd (σ 12) k 4)) 19 (upd (σ 19) p (-1))
def offD (δ : St) (k p t : Nat) (x : Int32) : St := sA (sA (sA (sA (satD δ k) 6 (upd (δ 6) p (-1))) 7 (upd (δ 7) p x)) 1 (upd (δ 1) k 3)) 3 (upd (δ 3) k (nI t))
def offM (σ : St) (k p t : Nat) (b x : Int32) : St := sA (sA (sA (sA (sA (satM σ k) 12 (upd (σ 12) k 3)) 16 (upd (σ 16) k (nI t))) 19 (upd (σ 19) p (-1))) 17 (upd (σ 17) k b)) 20 (upd (σ 20) p x)
section DAY
variable {rm : Nat → Nat → Nat} {ru hm hc ca po t : Nat} {lt : Nat → Nat} {σ0 : St} {rn us : Int32} {f8 f25 : Nat → Int32} {pend pend' : Nat → Bool} {δ σ ρ : St}
theorem ph3b (hN : rmN rm) (hC : RoomC rm ρ) (hM : RoomM rm 0 σ0) {N : Nat} (hNN : 100 ≤ N) (hru : ru < 5) (hlt : ∀ i, i < rm 0 0 → lt i ≤ 30) (ht : t < 400) (v2 : Int32) (h : DR rm ru hm hc ca po t lt σ0 rn us f8 f25 (pA rm lt t δ (rm 0 0)) δ σ) :
    ∃ δ' σ', DR rm ru hm hc ca po t lt σ0 rn us f8 f25 (fun _ => false) δ' σ' ∧ fDa_seekSeats N (nI t) ρ δ = some δ' ∧ fMo_minute_135 N N (nI ru) v2 (nI t) (0 : Int32) σ = fMo_minute_174 N N (nI ru) v2 (nI t) (0 : Int32) σ' := by
  have h08 := hN.1
  have g2 : ∀ x : Option St, gI (0 : Int32) 2 x = x := fun x => gI_ok (k := 0) (by decide) (by decide) x
  have hst : DR rm ru hm hc ca po t lt σ0 rn us f8 f25 (pB rm lt t δ 0) δ σ := h.pnd (fun i hi => by
    unfold pA pB
    rw [decide_eq_true hi, decide_eq_true (Nat.zero_le i)])
  obtain ⟨δ', σ', ⟨h', -⟩, q1, q2⟩ := lock (G := fun k δ1 σ1 => DR rm ru hm hc ca po t lt σ0 rn us f8 f25 (pB rm lt t δ k) δ1 σ1 ∧ ∀ i, k ≤ i → i < rm 0 0 → δ1 1 i = δ 1 i) (F1 := fun n k δ => fDa_seekSeats_2 N ρ n (nI t) (nI k) δ) (F2 := fun n k σ => fMo_minute_135 N n (nI ru) v2 (nI t) (nI k) σ) (rm 0 0) (fun k δ1 σ1 hk hh => by
    obtain ⟨h, hsame⟩ := hh
    have hM' := h.1.room hM
    have hk8 : k < 8 := by omega
    have dl : ¬ δ1 0 9 ≤ nI k := by rw [h.2.1.1]; exact nI_ge hk (by omega)
    have ml : ¬ σ1 5 0 ≤ nI k := by rw [hM'.2.1]; exact nI_ge hk (by omega)
    have g8 : ∀ x : Option St, gI (nI k) 8 x = x := fun x => gI_ok (by omega) (by decide) x
    have ck : (nI k).toNatClampNeg = k := cl_nI (by omega)
    have e5 := (h.2.2.1 k hk).1.1
    have hb0 := (hN.2.2.2.2.2.2.2.2 k hk).1
    have hlk := hlt k hk
    have other : ∀ i, i ≠ k → pB rm lt t δ (k + 1) i = pB rm lt t δ k i := by
      intro i hik
      unfold pB
      have : decide (k + 1 ≤ i) = decide (k ≤ i) := by
        rw [decide_eq_decide]; omega
      rw [this]
    have pk1 : pB rm lt t δ (k + 1) k = false := by simp only [pB, decide_eq_false (show ¬ k + 1 ≤ k by omega), Bool.false_and]
    cases hp : pB rm lt t δ k k with
    | true =>
      have hz : δ1 1 k = 0 ∧ σ1 12 k = 1 ∧ rm (k + 2) 0 + lt k = t := by
        rcases (h.2.2.1 k hk).2 with ⟨-, z1, z2, -, z3⟩ | ⟨z, -⟩
        · exact ⟨z1, z2, z3⟩
        · rw [hp] at z; cases z
      have h2 := h.arvD (pend' := pB rm lt t δ (k + 1)) hk hp pk1 other
      obtain ⟨δ2, σ2, h3, k1, k2, k3⟩ := sk_core hN hC hM hNN hru h2 hk pk1 (upd_s _ _ _)
      refine ⟨δ2, σ2, ⟨h3, fun i hi1 hi2 => ?_⟩, fun n => ?_, fun n => ?_⟩
      · rw [k1 i (by omega)]
        have : arrD δ1 k t 1 i = δ1 1 i := upd_n _ _ (by omega)
        rw [this]
        exact hsame i (by omega) hi2
      · rw [fDa_seekSeats_2, if_neg dl, g8, ck, if_pos hz.1, g8, if_pos (show δ1 5 k = nI t by rw [e5, hz.2.2]), g8, nm_d, g8, nm_d]
        exact k2 _
      · rw [fMo_minute_135, g2, sb_cl0, if_neg ml, g8, ck, if_pos hz.2.1, k3, cl1_s, fMo_minute_165, nm_d, nI_1]
    | false =>
      obtain ⟨e12, -⟩ := h.st hk hp
      have h2 : DR rm ru hm hc ca po t lt σ0 rn us f8 f25 (pB rm lt t δ (k + 1)) δ1 σ1 := h.pnd (fun i hi => by
        by_cases hik : i = k
        · subst hik; rw [pk1, hp]
        · exact other i hik)
      by_cases c1 : δ1 1 k = 1
      · obtain ⟨δ2, σ2, h3, k1, k2, k3⟩ := sk_core hN hC hM hNN hru h2 hk pk1 c1
        refine ⟨δ2, σ2, ⟨h3, fun i hi1 hi2 => ?_⟩, fun n => ?_, fun n => ?_⟩
        · rw [k1 i (by omega)]
          exact hsame i (by omega) hi2
        · rw [fDa_seekSeats_2, if_neg dl, g8, ck, if_neg (show ¬ δ1 1 k = 0 by rw [c1]; decide)]
          exact k2 _
        · rw [fMo_minute_135, g2, sb_cl0, if_neg ml, g8, ck, if_pos (show σ1 12 k = 1 from e12 ▸ c1), k3, cl1_s, fMo_minute_165, nm_d, nI_1]
      · refine ⟨δ1, σ1, ⟨h2, fun i hi1 hi2 => hsame i (by omega) hi2⟩, fun n => ?_, fun n => ?_⟩
        · have t43 : ∀ k_2 : Int32 → Int32 → St → Option St, fDa_seekSeats_43 k_2 N ρ (nI t) (nI k) δ1 = k_2 (nI t) (nI (k + 1)) δ1 := fun k_2 => by
            rw [fDa_seekSeats_43, g8, ck, if_neg c1, fDa_seekSeats_143, nm_d, nI_1]
          by_cases c0 : δ1 1 k = 0
          · have c2 : ¬ δ1 5 k = nI t := by
              rw [e5]
              refine nI_neq (by omega) (by omega) (fun z => ?_)
              have : pB rm lt t δ k k = true := by
                have e0 := hsame k (Nat.le_refl k) hk
                rw [c0] at e0
                simp [pB, z, ← e0]
              rw [hp] at this; cases this
            rw [fDa_seekSeats_2, if_neg dl, g8, ck, if_pos c0, g8, if_neg c2]
            exact t43 _
          · rw [fDa_seekSeats_2, if_neg dl, g8, ck, if_neg c0]
            exact t43 _
        · rw [fMo_minute_135, g2, sb_cl0, if_neg ml, g8, ck, if_neg (show ¬ σ1 12 k = 1 from e12 ▸ c1), fMo_minute_165, nm_d, nI_1]) (rm 0 0) 0 δ σ (by omega) ⟨hst, fun _ _ _ => rfl⟩
  refine ⟨δ', σ', h'.pnd (fun i hi => ?_), ?_, ?_⟩
  · have : ¬ rm 0 0 ≤ i := by omega
    simp [pB, this]
  · have e := q1 (N - rm 0 0 - 1 + 1)
    rw [show N - rm 0 0 - 1 + 1 + rm 0 0 = N by omega] at e
    refine e.trans ?_
    have dl : δ' 0 9 ≤ nI (rm 0 0) := by rw [h'.2.1.1]; exact nI_le (Nat.le_refl _) (by omega)
    show fDa_seekSeats_2 N ρ (N - rm 0 0 - 1 + 1) (nI t) (nI (rm 0 0)) δ' = _
    rw [fDa_seekSeats_2, if_pos dl]
  · have e := q2 (N - rm 0 0 - 1 + 1)
    rw [show N - rm 0 0 - 1 + 1 + rm 0 0 = N by omega] at e
    refine e.trans ?_
    have ml : σ' 5 0 ≤ nI (rm 0 0) := by rw [(h'.1.room hM).2.1]; exact nI_le (Nat.le_refl _) (by omega)
    show fMo_minute_135 N (N - rm 0 0 - 1 + 1) (nI ru) v2 (nI t) (nI (rm 0 0)) σ' = _
    rw [fMo_minute_135, g2, sb_cl0, if_pos ml]
theorem DR.sat (h : DR rm ru hm hc ca po t lt σ0 rn us f8 f25 pend δ σ) {k q : Nat} (hk : k < rm 0 0) (e1 : δ 1 k = 2) (eq1 : δ 4 k = nI q) (eq2 : σ 14 k = nI q) (hq : q + 1 < rm (k + 2) 1) : DR rm ru hm hc ca po t lt σ0 rn us f8 f25 pend (satD δ k) (satM σ k) := by
  obtain ⟨hF, hC, hR, hS, h15, h8, h25, h20⟩ := h
  refine ⟨hF.arr 14 (by decide) (by decide), hC, fun i hi => ?_, hS, h15, h8, h25, h20⟩
  by_cases hik : i = k
  · subst hik
    obtain ⟨⟨b1, b2, q', b3, b4, b5, b6, b7⟩, hp⟩ := hR i hi
    refine ⟨⟨b1, b2, q + 1, by omega, ?_, ?_, Or.inr hq, fun z => ?_⟩, hp⟩
    · show upd (δ 4) i (δ 4 i + 1) i = nI (q + 1)
      rw [upd_s, eq1, nI_1]
    · show upd (σ 14) i (σ 14 i + 1) i = nI (q + 1)
      rw [upd_s, eq2, nI_1]
    · have z : δ 1 i = 3 := z
      rw [e1] at z; cases z
  · exact (hR i hi).cong rfl rfl rfl rfl (upd_n _ _ hik) rfl rfl rfl (upd_n _ _ hik) rfl rfl rfl rfl
theorem DR.gone (hN : rmN rm) (h : DR rm ru hm hc ca po t lt σ0 rn us f8 f25 pend δ σ) {k p q : Nat} (hk : k < rm 0 0) (hp : pend k = false) (e1 : δ 1 k = 2) (hps : p < rm 0 1) (e2 : δ 2 k = nI p) (eq1 : δ 4 k = nI q) (eq2 : σ 14 k = nI q) (hq : q + 1 = rm (k + 2) 1) : DR rm ru hm hc ca po t lt σ0 rn us f8 f25 pend (goneD δ k p) (goneM σ k p) := by
  have h08 := hN.1
  have h10 := hN.2.1
  obtain ⟨hF, hC, hR, hS, h15, h8, h25, h20⟩ := h
  refine ⟨((hF.arr 14 (by decide) (by decide)).arr 12 (by decide) (by decide)).arr 19 (by decide) (by decide), ?_, fun i hi => ?_, fun s hs => ?_, h15, h8, h25, h20⟩
  · obtain ⟨a1, a2, a3, a4, a5, a6, a7, a8⟩ := hC
    refine ⟨a1, a2, a3, a4, a5, a6, ?_, a8⟩
    show δ 0 16 - 1 = nI (cntL (upd (δ 1) k 4) (rm 0 0))
    rw [a7]
    exact cnt_pred h08 hk (by rw [e1]; decide)
  · by_cases hik : i = k
    · subst hik
      obtain ⟨⟨b1, b2, q', b3, b4, b5, b6, b7⟩, -⟩ := hR i hi
      refine ⟨⟨b1, b2, q + 1, by omega, ?_, ?_, Or.inl (upd_s _ _ _), fun z => ?_⟩, Or.inr ⟨hp, ?_, Or.inr (Or.inr (Or.inr (Or.inr (upd_s _ _ _))))⟩⟩
      · show upd (δ 4) i (δ 4 i + 1) i = nI (q + 1)
        rw [upd_s, eq1, nI_1]
      · show upd (σ 14) i (σ 14 i + 1) i = nI (q + 1)
        rw [upd_s, eq2, nI_1]
      · have z : upd (δ 1) i 4 i = 3 := z
        rw [upd_s] at z; cases z
      · show upd (δ 1) i 4 i = upd (σ 12) i 4 i
        rw [upd_s, upd_s]
    · exact (hR i hi).cong rfl (upd_n _ _ hik) rfl rfl (upd_n _ _ hik) rfl (upd_n _ _ hik) rfl (upd_n _ _ hik) rfl rfl rfl rfl
  · by_cases hsp : s = p
    · subst hsp
      obtain ⟨s1, s2, s3, s4⟩ := hS s hs
      refine ⟨?_, s2, Or.inl (upd_s _ _ _), ?_⟩
      · show upd (δ 6) s (-1) s = upd (σ 19) s (-1) s
        rw [upd_s, upd_s]
      · rcases s4 with s4 | ⟨i, hi, z0, z1, z2⟩
        · exact Or.inl s4
        · have hik : i ≠ k := fun z => by rw [z, e1] at z1; cases z1
          exact Or.inr ⟨i, hi, z0, (upd_n _ _ hik).trans z1, z2⟩
    · refine (hS s hs).keep (upd_n _ _ hsp) rfl (upd_n _ _ hsp) rfl (fun i hi _ z1 z2 => ?_) (fun i hi _ z1 z2 => ?_)
      · have hik : i ≠ k := fun z => hsp (nI_inj (by omega) (by omega) (by rw [← z2, z, e2]))
        exact ⟨(upd_n _ _ hik).trans z1, z2⟩
      · have hik : i ≠ k := fun z => by rw [z, e1] at z1; cases z1
        exact ⟨(upd_n _ _ hik).trans z1, z2⟩
theorem DR.goff (hN : rmN rm) (h : DR rm ru hm hc ca po t lt σ0 rn us f8 f25 pend δ σ) {k p q : Nat} (hk : k < rm 0 0) (hp : pend k = false) (e1 : δ 1 k = 2) (hps : p < rm 0 1) (e2 : δ 2 k = nI p) (e3 : σ 13 k = nI p) (eq1 : δ 4 k = nI q) (eq2 : σ 14 k = nI q) (hq : q + 1 < rm (k + 2) 1) (hq2 : q + 1 = rm (k + 2) 2) {x : Int32} (hx : x = nI k ∨ x = -1) {b : Int32} (hb' : b = nI (hb ru hm k)) : DR rm ru hm hc ca po t lt σ0 rn us f8 f25 pend (offD δ k p t x) (offM σ k p t b x) := by
  have h08 := hN.1
  have h10 := hN.2.1
  obtain ⟨hF, hC, hR, hS, h15, h8, h25, h20⟩ := h
  refine ⟨(((((hF.arr 14 (by decide) (by decide)).arr 12 (by decide) (by decide)).arr 16 (by decide) (by decide)).arr 19 (by decide) (by decide)).arr 17 (by decide) (by decide)).arr 20 (by decide) (by decide), ?_, fun i hi => ?_, fun s hs => ?_, h15, h8, h25, h20⟩
  · obtain ⟨a1, a2, a3, a4, a5, a6, a7, a8⟩ := hC
    refine ⟨a1, a2, a3, a4, a5, a6, ?_, a8⟩
    show δ 0 16 = nI (cntL (upd (δ 1) k 3) (rm 0 0))
    rw [cntL_same (by rw [e1]; decide) (by decide)]
    exact a7
  · by_cases hik : i = k
    · subst hik
      obtain ⟨⟨b1, b2, q', b3, b4, b5, b6, b7⟩, -⟩ := hR i hi
      refine ⟨⟨b1, b2, q + 1, by omega, ?_, ?_, Or.inr hq, fun _ => hq2⟩, Or.inr ⟨hp, ?_, Or.inr (Or.inr (Or.inr (Or.inl ⟨upd_s _ _ _, ⟨p, hps, e2, e3⟩, ⟨t, Nat.le_refl t, upd_s _ _ _, upd_s _ _ _⟩, ?_⟩)))⟩⟩
      · show upd (δ 4) i (δ 4 i + 1) i = nI (q + 1)
        rw [upd_s, eq1, nI_1]
      · show upd (σ 14) i (σ 14 i + 1) i = nI (q + 1)
        rw [upd_s, eq2, nI_1]
      · show upd (δ 1) i 3 i = upd (σ 12) i 3 i
        rw [upd_s, upd_s]
      · show upd (σ 17) i b i = _
        rw [upd_s, hb']
    · exact (hR i hi).cong rfl (upd_n _ _ hik) rfl (upd_n _ _ hik) (upd_n _ _ hik) rfl (upd_n _ _ hik) rfl (upd_n _ _ hik) rfl (upd_n _ _ hik) (upd_n _ _ hik) rfl
  · by_cases hsp : s = p
    · subst hsp
      refine ⟨?_, ?_, Or.inl (upd_s _ _ _), ?_⟩
      · show upd (δ 6) s (-1) s = upd (σ 19) s (-1) s
        rw [upd_s, upd_s]
      · show upd (δ 7) s x s = upd (σ 20) s x s
        rw [upd_s, upd_s]
      · rcases hx with hx | hx
        · exact Or.inr ⟨k, hk, (upd_s _ _ _).trans hx, upd_s _ _ _, e2⟩
        · exact Or.inl ((upd_s _ _ _).trans hx)
    · refine (hS s hs).keep (upd_n _ _ hsp) (upd_n _ _ hsp) (upd_n _ _ hsp) (upd_n _ _ hsp) (fun i hi _ z1 z2 => ?_) (fun i hi _ z1 z2 => ?_)
      · have hik : i ≠ k := fun z => hsp (nI_inj (by omega) (by omega) (by rw [← z2, z, e2]))
        exact ⟨(upd_n _ _ hik).trans z1, z2⟩
      · have hik : i ≠ k := fun z => by rw [z, e1] at z1; cases z1
        exact ⟨(upd_n _ _ hik).trans z1, z2⟩
end DAY
