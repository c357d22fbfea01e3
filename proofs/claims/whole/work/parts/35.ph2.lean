theorem upd_self (f : Nat → Int32) (k : Nat) : upd f k (f k) = f := by
  funext j
  by_cases e : j = k
  · subst e; rw [upd_s]
  · rw [upd_n _ _ e]
theorem sA_self (σ : St) (k : Nat) : sA σ k (σ k) = σ := by
  funext j
  by_cases e : j = k
  · subst e; rw [sA_s]
  · rw [sA_n _ _ e]
theorem sA_usame (σ : St) (k i : Nat) : sA σ k (upd (σ k) i (σ k i)) = σ := by rw [upd_self, sA_self]
section DAY
variable {rm : Nat → Nat → Nat} {ru hm hc ca po t : Nat} {lt : Nat → Nat} {σ0 : St} {rn us : Int32} {f8 f25 : Nat → Int32} {pend : Nat → Bool} {δ σ ρ : St}
theorem DR.free (h : DR rm ru hm hc ca po t lt σ0 rn us f8 f25 pend δ σ) (k : Nat) : DR rm ru hm hc ca po t lt σ0 rn us f8 f25 pend (sA δ 7 (upd (δ 7) k (-1))) (sA σ 20 (upd (σ 20) k (-1))) := by
  obtain ⟨hF, hC, hR, hS, h15, h8, h25, h20⟩ := h
  refine ⟨hF.arr 20 (by decide) (by decide), hC, fun i hi => hR i hi, fun s hs => ?_, h15, h8, h25, h20⟩
  by_cases hsk : s = k
  · subst hsk
    obtain ⟨a1, a2, a3, a4⟩ := hS s hs
    refine ⟨a1, ?_, a3, Or.inl (upd_s _ _ _)⟩
    show upd (δ 7) s (-1) s = upd (σ 20) s (-1) s
    rw [upd_s, upd_s]
  · exact (hS s hs).keep rfl (upd_n _ _ hsk) rfl (upd_n _ _ hsk) (fun i _ _ z1 z2 => ⟨z1, z2⟩) (fun i _ _ z1 z2 => ⟨z1, z2⟩)
/-- the limit that the reference takes in a minute -/
def frL (rm : Nat → Nat → Nat) (ru ca po t : Nat) : Nat := if ru = 2 ∧ t % po = 0 then ca else if ru = 3 then rm 0 4 else 1000
theorem rem_nI {t po : Nat} (ht : t < 400) (h0 : 0 < po) (hp : po < 100) : (nI t - nI t / nI po * nI po = 0) ↔ t % po = 0 := by
  rw [pk_rem (by omega) h0 (by omega), ← nI_0]
  have := Nat.mod_lt t h0
  exact nI_eq (by omega) (by omega)
theorem Mo_frees_to (hN : rmN rm) (hM' : RoomM rm 0 σ) (N n : Nat) (hru : ru < 5) (ht : t < 400) (h0 : 0 < po) (hp : po < 100) {k : Nat} (hk : k < rm 0 1) :
    fMo_frees_3 N (n + 1) (nI ru) (nI t) (nI ca) (nI po) (nI k) σ = fMo_frees_56 (fMo_frees_3 N n) N (nI ru) (nI t) (nI ca) (nI po) (nI k) (σ 20 k) (nI (frL rm ru ca po t)) σ := by
  have h10 := hN.2.1
  have ml : ¬ σ 4 0 ≤ nI k := by rw [hM'.1]; exact nI_ge hk (by omega)
  have g2 : ∀ x : Option St, gI (0 : Int32) 2 x = x := fun x => gI_ok (k := 0) (by decide) (by decide) x
  have g10 : ∀ x : Option St, gI (nI k) 10 x = x := fun x => gI_ok (by omega) (by decide) x
  have g210 : ∀ x : Option St, gI (2 : Int32) 10 x = x := fun x => gI_ok (k := 2) (by decide) (by decide) x
  have c0 : (0 : Int32).toNatClampNeg = 0 := sb_cl0
  have c2 : (2 : Int32).toNatClampNeg = 2 := cl_nI (k := 2) (by decide)
  have ck : (nI k).toNatClampNeg = k := cl_nI (by omega)
  have hz : ¬ nI po = 0 := nI_ne0 h0 (by omega)
  have hl : σ 8 2 = nI (rm 0 4) := hM'.2.2.2.2.1
  have hgz : ∀ x : Option St, gZ (nI po) x = x := fun x => gZ_ok hz x
  by_cases r2 : ru = 2
  · subst r2
    have e2 : nI 2 = (2 : Int32) := rfl
    by_cases m0 : t % po = 0
    · have m0' := (rem_nI ht h0 hp).mpr m0
      simp only [fMo_frees_3, g2, c0, ml, ↓reduceIte, g10, ck, nm_d, e2, hgz, m0', frL, m0, and_self]
    · have m0' : ¬ (nI t - nI t / nI po * nI po = 0) := fun z => m0 ((rem_nI ht h0 hp).mp z)
      have e23 : ¬ (2 : Int32) = 3 := by decide
      simp only [fMo_frees_3, g2, c0, ml, ↓reduceIte, g10, ck, nm_d, e2, hgz, m0', frL, m0, and_false, fMo_frees_39, e23, show ¬ (2 : Nat) = 3 by decide]
      rfl
  · have e2 : ¬ nI ru = (2 : Int32) := nI_neq (b := 2) (by omega) (by decide) r2
    by_cases r3 : ru = 3
    · subst r3
      have e3 : nI 3 = (3 : Int32) := rfl
      have e32 : ¬ (3 : Int32) = 2 := by decide
      simp only [fMo_frees_3, g2, c0, ml, ↓reduceIte, g10, ck, nm_d, e3, e32, fMo_frees_39, g210, c2, hl, frL, show ¬ (3 : Nat) = 2 by decide, false_and]
    · have e3 : ¬ nI ru = (3 : Int32) := nI_neq (b := 3) (by omega) (by decide) r3
      simp only [fMo_frees_3, g2, c0, ml, ↓reduceIte, g10, ck, nm_d, e2, e3, fMo_frees_39, frL, r2, r3, false_and]
      rfl
/-- one seat's step: freed, or as it was -/
theorem Mo_frees_step (hN : rmN rm) (hM : RoomM rm 0 σ0) (N : Nat) (hru : ru < 5) (ht : t < 400) (h0 : 0 < po) (hp : po < 100) (h : DR rm ru hm hc ca po t lt σ0 rn us f8 f25 pend δ σ) {k : Nat} (hk : k < rm 0 1) :
    (σ 20 k = -1 ∧ ∀ n, fMo_frees_3 N (n + 1) (nI ru) (nI t) (nI ca) (nI po) (nI k) σ = fMo_frees_3 N n (nI ru) (nI t) (nI ca) (nI po) (nI (k + 1)) σ) ∨
    (∃ i, i < rm 0 0 ∧ σ 20 k = nI i ∧ δ 7 k = nI i ∧ δ 1 i = 3 ∧ δ 3 i = σ 16 i ∧ (∃ w, w ≤ t ∧ δ 3 i = nI w) ∧ ∀ n, fMo_frees_3 N (n + 1) (nI ru) (nI t) (nI ca) (nI po) (nI k) σ = fMo_frees_3 N n (nI ru) (nI t) (nI ca) (nI po) (nI (k + 1)) (if nI t - σ 16 i < nI (frL rm ru ca po t) then σ else sA σ 20 (upd (σ 20) k (-1)))) := by
  have h10 := hN.2.1
  have h08 := hN.1
  have hM' := h.1.room hM
  have g10 : ∀ x : Option St, gI (nI k) 10 x = x := fun x => gI_ok (by omega) (by decide) x
  have ck : (nI k).toNatClampNeg = k := cl_nI (by omega)
  obtain ⟨a1, a2, a3, a4⟩ := h.2.2.2.1 k hk
  rcases a4 with a4 | ⟨i, hi, b1, b2, b3⟩
  · refine Or.inl ⟨a4, fun n => ?_⟩
    rw [Mo_frees_to hN hM' N n hru ht h0 hp hk, a4]
    simp only [fMo_frees_56, m1_neg, ↓reduceIte, fMo_frees_87, fMo_frees_89, g10, ck, nm_d, nI_1]
    rw [← a4, sA_usame]
  · refine Or.inr ⟨i, hi, b1, a2.trans b1, b2, ?_⟩
    have hpn : pend i = false := by
      rcases (h.2.2.1 i hi).2 with ⟨-, z, -⟩ | ⟨z, -⟩
      · rw [b2] at z; cases z
      · exact z
    obtain ⟨-, ⟨w, hw, w1, w2⟩, -⟩ := (h.st hi hpn).2.three b2
    refine ⟨by rw [w1, w2], ⟨w, hw, w1⟩, fun n => ?_⟩
    have gi : ∀ x : Option St, gI (nI i) 8 x = x := fun x => gI_ok (by omega) (by decide) x
    have ci : (nI i).toNatClampNeg = i := cl_nI (by omega)
    have ni : ¬ nI i < 0 := nI_pos (by omega)
    rw [Mo_frees_to hN hM' N n hru ht h0 hp hk, b1]
    by_cases c : nI t - σ 16 i < nI (frL rm ru ca po t)
    · simp only [fMo_frees_56, ni, ↓reduceIte, gi, ci, c, fMo_frees_87, fMo_frees_89, g10, ck, nm_d, nI_1]
      rw [← b1, sA_usame]
    · simp only [fMo_frees_56, ni, ↓reduceIte, gi, ci, c, fMo_frees_89, g10, ck, nm_d, nI_1]
theorem Mo_frees_end (hN : rmN rm) (hM' : RoomM rm 0 σ) (N n : Nat) (a b c d : Int32) : fMo_frees_3 N (n + 1) a b c d (nI (rm 0 1)) σ = some σ := by
  have h10 := hN.2.1
  have ml : σ 4 0 ≤ nI (rm 0 1) := by rw [hM'.1]; exact nI_le (Nat.le_refl _) (by omega)
  have g2 : ∀ x : Option St, gI (0 : Int32) 2 x = x := fun x => gI_ok (k := 0) (by decide) (by decide) x
  simp only [fMo_frees_3, g2, sb_cl0, ml, ↓reduceIte]
/-- nothing comes free when the limit is beyond the day -/
theorem ph2_idle (hN : rmN rm) (hM : RoomM rm 0 σ0) {N : Nat} (hNN : 100 ≤ N) (hru : ru < 5) (ht : t < 400) (h0 : 0 < po) (hp : po < 100) (hL : frL rm ru ca po t = 1000) (h : DR rm ru hm hc ca po t lt σ0 rn us f8 f25 pend δ σ) :
    fMo_frees N (nI ru) (nI t) (nI ca) (nI po) σ = some σ := by
  have h10 := hN.2.1
  obtain ⟨σ', h', g⟩ := lock1 (G := fun _ σ' => σ' = σ) (F1 := fun n k σ => fMo_frees_3 N n (nI ru) (nI t) (nI ca) (nI po) (nI k) σ) (rm 0 1) (fun k σ1 hk e => by
    subst e
    refine ⟨σ1, rfl, fun n => ?_⟩
    rcases Mo_frees_step hN hM N hru ht h0 hp h hk with ⟨-, g⟩ | ⟨i, hi, b1, b2, b3, b4, ⟨w, hw, w1⟩, g⟩
    · exact g n
    · rw [g n, if_pos]
      rw [← b4, w1, hL, pk_sub hw]
      exact nI_lt (by omega) (by omega)) (rm 0 1) 0 σ (by omega) rfl
  subst h'
  have e := g (N - rm 0 1 - 1 + 1)
  rw [show N - rm 0 1 - 1 + 1 + rm 0 1 = N by omega] at e
  exact e.trans (Mo_frees_end hN (h.1.room hM) N _ _ _ _ _)
theorem ph2_loop (hN : rmN rm) (hM : RoomM rm 0 σ0) {N : Nat} (hNN : 100 ≤ N) (hru : ru < 5) (ht : t < 400) (h0 : 0 < po) (hp : po < 100) (h : DR rm ru hm hc ca po t lt σ0 rn us f8 f25 pend δ σ) :
    ∃ δ' σ', DR rm ru hm hc ca po t lt σ0 rn us f8 f25 pend δ' σ' ∧ fDa_freeHeld_65 N ρ N (nI t) (nI (frL rm ru ca po t)) (0 : Int32) δ = some δ' ∧ fMo_frees N (nI ru) (nI t) (nI ca) (nI po) σ = some σ' := by
  have h10 := hN.2.1
  have h08 := hN.1
  obtain ⟨δ', σ', h', g1, g2⟩ := lock (G := fun _ => DR rm ru hm hc ca po t lt σ0 rn us f8 f25 pend) (F1 := fun n k δ => fDa_freeHeld_65 N ρ n (nI t) (nI (frL rm ru ca po t)) (nI k) δ) (F2 := fun n k σ => fMo_frees_3 N n (nI ru) (nI t) (nI ca) (nI po) (nI k) σ) (rm 0 1) (fun k δ σ hk h => by
    have dl : ¬ δ 0 10 ≤ nI k := by rw [h.2.1.2.1]; exact nI_ge hk (by omega)
    have g10 : ∀ x : Option St, gI (nI k) 10 x = x := fun x => gI_ok (by omega) (by decide) x
    have ck : (nI k).toNatClampNeg = k := cl_nI (by omega)
    obtain ⟨a1, a2, a3, a4⟩ := h.2.2.2.1 k hk
    rcases Mo_frees_step hN hM N hru ht h0 hp h hk with ⟨b0, g⟩ | ⟨i, hi, b1, b2, b3, b4, -, g⟩
    · refine ⟨δ, σ, h, fun n => ?_, g⟩
      have e : δ 7 k = -1 := a2.trans b0
      simp only [fDa_freeHeld_65, dl, ↓reduceIte, g10, ck, nm_d, e, fDa_freeHeld_108, nI_1]
    · have ni : ¬ nI i = -1 := nI_nm1 (by omega)
      by_cases c : nI t - σ 16 i < nI (frL rm ru ca po t)
      · refine ⟨δ, σ, h, fun n => ?_, fun n => by rw [g n, if_pos c]⟩
        have c' : nI t - δ 3 i < nI (frL rm ru ca po t) := by rw [b4]; exact c
        simp only [fDa_freeHeld_65, dl, ↓reduceIte, g10, ck, nm_d, b2, ni, Da_offFor N (show i < 8 by omega), cl1_s, c', fDa_freeHeld_108, nI_1]
      · refine ⟨sA δ 7 (upd (δ 7) k (-1)), sA σ 20 (upd (σ 20) k (-1)), h.free k, fun n => ?_, fun n => by rw [g n, if_neg c]⟩
        have c' : ¬ nI t - δ 3 i < nI (frL rm ru ca po t) := by rw [b4]; exact c
        simp only [fDa_freeHeld_65, dl, ↓reduceIte, g10, ck, nm_d, b2, ni, Da_offFor N (show i < 8 by omega), cl1_s, c', fDa_freeHeld_108, nI_1]) (rm 0 1) 0 δ σ (by omega) h
  refine ⟨δ', σ', h', ?_, ?_⟩
  · have e := g1 (N - rm 0 1 - 1 + 1)
    rw [show N - rm 0 1 - 1 + 1 + rm 0 1 = N by omega] at e
    refine e.trans ?_
    have dl : δ' 0 10 ≤ nI (rm 0 1) := by rw [h'.2.1.2.1]; exact nI_le (Nat.le_refl _) (by omega)
    simp only [fDa_freeHeld_65, dl, ↓reduceIte]
  · have e := g2 (N - rm 0 1 - 1 + 1)
    rw [show N - rm 0 1 - 1 + 1 + rm 0 1 = N by omega] at e
    exact e.trans (Mo_frees_end hN (h'.1.room hM) N _ _ _ _ _)
theorem ph2 (hN : rmN rm) (hC : RoomC rm ρ) (hM : RoomM rm 0 σ0) {N : Nat} (hNN : 100 ≤ N) (hru : ru < 5) (ht : t < 400) (h0 : 0 < po) (hp : po < 100) (h : DR rm ru hm hc ca po t lt σ0 rn us f8 f25 pend δ σ) :
    ∃ δ' σ', DR rm ru hm hc ca po t lt σ0 rn us f8 f25 pend δ' σ' ∧ fDa_freeHeld N (nI t) ρ δ = some δ' ∧ fMo_frees N (nI ru) (nI t) (nI ca) (nI po) σ = some σ' := by
  obtain ⟨a1, a2, a3, a4, a5, a6, -⟩ := h.2.1
  have npo : ¬ nI po ≤ 0 := nI_nle h0 (by omega)
  have hgz : ∀ x : Option St, gZ (nI po) x = x := fun x => gZ_ok (nI_ne0 h0 (by omega)) x
  have hla : fRo_lampMinutes N ρ = some (nI (rm 0 4)) := by
    show some (ρ 0 6) = _
    rw [hC.2.2.2.2.1]
  by_cases r2 : ru = 2
  · have e2 : δ 0 11 = (2 : Int32) := by rw [a3, r2]; rfl
    by_cases m0 : t % po = 0
    · have m0' := (rem_nI ht h0 hp).mpr m0
      obtain ⟨δ', σ', h', g1, g2⟩ := ph2_loop (ρ := ρ) hN hM hNN hru ht h0 hp h
      refine ⟨δ', σ', h', ?_, g2⟩
      have e : frL rm ru ca po t = ca := by unfold frL; rw [if_pos ⟨r2, m0⟩]
      rw [e] at g1
      have n10 : ¬ (1 : Int32) = 0 := by decide
      simp only [fDa_freeHeld, e2, a6, npo, ↓reduceIte, hgz, m0', fDa_freeHeld_29, n10, fDa_freeHeld_43, a5, fDa_freeHeld_61]
      exact g1
    · have m0' : ¬ (nI t - nI t / nI po * nI po = 0) := fun z => m0 ((rem_nI ht h0 hp).mp z)
      refine ⟨δ, σ, h, ?_, ph2_idle hN hM hNN hru ht h0 hp (by unfold frL; rw [if_neg (fun z => m0 z.2), if_neg (by omega)]) h⟩
      have e23 : ¬ (2 : Int32) = 3 := by decide
      simp only [fDa_freeHeld, e2, a6, npo, ↓reduceIte, hgz, m0', fDa_freeHeld_28, fDa_freeHeld_29, e23]
  · have e2 : ¬ δ 0 11 = (2 : Int32) := by rw [a3]; exact nI_neq (b := 2) (by omega) (by decide) r2
    by_cases r3 : ru = 3
    · obtain ⟨δ', σ', h', g1, g2⟩ := ph2_loop (ρ := ρ) hN hM hNN hru ht h0 hp h
      refine ⟨δ', σ', h', ?_, g2⟩
      have e : frL rm ru ca po t = rm 0 4 := by unfold frL; rw [if_neg (fun z => r2 z.1), if_pos r3]
      rw [e] at g1
      have e3 : δ 0 11 = (3 : Int32) := by rw [a3, r3]; rfl
      have e32 : ¬ (3 : Int32) = 2 := by decide
      simp only [fDa_freeHeld, e3, e32, ↓reduceIte, fDa_freeHeld_28, fDa_freeHeld_29, fDa_freeHeld_43, hla, cl1_s, fDa_freeHeld_61]
      exact g1
    · have e3 : ¬ δ 0 11 = (3 : Int32) := by rw [a3]; exact nI_neq (b := 3) (by omega) (by decide) r3
      refine ⟨δ, σ, h, ?_, ph2_idle hN hM hNN hru ht h0 hp (by unfold frL; rw [if_neg (fun z => r2 z.1), if_neg r3]) h⟩
      simp only [fDa_freeHeld, e2, e3, ↓reduceIte, fDa_freeHeld_28, fDa_freeHeld_29]
end DAY
