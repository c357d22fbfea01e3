def IM (rm : Nat → Nat → Nat) (lt : Nat → Nat) (σ0 σ : St) : Prop := FM σ0 σ ∧ (∀ i, i < 8 → σ 12 i = 0 ∧ σ 14 i = 0) ∧ (∀ s, s < 10 → σ 19 s = -1 ∧ σ 20 s = -1) ∧ (∀ i, i < rm 0 0 → σ 18 i = nI (lt i)) ∧ σ 0 20 = 0 ∧ σ 0 21 = 0 ∧ σ 0 22 = 0 ∧ σ 0 23 = 0
theorem Mo_run_init {rm : Nat → Nat → Nat} {lt : Nat → Nat} {σ : St} {N : Nat} (hNN : 100 ≤ N) (hl : ∀ i, i < rm 0 0 → σ 18 i = nI (lt i)) (v1 v2 v3 v4 v5 : Int32) : ∃ σ1, IM rm lt σ σ1 ∧ fMo_run N v1 v2 v3 v4 v5 σ = fMo_run_95 N N v1 v2 v3 v4 v5 (0 : Int32) σ1 := by
  obtain ⟨σ1, ⟨z1, z2, z3⟩, g⟩ := lock1 (G := fun k σ' => FM σ σ' ∧ σ' 18 = σ 18 ∧ ∀ i, i < k → σ' 12 i = 0 ∧ σ' 14 i = 0) (F1 := fun n k σ => fMo_run_3 N n v1 v2 v3 v4 v5 (nI k) σ) 8 (fun k σ' hk hh => by
    obtain ⟨e1, e2, e3⟩ := hh
    have g8 : ∀ x : Option St, gI (nI k) 8 x = x := fun x => gI_ok hk (by decide) x
    have ck : (nI k).toNatClampNeg = k := cl_nI (by omega)
    refine ⟨sA (sA (sA σ' 12 (upd (σ' 12) k 0)) 14 (upd (σ' 14) k 0)) 17 (upd (σ' 17) k (vp_nar .boolean 0)), ⟨((e1.arr 12 (by decide) (by decide)).arr 14 (by decide) (by decide)).arr 17 (by decide) (by decide), e2, fun i hi => ?_⟩, fun n => ?_⟩
    · show upd (σ' 12) k 0 i = 0 ∧ upd (σ' 14) k 0 i = 0
      by_cases e : i = k
      · subst e; rw [upd_s, upd_s]; exact ⟨rfl, rfl⟩
      · rw [upd_n _ _ e, upd_n _ _ e]; exact e3 i (by omega)
    · rw [fMo_run_3, if_neg (show ¬ (8 : Int32) ≤ nI k from nI_ge (b := 8) hk (by omega)), g8, ck, nm_d, g8, nm_d, g8, nm_d, nm_d, nI_1]
      rfl) 8 0 σ (by omega) ⟨FM.rf σ, rfl, fun i hi => absurd hi (by omega)⟩
  obtain ⟨σ2, ⟨y1, y2, y3, y4⟩, g'⟩ := lock1 (G := fun k σ' => FM σ σ' ∧ σ' 18 = σ 18 ∧ (∀ i, i < 8 → σ' 12 i = 0 ∧ σ' 14 i = 0) ∧ ∀ s, s < k → σ' 19 s = -1 ∧ σ' 20 s = -1) (F1 := fun n k σ => fMo_run_43 N n v1 v2 v3 v4 v5 (nI k) σ) 10 (fun k σ' hk hh => by
    obtain ⟨e1, e2, e3, e4⟩ := hh
    have g10 : ∀ x : Option St, gI (nI k) 10 x = x := fun x => gI_ok hk (by decide) x
    have ck : (nI k).toNatClampNeg = k := cl_nI (by omega)
    refine ⟨sA (sA σ' 19 (upd (σ' 19) k (-1))) 20 (upd (σ' 20) k (-1)), ⟨(e1.arr 19 (by decide) (by decide)).arr 20 (by decide) (by decide), e2, e3, fun i hi => ?_⟩, fun n => ?_⟩
    · show upd (σ' 19) k (-1) i = -1 ∧ upd (σ' 20) k (-1) i = -1
      by_cases e : i = k
      · subst e; rw [upd_s, upd_s]; exact ⟨rfl, rfl⟩
      · rw [upd_n _ _ e, upd_n _ _ e]; exact e4 i (by omega)
    · rw [fMo_run_43, if_neg (show ¬ (10 : Int32) ≤ nI k from nI_ge (b := 10) hk (by omega)), g10, ck, nm_d, g10, nm_d, nm_d, nI_1]
      rfl) 10 0 σ1 (by omega) ⟨z1, z2, z3, fun i hi => absurd hi (by omega)⟩
  have e := g (N - 8 - 1 + 1)
  rw [show N - 8 - 1 + 1 + 8 = N by omega] at e
  have e' := g' (N - 10 - 1 + 1)
  rw [show N - 10 - 1 + 1 + 10 = N by omega] at e'
  have f1 : fMo_run_3 N (N - 8 - 1 + 1) v1 v2 v3 v4 v5 (nI 8) σ1 = fMo_run_43 N N v1 v2 v3 v4 v5 (0 : Int32) σ1 := by
    rw [fMo_run_3, if_pos (show (8 : Int32) ≤ nI 8 by decide)]
  have f2 : fMo_run_43 N (N - 10 - 1 + 1) v1 v2 v3 v4 v5 (nI 10) σ2 = fMo_run_95 N N v1 v2 v3 v4 v5 (0 : Int32) (sA (sA (sA (sA σ2 0 (upd (σ2 0) 20 0)) 0 (upd (upd (σ2 0) 20 0) 21 0)) 0 (upd (upd (upd (σ2 0) 20 0) 21 0) 22 0)) 0 (upd (upd (upd (upd (σ2 0) 20 0) 21 0) 22 0) 23 0)) := by
    rw [fMo_run_43, if_pos (show (10 : Int32) ≤ nI 10 by decide), nm_d, nm_d, nm_d, nm_d]
    rfl
  exact ⟨_, ⟨(((y1.int 20 (by decide)).int 21 (by decide)).int 22 (by decide)).int 23 (by decide), y3, y4, fun i hi => by show σ2 18 i = _; rw [y2]; exact hl i hi, rfl, rfl, rfl, rfl⟩, (e.trans f1).trans (e'.trans f2)⟩
theorem start_DR {rm : Nat → Nat → Nat} (hN : rmN rm) {ru hm hc ca po : Nat} {lt : Nat → Nat} {σ0 δ σ : St} (hO : OP rm ru hc ca po lt δ) (hI : IM rm lt σ0 σ) : RES rm ru hm hc ca po 0 lt σ0 0 δ σ := by
  have h08 := hN.1
  have h10 := hN.2.1
  obtain ⟨a1, a2, a3, a4, a5, a6, a7, a8, a9, a10, a11, a12, a13⟩ := hO
  obtain ⟨b1, b2, b3, b4, b5, b6, b7, b8⟩ := hI
  refine ⟨0, δ 8, σ 25, ⟨b1, ⟨a1, a2, a3, a4, a5, a6, ?_, by rw [a9, b6], ⟨0, by decide, a10, b7⟩, ⟨0, by decide, a11, b8⟩⟩, fun i hi => ?_, fun s hs => ?_, a7, rfl, rfl, b5⟩, Nat.le_refl 0, fun j hj => absurd hj (by omega), fun j _ hj => absurd hj (by omega), rfl⟩
  · rw [a8, cntL_all (fun i hi => by rw [(a12 i hi).1]; decide)]
  · obtain ⟨c1, c2, c3⟩ := a12 i hi
    obtain ⟨d1, d2⟩ := b2 i (by omega)
    have hM := (hN.2.2.2.2.2.2.2.2 i hi).2.1.1
    refine ⟨⟨c3, b4 i hi, 0, Nat.zero_le _, c2, d2, Or.inr (by omega), fun z => ?_⟩, Or.inr ⟨rfl, by rw [c1, d1], Or.inl c1⟩⟩
    rw [c1] at z; cases z
  · obtain ⟨c1, c2⟩ := a13 s (by omega)
    obtain ⟨d1, d2⟩ := b3 s (by omega)
    exact ⟨by rw [c1, d1], by rw [c2, d2], Or.inl d1, Or.inl d2⟩
/-- A DAY, both sides, from the class's opened rows and any rows of the reference's -/
theorem day_sim {rm : Nat → Nat → Nat} {ρ : St} (hN : rmN rm) (hC : RoomC rm ρ) {ru hm hc ca po : Nat} {lt : Nat → Nat} {σ δ : St} (hM : RoomM rm 0 σ) (hH : HCp rm ru hm hc) {N : Nat} (hNN : 1000 ≤ N) (hru : ru < 5) (h0 : 0 < po) (hp : po < 100) (hlt : ∀ i, i < rm 0 0 → lt i ≤ 30) {last : Nat} (hl : last < 400) (hO : OP rm ru hc ca po lt δ) (h18 : ∀ i, i < rm 0 0 → σ 18 i = nI (lt i)) :
    ∃ δ' σ' rn, RES rm ru hm hc ca po (last + 1) lt σ rn δ' σ' ∧ fDa_runTo N (nI last) ρ δ = some δ' ∧ fMo_run N (nI ru) (nI hm) (nI last) (nI ca) (nI po) σ = some σ' := by
  obtain ⟨σ1, hI, e⟩ := Mo_run_init (rm := rm) (lt := lt) (N := N) (by omega) h18 (nI ru) (nI hm) (nI last) (nI ca) (nI po)
  obtain ⟨δ', σ', rn, hR, g1, g2⟩ := run_sim hN hC hM hH (show 100 ≤ N by omega) hru h0 hp hlt hl (last + 1) 0 δ σ1 (by omega) (start_DR hN hO hI)
  refine ⟨δ', σ', rn, hR, ?_, ?_⟩
  · rw [fDa_runTo, nm_d, hO.2.2.2.2.2.2.1]
    have := g1 (N - 1 - (last + 1))
    rw [show N - 1 - (last + 1) + 1 + (last + 1) = N by omega] at this
    exact this
  · rw [e]
    have := g2 (N - 1 - (last + 1))
    rw [show N - 1 - (last + 1) + 1 + (last + 1) = N by omega] at this
    exact this
/-- rows outside the day's own -/
theorem Mo_late0 {N : Nat} (hNN : 100 ≤ N) (v1 v2 v3 v4 v5 : Int32) (σ : St) : ∃ σ1, FM σ σ1 ∧ (∀ i, i < 8 → σ1 18 i = 0) ∧ fMo_goes N v1 v2 v3 v4 v5 σ = cl1 (fMo_run N v1 v2 v3 v4 v5 σ1) (fun σ_2 => some σ_2) := by
  obtain ⟨σ1, ⟨z1, z2⟩, g⟩ := lock1 (G := fun k σ' => FM σ σ' ∧ ∀ i, i < k → σ' 18 i = 0) (F1 := fun n k σ => fMo_goes_3 N n v1 v2 v3 v4 v5 (nI k) σ) 8 (fun k σ' hk hh => by
    obtain ⟨e1, e3⟩ := hh
    have g8 : ∀ x : Option St, gI (nI k) 8 x = x := fun x => gI_ok hk (by decide) x
    have ck : (nI k).toNatClampNeg = k := cl_nI (by omega)
    refine ⟨sA σ' 18 (upd (σ' 18) k 0), ⟨e1.arr 18 (by decide) (by decide), fun i hi => ?_⟩, fun n => ?_⟩
    · rw [sA_s]
      by_cases e : i = k
      · subst e; rw [upd_s]
      · rw [upd_n _ _ e]; exact e3 i (by omega)
    · rw [fMo_goes_3, if_neg (show ¬ (8 : Int32) ≤ nI k from nI_ge (b := 8) hk (by omega)), g8, ck, nm_d, nm_d, nI_1]) 8 0 σ (by omega) ⟨FM.rf σ, fun i hi => absurd hi (by omega)⟩
  have e := g (N - 8 - 1 + 1)
  rw [show N - 8 - 1 + 1 + 8 = N by omega] at e
  refine ⟨σ1, z1, z2, e.trans ?_⟩
  show fMo_goes_3 N (N - 8 - 1 + 1) v1 v2 v3 v4 v5 (nI 8) σ1 = _
  rw [fMo_goes_3, if_pos (show (8 : Int32) ≤ nI 8 by decide)]
theorem RES.base {rm : Nat → Nat → Nat} {ru hm hc ca po T rn : Nat} {lt : Nat → Nat} {σa σ0 δ σ : St} (h : FM σa σ0) (hR : RES rm ru hm hc ca po T lt σ0 rn δ σ) : RES rm ru hm hc ca po T lt σa rn δ σ := by
  obtain ⟨us, f8, f25, ⟨hF, hD⟩, hr⟩ := hR
  exact ⟨us, f8, f25, ⟨h.tr hF, hD⟩, hr⟩
/-- with no one late -/
theorem goes_sim {rm : Nat → Nat → Nat} {ρ : St} (hN : rmN rm) (hC : RoomC rm ρ) {ru hm hc ca po : Nat} {σ δ : St} (hM : RoomM rm 0 σ) (hH : HCp rm ru hm hc) {N : Nat} (hNN : 1000 ≤ N) (hru : ru < 5) (h0 : 0 < po) (hp : po < 100) {last : Nat} (hl : last < 400) (hO : OP rm ru hc ca po (fun _ => 0) δ) :
    ∃ δ' σ' rn, RES rm ru hm hc ca po (last + 1) (fun _ => 0) σ rn δ' σ' ∧ fDa_runTo N (nI last) ρ δ = some δ' ∧ fMo_goes N (nI ru) (nI hm) (nI last) (nI ca) (nI po) σ = some σ' := by
  have h08 := hN.1
  obtain ⟨σ1, z1, z2, e⟩ := Mo_late0 (N := N) (by omega) (nI ru) (nI hm) (nI last) (nI ca) (nI po) σ
  obtain ⟨δ', σ', rn, hR, g1, g2⟩ := day_sim (lt := fun _ => 0) hN hC (z1.room hM) hH hNN hru h0 hp (fun _ _ => by omega) hl hO (fun i hi => z2 i (by omega))
  exact ⟨δ', σ', rn, hR.base z1, g1, by rw [e, g2, cl1_s]⟩
theorem many_ok : ∀ h, h < 256 → fMo_many_4 0 9 (nI h) (0 : Int32) (0 : Int32) = some (bcv (nI h)) := by decide +kernel
theorem many_fuel (N M n m : Nat) (a : Int32) : ∀ (j k : Nat) (v : Int32), k + j = 8 → fMo_many_4 N (n + 1 + j) a v (nI k) = fMo_many_4 M (m + 1 + j) a v (nI k) := by
  intro j
  induction j with
  | zero =>
    intro k v hk
    have : k = 8 := by omega
    subst this
    rw [Nat.add_zero, Nat.add_zero, fMo_many_4, fMo_many_4, if_pos (show (8 : Int32) ≤ nI 8 by decide), if_pos (show (8 : Int32) ≤ nI 8 by decide)]
  | succ j ih =>
    intro k v hk
    have nl : ¬ (8 : Int32) ≤ nI k := nI_ge (b := 8) (by omega) (by omega)
    rw [show n + 1 + (j + 1) = (n + 1 + j) + 1 by omega, show m + 1 + (j + 1) = (m + 1 + j) + 1 by omega, fMo_many_4, fMo_many_4, if_neg nl, if_neg nl, nm_d, nm_d, nI_1]
    exact ih (k + 1) _ (by omega)
theorem Mo_many {N : Nat} (hNN : 100 ≤ N) {h : Nat} (hh : h < 256) : fMo_many N (nI h) = some (bcv (nI h)) := by
  unfold fMo_many
  have e := many_fuel N 0 (N - 9) 0 (nI h) 8 0 0 (by omega)
  rw [show N - 9 + 1 + 8 = N by omega] at e
  exact e.trans (many_ok h hh)
