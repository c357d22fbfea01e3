section DAY
variable {rm : Nat → Nat → Nat} {ru hm hc ca po t : Nat} {lt : Nat → Nat} {σ0 : St} {rn us : Int32} {f8 f25 : Nat → Int32} {pend pend' : Nat → Bool} {δ σ ρ : St}
theorem idle_minute (hN : rmN rm) (hM : RoomM rm 0 σ0) {N : Nat} (hNN : 100 ≤ N) (hru : ru < 5) (ht : t < 400) (h0 : 0 < po) (hp : po < 100) (h : DR rm ru hm hc ca po t lt σ0 rn us f8 f25 (fun _ => false) δ σ) (hz : ∀ i, i < rm 0 0 → δ 1 i = 4) (v2 : Int32) :
    fMo_minute N (nI ru) v2 (nI t) (nI ca) (nI po) σ = some (finM σ t 0) := by
  have h08 := hN.1
  have h10 := hN.2.1
  have hM' := h.1.room hM
  have g2 : ∀ x : Option St, gI (0 : Int32) 2 x = x := fun x => gI_ok (k := 0) (by decide) (by decide) x
  have st4 : ∀ k, k < rm 0 0 → σ 12 k = 4 := fun k hk => by rw [← (h.st hk rfl).1]; exact hz k hk
  have g8 : ∀ k, k < rm 0 0 → ∀ x : Option St, gI (nI k) 8 x = x := fun k hk x => gI_ok (by omega) (by decide) x
  have ck : ∀ k, k < rm 0 0 → (nI k).toNatClampNeg = k := fun k hk => cl_nI (by omega)
  have ml : ∀ k, k < rm 0 0 → ¬ σ 5 0 ≤ nI k := fun k hk => by rw [hM'.2.1]; exact nI_ge hk (by omega)
  have mle : σ 5 0 ≤ nI (rm 0 0) := by rw [hM'.2.1]; exact nI_le (Nat.le_refl _) (by omega)
  have n43 : ¬ (4 : Int32) = 3 := by decide
  have n40 : ¬ (4 : Int32) = 0 := by decide
  have n41 : ¬ (4 : Int32) = 1 := by decide
  have n42 : ¬ (4 : Int32) = 2 := by decide
  have eN : N - rm 0 0 - 1 + 1 + rm 0 0 = N := by omega
  have seats : ∀ s, s < rm 0 1 → σ 20 s = -1 ∧ σ 19 s = -1 := by
    intro s hs
    obtain ⟨-, -, a3, a4⟩ := h.2.2.2.1 s hs
    refine ⟨?_, ?_⟩
    · rcases a4 with a4 | ⟨i, hi, -, z, -⟩
      · exact a4
      · rw [hz i hi] at z; cases z
    · rcases a3 with a3 | ⟨i, hi, -, z, -⟩
      · exact a3
      · rw [hz i hi] at z; cases z
  have l3 : fMo_minute_3 N N (nI ru) v2 (nI t) (nI ca) (nI po) (0 : Int32) σ = cl1 (fMo_frees N (nI ru) (nI t) (nI ca) (nI po) σ) (fun σ_43 => fMo_minute_70 N N (nI ru) v2 (nI t) (0 : Int32) σ_43) := by
    obtain ⟨σ', h', g⟩ := lock1 (G := fun _ σ' => σ' = σ) (F1 := fun n k σ => fMo_minute_3 N n (nI ru) v2 (nI t) (nI ca) (nI po) (nI k) σ) (rm 0 0) (fun k σ1 hk e => by
      subst e
      refine ⟨σ1, rfl, fun n => ?_⟩
      rw [fMo_minute_3, g2, sb_cl0, if_neg (ml k hk), g8 k hk, ck k hk, st4 k hk, if_neg n43, fMo_minute_51, nm_d, nI_1]) (rm 0 0) 0 σ (by omega) rfl
    subst h'
    have e := g (N - rm 0 0 - 1 + 1)
    rw [eN] at e
    refine e.trans ?_
    show fMo_minute_3 N (N - rm 0 0 - 1 + 1) (nI ru) v2 (nI t) (nI ca) (nI po) (nI (rm 0 0)) σ' = _
    rw [fMo_minute_3, g2, sb_cl0, if_pos mle]
  have lf : fMo_frees N (nI ru) (nI t) (nI ca) (nI po) σ = some σ := by
    obtain ⟨σ', h', g⟩ := lock1 (G := fun _ σ' => σ' = σ) (F1 := fun n k σ => fMo_frees_3 N n (nI ru) (nI t) (nI ca) (nI po) (nI k) σ) (rm 0 1) (fun k σ1 hk e => by
      subst e
      refine ⟨σ1, rfl, fun n => ?_⟩
      rcases Mo_frees_step hN hM N hru ht h0 hp h hk with ⟨-, g⟩ | ⟨i, hi, -, -, z, -⟩
      · exact g n
      · rw [hz i hi] at z; cases z) (rm 0 1) 0 σ (by omega) rfl
    subst h'
    have e := g (N - rm 0 1 - 1 + 1)
    rw [show N - rm 0 1 - 1 + 1 + rm 0 1 = N by omega] at e
    exact e.trans (Mo_frees_end hN hM' N _ _ _ _ _)
  have l70 : fMo_minute_70 N N (nI ru) v2 (nI t) (0 : Int32) σ = fMo_minute_135 N N (nI ru) v2 (nI t) (0 : Int32) σ := by
    obtain ⟨σ', h', g⟩ := lock1 (G := fun _ σ' => σ' = σ) (F1 := fun n k σ => fMo_minute_70 N n (nI ru) v2 (nI t) (nI k) σ) (rm 0 0) (fun k σ1 hk e => by
      subst e
      refine ⟨σ1, rfl, fun n => ?_⟩
      rw [fMo_minute_70, g2, sb_cl0, if_neg (ml k hk), g8 k hk, ck k hk, st4 k hk, if_neg n40, fMo_minute_126, nm_d, nI_1]) (rm 0 0) 0 σ (by omega) rfl
    subst h'
    have e := g (N - rm 0 0 - 1 + 1)
    rw [eN] at e
    refine e.trans ?_
    show fMo_minute_70 N (N - rm 0 0 - 1 + 1) (nI ru) v2 (nI t) (nI (rm 0 0)) σ' = _
    rw [fMo_minute_70, g2, sb_cl0, if_pos mle]
  have l135 : fMo_minute_135 N N (nI ru) v2 (nI t) (0 : Int32) σ = fMo_minute_174 N N (nI ru) v2 (nI t) (0 : Int32) σ := by
    obtain ⟨σ', h', g⟩ := lock1 (G := fun _ σ' => σ' = σ) (F1 := fun n k σ => fMo_minute_135 N n (nI ru) v2 (nI t) (nI k) σ) (rm 0 0) (fun k σ1 hk e => by
      subst e
      refine ⟨σ1, rfl, fun n => ?_⟩
      rw [fMo_minute_135, g2, sb_cl0, if_neg (ml k hk), g8 k hk, ck k hk, st4 k hk, if_neg n41, fMo_minute_165, nm_d, nI_1]) (rm 0 0) 0 σ (by omega) rfl
    subst h'
    have e := g (N - rm 0 0 - 1 + 1)
    rw [eN] at e
    refine e.trans ?_
    show fMo_minute_135 N (N - rm 0 0 - 1 + 1) (nI ru) v2 (nI t) (nI (rm 0 0)) σ' = _
    rw [fMo_minute_135, g2, sb_cl0, if_pos mle]
  have l174 : fMo_minute_174 N N (nI ru) v2 (nI t) (0 : Int32) σ = fMo_minute_217 N N (nI t) (0 : Int32) (0 : Int32) σ := by
    obtain ⟨σ', h', g⟩ := lock1 (G := fun _ σ' => σ' = σ) (F1 := fun n k σ => fMo_minute_174 N n (nI ru) v2 (nI t) (nI k) σ) (rm 0 0) (fun k σ1 hk e => by
      subst e
      refine ⟨σ1, rfl, fun n => ?_⟩
      rw [fMo_minute_174, g2, sb_cl0, if_neg (ml k hk), g8 k hk, ck k hk, st4 k hk, if_neg n42, fMo_minute_205, nm_d, nI_1]) (rm 0 0) 0 σ (by omega) rfl
    subst h'
    have e := g (N - rm 0 0 - 1 + 1)
    rw [eN] at e
    refine e.trans ?_
    show fMo_minute_174 N (N - rm 0 0 - 1 + 1) (nI ru) v2 (nI t) (nI (rm 0 0)) σ' = _
    rw [fMo_minute_174, g2, sb_cl0, if_pos mle]
  have l217 : fMo_minute_217 N N (nI t) (0 : Int32) (0 : Int32) σ = some (finM σ t 0) := by
    obtain ⟨σ', h', g⟩ := lock1 (G := fun _ σ' => σ' = σ) (F1 := fun n k σ => fMo_minute_217 N n (nI t) (0 : Int32) (nI k) σ) (rm 0 1) (fun k σ1 hk e => by
      subst e
      refine ⟨σ1, rfl, fun n => ?_⟩
      have mls : ¬ σ1 4 0 ≤ nI k := by rw [hM'.1]; exact nI_ge hk (by omega)
      have g10 : ∀ x : Option St, gI (nI k) 10 x = x := fun x => gI_ok (by omega) (by decide) x
      rw [fMo_minute_217, g2, sb_cl0, if_neg mls, g10, cl_nI (by omega), (seats k hk).2, if_pos m1_neg, fMo_minute_245, nm_d, g10, cl_nI (by omega), (seats k hk).1, if_pos m1_neg, fMo_minute_268, nm_d, nm_d, nI_1]
      rw [show σ1 0 21 + (0 : Int32) = σ1 0 21 by simp, sA_usame, show (0 : Int32) + 0 = 0 by decide]) (rm 0 1) 0 σ (by omega) rfl
    subst h'
    have e := g (N - rm 0 1 - 1 + 1)
    rw [show N - rm 0 1 - 1 + 1 + rm 0 1 = N by omega] at e
    refine e.trans ?_
    have mls : σ' 4 0 ≤ nI (rm 0 1) := by rw [hM'.1]; exact nI_le (Nat.le_refl _) (by omega)
    show fMo_minute_217 N (N - rm 0 1 - 1 + 1) (nI t) (0 : Int32) (nI (rm 0 1)) σ' = _
    rw [fMo_minute_217, g2, sb_cl0, if_pos mls, gI_ok ht (by decide), cl_nI (by omega), nm_d, nm_d]
    rfl
  unfold fMo_minute
  rw [l3, lf, cl1_s, l70, l135, l174, l217]
/-- the day up to T: rn minutes were gone through by the class, in the others nobody is there -/
def RES (rm : Nat → Nat → Nat) (ru hm hc ca po T : Nat) (lt : Nat → Nat) (σ0 : St) (rn : Nat) (δ σ : St) : Prop :=
  ∃ us f8 f25, DR rm ru hm hc ca po T lt σ0 (nI rn) us f8 f25 (fun _ => false) δ σ ∧ rn ≤ T ∧ (∀ j, j < rn → ∃ c, c ≤ 10 ∧ f8 j = nI c ∧ f25 j = nI c) ∧ (∀ j, rn ≤ j → j < T → f25 j = 0) ∧ us = sumI f25 T
theorem RES.step {T rn : Nat} {δ' σ' : St} {us : Int32} {f8 f25 : Nat → Int32} (hrn : rn ≤ T) (hj : ∀ j, j < rn → ∃ c, c ≤ 10 ∧ f8 j = nI c ∧ f25 j = nI c) (hz : ∀ j, rn ≤ j → j < T → f25 j = 0) (hu : us = sumI f25 T) (h : DR rm ru hm hc ca po (T + 1) lt σ0 (nI rn) (us + 0) f8 (upd f25 T 0) (fun _ => false) δ' σ') : RES rm ru hm hc ca po (T + 1) lt σ0 rn δ' σ' := by
  refine ⟨us + 0, f8, upd f25 T 0, h, by omega, fun j hjr => ?_, fun j h1 h2 => ?_, ?_⟩
  · obtain ⟨c, c1, c2, c3⟩ := hj j hjr
    exact ⟨c, c1, c2, by rw [upd_n _ _ (by omega)]; exact c3⟩
  · by_cases e : j = T
    · subst e; rw [upd_s]
    · rw [upd_n _ _ e]; exact hz j h1 (by omega)
  · rw [sumI, upd_s, hu, sumI_cong (f := upd f25 T 0) (g := f25) (fun i hi => by rw [upd_n _ _ (by omega)])]
theorem idle_run (hN : rmN rm) (hM : RoomM rm 0 σ0) {N : Nat} (hNN : 100 ≤ N) (hru : ru < 5) (h0 : 0 < po) (hp : po < 100) {last : Nat} (hl : last < 400) (v2 : Int32) {rn : Nat} (hz : ∀ i, i < rm 0 0 → δ 1 i = 4) : ∀ (j t : Nat) (σ : St), t + j = last + 1 → RES rm ru hm hc ca po t lt σ0 rn δ σ →
    ∃ σ', RES rm ru hm hc ca po (last + 1) lt σ0 rn δ σ' ∧ ∀ n, fMo_run_95 N (n + 1 + j) (nI ru) v2 (nI last) (nI ca) (nI po) (nI t) σ = some σ' := by
  intro j
  induction j with
  | zero =>
    intro t σ htj h
    have : t = last + 1 := by omega
    subst this
    refine ⟨σ, h, fun n => ?_⟩
    rw [Nat.add_zero, fMo_run_95, if_pos (show nI last < nI (last + 1) from nI_lt (by omega) (by omega))]
  | succ j ih =>
    intro t σ htj h
    obtain ⟨us, f8, f25, hD, hrn, hj, hzz, hu⟩ := h
    have e := idle_minute hN hM hNN hru (by omega) h0 hp hD hz v2
    have h2 := RES.step hrn hj hzz hu (hD.finM 0).mono
    obtain ⟨σ', h3, g⟩ := ih (t + 1) (finM σ t 0) (by omega) h2
    refine ⟨σ', h3, fun n => ?_⟩
    rw [show n + 1 + (j + 1) = (n + 1 + j) + 1 by omega, fMo_run_95, if_neg (show ¬ nI last < nI t from nI_nlt (by omega) (by omega)), e, cl1_s, nm_d, nI_1]
    exact g n
theorem run_sim (hN : rmN rm) (hC : RoomC rm ρ) (hM : RoomM rm 0 σ0) (hH : HCp rm ru hm hc) {N : Nat} (hNN : 100 ≤ N) (hru : ru < 5) (h0 : 0 < po) (hp : po < 100) (hlt : ∀ i, i < rm 0 0 → lt i ≤ 30) {last : Nat} (hl : last < 400) : ∀ (j t : Nat) (δ σ : St), t + j = last + 1 → RES rm ru hm hc ca po t lt σ0 t δ σ →
    ∃ δ' σ' rn, RES rm ru hm hc ca po (last + 1) lt σ0 rn δ' σ' ∧ (∀ n, fDa_runTo_5 N ρ (n + 1 + j) (nI last) (nI t) δ = some δ') ∧ ∀ n, fMo_run_95 N (n + 1 + j) (nI ru) (nI hm) (nI last) (nI ca) (nI po) (nI t) σ = some σ' := by
  have h08 := hN.1
  intro j
  induction j with
  | zero =>
    intro t δ σ htj h
    have : t = last + 1 := by omega
    subst this
    refine ⟨δ, σ, last + 1, h, fun n => ?_, fun n => ?_⟩
    · rw [Nat.add_zero, fDa_runTo_5, if_pos (show nI last < nI (last + 1) from nI_lt (by omega) (by omega)), fDa_runTo_62]
    · rw [Nat.add_zero, fMo_run_95, if_pos (show nI last < nI (last + 1) from nI_lt (by omega) (by omega))]
  | succ j ih =>
    intro t δ σ htj h
    obtain ⟨us, f8, f25, hD, hrn, hj, hzz, hu⟩ := id h
    have nl : ¬ nI last < nI t := nI_nlt (by omega) (by omega)
    have n400 : ¬ (400 : Int32) ≤ nI t := nI_ge (b := 400) (by omega) (by omega)
    have a7 : δ 0 16 = nI (cntL (δ 1) (rm 0 0)) := hD.2.1.2.2.2.2.2.2.1
    have hcl := cntL_le (δ 1) (rm 0 0)
    by_cases hc0 : cntL (δ 1) (rm 0 0) = 0
    · obtain ⟨σ', h3, g⟩ := idle_run (δ := δ) hN hM hNN hru h0 hp hl (nI hm) (cntL_zero hc0) (j + 1) t σ htj h
      refine ⟨δ, σ', t, h3, fun n => ?_, g⟩
      have z : δ 0 16 ≤ 0 := by rw [a7, hc0]; decide
      rw [show n + 1 + (j + 1) = (n + 1 + j) + 1 by omega, fDa_runTo_5, if_neg nl, if_neg n400, if_pos z, fDa_runTo_62]
    · obtain ⟨δ1, δ2, δ3, δ4, δ5, σ1, c, hc10, h5, d1, d2, d3, d4, d5, m⟩ := minute_sim hN hC hM hH hNN hru (by omega) h0 hp hlt hD
      have z : ¬ δ 0 16 ≤ 0 := by rw [a7]; exact nI_nle (by omega) (by omega)
      have h6 : RES rm ru hm hc ca po (t + 1) lt σ0 (t + 1) (sA δ5 0 (upd (δ5 0) 15 (nI (t + 1)))) σ1 := by
        refine ⟨us + nI c, upd f8 t (nI c), upd f25 t (nI c), (h5.ran (nI (t + 1))).mono, Nat.le_refl _, fun j hjt => ?_, fun j h1 h2 => absurd h1 (by omega), ?_⟩
        · by_cases e : j = t
          · subst e; exact ⟨c, hc10, upd_s _ _ _, upd_s _ _ _⟩
          · obtain ⟨c', c1, c2, c3⟩ := hj j (by omega)
            exact ⟨c', c1, by rw [upd_n _ _ e]; exact c2, by rw [upd_n _ _ e]; exact c3⟩
        · rw [sumI, upd_s, hu, sumI_cong (f := upd f25 t (nI c)) (g := f25) (fun i hi => by rw [upd_n _ _ (by omega)])]
      obtain ⟨δ', σ', rn, h7, g1, g2⟩ := ih (t + 1) _ σ1 (by omega) h6
      refine ⟨δ', σ', rn, h7, fun n => ?_, fun n => ?_⟩
      · rw [show n + 1 + (j + 1) = (n + 1 + j) + 1 by omega, fDa_runTo_5, if_neg nl, if_neg n400, if_neg z, d1, cl1_s, d2, cl1_s, d3, cl1_s, d4, cl1_s, d5, cl1_s, nm_d, nm_d, nI_1]
        exact g1 n
      · rw [show n + 1 + (j + 1) = (n + 1 + j) + 1 by omega, fMo_run_95, if_neg nl, m, cl1_s, nm_d, nI_1]
        exact g2 n
end DAY
