/-! the first room -/
theorem gc_1_2 (x : Option St) : gI (1 : Int32) 2 x = x := gI_ok (k := 1) (by decide) (by decide) x
theorem gc_5_10 (x : Option St) : gI (5 : Int32) 10 x = x := gI_ok (k := 5) (by decide) (by decide) x
theorem gc_6_10 (x : Option St) : gI (6 : Int32) 10 x = x := gI_ok (k := 6) (by decide) (by decide) x
theorem gc_7_10 (x : Option St) : gI (7 : Int32) 10 x = x := gI_ok (k := 7) (by decide) (by decide) x
theorem gc_8_10 (x : Option St) : gI (8 : Int32) 10 x = x := gI_ok (k := 8) (by decide) (by decide) x
theorem gc_9_10 (x : Option St) : gI (9 : Int32) 10 x = x := gI_ok (k := 9) (by decide) (by decide) x
theorem gc_56_112 (x : Option St) : gI (56 : Int32) 112 x = x := gI_ok (k := 56) (by decide) (by decide) x
theorem gc_57_112 (x : Option St) : gI (57 : Int32) 112 x = x := gI_ok (k := 57) (by decide) (by decide) x
theorem gc_58_112 (x : Option St) : gI (58 : Int32) 112 x = x := gI_ok (k := 58) (by decide) (by decide) x
theorem gc_59_112 (x : Option St) : gI (59 : Int32) 112 x = x := gI_ok (k := 59) (by decide) (by decide) x
theorem gc_60_112 (x : Option St) : gI (60 : Int32) 112 x = x := gI_ok (k := 60) (by decide) (by decide) x
theorem gc_61_112 (x : Option St) : gI (61 : Int32) 112 x = x := gI_ok (k := 61) (by decide) (by decide) x
theorem gc_62_112 (x : Option St) : gI (62 : Int32) 112 x = x := gI_ok (k := 62) (by decide) (by decide) x
def fI (w : Nat) : Nat := [0, 60, 30, 10, 0, 5, 5].getD w 0
def rmI : Nat → Nat → Nat := rmR (rmS rmZ 0) fI
theorem fI_ok : okR fI := by unfold okR; decide
theorem rmI_N : rmN rmI := rmR_N (rmS_N rmZ_N (by omega) (by decide)) fI_ok (by decide)
theorem Mo_first (N : Nat) : ∃ σ, fMo_init N = cl1 (fMo_takes N σ) (fun σ_21 => some σ_21) ∧ RoomM rmI 1 σ ∧ σ 0 0 = 0 := by
  unfold fMo_init fMo_initS fMo_begins
  simp only [gc_1_2, gc_5_10, gc_6_10, gc_7_10, gc_8_10, gc_9_10, gc_56_112, gc_57_112, gc_58_112, gc_59_112, gc_60_112, gc_61_112, gc_62_112, nm_d, cl1_s]
  refine ⟨_, rfl, ⟨rfl, rfl, rfl, rfl, rfl, rfl, rfl, fun s hs => ?_, fun i hi w hw => ?_⟩, rfl⟩
  · have h1 : rmI 0 1 = 1 := by decide
    have : s = 0 := by omega
    subst this
    rfl
  · have h1 : rmI 0 0 = 1 := by decide
    have : i = 0 := by omega
    subst this
    revert w
    decide
theorem P_init {N : Nat} (hNN : 5000 ≤ N) : ∃ (μ ς τ ε γ ρ σ : St), fMa_init N = some (μ, ς, τ, ε, γ, ρ) ∧ fMo_init N = some σ ∧ Rel N μ τ γ (fun _ => (0 : Int64)) ρ σ := by
  obtain ⟨ρ1, r1, r2⟩ := Ro_clear N z0
  have e1 : fRo_init N = some ρ1 := by unfold fRo_init fRo_initS; rw [r1, cl1_s]
  obtain ⟨ρ2, s1, s2⟩ := Ro_addSeat rmZ_N r2 N 0 (by decide)
  obtain ⟨ρ3, t1, t2⟩ := Ro_addReader (rmS_N rmZ_N (by omega) (by decide)) s2 N (told := zReader) (f := fI) (by decide) (by decide)
  obtain ⟨σ, q1, q2, q3⟩ := Mo_first N
  obtain ⟨σ', k1, k2, k3, k4, k5, k6, k7⟩ := Mo_takes (N := N) (by omega) rmI_N q2
  have h00 : rmI 0 0 = 1 := by decide
  have hC : RoomC rmI ρ3 := t2
  have ev : fRo_everybody N ρ3 = some (nI (2 ^ rmI 0 0 - 1)) := by
    unfold fRo_everybody
    rw [hC.2.1, ev_ok _ (by omega)]
  refine ⟨sA (sA z0 0 (upd (z0 0) 8 (0 : Int32))) 0 (upd (upd (z0 0) 8 (0 : Int32)) 9 (nI (2 ^ rmI 0 0 - 1))), sA z0 0 (upd (z0 0) 2 (0 : Int32)), sA z0 0 (upd (z0 0) 1 (0 : Int32)), ρ1, sA (sA z0 0 (upd (z0 0) 3 (-1 : Int32))) 0 (upd (upd (z0 0) 3 (-1 : Int32)) 4 (0 : Int32)), ρ3, σ', ?_, ?_, rmI, 2 ^ rmI 0 0 - 1, 0, 0, rmI_N, hC, k2, ⟨by omega, ?_, ?_, fun j hj => absurd hj (by omega)⟩, ⟨by rw [h00]; decide, ?_, k3, by omega, ?_, k4, fun j hj => absurd hj (by omega)⟩, Or.inl ?_⟩
  · unfold fMa_init
    rw [show fTe_init N = some (sA z0 0 (upd (z0 0) 1 (0 : Int32))) from rfl, cl1_s, show fSc_init N = some (sA z0 0 (upd (z0 0) 2 (0 : Int32))) from rfl, cl1_s, e1, cl1_s, show (0 : Int32) = nI 0 from rfl, s1, cl2_s, t1, cl2_s, cl1_s, show fGa_init N = some (sA (sA z0 0 (upd (z0 0) 3 (-1 : Int32))) 0 (upd (upd (z0 0) 3 (-1 : Int32)) 4 (0 : Int32))) from rfl, cl1_s]
    unfold fMa_initS
    rw [nm_d, ev, cl1_s, nm_d, cl1_s, sA_s]
    rfl
  · rw [q1, k1, cl1_s]
  · rw [sA_s, upd_s]; rfl
  · rw [k5, q3]; rfl
  · rw [sA_s, upd_s]
  · rw [sA_s, upd_n _ _ (by decide), upd_s]; rfl
  · rw [sA_s, upd_n _ _ (by decide), upd_s]
