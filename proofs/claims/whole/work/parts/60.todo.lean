theorem P_fault {N : Nat} (hNN : 5000 ≤ N) {μ ς τ ε γ : St} {Γ : Nat → Int64} {δ ρ σ : St} {Λ : Nat → Int64} {dr r0 : Nat} (hR : Rel N μ τ γ Γ ρ σ) : ∃ (r : Int32) (ς' : St) (ε' : St) (σ' : St), fMa_fault N τ ς ε = some (r, ς', ε') ∧ fMo_fault N σ = some (r, σ') ∧ Rel N μ τ γ Γ ρ σ' := by
  sorry
theorem P_lay {N : Nat} (hNN : 5000 ≤ N) {μ ς τ ε γ : St} {Γ : Nat → Int64} {δ ρ σ : St} {Λ : Nat → Int64} {dr r0 : Nat} (hR : Rel N μ τ γ Γ ρ σ) : ∃ (r : Int32) (bb : Bool) (μ' : St) (ς' : St) (ε' : St) (γ' : St) (ρ' : St) (σ' : St), fMa_lay N τ μ ς ε γ ρ = some (r, bb, μ', ς', ε', γ', ρ') ∧ fMo_lay N σ = some (r, σ') ∧ Rel N μ' τ γ' Γ ρ' σ' := by
  sorry
