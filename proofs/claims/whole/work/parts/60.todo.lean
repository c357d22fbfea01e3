theorem P_fault {N : Nat} (hNN : 5000 ≤ N) {μ ς τ ε γ : St} {Γ : Nat → Int64} {δ ρ σ : St} {Λ : Nat → Int64} {dr r0 : Nat} (hR : Rel N μ τ γ Γ ρ σ) : ∃ (r : Int32) (ς' : St) (ε' : St) (σ' : St), fMa_fault N τ ς ε = some (r, ς', ε') ∧ fMo_fault N σ = some (r, σ') ∧ Rel N μ τ γ Γ ρ σ' := by
  sorry
theorem P_lay {N : Nat} (hNN : 5000 ≤ N) {μ ς τ ε γ : St} {Γ : Nat → Int64} {δ ρ σ : St} {Λ : Nat → Int64} {dr r0 : Nat} (hR : Rel N μ τ γ Γ ρ σ) : ∃ (r : Int32) (bb : Bool) (μ' : St) (ς' : St) (ε' : St) (γ' : St) (ρ' : St) (σ' : St), fMa_lay N τ μ ς ε γ ρ = some (r, bb, μ', ς', ε', γ', ρ') ∧ fMo_lay N σ = some (r, σ') ∧ Rel N μ' τ γ' Γ ρ' σ' := by
  sorry
theorem P_rests {N : Nat} (hNN : 5000 ≤ N) {μ ς τ ε γ : St} {Γ : Nat → Int64} {δ ρ σ : St} {Λ : Nat → Int64} {dr r0 : Nat} (hR : Rel N μ τ γ Γ ρ σ) (a0 : Int32) (a1 : Int32) : ∃ (r : Int32) (γ' : St) (Γ' : Nat → Int64) (δ' : St) (dr' : Nat) (σ' : St), fMa_rests N a0 a1 ρ r0 γ Γ δ dr = some (r, γ', Γ', δ', dr') ∧ fMo_rests N a0 a1 σ = some (r, σ') ∧ Rel N μ τ γ' Γ' ρ σ' := by
  sorry
