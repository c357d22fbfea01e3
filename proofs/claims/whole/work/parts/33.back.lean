/-! two loops side by side -/
theorem lock {G : Nat → St → St → Prop} {F1 F2 : Nat → Nat → St → Option St} (e : Nat)
    (step : ∀ k δ σ, k < e → G k δ σ → ∃ δ1 σ1, G (k + 1) δ1 σ1 ∧ (∀ n, F1 (n + 1) k δ = F1 n (k + 1) δ1) ∧ (∀ n, F2 (n + 1) k σ = F2 n (k + 1) σ1)) :
    ∀ (j k : Nat) (δ σ : St), k + j = e → G k δ σ → ∃ δ' σ', G e δ' σ' ∧ (∀ n, F1 (n + j) k δ = F1 n e δ') ∧ (∀ n, F2 (n + j) k σ = F2 n e σ') := by
  intro j
  induction j with
  | zero =>
    intro k δ σ hk h
    have : k = e := by omega
    subst this
    exact ⟨δ, σ, h, fun _ => rfl, fun _ => rfl⟩
  | succ j ih =>
    intro k δ σ hk h
    obtain ⟨δ1, σ1, h1, e1, e2⟩ := step k δ σ (by omega) h
    obtain ⟨δ', σ', h', g1, g2⟩ := ih (k + 1) δ1 σ1 (by omega) h1
    exact ⟨δ', σ', h', fun n => (e1 (n + j)).trans (g1 n), fun n => (e2 (n + j)).trans (g2 n)⟩
theorem lock1 {G : Nat → St → Prop} {F1 : Nat → Nat → St → Option St} (e : Nat)
    (step : ∀ k δ, k < e → G k δ → ∃ δ1, G (k + 1) δ1 ∧ (∀ n, F1 (n + 1) k δ = F1 n (k + 1) δ1)) :
    ∀ (j k : Nat) (δ : St), k + j = e → G k δ → ∃ δ', G e δ' ∧ (∀ n, F1 (n + j) k δ = F1 n e δ') := by
  intro j
  induction j with
  | zero =>
    intro k δ hk h
    have : k = e := by omega
    subst this
    exact ⟨δ, h, fun _ => rfl⟩
  | succ j ih =>
    intro k δ hk h
    obtain ⟨δ1, h1, e1⟩ := step k δ (by omega) h
    obtain ⟨δ', h', g1⟩ := ih (k + 1) δ1 (by omega) h1
    exact ⟨δ', h', fun n => (e1 (n + j)).trans (g1 n)⟩
/-! what single calls do to the rows -/
def sitD (δ : St) (k p : Nat) : St := sA (sA (sA (sA δ 6 (upd (δ 6) p (nI k))) 7 (upd (δ 7) p (-1))) 2 (upd (δ 2) k (nI p))) 1 (upd (δ 1) k 2)
theorem Da_sitDown (N : Nat) {k p : Nat} (hk : k < 8) (hp : p < 10) (δ : St) : fDa_sitDown N (nI k) (nI p) δ = some (sitD δ k p) := by
  unfold fDa_sitDown
  rw [if_neg (nI_pos (by omega)), if_pos (show nI p < (10 : Int32) from nI_lt (b := 10) hp (by omega))]
  simp only [gI_ok hp (by decide : 10 < 2 ^ 31), gI_ok hk (by decide : 8 < 2 ^ 31), cl_nI (show k < 2 ^ 31 by omega), cl_nI (show p < 2 ^ 31 by omega), nm_d]
  rfl
theorem Da_holderOf (N : Nat) {p : Nat} (hp : p < 10) (δ : St) : fDa_holderOf N (nI p) δ = some (δ 7 p) := by
  unfold fDa_holderOf
  rw [if_neg (nI_pos (by omega)), if_neg (show ¬ (10 : Int32) ≤ nI p from nI_ge (b := 10) hp (by omega)), gI_ok hp (by decide), cl_nI (by omega)]
  rfl
theorem Da_offFor (N : Nat) {k : Nat} (hk : k < 8) (x : Int32) (δ : St) : fDa_offFor N (nI k) x δ = some (x - δ 3 k) := by
  unfold fDa_offFor
  rw [if_neg (nI_pos (by omega)), if_neg (show ¬ (8 : Int32) ≤ nI k from nI_ge (b := 8) hk (by omega)), gI_ok hk (by decide), cl_nI (by omega)]
  rfl
def bkD (δ : St) (k : Nat) (t x : Int32) : St := sA (sA (sA δ 1 (upd (δ 1) k 1)) 3 (upd (δ 3) k t)) 0 (upd (δ 0) 19 x)
def bsM (σ : St) (k p : Nat) : St := sA (sA (sA σ 20 (upd (σ 20) p (-1))) 19 (upd (σ 19) p (nI k))) 12 (upd (σ 12) k 2)
def bkM (σ : St) (k : Nat) (t x : Int32) : St := sA (sA (sA σ 12 (upd (σ 12) k 1)) 15 (upd (σ 15) k t)) 0 (upd (σ 0) 23 x)
theorem Mo_comesBack_sit (N : Nat) {k p : Nat} (hk : k < 8) (hp : p < 10) (t : Int32) {σ : St} (e : σ 13 k = nI p) (h : σ 20 p = nI k) : fMo_comesBack N (nI k) t σ = some (bsM σ k p) := by
  unfold fMo_comesBack
  simp only [gI_ok hk (by decide : 8 < 2 ^ 31), cl_nI (show k < 2 ^ 31 by omega), nm_d, e, gI_ok hp (by decide : 10 < 2 ^ 31), cl_nI (show p < 2 ^ 31 by omega), h, ↓reduceIte]
  rfl
theorem Mo_comesBack_seek (N : Nat) {k p : Nat} (hk : k < 8) (hp : p < 10) (t : Int32) {σ : St} (e : σ 13 k = nI p) (h : ¬ σ 20 p = nI k) : fMo_comesBack N (nI k) t σ = some (bkM σ k t (σ 0 23 ||| (if σ 17 k = 0 then 0 else (1 : Int32) <<< (nI k &&& 31)))) := by
  unfold fMo_comesBack
  simp only [gI_ok hk (by decide : 8 < 2 ^ 31), cl_nI (show k < 2 ^ 31 by omega), nm_d, e, gI_ok hp (by decide : 10 < 2 ^ 31), cl_nI (show p < 2 ^ 31 by omega), h, ↓reduceIte]
  by_cases c : σ 17 k = 0
  · rw [if_pos c]
    have c2 : (sA (sA σ 12 (upd (σ 12) k 1)) 15 (upd (sA σ 12 (upd (σ 12) k 1) 15) k t)) 17 k = 0 := c
    rw [if_pos c2]
    rfl
  · rw [if_neg c]
    have c2 : ¬ (sA (sA σ 12 (upd (σ 12) k 1)) 15 (upd (sA σ 12 (upd (σ 12) k 1) 15) k t)) 17 k = 0 := c
    rw [if_neg c2]
    rfl
section DAY
variable {rm : Nat → Nat → Nat} {ru hm hc ca po t : Nat} {lt : Nat → Nat} {σ0 : St} {rn us : Int32} {f8 f25 : Nat → Int32} {pend : Nat → Bool} {δ σ ρ : St}
/-- one who was off sits again on the seat that it held -/
theorem DR.bsit (hN : rmN rm) (h : DR rm ru hm hc ca po t lt σ0 rn us f8 f25 pend δ σ) {k p : Nat} (hk : k < rm 0 0) (hp : pend k = false) (e1 : δ 1 k = 3) (hps : p < rm 0 1) (e2 : δ 2 k = nI p) (e3 : σ 13 k = nI p) : DR rm ru hm hc ca po t lt σ0 rn us f8 f25 pend (sitD δ k p) (bsM σ k p) := by
  have h10 := hN.2.1
  have h08 := hN.1
  obtain ⟨hF, hC, hR, hS, h15, h8, h25, h20⟩ := h
  refine ⟨((hF.arr 20 (by decide) (by decide)).arr 19 (by decide) (by decide)).arr 12 (by decide) (by decide), ?_, fun i hi => ?_, fun s hs => ?_, h15, h8, h25, h20⟩
  · obtain ⟨a1, a2, a3, a4, a5, a6, a7, a8⟩ := hC
    refine ⟨a1, a2, a3, a4, a5, a6, ?_, a8⟩
    show δ 0 16 = nI (cntL (upd (δ 1) k 2) (rm 0 0))
    rw [cntL_same (by rw [e1]; decide) (by decide)]
    exact a7
  · by_cases hik : i = k
    · subst hik
      obtain ⟨⟨b1, b2, q, b3, b4, b5, b6, b7⟩, -⟩ := hR i hi
      refine ⟨⟨b1, b2, q, b3, b4, b5, Or.inr ?_, fun z => ?_⟩, Or.inr ⟨hp, ?_, ?_⟩⟩
      · rcases b6 with b6 | b6
        · rw [e1] at b6; cases b6
        · exact b6
      · have z : upd (δ 1) i 2 i = 3 := z
        rw [upd_s] at z; cases z
      · show upd (δ 1) i 2 i = upd (σ 12) i 2 i
        rw [upd_s, upd_s]
      · refine Or.inr (Or.inr (Or.inl ⟨upd_s _ _ _, p, hps, upd_s _ _ _, e3⟩))
    · exact (hR i hi).cong rfl (upd_n _ _ hik) (upd_n _ _ hik) rfl rfl rfl (upd_n _ _ hik) rfl rfl rfl rfl rfl rfl
  · by_cases hsp : s = p
    · subst hsp
      refine ⟨?_, ?_, Or.inr ⟨k, hk, upd_s _ _ _, upd_s _ _ _, upd_s _ _ _⟩, Or.inl (upd_s _ _ _)⟩
      · show upd (δ 6) s (nI k) s = upd (σ 19) s (nI k) s
        rw [upd_s, upd_s]
      · show upd (δ 7) s (-1) s = upd (σ 20) s (-1) s
        rw [upd_s, upd_s]
    · refine (hS s hs).keep (upd_n _ _ hsp) (upd_n _ _ hsp) (upd_n _ _ hsp) (upd_n _ _ hsp) (fun i hi _ z1 z2 => ?_) (fun i hi _ z1 z2 => ?_)
      · have hik : i ≠ k := fun z => by rw [z, e1] at z1; cases z1
        exact ⟨(upd_n _ _ hik).trans z1, (upd_n _ _ hik).trans z2⟩
      · have hik : i ≠ k := fun z => hsp (nI_inj (by omega) (by omega) (by rw [← z2, z, e2]))
        exact ⟨(upd_n _ _ hik).trans z1, (upd_n _ _ hik).trans z2⟩
/-- one who was off seeks again -/
theorem DR.bseek (hN : rmN rm) (h : DR rm ru hm hc ca po t lt σ0 rn us f8 f25 pend δ σ) {k p : Nat} (hk : k < rm 0 0) (hp : pend k = false) (e1 : δ 1 k = 3) (hps : p < rm 0 1) (e2 : δ 2 k = nI p) (e4 : ¬ σ 20 p = nI k) {x y : Int32} (hxy : ∃ q, q < 256 ∧ x = nI q ∧ y = nI q) : DR rm ru hm hc ca po t lt σ0 rn us f8 f25 pend (bkD δ k (nI t) x) (bkM σ k (nI t) y) := by
  have h10 := hN.2.1
  have h08 := hN.1
  obtain ⟨hF, hC, hR, hS, h15, h8, h25, h20⟩ := h
  refine ⟨((hF.arr 12 (by decide) (by decide)).arr 15 (by decide) (by decide)).int 23 (by decide), ?_, fun i hi => ?_, fun s hs => ?_, h15, h8, h25, h20⟩
  · obtain ⟨a1, a2, a3, a4, a5, a6, a7, a8, a9, a10⟩ := hC
    refine ⟨a1, a2, a3, a4, a5, a6, ?_, a8, a9, hxy⟩
    show δ 0 16 = nI (cntL (upd (δ 1) k 1) (rm 0 0))
    rw [cntL_same (by rw [e1]; decide) (by decide)]
    exact a7
  · by_cases hik : i = k
    · subst hik
      obtain ⟨⟨b1, b2, q, b3, b4, b5, b6, b7⟩, -⟩ := hR i hi
      refine ⟨⟨b1, b2, q, b3, b4, b5, Or.inr ?_, fun z => ?_⟩, Or.inr ⟨hp, ?_, ?_⟩⟩
      · rcases b6 with b6 | b6
        · rw [e1] at b6; cases b6
        · exact b6
      · have z : upd (δ 1) i 1 i = 3 := z
        rw [upd_s] at z; cases z
      · show upd (δ 1) i 1 i = upd (σ 12) i 1 i
        rw [upd_s, upd_s]
      · refine Or.inr (Or.inl ⟨upd_s _ _ _, ?_⟩)
        show upd (δ 3) i (nI t) i = upd (σ 15) i (nI t) i
        rw [upd_s, upd_s]
    · exact (hR i hi).cong rfl (upd_n _ _ hik) rfl (upd_n _ _ hik) rfl rfl (upd_n _ _ hik) rfl rfl (upd_n _ _ hik) rfl rfl rfl
  · refine (hS s hs).keep rfl rfl rfl rfl (fun i hi _ z1 z2 => ?_) (fun i hi z0 z1 z2 => ?_)
    · have hik : i ≠ k := fun z => by rw [z, e1] at z1; cases z1
      exact ⟨(upd_n _ _ hik).trans z1, z2⟩
    · have hik : i ≠ k := fun z => by
        subst z
        have : s = p := nI_inj (by omega) (by omega) (by rw [← z2, e2])
        subst this
        exact e4 z0
      exact ⟨(upd_n _ _ hik).trans z1, z2⟩
end DAY
