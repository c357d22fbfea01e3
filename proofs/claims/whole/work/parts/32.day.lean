/-! a day on both sides: what holds between the class's rows (δ) and the reference's (σ) -/
def hb (ru hm i : Nat) : Nat := if ru = 1 then 0 else hm / 2 ^ i % 2
def fmS : List Nat := [0, 12, 13, 14, 15, 16, 17, 18, 19, 20, 25]
def FM (σ0 σ : St) : Prop := (∀ j, j ∉ fmS → σ j = σ0 j) ∧ ∀ k, k < 20 → σ 0 k = σ0 0 k
theorem FM.rf (σ : St) : FM σ σ := ⟨fun _ _ => rfl, fun _ _ => rfl⟩
theorem FM.tr {a b c : St} (h1 : FM a b) (h2 : FM b c) : FM a c := ⟨fun j hj => (h2.1 j hj).trans (h1.1 j hj), fun k hk => (h2.2 k hk).trans (h1.2 k hk)⟩
theorem FM.arr {σ0 σ : St} {f : Nat → Int32} (k : Nat) (hk : k ∈ fmS) (h0 : 0 ≠ k) (h : FM σ0 σ) : FM σ0 (sA σ k f) :=
  ⟨fun j hj => (sA_n σ f (show j ≠ k from fun e => hj (by rw [e]; exact hk))).trans (h.1 j hj), fun j hj => by rw [sA_n _ _ h0]; exact h.2 j hj⟩
theorem FM.int {σ0 σ : St} {x : Int32} (k : Nat) (hk : 20 ≤ k) (h : FM σ0 σ) : FM σ0 (sA σ 0 (upd (σ 0) k x)) :=
  ⟨fun j hj => (sA_n σ _ (show j ≠ 0 from fun e => hj (by rw [e]; decide))).trans (h.1 j hj), fun j hj => by rw [sA_s, upd_n _ _ (by omega)]; exact h.2 j hj⟩
theorem FM.room {σ0 σ : St} {rm : Nat → Nat → Nat} {o : Nat} (h : FM σ0 σ) (hr : RoomM rm o σ0) : RoomM rm o σ := by
  unfold RoomM at hr ⊢
  rw [h.1 4 (by decide), h.1 5 (by decide), h.1 6 (by decide), h.1 7 (by decide), h.1 8 (by decide)]
  exact hr
def DC (rm : Nat → Nat → Nat) (ru hc ca po : Nat) (δ σ : St) : Prop := δ 0 9 = nI (rm 0 0) ∧ δ 0 10 = nI (rm 0 1) ∧ δ 0 11 = nI ru ∧ δ 0 12 = nI hc ∧ δ 0 13 = nI ca ∧ δ 0 14 = nI po ∧ δ 0 16 = nI (cntL (δ 1) (rm 0 0)) ∧ δ 0 17 = σ 0 21 ∧ (∃ q, q < 256 ∧ δ 0 18 = nI q ∧ σ 0 22 = nI q) ∧ (∃ q, q < 256 ∧ δ 0 19 = nI q ∧ σ 0 23 = nI q)
/-- what a reader does, and what its rows hold then -/
def RS (rm : Nat → Nat → Nat) (ru hm t : Nat) (δ σ : St) (i : Nat) : Prop :=
  δ 1 i = 0 ∨ (δ 1 i = 1 ∧ δ 3 i = σ 15 i) ∨ (δ 1 i = 2 ∧ ∃ p, p < rm 0 1 ∧ δ 2 i = nI p ∧ σ 13 i = nI p) ∨ (δ 1 i = 3 ∧ (∃ p, p < rm 0 1 ∧ δ 2 i = nI p ∧ σ 13 i = nI p) ∧ (∃ w, w ≤ t ∧ δ 3 i = nI w ∧ σ 16 i = nI w) ∧ σ 17 i = nI (hb ru hm i)) ∨ δ 1 i = 4
def RQ (rm : Nat → Nat → Nat) (lt : Nat → Nat) (δ σ : St) (i : Nat) : Prop :=
  δ 5 i = nI (rm (i + 2) 0 + lt i) ∧ σ 18 i = nI (lt i) ∧ ∃ q, q ≤ rm (i + 2) 1 ∧ δ 4 i = nI q ∧ σ 14 i = nI q ∧ (δ 1 i = 4 ∨ q < rm (i + 2) 1) ∧ (δ 1 i = 3 → q = rm (i + 2) 2)
def RP (rm : Nat → Nat → Nat) (ru hm t : Nat) (lt : Nat → Nat) (pend : Nat → Bool) (δ σ : St) (i : Nat) : Prop :=
  (pend i = true ∧ δ 1 i = 0 ∧ σ 12 i = 1 ∧ σ 15 i = nI t ∧ rm (i + 2) 0 + lt i = t) ∨ (pend i = false ∧ δ 1 i = σ 12 i ∧ RS rm ru hm t δ σ i)
def RD (rm : Nat → Nat → Nat) (ru hm t : Nat) (lt : Nat → Nat) (pend : Nat → Bool) (δ σ : St) (i : Nat) : Prop := RQ rm lt δ σ i ∧ RP rm ru hm t lt pend δ σ i
def SD (rm : Nat → Nat → Nat) (δ σ : St) (s : Nat) : Prop :=
  δ 6 s = σ 19 s ∧ δ 7 s = σ 20 s ∧ (σ 19 s = -1 ∨ ∃ i, i < rm 0 0 ∧ σ 19 s = nI i ∧ δ 1 i = 2 ∧ δ 2 i = nI s) ∧ (σ 20 s = -1 ∨ ∃ i, i < rm 0 0 ∧ σ 20 s = nI i ∧ δ 1 i = 3 ∧ δ 2 i = nI s)
def DR (rm : Nat → Nat → Nat) (ru hm hc ca po t : Nat) (lt : Nat → Nat) (σ0 : St) (rn us : Int32) (f8 f25 : Nat → Int32) (pend : Nat → Bool) (δ σ : St) : Prop :=
  FM σ0 σ ∧ DC rm ru hc ca po δ σ ∧ (∀ i, i < rm 0 0 → RD rm ru hm t lt pend δ σ i) ∧ (∀ s, s < rm 0 1 → SD rm δ σ s) ∧ δ 0 15 = rn ∧ δ 8 = f8 ∧ σ 25 = f25 ∧ σ 0 20 = us
theorem RD.cong {rm : Nat → Nat → Nat} {ru hm t : Nat} {lt : Nat → Nat} {pend pend' : Nat → Bool} {δ σ δ' σ' : St} {i : Nat} (h : RD rm ru hm t lt pend δ σ i) (hp : pend' i = pend i) (d1 : δ' 1 i = δ 1 i) (d2 : δ' 2 i = δ 2 i) (d3 : δ' 3 i = δ 3 i) (d4 : δ' 4 i = δ 4 i) (d5 : δ' 5 i = δ 5 i)
    (s12 : σ' 12 i = σ 12 i) (s13 : σ' 13 i = σ 13 i) (s14 : σ' 14 i = σ 14 i) (s15 : σ' 15 i = σ 15 i) (s16 : σ' 16 i = σ 16 i) (s17 : σ' 17 i = σ 17 i) (s18 : σ' 18 i = σ 18 i) : RD rm ru hm t lt pend' δ' σ' i := by
  unfold RD RQ RP RS at h ⊢
  rw [hp, d1, d2, d3, d4, d5, s12, s13, s14, s15, s16, s17, s18]
  exact h
theorem SD.keep {rm : Nat → Nat → Nat} {δ σ δ' σ' : St} {s : Nat} (h : SD rm δ σ s) (d6 : δ' 6 s = δ 6 s) (d7 : δ' 7 s = δ 7 s) (s19 : σ' 19 s = σ 19 s) (s20 : σ' 20 s = σ 20 s)
    (a : ∀ i, i < rm 0 0 → σ 19 s = nI i → δ 1 i = 2 → δ 2 i = nI s → δ' 1 i = 2 ∧ δ' 2 i = nI s) (b : ∀ i, i < rm 0 0 → σ 20 s = nI i → δ 1 i = 3 → δ 2 i = nI s → δ' 1 i = 3 ∧ δ' 2 i = nI s) : SD rm δ' σ' s := by
  obtain ⟨h1, h2, h3, h4⟩ := h
  refine ⟨by rw [d6, s19]; exact h1, by rw [d7, s20]; exact h2, ?_, ?_⟩
  · rw [s19]
    rcases h3 with h3 | ⟨i, hi, e1, e2, e3⟩
    · exact Or.inl h3
    · exact Or.inr ⟨i, hi, e1, (a i hi e1 e2 e3).1, (a i hi e1 e2 e3).2⟩
  · rw [s20]
    rcases h4 with h4 | ⟨i, hi, e1, e2, e3⟩
    · exact Or.inl h4
    · exact Or.inr ⟨i, hi, e1, (b i hi e1 e2 e3).1, (b i hi e1 e2 e3).2⟩
theorem cntL_same {f : Nat → Int32} {k n : Nat} {x : Int32} (hf : ¬ f k = 4) (hx : ¬ x = 4) : cntL (upd f k x) n = cntL f n := by
  refine cntL_cong fun i _ => ?_
  by_cases e : i = k
  · subst e
    rw [upd_s]
    exact ⟨fun q => absurd q hx, fun q => absurd q hf⟩
  · rw [upd_n _ _ e]
section DAY
variable {rm : Nat → Nat → Nat} {ru hm hc ca po t : Nat} {lt : Nat → Nat} {σ0 : St} {rn us : Int32} {f8 f25 : Nat → Int32} {pend : Nat → Bool} {δ σ : St}
/-- a reader's standing, when it isn't pending -/
theorem DR.st (h : DR rm ru hm hc ca po t lt σ0 rn us f8 f25 pend δ σ) {k : Nat} (hk : k < rm 0 0) (hp : pend k = false) : δ 1 k = σ 12 k ∧ RS rm ru hm t δ σ k := by
  rcases (h.2.2.1 k hk).2 with ⟨e, -⟩ | ⟨-, e⟩
  · rw [hp] at e; cases e
  · exact e
theorem RS.two {k : Nat} (h : RS rm ru hm t δ σ k) (e : δ 1 k = 2) : ∃ p, p < rm 0 1 ∧ δ 2 k = nI p ∧ σ 13 k = nI p := by
  rcases h with h | ⟨h, -⟩ | ⟨-, h⟩ | ⟨h, -⟩ | h
  · rw [e] at h; cases h
  · rw [e] at h; cases h
  · exact h
  · rw [e] at h; cases h
  · rw [e] at h; cases h
theorem RS.three {k : Nat} (h : RS rm ru hm t δ σ k) (e : δ 1 k = 3) : (∃ p, p < rm 0 1 ∧ δ 2 k = nI p ∧ σ 13 k = nI p) ∧ (∃ w, w ≤ t ∧ δ 3 k = nI w ∧ σ 16 k = nI w) ∧ σ 17 k = nI (hb ru hm k) := by
  rcases h with h | ⟨h, -⟩ | ⟨h, -⟩ | ⟨-, h⟩ | h
  · rw [e] at h; cases h
  · rw [e] at h; cases h
  · rw [e] at h; cases h
  · exact h
  · rw [e] at h; cases h
theorem RS.one {k : Nat} (h : RS rm ru hm t δ σ k) (e : δ 1 k = 1) : δ 3 k = σ 15 k := by
  rcases h with h | ⟨-, h⟩ | ⟨h, -⟩ | ⟨h, -⟩ | h
  · rw [e] at h; cases h
  · exact h
  · rw [e] at h; cases h
  · rw [e] at h; cases h
  · rw [e] at h; cases h
end DAY
