/-! what an item does to the drafted room -/
def rmK (rm : Nat → Nat → Nat) (w v : Nat) : Nat → Nat → Nat := fun x y => if x = 0 ∧ y = w then v else rm x y
theorem rmK_0 (rm : Nat → Nat → Nat) (w v y : Nat) : rmK rm w v 0 y = if y = w then v else rm 0 y := by
  unfold rmK
  by_cases h : y = w
  · rw [if_pos ⟨rfl, h⟩, if_pos h]
  · rw [if_neg (fun z => h z.2), if_neg h]
theorem rmK_s (rm : Nat → Nat → Nat) (w v x y : Nat) : rmK rm w v (x + 1) y = rm (x + 1) y := by
  unfold rmK
  rw [if_neg (by omega)]
theorem rmK_N {rm : Nat → Nat → Nat} (h : rmN rm) {k v : Nat} (hk : k < 5) (hv : v ≤ 99) (h0 : k < 3 → 1 ≤ v) (h4 : k = 4 → v ≤ 30) : rmN (rmK rm (k + 2) v) := by
  obtain ⟨a1, a2, a3, a4, a5, a6, a7, a8, a9⟩ := h
  unfold rmN
  rw [rmK_0, rmK_0, rmK_0, rmK_0, rmK_0, rmK_0, rmK_0]
  refine ⟨by rw [if_neg (by omega)]; exact a1, by rw [if_neg (by omega)]; exact a2, by split <;> omega, by split <;> omega, by split <;> omega, by split <;> omega, by split <;> omega, fun s hs => ?_, fun i hi => ?_⟩
  · rw [rmK_s rm _ _ 0]
    rw [if_neg (by omega)] at hs
    exact a8 s hs
  · rw [if_neg (by omega)] at hi
    rw [show i + 2 = i + 1 + 1 from rfl, rmK_s, rmK_s, rmK_s, rmK_s, rmK_s, rmK_s, rmK_s]
    exact a9 i hi
theorem RoomM.setK {rm : Nat → Nat → Nat} {σ : St} (h : RoomM rm 1 σ) {k v : Nat} (hk : k < 5) : RoomM (rmK rm (k + 2) v) 1 (sA σ 8 (upd (σ 8) (5 + k) (nI v))) := by
  obtain ⟨m1, m2, m3, m4, m5, m6, m7, m8, m9⟩ := h
  have e8 : ∀ y, y < 5 → σ 8 (5 + y) = nI (rm 0 (y + 2)) → upd (σ 8) (5 + k) (nI v) (5 + y) = nI (rmK rm (k + 2) v 0 (y + 2)) := fun y hy hh => by
    rw [rmK_0]
    by_cases e : y = k
    · rw [e, upd_s, if_pos rfl]
    · rw [upd_n _ _ (by omega), if_neg (by omega)]; exact hh
  unfold RoomM
  rw [sA_n _ _ (show 4 ≠ 8 by decide), sA_n _ _ (show 5 ≠ 8 by decide), sA_n _ _ (show 6 ≠ 8 by decide), sA_n _ _ (show 7 ≠ 8 by decide), sA_s]
  refine ⟨by rw [rmK_0, if_neg (by omega)]; exact m1, by rw [rmK_0, if_neg (by omega)]; exact m2, e8 0 (by omega) m3, e8 1 (by omega) m4, e8 2 (by omega) m5, e8 3 (by omega) m6, e8 4 (by omega) m7, fun s hs => ?_, fun i hi w hw => ?_⟩
  · rw [rmK_0, if_neg (by omega)] at hs
    rw [rmK_s rm _ _ 0]; exact m8 s hs
  · rw [rmK_0, if_neg (by omega)] at hi
    rw [show i + 2 = i + 1 + 1 from rfl, rmK_s]; exact m9 i hi w hw
theorem RoomC.setK {rm : Nat → Nat → Nat} {ρ : St} (h : RoomC rm ρ) {k v : Nat} (hk : k < 5) : RoomC (rmK rm (k + 2) v) (sA ρ 0 (upd (ρ 0) (4 + k) (nI v))) := by
  obtain ⟨m1, m2, m3, m4, m5, m6, m7, m8, m9⟩ := h
  have e8 : ∀ y, y < 5 → ρ 0 (4 + y) = nI (rm 0 (y + 2)) → upd (ρ 0) (4 + k) (nI v) (4 + y) = nI (rmK rm (k + 2) v 0 (y + 2)) := fun y hy hh => by
    rw [rmK_0]
    by_cases e : y = k
    · rw [e, upd_s, if_pos rfl]
    · rw [upd_n _ _ (by omega), if_neg (by omega)]; exact hh
  unfold RoomC
  rw [sA_n _ _ (show 1 ≠ 0 by decide), sA_n _ _ (show 2 ≠ 0 by decide), sA_s]
  refine ⟨by rw [rmK_0, if_neg (by omega), upd_n _ _ (by omega)]; exact m1, by rw [rmK_0, if_neg (by omega), upd_n _ _ (by omega)]; exact m2, e8 0 (by omega) m3, e8 1 (by omega) m4, e8 2 (by omega) m5, e8 3 (by omega) m6, e8 4 (by omega) m7, fun s hs => ?_, fun i hi w hw => ?_⟩
  · rw [rmK_0, if_neg (by omega)] at hs
    rw [rmK_s rm _ _ 0]; exact m8 s hs
  · rw [rmK_0, if_neg (by omega)] at hi
    rw [show i + 2 = i + 1 + 1 from rfl, rmK_s]; exact m9 i hi w hw
theorem Mo_isIn {σ : St} (N : Nat) {w v lo hi : Nat} (hw : w < 7) (hv : v < 2 ^ 31) (hl : lo < 2 ^ 31) (hh : hi < 2 ^ 31) (e : σ 30 w = nI v) : fMo_isIn N (nI w) (nI lo) (nI hi) σ = some (if lo ≤ v ∧ v ≤ hi then 1 else 0) := by
  unfold fMo_isIn
  rw [gI_ok (by omega) (by decide), cl_nI (by omega), e, Mo_in, cl1_s, Int32.toInt_toInt64, Int32.toInt_toInt64, Int32.toInt_toInt64, nI_toInt hv, nI_toInt hl, nI_toInt hh]
  by_cases h : lo ≤ v ∧ v ≤ hi
  · rw [if_pos h, if_pos (show (lo : Int) ≤ (v : Int) ∧ (v : Int) ≤ hi by omega), gB_1]
  · rw [if_neg h, if_neg (show ¬ ((lo : Int) ≤ (v : Int) ∧ (v : Int) ≤ hi) by omega), gB_0]
/-- the laid room, the text and the marks stay -/
def FR (σ σ' : St) : Prop := σ' 2 = σ 2 ∧ σ' 11 = σ 11 ∧ (∀ k, k ≠ 2 → σ' 0 k = σ 0 k) ∧ σ' 4 0 = σ 4 0 ∧ σ' 5 0 = σ 5 0 ∧ (∀ s, s < 10 → σ' 6 s = σ 6 s) ∧ (∀ s, s < 56 → σ' 7 s = σ 7 s) ∧ ∀ s, s < 5 → σ' 8 s = σ 8 s
theorem FR.rf (σ : St) : FR σ σ := ⟨rfl, rfl, fun _ _ => rfl, rfl, rfl, fun _ _ => rfl, fun _ _ => rfl, fun _ _ => rfl⟩
theorem FR.tr {a b c : St} (h1 : FR a b) (h2 : FR b c) : FR a c := by
  obtain ⟨a1, a2, a3, a4, a5, a6, a7, a8⟩ := h1
  obtain ⟨b1, b2, b3, b4, b5, b6, b7, b8⟩ := h2
  exact ⟨b1.trans a1, b2.trans a2, fun k hk => (b3 k hk).trans (a3 k hk), b4.trans a4, b5.trans a5, fun s hs => (b6 s hs).trans (a6 s hs), fun s hs => (b7 s hs).trans (a7 s hs), fun s hs => (b8 s hs).trans (a8 s hs)⟩
theorem FP.fr {σ σ' : St} (h : FP σ σ') : FR σ σ' := by
  have e : ∀ j, j ≠ 0 → j ≠ 30 → σ' j = σ j := h.1
  exact ⟨e 2 (by decide) (by decide), e 11 (by decide) (by decide), h.2, by rw [e 4 (by decide) (by decide)], by rw [e 5 (by decide) (by decide)], fun s _ => by rw [e 6 (by decide) (by decide)], fun s _ => by rw [e 7 (by decide) (by decide)], fun s _ => by rw [e 8 (by decide) (by decide)]⟩
theorem FP.room {rm : Nat → Nat → Nat} {o : Nat} {σ σ' : St} (h : FP σ σ') (hM : RoomM rm o σ) : RoomM rm o σ' := hM.to (h.1 4 (by decide) (by decide)) (h.1 5 (by decide) (by decide)) (h.1 6 (by decide) (by decide)) (h.1 7 (by decide) (by decide)) (h.1 8 (by decide) (by decide))
theorem FR.tx {c : Nat → Nat} {len : Nat} {τ σ σ' : St} (f : FR σ σ') (h : TX c len τ σ) : TX c len τ σ' := h.to (f.2.2.1 0 (by decide)) f.1
theorem FR.k8 (σ : St) {k : Nat} (x : Int32) : FR σ (sA σ 8 (upd (σ 8) (5 + k) x)) := ⟨sA_n _ _ (by decide), sA_n _ _ (by decide), fun j _ => by rw [sA_n _ _ (by decide)], by rw [sA_n _ _ (by decide)], by rw [sA_n _ _ (by decide)], fun s _ => by rw [sA_n _ _ (by decide)], fun s _ => by rw [sA_n _ _ (by decide)], fun s hs => by rw [sA_s, upd_n _ _ (by omega)]⟩
theorem Rel.fr {N : Nat} {μ τ γ : St} {Γ : Nat → Int64} {ρ σ σ' : St} (h : Rel N μ τ γ Γ ρ σ) (f : FR σ σ') : Rel N μ τ γ Γ ρ σ' := by
  obtain ⟨rm, hh, kp, len, hN, hC, ⟨m1, m2, m3, m4, m5, m6, m7, m8, m9⟩, ⟨t1, t2, t3, t4⟩, ⟨y1, y2, y3, y4, y5, y6, y7⟩, hG⟩ := h
  obtain ⟨f1, f2, f3, f4, f5, f6, f7, f8⟩ := f
  have h08 : rm 0 0 ≤ 8 := hN.1
  have h10 : rm 0 1 ≤ 10 := hN.2.1
  refine ⟨rm, hh, kp, len, hN, hC, ⟨by rw [f4]; exact m1, by rw [f5]; exact m2, by rw [f8 _ (by decide)]; exact m3, by rw [f8 _ (by decide)]; exact m4, by rw [f8 _ (by decide)]; exact m5, by rw [f8 _ (by decide)]; exact m6, by rw [f8 _ (by decide)]; exact m7, fun s hs => by rw [f6 _ (by omega)]; exact m8 s hs, fun i hi w hw => by rw [f7 _ (by omega)]; exact m9 i hi w hw⟩, ⟨t1, t2, by rw [f3 0 (by decide)]; exact t3, by rw [f1]; exact t4⟩, ⟨y1, y2, by rw [f3 8 (by decide)]; exact y3, y4, y5, by rw [f3 9 (by decide)]; exact y6, by rw [f2]; exact y7⟩, hG⟩
