set_option maxHeartbeats 4000000 in
set_option maxRecDepth 100000 in
theorem wMa_rest_22 {p : Program} {l : Launch} {e : Env} {s : State} {m : MethodId} {args : Array Value} {below : List Frame} {meth : Method} {c : Code} {A : Nat → Prop} {Q : State → Prop} {D : va_G} {cs : Nat → ClassId} {a aS aT aE aG aD aR : Nat → Nat} {μ : St} {ς : St} {τ : St} {ε : St} {ρ : St} {r : Int32} {γ' : St} {Γ' : Nat → Int64} {δ' : St} {dr' : Nat} {N : Nat} (S : Fx p m c cX6_rest 3 s args RX6) (hK : va_K D vwCl (tyL cs) s) (hA : ∀ x, s.heap.size ≤ x → A x) (hQ : ∀ (H : Heap) (locs : List Loc) (pc : Nat) (ls : Array Slot), decode cX6_rest pc = .ok (.ireturn, 1) → narrow .int (.int r) = .int r → Wd D A s.heap (wMa cs a (aT 0) (aS 0) (aD 0) (aG 0) (aR 0) (aE 0) μ ++ (wSc cs aS (aT 0) ς ++ (wTe cs aT τ ++ (wRo cs aE ε ++ (wGa cs aG (aD 0) (aR 0) γ' Γ' ++ (wDa cs aD dr' δ' ++ (wRo cs aR ρ))))))) H locs → W p l e { frames := 6, cells := 0, slots := 0, locals := 139 } s m args below meth c H locs 0 0 Q (F0 m pc ls [.int r])) : ∀ (γ : St) (Γ : Nat → Int64) (δ : St) (dr : Nat) (H : Heap) (locs : List Loc) (ls : Array Slot), fMa_rest_22 N ρ (aR 0) γ Γ δ dr = some (r, γ', Γ', δ', dr') → Wd D A s.heap (wMa cs a (aT 0) (aS 0) (aD 0) (aG 0) (aR 0) (aE 0) μ ++ (wSc cs aS (aT 0) ς ++ (wTe cs aT τ ++ (wRo cs aE ε ++ (wGa cs aG (aD 0) (aR 0) γ Γ ++ (wDa cs aD dr δ ++ (wRo cs aR ρ))))))) H locs → lv_has ls 3 [] → W p l e { frames := 6, cells := 0, slots := 0, locals := 139 } s m args below meth c H locs 0 0 Q (F0 m 22 ls []) := by
  intro γ Γ δ dr H locs ls h hW hl
  unfold fMa_rest_22 at h
  refine lv_iconst (v := -1) S.1 S.2.1 dX6_rest_22 (by decide) ?_
  obtain ⟨rfl, rfl, rfl, rfl, rfl⟩ := pr5 h
  exact hQ _ _ _ _ dX6_rest_23 rfl hW
set_option maxHeartbeats 4000000 in
set_option maxRecDepth 100000 in
theorem wMa_rest_48 {p : Program} {l : Launch} {e : Env} {s : State} {m : MethodId} {args : Array Value} {below : List Frame} {meth : Method} {c : Code} {A : Nat → Prop} {Q : State → Prop} {D : va_G} {cs : Nat → ClassId} {a aS aT aE aG aD aR : Nat → Nat} {μ : St} {ς : St} {τ : St} {ε : St} {ρ : St} {r : Int32} {γ' : St} {Γ' : Nat → Int64} {δ' : St} {dr' : Nat} {N : Nat} (S : Fx p m c cX6_rest 3 s args RX6) (hK : va_K D vwCl (tyL cs) s) (hA : ∀ x, s.heap.size ≤ x → A x) (hQ : ∀ (H : Heap) (locs : List Loc) (pc : Nat) (ls : Array Slot), decode cX6_rest pc = .ok (.ireturn, 1) → narrow .int (.int r) = .int r → Wd D A s.heap (wMa cs a (aT 0) (aS 0) (aD 0) (aG 0) (aR 0) (aE 0) μ ++ (wSc cs aS (aT 0) ς ++ (wTe cs aT τ ++ (wRo cs aE ε ++ (wGa cs aG (aD 0) (aR 0) γ' Γ' ++ (wDa cs aD dr' δ' ++ (wRo cs aR ρ))))))) H locs → W p l e { frames := 6, cells := 0, slots := 0, locals := 139 } s m args below meth c H locs 0 0 Q (F0 m pc ls [.int r])) : ∀ (k0 : Int32) (γ : St) (Γ : Nat → Int64) (δ : St) (dr : Nat) (H : Heap) (locs : List Loc) (ls : Array Slot), fMa_rest_48 N ρ (aR 0) k0 γ Γ δ dr = some (r, γ', Γ', δ', dr') → Wd D A s.heap (wMa cs a (aT 0) (aS 0) (aD 0) (aG 0) (aR 0) (aE 0) μ ++ (wSc cs aS (aT 0) ς ++ (wTe cs aT τ ++ (wRo cs aE ε ++ (wGa cs aG (aD 0) (aR 0) γ Γ ++ (wDa cs aD dr δ ++ (wRo cs aR ρ))))))) H locs → lv_has ls 3 [] → W p l e { frames := 6, cells := 0, slots := 0, locals := 139 } s m args below meth c H locs 0 0 Q (F0 m 48 ls [.int k0]) := by
  intro k0 γ Γ δ dr H locs ls h hW hl
  unfold fMa_rest_48 at h
  obtain ⟨rfl, rfl, rfl, rfl, rfl⟩ := pr5 h
  exact hQ _ _ _ _ dX6_rest_48 rfl hW
set_option maxHeartbeats 4000000 in
set_option maxRecDepth 100000 in
theorem cMa_rest (l : Launch) (D : va_G) (cs : Nat → ClassId) (a aS aT aE aG aD aR : Nat → Nat) (μ : St) (ς : St) (τ : St) (ε : St) (γ : St) (Γ : Nat → Int64) (δ : St) (ρ : St) (dr : Nat) (p0 : Int32) (p1 : Int32) (N : Nat) {r : Int32} {γ' : St} {Γ' : Nat → Int64} {δ' : St} {dr' : Nat} (h : fMa_rest N p0 p1 ρ (aR 0) γ Γ δ dr = some (r, γ', Γ', δ', dr')) : Ki l D cs none yX6_rest cX6_rest 3 (some .int) 6 139 (wMa cs a (aT 0) (aS 0) (aD 0) (aG 0) (aR 0) (aE 0) μ ++ (wSc cs aS (aT 0) ς ++ (wTe cs aT τ ++ (wRo cs aE ε ++ (wGa cs aG (aD 0) (aR 0) γ Γ ++ (wDa cs aD dr δ ++ (wRo cs aR ρ))))))) [.ref (a 0), .int p0, .int p1] r (wMa cs a (aT 0) (aS 0) (aD 0) (aG 0) (aR 0) (aE 0) μ ++ (wSc cs aS (aT 0) ς ++ (wTe cs aT τ ++ (wRo cs aE ε ++ (wGa cs aG (aD 0) (aR 0) γ' Γ' ++ (wDa cs aD dr' δ' ++ (wRo cs aR ρ))))))) := by
  refine Ki_of (by decide +kernel) (Nat.le_of_ble_eq_true rfl) (fun p e s m below meth c A S hK hA hZ Q hQ ls hl hW => ?_)
  have hl : lv_has ls 3 [(0, .ref (a 0)), (1, .int p0), (2, .int p1)] := hl
  unfold fMa_rest at h
  refine lv_iload_n S.1 S.2.1 dX6_rest_0 rfl (lv_at hl 1 rfl) ?_
  obtain ⟨r_1, hc_2, h⟩ := cl1_some h
  refine kS_i (As := [.int p0]) (rest := []) S hK hA (z := none) trivial [] (wMa cs a (aT 0) (aS 0) (aD 0) (aG 0) (aR 0) (aE 0) μ ++ (wSc cs aS (aT 0) ς ++ (wTe cs aT τ ++ (wRo cs aE ε ++ (wGa cs aG (aD 0) (aR 0) γ Γ ++ (wDa cs aD dr δ ++ (wRo cs aR ρ))))))) hW (cMa_isRule l D cs p0 N hc_2) lk_X6_129 q398 ⟨Nat.le_of_ble_eq_true rfl, Nat.le_of_ble_eq_true rfl⟩ rfl (Nat.le_of_ble_eq_true rfl) hl.1 dX6_rest_1 ⟨Nat.zero_le _, Nat.zero_le _⟩ (fun H locs hW => ?_)
  have hW : Wd D A s.heap (wMa cs a (aT 0) (aS 0) (aD 0) (aG 0) (aR 0) (aE 0) μ ++ (wSc cs aS (aT 0) ς ++ (wTe cs aT τ ++ (wRo cs aE ε ++ (wGa cs aG (aD 0) (aR 0) γ Γ ++ (wDa cs aD dr δ ++ (wRo cs aR ρ))))))) H locs := hW
  refine lv_if_eq (tgt := 22) S.1 S.2.1 dX6_rest_4 (by decide) (fun c_3 => ?_) (fun c_3 => ?_)
  · have h := ite_t c_3 h
    exact wMa_rest_22 S hK hA hQ γ Γ δ dr _ _ _ h hW (lv_sub hl [] rfl)
  · have h := ite_f c_3 h
    refine lv_iload_n S.1 S.2.1 dX6_rest_7 rfl (lv_at hl 2 rfl) ?_
    refine lv_iconst (v := 0) S.1 S.2.1 dX6_rest_8 (by decide) ?_
    refine lv_aload_n S.1 S.2.1 dX6_rest_9 rfl (lv_at hl 0 rfl) ?_
    refine gMa_laid S hK hW dX6_rest_10 ?_
    obtain ⟨r_4, hc_5, h⟩ := cl1_some h
    have hW := kw (w' := (wMa cs a (aT 0) (aS 0) (aD 0) (aG 0) (aR 0) (aE 0) μ ++ (wSc cs aS (aT 0) ς ++ (wTe cs aT τ ++ (wRo cs aE ε ++ (wGa cs aG (aD 0) (aR 0) γ Γ ++ (wDa cs aD dr δ)))))) ++ ((wRo cs aR ρ) ++ [])) (by simp only [List.append_assoc, List.nil_append, List.append_nil]) hW
    refine kV_i (As := []) (rest := [.int (0 : Int32), .int p1]) S hK hA (z := none) trivial (wMa cs a (aT 0) (aS 0) (aD 0) (aG 0) (aR 0) (aE 0) μ ++ (wSc cs aS (aT 0) ς ++ (wTe cs aT τ ++ (wRo cs aE ε ++ (wGa cs aG (aD 0) (aR 0) γ Γ ++ (wDa cs aD dr δ)))))) [] hW (cRo_everybody l D cs aR ρ N hc_5) (ci := 2) rfl rfl lk_X6_81 q233 q234 ⟨Nat.le_of_ble_eq_true rfl, Nat.le_of_ble_eq_true rfl⟩ rfl (Nat.le_of_ble_eq_true rfl) hl.1 dX6_rest_13 ⟨Nat.zero_le _, Nat.zero_le _⟩ (fun H locs hW => ?_)
    have hW : Wd D A s.heap (wMa cs a (aT 0) (aS 0) (aD 0) (aG 0) (aR 0) (aE 0) μ ++ (wSc cs aS (aT 0) ς ++ (wTe cs aT τ ++ (wRo cs aE ε ++ (wGa cs aG (aD 0) (aR 0) γ Γ ++ (wDa cs aD dr δ ++ (wRo cs aR ρ))))))) H locs := kw (by simp only [List.append_assoc, List.nil_append, List.append_nil]) hW
    obtain ⟨r_6, hc_7, h⟩ := cl1_some h
    refine kS_i (As := [.int p1, .int (0 : Int32), .int r_4]) (rest := []) S hK hA (z := none) trivial [] (wMa cs a (aT 0) (aS 0) (aD 0) (aG 0) (aR 0) (aE 0) μ ++ (wSc cs aS (aT 0) ς ++ (wTe cs aT τ ++ (wRo cs aE ε ++ (wGa cs aG (aD 0) (aR 0) γ Γ ++ (wDa cs aD dr δ ++ (wRo cs aR ρ))))))) hW (cMa_within l D cs p1 (0 : Int32) r_4 N hc_7) lk_X6_88 q278 ⟨Nat.le_of_ble_eq_true rfl, Nat.le_of_ble_eq_true rfl⟩ rfl (Nat.le_of_ble_eq_true rfl) hl.1 dX6_rest_16 ⟨Nat.zero_le _, Nat.zero_le _⟩ (fun H locs hW => ?_)
    have hW : Wd D A s.heap (wMa cs a (aT 0) (aS 0) (aD 0) (aG 0) (aR 0) (aE 0) μ ++ (wSc cs aS (aT 0) ς ++ (wTe cs aT τ ++ (wRo cs aE ε ++ (wGa cs aG (aD 0) (aR 0) γ Γ ++ (wDa cs aD dr δ ++ (wRo cs aR ρ))))))) H locs := hW
    refine lv_if_ne (tgt := 24) S.1 S.2.1 dX6_rest_19 (by decide) (fun c_8 => ?_) (fun c_8 => ?_)
    · have h := ite_f c_8 h
      refine lv_aload_n S.1 S.2.1 dX6_rest_24 rfl (lv_at hl 0 rfl) ?_
      refine gMa_game S hK hW dX6_rest_25 ?_
      refine lv_iload_n S.1 S.2.1 dX6_rest_28 rfl (lv_at hl 1 rfl) ?_
      obtain ⟨γ_9, Γ_10, hc_11, h⟩ := cl2_some h
      have hW := kw (w' := (wMa cs a (aT 0) (aS 0) (aD 0) (aG 0) (aR 0) (aE 0) μ ++ (wSc cs aS (aT 0) ς ++ (wTe cs aT τ ++ (wRo cs aE ε)))) ++ ((wGa cs aG (aD 0) (aR 0) γ Γ ++ (wDa cs aD dr δ ++ (wRo cs aR ρ))) ++ [])) (by simp only [List.append_assoc, List.nil_append, List.append_nil]) hW
      refine kV_v (As := [.int p0]) (rest := []) S hK hA (z := none) trivial (wMa cs a (aT 0) (aS 0) (aD 0) (aG 0) (aR 0) (aE 0) μ ++ (wSc cs aS (aT 0) ς ++ (wTe cs aT τ ++ (wRo cs aE ε)))) [] hW (cGa_playBy l D cs aG aD aR γ Γ δ ρ dr p0 N hc_11) (ci := 1) rfl rfl lk_X6_176 q547 q548 ⟨Nat.le_of_ble_eq_true rfl, Nat.le_of_ble_eq_true rfl⟩ rfl (Nat.le_of_ble_eq_true rfl) hl.1 dX6_rest_29 ⟨Nat.zero_le _, Nat.zero_le _⟩ (fun H locs hW => ?_)
      have hW : Wd D A s.heap (wMa cs a (aT 0) (aS 0) (aD 0) (aG 0) (aR 0) (aE 0) μ ++ (wSc cs aS (aT 0) ς ++ (wTe cs aT τ ++ (wRo cs aE ε ++ (wGa cs aG (aD 0) (aR 0) γ_9 Γ_10 ++ (wDa cs aD dr δ ++ (wRo cs aR ρ))))))) H locs := kw (by simp only [List.append_assoc, List.nil_append, List.append_nil]) hW
      refine lv_aload_n S.1 S.2.1 dX6_rest_32 rfl (lv_at hl 0 rfl) ?_
      refine gMa_game S hK hW dX6_rest_33 ?_
      refine lv_iload_n S.1 S.2.1 dX6_rest_36 rfl (lv_at hl 2 rfl) ?_
      obtain ⟨r_12, Γ_13, δ_14, dr_15, hc_16, h⟩ := cl4_some h
      have hW := kw (w' := (wMa cs a (aT 0) (aS 0) (aD 0) (aG 0) (aR 0) (aE 0) μ ++ (wSc cs aS (aT 0) ς ++ (wTe cs aT τ ++ (wRo cs aE ε)))) ++ ((wGa cs aG (aD 0) (aR 0) γ_9 Γ_10 ++ (wDa cs aD dr δ ++ (wRo cs aR ρ))) ++ [])) (by simp only [List.append_assoc, List.nil_append, List.append_nil]) hW
      refine kV_i (As := [.int p1]) (rest := []) S hK hA (z := none) trivial (wMa cs a (aT 0) (aS 0) (aD 0) (aG 0) (aR 0) (aE 0) μ ++ (wSc cs aS (aT 0) ς ++ (wTe cs aT τ ++ (wRo cs aE ε)))) [] hW (cGa_isRest l D cs aG aD aR γ_9 Γ_10 δ ρ dr p1 N hc_16) (ci := 1) rfl rfl lk_X6_179 q561 q562 ⟨Nat.le_of_ble_eq_true rfl, Nat.le_of_ble_eq_true rfl⟩ rfl (Nat.le_of_ble_eq_true rfl) hl.1 dX6_rest_37 ⟨Nat.zero_le _, Nat.zero_le _⟩ (fun H locs hW => ?_)
      have hW : Wd D A s.heap (wMa cs a (aT 0) (aS 0) (aD 0) (aG 0) (aR 0) (aE 0) μ ++ (wSc cs aS (aT 0) ς ++ (wTe cs aT τ ++ (wRo cs aE ε ++ (wGa cs aG (aD 0) (aR 0) γ_9 Γ_13 ++ (wDa cs aD dr_15 δ_14 ++ (wRo cs aR ρ))))))) H locs := kw (by simp only [List.append_assoc, List.nil_append, List.append_nil]) hW
      refine lv_if_eq (tgt := 47) S.1 S.2.1 dX6_rest_40 (by decide) (fun c_17 => ?_) (fun c_17 => ?_)
      · have h := ite_t c_17 h
        refine lv_iconst (v := 0) S.1 S.2.1 dX6_rest_47 (by decide) ?_
        exact wMa_rest_48 S hK hA hQ (0 : Int32) γ_9 Γ_13 δ_14 dr_15 _ _ _ h hW (lv_sub hl [] rfl)
      · have h := ite_f c_17 h
        refine lv_iconst (v := 1) S.1 S.2.1 dX6_rest_43 (by decide) ?_
        refine lv_goto (tgt := 48) S.1 S.2.1 dX6_rest_44 (by decide) ?_
        exact wMa_rest_48 S hK hA hQ (1 : Int32) γ_9 Γ_13 δ_14 dr_15 _ _ _ h hW (lv_sub hl [] rfl)
    · have h := ite_t c_8 h
      exact wMa_rest_22 S hK hA hQ γ Γ δ dr _ _ _ h hW (lv_sub hl [] rfl)
set_option maxHeartbeats 4000000 in
set_option maxRecDepth 100000 in
theorem wMa_rests_16 {p : Program} {l : Launch} {e : Env} {s : State} {m : MethodId} {args : Array Value} {below : List Frame} {meth : Method} {c : Code} {A : Nat → Prop} {Q : State → Prop} {D : va_G} {cs : Nat → ClassId} {a aS aT aE aG aD aR : Nat → Nat} {μ : St} {ς : St} {τ : St} {ε : St} {ρ : St} {r : Int32} {γ' : St} {Γ' : Nat → Int64} {δ' : St} {dr' : Nat} {N : Nat} (S : Fx p m c cX6_rests 7 s args RX6) (hK : va_K D vwCl (tyL cs) s) (hA : ∀ x, s.heap.size ≤ x → A x) (hQ : ∀ (H : Heap) (locs : List Loc) (pc : Nat) (ls : Array Slot), decode cX6_rests pc = .ok (.ireturn, 1) → narrow .int (.int r) = .int r → Wd D A s.heap (wMa cs a (aT 0) (aS 0) (aD 0) (aG 0) (aR 0) (aE 0) μ ++ (wSc cs aS (aT 0) ς ++ (wTe cs aT τ ++ (wRo cs aE ε ++ (wGa cs aG (aD 0) (aR 0) γ' Γ' ++ (wDa cs aD dr' δ' ++ (wRo cs aR ρ))))))) H locs → W p l e { frames := 6, cells := 0, slots := 0, locals := 139 } s m args below meth c H locs 0 0 Q (F0 m pc ls [.int r])) : ∀ (γ : St) (Γ : Nat → Int64) (δ : St) (dr : Nat) (H : Heap) (locs : List Loc) (ls : Array Slot), fMa_rests_16 N ρ (aR 0) γ Γ δ dr = some (r, γ', Γ', δ', dr') → Wd D A s.heap (wMa cs a (aT 0) (aS 0) (aD 0) (aG 0) (aR 0) (aE 0) μ ++ (wSc cs aS (aT 0) ς ++ (wTe cs aT τ ++ (wRo cs aE ε ++ (wGa cs aG (aD 0) (aR 0) γ Γ ++ (wDa cs aD dr δ ++ (wRo cs aR ρ))))))) H locs → lv_has ls 7 [] → W p l e { frames := 6, cells := 0, slots := 0, locals := 139 } s m args below meth c H locs 0 0 Q (F0 m 16 ls []) := by
  intro γ Γ δ dr H locs ls h hW hl
  unfold fMa_rests_16 at h
  refine lv_iconst (v := -1) S.1 S.2.1 dX6_rests_16 (by decide) ?_
  obtain ⟨rfl, rfl, rfl, rfl, rfl⟩ := pr5 h
  exact hQ _ _ _ _ dX6_rests_17 rfl hW
set_option maxHeartbeats 4000000 in
set_option maxRecDepth 100000 in
theorem wMa_rests_86 {p : Program} {l : Launch} {e : Env} {s : State} {m : MethodId} {args : Array Value} {below : List Frame} {meth : Method} {c : Code} {A : Nat → Prop} {Q : State → Prop} {D : va_G} {cs : Nat → ClassId} {a aS aT aE aG aD aR : Nat → Nat} {μ : St} {ς : St} {τ : St} {ε : St} {ρ : St} {r : Int32} {γ' : St} {Γ' : Nat → Int64} {δ' : St} {dr' : Nat} {N : Nat} (S : Fx p m c cX6_rests 7 s args RX6) (hK : va_K D vwCl (tyL cs) s) (hA : ∀ x, s.heap.size ≤ x → A x) (hQ : ∀ (H : Heap) (locs : List Loc) (pc : Nat) (ls : Array Slot), decode cX6_rests pc = .ok (.ireturn, 1) → narrow .int (.int r) = .int r → Wd D A s.heap (wMa cs a (aT 0) (aS 0) (aD 0) (aG 0) (aR 0) (aE 0) μ ++ (wSc cs aS (aT 0) ς ++ (wTe cs aT τ ++ (wRo cs aE ε ++ (wGa cs aG (aD 0) (aR 0) γ' Γ' ++ (wDa cs aD dr' δ' ++ (wRo cs aR ρ))))))) H locs → W p l e { frames := 6, cells := 0, slots := 0, locals := 139 } s m args below meth c H locs 0 0 Q (F0 m pc ls [.int r])) {k_39 : Int32 → Int32 → Int32 → Int32 → Int32 → St → (Nat → Int64) → St → Nat → Option (Int32 × St × (Nat → Int64) × St × Nat)} (hk_39 : ∀ (v2 : Int32) (v3 : Int32) (v4 : Int32) (v5 : Int32) (v6 : Int32) (γ : St) (Γ : Nat → Int64) (δ : St) (dr : Nat) (H : Heap) (locs : List Loc) (ls : Array Slot), k_39 v2 v3 v4 v5 v6 γ Γ δ dr = some (r, γ', Γ', δ', dr') → Wd D A s.heap (wMa cs a (aT 0) (aS 0) (aD 0) (aG 0) (aR 0) (aE 0) μ ++ (wSc cs aS (aT 0) ς ++ (wTe cs aT τ ++ (wRo cs aE ε ++ (wGa cs aG (aD 0) (aR 0) γ Γ ++ (wDa cs aD dr δ ++ (wRo cs aR ρ))))))) H locs → lv_has ls 7 [(0, .ref (a 0)), (2, .int v2), (3, .int v3), (4, .int v4), (5, .int v5), (6, .int v6)] → W p l e { frames := 6, cells := 0, slots := 0, locals := 139 } s m args below meth c H locs 0 0 Q (F0 m 39 ls [])) : ∀ (v2 : Int32) (v3 : Int32) (v4 : Int32) (v5 : Int32) (v6 : Int32) (γ : St) (Γ : Nat → Int64) (δ : St) (dr : Nat) (H : Heap) (locs : List Loc) (ls : Array Slot), fMa_rests_86 k_39 N ρ (aR 0) v2 v3 v4 v5 v6 γ Γ δ dr = some (r, γ', Γ', δ', dr') → Wd D A s.heap (wMa cs a (aT 0) (aS 0) (aD 0) (aG 0) (aR 0) (aE 0) μ ++ (wSc cs aS (aT 0) ς ++ (wTe cs aT τ ++ (wRo cs aE ε ++ (wGa cs aG (aD 0) (aR 0) γ Γ ++ (wDa cs aD dr δ ++ (wRo cs aR ρ))))))) H locs → lv_has ls 7 [(0, .ref (a 0)), (2, .int v2), (3, .int v3), (4, .int v4), (5, .int v5), (6, .int v6)] → W p l e { frames := 6, cells := 0, slots := 0, locals := 139 } s m args below meth c H locs 0 0 Q (F0 m 86 ls []) := by
  intro v2 v3 v4 v5 v6 γ Γ δ dr H locs ls h hW hl
  unfold fMa_rests_86 at h
  obtain ⟨x6_1, ex6_1, h⟩ := nm_some h
  refine lv_iinc (v := x6_1) (lv' := [(6, .int x6_1), (0, .ref (a 0)), (2, .int v2), (3, .int v3), (4, .int v4), (5, .int v5)]) S.1 S.2.1 dX6_rests_86 hl (k := 5) rfl (by rw [ex6_1]; rfl) (by decide) rfl (fun ls hl => ?_)
  refine lv_goto (tgt := 39) S.1 S.2.1 dX6_rests_89 (by decide) ?_
  exact hk_39 v2 v3 v4 v5 x6_1 γ Γ δ dr _ _ _ h hW (lv_sub hl [1, 2, 3, 4, 5, 0] rfl)
set_option maxHeartbeats 4000000 in
set_option maxRecDepth 100000 in
theorem wMa_rests_80 {p : Program} {l : Launch} {e : Env} {s : State} {m : MethodId} {args : Array Value} {below : List Frame} {meth : Method} {c : Code} {A : Nat → Prop} {Q : State → Prop} {D : va_G} {cs : Nat → ClassId} {a aS aT aE aG aD aR : Nat → Nat} {μ : St} {ς : St} {τ : St} {ε : St} {ρ : St} {r : Int32} {γ' : St} {Γ' : Nat → Int64} {δ' : St} {dr' : Nat} {N : Nat} (S : Fx p m c cX6_rests 7 s args RX6) (hK : va_K D vwCl (tyL cs) s) (hA : ∀ x, s.heap.size ≤ x → A x) (hQ : ∀ (H : Heap) (locs : List Loc) (pc : Nat) (ls : Array Slot), decode cX6_rests pc = .ok (.ireturn, 1) → narrow .int (.int r) = .int r → Wd D A s.heap (wMa cs a (aT 0) (aS 0) (aD 0) (aG 0) (aR 0) (aE 0) μ ++ (wSc cs aS (aT 0) ς ++ (wTe cs aT τ ++ (wRo cs aE ε ++ (wGa cs aG (aD 0) (aR 0) γ' Γ' ++ (wDa cs aD dr' δ' ++ (wRo cs aR ρ))))))) H locs → W p l e { frames := 6, cells := 0, slots := 0, locals := 139 } s m args below meth c H locs 0 0 Q (F0 m pc ls [.int r])) {k_39 : Int32 → Int32 → Int32 → Int32 → Int32 → St → (Nat → Int64) → St → Nat → Option (Int32 × St × (Nat → Int64) × St × Nat)} (hk_39 : ∀ (v2 : Int32) (v3 : Int32) (v4 : Int32) (v5 : Int32) (v6 : Int32) (γ : St) (Γ : Nat → Int64) (δ : St) (dr : Nat) (H : Heap) (locs : List Loc) (ls : Array Slot), k_39 v2 v3 v4 v5 v6 γ Γ δ dr = some (r, γ', Γ', δ', dr') → Wd D A s.heap (wMa cs a (aT 0) (aS 0) (aD 0) (aG 0) (aR 0) (aE 0) μ ++ (wSc cs aS (aT 0) ς ++ (wTe cs aT τ ++ (wRo cs aE ε ++ (wGa cs aG (aD 0) (aR 0) γ Γ ++ (wDa cs aD dr δ ++ (wRo cs aR ρ))))))) H locs → lv_has ls 7 [(0, .ref (a 0)), (2, .int v2), (3, .int v3), (4, .int v4), (5, .int v5), (6, .int v6)] → W p l e { frames := 6, cells := 0, slots := 0, locals := 139 } s m args below meth c H locs 0 0 Q (F0 m 39 ls [])) : ∀ (v2 : Int32) (v3 : Int32) (v6 : Int32) (k0 : Int32) (γ : St) (Γ : Nat → Int64) (δ : St) (dr : Nat) (H : Heap) (locs : List Loc) (ls : Array Slot), fMa_rests_80 k_39 N ρ (aR 0) v2 v3 v6 k0 γ Γ δ dr = some (r, γ', Γ', δ', dr') → Wd D A s.heap (wMa cs a (aT 0) (aS 0) (aD 0) (aG 0) (aR 0) (aE 0) μ ++ (wSc cs aS (aT 0) ς ++ (wTe cs aT τ ++ (wRo cs aE ε ++ (wGa cs aG (aD 0) (aR 0) γ Γ ++ (wDa cs aD dr δ ++ (wRo cs aR ρ))))))) H locs → lv_has ls 7 [(0, .ref (a 0)), (2, .int v2), (3, .int v3), (6, .int v6)] → W p l e { frames := 6, cells := 0, slots := 0, locals := 139 } s m args below meth c H locs 0 0 Q (F0 m 80 ls [.int k0]) := by
  intro v2 v3 v6 k0 γ Γ δ dr H locs ls h hW hl
  unfold fMa_rests_80 at h
  refine lv_istore (lv' := [(4, .int k0), (0, .ref (a 0)), (2, .int v2), (3, .int v3), (6, .int v6)]) S.1 S.2.1 dX6_rests_80 hl (by decide) rfl (fun ls hl => ?_)
  refine lv_iload S.1 S.2.1 dX6_rests_82 (lv_at hl 4 rfl) ?_
  refine lv_istore (lv' := [(5, .int v6), (4, .int k0), (0, .ref (a 0)), (2, .int v2), (3, .int v3), (6, .int v6)]) S.1 S.2.1 dX6_rests_84 hl (by decide) rfl (fun ls hl => ?_)
  exact wMa_rests_86 S hK hA hQ hk_39 v2 v3 k0 v6 v6 γ Γ δ dr _ _ _ h hW (lv_sub hl [2, 3, 4, 1, 0, 5] rfl)
set_option maxHeartbeats 4000000 in
set_option maxRecDepth 100000 in
theorem wMa_rests_112 {p : Program} {l : Launch} {e : Env} {s : State} {m : MethodId} {args : Array Value} {below : List Frame} {meth : Method} {c : Code} {A : Nat → Prop} {Q : State → Prop} {D : va_G} {cs : Nat → ClassId} {a aS aT aE aG aD aR : Nat → Nat} {μ : St} {ς : St} {τ : St} {ε : St} {ρ : St} {r : Int32} {γ' : St} {Γ' : Nat → Int64} {δ' : St} {dr' : Nat} {N : Nat} (S : Fx p m c cX6_rests 7 s args RX6) (hK : va_K D vwCl (tyL cs) s) (hA : ∀ x, s.heap.size ≤ x → A x) (hQ : ∀ (H : Heap) (locs : List Loc) (pc : Nat) (ls : Array Slot), decode cX6_rests pc = .ok (.ireturn, 1) → narrow .int (.int r) = .int r → Wd D A s.heap (wMa cs a (aT 0) (aS 0) (aD 0) (aG 0) (aR 0) (aE 0) μ ++ (wSc cs aS (aT 0) ς ++ (wTe cs aT τ ++ (wRo cs aE ε ++ (wGa cs aG (aD 0) (aR 0) γ' Γ' ++ (wDa cs aD dr' δ' ++ (wRo cs aR ρ))))))) H locs → W p l e { frames := 6, cells := 0, slots := 0, locals := 139 } s m args below meth c H locs 0 0 Q (F0 m pc ls [.int r])) : ∀ (k0 : Int32) (γ : St) (Γ : Nat → Int64) (δ : St) (dr : Nat) (H : Heap) (locs : List Loc) (ls : Array Slot), fMa_rests_112 N ρ (aR 0) k0 γ Γ δ dr = some (r, γ', Γ', δ', dr') → Wd D A s.heap (wMa cs a (aT 0) (aS 0) (aD 0) (aG 0) (aR 0) (aE 0) μ ++ (wSc cs aS (aT 0) ς ++ (wTe cs aT τ ++ (wRo cs aE ε ++ (wGa cs aG (aD 0) (aR 0) γ Γ ++ (wDa cs aD dr δ ++ (wRo cs aR ρ))))))) H locs → lv_has ls 7 [] → W p l e { frames := 6, cells := 0, slots := 0, locals := 139 } s m args below meth c H locs 0 0 Q (F0 m 112 ls [.int k0]) := by
  intro k0 γ Γ δ dr H locs ls h hW hl
  unfold fMa_rests_112 at h
  obtain ⟨rfl, rfl, rfl, rfl, rfl⟩ := pr5 h
  exact hQ _ _ _ _ dX6_rests_112 rfl hW
set_option maxHeartbeats 4000000 in
set_option maxRecDepth 100000 in
theorem wMa_rests_39 {p : Program} {l : Launch} {e : Env} {s : State} {m : MethodId} {args : Array Value} {below : List Frame} {meth : Method} {c : Code} {A : Nat → Prop} {Q : State → Prop} {D : va_G} {cs : Nat → ClassId} {a aS aT aE aG aD aR : Nat → Nat} {μ : St} {ς : St} {τ : St} {ε : St} {ρ : St} {r : Int32} {γ' : St} {Γ' : Nat → Int64} {δ' : St} {dr' : Nat} {N : Nat} (S : Fx p m c cX6_rests 7 s args RX6) (hK : va_K D vwCl (tyL cs) s) (hA : ∀ x, s.heap.size ≤ x → A x) (hQ : ∀ (H : Heap) (locs : List Loc) (pc : Nat) (ls : Array Slot), decode cX6_rests pc = .ok (.ireturn, 1) → narrow .int (.int r) = .int r → Wd D A s.heap (wMa cs a (aT 0) (aS 0) (aD 0) (aG 0) (aR 0) (aE 0) μ ++ (wSc cs aS (aT 0) ς ++ (wTe cs aT τ ++ (wRo cs aE ε ++ (wGa cs aG (aD 0) (aR 0) γ' Γ' ++ (wDa cs aD dr' δ' ++ (wRo cs aR ρ))))))) H locs → W p l e { frames := 6, cells := 0, slots := 0, locals := 139 } s m args below meth c H locs 0 0 Q (F0 m pc ls [.int r])) : ∀ (n_39 : Nat) (v2 : Int32) (v3 : Int32) (v4 : Int32) (v5 : Int32) (v6 : Int32) (γ : St) (Γ : Nat → Int64) (δ : St) (dr : Nat) (H : Heap) (locs : List Loc) (ls : Array Slot), fMa_rests_39 N ρ (aR 0) n_39 v2 v3 v4 v5 v6 γ Γ δ dr = some (r, γ', Γ', δ', dr') → Wd D A s.heap (wMa cs a (aT 0) (aS 0) (aD 0) (aG 0) (aR 0) (aE 0) μ ++ (wSc cs aS (aT 0) ς ++ (wTe cs aT τ ++ (wRo cs aE ε ++ (wGa cs aG (aD 0) (aR 0) γ Γ ++ (wDa cs aD dr δ ++ (wRo cs aR ρ))))))) H locs → lv_has ls 7 [(0, .ref (a 0)), (2, .int v2), (3, .int v3), (4, .int v4), (5, .int v5), (6, .int v6)] → W p l e { frames := 6, cells := 0, slots := 0, locals := 139 } s m args below meth c H locs 0 0 Q (F0 m 39 ls []) := by
  intro n_39
  induction n_39 with
  | zero =>
    intro v2 v3 v4 v5 v6 γ Γ δ dr H locs ls h
    cases h
  | succ n_39 ih =>
    intro v2 v3 v4 v5 v6 γ Γ δ dr H locs ls h hW hl
    unfold fMa_rests_39 at h
    refine lv_iload S.1 S.2.1 dX6_rests_39 (lv_at hl 5 rfl) ?_
    refine lv_aload_n S.1 S.2.1 dX6_rests_41 rfl (lv_at hl 0 rfl) ?_
    refine gMa_laid S hK hW dX6_rests_42 ?_
    obtain ⟨r_2, hc_3, h⟩ := cl1_some h
    have hW := kw (w' := (wMa cs a (aT 0) (aS 0) (aD 0) (aG 0) (aR 0) (aE 0) μ ++ (wSc cs aS (aT 0) ς ++ (wTe cs aT τ ++ (wRo cs aE ε ++ (wGa cs aG (aD 0) (aR 0) γ Γ ++ (wDa cs aD dr δ)))))) ++ ((wRo cs aR ρ) ++ [])) (by simp only [List.append_assoc, List.nil_append, List.append_nil]) hW
    refine kV_i (As := []) (rest := [.int v6]) S hK hA (z := none) trivial (wMa cs a (aT 0) (aS 0) (aD 0) (aG 0) (aR 0) (aE 0) μ ++ (wSc cs aS (aT 0) ς ++ (wTe cs aT τ ++ (wRo cs aE ε ++ (wGa cs aG (aD 0) (aR 0) γ Γ ++ (wDa cs aD dr δ)))))) [] hW (cRo_everybody l D cs aR ρ N hc_3) (ci := 2) rfl rfl lk_X6_81 q233 q234 ⟨Nat.le_of_ble_eq_true rfl, Nat.le_of_ble_eq_true rfl⟩ rfl (Nat.le_of_ble_eq_true rfl) hl.1 dX6_rests_45 ⟨Nat.zero_le _, Nat.zero_le _⟩ (fun H locs hW => ?_)
    have hW : Wd D A s.heap (wMa cs a (aT 0) (aS 0) (aD 0) (aG 0) (aR 0) (aE 0) μ ++ (wSc cs aS (aT 0) ς ++ (wTe cs aT τ ++ (wRo cs aE ε ++ (wGa cs aG (aD 0) (aR 0) γ Γ ++ (wDa cs aD dr δ ++ (wRo cs aR ρ))))))) H locs := kw (by simp only [List.append_assoc, List.nil_append, List.append_nil]) hW
    refine lv_icmp_gt (tgt := 92) S.1 S.2.1 dX6_rests_48 (by decide) (fun c_4 => ?_) (fun c_4 => ?_)
    · have h := ite_t c_4 h
      refine lv_iload_n S.1 S.2.1 dX6_rests_92 rfl (lv_at hl 1 rfl) ?_
      refine lv_if_ne (tgt := 100) S.1 S.2.1 dX6_rests_93 (by decide) (fun c_5 => ?_) (fun c_5 => ?_)
      · have h := ite_f c_5 h
        refine lv_iload_n S.1 S.2.1 dX6_rests_100 rfl (lv_at hl 1 rfl) ?_
        refine lv_iconst (v := 1) S.1 S.2.1 dX6_rests_101 (by decide) ?_
        refine lv_icmp_ne (tgt := 110) S.1 S.2.1 dX6_rests_102 (by decide) (fun c_6 => ?_) (fun c_6 => ?_)
        · have h := ite_f c_6 h
          refine lv_iload S.1 S.2.1 dX6_rests_110 (lv_at hl 4 rfl) ?_
          exact wMa_rests_112 S hK hA hQ v5 γ Γ δ dr _ _ _ h hW (lv_sub hl [] rfl)
        · have h := ite_t c_6 h
          refine lv_iload S.1 S.2.1 dX6_rests_105 (lv_at hl 3 rfl) ?_
          refine lv_goto (tgt := 112) S.1 S.2.1 dX6_rests_107 (by decide) ?_
          exact wMa_rests_112 S hK hA hQ v4 γ Γ δ dr _ _ _ h hW (lv_sub hl [] rfl)
      · have h := ite_t c_5 h
        refine lv_iload_n S.1 S.2.1 dX6_rests_96 rfl (lv_at hl 2 rfl) ?_
        refine lv_goto (tgt := 112) S.1 S.2.1 dX6_rests_97 (by decide) ?_
        exact wMa_rests_112 S hK hA hQ v3 γ Γ δ dr _ _ _ h hW (lv_sub hl [] rfl)
    · have h := ite_f c_4 h
      refine lv_aload_n S.1 S.2.1 dX6_rests_51 rfl (lv_at hl 0 rfl) ?_
      refine gMa_game S hK hW dX6_rests_52 ?_
      refine lv_iload S.1 S.2.1 dX6_rests_55 (lv_at hl 5 rfl) ?_
      obtain ⟨r_7, Γ_8, δ_9, dr_10, hc_11, h⟩ := cl4_some h
      have hW := kw (w' := (wMa cs a (aT 0) (aS 0) (aD 0) (aG 0) (aR 0) (aE 0) μ ++ (wSc cs aS (aT 0) ς ++ (wTe cs aT τ ++ (wRo cs aE ε)))) ++ ((wGa cs aG (aD 0) (aR 0) γ Γ ++ (wDa cs aD dr δ ++ (wRo cs aR ρ))) ++ [])) (by simp only [List.append_assoc, List.nil_append, List.append_nil]) hW
      refine kV_i (As := [.int v6]) (rest := []) S hK hA (z := none) trivial (wMa cs a (aT 0) (aS 0) (aD 0) (aG 0) (aR 0) (aE 0) μ ++ (wSc cs aS (aT 0) ς ++ (wTe cs aT τ ++ (wRo cs aE ε)))) [] hW (cGa_isRest l D cs aG aD aR γ Γ δ ρ dr v6 N hc_11) (ci := 1) rfl rfl lk_X6_179 q561 q562 ⟨Nat.le_of_ble_eq_true rfl, Nat.le_of_ble_eq_true rfl⟩ rfl (Nat.le_of_ble_eq_true rfl) hl.1 dX6_rests_57 ⟨Nat.zero_le _, Nat.zero_le _⟩ (fun H locs hW => ?_)
      have hW : Wd D A s.heap (wMa cs a (aT 0) (aS 0) (aD 0) (aG 0) (aR 0) (aE 0) μ ++ (wSc cs aS (aT 0) ς ++ (wTe cs aT τ ++ (wRo cs aE ε ++ (wGa cs aG (aD 0) (aR 0) γ Γ_8 ++ (wDa cs aD dr_10 δ_9 ++ (wRo cs aR ρ))))))) H locs := kw (by simp only [List.append_assoc, List.nil_append, List.append_nil]) hW
      refine lv_if_eq (tgt := 86) S.1 S.2.1 dX6_rests_60 (by decide) (fun c_12 => ?_) (fun c_12 => ?_)
      · have h := ite_t c_12 h
        exact wMa_rests_86 S hK hA hQ ih v2 v3 v4 v5 v6 γ Γ_8 δ_9 dr_10 _ _ _ h hW (lv_sub hl [0, 1, 2, 3, 4, 5] rfl)
      · have h := ite_f c_12 h
        obtain ⟨x3_13, ex3_13, h⟩ := nm_some h
        refine lv_iinc (v := x3_13) (lv' := [(3, .int x3_13), (0, .ref (a 0)), (2, .int v2), (4, .int v4), (5, .int v5), (6, .int v6)]) S.1 S.2.1 dX6_rests_63 hl (k := 2) rfl (by rw [ex3_13]; rfl) (by decide) rfl (fun ls hl => ?_)
        refine lv_iload S.1 S.2.1 dX6_rests_66 (lv_at hl 3 rfl) ?_
        refine lv_bipush (v := -4) S.1 S.2.1 dX6_rests_68 (by decide) ?_
        refine lv_icmp_ne (tgt := 78) S.1 S.2.1 dX6_rests_70 (by decide) (fun c_14 => ?_) (fun c_14 => ?_)
        · have h := ite_f c_14 h
          refine lv_iload S.1 S.2.1 dX6_rests_78 (lv_at hl 3 rfl) ?_
          exact wMa_rests_80 S hK hA hQ ih v2 x3_13 v6 v4 γ Γ_8 δ_9 dr_10 _ _ _ h hW (lv_sub hl [1, 2, 0, 5] rfl)
        · have h := ite_t c_14 h
          refine lv_iload S.1 S.2.1 dX6_rests_73 (lv_at hl 5 rfl) ?_
          refine lv_goto (tgt := 80) S.1 S.2.1 dX6_rests_75 (by decide) ?_
          exact wMa_rests_80 S hK hA hQ ih v2 x3_13 v6 v6 γ Γ_8 δ_9 dr_10 _ _ _ h hW (lv_sub hl [1, 2, 0, 5] rfl)
set_option maxHeartbeats 4000000 in
set_option maxRecDepth 100000 in
theorem cMa_rests (l : Launch) (D : va_G) (cs : Nat → ClassId) (a aS aT aE aG aD aR : Nat → Nat) (μ : St) (ς : St) (τ : St) (ε : St) (γ : St) (Γ : Nat → Int64) (δ : St) (ρ : St) (dr : Nat) (p0 : Int32) (p1 : Int32) (N : Nat) {r : Int32} {γ' : St} {Γ' : Nat → Int64} {δ' : St} {dr' : Nat} (h : fMa_rests N p0 p1 ρ (aR 0) γ Γ δ dr = some (r, γ', Γ', δ', dr')) : Ki l D cs none yX6_rests cX6_rests 7 (some .int) 6 139 (wMa cs a (aT 0) (aS 0) (aD 0) (aG 0) (aR 0) (aE 0) μ ++ (wSc cs aS (aT 0) ς ++ (wTe cs aT τ ++ (wRo cs aE ε ++ (wGa cs aG (aD 0) (aR 0) γ Γ ++ (wDa cs aD dr δ ++ (wRo cs aR ρ))))))) [.ref (a 0), .int p0, .int p1] r (wMa cs a (aT 0) (aS 0) (aD 0) (aG 0) (aR 0) (aE 0) μ ++ (wSc cs aS (aT 0) ς ++ (wTe cs aT τ ++ (wRo cs aE ε ++ (wGa cs aG (aD 0) (aR 0) γ' Γ' ++ (wDa cs aD dr' δ' ++ (wRo cs aR ρ))))))) := by
  refine Ki_of (by decide +kernel) (Nat.le_of_ble_eq_true rfl) (fun p e s m below meth c A S hK hA hZ Q hQ ls hl hW => ?_)
  have hl : lv_has ls 7 [(0, .ref (a 0)), (1, .int p0), (2, .int p1)] := hl
  unfold fMa_rests at h
  refine lv_iload_n S.1 S.2.1 dX6_rests_0 rfl (lv_at hl 1 rfl) ?_
  obtain ⟨r_15, hc_16, h⟩ := cl1_some h
  refine kS_i (As := [.int p0]) (rest := []) S hK hA (z := none) trivial [] (wMa cs a (aT 0) (aS 0) (aD 0) (aG 0) (aR 0) (aE 0) μ ++ (wSc cs aS (aT 0) ς ++ (wTe cs aT τ ++ (wRo cs aE ε ++ (wGa cs aG (aD 0) (aR 0) γ Γ ++ (wDa cs aD dr δ ++ (wRo cs aR ρ))))))) hW (cMa_isRule l D cs p0 N hc_16) lk_X6_129 q398 ⟨Nat.le_of_ble_eq_true rfl, Nat.le_of_ble_eq_true rfl⟩ rfl (Nat.le_of_ble_eq_true rfl) hl.1 dX6_rests_1 ⟨Nat.zero_le _, Nat.zero_le _⟩ (fun H locs hW => ?_)
  have hW : Wd D A s.heap (wMa cs a (aT 0) (aS 0) (aD 0) (aG 0) (aR 0) (aE 0) μ ++ (wSc cs aS (aT 0) ς ++ (wTe cs aT τ ++ (wRo cs aE ε ++ (wGa cs aG (aD 0) (aR 0) γ Γ ++ (wDa cs aD dr δ ++ (wRo cs aR ρ))))))) H locs := hW
  refine lv_if_eq (tgt := 16) S.1 S.2.1 dX6_rests_4 (by decide) (fun c_17 => ?_) (fun c_17 => ?_)
  · have h := ite_t c_17 h
    exact wMa_rests_16 S hK hA hQ γ Γ δ dr _ _ _ h hW (lv_sub hl [] rfl)
  · have h := ite_f c_17 h
    refine lv_iload_n S.1 S.2.1 dX6_rests_7 rfl (lv_at hl 2 rfl) ?_
    refine lv_iconst (v := 0) S.1 S.2.1 dX6_rests_8 (by decide) ?_
    refine lv_iconst (v := 2) S.1 S.2.1 dX6_rests_9 (by decide) ?_
    obtain ⟨r_18, hc_19, h⟩ := cl1_some h
    refine kS_i (As := [.int p1, .int (0 : Int32), .int (2 : Int32)]) (rest := []) S hK hA (z := none) trivial [] (wMa cs a (aT 0) (aS 0) (aD 0) (aG 0) (aR 0) (aE 0) μ ++ (wSc cs aS (aT 0) ς ++ (wTe cs aT τ ++ (wRo cs aE ε ++ (wGa cs aG (aD 0) (aR 0) γ Γ ++ (wDa cs aD dr δ ++ (wRo cs aR ρ))))))) hW (cMa_within l D cs p1 (0 : Int32) (2 : Int32) N hc_19) lk_X6_88 q278 ⟨Nat.le_of_ble_eq_true rfl, Nat.le_of_ble_eq_true rfl⟩ rfl (Nat.le_of_ble_eq_true rfl) hl.1 dX6_rests_10 ⟨Nat.zero_le _, Nat.zero_le _⟩ (fun H locs hW => ?_)
    have hW : Wd D A s.heap (wMa cs a (aT 0) (aS 0) (aD 0) (aG 0) (aR 0) (aE 0) μ ++ (wSc cs aS (aT 0) ς ++ (wTe cs aT τ ++ (wRo cs aE ε ++ (wGa cs aG (aD 0) (aR 0) γ Γ ++ (wDa cs aD dr δ ++ (wRo cs aR ρ))))))) H locs := hW
    refine lv_if_ne (tgt := 18) S.1 S.2.1 dX6_rests_13 (by decide) (fun c_20 => ?_) (fun c_20 => ?_)
    · have h := ite_f c_20 h
      refine lv_aload_n S.1 S.2.1 dX6_rests_18 rfl (lv_at hl 0 rfl) ?_
      refine gMa_game S hK hW dX6_rests_19 ?_
      refine lv_iload_n S.1 S.2.1 dX6_rests_22 rfl (lv_at hl 1 rfl) ?_
      obtain ⟨γ_21, Γ_22, hc_23, h⟩ := cl2_some h
      have hW := kw (w' := (wMa cs a (aT 0) (aS 0) (aD 0) (aG 0) (aR 0) (aE 0) μ ++ (wSc cs aS (aT 0) ς ++ (wTe cs aT τ ++ (wRo cs aE ε)))) ++ ((wGa cs aG (aD 0) (aR 0) γ Γ ++ (wDa cs aD dr δ ++ (wRo cs aR ρ))) ++ [])) (by simp only [List.append_assoc, List.nil_append, List.append_nil]) hW
      refine kV_v (As := [.int p0]) (rest := []) S hK hA (z := none) trivial (wMa cs a (aT 0) (aS 0) (aD 0) (aG 0) (aR 0) (aE 0) μ ++ (wSc cs aS (aT 0) ς ++ (wTe cs aT τ ++ (wRo cs aE ε)))) [] hW (cGa_playBy l D cs aG aD aR γ Γ δ ρ dr p0 N hc_23) (ci := 1) rfl rfl lk_X6_176 q547 q548 ⟨Nat.le_of_ble_eq_true rfl, Nat.le_of_ble_eq_true rfl⟩ rfl (Nat.le_of_ble_eq_true rfl) hl.1 dX6_rests_23 ⟨Nat.zero_le _, Nat.zero_le _⟩ (fun H locs hW => ?_)
      have hW : Wd D A s.heap (wMa cs a (aT 0) (aS 0) (aD 0) (aG 0) (aR 0) (aE 0) μ ++ (wSc cs aS (aT 0) ς ++ (wTe cs aT τ ++ (wRo cs aE ε ++ (wGa cs aG (aD 0) (aR 0) γ_21 Γ_22 ++ (wDa cs aD dr δ ++ (wRo cs aR ρ))))))) H locs := kw (by simp only [List.append_assoc, List.nil_append, List.append_nil]) hW
      refine lv_iconst (v := 0) S.1 S.2.1 dX6_rests_26 (by decide) ?_
      refine lv_istore_n (lv' := [(3, .int (0 : Int32)), (0, .ref (a 0)), (1, .int p0), (2, .int p1)]) S.1 S.2.1 dX6_rests_27 rfl hl (by decide) rfl (fun ls hl => ?_)
      refine lv_bipush (v := -4) S.1 S.2.1 dX6_rests_28 (by decide) ?_
      refine lv_istore (lv' := [(4, .int (-4 : Int32)), (3, .int (0 : Int32)), (0, .ref (a 0)), (1, .int p0), (2, .int p1)]) S.1 S.2.1 dX6_rests_30 hl (by decide) rfl (fun ls hl => ?_)
      refine lv_bipush (v := -4) S.1 S.2.1 dX6_rests_32 (by decide) ?_
      refine lv_istore (lv' := [(5, .int (-4 : Int32)), (4, .int (-4 : Int32)), (3, .int (0 : Int32)), (0, .ref (a 0)), (1, .int p0), (2, .int p1)]) S.1 S.2.1 dX6_rests_34 hl (by decide) rfl (fun ls hl => ?_)
      refine lv_iconst (v := 0) S.1 S.2.1 dX6_rests_36 (by decide) ?_
      refine lv_istore (lv' := [(6, .int (0 : Int32)), (5, .int (-4 : Int32)), (4, .int (-4 : Int32)), (3, .int (0 : Int32)), (0, .ref (a 0)), (1, .int p0), (2, .int p1)]) S.1 S.2.1 dX6_rests_37 hl (by decide) rfl (fun ls hl => ?_)
      exact wMa_rests_39 S hK hA hQ N p1 (0 : Int32) (-4 : Int32) (-4 : Int32) (0 : Int32) γ_21 Γ_22 δ dr _ _ _ h hW (lv_sub hl [4, 6, 3, 2, 1, 0] rfl)
    · have h := ite_t c_20 h
      exact wMa_rests_16 S hK hA hQ γ Γ δ dr _ _ _ h hW (lv_sub hl [] rfl)
set_option maxHeartbeats 4000000 in
set_option maxRecDepth 100000 in
theorem wMa_rounds_17 {p : Program} {l : Launch} {e : Env} {s : State} {m : MethodId} {args : Array Value} {below : List Frame} {meth : Method} {c : Code} {A : Nat → Prop} {Q : State → Prop} {D : va_G} {cs : Nat → ClassId} {a aS aT aE aG aD aR : Nat → Nat} {μ : St} {ς : St} {τ : St} {ε : St} {γ : St} {Γ : Nat → Int64} {ρ : St} {r : Int32} {δ' : St} {dr' : Nat} {N : Nat} (S : Fx p m c cX6_rounds 3 s args RX6) (hK : va_K D vwCl (tyL cs) s) (hA : ∀ x, s.heap.size ≤ x → A x) (hQ : ∀ (H : Heap) (locs : List Loc) (pc : Nat) (ls : Array Slot), decode cX6_rounds pc = .ok (.ireturn, 1) → narrow .int (.int r) = .int r → Wd D A s.heap (wMa cs a (aT 0) (aS 0) (aD 0) (aG 0) (aR 0) (aE 0) μ ++ (wSc cs aS (aT 0) ς ++ (wTe cs aT τ ++ (wRo cs aE ε ++ (wGa cs aG (aD 0) (aR 0) γ Γ ++ (wDa cs aD dr' δ' ++ (wRo cs aR ρ))))))) H locs → W p l e { frames := 5, cells := 0, slots := 0, locals := 115 } s m args below meth c H locs 0 0 Q (F0 m pc ls [.int r])) : ∀ (δ : St) (dr : Nat) (H : Heap) (locs : List Loc) (ls : Array Slot), fMa_rounds_17 N μ ρ (aR 0) δ dr = some (r, δ', dr') → Wd D A s.heap (wMa cs a (aT 0) (aS 0) (aD 0) (aG 0) (aR 0) (aE 0) μ ++ (wSc cs aS (aT 0) ς ++ (wTe cs aT τ ++ (wRo cs aE ε ++ (wGa cs aG (aD 0) (aR 0) γ Γ ++ (wDa cs aD dr δ ++ (wRo cs aR ρ))))))) H locs → lv_has ls 3 [] → W p l e { frames := 5, cells := 0, slots := 0, locals := 115 } s m args below meth c H locs 0 0 Q (F0 m 17 ls []) := by
  intro δ dr H locs ls h hW hl
  unfold fMa_rounds_17 at h
  refine lv_iconst (v := -1) S.1 S.2.1 dX6_rounds_17 (by decide) ?_
  obtain ⟨rfl, rfl, rfl⟩ := pr3 h
  exact hQ _ _ _ _ dX6_rounds_18 rfl hW
set_option maxHeartbeats 4000000 in
set_option maxRecDepth 100000 in
theorem cMa_rounds (l : Launch) (D : va_G) (cs : Nat → ClassId) (a aS aT aE aG aD aR : Nat → Nat) (μ : St) (ς : St) (τ : St) (ε : St) (γ : St) (Γ : Nat → Int64) (δ : St) (ρ : St) (dr : Nat) (p0 : Int32) (p1 : Int32) (N : Nat) {r : Int32} {δ' : St} {dr' : Nat} (h : fMa_rounds N p0 p1 μ ρ (aR 0) δ dr = some (r, δ', dr')) : Ki l D cs none yX6_rounds cX6_rounds 3 (some .int) 5 115 (wMa cs a (aT 0) (aS 0) (aD 0) (aG 0) (aR 0) (aE 0) μ ++ (wSc cs aS (aT 0) ς ++ (wTe cs aT τ ++ (wRo cs aE ε ++ (wGa cs aG (aD 0) (aR 0) γ Γ ++ (wDa cs aD dr δ ++ (wRo cs aR ρ))))))) [.ref (a 0), .int p0, .int p1] r (wMa cs a (aT 0) (aS 0) (aD 0) (aG 0) (aR 0) (aE 0) μ ++ (wSc cs aS (aT 0) ς ++ (wTe cs aT τ ++ (wRo cs aE ε ++ (wGa cs aG (aD 0) (aR 0) γ Γ ++ (wDa cs aD dr' δ' ++ (wRo cs aR ρ))))))) := by
  refine Ki_of (by decide +kernel) (Nat.le_of_ble_eq_true rfl) (fun p e s m below meth c A S hK hA hZ Q hQ ls hl hW => ?_)
  have hl : lv_has ls 3 [(0, .ref (a 0)), (1, .int p0), (2, .int p1)] := hl
  unfold fMa_rounds at h
  refine lv_iload_n S.1 S.2.1 dX6_rounds_0 rfl (lv_at hl 1 rfl) ?_
  obtain ⟨r_1, hc_2, h⟩ := cl1_some h
  refine kS_i (As := [.int p0]) (rest := []) S hK hA (z := none) trivial [] (wMa cs a (aT 0) (aS 0) (aD 0) (aG 0) (aR 0) (aE 0) μ ++ (wSc cs aS (aT 0) ς ++ (wTe cs aT τ ++ (wRo cs aE ε ++ (wGa cs aG (aD 0) (aR 0) γ Γ ++ (wDa cs aD dr δ ++ (wRo cs aR ρ))))))) hW (cMa_isRule l D cs p0 N hc_2) lk_X6_129 q398 ⟨Nat.le_of_ble_eq_true rfl, Nat.le_of_ble_eq_true rfl⟩ rfl (Nat.le_of_ble_eq_true rfl) hl.1 dX6_rounds_1 ⟨Nat.zero_le _, Nat.zero_le _⟩ (fun H locs hW => ?_)
  have hW : Wd D A s.heap (wMa cs a (aT 0) (aS 0) (aD 0) (aG 0) (aR 0) (aE 0) μ ++ (wSc cs aS (aT 0) ς ++ (wTe cs aT τ ++ (wRo cs aE ε ++ (wGa cs aG (aD 0) (aR 0) γ Γ ++ (wDa cs aD dr δ ++ (wRo cs aR ρ))))))) H locs := hW
  refine lv_if_eq (tgt := 17) S.1 S.2.1 dX6_rounds_4 (by decide) (fun c_3 => ?_) (fun c_3 => ?_)
  · have h := ite_t c_3 h
    exact wMa_rounds_17 S hK hA hQ δ dr _ _ _ h hW (lv_sub hl [] rfl)
  · have h := ite_f c_3 h
    refine lv_iload_n S.1 S.2.1 dX6_rounds_7 rfl (lv_at hl 2 rfl) ?_
    refine lv_iconst (v := 1) S.1 S.2.1 dX6_rounds_8 (by decide) ?_
    refine lv_bipush (v := 99) S.1 S.2.1 dX6_rounds_9 (by decide) ?_
    obtain ⟨r_4, hc_5, h⟩ := cl1_some h
    refine kS_i (As := [.int p1, .int (1 : Int32), .int (99 : Int32)]) (rest := []) S hK hA (z := none) trivial [] (wMa cs a (aT 0) (aS 0) (aD 0) (aG 0) (aR 0) (aE 0) μ ++ (wSc cs aS (aT 0) ς ++ (wTe cs aT τ ++ (wRo cs aE ε ++ (wGa cs aG (aD 0) (aR 0) γ Γ ++ (wDa cs aD dr δ ++ (wRo cs aR ρ))))))) hW (cMa_within l D cs p1 (1 : Int32) (99 : Int32) N hc_5) lk_X6_88 q278 ⟨Nat.le_of_ble_eq_true rfl, Nat.le_of_ble_eq_true rfl⟩ rfl (Nat.le_of_ble_eq_true rfl) hl.1 dX6_rounds_11 ⟨Nat.zero_le _, Nat.zero_le _⟩ (fun H locs hW => ?_)
    have hW : Wd D A s.heap (wMa cs a (aT 0) (aS 0) (aD 0) (aG 0) (aR 0) (aE 0) μ ++ (wSc cs aS (aT 0) ς ++ (wTe cs aT τ ++ (wRo cs aE ε ++ (wGa cs aG (aD 0) (aR 0) γ Γ ++ (wDa cs aD dr δ ++ (wRo cs aR ρ))))))) H locs := hW
    refine lv_if_ne (tgt := 19) S.1 S.2.1 dX6_rounds_14 (by decide) (fun c_6 => ?_) (fun c_6 => ?_)
    · have h := ite_f c_6 h
      refine lv_aload_n S.1 S.2.1 dX6_rounds_19 rfl (lv_at hl 0 rfl) ?_
      refine lv_iload_n S.1 S.2.1 dX6_rounds_20 rfl (lv_at hl 1 rfl) ?_
      obtain ⟨δ_7, hc_8, h⟩ := cl1_some h
      have hW := kw_same hW
      refine kV_v (As := [.int p0]) (rest := []) S hK hA (z := none) trivial [] [] hW (cMa_runWhole l D cs a aS aT aE aG aD aR μ ς τ ε γ Γ δ ρ dr p0 N hc_8) (ci := 5) rfl rfl lk_X6_149 q503 q14 ⟨Nat.le_of_ble_eq_true rfl, Nat.le_of_ble_eq_true rfl⟩ rfl (Nat.le_of_ble_eq_true rfl) hl.1 dX6_rounds_21 ⟨Nat.zero_le _, Nat.zero_le _⟩ (fun H locs hW => ?_)
      have hW : Wd D A s.heap (wMa cs a (aT 0) (aS 0) (aD 0) (aG 0) (aR 0) (aE 0) μ ++ (wSc cs aS (aT 0) ς ++ (wTe cs aT τ ++ (wRo cs aE ε ++ (wGa cs aG (aD 0) (aR 0) γ Γ ++ (wDa cs aD (aR 0) δ_7 ++ (wRo cs aR ρ))))))) H locs := kw_back hW
      refine lv_aload_n S.1 S.2.1 dX6_rounds_24 rfl (lv_at hl 0 rfl) ?_
      refine gMa_today S hK hW dX6_rounds_25 ?_
      refine lv_iload_n S.1 S.2.1 dX6_rounds_28 rfl (lv_at hl 2 rfl) ?_
      obtain ⟨r_9, hc_10, h⟩ := cl1_some h
      have hW := kw (w' := (wMa cs a (aT 0) (aS 0) (aD 0) (aG 0) (aR 0) (aE 0) μ ++ (wSc cs aS (aT 0) ς ++ (wTe cs aT τ ++ (wRo cs aE ε ++ (wGa cs aG (aD 0) (aR 0) γ Γ))))) ++ ((wDa cs aD (aR 0) δ_7 ++ (wRo cs aR ρ)) ++ [])) (by simp only [List.append_assoc, List.nil_append, List.append_nil]) hW
      refine kV_i (As := [.int p1]) (rest := []) S hK hA (z := none) trivial (wMa cs a (aT 0) (aS 0) (aD 0) (aG 0) (aR 0) (aE 0) μ ++ (wSc cs aS (aT 0) ς ++ (wTe cs aT τ ++ (wRo cs aE ε ++ (wGa cs aG (aD 0) (aR 0) γ Γ))))) [] hW (cDa_seenEvery l D cs aD aR δ_7 ρ p1 N hc_10) (ci := 0) rfl rfl lk_X6_182 q510 q511 ⟨Nat.le_of_ble_eq_true rfl, Nat.le_of_ble_eq_true rfl⟩ rfl (Nat.le_of_ble_eq_true rfl) hl.1 dX6_rounds_29 ⟨Nat.zero_le _, Nat.zero_le _⟩ (fun H locs hW => ?_)
      have hW : Wd D A s.heap (wMa cs a (aT 0) (aS 0) (aD 0) (aG 0) (aR 0) (aE 0) μ ++ (wSc cs aS (aT 0) ς ++ (wTe cs aT τ ++ (wRo cs aE ε ++ (wGa cs aG (aD 0) (aR 0) γ Γ ++ (wDa cs aD (aR 0) δ_7 ++ (wRo cs aR ρ))))))) H locs := kw (by simp only [List.append_assoc, List.nil_append, List.append_nil]) hW
      obtain ⟨rfl, rfl, rfl⟩ := pr3 h
      exact hQ _ _ _ _ dX6_rounds_32 rfl hW
    · have h := ite_t c_6 h
      exact wMa_rounds_17 S hK hA hQ δ dr _ _ _ h hW (lv_sub hl [] rfl)
set_option maxHeartbeats 4000000 in
set_option maxRecDepth 100000 in
theorem wMa_often_18 {p : Program} {l : Launch} {e : Env} {s : State} {m : MethodId} {args : Array Value} {below : List Frame} {meth : Method} {c : Code} {A : Nat → Prop} {Q : State → Prop} {D : va_G} {cs : Nat → ClassId} {a aS aT aE aG aD aR : Nat → Nat} {μ : St} {ς : St} {τ : St} {ε : St} {γ : St} {Γ : Nat → Int64} {ρ : St} {r : Int32} {δ' : St} {dr' : Nat} {N : Nat} (S : Fx p m c cX6_often 5 s args RX6) (hK : va_K D vwCl (tyL cs) s) (hA : ∀ x, s.heap.size ≤ x → A x) (hQ : ∀ (H : Heap) (locs : List Loc) (pc : Nat) (ls : Array Slot), decode cX6_often pc = .ok (.ireturn, 1) → narrow .int (.int r) = .int r → Wd D A s.heap (wMa cs a (aT 0) (aS 0) (aD 0) (aG 0) (aR 0) (aE 0) μ ++ (wSc cs aS (aT 0) ς ++ (wTe cs aT τ ++ (wRo cs aE ε ++ (wGa cs aG (aD 0) (aR 0) γ Γ ++ (wDa cs aD dr' δ' ++ (wRo cs aR ρ))))))) H locs → W p l e { frames := 5, cells := 0, slots := 0, locals := 115 } s m args below meth c H locs 0 0 Q (F0 m pc ls [.int r])) : ∀ (δ : St) (dr : Nat) (H : Heap) (locs : List Loc) (ls : Array Slot), fMa_often_18 N μ ρ (aR 0) δ dr = some (r, δ', dr') → Wd D A s.heap (wMa cs a (aT 0) (aS 0) (aD 0) (aG 0) (aR 0) (aE 0) μ ++ (wSc cs aS (aT 0) ς ++ (wTe cs aT τ ++ (wRo cs aE ε ++ (wGa cs aG (aD 0) (aR 0) γ Γ ++ (wDa cs aD dr δ ++ (wRo cs aR ρ))))))) H locs → lv_has ls 5 [] → W p l e { frames := 5, cells := 0, slots := 0, locals := 115 } s m args below meth c H locs 0 0 Q (F0 m 18 ls []) := by
  intro δ dr H locs ls h hW hl
  unfold fMa_often_18 at h
  refine lv_iconst (v := -1) S.1 S.2.1 dX6_often_18 (by decide) ?_
  obtain ⟨rfl, rfl, rfl⟩ := pr3 h
  exact hQ _ _ _ _ dX6_often_19 rfl hW
set_option maxHeartbeats 4000000 in
set_option maxRecDepth 100000 in
theorem wMa_often_37 {p : Program} {l : Launch} {e : Env} {s : State} {m : MethodId} {args : Array Value} {below : List Frame} {meth : Method} {c : Code} {A : Nat → Prop} {Q : State → Prop} {D : va_G} {cs : Nat → ClassId} {a aS aT aE aG aD aR : Nat → Nat} {μ : St} {ς : St} {τ : St} {ε : St} {γ : St} {Γ : Nat → Int64} {ρ : St} {r : Int32} {δ' : St} {dr' : Nat} {N : Nat} (S : Fx p m c cX6_often 5 s args RX6) (hK : va_K D vwCl (tyL cs) s) (hA : ∀ x, s.heap.size ≤ x → A x) (hQ : ∀ (H : Heap) (locs : List Loc) (pc : Nat) (ls : Array Slot), decode cX6_often pc = .ok (.ireturn, 1) → narrow .int (.int r) = .int r → Wd D A s.heap (wMa cs a (aT 0) (aS 0) (aD 0) (aG 0) (aR 0) (aE 0) μ ++ (wSc cs aS (aT 0) ς ++ (wTe cs aT τ ++ (wRo cs aE ε ++ (wGa cs aG (aD 0) (aR 0) γ Γ ++ (wDa cs aD dr' δ' ++ (wRo cs aR ρ))))))) H locs → W p l e { frames := 5, cells := 0, slots := 0, locals := 115 } s m args below meth c H locs 0 0 Q (F0 m pc ls [.int r])) : ∀ (n_37 : Nat) (v2 : Int32) (v3 : Int32) (v4 : Int32) (δ : St) (H : Heap) (locs : List Loc) (ls : Array Slot), fMa_often_37 N μ ρ (aR 0) n_37 v2 v3 v4 δ = some (r, δ', dr') → Wd D A s.heap (wMa cs a (aT 0) (aS 0) (aD 0) (aG 0) (aR 0) (aE 0) μ ++ (wSc cs aS (aT 0) ς ++ (wTe cs aT τ ++ (wRo cs aE ε ++ (wGa cs aG (aD 0) (aR 0) γ Γ ++ (wDa cs aD (aR 0) δ ++ (wRo cs aR ρ))))))) H locs → lv_has ls 5 [(0, .ref (a 0)), (2, .int v2), (3, .int v3), (4, .int v4)] → W p l e { frames := 5, cells := 0, slots := 0, locals := 115 } s m args below meth c H locs 0 0 Q (F0 m 37 ls []) := by
  intro n_37
  induction n_37 with
  | zero =>
    intro v2 v3 v4 δ H locs ls h
    cases h
  | succ n_37 ih =>
    intro v2 v3 v4 δ H locs ls h hW hl
    unfold fMa_often_37 at h
    refine lv_iload S.1 S.2.1 dX6_often_37 (lv_at hl 3 rfl) ?_
    refine lv_iconst (v := 1) S.1 S.2.1 dX6_often_39 (by decide) ?_
    refine lv_icmp_lt (tgt := 70) S.1 S.2.1 dX6_often_40 (by decide) (fun c_1 => ?_) (fun c_1 => ?_)
    · have h := ite_t c_1 h
      refine lv_bipush (v := -4) S.1 S.2.1 dX6_often_70 (by decide) ?_
      obtain ⟨rfl, rfl, rfl⟩ := pr3 h
      exact hQ _ _ _ _ dX6_often_72 rfl hW
    · have h := ite_f c_1 h
      refine lv_aload_n S.1 S.2.1 dX6_often_43 rfl (lv_at hl 0 rfl) ?_
      refine gMa_today S hK hW dX6_often_44 ?_
      refine lv_iload S.1 S.2.1 dX6_often_47 (lv_at hl 3 rfl) ?_
      obtain ⟨r_2, hc_3, h⟩ := cl1_some h
      have hW := kw (w' := (wMa cs a (aT 0) (aS 0) (aD 0) (aG 0) (aR 0) (aE 0) μ ++ (wSc cs aS (aT 0) ς ++ (wTe cs aT τ ++ (wRo cs aE ε ++ (wGa cs aG (aD 0) (aR 0) γ Γ))))) ++ ((wDa cs aD (aR 0) δ ++ (wRo cs aR ρ)) ++ [])) (by simp only [List.append_assoc, List.nil_append, List.append_nil]) hW
      refine kV_i (As := [.int v4]) (rest := []) S hK hA (z := none) trivial (wMa cs a (aT 0) (aS 0) (aD 0) (aG 0) (aR 0) (aE 0) μ ++ (wSc cs aS (aT 0) ς ++ (wTe cs aT τ ++ (wRo cs aE ε ++ (wGa cs aG (aD 0) (aR 0) γ Γ))))) [] hW (cDa_seenEvery l D cs aD aR δ ρ v4 N hc_3) (ci := 0) rfl rfl lk_X6_182 q510 q511 ⟨Nat.le_of_ble_eq_true rfl, Nat.le_of_ble_eq_true rfl⟩ rfl (Nat.le_of_ble_eq_true rfl) hl.1 dX6_often_49 ⟨Nat.zero_le _, Nat.zero_le _⟩ (fun H locs hW => ?_)
      have hW : Wd D A s.heap (wMa cs a (aT 0) (aS 0) (aD 0) (aG 0) (aR 0) (aE 0) μ ++ (wSc cs aS (aT 0) ς ++ (wTe cs aT τ ++ (wRo cs aE ε ++ (wGa cs aG (aD 0) (aR 0) γ Γ ++ (wDa cs aD (aR 0) δ ++ (wRo cs aR ρ))))))) H locs := kw (by simp only [List.append_assoc, List.nil_append, List.append_nil]) hW
      refine lv_iload_n S.1 S.2.1 dX6_often_52 rfl (lv_at hl 2 rfl) ?_
      refine lv_isub S.1 S.2.1 dX6_often_53 ?_
      refine va_mabs S.1 S.2.1 (S.2.2.1.trans hl.1.symm) S.2.2.2.1 (S.2.2.2.2 _ q587) (S.2.2.2.2 _ q588) (S.2.2.2.2 _ q48) (S.2.2.2.2 _ q589) (Nat.le_of_ble_eq_true rfl) (Nat.le_of_ble_eq_true rfl) (Nat.zero_le _) (Nat.zero_le _) dX6_often_54 ?_
      refine lv_iload_n S.1 S.2.1 dX6_often_57 rfl (lv_at hl 1 rfl) ?_
      refine lv_icmp_gt (tgt := 64) S.1 S.2.1 dX6_often_58 (by decide) (fun c_4 => ?_) (fun c_4 => ?_)
      · have h := ite_t c_4 h
        obtain ⟨x4_5, ex4_5, h⟩ := nm_some h
        refine lv_iinc (v := x4_5) (lv' := [(4, .int x4_5), (0, .ref (a 0)), (2, .int v2), (3, .int v3)]) S.1 S.2.1 dX6_often_64 hl (k := 3) rfl (by rw [ex4_5]; rfl) (by decide) rfl (fun ls hl => ?_)
        refine lv_goto (tgt := 37) S.1 S.2.1 dX6_often_67 (by decide) ?_
        exact ih v2 v3 x4_5 δ _ _ _ h hW (lv_sub hl [1, 2, 3, 0] rfl)
      · have h := ite_f c_4 h
        refine lv_iload S.1 S.2.1 dX6_often_61 (lv_at hl 3 rfl) ?_
        obtain ⟨rfl, rfl, rfl⟩ := pr3 h
        exact hQ _ _ _ _ dX6_often_63 rfl hW
set_option maxHeartbeats 4000000 in
set_option maxRecDepth 100000 in
theorem cMa_often (l : Launch) (D : va_G) (cs : Nat → ClassId) (a aS aT aE aG aD aR : Nat → Nat) (μ : St) (ς : St) (τ : St) (ε : St) (γ : St) (Γ : Nat → Int64) (δ : St) (ρ : St) (dr : Nat) (p0 : Int32) (p1 : Int32) (N : Nat) {r : Int32} {δ' : St} {dr' : Nat} (h : fMa_often N p0 p1 μ ρ (aR 0) δ dr = some (r, δ', dr')) : Ki l D cs none yX6_often cX6_often 5 (some .int) 5 115 (wMa cs a (aT 0) (aS 0) (aD 0) (aG 0) (aR 0) (aE 0) μ ++ (wSc cs aS (aT 0) ς ++ (wTe cs aT τ ++ (wRo cs aE ε ++ (wGa cs aG (aD 0) (aR 0) γ Γ ++ (wDa cs aD dr δ ++ (wRo cs aR ρ))))))) [.ref (a 0), .int p0, .int p1] r (wMa cs a (aT 0) (aS 0) (aD 0) (aG 0) (aR 0) (aE 0) μ ++ (wSc cs aS (aT 0) ς ++ (wTe cs aT τ ++ (wRo cs aE ε ++ (wGa cs aG (aD 0) (aR 0) γ Γ ++ (wDa cs aD dr' δ' ++ (wRo cs aR ρ))))))) := by
  refine Ki_of (by decide +kernel) (Nat.le_of_ble_eq_true rfl) (fun p e s m below meth c A S hK hA hZ Q hQ ls hl hW => ?_)
  have hl : lv_has ls 5 [(0, .ref (a 0)), (1, .int p0), (2, .int p1)] := hl
  unfold fMa_often at h
  refine lv_iload_n S.1 S.2.1 dX6_often_0 rfl (lv_at hl 1 rfl) ?_
  obtain ⟨r_6, hc_7, h⟩ := cl1_some h
  refine kS_i (As := [.int p0]) (rest := []) S hK hA (z := none) trivial [] (wMa cs a (aT 0) (aS 0) (aD 0) (aG 0) (aR 0) (aE 0) μ ++ (wSc cs aS (aT 0) ς ++ (wTe cs aT τ ++ (wRo cs aE ε ++ (wGa cs aG (aD 0) (aR 0) γ Γ ++ (wDa cs aD dr δ ++ (wRo cs aR ρ))))))) hW (cMa_isRule l D cs p0 N hc_7) lk_X6_129 q398 ⟨Nat.le_of_ble_eq_true rfl, Nat.le_of_ble_eq_true rfl⟩ rfl (Nat.le_of_ble_eq_true rfl) hl.1 dX6_often_1 ⟨Nat.zero_le _, Nat.zero_le _⟩ (fun H locs hW => ?_)
  have hW : Wd D A s.heap (wMa cs a (aT 0) (aS 0) (aD 0) (aG 0) (aR 0) (aE 0) μ ++ (wSc cs aS (aT 0) ς ++ (wTe cs aT τ ++ (wRo cs aE ε ++ (wGa cs aG (aD 0) (aR 0) γ Γ ++ (wDa cs aD dr δ ++ (wRo cs aR ρ))))))) H locs := hW
  refine lv_if_eq (tgt := 18) S.1 S.2.1 dX6_often_4 (by decide) (fun c_8 => ?_) (fun c_8 => ?_)
  · have h := ite_t c_8 h
    exact wMa_often_18 S hK hA hQ δ dr _ _ _ h hW (lv_sub hl [] rfl)
  · have h := ite_f c_8 h
    refine lv_iload_n S.1 S.2.1 dX6_often_7 rfl (lv_at hl 2 rfl) ?_
    refine lv_iconst (v := 0) S.1 S.2.1 dX6_often_8 (by decide) ?_
    refine lv_sipush (v := 9999) S.1 S.2.1 dX6_often_9 (by decide) ?_
    obtain ⟨r_9, hc_10, h⟩ := cl1_some h
    refine kS_i (As := [.int p1, .int (0 : Int32), .int (9999 : Int32)]) (rest := []) S hK hA (z := none) trivial [] (wMa cs a (aT 0) (aS 0) (aD 0) (aG 0) (aR 0) (aE 0) μ ++ (wSc cs aS (aT 0) ς ++ (wTe cs aT τ ++ (wRo cs aE ε ++ (wGa cs aG (aD 0) (aR 0) γ Γ ++ (wDa cs aD dr δ ++ (wRo cs aR ρ))))))) hW (cMa_within l D cs p1 (0 : Int32) (9999 : Int32) N hc_10) lk_X6_88 q278 ⟨Nat.le_of_ble_eq_true rfl, Nat.le_of_ble_eq_true rfl⟩ rfl (Nat.le_of_ble_eq_true rfl) hl.1 dX6_often_12 ⟨Nat.zero_le _, Nat.zero_le _⟩ (fun H locs hW => ?_)
    have hW : Wd D A s.heap (wMa cs a (aT 0) (aS 0) (aD 0) (aG 0) (aR 0) (aE 0) μ ++ (wSc cs aS (aT 0) ς ++ (wTe cs aT τ ++ (wRo cs aE ε ++ (wGa cs aG (aD 0) (aR 0) γ Γ ++ (wDa cs aD dr δ ++ (wRo cs aR ρ))))))) H locs := hW
    refine lv_if_ne (tgt := 20) S.1 S.2.1 dX6_often_15 (by decide) (fun c_11 => ?_) (fun c_11 => ?_)
    · have h := ite_f c_11 h
      refine lv_aload_n S.1 S.2.1 dX6_often_20 rfl (lv_at hl 0 rfl) ?_
      refine lv_iload_n S.1 S.2.1 dX6_often_21 rfl (lv_at hl 1 rfl) ?_
      obtain ⟨δ_12, hc_13, h⟩ := cl1_some h
      have hW := kw_same hW
      refine kV_v (As := [.int p0]) (rest := []) S hK hA (z := none) trivial [] [] hW (cMa_runWhole l D cs a aS aT aE aG aD aR μ ς τ ε γ Γ δ ρ dr p0 N hc_13) (ci := 5) rfl rfl lk_X6_149 q503 q14 ⟨Nat.le_of_ble_eq_true rfl, Nat.le_of_ble_eq_true rfl⟩ rfl (Nat.le_of_ble_eq_true rfl) hl.1 dX6_often_22 ⟨Nat.zero_le _, Nat.zero_le _⟩ (fun H locs hW => ?_)
      have hW : Wd D A s.heap (wMa cs a (aT 0) (aS 0) (aD 0) (aG 0) (aR 0) (aE 0) μ ++ (wSc cs aS (aT 0) ς ++ (wTe cs aT τ ++ (wRo cs aE ε ++ (wGa cs aG (aD 0) (aR 0) γ Γ ++ (wDa cs aD (aR 0) δ_12 ++ (wRo cs aR ρ))))))) H locs := kw_back hW
      refine lv_aload_n S.1 S.2.1 dX6_often_25 rfl (lv_at hl 0 rfl) ?_
      refine gMa_today S hK hW dX6_often_26 ?_
      obtain ⟨r_14, hc_15, h⟩ := cl1_some h
      have hW := kw (w' := (wMa cs a (aT 0) (aS 0) (aD 0) (aG 0) (aR 0) (aE 0) μ ++ (wSc cs aS (aT 0) ς ++ (wTe cs aT τ ++ (wRo cs aE ε ++ (wGa cs aG (aD 0) (aR 0) γ Γ))))) ++ ((wDa cs aD (aR 0) δ_12 ++ (wRo cs aR ρ)) ++ [])) (by simp only [List.append_assoc, List.nil_append, List.append_nil]) hW
      refine kV_i (As := []) (rest := []) S hK hA (z := none) trivial (wMa cs a (aT 0) (aS 0) (aD 0) (aG 0) (aR 0) (aE 0) μ ++ (wSc cs aS (aT 0) ς ++ (wTe cs aT τ ++ (wRo cs aE ε ++ (wGa cs aG (aD 0) (aR 0) γ Γ))))) [] hW (cDa_used l D cs aD aR δ_12 ρ N hc_15) (ci := 0) rfl rfl lk_X6_152 q506 q507 ⟨Nat.le_of_ble_eq_true rfl, Nat.le_of_ble_eq_true rfl⟩ rfl (Nat.le_of_ble_eq_true rfl) hl.1 dX6_often_29 ⟨Nat.zero_le _, Nat.zero_le _⟩ (fun H locs hW => ?_)
      have hW : Wd D A s.heap (wMa cs a (aT 0) (aS 0) (aD 0) (aG 0) (aR 0) (aE 0) μ ++ (wSc cs aS (aT 0) ς ++ (wTe cs aT τ ++ (wRo cs aE ε ++ (wGa cs aG (aD 0) (aR 0) γ Γ ++ (wDa cs aD (aR 0) δ_12 ++ (wRo cs aR ρ))))))) H locs := kw (by simp only [List.append_assoc, List.nil_append, List.append_nil]) hW
      refine lv_istore_n (lv' := [(3, .int r_14), (0, .ref (a 0)), (1, .int p0), (2, .int p1)]) S.1 S.2.1 dX6_often_32 rfl hl (by decide) rfl (fun ls hl => ?_)
      refine lv_bipush (v := 99) S.1 S.2.1 dX6_often_33 (by decide) ?_
      refine lv_istore (lv' := [(4, .int (99 : Int32)), (3, .int r_14), (0, .ref (a 0)), (1, .int p0), (2, .int p1)]) S.1 S.2.1 dX6_often_35 hl (by decide) rfl (fun ls hl => ?_)
      exact wMa_often_37 S hK hA hQ N p1 r_14 (99 : Int32) δ_12 _ _ _ h hW (lv_sub hl [2, 4, 1, 0] rfl)
    · have h := ite_t c_11 h
      exact wMa_often_18 S hK hA hQ δ dr _ _ _ h hW (lv_sub hl [] rfl)
set_option maxHeartbeats 4000000 in
set_option maxRecDepth 100000 in
theorem cMa_shutOutByCards (l : Launch) (D : va_G) (cs : Nat → ClassId) (a aS aT aE aG aD aR : Nat → Nat) (μ : St) (ς : St) (τ : St) (ε : St) (γ : St) (Γ : Nat → Int64) (δ : St) (ρ : St) (dr : Nat) (p0 : Int32) (p1 : Int32) (N : Nat) {r : Int32} {δ' : St} (h : fMa_shutOutByCards N p0 p1 μ ρ δ = some (r, δ')) : Ki l D cs none yX6_shutOutByCards cX6_shutOutByCards 3 (some .int) 4 94 (wMa cs a (aT 0) (aS 0) (aD 0) (aG 0) (aR 0) (aE 0) μ ++ (wSc cs aS (aT 0) ς ++ (wTe cs aT τ ++ (wRo cs aE ε ++ (wGa cs aG (aD 0) (aR 0) γ Γ ++ (wDa cs aD dr δ ++ (wRo cs aR ρ))))))) [.ref (a 0), .int p0, .int p1] r (wMa cs a (aT 0) (aS 0) (aD 0) (aG 0) (aR 0) (aE 0) μ ++ (wSc cs aS (aT 0) ς ++ (wTe cs aT τ ++ (wRo cs aE ε ++ (wGa cs aG (aD 0) (aR 0) γ Γ ++ (wDa cs aD (aR 0) δ' ++ (wRo cs aR ρ))))))) := by
  refine Ki_of (by decide +kernel) (Nat.le_of_ble_eq_true rfl) (fun p e s m below meth c A S hK hA hZ Q hQ ls hl hW => ?_)
  have hl : lv_has ls 3 [(0, .ref (a 0)), (1, .int p0), (2, .int p1)] := hl
  unfold fMa_shutOutByCards at h
  refine lv_aload_n S.1 S.2.1 dX6_shutOutByCards_0 rfl (lv_at hl 0 rfl) ?_
  refine gMa_today S hK hW dX6_shutOutByCards_1 ?_
  refine lv_aload_n S.1 S.2.1 dX6_shutOutByCards_4 rfl (lv_at hl 0 rfl) ?_
  refine gMa_laid S hK hW dX6_shutOutByCards_5 ?_
  refine lv_iconst (v := 2) S.1 S.2.1 dX6_shutOutByCards_8 (by decide) ?_
  refine lv_aload_n S.1 S.2.1 dX6_shutOutByCards_9 rfl (lv_at hl 0 rfl) ?_
  refine gMa_holders S hK hW dX6_shutOutByCards_10 ?_
  obtain ⟨δ_1, hc_2, h⟩ := cl1_some h
  have hW := kw (w' := (wMa cs a (aT 0) (aS 0) (aD 0) (aG 0) (aR 0) (aE 0) μ ++ (wSc cs aS (aT 0) ς ++ (wTe cs aT τ ++ (wRo cs aE ε ++ (wGa cs aG (aD 0) (aR 0) γ Γ))))) ++ ((wDa cs aD dr δ ++ (wRo cs aR ρ)) ++ [])) (by simp only [List.append_assoc, List.nil_append, List.append_nil]) hW
  refine kV_v (As := [.ref (aR 0), .int (2 : Int32), .int (μ 0 9)]) (rest := []) S hK hA (z := none) trivial (wMa cs a (aT 0) (aS 0) (aD 0) (aG 0) (aR 0) (aE 0) μ ++ (wSc cs aS (aT 0) ς ++ (wTe cs aT τ ++ (wRo cs aE ε ++ (wGa cs aG (aD 0) (aR 0) γ Γ))))) [] hW (cDa_open l D cs aD aR δ ρ dr (2 : Int32) (μ 0 9) N hc_2) (ci := 0) rfl rfl lk_X6_132 q401 q402 ⟨Nat.le_of_ble_eq_true rfl, Nat.le_of_ble_eq_true rfl⟩ rfl (Nat.le_of_ble_eq_true rfl) hl.1 dX6_shutOutByCards_13 ⟨Nat.zero_le _, Nat.zero_le _⟩ (fun H locs hW => ?_)
  have hW : Wd D A s.heap (wMa cs a (aT 0) (aS 0) (aD 0) (aG 0) (aR 0) (aE 0) μ ++ (wSc cs aS (aT 0) ς ++ (wTe cs aT τ ++ (wRo cs aE ε ++ (wGa cs aG (aD 0) (aR 0) γ Γ ++ (wDa cs aD (aR 0) δ_1 ++ (wRo cs aR ρ))))))) H locs := kw (by simp only [List.append_assoc, List.nil_append, List.append_nil]) hW
  refine lv_aload_n S.1 S.2.1 dX6_shutOutByCards_16 rfl (lv_at hl 0 rfl) ?_
  refine gMa_today S hK hW dX6_shutOutByCards_17 ?_
  refine lv_iload_n S.1 S.2.1 dX6_shutOutByCards_20 rfl (lv_at hl 1 rfl) ?_
  refine lv_iload_n S.1 S.2.1 dX6_shutOutByCards_21 rfl (lv_at hl 2 rfl) ?_
  obtain ⟨δ_3, hc_4, h⟩ := cl1_some h
  have hW := kw (w' := (wMa cs a (aT 0) (aS 0) (aD 0) (aG 0) (aR 0) (aE 0) μ ++ (wSc cs aS (aT 0) ς ++ (wTe cs aT τ ++ (wRo cs aE ε ++ (wGa cs aG (aD 0) (aR 0) γ Γ))))) ++ ((wDa cs aD (aR 0) δ_1 ++ (wRo cs aR ρ)) ++ [])) (by simp only [List.append_assoc, List.nil_append, List.append_nil]) hW
  refine kV_v (As := [.int p0, .int p1]) (rest := []) S hK hA (z := none) trivial (wMa cs a (aT 0) (aS 0) (aD 0) (aG 0) (aR 0) (aE 0) μ ++ (wSc cs aS (aT 0) ς ++ (wTe cs aT τ ++ (wRo cs aE ε ++ (wGa cs aG (aD 0) (aR 0) γ Γ))))) [] hW (cDa_useCards l D cs aD aR δ_1 ρ p0 p1 N hc_4) (ci := 0) rfl rfl lk_X6_223 q418 q419 ⟨Nat.le_of_ble_eq_true rfl, Nat.le_of_ble_eq_true rfl⟩ rfl (Nat.le_of_ble_eq_true rfl) hl.1 dX6_shutOutByCards_22 ⟨Nat.zero_le _, Nat.zero_le _⟩ (fun H locs hW => ?_)
  have hW : Wd D A s.heap (wMa cs a (aT 0) (aS 0) (aD 0) (aG 0) (aR 0) (aE 0) μ ++ (wSc cs aS (aT 0) ς ++ (wTe cs aT τ ++ (wRo cs aE ε ++ (wGa cs aG (aD 0) (aR 0) γ Γ ++ (wDa cs aD (aR 0) δ_3 ++ (wRo cs aR ρ))))))) H locs := kw (by simp only [List.append_assoc, List.nil_append, List.append_nil]) hW
  refine lv_aload_n S.1 S.2.1 dX6_shutOutByCards_25 rfl (lv_at hl 0 rfl) ?_
  refine gMa_today S hK hW dX6_shutOutByCards_26 ?_
  refine lv_sipush (v := 399) S.1 S.2.1 dX6_shutOutByCards_29 (by decide) ?_
  obtain ⟨δ_5, hc_6, h⟩ := cl1_some h
  have hW := kw (w' := (wMa cs a (aT 0) (aS 0) (aD 0) (aG 0) (aR 0) (aE 0) μ ++ (wSc cs aS (aT 0) ς ++ (wTe cs aT τ ++ (wRo cs aE ε ++ (wGa cs aG (aD 0) (aR 0) γ Γ))))) ++ ((wDa cs aD (aR 0) δ_3 ++ (wRo cs aR ρ)) ++ [])) (by simp only [List.append_assoc, List.nil_append, List.append_nil]) hW
  refine kV_v (As := [.int (399 : Int32)]) (rest := []) S hK hA (z := none) trivial (wMa cs a (aT 0) (aS 0) (aD 0) (aG 0) (aR 0) (aE 0) μ ++ (wSc cs aS (aT 0) ς ++ (wTe cs aT τ ++ (wRo cs aE ε ++ (wGa cs aG (aD 0) (aR 0) γ Γ))))) [] hW (cDa_runTo l D cs aD aR δ_3 ρ (399 : Int32) N hc_6) (ci := 0) rfl rfl lk_X6_136 q426 q427 ⟨Nat.le_of_ble_eq_true rfl, Nat.le_of_ble_eq_true rfl⟩ rfl (Nat.le_of_ble_eq_true rfl) hl.1 dX6_shutOutByCards_32 ⟨Nat.zero_le _, Nat.zero_le _⟩ (fun H locs hW => ?_)
  have hW : Wd D A s.heap (wMa cs a (aT 0) (aS 0) (aD 0) (aG 0) (aR 0) (aE 0) μ ++ (wSc cs aS (aT 0) ς ++ (wTe cs aT τ ++ (wRo cs aE ε ++ (wGa cs aG (aD 0) (aR 0) γ Γ ++ (wDa cs aD (aR 0) δ_5 ++ (wRo cs aR ρ))))))) H locs := kw (by simp only [List.append_assoc, List.nil_append, List.append_nil]) hW
  refine lv_aload_n S.1 S.2.1 dX6_shutOutByCards_35 rfl (lv_at hl 0 rfl) ?_
  refine gMa_today S hK hW dX6_shutOutByCards_36 ?_
  obtain ⟨r_7, hc_8, h⟩ := cl1_some h
  have hW := kw (w' := (wMa cs a (aT 0) (aS 0) (aD 0) (aG 0) (aR 0) (aE 0) μ ++ (wSc cs aS (aT 0) ς ++ (wTe cs aT τ ++ (wRo cs aE ε ++ (wGa cs aG (aD 0) (aR 0) γ Γ))))) ++ ((wDa cs aD (aR 0) δ_5 ++ (wRo cs aR ρ)) ++ [])) (by simp only [List.append_assoc, List.nil_append, List.append_nil]) hW
  refine kV_i (As := []) (rest := []) S hK hA (z := none) trivial (wMa cs a (aT 0) (aS 0) (aD 0) (aG 0) (aR 0) (aE 0) μ ++ (wSc cs aS (aT 0) ς ++ (wTe cs aT τ ++ (wRo cs aE ε ++ (wGa cs aG (aD 0) (aR 0) γ Γ))))) [] hW (cDa_shutOut l D cs aD aR δ_5 ρ N hc_8) (ci := 0) rfl rfl lk_X6_158 q518 q519 ⟨Nat.le_of_ble_eq_true rfl, Nat.le_of_ble_eq_true rfl⟩ rfl (Nat.le_of_ble_eq_true rfl) hl.1 dX6_shutOutByCards_39 ⟨Nat.zero_le _, Nat.zero_le _⟩ (fun H locs hW => ?_)
  have hW : Wd D A s.heap (wMa cs a (aT 0) (aS 0) (aD 0) (aG 0) (aR 0) (aE 0) μ ++ (wSc cs aS (aT 0) ς ++ (wTe cs aT τ ++ (wRo cs aE ε ++ (wGa cs aG (aD 0) (aR 0) γ Γ ++ (wDa cs aD (aR 0) δ_5 ++ (wRo cs aR ρ))))))) H locs := kw (by simp only [List.append_assoc, List.nil_append, List.append_nil]) hW
  obtain ⟨r_9, hc_10, h⟩ := cl1_some h
  refine kS_i (As := [.int r_7]) (rest := []) S hK hA (z := none) trivial [] (wMa cs a (aT 0) (aS 0) (aD 0) (aG 0) (aR 0) (aE 0) μ ++ (wSc cs aS (aT 0) ς ++ (wTe cs aT τ ++ (wRo cs aE ε ++ (wGa cs aG (aD 0) (aR 0) γ Γ ++ (wDa cs aD (aR 0) δ_5 ++ (wRo cs aR ρ))))))) hW (cBc_bitCount_0f7a4 l D cs r_7 N hc_10) lk_X6_161 q463 ⟨Nat.le_of_ble_eq_true rfl, Nat.le_of_ble_eq_true rfl⟩ rfl (Nat.le_of_ble_eq_true rfl) hl.1 dX6_shutOutByCards_42 ⟨Nat.zero_le _, Nat.zero_le _⟩ (fun H locs hW => ?_)
  have hW : Wd D A s.heap (wMa cs a (aT 0) (aS 0) (aD 0) (aG 0) (aR 0) (aE 0) μ ++ (wSc cs aS (aT 0) ς ++ (wTe cs aT τ ++ (wRo cs aE ε ++ (wGa cs aG (aD 0) (aR 0) γ Γ ++ (wDa cs aD (aR 0) δ_5 ++ (wRo cs aR ρ))))))) H locs := hW
  obtain ⟨rfl, rfl⟩ := pr2 h
  exact hQ _ _ _ _ dX6_shutOutByCards_45 rfl hW
set_option maxHeartbeats 4000000 in
set_option maxRecDepth 100000 in
theorem wMa_porter_15 {p : Program} {l : Launch} {e : Env} {s : State} {m : MethodId} {args : Array Value} {below : List Frame} {meth : Method} {c : Code} {A : Nat → Prop} {Q : State → Prop} {D : va_G} {cs : Nat → ClassId} {a aS aT aE aG aD aR : Nat → Nat} {μ : St} {ς : St} {τ : St} {ε : St} {γ : St} {Γ : Nat → Int64} {ρ : St} {r : Int32} {δ' : St} {dr' : Nat} {N : Nat} (S : Fx p m c cX6_porter 3 s args RX6) (hK : va_K D vwCl (tyL cs) s) (hA : ∀ x, s.heap.size ≤ x → A x) (hQ : ∀ (H : Heap) (locs : List Loc) (pc : Nat) (ls : Array Slot), decode cX6_porter pc = .ok (.ireturn, 1) → narrow .int (.int r) = .int r → Wd D A s.heap (wMa cs a (aT 0) (aS 0) (aD 0) (aG 0) (aR 0) (aE 0) μ ++ (wSc cs aS (aT 0) ς ++ (wTe cs aT τ ++ (wRo cs aE ε ++ (wGa cs aG (aD 0) (aR 0) γ Γ ++ (wDa cs aD dr' δ' ++ (wRo cs aR ρ))))))) H locs → W p l e { frames := 5, cells := 0, slots := 0, locals := 116 } s m args below meth c H locs 0 0 Q (F0 m pc ls [.int r])) : ∀ (n_15 : Nat) (v1 : Int32) (v2 : Int32) (δ : St) (dr : Nat) (H : Heap) (locs : List Loc) (ls : Array Slot), fMa_porter_15 N μ ρ (aR 0) n_15 v1 v2 δ dr = some (r, δ', dr') → Wd D A s.heap (wMa cs a (aT 0) (aS 0) (aD 0) (aG 0) (aR 0) (aE 0) μ ++ (wSc cs aS (aT 0) ς ++ (wTe cs aT τ ++ (wRo cs aE ε ++ (wGa cs aG (aD 0) (aR 0) γ Γ ++ (wDa cs aD dr δ ++ (wRo cs aR ρ))))))) H locs → lv_has ls 3 [(0, .ref (a 0)), (1, .int v1), (2, .int v2)] → W p l e { frames := 5, cells := 0, slots := 0, locals := 116 } s m args below meth c H locs 0 0 Q (F0 m 15 ls []) := by
  intro n_15
  induction n_15 with
  | zero =>
    intro v1 v2 δ dr H locs ls h
    cases h
  | succ n_15 ih =>
    intro v1 v2 δ dr H locs ls h hW hl
    unfold fMa_porter_15 at h
    refine lv_iload_n S.1 S.2.1 dX6_porter_15 rfl (lv_at hl 2 rfl) ?_
    refine lv_iconst (v := 1) S.1 S.2.1 dX6_porter_16 (by decide) ?_
    refine lv_icmp_lt (tgt := 44) S.1 S.2.1 dX6_porter_17 (by decide) (fun c_1 => ?_) (fun c_1 => ?_)
    · have h := ite_t c_1 h
      refine lv_bipush (v := -4) S.1 S.2.1 dX6_porter_44 (by decide) ?_
      obtain ⟨rfl, rfl, rfl⟩ := pr3 h
      exact hQ _ _ _ _ dX6_porter_46 rfl hW
    · have h := ite_f c_1 h
      refine lv_aload_n S.1 S.2.1 dX6_porter_20 rfl (lv_at hl 0 rfl) ?_
      refine lv_aload_n S.1 S.2.1 dX6_porter_21 rfl (lv_at hl 0 rfl) ?_
      refine gMa_laid S hK hW dX6_porter_22 ?_
      obtain ⟨r_2, hc_3, h⟩ := cl1_some h
      have hW := kw (w' := (wMa cs a (aT 0) (aS 0) (aD 0) (aG 0) (aR 0) (aE 0) μ ++ (wSc cs aS (aT 0) ς ++ (wTe cs aT τ ++ (wRo cs aE ε ++ (wGa cs aG (aD 0) (aR 0) γ Γ ++ (wDa cs aD dr δ)))))) ++ ((wRo cs aR ρ) ++ [])) (by simp only [List.append_assoc, List.nil_append, List.append_nil]) hW
      refine kV_i (As := []) (rest := [.ref (a 0)]) S hK hA (z := none) trivial (wMa cs a (aT 0) (aS 0) (aD 0) (aG 0) (aR 0) (aE 0) μ ++ (wSc cs aS (aT 0) ς ++ (wTe cs aT τ ++ (wRo cs aE ε ++ (wGa cs aG (aD 0) (aR 0) γ Γ ++ (wDa cs aD dr δ)))))) [] hW (cRo_cardMinutes l D cs aR ρ N hc_3) (ci := 2) rfl rfl lk_X6_190 q410 q411 ⟨Nat.le_of_ble_eq_true rfl, Nat.le_of_ble_eq_true rfl⟩ rfl (Nat.le_of_ble_eq_true rfl) hl.1 dX6_porter_25 ⟨Nat.zero_le _, Nat.zero_le _⟩ (fun H locs hW => ?_)
      have hW : Wd D A s.heap (wMa cs a (aT 0) (aS 0) (aD 0) (aG 0) (aR 0) (aE 0) μ ++ (wSc cs aS (aT 0) ς ++ (wTe cs aT τ ++ (wRo cs aE ε ++ (wGa cs aG (aD 0) (aR 0) γ Γ ++ (wDa cs aD dr δ ++ (wRo cs aR ρ))))))) H locs := kw (by simp only [List.append_assoc, List.nil_append, List.append_nil]) hW
      refine lv_iload_n S.1 S.2.1 dX6_porter_28 rfl (lv_at hl 2 rfl) ?_
      obtain ⟨r_4, δ_5, hc_6, h⟩ := cl2_some h
      have hW := kw_same hW
      refine kV_i (As := [.int r_2, .int v2]) (rest := []) S hK hA (z := none) trivial [] [] hW (cMa_shutOutByCards l D cs a aS aT aE aG aD aR μ ς τ ε γ Γ δ ρ dr r_2 v2 N hc_6) (ci := 5) rfl rfl lk_X6_193 q597 q17 ⟨Nat.le_of_ble_eq_true rfl, Nat.le_of_ble_eq_true rfl⟩ rfl (Nat.le_of_ble_eq_true rfl) hl.1 dX6_porter_29 ⟨Nat.zero_le _, Nat.zero_le _⟩ (fun H locs hW => ?_)
      have hW : Wd D A s.heap (wMa cs a (aT 0) (aS 0) (aD 0) (aG 0) (aR 0) (aE 0) μ ++ (wSc cs aS (aT 0) ς ++ (wTe cs aT τ ++ (wRo cs aE ε ++ (wGa cs aG (aD 0) (aR 0) γ Γ ++ (wDa cs aD (aR 0) δ_5 ++ (wRo cs aR ρ))))))) H locs := kw_back hW
      refine lv_iload_n S.1 S.2.1 dX6_porter_32 rfl (lv_at hl 1 rfl) ?_
      refine lv_icmp_gt (tgt := 38) S.1 S.2.1 dX6_porter_33 (by decide) (fun c_7 => ?_) (fun c_7 => ?_)
      · have h := ite_t c_7 h
        obtain ⟨x2_8, ex2_8, h⟩ := nm_some h
        refine lv_iinc (v := x2_8) (lv' := [(2, .int x2_8), (0, .ref (a 0)), (1, .int v1)]) S.1 S.2.1 dX6_porter_38 hl (k := 2) rfl (by rw [ex2_8]; rfl) (by decide) rfl (fun ls hl => ?_)
        refine lv_goto (tgt := 15) S.1 S.2.1 dX6_porter_41 (by decide) ?_
        exact ih v1 x2_8 δ_5 (aR 0) _ _ _ h hW (lv_sub hl [1, 2, 0] rfl)
      · have h := ite_f c_7 h
        refine lv_iload_n S.1 S.2.1 dX6_porter_36 rfl (lv_at hl 2 rfl) ?_
        obtain ⟨rfl, rfl, rfl⟩ := pr3 h
        exact hQ _ _ _ _ dX6_porter_37 rfl hW
set_option maxHeartbeats 4000000 in
set_option maxRecDepth 100000 in
theorem cMa_porter (l : Launch) (D : va_G) (cs : Nat → ClassId) (a aS aT aE aG aD aR : Nat → Nat) (μ : St) (ς : St) (τ : St) (ε : St) (γ : St) (Γ : Nat → Int64) (δ : St) (ρ : St) (dr : Nat) (p0 : Int32) (N : Nat) {r : Int32} {δ' : St} {dr' : Nat} (h : fMa_porter N p0 μ ρ (aR 0) δ dr = some (r, δ', dr')) : Ki l D cs none yX6_porter cX6_porter 3 (some .int) 5 116 (wMa cs a (aT 0) (aS 0) (aD 0) (aG 0) (aR 0) (aE 0) μ ++ (wSc cs aS (aT 0) ς ++ (wTe cs aT τ ++ (wRo cs aE ε ++ (wGa cs aG (aD 0) (aR 0) γ Γ ++ (wDa cs aD dr δ ++ (wRo cs aR ρ))))))) [.ref (a 0), .int p0] r (wMa cs a (aT 0) (aS 0) (aD 0) (aG 0) (aR 0) (aE 0) μ ++ (wSc cs aS (aT 0) ς ++ (wTe cs aT τ ++ (wRo cs aE ε ++ (wGa cs aG (aD 0) (aR 0) γ Γ ++ (wDa cs aD dr' δ' ++ (wRo cs aR ρ))))))) := by
  refine Ki_of (by decide +kernel) (Nat.le_of_ble_eq_true rfl) (fun p e s m below meth c A S hK hA hZ Q hQ ls hl hW => ?_)
  have hl : lv_has ls 3 [(0, .ref (a 0)), (1, .int p0)] := hl
  unfold fMa_porter at h
  refine lv_iload_n S.1 S.2.1 dX6_porter_0 rfl (lv_at hl 1 rfl) ?_
  refine lv_iconst (v := 0) S.1 S.2.1 dX6_porter_1 (by decide) ?_
  refine lv_bipush (v := 8) S.1 S.2.1 dX6_porter_2 (by decide) ?_
  obtain ⟨r_9, hc_10, h⟩ := cl1_some h
  refine kS_i (As := [.int p0, .int (0 : Int32), .int (8 : Int32)]) (rest := []) S hK hA (z := none) trivial [] (wMa cs a (aT 0) (aS 0) (aD 0) (aG 0) (aR 0) (aE 0) μ ++ (wSc cs aS (aT 0) ς ++ (wTe cs aT τ ++ (wRo cs aE ε ++ (wGa cs aG (aD 0) (aR 0) γ Γ ++ (wDa cs aD dr δ ++ (wRo cs aR ρ))))))) hW (cMa_within l D cs p0 (0 : Int32) (8 : Int32) N hc_10) lk_X6_88 q278 ⟨Nat.le_of_ble_eq_true rfl, Nat.le_of_ble_eq_true rfl⟩ rfl (Nat.le_of_ble_eq_true rfl) hl.1 dX6_porter_4 ⟨Nat.zero_le _, Nat.zero_le _⟩ (fun H locs hW => ?_)
  have hW : Wd D A s.heap (wMa cs a (aT 0) (aS 0) (aD 0) (aG 0) (aR 0) (aE 0) μ ++ (wSc cs aS (aT 0) ς ++ (wTe cs aT τ ++ (wRo cs aE ε ++ (wGa cs aG (aD 0) (aR 0) γ Γ ++ (wDa cs aD dr δ ++ (wRo cs aR ρ))))))) H locs := hW
  refine lv_if_ne (tgt := 12) S.1 S.2.1 dX6_porter_7 (by decide) (fun c_11 => ?_) (fun c_11 => ?_)
  · have h := ite_f c_11 h
    refine lv_bipush (v := 99) S.1 S.2.1 dX6_porter_12 (by decide) ?_
    refine lv_istore_n (lv' := [(2, .int (99 : Int32)), (0, .ref (a 0)), (1, .int p0)]) S.1 S.2.1 dX6_porter_14 rfl hl (by decide) rfl (fun ls hl => ?_)
    exact wMa_porter_15 S hK hA hQ N p0 (99 : Int32) δ dr _ _ _ h hW (lv_sub hl [1, 2, 0] rfl)
  · have h := ite_t c_11 h
    refine lv_iconst (v := -1) S.1 S.2.1 dX6_porter_10 (by decide) ?_
    obtain ⟨rfl, rfl, rfl⟩ := pr3 h
    exact hQ _ _ _ _ dX6_porter_11 rfl hW
set_option maxHeartbeats 4000000 in
set_option maxRecDepth 100000 in
theorem wMa_card_15 {p : Program} {l : Launch} {e : Env} {s : State} {m : MethodId} {args : Array Value} {below : List Frame} {meth : Method} {c : Code} {A : Nat → Prop} {Q : State → Prop} {D : va_G} {cs : Nat → ClassId} {a aS aT aE aG aD aR : Nat → Nat} {μ : St} {ς : St} {τ : St} {ε : St} {γ : St} {Γ : Nat → Int64} {ρ : St} {r : Int32} {δ' : St} {dr' : Nat} {N : Nat} (S : Fx p m c cX6_card 3 s args RX6) (hK : va_K D vwCl (tyL cs) s) (hA : ∀ x, s.heap.size ≤ x → A x) (hQ : ∀ (H : Heap) (locs : List Loc) (pc : Nat) (ls : Array Slot), decode cX6_card pc = .ok (.ireturn, 1) → narrow .int (.int r) = .int r → Wd D A s.heap (wMa cs a (aT 0) (aS 0) (aD 0) (aG 0) (aR 0) (aE 0) μ ++ (wSc cs aS (aT 0) ς ++ (wTe cs aT τ ++ (wRo cs aE ε ++ (wGa cs aG (aD 0) (aR 0) γ Γ ++ (wDa cs aD dr' δ' ++ (wRo cs aR ρ))))))) H locs → W p l e { frames := 5, cells := 0, slots := 0, locals := 116 } s m args below meth c H locs 0 0 Q (F0 m pc ls [.int r])) : ∀ (n_15 : Nat) (v1 : Int32) (v2 : Int32) (δ : St) (dr : Nat) (H : Heap) (locs : List Loc) (ls : Array Slot), fMa_card_15 N μ ρ (aR 0) n_15 v1 v2 δ dr = some (r, δ', dr') → Wd D A s.heap (wMa cs a (aT 0) (aS 0) (aD 0) (aG 0) (aR 0) (aE 0) μ ++ (wSc cs aS (aT 0) ς ++ (wTe cs aT τ ++ (wRo cs aE ε ++ (wGa cs aG (aD 0) (aR 0) γ Γ ++ (wDa cs aD dr δ ++ (wRo cs aR ρ))))))) H locs → lv_has ls 3 [(0, .ref (a 0)), (1, .int v1), (2, .int v2)] → W p l e { frames := 5, cells := 0, slots := 0, locals := 116 } s m args below meth c H locs 0 0 Q (F0 m 15 ls []) := by
  intro n_15
  induction n_15 with
  | zero =>
    intro v1 v2 δ dr H locs ls h
    cases h
  | succ n_15 ih =>
    intro v1 v2 δ dr H locs ls h hW hl
    unfold fMa_card_15 at h
    refine lv_iload_n S.1 S.2.1 dX6_card_15 rfl (lv_at hl 2 rfl) ?_
    refine lv_iconst (v := 1) S.1 S.2.1 dX6_card_16 (by decide) ?_
    refine lv_icmp_lt (tgt := 44) S.1 S.2.1 dX6_card_17 (by decide) (fun c_1 => ?_) (fun c_1 => ?_)
    · have h := ite_t c_1 h
      refine lv_bipush (v := -4) S.1 S.2.1 dX6_card_44 (by decide) ?_
      obtain ⟨rfl, rfl, rfl⟩ := pr3 h
      exact hQ _ _ _ _ dX6_card_46 rfl hW
    · have h := ite_f c_1 h
      refine lv_aload_n S.1 S.2.1 dX6_card_20 rfl (lv_at hl 0 rfl) ?_
      refine lv_iload_n S.1 S.2.1 dX6_card_21 rfl (lv_at hl 2 rfl) ?_
      refine lv_aload_n S.1 S.2.1 dX6_card_22 rfl (lv_at hl 0 rfl) ?_
      refine gMa_laid S hK hW dX6_card_23 ?_
      obtain ⟨r_2, hc_3, h⟩ := cl1_some h
      have hW := kw (w' := (wMa cs a (aT 0) (aS 0) (aD 0) (aG 0) (aR 0) (aE 0) μ ++ (wSc cs aS (aT 0) ς ++ (wTe cs aT τ ++ (wRo cs aE ε ++ (wGa cs aG (aD 0) (aR 0) γ Γ ++ (wDa cs aD dr δ)))))) ++ ((wRo cs aR ρ) ++ [])) (by simp only [List.append_assoc, List.nil_append, List.append_nil]) hW
      refine kV_i (As := []) (rest := [.int v2, .ref (a 0)]) S hK hA (z := none) trivial (wMa cs a (aT 0) (aS 0) (aD 0) (aG 0) (aR 0) (aE 0) μ ++ (wSc cs aS (aT 0) ς ++ (wTe cs aT τ ++ (wRo cs aE ε ++ (wGa cs aG (aD 0) (aR 0) γ Γ ++ (wDa cs aD dr δ)))))) [] hW (cRo_porterMinutes l D cs aR ρ N hc_3) (ci := 2) rfl rfl lk_X6_196 q414 q415 ⟨Nat.le_of_ble_eq_true rfl, Nat.le_of_ble_eq_true rfl⟩ rfl (Nat.le_of_ble_eq_true rfl) hl.1 dX6_card_26 ⟨Nat.zero_le _, Nat.zero_le _⟩ (fun H locs hW => ?_)
      have hW : Wd D A s.heap (wMa cs a (aT 0) (aS 0) (aD 0) (aG 0) (aR 0) (aE 0) μ ++ (wSc cs aS (aT 0) ς ++ (wTe cs aT τ ++ (wRo cs aE ε ++ (wGa cs aG (aD 0) (aR 0) γ Γ ++ (wDa cs aD dr δ ++ (wRo cs aR ρ))))))) H locs := kw (by simp only [List.append_assoc, List.nil_append, List.append_nil]) hW
      obtain ⟨r_4, δ_5, hc_6, h⟩ := cl2_some h
      have hW := kw_same hW
      refine kV_i (As := [.int v2, .int r_2]) (rest := []) S hK hA (z := none) trivial [] [] hW (cMa_shutOutByCards l D cs a aS aT aE aG aD aR μ ς τ ε γ Γ δ ρ dr v2 r_2 N hc_6) (ci := 5) rfl rfl lk_X6_193 q597 q17 ⟨Nat.le_of_ble_eq_true rfl, Nat.le_of_ble_eq_true rfl⟩ rfl (Nat.le_of_ble_eq_true rfl) hl.1 dX6_card_29 ⟨Nat.zero_le _, Nat.zero_le _⟩ (fun H locs hW => ?_)
      have hW : Wd D A s.heap (wMa cs a (aT 0) (aS 0) (aD 0) (aG 0) (aR 0) (aE 0) μ ++ (wSc cs aS (aT 0) ς ++ (wTe cs aT τ ++ (wRo cs aE ε ++ (wGa cs aG (aD 0) (aR 0) γ Γ ++ (wDa cs aD (aR 0) δ_5 ++ (wRo cs aR ρ))))))) H locs := kw_back hW
      refine lv_iload_n S.1 S.2.1 dX6_card_32 rfl (lv_at hl 1 rfl) ?_
      refine lv_icmp_gt (tgt := 38) S.1 S.2.1 dX6_card_33 (by decide) (fun c_7 => ?_) (fun c_7 => ?_)
      · have h := ite_t c_7 h
        obtain ⟨x2_8, ex2_8, h⟩ := nm_some h
        refine lv_iinc (v := x2_8) (lv' := [(2, .int x2_8), (0, .ref (a 0)), (1, .int v1)]) S.1 S.2.1 dX6_card_38 hl (k := 2) rfl (by rw [ex2_8]; rfl) (by decide) rfl (fun ls hl => ?_)
        refine lv_goto (tgt := 15) S.1 S.2.1 dX6_card_41 (by decide) ?_
        exact ih v1 x2_8 δ_5 (aR 0) _ _ _ h hW (lv_sub hl [1, 2, 0] rfl)
      · have h := ite_f c_7 h
        refine lv_iload_n S.1 S.2.1 dX6_card_36 rfl (lv_at hl 2 rfl) ?_
        obtain ⟨rfl, rfl, rfl⟩ := pr3 h
        exact hQ _ _ _ _ dX6_card_37 rfl hW
set_option maxHeartbeats 4000000 in
set_option maxRecDepth 100000 in
theorem cMa_card (l : Launch) (D : va_G) (cs : Nat → ClassId) (a aS aT aE aG aD aR : Nat → Nat) (μ : St) (ς : St) (τ : St) (ε : St) (γ : St) (Γ : Nat → Int64) (δ : St) (ρ : St) (dr : Nat) (p0 : Int32) (N : Nat) {r : Int32} {δ' : St} {dr' : Nat} (h : fMa_card N p0 μ ρ (aR 0) δ dr = some (r, δ', dr')) : Ki l D cs none yX6_card cX6_card 3 (some .int) 5 116 (wMa cs a (aT 0) (aS 0) (aD 0) (aG 0) (aR 0) (aE 0) μ ++ (wSc cs aS (aT 0) ς ++ (wTe cs aT τ ++ (wRo cs aE ε ++ (wGa cs aG (aD 0) (aR 0) γ Γ ++ (wDa cs aD dr δ ++ (wRo cs aR ρ))))))) [.ref (a 0), .int p0] r (wMa cs a (aT 0) (aS 0) (aD 0) (aG 0) (aR 0) (aE 0) μ ++ (wSc cs aS (aT 0) ς ++ (wTe cs aT τ ++ (wRo cs aE ε ++ (wGa cs aG (aD 0) (aR 0) γ Γ ++ (wDa cs aD dr' δ' ++ (wRo cs aR ρ))))))) := by
  refine Ki_of (by decide +kernel) (Nat.le_of_ble_eq_true rfl) (fun p e s m below meth c A S hK hA hZ Q hQ ls hl hW => ?_)
  have hl : lv_has ls 3 [(0, .ref (a 0)), (1, .int p0)] := hl
  unfold fMa_card at h
  refine lv_iload_n S.1 S.2.1 dX6_card_0 rfl (lv_at hl 1 rfl) ?_
  refine lv_iconst (v := 0) S.1 S.2.1 dX6_card_1 (by decide) ?_
  refine lv_bipush (v := 8) S.1 S.2.1 dX6_card_2 (by decide) ?_
  obtain ⟨r_9, hc_10, h⟩ := cl1_some h
  refine kS_i (As := [.int p0, .int (0 : Int32), .int (8 : Int32)]) (rest := []) S hK hA (z := none) trivial [] (wMa cs a (aT 0) (aS 0) (aD 0) (aG 0) (aR 0) (aE 0) μ ++ (wSc cs aS (aT 0) ς ++ (wTe cs aT τ ++ (wRo cs aE ε ++ (wGa cs aG (aD 0) (aR 0) γ Γ ++ (wDa cs aD dr δ ++ (wRo cs aR ρ))))))) hW (cMa_within l D cs p0 (0 : Int32) (8 : Int32) N hc_10) lk_X6_88 q278 ⟨Nat.le_of_ble_eq_true rfl, Nat.le_of_ble_eq_true rfl⟩ rfl (Nat.le_of_ble_eq_true rfl) hl.1 dX6_card_4 ⟨Nat.zero_le _, Nat.zero_le _⟩ (fun H locs hW => ?_)
  have hW : Wd D A s.heap (wMa cs a (aT 0) (aS 0) (aD 0) (aG 0) (aR 0) (aE 0) μ ++ (wSc cs aS (aT 0) ς ++ (wTe cs aT τ ++ (wRo cs aE ε ++ (wGa cs aG (aD 0) (aR 0) γ Γ ++ (wDa cs aD dr δ ++ (wRo cs aR ρ))))))) H locs := hW
  refine lv_if_ne (tgt := 12) S.1 S.2.1 dX6_card_7 (by decide) (fun c_11 => ?_) (fun c_11 => ?_)
  · have h := ite_f c_11 h
    refine lv_bipush (v := 99) S.1 S.2.1 dX6_card_12 (by decide) ?_
    refine lv_istore_n (lv' := [(2, .int (99 : Int32)), (0, .ref (a 0)), (1, .int p0)]) S.1 S.2.1 dX6_card_14 rfl hl (by decide) rfl (fun ls hl => ?_)
    exact wMa_card_15 S hK hA hQ N p0 (99 : Int32) δ dr _ _ _ h hW (lv_sub hl [1, 2, 0] rfl)
  · have h := ite_t c_11 h
    refine lv_iconst (v := -1) S.1 S.2.1 dX6_card_10 (by decide) ?_
    obtain ⟨rfl, rfl, rfl⟩ := pr3 h
    exact hQ _ _ _ _ dX6_card_11 rfl hW
set_option maxHeartbeats 4000000 in
set_option maxRecDepth 100000 in
theorem wMa_booked_40 {p : Program} {l : Launch} {e : Env} {s : State} {m : MethodId} {args : Array Value} {below : List Frame} {meth : Method} {c : Code} {A : Nat → Prop} {Q : State → Prop} {D : va_G} {cs : Nat → ClassId} {a aS aT aE aG aD aR : Nat → Nat} {μ : St} {ς : St} {τ : St} {ε : St} {γ : St} {Γ : Nat → Int64} {δ : St} {ρ : St} {dr : Nat} {r : Int64} {N : Nat} (S : Fx p m c cX6_booked 11 s args RX6) (hK : va_K D vwCl (tyL cs) s) (hA : ∀ x, s.heap.size ≤ x → A x) (hQ : ∀ (H : Heap) (locs : List Loc) (pc : Nat) (ls : Array Slot), decode cX6_booked pc = .ok (.lreturn, 1) → Wd D A s.heap (wMa cs a (aT 0) (aS 0) (aD 0) (aG 0) (aR 0) (aE 0) μ ++ (wSc cs aS (aT 0) ς ++ (wTe cs aT τ ++ (wRo cs aE ε ++ (wGa cs aG (aD 0) (aR 0) γ Γ ++ (wDa cs aD dr δ ++ (wRo cs aR ρ))))))) H locs → W p l e { frames := 2, cells := 0, slots := 0, locals := 51 } s m args below meth c H locs 0 0 Q (F0 m pc ls [.long r])) : ∀ (H : Heap) (locs : List Loc) (ls : Array Slot), fMa_booked_40 N = some r → Wd D A s.heap (wMa cs a (aT 0) (aS 0) (aD 0) (aG 0) (aR 0) (aE 0) μ ++ (wSc cs aS (aT 0) ς ++ (wTe cs aT τ ++ (wRo cs aE ε ++ (wGa cs aG (aD 0) (aR 0) γ Γ ++ (wDa cs aD dr δ ++ (wRo cs aR ρ))))))) H locs → lv_has ls 11 [] → W p l e { frames := 2, cells := 0, slots := 0, locals := 51 } s m args below meth c H locs 0 0 Q (F0 m 40 ls []) := by
  intro  H locs ls h hW hl
  unfold fMa_booked_40 at h
  refine lv_ldc2 (v := -1) S.1 S.2.1 S.2.2.2.1 (S.2.2.2.2 _ q609) dX6_booked_40 ?_
  obtain rfl := pr1 h
  exact hQ _ _ _ _ dX6_booked_43 hW
set_option maxHeartbeats 4000000 in
set_option maxRecDepth 100000 in
theorem wMa_booked_92 {p : Program} {l : Launch} {e : Env} {s : State} {m : MethodId} {args : Array Value} {below : List Frame} {meth : Method} {c : Code} {A : Nat → Prop} {Q : State → Prop} {D : va_G} {cs : Nat → ClassId} {a aS aT aE aG aD aR : Nat → Nat} {μ : St} {ς : St} {τ : St} {ε : St} {γ : St} {Γ : Nat → Int64} {δ : St} {ρ : St} {dr : Nat} {r : Int64} {N : Nat} (S : Fx p m c cX6_booked 11 s args RX6) (hK : va_K D vwCl (tyL cs) s) (hA : ∀ x, s.heap.size ≤ x → A x) (hQ : ∀ (H : Heap) (locs : List Loc) (pc : Nat) (ls : Array Slot), decode cX6_booked pc = .ok (.lreturn, 1) → Wd D A s.heap (wMa cs a (aT 0) (aS 0) (aD 0) (aG 0) (aR 0) (aE 0) μ ++ (wSc cs aS (aT 0) ς ++ (wTe cs aT τ ++ (wRo cs aE ε ++ (wGa cs aG (aD 0) (aR 0) γ Γ ++ (wDa cs aD dr δ ++ (wRo cs aR ρ))))))) H locs → W p l e { frames := 2, cells := 0, slots := 0, locals := 51 } s m args below meth c H locs 0 0 Q (F0 m pc ls [.long r])) : ∀ (v9 : Int64) (k0 : Int64) (H : Heap) (locs : List Loc) (ls : Array Slot), fMa_booked_92 N v9 k0 = some r → Wd D A s.heap (wMa cs a (aT 0) (aS 0) (aD 0) (aG 0) (aR 0) (aE 0) μ ++ (wSc cs aS (aT 0) ς ++ (wTe cs aT τ ++ (wRo cs aE ε ++ (wGa cs aG (aD 0) (aR 0) γ Γ ++ (wDa cs aD dr δ ++ (wRo cs aR ρ))))))) H locs → lv_has ls 11 [(9, .long v9)] → W p l e { frames := 2, cells := 0, slots := 0, locals := 51 } s m args below meth c H locs 0 0 Q (F0 m 92 ls [.long k0]) := by
  intro v9 k0 H locs ls h hW hl
  unfold fMa_booked_92 at h
  refine lv_lload S.1 S.2.1 dX6_booked_92 (lv_at hl 0 rfl) ?_
  obtain ⟨hz_1, h⟩ := gZL_some h
  refine lv_ldiv S.1 S.2.1 dX6_booked_94 hz_1 ?_
  obtain rfl := pr1 h
  exact hQ _ _ _ _ dX6_booked_95 hW
set_option maxHeartbeats 4000000 in
set_option maxRecDepth 100000 in
theorem cMa_booked (l : Launch) (D : va_G) (cs : Nat → ClassId) (a aS aT aE aG aD aR : Nat → Nat) (μ : St) (ς : St) (τ : St) (ε : St) (γ : St) (Γ : Nat → Int64) (δ : St) (ρ : St) (dr : Nat) (p0 : Int32) (p1 : Int32) (p2 : Int32) (p3 : Int32) (N : Nat) {r : Int64} (h : fMa_booked N p0 p1 p2 p3 = some r) : Kl l D cs none yX6_booked cX6_booked 11 (some .long) 2 51 (wMa cs a (aT 0) (aS 0) (aD 0) (aG 0) (aR 0) (aE 0) μ ++ (wSc cs aS (aT 0) ς ++ (wTe cs aT τ ++ (wRo cs aE ε ++ (wGa cs aG (aD 0) (aR 0) γ Γ ++ (wDa cs aD dr δ ++ (wRo cs aR ρ))))))) [.ref (a 0), .int p0, .int p1, .int p2, .int p3] r (wMa cs a (aT 0) (aS 0) (aD 0) (aG 0) (aR 0) (aE 0) μ ++ (wSc cs aS (aT 0) ς ++ (wTe cs aT τ ++ (wRo cs aE ε ++ (wGa cs aG (aD 0) (aR 0) γ Γ ++ (wDa cs aD dr δ ++ (wRo cs aR ρ))))))) := by
  refine Kl_of (by decide +kernel) (Nat.le_of_ble_eq_true rfl) (fun p e s m below meth c A S hK hA hZ Q hQ ls hl hW => ?_)
  have hl : lv_has ls 11 [(0, .ref (a 0)), (1, .int p0), (2, .int p1), (3, .int p2), (4, .int p3)] := hl
  unfold fMa_booked at h
  refine lv_iload_n S.1 S.2.1 dX6_booked_0 rfl (lv_at hl 1 rfl) ?_
  refine lv_iconst (v := 1) S.1 S.2.1 dX6_booked_1 (by decide) ?_
  refine lv_bipush (v := 14) S.1 S.2.1 dX6_booked_2 (by decide) ?_
  obtain ⟨r_2, hc_3, h⟩ := cl1_some h
  refine kS_i (As := [.int p0, .int (1 : Int32), .int (14 : Int32)]) (rest := []) S hK hA (z := none) trivial [] (wMa cs a (aT 0) (aS 0) (aD 0) (aG 0) (aR 0) (aE 0) μ ++ (wSc cs aS (aT 0) ς ++ (wTe cs aT τ ++ (wRo cs aE ε ++ (wGa cs aG (aD 0) (aR 0) γ Γ ++ (wDa cs aD dr δ ++ (wRo cs aR ρ))))))) hW (cMa_within l D cs p0 (1 : Int32) (14 : Int32) N hc_3) lk_X6_88 q278 ⟨Nat.le_of_ble_eq_true rfl, Nat.le_of_ble_eq_true rfl⟩ rfl (Nat.le_of_ble_eq_true rfl) hl.1 dX6_booked_4 ⟨Nat.zero_le _, Nat.zero_le _⟩ (fun H locs hW => ?_)
  have hW : Wd D A s.heap (wMa cs a (aT 0) (aS 0) (aD 0) (aG 0) (aR 0) (aE 0) μ ++ (wSc cs aS (aT 0) ς ++ (wTe cs aT τ ++ (wRo cs aE ε ++ (wGa cs aG (aD 0) (aR 0) γ Γ ++ (wDa cs aD dr δ ++ (wRo cs aR ρ))))))) H locs := hW
  refine lv_if_eq (tgt := 40) S.1 S.2.1 dX6_booked_7 (by decide) (fun c_4 => ?_) (fun c_4 => ?_)
  · have h := ite_t c_4 h
    exact wMa_booked_40 S hK hA hQ _ _ _ h hW (lv_sub hl [] rfl)
  · have h := ite_f c_4 h
    refine lv_iload_n S.1 S.2.1 dX6_booked_10 rfl (lv_at hl 2 rfl) ?_
    refine lv_iconst (v := 1) S.1 S.2.1 dX6_booked_11 (by decide) ?_
    refine lv_bipush (v := 14) S.1 S.2.1 dX6_booked_12 (by decide) ?_
    obtain ⟨r_5, hc_6, h⟩ := cl1_some h
    refine kS_i (As := [.int p1, .int (1 : Int32), .int (14 : Int32)]) (rest := []) S hK hA (z := none) trivial [] (wMa cs a (aT 0) (aS 0) (aD 0) (aG 0) (aR 0) (aE 0) μ ++ (wSc cs aS (aT 0) ς ++ (wTe cs aT τ ++ (wRo cs aE ε ++ (wGa cs aG (aD 0) (aR 0) γ Γ ++ (wDa cs aD dr δ ++ (wRo cs aR ρ))))))) hW (cMa_within l D cs p1 (1 : Int32) (14 : Int32) N hc_6) lk_X6_88 q278 ⟨Nat.le_of_ble_eq_true rfl, Nat.le_of_ble_eq_true rfl⟩ rfl (Nat.le_of_ble_eq_true rfl) hl.1 dX6_booked_14 ⟨Nat.zero_le _, Nat.zero_le _⟩ (fun H locs hW => ?_)
    have hW : Wd D A s.heap (wMa cs a (aT 0) (aS 0) (aD 0) (aG 0) (aR 0) (aE 0) μ ++ (wSc cs aS (aT 0) ς ++ (wTe cs aT τ ++ (wRo cs aE ε ++ (wGa cs aG (aD 0) (aR 0) γ Γ ++ (wDa cs aD dr δ ++ (wRo cs aR ρ))))))) H locs := hW
    refine lv_if_eq (tgt := 40) S.1 S.2.1 dX6_booked_17 (by decide) (fun c_7 => ?_) (fun c_7 => ?_)
    · have h := ite_t c_7 h
      exact wMa_booked_40 S hK hA hQ _ _ _ h hW (lv_sub hl [] rfl)
    · have h := ite_f c_7 h
      refine lv_iload_n S.1 S.2.1 dX6_booked_20 rfl (lv_at hl 3 rfl) ?_
      refine lv_iconst (v := 0) S.1 S.2.1 dX6_booked_21 (by decide) ?_
      refine lv_bipush (v := 10) S.1 S.2.1 dX6_booked_22 (by decide) ?_
      obtain ⟨r_8, hc_9, h⟩ := cl1_some h
      refine kS_i (As := [.int p2, .int (0 : Int32), .int (10 : Int32)]) (rest := []) S hK hA (z := none) trivial [] (wMa cs a (aT 0) (aS 0) (aD 0) (aG 0) (aR 0) (aE 0) μ ++ (wSc cs aS (aT 0) ς ++ (wTe cs aT τ ++ (wRo cs aE ε ++ (wGa cs aG (aD 0) (aR 0) γ Γ ++ (wDa cs aD dr δ ++ (wRo cs aR ρ))))))) hW (cMa_within l D cs p2 (0 : Int32) (10 : Int32) N hc_9) lk_X6_88 q278 ⟨Nat.le_of_ble_eq_true rfl, Nat.le_of_ble_eq_true rfl⟩ rfl (Nat.le_of_ble_eq_true rfl) hl.1 dX6_booked_24 ⟨Nat.zero_le _, Nat.zero_le _⟩ (fun H locs hW => ?_)
      have hW : Wd D A s.heap (wMa cs a (aT 0) (aS 0) (aD 0) (aG 0) (aR 0) (aE 0) μ ++ (wSc cs aS (aT 0) ς ++ (wTe cs aT τ ++ (wRo cs aE ε ++ (wGa cs aG (aD 0) (aR 0) γ Γ ++ (wDa cs aD dr δ ++ (wRo cs aR ρ))))))) H locs := hW
      refine lv_if_eq (tgt := 40) S.1 S.2.1 dX6_booked_27 (by decide) (fun c_10 => ?_) (fun c_10 => ?_)
      · have h := ite_t c_10 h
        exact wMa_booked_40 S hK hA hQ _ _ _ h hW (lv_sub hl [] rfl)
      · have h := ite_f c_10 h
        refine lv_iload S.1 S.2.1 dX6_booked_30 (lv_at hl 4 rfl) ?_
        refine lv_iconst (v := 0) S.1 S.2.1 dX6_booked_32 (by decide) ?_
        refine lv_iconst (v := 1) S.1 S.2.1 dX6_booked_33 (by decide) ?_
        obtain ⟨r_11, hc_12, h⟩ := cl1_some h
        refine kS_i (As := [.int p3, .int (0 : Int32), .int (1 : Int32)]) (rest := []) S hK hA (z := none) trivial [] (wMa cs a (aT 0) (aS 0) (aD 0) (aG 0) (aR 0) (aE 0) μ ++ (wSc cs aS (aT 0) ς ++ (wTe cs aT τ ++ (wRo cs aE ε ++ (wGa cs aG (aD 0) (aR 0) γ Γ ++ (wDa cs aD dr δ ++ (wRo cs aR ρ))))))) hW (cMa_within l D cs p3 (0 : Int32) (1 : Int32) N hc_12) lk_X6_88 q278 ⟨Nat.le_of_ble_eq_true rfl, Nat.le_of_ble_eq_true rfl⟩ rfl (Nat.le_of_ble_eq_true rfl) hl.1 dX6_booked_34 ⟨Nat.zero_le _, Nat.zero_le _⟩ (fun H locs hW => ?_)
        have hW : Wd D A s.heap (wMa cs a (aT 0) (aS 0) (aD 0) (aG 0) (aR 0) (aE 0) μ ++ (wSc cs aS (aT 0) ς ++ (wTe cs aT τ ++ (wRo cs aE ε ++ (wGa cs aG (aD 0) (aR 0) γ Γ ++ (wDa cs aD dr δ ++ (wRo cs aR ρ))))))) H locs := hW
        refine lv_if_ne (tgt := 44) S.1 S.2.1 dX6_booked_37 (by decide) (fun c_13 => ?_) (fun c_13 => ?_)
        · have h := ite_f c_13 h
          refine lv_iload_n S.1 S.2.1 dX6_booked_44 rfl (lv_at hl 1 rfl) ?_
          refine lv_iload_n S.1 S.2.1 dX6_booked_45 rfl (lv_at hl 2 rfl) ?_
          refine lv_iload_n S.1 S.2.1 dX6_booked_46 rfl (lv_at hl 3 rfl) ?_
          obtain ⟨r_14, hc_15, h⟩ := cl1_some h
          refine kS_l (As := [.int p0, .int p1, .int p2]) (rest := []) S hK hA (z := none) trivial [] (wMa cs a (aT 0) (aS 0) (aD 0) (aG 0) (aR 0) (aE 0) μ ++ (wSc cs aS (aT 0) ς ++ (wTe cs aT τ ++ (wRo cs aE ε ++ (wGa cs aG (aD 0) (aR 0) γ Γ ++ (wDa cs aD dr δ ++ (wRo cs aR ρ))))))) hW (cOd_noMoreThan l D cs p0 p1 p2 N hc_15) lk_X6_201 q611 ⟨Nat.le_of_ble_eq_true rfl, Nat.le_of_ble_eq_true rfl⟩ rfl (Nat.le_of_ble_eq_true rfl) hl.1 dX6_booked_47 ⟨Nat.zero_le _, Nat.zero_le _⟩ (fun H locs hW => ?_)
          have hW : Wd D A s.heap (wMa cs a (aT 0) (aS 0) (aD 0) (aG 0) (aR 0) (aE 0) μ ++ (wSc cs aS (aT 0) ς ++ (wTe cs aT τ ++ (wRo cs aE ε ++ (wGa cs aG (aD 0) (aR 0) γ Γ ++ (wDa cs aD dr δ ++ (wRo cs aR ρ))))))) H locs := hW
          refine lv_lstore (lv' := [(5, .long r_14), (0, .ref (a 0)), (1, .int p0), (2, .int p1), (3, .int p2), (4, .int p3)]) S.1 S.2.1 dX6_booked_50 hl (by decide) rfl (fun ls hl => ?_)
          refine lv_bipush (v := 10) S.1 S.2.1 dX6_booked_52 (by decide) ?_
          refine lv_iload_n S.1 S.2.1 dX6_booked_54 rfl (lv_at hl 2 rfl) ?_
          obtain ⟨r_16, hc_17, h⟩ := cl1_some h
          refine kS_l (As := [.int (10 : Int32), .int p0]) (rest := []) S hK hA (z := none) trivial [] (wMa cs a (aT 0) (aS 0) (aD 0) (aG 0) (aR 0) (aE 0) μ ++ (wSc cs aS (aT 0) ς ++ (wTe cs aT τ ++ (wRo cs aE ε ++ (wGa cs aG (aD 0) (aR 0) γ Γ ++ (wDa cs aD dr δ ++ (wRo cs aR ρ))))))) hW (cOd_power l D cs (10 : Int32) p0 N hc_17) lk_X6_207 q614 ⟨Nat.le_of_ble_eq_true rfl, Nat.le_of_ble_eq_true rfl⟩ rfl (Nat.le_of_ble_eq_true rfl) hl.1 dX6_booked_55 ⟨Nat.zero_le _, Nat.zero_le _⟩ (fun H locs hW => ?_)
          have hW : Wd D A s.heap (wMa cs a (aT 0) (aS 0) (aD 0) (aG 0) (aR 0) (aE 0) μ ++ (wSc cs aS (aT 0) ς ++ (wTe cs aT τ ++ (wRo cs aE ε ++ (wGa cs aG (aD 0) (aR 0) γ Γ ++ (wDa cs aD dr δ ++ (wRo cs aR ρ))))))) H locs := hW
          refine lv_lstore (lv' := [(7, .long r_16), (5, .long r_14), (0, .ref (a 0)), (1, .int p0), (2, .int p1), (3, .int p2), (4, .int p3)]) S.1 S.2.1 dX6_booked_58 hl (by decide) rfl (fun ls hl => ?_)
          refine lv_lload S.1 S.2.1 dX6_booked_60 (lv_at hl 1 rfl) ?_
          refine lv_lload S.1 S.2.1 dX6_booked_62 (lv_at hl 0 rfl) ?_
          obtain ⟨r_18, hc_19, h⟩ := cl1_some h
          refine kS_l (As := [.long r_14, .long r_16]) (rest := []) S hK hA (z := none) trivial [] (wMa cs a (aT 0) (aS 0) (aD 0) (aG 0) (aR 0) (aE 0) μ ++ (wSc cs aS (aT 0) ς ++ (wTe cs aT τ ++ (wRo cs aE ε ++ (wGa cs aG (aD 0) (aR 0) γ Γ ++ (wDa cs aD dr δ ++ (wRo cs aR ρ))))))) hW (cOd_commonDivisor l D cs r_14 r_16 N hc_19) lk_X6_211 q618 ⟨Nat.le_of_ble_eq_true rfl, Nat.le_of_ble_eq_true rfl⟩ rfl (Nat.le_of_ble_eq_true rfl) hl.1 dX6_booked_64 ⟨Nat.zero_le _, Nat.zero_le _⟩ (fun H locs hW => ?_)
          have hW : Wd D A s.heap (wMa cs a (aT 0) (aS 0) (aD 0) (aG 0) (aR 0) (aE 0) μ ++ (wSc cs aS (aT 0) ς ++ (wTe cs aT τ ++ (wRo cs aE ε ++ (wGa cs aG (aD 0) (aR 0) γ Γ ++ (wDa cs aD dr δ ++ (wRo cs aR ρ))))))) H locs := hW
          refine lv_lstore (lv' := [(9, .long r_18), (7, .long r_16), (5, .long r_14), (0, .ref (a 0)), (1, .int p0), (2, .int p1), (3, .int p2), (4, .int p3)]) S.1 S.2.1 dX6_booked_67 hl (by decide) rfl (fun ls hl => ?_)
          refine lv_lload S.1 S.2.1 dX6_booked_69 (lv_at hl 0 rfl) ?_
          refine lv_lconst (v := 1) S.1 S.2.1 dX6_booked_71 (by decide) ?_
          refine W.lcmp S.1 S.2.1 dX6_booked_72 ?_
          refine lv_if_ge (tgt := 80) S.1 S.2.1 dX6_booked_73 (by decide) (fun c_20 => ?_) (fun c_20 => ?_)
          · have h := ite_t c_20 h
            refine lv_iload S.1 S.2.1 dX6_booked_80 (lv_at hl 7 rfl) ?_
            refine lv_if_ne (tgt := 90) S.1 S.2.1 dX6_booked_82 (by decide) (fun c_21 => ?_) (fun c_21 => ?_)
            · have h := ite_f c_21 h
              refine lv_lload S.1 S.2.1 dX6_booked_90 (lv_at hl 1 rfl) ?_
              exact wMa_booked_92 S hK hA hQ r_18 r_16 _ _ _ h hW (lv_sub hl [0] rfl)
            · have h := ite_t c_21 h
              refine lv_lload S.1 S.2.1 dX6_booked_85 (lv_at hl 2 rfl) ?_
              refine lv_goto (tgt := 92) S.1 S.2.1 dX6_booked_87 (by decide) ?_
              exact wMa_booked_92 S hK hA hQ r_18 r_14 _ _ _ h hW (lv_sub hl [0] rfl)
          · have h := ite_f c_20 h
            refine lv_ldc2 (v := -1) S.1 S.2.1 S.2.2.2.1 (S.2.2.2.2 _ q609) dX6_booked_76 ?_
            obtain rfl := pr1 h
            exact hQ _ _ _ _ dX6_booked_79 hW
        · have h := ite_t c_13 h
          exact wMa_booked_40 S hK hA hQ _ _ _ h hW (lv_sub hl [] rfl)
set_option maxHeartbeats 4000000 in
set_option maxRecDepth 100000 in
theorem wMa_over_30 {p : Program} {l : Launch} {e : Env} {s : State} {m : MethodId} {args : Array Value} {below : List Frame} {meth : Method} {c : Code} {A : Nat → Prop} {Q : State → Prop} {D : va_G} {cs : Nat → ClassId} {a aS aT aE aG aD aR : Nat → Nat} {μ : St} {ς : St} {τ : St} {ε : St} {γ : St} {Γ : Nat → Int64} {δ : St} {ρ : St} {dr : Nat} {r : Int32} {N : Nat} (S : Fx p m c cX6_over 5 s args RX6) (hK : va_K D vwCl (tyL cs) s) (hA : ∀ x, s.heap.size ≤ x → A x) (hQ : ∀ (H : Heap) (locs : List Loc) (pc : Nat) (ls : Array Slot), decode cX6_over pc = .ok (.ireturn, 1) → narrow .int (.int r) = .int r → Wd D A s.heap (wMa cs a (aT 0) (aS 0) (aD 0) (aG 0) (aR 0) (aE 0) μ ++ (wSc cs aS (aT 0) ς ++ (wTe cs aT τ ++ (wRo cs aE ε ++ (wGa cs aG (aD 0) (aR 0) γ Γ ++ (wDa cs aD dr δ ++ (wRo cs aR ρ))))))) H locs → W p l e { frames := 2, cells := 0, slots := 0, locals := 51 } s m args below meth c H locs 0 0 Q (F0 m pc ls [.int r])) : ∀ (H : Heap) (locs : List Loc) (ls : Array Slot), fMa_over_30 N = some r → Wd D A s.heap (wMa cs a (aT 0) (aS 0) (aD 0) (aG 0) (aR 0) (aE 0) μ ++ (wSc cs aS (aT 0) ς ++ (wTe cs aT τ ++ (wRo cs aE ε ++ (wGa cs aG (aD 0) (aR 0) γ Γ ++ (wDa cs aD dr δ ++ (wRo cs aR ρ))))))) H locs → lv_has ls 5 [] → W p l e { frames := 2, cells := 0, slots := 0, locals := 51 } s m args below meth c H locs 0 0 Q (F0 m 30 ls []) := by
  intro  H locs ls h hW hl
  unfold fMa_over_30 at h
  refine lv_iconst (v := -1) S.1 S.2.1 dX6_over_30 (by decide) ?_
  obtain rfl := pr1 h
  exact hQ _ _ _ _ dX6_over_31 rfl hW
set_option maxHeartbeats 4000000 in
set_option maxRecDepth 100000 in
theorem wMa_over_36 {p : Program} {l : Launch} {e : Env} {s : State} {m : MethodId} {args : Array Value} {below : List Frame} {meth : Method} {c : Code} {A : Nat → Prop} {Q : State → Prop} {D : va_G} {cs : Nat → ClassId} {a aS aT aE aG aD aR : Nat → Nat} {μ : St} {ς : St} {τ : St} {ε : St} {γ : St} {Γ : Nat → Int64} {δ : St} {ρ : St} {dr : Nat} {r : Int32} {N : Nat} (S : Fx p m c cX6_over 5 s args RX6) (hK : va_K D vwCl (tyL cs) s) (hA : ∀ x, s.heap.size ≤ x → A x) (hQ : ∀ (H : Heap) (locs : List Loc) (pc : Nat) (ls : Array Slot), decode cX6_over pc = .ok (.ireturn, 1) → narrow .int (.int r) = .int r → Wd D A s.heap (wMa cs a (aT 0) (aS 0) (aD 0) (aG 0) (aR 0) (aE 0) μ ++ (wSc cs aS (aT 0) ς ++ (wTe cs aT τ ++ (wRo cs aE ε ++ (wGa cs aG (aD 0) (aR 0) γ Γ ++ (wDa cs aD dr δ ++ (wRo cs aR ρ))))))) H locs → W p l e { frames := 2, cells := 0, slots := 0, locals := 51 } s m args below meth c H locs 0 0 Q (F0 m pc ls [.int r])) : ∀ (n_36 : Nat) (v1 : Int32) (v2 : Int32) (v3 : Int32) (v4 : Int32) (H : Heap) (locs : List Loc) (ls : Array Slot), fMa_over_36 N n_36 v1 v2 v3 v4 = some r → Wd D A s.heap (wMa cs a (aT 0) (aS 0) (aD 0) (aG 0) (aR 0) (aE 0) μ ++ (wSc cs aS (aT 0) ς ++ (wTe cs aT τ ++ (wRo cs aE ε ++ (wGa cs aG (aD 0) (aR 0) γ Γ ++ (wDa cs aD dr δ ++ (wRo cs aR ρ))))))) H locs → lv_has ls 5 [(1, .int v1), (2, .int v2), (3, .int v3), (4, .int v4)] → W p l e { frames := 2, cells := 0, slots := 0, locals := 51 } s m args below meth c H locs 0 0 Q (F0 m 36 ls []) := by
  intro n_36
  induction n_36 with
  | zero =>
    intro v1 v2 v3 v4 H locs ls h
    cases h
  | succ n_36 ih =>
    intro v1 v2 v3 v4 H locs ls h hW hl
    unfold fMa_over_36 at h
    refine lv_iload S.1 S.2.1 dX6_over_36 (lv_at hl 3 rfl) ?_
    refine lv_iload_n S.1 S.2.1 dX6_over_38 rfl (lv_at hl 0 rfl) ?_
    refine lv_icmp_lt (tgt := 76) S.1 S.2.1 dX6_over_39 (by decide) (fun c_1 => ?_) (fun c_1 => ?_)
    · have h := ite_t c_1 h
      refine lv_bipush (v := -4) S.1 S.2.1 dX6_over_76 (by decide) ?_
      obtain rfl := pr1 h
      exact hQ _ _ _ _ dX6_over_78 rfl hW
    · have h := ite_f c_1 h
      refine lv_iload S.1 S.2.1 dX6_over_42 (lv_at hl 3 rfl) ?_
      refine lv_iload_n S.1 S.2.1 dX6_over_44 rfl (lv_at hl 0 rfl) ?_
      refine lv_iload_n S.1 S.2.1 dX6_over_45 rfl (lv_at hl 1 rfl) ?_
      obtain ⟨r_2, hc_3, h⟩ := cl1_some h
      refine kS_l (As := [.int v4, .int v1, .int v2]) (rest := []) S hK hA (z := none) trivial [] (wMa cs a (aT 0) (aS 0) (aD 0) (aG 0) (aR 0) (aE 0) μ ++ (wSc cs aS (aT 0) ς ++ (wTe cs aT τ ++ (wRo cs aE ε ++ (wGa cs aG (aD 0) (aR 0) γ Γ ++ (wDa cs aD dr δ ++ (wRo cs aR ρ))))))) hW (cOd_noMoreThan l D cs v4 v1 v2 N hc_3) lk_X6_201 q611 ⟨Nat.le_of_ble_eq_true rfl, Nat.le_of_ble_eq_true rfl⟩ rfl (Nat.le_of_ble_eq_true rfl) hl.1 dX6_over_46 ⟨Nat.zero_le _, Nat.zero_le _⟩ (fun H locs hW => ?_)
      have hW : Wd D A s.heap (wMa cs a (aT 0) (aS 0) (aD 0) (aG 0) (aR 0) (aE 0) μ ++ (wSc cs aS (aT 0) ς ++ (wTe cs aT τ ++ (wRo cs aE ε ++ (wGa cs aG (aD 0) (aR 0) γ Γ ++ (wDa cs aD dr δ ++ (wRo cs aR ρ))))))) H locs := hW
      refine lv_ldc2 (v := 100) S.1 S.2.1 S.2.2.2.1 (S.2.2.2.2 _ q624) dX6_over_49 ?_
      refine lv_lmul S.1 S.2.1 dX6_over_52 ?_
      refine lv_bipush (v := 10) S.1 S.2.1 dX6_over_53 (by decide) ?_
      refine lv_iload S.1 S.2.1 dX6_over_55 (lv_at hl 3 rfl) ?_
      obtain ⟨r_4, hc_5, h⟩ := cl1_some h
      refine kS_l (As := [.int (10 : Int32), .int v4]) (rest := [.long (r_2 * (100 : Int64))]) S hK hA (z := none) trivial [] (wMa cs a (aT 0) (aS 0) (aD 0) (aG 0) (aR 0) (aE 0) μ ++ (wSc cs aS (aT 0) ς ++ (wTe cs aT τ ++ (wRo cs aE ε ++ (wGa cs aG (aD 0) (aR 0) γ Γ ++ (wDa cs aD dr δ ++ (wRo cs aR ρ))))))) hW (cOd_power l D cs (10 : Int32) v4 N hc_5) lk_X6_207 q614 ⟨Nat.le_of_ble_eq_true rfl, Nat.le_of_ble_eq_true rfl⟩ rfl (Nat.le_of_ble_eq_true rfl) hl.1 dX6_over_57 ⟨Nat.zero_le _, Nat.zero_le _⟩ (fun H locs hW => ?_)
      have hW : Wd D A s.heap (wMa cs a (aT 0) (aS 0) (aD 0) (aG 0) (aR 0) (aE 0) μ ++ (wSc cs aS (aT 0) ς ++ (wTe cs aT τ ++ (wRo cs aE ε ++ (wGa cs aG (aD 0) (aR 0) γ Γ ++ (wDa cs aD dr δ ++ (wRo cs aR ρ))))))) H locs := hW
      refine lv_iload_n S.1 S.2.1 dX6_over_60 rfl (lv_at hl 2 rfl) ?_
      refine lv_i2l S.1 S.2.1 dX6_over_61 rfl ?_
      refine lv_lmul S.1 S.2.1 dX6_over_62 ?_
      refine W.lcmp S.1 S.2.1 dX6_over_63 ?_
      refine lv_if_lt (tgt := 70) S.1 S.2.1 dX6_over_64 (by decide) (fun c_6 => ?_) (fun c_6 => ?_)
      · have h := ite_t c_6 h
        obtain ⟨x4_7, ex4_7, h⟩ := nm_some h
        refine lv_iinc (v := x4_7) (lv' := [(4, .int x4_7), (1, .int v1), (2, .int v2), (3, .int v3)]) S.1 S.2.1 dX6_over_70 hl (k := 3) rfl (by rw [ex4_7]; rfl) (by decide) rfl (fun ls hl => ?_)
        refine lv_goto (tgt := 36) S.1 S.2.1 dX6_over_73 (by decide) ?_
        exact ih v1 v2 v3 x4_7 _ _ _ h hW (lv_sub hl [1, 2, 3, 0] rfl)
      · have h := ite_f c_6 h
        refine lv_iload S.1 S.2.1 dX6_over_67 (lv_at hl 3 rfl) ?_
        obtain rfl := pr1 h
        exact hQ _ _ _ _ dX6_over_69 rfl hW
set_option maxHeartbeats 4000000 in
set_option maxRecDepth 100000 in
theorem cMa_over (l : Launch) (D : va_G) (cs : Nat → ClassId) (a aS aT aE aG aD aR : Nat → Nat) (μ : St) (ς : St) (τ : St) (ε : St) (γ : St) (Γ : Nat → Int64) (δ : St) (ρ : St) (dr : Nat) (p0 : Int32) (p1 : Int32) (p2 : Int32) (N : Nat) {r : Int32} (h : fMa_over N p0 p1 p2 = some r) : Ki l D cs none yX6_over cX6_over 5 (some .int) 2 51 (wMa cs a (aT 0) (aS 0) (aD 0) (aG 0) (aR 0) (aE 0) μ ++ (wSc cs aS (aT 0) ς ++ (wTe cs aT τ ++ (wRo cs aE ε ++ (wGa cs aG (aD 0) (aR 0) γ Γ ++ (wDa cs aD dr δ ++ (wRo cs aR ρ))))))) [.ref (a 0), .int p0, .int p1, .int p2] r (wMa cs a (aT 0) (aS 0) (aD 0) (aG 0) (aR 0) (aE 0) μ ++ (wSc cs aS (aT 0) ς ++ (wTe cs aT τ ++ (wRo cs aE ε ++ (wGa cs aG (aD 0) (aR 0) γ Γ ++ (wDa cs aD dr δ ++ (wRo cs aR ρ))))))) := by
  refine Ki_of (by decide +kernel) (Nat.le_of_ble_eq_true rfl) (fun p e s m below meth c A S hK hA hZ Q hQ ls hl hW => ?_)
  have hl : lv_has ls 5 [(0, .ref (a 0)), (1, .int p0), (2, .int p1), (3, .int p2)] := hl
  unfold fMa_over at h
  refine lv_iload_n S.1 S.2.1 dX6_over_0 rfl (lv_at hl 1 rfl) ?_
  refine lv_iconst (v := 1) S.1 S.2.1 dX6_over_1 (by decide) ?_
  refine lv_bipush (v := 14) S.1 S.2.1 dX6_over_2 (by decide) ?_
  obtain ⟨r_8, hc_9, h⟩ := cl1_some h
  refine kS_i (As := [.int p0, .int (1 : Int32), .int (14 : Int32)]) (rest := []) S hK hA (z := none) trivial [] (wMa cs a (aT 0) (aS 0) (aD 0) (aG 0) (aR 0) (aE 0) μ ++ (wSc cs aS (aT 0) ς ++ (wTe cs aT τ ++ (wRo cs aE ε ++ (wGa cs aG (aD 0) (aR 0) γ Γ ++ (wDa cs aD dr δ ++ (wRo cs aR ρ))))))) hW (cMa_within l D cs p0 (1 : Int32) (14 : Int32) N hc_9) lk_X6_88 q278 ⟨Nat.le_of_ble_eq_true rfl, Nat.le_of_ble_eq_true rfl⟩ rfl (Nat.le_of_ble_eq_true rfl) hl.1 dX6_over_4 ⟨Nat.zero_le _, Nat.zero_le _⟩ (fun H locs hW => ?_)
  have hW : Wd D A s.heap (wMa cs a (aT 0) (aS 0) (aD 0) (aG 0) (aR 0) (aE 0) μ ++ (wSc cs aS (aT 0) ς ++ (wTe cs aT τ ++ (wRo cs aE ε ++ (wGa cs aG (aD 0) (aR 0) γ Γ ++ (wDa cs aD dr δ ++ (wRo cs aR ρ))))))) H locs := hW
  refine lv_if_eq (tgt := 30) S.1 S.2.1 dX6_over_7 (by decide) (fun c_10 => ?_) (fun c_10 => ?_)
  · have h := ite_t c_10 h
    exact wMa_over_30 S hK hA hQ _ _ _ h hW (lv_sub hl [] rfl)
  · have h := ite_f c_10 h
    refine lv_iload_n S.1 S.2.1 dX6_over_10 rfl (lv_at hl 2 rfl) ?_
    refine lv_iconst (v := 0) S.1 S.2.1 dX6_over_11 (by decide) ?_
    refine lv_bipush (v := 10) S.1 S.2.1 dX6_over_12 (by decide) ?_
    obtain ⟨r_11, hc_12, h⟩ := cl1_some h
    refine kS_i (As := [.int p1, .int (0 : Int32), .int (10 : Int32)]) (rest := []) S hK hA (z := none) trivial [] (wMa cs a (aT 0) (aS 0) (aD 0) (aG 0) (aR 0) (aE 0) μ ++ (wSc cs aS (aT 0) ς ++ (wTe cs aT τ ++ (wRo cs aE ε ++ (wGa cs aG (aD 0) (aR 0) γ Γ ++ (wDa cs aD dr δ ++ (wRo cs aR ρ))))))) hW (cMa_within l D cs p1 (0 : Int32) (10 : Int32) N hc_12) lk_X6_88 q278 ⟨Nat.le_of_ble_eq_true rfl, Nat.le_of_ble_eq_true rfl⟩ rfl (Nat.le_of_ble_eq_true rfl) hl.1 dX6_over_14 ⟨Nat.zero_le _, Nat.zero_le _⟩ (fun H locs hW => ?_)
    have hW : Wd D A s.heap (wMa cs a (aT 0) (aS 0) (aD 0) (aG 0) (aR 0) (aE 0) μ ++ (wSc cs aS (aT 0) ς ++ (wTe cs aT τ ++ (wRo cs aE ε ++ (wGa cs aG (aD 0) (aR 0) γ Γ ++ (wDa cs aD dr δ ++ (wRo cs aR ρ))))))) H locs := hW
    refine lv_if_eq (tgt := 30) S.1 S.2.1 dX6_over_17 (by decide) (fun c_13 => ?_) (fun c_13 => ?_)
    · have h := ite_t c_13 h
      exact wMa_over_30 S hK hA hQ _ _ _ h hW (lv_sub hl [] rfl)
    · have h := ite_f c_13 h
      refine lv_iload_n S.1 S.2.1 dX6_over_20 rfl (lv_at hl 3 rfl) ?_
      refine lv_iconst (v := 0) S.1 S.2.1 dX6_over_21 (by decide) ?_
      refine lv_bipush (v := 100) S.1 S.2.1 dX6_over_22 (by decide) ?_
      obtain ⟨r_14, hc_15, h⟩ := cl1_some h
      refine kS_i (As := [.int p2, .int (0 : Int32), .int (100 : Int32)]) (rest := []) S hK hA (z := none) trivial [] (wMa cs a (aT 0) (aS 0) (aD 0) (aG 0) (aR 0) (aE 0) μ ++ (wSc cs aS (aT 0) ς ++ (wTe cs aT τ ++ (wRo cs aE ε ++ (wGa cs aG (aD 0) (aR 0) γ Γ ++ (wDa cs aD dr δ ++ (wRo cs aR ρ))))))) hW (cMa_within l D cs p2 (0 : Int32) (100 : Int32) N hc_15) lk_X6_88 q278 ⟨Nat.le_of_ble_eq_true rfl, Nat.le_of_ble_eq_true rfl⟩ rfl (Nat.le_of_ble_eq_true rfl) hl.1 dX6_over_24 ⟨Nat.zero_le _, Nat.zero_le _⟩ (fun H locs hW => ?_)
      have hW : Wd D A s.heap (wMa cs a (aT 0) (aS 0) (aD 0) (aG 0) (aR 0) (aE 0) μ ++ (wSc cs aS (aT 0) ς ++ (wTe cs aT τ ++ (wRo cs aE ε ++ (wGa cs aG (aD 0) (aR 0) γ Γ ++ (wDa cs aD dr δ ++ (wRo cs aR ρ))))))) H locs := hW
      refine lv_if_ne (tgt := 32) S.1 S.2.1 dX6_over_27 (by decide) (fun c_16 => ?_) (fun c_16 => ?_)
      · have h := ite_f c_16 h
        refine lv_bipush (v := 14) S.1 S.2.1 dX6_over_32 (by decide) ?_
        refine lv_istore (lv' := [(4, .int (14 : Int32)), (0, .ref (a 0)), (1, .int p0), (2, .int p1), (3, .int p2)]) S.1 S.2.1 dX6_over_34 hl (by decide) rfl (fun ls hl => ?_)
        exact wMa_over_36 S hK hA hQ N p0 p1 p2 (14 : Int32) _ _ _ h hW (lv_sub hl [2, 3, 4, 0] rfl)
      · have h := ite_t c_16 h
        exact wMa_over_30 S hK hA hQ _ _ _ h hW (lv_sub hl [] rfl)
set_option maxHeartbeats 4000000 in
set_option maxRecDepth 100000 in
theorem wMa_dare_29 {p : Program} {l : Launch} {e : Env} {s : State} {m : MethodId} {args : Array Value} {below : List Frame} {meth : Method} {c : Code} {A : Nat → Prop} {Q : State → Prop} {D : va_G} {cs : Nat → ClassId} {a aS aT aE aG aD aR : Nat → Nat} {μ : St} {ς : St} {τ : St} {ε : St} {γ : St} {Γ : Nat → Int64} {δ : St} {ρ : St} {dr : Nat} {r : Int32} {N : Nat} (S : Fx p m c cX6_dare 8 s args RX6) (hK : va_K D vwCl (tyL cs) s) (hA : ∀ x, s.heap.size ≤ x → A x) (hQ : ∀ (H : Heap) (locs : List Loc) (pc : Nat) (ls : Array Slot), decode cX6_dare pc = .ok (.ireturn, 1) → narrow .int (.int r) = .int r → Wd D A s.heap (wMa cs a (aT 0) (aS 0) (aD 0) (aG 0) (aR 0) (aE 0) μ ++ (wSc cs aS (aT 0) ς ++ (wTe cs aT τ ++ (wRo cs aE ε ++ (wGa cs aG (aD 0) (aR 0) γ Γ ++ (wDa cs aD dr δ ++ (wRo cs aR ρ))))))) H locs → W p l e { frames := 2, cells := 0, slots := 0, locals := 44 } s m args below meth c H locs 0 0 Q (F0 m pc ls [.int r])) : ∀ (H : Heap) (locs : List Loc) (ls : Array Slot), fMa_dare_29 N ρ = some r → Wd D A s.heap (wMa cs a (aT 0) (aS 0) (aD 0) (aG 0) (aR 0) (aE 0) μ ++ (wSc cs aS (aT 0) ς ++ (wTe cs aT τ ++ (wRo cs aE ε ++ (wGa cs aG (aD 0) (aR 0) γ Γ ++ (wDa cs aD dr δ ++ (wRo cs aR ρ))))))) H locs → lv_has ls 8 [] → W p l e { frames := 2, cells := 0, slots := 0, locals := 44 } s m args below meth c H locs 0 0 Q (F0 m 29 ls []) := by
  intro  H locs ls h hW hl
  unfold fMa_dare_29 at h
  refine lv_iconst (v := -1) S.1 S.2.1 dX6_dare_29 (by decide) ?_
  obtain rfl := pr1 h
  exact hQ _ _ _ _ dX6_dare_30 rfl hW
set_option maxHeartbeats 4000000 in
set_option maxRecDepth 100000 in
theorem wMa_dare_103 {p : Program} {l : Launch} {e : Env} {s : State} {m : MethodId} {args : Array Value} {below : List Frame} {meth : Method} {c : Code} {A : Nat → Prop} {Q : State → Prop} {D : va_G} {cs : Nat → ClassId} {a aS aT aE aG aD aR : Nat → Nat} {μ : St} {ς : St} {τ : St} {ε : St} {γ : St} {Γ : Nat → Int64} {δ : St} {ρ : St} {dr : Nat} {r : Int32} {N : Nat} (S : Fx p m c cX6_dare 8 s args RX6) (hK : va_K D vwCl (tyL cs) s) (hA : ∀ x, s.heap.size ≤ x → A x) (hQ : ∀ (H : Heap) (locs : List Loc) (pc : Nat) (ls : Array Slot), decode cX6_dare pc = .ok (.ireturn, 1) → narrow .int (.int r) = .int r → Wd D A s.heap (wMa cs a (aT 0) (aS 0) (aD 0) (aG 0) (aR 0) (aE 0) μ ++ (wSc cs aS (aT 0) ς ++ (wTe cs aT τ ++ (wRo cs aE ε ++ (wGa cs aG (aD 0) (aR 0) γ Γ ++ (wDa cs aD dr δ ++ (wRo cs aR ρ))))))) H locs → W p l e { frames := 2, cells := 0, slots := 0, locals := 44 } s m args below meth c H locs 0 0 Q (F0 m pc ls [.int r])) {k_40 : Int32 → Int32 → Int32 → Int32 → Int32 → Int32 → Option (Int32)} (hk_40 : ∀ (v1 : Int32) (v2 : Int32) (v3 : Int32) (v4 : Int32) (v5 : Int32) (v6 : Int32) (H : Heap) (locs : List Loc) (ls : Array Slot), k_40 v1 v2 v3 v4 v5 v6 = some r → Wd D A s.heap (wMa cs a (aT 0) (aS 0) (aD 0) (aG 0) (aR 0) (aE 0) μ ++ (wSc cs aS (aT 0) ς ++ (wTe cs aT τ ++ (wRo cs aE ε ++ (wGa cs aG (aD 0) (aR 0) γ Γ ++ (wDa cs aD dr δ ++ (wRo cs aR ρ))))))) H locs → lv_has ls 8 [(0, .ref (a 0)), (1, .int v1), (2, .int v2), (3, .int v3), (4, .int v4), (5, .int v5), (6, .int v6)] → W p l e { frames := 2, cells := 0, slots := 0, locals := 44 } s m args below meth c H locs 0 0 Q (F0 m 40 ls [])) : ∀ (v1 : Int32) (v2 : Int32) (v3 : Int32) (v4 : Int32) (v5 : Int32) (v6 : Int32) (H : Heap) (locs : List Loc) (ls : Array Slot), fMa_dare_103 k_40 N ρ v1 v2 v3 v4 v5 v6 = some r → Wd D A s.heap (wMa cs a (aT 0) (aS 0) (aD 0) (aG 0) (aR 0) (aE 0) μ ++ (wSc cs aS (aT 0) ς ++ (wTe cs aT τ ++ (wRo cs aE ε ++ (wGa cs aG (aD 0) (aR 0) γ Γ ++ (wDa cs aD dr δ ++ (wRo cs aR ρ))))))) H locs → lv_has ls 8 [(0, .ref (a 0)), (1, .int v1), (2, .int v2), (3, .int v3), (4, .int v4), (5, .int v5), (6, .int v6)] → W p l e { frames := 2, cells := 0, slots := 0, locals := 44 } s m args below meth c H locs 0 0 Q (F0 m 103 ls []) := by
  intro v1 v2 v3 v4 v5 v6 H locs ls h hW hl
  unfold fMa_dare_103 at h
  obtain ⟨x6_1, ex6_1, h⟩ := nm_some h
  refine lv_iinc (v := x6_1) (lv' := [(6, .int x6_1), (0, .ref (a 0)), (1, .int v1), (2, .int v2), (3, .int v3), (4, .int v4), (5, .int v5)]) S.1 S.2.1 dX6_dare_103 hl (k := 6) rfl (by rw [ex6_1]; rfl) (by decide) rfl (fun ls hl => ?_)
  refine lv_goto (tgt := 40) S.1 S.2.1 dX6_dare_106 (by decide) ?_
  exact hk_40 v1 v2 v3 v4 v5 x6_1 _ _ _ h hW (lv_sub hl [1, 2, 3, 4, 5, 6, 0] rfl)
set_option maxHeartbeats 4000000 in
set_option maxRecDepth 100000 in
theorem wMa_dare_100 {p : Program} {l : Launch} {e : Env} {s : State} {m : MethodId} {args : Array Value} {below : List Frame} {meth : Method} {c : Code} {A : Nat → Prop} {Q : State → Prop} {D : va_G} {cs : Nat → ClassId} {a aS aT aE aG aD aR : Nat → Nat} {μ : St} {ς : St} {τ : St} {ε : St} {γ : St} {Γ : Nat → Int64} {δ : St} {ρ : St} {dr : Nat} {r : Int32} {N : Nat} (S : Fx p m c cX6_dare 8 s args RX6) (hK : va_K D vwCl (tyL cs) s) (hA : ∀ x, s.heap.size ≤ x → A x) (hQ : ∀ (H : Heap) (locs : List Loc) (pc : Nat) (ls : Array Slot), decode cX6_dare pc = .ok (.ireturn, 1) → narrow .int (.int r) = .int r → Wd D A s.heap (wMa cs a (aT 0) (aS 0) (aD 0) (aG 0) (aR 0) (aE 0) μ ++ (wSc cs aS (aT 0) ς ++ (wTe cs aT τ ++ (wRo cs aE ε ++ (wGa cs aG (aD 0) (aR 0) γ Γ ++ (wDa cs aD dr δ ++ (wRo cs aR ρ))))))) H locs → W p l e { frames := 2, cells := 0, slots := 0, locals := 44 } s m args below meth c H locs 0 0 Q (F0 m pc ls [.int r])) {k_40 : Int32 → Int32 → Int32 → Int32 → Int32 → Int32 → Option (Int32)} (hk_40 : ∀ (v1 : Int32) (v2 : Int32) (v3 : Int32) (v4 : Int32) (v5 : Int32) (v6 : Int32) (H : Heap) (locs : List Loc) (ls : Array Slot), k_40 v1 v2 v3 v4 v5 v6 = some r → Wd D A s.heap (wMa cs a (aT 0) (aS 0) (aD 0) (aG 0) (aR 0) (aE 0) μ ++ (wSc cs aS (aT 0) ς ++ (wTe cs aT τ ++ (wRo cs aE ε ++ (wGa cs aG (aD 0) (aR 0) γ Γ ++ (wDa cs aD dr δ ++ (wRo cs aR ρ))))))) H locs → lv_has ls 8 [(0, .ref (a 0)), (1, .int v1), (2, .int v2), (3, .int v3), (4, .int v4), (5, .int v5), (6, .int v6)] → W p l e { frames := 2, cells := 0, slots := 0, locals := 44 } s m args below meth c H locs 0 0 Q (F0 m 40 ls [])) : ∀ (v1 : Int32) (v2 : Int32) (v3 : Int32) (v4 : Int32) (v6 : Int32) (k0 : Int32) (k1 : Int32) (H : Heap) (locs : List Loc) (ls : Array Slot), fMa_dare_100 k_40 N ρ v1 v2 v3 v4 v6 k0 k1 = some r → Wd D A s.heap (wMa cs a (aT 0) (aS 0) (aD 0) (aG 0) (aR 0) (aE 0) μ ++ (wSc cs aS (aT 0) ς ++ (wTe cs aT τ ++ (wRo cs aE ε ++ (wGa cs aG (aD 0) (aR 0) γ Γ ++ (wDa cs aD dr δ ++ (wRo cs aR ρ))))))) H locs → lv_has ls 8 [(0, .ref (a 0)), (1, .int v1), (2, .int v2), (3, .int v3), (4, .int v4), (6, .int v6)] → W p l e { frames := 2, cells := 0, slots := 0, locals := 44 } s m args below meth c H locs 0 0 Q (F0 m 100 ls [.int k1, .int k0]) := by
  intro v1 v2 v3 v4 v6 k0 k1 H locs ls h hW hl
  unfold fMa_dare_100 at h
  refine lv_iadd S.1 S.2.1 dX6_dare_100 ?_
  refine lv_topi (fun x5_2 ex5_2 => ?_)
  have h := nm_to ex5_2 h
  refine lv_istore (lv' := [(5, .int x5_2), (0, .ref (a 0)), (1, .int v1), (2, .int v2), (3, .int v3), (4, .int v4), (6, .int v6)]) S.1 S.2.1 dX6_dare_101 hl (by decide) rfl (fun ls hl => ?_)
  exact wMa_dare_103 S hK hA hQ hk_40 v1 v2 v3 v4 x5_2 v6 _ _ _ h hW (lv_sub hl [1, 2, 3, 4, 5, 0, 6] rfl)
set_option maxHeartbeats 4000000 in
set_option maxRecDepth 100000 in
theorem wMa_dare_128 {p : Program} {l : Launch} {e : Env} {s : State} {m : MethodId} {args : Array Value} {below : List Frame} {meth : Method} {c : Code} {A : Nat → Prop} {Q : State → Prop} {D : va_G} {cs : Nat → ClassId} {a aS aT aE aG aD aR : Nat → Nat} {μ : St} {ς : St} {τ : St} {ε : St} {γ : St} {Γ : Nat → Int64} {δ : St} {ρ : St} {dr : Nat} {r : Int32} {N : Nat} (S : Fx p m c cX6_dare 8 s args RX6) (hK : va_K D vwCl (tyL cs) s) (hA : ∀ x, s.heap.size ≤ x → A x) (hQ : ∀ (H : Heap) (locs : List Loc) (pc : Nat) (ls : Array Slot), decode cX6_dare pc = .ok (.ireturn, 1) → narrow .int (.int r) = .int r → Wd D A s.heap (wMa cs a (aT 0) (aS 0) (aD 0) (aG 0) (aR 0) (aE 0) μ ++ (wSc cs aS (aT 0) ς ++ (wTe cs aT τ ++ (wRo cs aE ε ++ (wGa cs aG (aD 0) (aR 0) γ Γ ++ (wDa cs aD dr δ ++ (wRo cs aR ρ))))))) H locs → W p l e { frames := 2, cells := 0, slots := 0, locals := 44 } s m args below meth c H locs 0 0 Q (F0 m pc ls [.int r])) : ∀ (k0 : Int32) (H : Heap) (locs : List Loc) (ls : Array Slot), fMa_dare_128 N ρ k0 = some r → Wd D A s.heap (wMa cs a (aT 0) (aS 0) (aD 0) (aG 0) (aR 0) (aE 0) μ ++ (wSc cs aS (aT 0) ς ++ (wTe cs aT τ ++ (wRo cs aE ε ++ (wGa cs aG (aD 0) (aR 0) γ Γ ++ (wDa cs aD dr δ ++ (wRo cs aR ρ))))))) H locs → lv_has ls 8 [] → W p l e { frames := 2, cells := 0, slots := 0, locals := 44 } s m args below meth c H locs 0 0 Q (F0 m 128 ls [.int k0]) := by
  intro k0 H locs ls h hW hl
  unfold fMa_dare_128 at h
  obtain rfl := pr1 h
  exact hQ _ _ _ _ dX6_dare_128 rfl hW
set_option maxHeartbeats 4000000 in
set_option maxRecDepth 100000 in
theorem wMa_dare_40 {p : Program} {l : Launch} {e : Env} {s : State} {m : MethodId} {args : Array Value} {below : List Frame} {meth : Method} {c : Code} {A : Nat → Prop} {Q : State → Prop} {D : va_G} {cs : Nat → ClassId} {a aS aT aE aG aD aR : Nat → Nat} {μ : St} {ς : St} {τ : St} {ε : St} {γ : St} {Γ : Nat → Int64} {δ : St} {ρ : St} {dr : Nat} {r : Int32} {N : Nat} (S : Fx p m c cX6_dare 8 s args RX6) (hK : va_K D vwCl (tyL cs) s) (hA : ∀ x, s.heap.size ≤ x → A x) (hQ : ∀ (H : Heap) (locs : List Loc) (pc : Nat) (ls : Array Slot), decode cX6_dare pc = .ok (.ireturn, 1) → narrow .int (.int r) = .int r → Wd D A s.heap (wMa cs a (aT 0) (aS 0) (aD 0) (aG 0) (aR 0) (aE 0) μ ++ (wSc cs aS (aT 0) ς ++ (wTe cs aT τ ++ (wRo cs aE ε ++ (wGa cs aG (aD 0) (aR 0) γ Γ ++ (wDa cs aD dr δ ++ (wRo cs aR ρ))))))) H locs → W p l e { frames := 2, cells := 0, slots := 0, locals := 44 } s m args below meth c H locs 0 0 Q (F0 m pc ls [.int r])) : ∀ (n_40 : Nat) (v1 : Int32) (v2 : Int32) (v3 : Int32) (v4 : Int32) (v5 : Int32) (v6 : Int32) (H : Heap) (locs : List Loc) (ls : Array Slot), fMa_dare_40 N ρ n_40 v1 v2 v3 v4 v5 v6 = some r → Wd D A s.heap (wMa cs a (aT 0) (aS 0) (aD 0) (aG 0) (aR 0) (aE 0) μ ++ (wSc cs aS (aT 0) ς ++ (wTe cs aT τ ++ (wRo cs aE ε ++ (wGa cs aG (aD 0) (aR 0) γ Γ ++ (wDa cs aD dr δ ++ (wRo cs aR ρ))))))) H locs → lv_has ls 8 [(0, .ref (a 0)), (1, .int v1), (2, .int v2), (3, .int v3), (4, .int v4), (5, .int v5), (6, .int v6)] → W p l e { frames := 2, cells := 0, slots := 0, locals := 44 } s m args below meth c H locs 0 0 Q (F0 m 40 ls []) := by
  intro n_40
  induction n_40 with
  | zero =>
    intro v1 v2 v3 v4 v5 v6 H locs ls h
    cases h
  | succ n_40 ih =>
    intro v1 v2 v3 v4 v5 v6 H locs ls h hW hl
    unfold fMa_dare_40 at h
    refine lv_iload S.1 S.2.1 dX6_dare_40 (lv_at hl 6 rfl) ?_
    refine lv_aload_n S.1 S.2.1 dX6_dare_42 rfl (lv_at hl 0 rfl) ?_
    refine gMa_laid S hK hW dX6_dare_43 ?_
    obtain ⟨r_3, hc_4, h⟩ := cl1_some h
    have hW := kw (w' := (wMa cs a (aT 0) (aS 0) (aD 0) (aG 0) (aR 0) (aE 0) μ ++ (wSc cs aS (aT 0) ς ++ (wTe cs aT τ ++ (wRo cs aE ε ++ (wGa cs aG (aD 0) (aR 0) γ Γ ++ (wDa cs aD dr δ)))))) ++ ((wRo cs aR ρ) ++ [])) (by simp only [List.append_assoc, List.nil_append, List.append_nil]) hW
    refine kV_i (As := []) (rest := [.int v6]) S hK hA (z := none) trivial (wMa cs a (aT 0) (aS 0) (aD 0) (aG 0) (aR 0) (aE 0) μ ++ (wSc cs aS (aT 0) ς ++ (wTe cs aT τ ++ (wRo cs aE ε ++ (wGa cs aG (aD 0) (aR 0) γ Γ ++ (wDa cs aD dr δ)))))) [] hW (cRo_readerCount l D cs aR ρ N hc_4) (ci := 2) rfl rfl lk_X6_109 q358 q359 ⟨Nat.le_of_ble_eq_true rfl, Nat.le_of_ble_eq_true rfl⟩ rfl (Nat.le_of_ble_eq_true rfl) hl.1 dX6_dare_46 ⟨Nat.zero_le _, Nat.zero_le _⟩ (fun H locs hW => ?_)
    have hW : Wd D A s.heap (wMa cs a (aT 0) (aS 0) (aD 0) (aG 0) (aR 0) (aE 0) μ ++ (wSc cs aS (aT 0) ς ++ (wTe cs aT τ ++ (wRo cs aE ε ++ (wGa cs aG (aD 0) (aR 0) γ Γ ++ (wDa cs aD dr δ ++ (wRo cs aR ρ))))))) H locs := kw (by simp only [List.append_assoc, List.nil_append, List.append_nil]) hW
    refine lv_icmp_ge (tgt := 109) S.1 S.2.1 dX6_dare_49 (by decide) (fun c_5 => ?_) (fun c_5 => ?_)
    · have h := ite_t c_5 h
      refine lv_iload S.1 S.2.1 dX6_dare_109 (lv_at hl 4 rfl) ?_
      refine lv_if_ne (tgt := 117) S.1 S.2.1 dX6_dare_111 (by decide) (fun c_6 => ?_) (fun c_6 => ?_)
      · have h := ite_f c_6 h
        refine lv_iload_n S.1 S.2.1 dX6_dare_117 rfl (lv_at hl 3 rfl) ?_
        refine lv_if_ne (tgt := 126) S.1 S.2.1 dX6_dare_118 (by decide) (fun c_7 => ?_) (fun c_7 => ?_)
        · have h := ite_f c_7 h
          refine lv_iload S.1 S.2.1 dX6_dare_126 (lv_at hl 4 rfl) ?_
          exact wMa_dare_128 S hK hA hQ v4 _ _ _ h hW (lv_sub hl [] rfl)
        · have h := ite_t c_7 h
          refine lv_iload S.1 S.2.1 dX6_dare_121 (lv_at hl 5 rfl) ?_
          refine lv_goto (tgt := 128) S.1 S.2.1 dX6_dare_123 (by decide) ?_
          exact wMa_dare_128 S hK hA hQ v5 _ _ _ h hW (lv_sub hl [] rfl)
      · have h := ite_t c_6 h
        refine lv_bipush (v := -4) S.1 S.2.1 dX6_dare_114 (by decide) ?_
        obtain rfl := pr1 h
        exact hQ _ _ _ _ dX6_dare_116 rfl hW
    · have h := ite_f c_5 h
      refine lv_aload_n S.1 S.2.1 dX6_dare_52 rfl (lv_at hl 0 rfl) ?_
      refine gMa_laid S hK hW dX6_dare_53 ?_
      refine lv_iload S.1 S.2.1 dX6_dare_56 (lv_at hl 6 rfl) ?_
      refine lv_iconst (v := 3) S.1 S.2.1 dX6_dare_58 (by decide) ?_
      obtain ⟨r_8, hc_9, h⟩ := cl1_some h
      have hW := kw (w' := (wMa cs a (aT 0) (aS 0) (aD 0) (aG 0) (aR 0) (aE 0) μ ++ (wSc cs aS (aT 0) ς ++ (wTe cs aT τ ++ (wRo cs aE ε ++ (wGa cs aG (aD 0) (aR 0) γ Γ ++ (wDa cs aD dr δ)))))) ++ ((wRo cs aR ρ) ++ [])) (by simp only [List.append_assoc, List.nil_append, List.append_nil]) hW
      refine kV_i (As := [.int v6, .int (3 : Int32)]) (rest := []) S hK hA (z := none) trivial (wMa cs a (aT 0) (aS 0) (aD 0) (aG 0) (aR 0) (aE 0) μ ++ (wSc cs aS (aT 0) ς ++ (wTe cs aT τ ++ (wRo cs aE ε ++ (wGa cs aG (aD 0) (aR 0) γ Γ ++ (wDa cs aD dr δ)))))) [] hW (cRo_number l D cs aR ρ v6 (3 : Int32) N hc_9) (ci := 2) rfl rfl lk_X6_118 q374 q375 ⟨Nat.le_of_ble_eq_true rfl, Nat.le_of_ble_eq_true rfl⟩ rfl (Nat.le_of_ble_eq_true rfl) hl.1 dX6_dare_59 ⟨Nat.zero_le _, Nat.zero_le _⟩ (fun H locs hW => ?_)
      have hW : Wd D A s.heap (wMa cs a (aT 0) (aS 0) (aD 0) (aG 0) (aR 0) (aE 0) μ ++ (wSc cs aS (aT 0) ς ++ (wTe cs aT τ ++ (wRo cs aE ε ++ (wGa cs aG (aD 0) (aR 0) γ Γ ++ (wDa cs aD dr δ ++ (wRo cs aR ρ))))))) H locs := kw (by simp only [List.append_assoc, List.nil_append, List.append_nil]) hW
      refine lv_istore (lv' := [(7, .int r_8), (0, .ref (a 0)), (1, .int v1), (2, .int v2), (3, .int v3), (4, .int v4), (5, .int v5), (6, .int v6)]) S.1 S.2.1 dX6_dare_62 hl (by decide) rfl (fun ls hl => ?_)
      refine lv_aload_n S.1 S.2.1 dX6_dare_64 rfl (lv_at hl 1 rfl) ?_
      refine gMa_laid S hK hW dX6_dare_65 ?_
      refine lv_iload S.1 S.2.1 dX6_dare_68 (lv_at hl 7 rfl) ?_
      obtain ⟨r_10, hc_11, h⟩ := cl1_some h
      have hW := kw (w' := (wMa cs a (aT 0) (aS 0) (aD 0) (aG 0) (aR 0) (aE 0) μ ++ (wSc cs aS (aT 0) ς ++ (wTe cs aT τ ++ (wRo cs aE ε ++ (wGa cs aG (aD 0) (aR 0) γ Γ ++ (wDa cs aD dr δ)))))) ++ ((wRo cs aR ρ) ++ [])) (by simp only [List.append_assoc, List.nil_append, List.append_nil]) hW
      refine kV_i (As := [.int v6]) (rest := []) S hK hA (z := none) trivial (wMa cs a (aT 0) (aS 0) (aD 0) (aG 0) (aR 0) (aE 0) μ ++ (wSc cs aS (aT 0) ς ++ (wTe cs aT τ ++ (wRo cs aE ε ++ (wGa cs aG (aD 0) (aR 0) γ Γ ++ (wDa cs aD dr δ)))))) [] hW (cRo_goesOff l D cs aR ρ v6 N hc_11) (ci := 2) rfl rfl lk_X6_217 q556 q557 ⟨Nat.le_of_ble_eq_true rfl, Nat.le_of_ble_eq_true rfl⟩ rfl (Nat.le_of_ble_eq_true rfl) hl.1 dX6_dare_70 ⟨Nat.zero_le _, Nat.zero_le _⟩ (fun H locs hW => ?_)
      have hW : Wd D A s.heap (wMa cs a (aT 0) (aS 0) (aD 0) (aG 0) (aR 0) (aE 0) μ ++ (wSc cs aS (aT 0) ς ++ (wTe cs aT τ ++ (wRo cs aE ε ++ (wGa cs aG (aD 0) (aR 0) γ Γ ++ (wDa cs aD dr δ ++ (wRo cs aR ρ))))))) H locs := kw (by simp only [List.append_assoc, List.nil_append, List.append_nil]) hW
      refine lv_if_eq (tgt := 103) S.1 S.2.1 dX6_dare_73 (by decide) (fun c_12 => ?_) (fun c_12 => ?_)
      · have h := ite_t c_12 h
        exact wMa_dare_103 S hK hA hQ ih v1 v2 v3 v4 v5 v6 _ _ _ h hW (lv_sub hl [1, 2, 3, 4, 5, 6, 7] rfl)
      · have h := ite_f c_12 h
        refine lv_iload S.1 S.2.1 dX6_dare_76 (lv_at hl 0 rfl) ?_
        refine lv_iload_n S.1 S.2.1 dX6_dare_78 rfl (lv_at hl 2 rfl) ?_
        refine lv_icmp_le (tgt := 103) S.1 S.2.1 dX6_dare_79 (by decide) (fun c_13 => ?_) (fun c_13 => ?_)
        · have h := ite_t c_13 h
          exact wMa_dare_103 S hK hA hQ ih v1 v2 v3 v4 v5 v6 _ _ _ h hW (lv_sub hl [1, 2, 3, 4, 5, 6, 7] rfl)
        · have h := ite_f c_13 h
          obtain ⟨x4_14, ex4_14, h⟩ := nm_some h
          refine lv_iinc (v := x4_14) (lv' := [(4, .int x4_14), (7, .int r_8), (0, .ref (a 0)), (1, .int v1), (2, .int v2), (3, .int v3), (5, .int v5), (6, .int v6)]) S.1 S.2.1 dX6_dare_82 hl (k := 5) rfl (by rw [ex4_14]; rfl) (by decide) rfl (fun ls hl => ?_)
          refine lv_iload S.1 S.2.1 dX6_dare_85 (lv_at hl 6 rfl) ?_
          refine lv_iload S.1 S.2.1 dX6_dare_87 (lv_at hl 1 rfl) ?_
          refine lv_iload_n S.1 S.2.1 dX6_dare_89 rfl (lv_at hl 3 rfl) ?_
          refine lv_iload_n S.1 S.2.1 dX6_dare_90 rfl (lv_at hl 4 rfl) ?_
          refine lv_iadd S.1 S.2.1 dX6_dare_91 ?_
          refine lv_icmp_gt (tgt := 99) S.1 S.2.1 dX6_dare_92 (by decide) (fun c_15 => ?_) (fun c_15 => ?_)
          · have h := ite_t c_15 h
            refine lv_iconst (v := 0) S.1 S.2.1 dX6_dare_99 (by decide) ?_
            exact wMa_dare_100 S hK hA hQ ih v1 v2 v3 x4_14 v6 v5 (0 : Int32) _ _ _ h hW (lv_sub hl [2, 3, 4, 5, 0, 7] rfl)
          · have h := ite_f c_15 h
            refine lv_iconst (v := 1) S.1 S.2.1 dX6_dare_95 (by decide) ?_
            refine lv_goto (tgt := 100) S.1 S.2.1 dX6_dare_96 (by decide) ?_
            exact wMa_dare_100 S hK hA hQ ih v1 v2 v3 x4_14 v6 v5 (1 : Int32) _ _ _ h hW (lv_sub hl [2, 3, 4, 5, 0, 7] rfl)
set_option maxHeartbeats 4000000 in
set_option maxRecDepth 100000 in
theorem cMa_dare (l : Launch) (D : va_G) (cs : Nat → ClassId) (a aS aT aE aG aD aR : Nat → Nat) (μ : St) (ς : St) (τ : St) (ε : St) (γ : St) (Γ : Nat → Int64) (δ : St) (ρ : St) (dr : Nat) (p0 : Int32) (p1 : Int32) (p2 : Int32) (N : Nat) {r : Int32} (h : fMa_dare N p0 p1 p2 ρ = some r) : Ki l D cs none yX6_dare cX6_dare 8 (some .int) 2 44 (wMa cs a (aT 0) (aS 0) (aD 0) (aG 0) (aR 0) (aE 0) μ ++ (wSc cs aS (aT 0) ς ++ (wTe cs aT τ ++ (wRo cs aE ε ++ (wGa cs aG (aD 0) (aR 0) γ Γ ++ (wDa cs aD dr δ ++ (wRo cs aR ρ))))))) [.ref (a 0), .int p0, .int p1, .int p2] r (wMa cs a (aT 0) (aS 0) (aD 0) (aG 0) (aR 0) (aE 0) μ ++ (wSc cs aS (aT 0) ς ++ (wTe cs aT τ ++ (wRo cs aE ε ++ (wGa cs aG (aD 0) (aR 0) γ Γ ++ (wDa cs aD dr δ ++ (wRo cs aR ρ))))))) := by
  refine Ki_of (by decide +kernel) (Nat.le_of_ble_eq_true rfl) (fun p e s m below meth c A S hK hA hZ Q hQ ls hl hW => ?_)
  have hl : lv_has ls 8 [(0, .ref (a 0)), (1, .int p0), (2, .int p1), (3, .int p2)] := hl
  unfold fMa_dare at h
  refine lv_iload_n S.1 S.2.1 dX6_dare_0 rfl (lv_at hl 1 rfl) ?_
  refine lv_iconst (v := 0) S.1 S.2.1 dX6_dare_1 (by decide) ?_
  refine lv_bipush (v := 98) S.1 S.2.1 dX6_dare_2 (by decide) ?_
  obtain ⟨r_16, hc_17, h⟩ := cl1_some h
  refine kS_i (As := [.int p0, .int (0 : Int32), .int (98 : Int32)]) (rest := []) S hK hA (z := none) trivial [] (wMa cs a (aT 0) (aS 0) (aD 0) (aG 0) (aR 0) (aE 0) μ ++ (wSc cs aS (aT 0) ς ++ (wTe cs aT τ ++ (wRo cs aE ε ++ (wGa cs aG (aD 0) (aR 0) γ Γ ++ (wDa cs aD dr δ ++ (wRo cs aR ρ))))))) hW (cMa_within l D cs p0 (0 : Int32) (98 : Int32) N hc_17) lk_X6_88 q278 ⟨Nat.le_of_ble_eq_true rfl, Nat.le_of_ble_eq_true rfl⟩ rfl (Nat.le_of_ble_eq_true rfl) hl.1 dX6_dare_4 ⟨Nat.zero_le _, Nat.zero_le _⟩ (fun H locs hW => ?_)
  have hW : Wd D A s.heap (wMa cs a (aT 0) (aS 0) (aD 0) (aG 0) (aR 0) (aE 0) μ ++ (wSc cs aS (aT 0) ς ++ (wTe cs aT τ ++ (wRo cs aE ε ++ (wGa cs aG (aD 0) (aR 0) γ Γ ++ (wDa cs aD dr δ ++ (wRo cs aR ρ))))))) H locs := hW
  refine lv_if_eq (tgt := 29) S.1 S.2.1 dX6_dare_7 (by decide) (fun c_18 => ?_) (fun c_18 => ?_)
  · have h := ite_t c_18 h
    exact wMa_dare_29 S hK hA hQ _ _ _ h hW (lv_sub hl [] rfl)
  · have h := ite_f c_18 h
    refine lv_iload_n S.1 S.2.1 dX6_dare_10 rfl (lv_at hl 2 rfl) ?_
    refine lv_iconst (v := 1) S.1 S.2.1 dX6_dare_11 (by decide) ?_
    refine lv_bipush (v := 99) S.1 S.2.1 dX6_dare_12 (by decide) ?_
    obtain ⟨r_19, hc_20, h⟩ := cl1_some h
    refine kS_i (As := [.int p1, .int (1 : Int32), .int (99 : Int32)]) (rest := []) S hK hA (z := none) trivial [] (wMa cs a (aT 0) (aS 0) (aD 0) (aG 0) (aR 0) (aE 0) μ ++ (wSc cs aS (aT 0) ς ++ (wTe cs aT τ ++ (wRo cs aE ε ++ (wGa cs aG (aD 0) (aR 0) γ Γ ++ (wDa cs aD dr δ ++ (wRo cs aR ρ))))))) hW (cMa_within l D cs p1 (1 : Int32) (99 : Int32) N hc_20) lk_X6_88 q278 ⟨Nat.le_of_ble_eq_true rfl, Nat.le_of_ble_eq_true rfl⟩ rfl (Nat.le_of_ble_eq_true rfl) hl.1 dX6_dare_14 ⟨Nat.zero_le _, Nat.zero_le _⟩ (fun H locs hW => ?_)
    have hW : Wd D A s.heap (wMa cs a (aT 0) (aS 0) (aD 0) (aG 0) (aR 0) (aE 0) μ ++ (wSc cs aS (aT 0) ς ++ (wTe cs aT τ ++ (wRo cs aE ε ++ (wGa cs aG (aD 0) (aR 0) γ Γ ++ (wDa cs aD dr δ ++ (wRo cs aR ρ))))))) H locs := hW
    refine lv_if_eq (tgt := 29) S.1 S.2.1 dX6_dare_17 (by decide) (fun c_21 => ?_) (fun c_21 => ?_)
    · have h := ite_t c_21 h
      exact wMa_dare_29 S hK hA hQ _ _ _ h hW (lv_sub hl [] rfl)
    · have h := ite_f c_21 h
      refine lv_iload_n S.1 S.2.1 dX6_dare_20 rfl (lv_at hl 3 rfl) ?_
      refine lv_iconst (v := 0) S.1 S.2.1 dX6_dare_21 (by decide) ?_
      refine lv_iconst (v := 1) S.1 S.2.1 dX6_dare_22 (by decide) ?_
      obtain ⟨r_22, hc_23, h⟩ := cl1_some h
      refine kS_i (As := [.int p2, .int (0 : Int32), .int (1 : Int32)]) (rest := []) S hK hA (z := none) trivial [] (wMa cs a (aT 0) (aS 0) (aD 0) (aG 0) (aR 0) (aE 0) μ ++ (wSc cs aS (aT 0) ς ++ (wTe cs aT τ ++ (wRo cs aE ε ++ (wGa cs aG (aD 0) (aR 0) γ Γ ++ (wDa cs aD dr δ ++ (wRo cs aR ρ))))))) hW (cMa_within l D cs p2 (0 : Int32) (1 : Int32) N hc_23) lk_X6_88 q278 ⟨Nat.le_of_ble_eq_true rfl, Nat.le_of_ble_eq_true rfl⟩ rfl (Nat.le_of_ble_eq_true rfl) hl.1 dX6_dare_23 ⟨Nat.zero_le _, Nat.zero_le _⟩ (fun H locs hW => ?_)
      have hW : Wd D A s.heap (wMa cs a (aT 0) (aS 0) (aD 0) (aG 0) (aR 0) (aE 0) μ ++ (wSc cs aS (aT 0) ς ++ (wTe cs aT τ ++ (wRo cs aE ε ++ (wGa cs aG (aD 0) (aR 0) γ Γ ++ (wDa cs aD dr δ ++ (wRo cs aR ρ))))))) H locs := hW
      refine lv_if_ne (tgt := 31) S.1 S.2.1 dX6_dare_26 (by decide) (fun c_24 => ?_) (fun c_24 => ?_)
      · have h := ite_f c_24 h
        refine lv_iconst (v := 0) S.1 S.2.1 dX6_dare_31 (by decide) ?_
        refine lv_istore (lv' := [(4, .int (0 : Int32)), (0, .ref (a 0)), (1, .int p0), (2, .int p1), (3, .int p2)]) S.1 S.2.1 dX6_dare_32 hl (by decide) rfl (fun ls hl => ?_)
        refine lv_iconst (v := 0) S.1 S.2.1 dX6_dare_34 (by decide) ?_
        refine lv_istore (lv' := [(5, .int (0 : Int32)), (4, .int (0 : Int32)), (0, .ref (a 0)), (1, .int p0), (2, .int p1), (3, .int p2)]) S.1 S.2.1 dX6_dare_35 hl (by decide) rfl (fun ls hl => ?_)
        refine lv_iconst (v := 0) S.1 S.2.1 dX6_dare_37 (by decide) ?_
        refine lv_istore (lv' := [(6, .int (0 : Int32)), (5, .int (0 : Int32)), (4, .int (0 : Int32)), (0, .ref (a 0)), (1, .int p0), (2, .int p1), (3, .int p2)]) S.1 S.2.1 dX6_dare_38 hl (by decide) rfl (fun ls hl => ?_)
        exact wMa_dare_40 S hK hA hQ N p0 p1 p2 (0 : Int32) (0 : Int32) (0 : Int32) _ _ _ h hW (lv_sub hl [3, 4, 5, 6, 2, 1, 0] rfl)
      · have h := ite_t c_24 h
        exact wMa_dare_29 S hK hA hQ _ _ _ h hW (lv_sub hl [] rfl)
