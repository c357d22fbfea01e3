set_option maxHeartbeats 4000000 in
set_option maxRecDepth 100000 in
theorem cMa_shutOutByDraw (l : Launch) (D : va_G) (cs : Nat → ClassId) (a aS aT aE aG aD aR : Nat → Nat) (μ : St) (ς : St) (τ : St) (ε : St) (γ : St) (Γ : Nat → Int64) (δ : St) (ρ : St) (dr : Nat) (p0 : Int32) (p1 : Int32) (N : Nat) {r : Int32} {δ' : St} (h : fMa_shutOutByDraw N p0 p1 μ ρ δ = some (r, δ')) : Ki l D cs none yX6_shutOutByDraw cX6_shutOutByDraw 3 (some .int) 4 94 (wMa cs a (aT 0) (aS 0) (aD 0) (aG 0) (aR 0) (aE 0) μ ++ (wSc cs aS (aT 0) ς ++ (wTe cs aT τ ++ (wRo cs aE ε ++ (wGa cs aG (aD 0) (aR 0) γ Γ ++ (wDa cs aD dr δ ++ (wRo cs aR ρ))))))) [.ref (a 0), .int p0, .int p1] r (wMa cs a (aT 0) (aS 0) (aD 0) (aG 0) (aR 0) (aE 0) μ ++ (wSc cs aS (aT 0) ς ++ (wTe cs aT τ ++ (wRo cs aE ε ++ (wGa cs aG (aD 0) (aR 0) γ Γ ++ (wDa cs aD (aR 0) δ' ++ (wRo cs aR ρ))))))) := by
  refine Ki_of (by decide +kernel) (Nat.le_of_ble_eq_true rfl) (fun p e s m below meth c A S hK hA hZ Q hQ ls hl hW => ?_)
  have hl : lv_has ls 3 [(0, .ref (a 0)), (1, .int p0), (2, .int p1)] := hl
  unfold fMa_shutOutByDraw at h
  refine lv_aload_n S.1 S.2.1 dX6_shutOutByDraw_0 rfl (lv_at hl 0 rfl) ?_
  refine gMa_today S hK hW dX6_shutOutByDraw_1 ?_
  refine lv_aload_n S.1 S.2.1 dX6_shutOutByDraw_4 rfl (lv_at hl 0 rfl) ?_
  refine gMa_laid S hK hW dX6_shutOutByDraw_5 ?_
  refine lv_iload_n S.1 S.2.1 dX6_shutOutByDraw_8 rfl (lv_at hl 2 rfl) ?_
  refine lv_aload_n S.1 S.2.1 dX6_shutOutByDraw_9 rfl (lv_at hl 0 rfl) ?_
  refine gMa_holders S hK hW dX6_shutOutByDraw_10 ?_
  obtain ⟨δ_1, hc_2, h⟩ := cl1_some h
  have hW := kw (w' := (wMa cs a (aT 0) (aS 0) (aD 0) (aG 0) (aR 0) (aE 0) μ ++ (wSc cs aS (aT 0) ς ++ (wTe cs aT τ ++ (wRo cs aE ε ++ (wGa cs aG (aD 0) (aR 0) γ Γ))))) ++ ((wDa cs aD dr δ ++ (wRo cs aR ρ)) ++ [])) (by simp only [List.append_assoc, List.nil_append, List.append_nil]) hW
  refine kV_v (As := [.ref (aR 0), .int p1, .int (μ 0 9)]) (rest := []) S hK hA (z := none) trivial (wMa cs a (aT 0) (aS 0) (aD 0) (aG 0) (aR 0) (aE 0) μ ++ (wSc cs aS (aT 0) ς ++ (wTe cs aT τ ++ (wRo cs aE ε ++ (wGa cs aG (aD 0) (aR 0) γ Γ))))) [] hW (cDa_open l D cs aD aR δ ρ dr p1 (μ 0 9) N hc_2) (ci := 0) rfl rfl lk_X6_132 q401 q402 ⟨Nat.le_of_ble_eq_true rfl, Nat.le_of_ble_eq_true rfl⟩ rfl (Nat.le_of_ble_eq_true rfl) hl.1 dX6_shutOutByDraw_13 ⟨Nat.zero_le _, Nat.zero_le _⟩ (fun H locs hW => ?_)
  have hW : Wd D A s.heap (wMa cs a (aT 0) (aS 0) (aD 0) (aG 0) (aR 0) (aE 0) μ ++ (wSc cs aS (aT 0) ς ++ (wTe cs aT τ ++ (wRo cs aE ε ++ (wGa cs aG (aD 0) (aR 0) γ Γ ++ (wDa cs aD (aR 0) δ_1 ++ (wRo cs aR ρ))))))) H locs := kw (by simp only [List.append_assoc, List.nil_append, List.append_nil]) hW
  refine lv_aload_n S.1 S.2.1 dX6_shutOutByDraw_16 rfl (lv_at hl 0 rfl) ?_
  refine gMa_today S hK hW dX6_shutOutByDraw_17 ?_
  refine lv_iload_n S.1 S.2.1 dX6_shutOutByDraw_20 rfl (lv_at hl 1 rfl) ?_
  obtain ⟨δ_3, hc_4, h⟩ := cl1_some h
  have hW := kw (w' := (wMa cs a (aT 0) (aS 0) (aD 0) (aG 0) (aR 0) (aE 0) μ ++ (wSc cs aS (aT 0) ς ++ (wTe cs aT τ ++ (wRo cs aE ε ++ (wGa cs aG (aD 0) (aR 0) γ Γ))))) ++ ((wDa cs aD (aR 0) δ_1 ++ (wRo cs aR ρ)) ++ [])) (by simp only [List.append_assoc, List.nil_append, List.append_nil]) hW
  refine kV_v (As := [.int p0]) (rest := []) S hK hA (z := none) trivial (wMa cs a (aT 0) (aS 0) (aD 0) (aG 0) (aR 0) (aE 0) μ ++ (wSc cs aS (aT 0) ς ++ (wTe cs aT τ ++ (wRo cs aE ε ++ (wGa cs aG (aD 0) (aR 0) γ Γ))))) [] hW (cDa_comeLater l D cs aD aR δ_1 ρ p0 N hc_4) (ci := 0) rfl rfl lk_X6_227 q639 q640 ⟨Nat.le_of_ble_eq_true rfl, Nat.le_of_ble_eq_true rfl⟩ rfl (Nat.le_of_ble_eq_true rfl) hl.1 dX6_shutOutByDraw_21 ⟨Nat.zero_le _, Nat.zero_le _⟩ (fun H locs hW => ?_)
  have hW : Wd D A s.heap (wMa cs a (aT 0) (aS 0) (aD 0) (aG 0) (aR 0) (aE 0) μ ++ (wSc cs aS (aT 0) ς ++ (wTe cs aT τ ++ (wRo cs aE ε ++ (wGa cs aG (aD 0) (aR 0) γ Γ ++ (wDa cs aD (aR 0) δ_3 ++ (wRo cs aR ρ))))))) H locs := kw (by simp only [List.append_assoc, List.nil_append, List.append_nil]) hW
  refine lv_aload_n S.1 S.2.1 dX6_shutOutByDraw_24 rfl (lv_at hl 0 rfl) ?_
  refine gMa_today S hK hW dX6_shutOutByDraw_25 ?_
  refine lv_sipush (v := 399) S.1 S.2.1 dX6_shutOutByDraw_28 (by decide) ?_
  obtain ⟨δ_5, hc_6, h⟩ := cl1_some h
  have hW := kw (w' := (wMa cs a (aT 0) (aS 0) (aD 0) (aG 0) (aR 0) (aE 0) μ ++ (wSc cs aS (aT 0) ς ++ (wTe cs aT τ ++ (wRo cs aE ε ++ (wGa cs aG (aD 0) (aR 0) γ Γ))))) ++ ((wDa cs aD (aR 0) δ_3 ++ (wRo cs aR ρ)) ++ [])) (by simp only [List.append_assoc, List.nil_append, List.append_nil]) hW
  refine kV_v (As := [.int (399 : Int32)]) (rest := []) S hK hA (z := none) trivial (wMa cs a (aT 0) (aS 0) (aD 0) (aG 0) (aR 0) (aE 0) μ ++ (wSc cs aS (aT 0) ς ++ (wTe cs aT τ ++ (wRo cs aE ε ++ (wGa cs aG (aD 0) (aR 0) γ Γ))))) [] hW (cDa_runTo l D cs aD aR δ_3 ρ (399 : Int32) N hc_6) (ci := 0) rfl rfl lk_X6_136 q426 q427 ⟨Nat.le_of_ble_eq_true rfl, Nat.le_of_ble_eq_true rfl⟩ rfl (Nat.le_of_ble_eq_true rfl) hl.1 dX6_shutOutByDraw_31 ⟨Nat.zero_le _, Nat.zero_le _⟩ (fun H locs hW => ?_)
  have hW : Wd D A s.heap (wMa cs a (aT 0) (aS 0) (aD 0) (aG 0) (aR 0) (aE 0) μ ++ (wSc cs aS (aT 0) ς ++ (wTe cs aT τ ++ (wRo cs aE ε ++ (wGa cs aG (aD 0) (aR 0) γ Γ ++ (wDa cs aD (aR 0) δ_5 ++ (wRo cs aR ρ))))))) H locs := kw (by simp only [List.append_assoc, List.nil_append, List.append_nil]) hW
  refine lv_aload_n S.1 S.2.1 dX6_shutOutByDraw_34 rfl (lv_at hl 0 rfl) ?_
  refine gMa_today S hK hW dX6_shutOutByDraw_35 ?_
  obtain ⟨r_7, hc_8, h⟩ := cl1_some h
  have hW := kw (w' := (wMa cs a (aT 0) (aS 0) (aD 0) (aG 0) (aR 0) (aE 0) μ ++ (wSc cs aS (aT 0) ς ++ (wTe cs aT τ ++ (wRo cs aE ε ++ (wGa cs aG (aD 0) (aR 0) γ Γ))))) ++ ((wDa cs aD (aR 0) δ_5 ++ (wRo cs aR ρ)) ++ [])) (by simp only [List.append_assoc, List.nil_append, List.append_nil]) hW
  refine kV_i (As := []) (rest := []) S hK hA (z := none) trivial (wMa cs a (aT 0) (aS 0) (aD 0) (aG 0) (aR 0) (aE 0) μ ++ (wSc cs aS (aT 0) ς ++ (wTe cs aT τ ++ (wRo cs aE ε ++ (wGa cs aG (aD 0) (aR 0) γ Γ))))) [] hW (cDa_shutOut l D cs aD aR δ_5 ρ N hc_8) (ci := 0) rfl rfl lk_X6_158 q518 q519 ⟨Nat.le_of_ble_eq_true rfl, Nat.le_of_ble_eq_true rfl⟩ rfl (Nat.le_of_ble_eq_true rfl) hl.1 dX6_shutOutByDraw_38 ⟨Nat.zero_le _, Nat.zero_le _⟩ (fun H locs hW => ?_)
  have hW : Wd D A s.heap (wMa cs a (aT 0) (aS 0) (aD 0) (aG 0) (aR 0) (aE 0) μ ++ (wSc cs aS (aT 0) ς ++ (wTe cs aT τ ++ (wRo cs aE ε ++ (wGa cs aG (aD 0) (aR 0) γ Γ ++ (wDa cs aD (aR 0) δ_5 ++ (wRo cs aR ρ))))))) H locs := kw (by simp only [List.append_assoc, List.nil_append, List.append_nil]) hW
  obtain ⟨r_9, hc_10, h⟩ := cl1_some h
  refine kS_i (As := [.int r_7]) (rest := []) S hK hA (z := none) trivial [] (wMa cs a (aT 0) (aS 0) (aD 0) (aG 0) (aR 0) (aE 0) μ ++ (wSc cs aS (aT 0) ς ++ (wTe cs aT τ ++ (wRo cs aE ε ++ (wGa cs aG (aD 0) (aR 0) γ Γ ++ (wDa cs aD (aR 0) δ_5 ++ (wRo cs aR ρ))))))) hW (cBc_bitCount_0f7a4 l D cs r_7 N hc_10) lk_X6_161 q463 ⟨Nat.le_of_ble_eq_true rfl, Nat.le_of_ble_eq_true rfl⟩ rfl (Nat.le_of_ble_eq_true rfl) hl.1 dX6_shutOutByDraw_41 ⟨Nat.zero_le _, Nat.zero_le _⟩ (fun H locs hW => ?_)
  have hW : Wd D A s.heap (wMa cs a (aT 0) (aS 0) (aD 0) (aG 0) (aR 0) (aE 0) μ ++ (wSc cs aS (aT 0) ς ++ (wTe cs aT τ ++ (wRo cs aE ε ++ (wGa cs aG (aD 0) (aR 0) γ Γ ++ (wDa cs aD (aR 0) δ_5 ++ (wRo cs aR ρ))))))) H locs := hW
  obtain ⟨rfl, rfl⟩ := pr2 h
  exact hQ _ _ _ _ dX6_shutOutByDraw_44 rfl hW
set_option maxHeartbeats 4000000 in
set_option maxRecDepth 100000 in
theorem wMa_drawn_18 {p : Program} {l : Launch} {e : Env} {s : State} {m : MethodId} {args : Array Value} {below : List Frame} {meth : Method} {c : Code} {A : Nat → Prop} {Q : State → Prop} {D : va_G} {cs : Nat → ClassId} {a aS aT aE aG aD aR : Nat → Nat} {μ : St} {ς : St} {τ : St} {ε : St} {γ : St} {Γ : Nat → Int64} {ρ : St} {r : Int32} {δ' : St} {dr' : Nat} {N : Nat} (S : Fx p m c cX6_drawn 3 s args RX6) (hK : va_K D vwCl (tyL cs) s) (hA : ∀ x, s.heap.size ≤ x → A x) (hQ : ∀ (H : Heap) (locs : List Loc) (pc : Nat) (ls : Array Slot), decode cX6_drawn pc = .ok (.ireturn, 1) → narrow .int (.int r) = .int r → Wd D A s.heap (wMa cs a (aT 0) (aS 0) (aD 0) (aG 0) (aR 0) (aE 0) μ ++ (wSc cs aS (aT 0) ς ++ (wTe cs aT τ ++ (wRo cs aE ε ++ (wGa cs aG (aD 0) (aR 0) γ Γ ++ (wDa cs aD dr' δ' ++ (wRo cs aR ρ))))))) H locs → W p l e { frames := 5, cells := 0, slots := 0, locals := 116 } s m args below meth c H locs 0 0 Q (F0 m pc ls [.int r])) : ∀ (δ : St) (dr : Nat) (H : Heap) (locs : List Loc) (ls : Array Slot), fMa_drawn_18 N μ ρ (aR 0) δ dr = some (r, δ', dr') → Wd D A s.heap (wMa cs a (aT 0) (aS 0) (aD 0) (aG 0) (aR 0) (aE 0) μ ++ (wSc cs aS (aT 0) ς ++ (wTe cs aT τ ++ (wRo cs aE ε ++ (wGa cs aG (aD 0) (aR 0) γ Γ ++ (wDa cs aD dr δ ++ (wRo cs aR ρ))))))) H locs → lv_has ls 3 [] → W p l e { frames := 5, cells := 0, slots := 0, locals := 116 } s m args below meth c H locs 0 0 Q (F0 m 18 ls []) := by
  intro δ dr H locs ls h hW hl
  unfold fMa_drawn_18 at h
  refine lv_iconst (v := -1) S.1 S.2.1 dX6_drawn_18 (by decide) ?_
  obtain ⟨rfl, rfl, rfl⟩ := pr3 h
  exact hQ _ _ _ _ dX6_drawn_19 rfl hW
set_option maxHeartbeats 4000000 in
set_option maxRecDepth 100000 in
theorem cMa_drawn (l : Launch) (D : va_G) (cs : Nat → ClassId) (a aS aT aE aG aD aR : Nat → Nat) (μ : St) (ς : St) (τ : St) (ε : St) (γ : St) (Γ : Nat → Int64) (δ : St) (ρ : St) (dr : Nat) (p0 : Int32) (p1 : Int32) (N : Nat) {r : Int32} {δ' : St} {dr' : Nat} (h : fMa_drawn N p0 p1 μ ρ (aR 0) δ dr = some (r, δ', dr')) : Ki l D cs none yX6_drawn cX6_drawn 3 (some .int) 5 116 (wMa cs a (aT 0) (aS 0) (aD 0) (aG 0) (aR 0) (aE 0) μ ++ (wSc cs aS (aT 0) ς ++ (wTe cs aT τ ++ (wRo cs aE ε ++ (wGa cs aG (aD 0) (aR 0) γ Γ ++ (wDa cs aD dr δ ++ (wRo cs aR ρ))))))) [.ref (a 0), .int p0, .int p1] r (wMa cs a (aT 0) (aS 0) (aD 0) (aG 0) (aR 0) (aE 0) μ ++ (wSc cs aS (aT 0) ς ++ (wTe cs aT τ ++ (wRo cs aE ε ++ (wGa cs aG (aD 0) (aR 0) γ Γ ++ (wDa cs aD dr' δ' ++ (wRo cs aR ρ))))))) := by
  refine Ki_of (by decide +kernel) (Nat.le_of_ble_eq_true rfl) (fun p e s m below meth c A S hK hA hZ Q hQ ls hl hW => ?_)
  have hl : lv_has ls 3 [(0, .ref (a 0)), (1, .int p0), (2, .int p1)] := hl
  unfold fMa_drawn at h
  refine lv_iload_n S.1 S.2.1 dX6_drawn_0 rfl (lv_at hl 1 rfl) ?_
  refine lv_iconst (v := 0) S.1 S.2.1 dX6_drawn_1 (by decide) ?_
  refine lv_sipush (v := 9999) S.1 S.2.1 dX6_drawn_2 (by decide) ?_
  obtain ⟨r_1, hc_2, h⟩ := cl1_some h
  refine kS_i (As := [.int p0, .int (0 : Int32), .int (9999 : Int32)]) (rest := []) S hK hA (z := none) trivial [] (wMa cs a (aT 0) (aS 0) (aD 0) (aG 0) (aR 0) (aE 0) μ ++ (wSc cs aS (aT 0) ς ++ (wTe cs aT τ ++ (wRo cs aE ε ++ (wGa cs aG (aD 0) (aR 0) γ Γ ++ (wDa cs aD dr δ ++ (wRo cs aR ρ))))))) hW (cMa_within l D cs p0 (0 : Int32) (9999 : Int32) N hc_2) lk_X6_88 q278 ⟨Nat.le_of_ble_eq_true rfl, Nat.le_of_ble_eq_true rfl⟩ rfl (Nat.le_of_ble_eq_true rfl) hl.1 dX6_drawn_5 ⟨Nat.zero_le _, Nat.zero_le _⟩ (fun H locs hW => ?_)
  have hW : Wd D A s.heap (wMa cs a (aT 0) (aS 0) (aD 0) (aG 0) (aR 0) (aE 0) μ ++ (wSc cs aS (aT 0) ς ++ (wTe cs aT τ ++ (wRo cs aE ε ++ (wGa cs aG (aD 0) (aR 0) γ Γ ++ (wDa cs aD dr δ ++ (wRo cs aR ρ))))))) H locs := hW
  refine lv_if_eq (tgt := 18) S.1 S.2.1 dX6_drawn_8 (by decide) (fun c_3 => ?_) (fun c_3 => ?_)
  · have h := ite_t c_3 h
    exact wMa_drawn_18 S hK hA hQ δ dr _ _ _ h hW (lv_sub hl [] rfl)
  · have h := ite_f c_3 h
    refine lv_iload_n S.1 S.2.1 dX6_drawn_11 rfl (lv_at hl 2 rfl) ?_
    obtain ⟨r_4, hc_5, h⟩ := cl1_some h
    refine kS_i (As := [.int p1]) (rest := []) S hK hA (z := none) trivial [] (wMa cs a (aT 0) (aS 0) (aD 0) (aG 0) (aR 0) (aE 0) μ ++ (wSc cs aS (aT 0) ς ++ (wTe cs aT τ ++ (wRo cs aE ε ++ (wGa cs aG (aD 0) (aR 0) γ Γ ++ (wDa cs aD dr δ ++ (wRo cs aR ρ))))))) hW (cMa_isRule l D cs p1 N hc_5) lk_X6_129 q398 ⟨Nat.le_of_ble_eq_true rfl, Nat.le_of_ble_eq_true rfl⟩ rfl (Nat.le_of_ble_eq_true rfl) hl.1 dX6_drawn_12 ⟨Nat.zero_le _, Nat.zero_le _⟩ (fun H locs hW => ?_)
    have hW : Wd D A s.heap (wMa cs a (aT 0) (aS 0) (aD 0) (aG 0) (aR 0) (aE 0) μ ++ (wSc cs aS (aT 0) ς ++ (wTe cs aT τ ++ (wRo cs aE ε ++ (wGa cs aG (aD 0) (aR 0) γ Γ ++ (wDa cs aD dr δ ++ (wRo cs aR ρ))))))) H locs := hW
    refine lv_if_ne (tgt := 20) S.1 S.2.1 dX6_drawn_15 (by decide) (fun c_6 => ?_) (fun c_6 => ?_)
    · have h := ite_f c_6 h
      refine lv_aload_n S.1 S.2.1 dX6_drawn_20 rfl (lv_at hl 0 rfl) ?_
      refine lv_iload_n S.1 S.2.1 dX6_drawn_21 rfl (lv_at hl 1 rfl) ?_
      refine lv_iload_n S.1 S.2.1 dX6_drawn_22 rfl (lv_at hl 2 rfl) ?_
      obtain ⟨r_7, δ_8, hc_9, h⟩ := cl2_some h
      have hW := kw_same hW
      refine kV_i (As := [.int p0, .int p1]) (rest := []) S hK hA (z := none) trivial [] [] hW (cMa_shutOutByDraw l D cs a aS aT aE aG aD aR μ ς τ ε γ Γ δ ρ dr p0 p1 N hc_9) (ci := 5) rfl rfl lk_X6_220 q636 q18 ⟨Nat.le_of_ble_eq_true rfl, Nat.le_of_ble_eq_true rfl⟩ rfl (Nat.le_of_ble_eq_true rfl) hl.1 dX6_drawn_23 ⟨Nat.zero_le _, Nat.zero_le _⟩ (fun H locs hW => ?_)
      have hW : Wd D A s.heap (wMa cs a (aT 0) (aS 0) (aD 0) (aG 0) (aR 0) (aE 0) μ ++ (wSc cs aS (aT 0) ς ++ (wTe cs aT τ ++ (wRo cs aE ε ++ (wGa cs aG (aD 0) (aR 0) γ Γ ++ (wDa cs aD (aR 0) δ_8 ++ (wRo cs aR ρ))))))) H locs := kw_back hW
      obtain ⟨rfl, rfl, rfl⟩ := pr3 h
      exact hQ _ _ _ _ dX6_drawn_26 rfl hW
    · have h := ite_t c_6 h
      exact wMa_drawn_18 S hK hA hQ δ dr _ _ _ h hW (lv_sub hl [] rfl)
set_option maxHeartbeats 4000000 in
set_option maxRecDepth 100000 in
theorem wMa_ten_18 {p : Program} {l : Launch} {e : Env} {s : State} {m : MethodId} {args : Array Value} {below : List Frame} {meth : Method} {c : Code} {A : Nat → Prop} {Q : State → Prop} {D : va_G} {cs : Nat → ClassId} {a aS aT aE aG aD aR : Nat → Nat} {μ : St} {ς : St} {τ : St} {ε : St} {γ : St} {Γ : Nat → Int64} {ρ : St} {r : Int32} {δ' : St} {dr' : Nat} {N : Nat} (S : Fx p m c cX6_ten 5 s args RX6) (hK : va_K D vwCl (tyL cs) s) (hA : ∀ x, s.heap.size ≤ x → A x) (hQ : ∀ (H : Heap) (locs : List Loc) (pc : Nat) (ls : Array Slot), decode cX6_ten pc = .ok (.ireturn, 1) → narrow .int (.int r) = .int r → Wd D A s.heap (wMa cs a (aT 0) (aS 0) (aD 0) (aG 0) (aR 0) (aE 0) μ ++ (wSc cs aS (aT 0) ς ++ (wTe cs aT τ ++ (wRo cs aE ε ++ (wGa cs aG (aD 0) (aR 0) γ Γ ++ (wDa cs aD dr' δ' ++ (wRo cs aR ρ))))))) H locs → W p l e { frames := 5, cells := 0, slots := 0, locals := 116 } s m args below meth c H locs 0 0 Q (F0 m pc ls [.int r])) : ∀ (δ : St) (dr : Nat) (H : Heap) (locs : List Loc) (ls : Array Slot), fMa_ten_18 N μ ρ (aR 0) δ dr = some (r, δ', dr') → Wd D A s.heap (wMa cs a (aT 0) (aS 0) (aD 0) (aG 0) (aR 0) (aE 0) μ ++ (wSc cs aS (aT 0) ς ++ (wTe cs aT τ ++ (wRo cs aE ε ++ (wGa cs aG (aD 0) (aR 0) γ Γ ++ (wDa cs aD dr δ ++ (wRo cs aR ρ))))))) H locs → lv_has ls 5 [] → W p l e { frames := 5, cells := 0, slots := 0, locals := 116 } s m args below meth c H locs 0 0 Q (F0 m 18 ls []) := by
  intro δ dr H locs ls h hW hl
  unfold fMa_ten_18 at h
  refine lv_iconst (v := -1) S.1 S.2.1 dX6_ten_18 (by decide) ?_
  obtain ⟨rfl, rfl, rfl⟩ := pr3 h
  exact hQ _ _ _ _ dX6_ten_19 rfl hW
set_option maxHeartbeats 4000000 in
set_option maxRecDepth 100000 in
theorem wMa_ten_54 {p : Program} {l : Launch} {e : Env} {s : State} {m : MethodId} {args : Array Value} {below : List Frame} {meth : Method} {c : Code} {A : Nat → Prop} {Q : State → Prop} {D : va_G} {cs : Nat → ClassId} {a aS aT aE aG aD aR : Nat → Nat} {μ : St} {ς : St} {τ : St} {ε : St} {γ : St} {Γ : Nat → Int64} {ρ : St} {r : Int32} {δ' : St} {dr' : Nat} {N : Nat} (S : Fx p m c cX6_ten 5 s args RX6) (hK : va_K D vwCl (tyL cs) s) (hA : ∀ x, s.heap.size ≤ x → A x) (hQ : ∀ (H : Heap) (locs : List Loc) (pc : Nat) (ls : Array Slot), decode cX6_ten pc = .ok (.ireturn, 1) → narrow .int (.int r) = .int r → Wd D A s.heap (wMa cs a (aT 0) (aS 0) (aD 0) (aG 0) (aR 0) (aE 0) μ ++ (wSc cs aS (aT 0) ς ++ (wTe cs aT τ ++ (wRo cs aE ε ++ (wGa cs aG (aD 0) (aR 0) γ Γ ++ (wDa cs aD dr' δ' ++ (wRo cs aR ρ))))))) H locs → W p l e { frames := 5, cells := 0, slots := 0, locals := 116 } s m args below meth c H locs 0 0 Q (F0 m pc ls [.int r])) {k_25 : Int32 → Int32 → Int32 → Int32 → St → Nat → Option (Int32 × St × Nat)} (hk_25 : ∀ (v1 : Int32) (v2 : Int32) (v3 : Int32) (v4 : Int32) (δ : St) (dr : Nat) (H : Heap) (locs : List Loc) (ls : Array Slot), k_25 v1 v2 v3 v4 δ dr = some (r, δ', dr') → Wd D A s.heap (wMa cs a (aT 0) (aS 0) (aD 0) (aG 0) (aR 0) (aE 0) μ ++ (wSc cs aS (aT 0) ς ++ (wTe cs aT τ ++ (wRo cs aE ε ++ (wGa cs aG (aD 0) (aR 0) γ Γ ++ (wDa cs aD dr δ ++ (wRo cs aR ρ))))))) H locs → lv_has ls 5 [(0, .ref (a 0)), (1, .int v1), (2, .int v2), (3, .int v3), (4, .int v4)] → W p l e { frames := 5, cells := 0, slots := 0, locals := 116 } s m args below meth c H locs 0 0 Q (F0 m 25 ls [])) : ∀ (v1 : Int32) (v2 : Int32) (v4 : Int32) (k0 : Int32) (k1 : Int32) (δ : St) (H : Heap) (locs : List Loc) (ls : Array Slot), fMa_ten_54 k_25 N μ ρ (aR 0) v1 v2 v4 k0 k1 δ = some (r, δ', dr') → Wd D A s.heap (wMa cs a (aT 0) (aS 0) (aD 0) (aG 0) (aR 0) (aE 0) μ ++ (wSc cs aS (aT 0) ς ++ (wTe cs aT τ ++ (wRo cs aE ε ++ (wGa cs aG (aD 0) (aR 0) γ Γ ++ (wDa cs aD (aR 0) δ ++ (wRo cs aR ρ))))))) H locs → lv_has ls 5 [(0, .ref (a 0)), (1, .int v1), (2, .int v2), (4, .int v4)] → W p l e { frames := 5, cells := 0, slots := 0, locals := 116 } s m args below meth c H locs 0 0 Q (F0 m 54 ls [.int k1, .int k0]) := by
  intro v1 v2 v4 k0 k1 δ H locs ls h hW hl
  unfold fMa_ten_54 at h
  refine lv_iadd S.1 S.2.1 dX6_ten_54 ?_
  refine lv_topi (fun x3_1 ex3_1 => ?_)
  have h := nm_to ex3_1 h
  refine lv_istore_n (lv' := [(3, .int x3_1), (0, .ref (a 0)), (1, .int v1), (2, .int v2), (4, .int v4)]) S.1 S.2.1 dX6_ten_55 rfl hl (by decide) rfl (fun ls hl => ?_)
  obtain ⟨x4_2, ex4_2, h⟩ := nm_some h
  refine lv_iinc (v := x4_2) (lv' := [(4, .int x4_2), (3, .int x3_1), (0, .ref (a 0)), (1, .int v1), (2, .int v2)]) S.1 S.2.1 dX6_ten_56 hl (k := 4) rfl (by rw [ex4_2]; rfl) (by decide) rfl (fun ls hl => ?_)
  refine lv_goto (tgt := 25) S.1 S.2.1 dX6_ten_59 (by decide) ?_
  exact hk_25 v1 v2 x3_1 x4_2 δ (aR 0) _ _ _ h hW (lv_sub hl [2, 3, 4, 1, 0] rfl)
set_option maxHeartbeats 4000000 in
set_option maxRecDepth 100000 in
theorem wMa_ten_25 {p : Program} {l : Launch} {e : Env} {s : State} {m : MethodId} {args : Array Value} {below : List Frame} {meth : Method} {c : Code} {A : Nat → Prop} {Q : State → Prop} {D : va_G} {cs : Nat → ClassId} {a aS aT aE aG aD aR : Nat → Nat} {μ : St} {ς : St} {τ : St} {ε : St} {γ : St} {Γ : Nat → Int64} {ρ : St} {r : Int32} {δ' : St} {dr' : Nat} {N : Nat} (S : Fx p m c cX6_ten 5 s args RX6) (hK : va_K D vwCl (tyL cs) s) (hA : ∀ x, s.heap.size ≤ x → A x) (hQ : ∀ (H : Heap) (locs : List Loc) (pc : Nat) (ls : Array Slot), decode cX6_ten pc = .ok (.ireturn, 1) → narrow .int (.int r) = .int r → Wd D A s.heap (wMa cs a (aT 0) (aS 0) (aD 0) (aG 0) (aR 0) (aE 0) μ ++ (wSc cs aS (aT 0) ς ++ (wTe cs aT τ ++ (wRo cs aE ε ++ (wGa cs aG (aD 0) (aR 0) γ Γ ++ (wDa cs aD dr' δ' ++ (wRo cs aR ρ))))))) H locs → W p l e { frames := 5, cells := 0, slots := 0, locals := 116 } s m args below meth c H locs 0 0 Q (F0 m pc ls [.int r])) : ∀ (n_25 : Nat) (v1 : Int32) (v2 : Int32) (v3 : Int32) (v4 : Int32) (δ : St) (dr : Nat) (H : Heap) (locs : List Loc) (ls : Array Slot), fMa_ten_25 N μ ρ (aR 0) n_25 v1 v2 v3 v4 δ dr = some (r, δ', dr') → Wd D A s.heap (wMa cs a (aT 0) (aS 0) (aD 0) (aG 0) (aR 0) (aE 0) μ ++ (wSc cs aS (aT 0) ς ++ (wTe cs aT τ ++ (wRo cs aE ε ++ (wGa cs aG (aD 0) (aR 0) γ Γ ++ (wDa cs aD dr δ ++ (wRo cs aR ρ))))))) H locs → lv_has ls 5 [(0, .ref (a 0)), (1, .int v1), (2, .int v2), (3, .int v3), (4, .int v4)] → W p l e { frames := 5, cells := 0, slots := 0, locals := 116 } s m args below meth c H locs 0 0 Q (F0 m 25 ls []) := by
  intro n_25
  induction n_25 with
  | zero =>
    intro v1 v2 v3 v4 δ dr H locs ls h
    cases h
  | succ n_25 ih =>
    intro v1 v2 v3 v4 δ dr H locs ls h hW hl
    unfold fMa_ten_25 at h
    refine lv_iload S.1 S.2.1 dX6_ten_25 (lv_at hl 4 rfl) ?_
    refine lv_bipush (v := 10) S.1 S.2.1 dX6_ten_27 (by decide) ?_
    refine lv_icmp_ge (tgt := 62) S.1 S.2.1 dX6_ten_29 (by decide) (fun c_3 => ?_) (fun c_3 => ?_)
    · have h := ite_t c_3 h
      refine lv_iload_n S.1 S.2.1 dX6_ten_62 rfl (lv_at hl 3 rfl) ?_
      obtain ⟨rfl, rfl, rfl⟩ := pr3 h
      exact hQ _ _ _ _ dX6_ten_63 rfl hW
    · have h := ite_f c_3 h
      refine lv_iload_n S.1 S.2.1 dX6_ten_32 rfl (lv_at hl 3 rfl) ?_
      refine lv_aload_n S.1 S.2.1 dX6_ten_33 rfl (lv_at hl 0 rfl) ?_
      refine lv_iload_n S.1 S.2.1 dX6_ten_34 rfl (lv_at hl 1 rfl) ?_
      refine lv_iload S.1 S.2.1 dX6_ten_35 (lv_at hl 4 rfl) ?_
      refine lv_iadd S.1 S.2.1 dX6_ten_37 ?_
      refine lv_sipush (v := 10000) S.1 S.2.1 dX6_ten_38 (by decide) ?_
      refine lv_irem S.1 S.2.1 dX6_ten_41 (by decide) ?_
      refine lv_iload_n S.1 S.2.1 dX6_ten_42 rfl (lv_at hl 2 rfl) ?_
      obtain ⟨r_4, δ_5, hc_6, h⟩ := cl2_some h
      have hW := kw_same hW
      refine kV_i (As := [.int ((v1 + v4) - (v1 + v4) / (10000 : Int32) * (10000 : Int32)), .int v2]) (rest := [.int v3]) S hK hA (z := none) trivial [] [] hW (cMa_shutOutByDraw l D cs a aS aT aE aG aD aR μ ς τ ε γ Γ δ ρ dr ((v1 + v4) - (v1 + v4) / (10000 : Int32) * (10000 : Int32)) v2 N hc_6) (ci := 5) rfl rfl lk_X6_220 q636 q18 ⟨Nat.le_of_ble_eq_true rfl, Nat.le_of_ble_eq_true rfl⟩ rfl (Nat.le_of_ble_eq_true rfl) hl.1 dX6_ten_43 ⟨Nat.zero_le _, Nat.zero_le _⟩ (fun H locs hW => ?_)
      have hW : Wd D A s.heap (wMa cs a (aT 0) (aS 0) (aD 0) (aG 0) (aR 0) (aE 0) μ ++ (wSc cs aS (aT 0) ς ++ (wTe cs aT τ ++ (wRo cs aE ε ++ (wGa cs aG (aD 0) (aR 0) γ Γ ++ (wDa cs aD (aR 0) δ_5 ++ (wRo cs aR ρ))))))) H locs := kw_back hW
      refine lv_if_ne (tgt := 53) S.1 S.2.1 dX6_ten_46 (by decide) (fun c_7 => ?_) (fun c_7 => ?_)
      · have h := ite_f c_7 h
        refine lv_iconst (v := 0) S.1 S.2.1 dX6_ten_53 (by decide) ?_
        exact wMa_ten_54 S hK hA hQ ih v1 v2 v4 v3 (0 : Int32) δ_5 _ _ _ h hW (lv_sub hl [0, 1, 2, 4] rfl)
      · have h := ite_t c_7 h
        refine lv_iconst (v := 1) S.1 S.2.1 dX6_ten_49 (by decide) ?_
        refine lv_goto (tgt := 54) S.1 S.2.1 dX6_ten_50 (by decide) ?_
        exact wMa_ten_54 S hK hA hQ ih v1 v2 v4 v3 (1 : Int32) δ_5 _ _ _ h hW (lv_sub hl [0, 1, 2, 4] rfl)
set_option maxHeartbeats 4000000 in
set_option maxRecDepth 100000 in
theorem cMa_ten (l : Launch) (D : va_G) (cs : Nat → ClassId) (a aS aT aE aG aD aR : Nat → Nat) (μ : St) (ς : St) (τ : St) (ε : St) (γ : St) (Γ : Nat → Int64) (δ : St) (ρ : St) (dr : Nat) (p0 : Int32) (p1 : Int32) (N : Nat) {r : Int32} {δ' : St} {dr' : Nat} (h : fMa_ten N p0 p1 μ ρ (aR 0) δ dr = some (r, δ', dr')) : Ki l D cs none yX6_ten cX6_ten 5 (some .int) 5 116 (wMa cs a (aT 0) (aS 0) (aD 0) (aG 0) (aR 0) (aE 0) μ ++ (wSc cs aS (aT 0) ς ++ (wTe cs aT τ ++ (wRo cs aE ε ++ (wGa cs aG (aD 0) (aR 0) γ Γ ++ (wDa cs aD dr δ ++ (wRo cs aR ρ))))))) [.ref (a 0), .int p0, .int p1] r (wMa cs a (aT 0) (aS 0) (aD 0) (aG 0) (aR 0) (aE 0) μ ++ (wSc cs aS (aT 0) ς ++ (wTe cs aT τ ++ (wRo cs aE ε ++ (wGa cs aG (aD 0) (aR 0) γ Γ ++ (wDa cs aD dr' δ' ++ (wRo cs aR ρ))))))) := by
  refine Ki_of (by decide +kernel) (Nat.le_of_ble_eq_true rfl) (fun p e s m below meth c A S hK hA hZ Q hQ ls hl hW => ?_)
  have hl : lv_has ls 5 [(0, .ref (a 0)), (1, .int p0), (2, .int p1)] := hl
  unfold fMa_ten at h
  refine lv_iload_n S.1 S.2.1 dX6_ten_0 rfl (lv_at hl 1 rfl) ?_
  refine lv_iconst (v := 0) S.1 S.2.1 dX6_ten_1 (by decide) ?_
  refine lv_sipush (v := 9999) S.1 S.2.1 dX6_ten_2 (by decide) ?_
  obtain ⟨r_8, hc_9, h⟩ := cl1_some h
  refine kS_i (As := [.int p0, .int (0 : Int32), .int (9999 : Int32)]) (rest := []) S hK hA (z := none) trivial [] (wMa cs a (aT 0) (aS 0) (aD 0) (aG 0) (aR 0) (aE 0) μ ++ (wSc cs aS (aT 0) ς ++ (wTe cs aT τ ++ (wRo cs aE ε ++ (wGa cs aG (aD 0) (aR 0) γ Γ ++ (wDa cs aD dr δ ++ (wRo cs aR ρ))))))) hW (cMa_within l D cs p0 (0 : Int32) (9999 : Int32) N hc_9) lk_X6_88 q278 ⟨Nat.le_of_ble_eq_true rfl, Nat.le_of_ble_eq_true rfl⟩ rfl (Nat.le_of_ble_eq_true rfl) hl.1 dX6_ten_5 ⟨Nat.zero_le _, Nat.zero_le _⟩ (fun H locs hW => ?_)
  have hW : Wd D A s.heap (wMa cs a (aT 0) (aS 0) (aD 0) (aG 0) (aR 0) (aE 0) μ ++ (wSc cs aS (aT 0) ς ++ (wTe cs aT τ ++ (wRo cs aE ε ++ (wGa cs aG (aD 0) (aR 0) γ Γ ++ (wDa cs aD dr δ ++ (wRo cs aR ρ))))))) H locs := hW
  refine lv_if_eq (tgt := 18) S.1 S.2.1 dX6_ten_8 (by decide) (fun c_10 => ?_) (fun c_10 => ?_)
  · have h := ite_t c_10 h
    exact wMa_ten_18 S hK hA hQ δ dr _ _ _ h hW (lv_sub hl [] rfl)
  · have h := ite_f c_10 h
    refine lv_iload_n S.1 S.2.1 dX6_ten_11 rfl (lv_at hl 2 rfl) ?_
    obtain ⟨r_11, hc_12, h⟩ := cl1_some h
    refine kS_i (As := [.int p1]) (rest := []) S hK hA (z := none) trivial [] (wMa cs a (aT 0) (aS 0) (aD 0) (aG 0) (aR 0) (aE 0) μ ++ (wSc cs aS (aT 0) ς ++ (wTe cs aT τ ++ (wRo cs aE ε ++ (wGa cs aG (aD 0) (aR 0) γ Γ ++ (wDa cs aD dr δ ++ (wRo cs aR ρ))))))) hW (cMa_isRule l D cs p1 N hc_12) lk_X6_129 q398 ⟨Nat.le_of_ble_eq_true rfl, Nat.le_of_ble_eq_true rfl⟩ rfl (Nat.le_of_ble_eq_true rfl) hl.1 dX6_ten_12 ⟨Nat.zero_le _, Nat.zero_le _⟩ (fun H locs hW => ?_)
    have hW : Wd D A s.heap (wMa cs a (aT 0) (aS 0) (aD 0) (aG 0) (aR 0) (aE 0) μ ++ (wSc cs aS (aT 0) ς ++ (wTe cs aT τ ++ (wRo cs aE ε ++ (wGa cs aG (aD 0) (aR 0) γ Γ ++ (wDa cs aD dr δ ++ (wRo cs aR ρ))))))) H locs := hW
    refine lv_if_ne (tgt := 20) S.1 S.2.1 dX6_ten_15 (by decide) (fun c_13 => ?_) (fun c_13 => ?_)
    · have h := ite_f c_13 h
      refine lv_iconst (v := 0) S.1 S.2.1 dX6_ten_20 (by decide) ?_
      refine lv_istore_n (lv' := [(3, .int (0 : Int32)), (0, .ref (a 0)), (1, .int p0), (2, .int p1)]) S.1 S.2.1 dX6_ten_21 rfl hl (by decide) rfl (fun ls hl => ?_)
      refine lv_iconst (v := 0) S.1 S.2.1 dX6_ten_22 (by decide) ?_
      refine lv_istore (lv' := [(4, .int (0 : Int32)), (3, .int (0 : Int32)), (0, .ref (a 0)), (1, .int p0), (2, .int p1)]) S.1 S.2.1 dX6_ten_23 hl (by decide) rfl (fun ls hl => ?_)
      exact wMa_ten_25 S hK hA hQ N p0 p1 (0 : Int32) (0 : Int32) δ dr _ _ _ h hW (lv_sub hl [2, 3, 4, 1, 0] rfl)
    · have h := ite_t c_13 h
      exact wMa_ten_18 S hK hA hQ δ dr _ _ _ h hW (lv_sub hl [] rfl)
set_option maxHeartbeats 4000000 in
set_option maxRecDepth 100000 in
theorem wMa_keep_19 {p : Program} {l : Launch} {e : Env} {s : State} {m : MethodId} {args : Array Value} {below : List Frame} {meth : Method} {c : Code} {A : Nat → Prop} {Q : State → Prop} {D : va_G} {cs : Nat → ClassId} {a aS aT aE aG aD aR : Nat → Nat} {ς : St} {τ : St} {ε : St} {γ : St} {Γ : Nat → Int64} {δ : St} {ρ : St} {dr : Nat} {r : Int32} {μ' : St} {N : Nat} (S : Fx p m c cX6_keep 1 s args RX6) (hK : va_K D vwCl (tyL cs) s) (hA : ∀ x, s.heap.size ≤ x → A x) (hQ : ∀ (H : Heap) (locs : List Loc) (pc : Nat) (ls : Array Slot), decode cX6_keep pc = .ok (.ireturn, 1) → narrow .int (.int r) = .int r → Wd D A s.heap (wMa cs a (aT 0) (aS 0) (aD 0) (aG 0) (aR 0) (aE 0) μ' ++ (wSc cs aS (aT 0) ς ++ (wTe cs aT τ ++ (wRo cs aE ε ++ (wGa cs aG (aD 0) (aR 0) γ Γ ++ (wDa cs aD dr δ ++ (wRo cs aR ρ))))))) H locs → W p l e { frames := 0, cells := 0, slots := 0, locals := 0 } s m args below meth c H locs 0 0 Q (F0 m pc ls [.int r])) : ∀ (μ : St) (H : Heap) (locs : List Loc) (ls : Array Slot), fMa_keep_19 N μ = some (r, μ') → Wd D A s.heap (wMa cs a (aT 0) (aS 0) (aD 0) (aG 0) (aR 0) (aE 0) μ ++ (wSc cs aS (aT 0) ς ++ (wTe cs aT τ ++ (wRo cs aE ε ++ (wGa cs aG (aD 0) (aR 0) γ Γ ++ (wDa cs aD dr δ ++ (wRo cs aR ρ))))))) H locs → lv_has ls 1 [] → W p l e { frames := 0, cells := 0, slots := 0, locals := 0 } s m args below meth c H locs 0 0 Q (F0 m 19 ls []) := by
  intro μ H locs ls h hW hl
  unfold fMa_keep_19 at h
  refine lv_bipush (v := -3) S.1 S.2.1 dX6_keep_19 (by decide) ?_
  obtain ⟨rfl, rfl⟩ := pr2 h
  exact hQ _ _ _ _ dX6_keep_21 rfl hW
set_option maxHeartbeats 4000000 in
set_option maxRecDepth 100000 in
theorem cMa_keep (l : Launch) (D : va_G) (cs : Nat → ClassId) (a aS aT aE aG aD aR : Nat → Nat) (μ : St) (ς : St) (τ : St) (ε : St) (γ : St) (Γ : Nat → Int64) (δ : St) (ρ : St) (dr : Nat) (N : Nat) {r : Int32} {μ' : St} (h : fMa_keep N μ = some (r, μ')) : Ki l D cs none yX6_keep cX6_keep 1 (some .int) 0 0 (wMa cs a (aT 0) (aS 0) (aD 0) (aG 0) (aR 0) (aE 0) μ ++ (wSc cs aS (aT 0) ς ++ (wTe cs aT τ ++ (wRo cs aE ε ++ (wGa cs aG (aD 0) (aR 0) γ Γ ++ (wDa cs aD dr δ ++ (wRo cs aR ρ))))))) [.ref (a 0)] r (wMa cs a (aT 0) (aS 0) (aD 0) (aG 0) (aR 0) (aE 0) μ' ++ (wSc cs aS (aT 0) ς ++ (wTe cs aT τ ++ (wRo cs aE ε ++ (wGa cs aG (aD 0) (aR 0) γ Γ ++ (wDa cs aD dr δ ++ (wRo cs aR ρ))))))) := by
  refine Ki_of (by decide +kernel) (Nat.le_of_ble_eq_true rfl) (fun p e s m below meth c A S hK hA hZ Q hQ ls hl hW => ?_)
  have hl : lv_has ls 1 [(0, .ref (a 0))] := hl
  unfold fMa_keep at h
  refine lv_aload_n S.1 S.2.1 dX6_keep_0 rfl (lv_at hl 0 rfl) ?_
  refine gMa_keptCount S hK hW dX6_keep_1 ?_
  refine lv_if_lt (tgt := 19) S.1 S.2.1 dX6_keep_4 (by decide) (fun c_1 => ?_) (fun c_1 => ?_)
  · have h := ite_t c_1 h
    exact wMa_keep_19 S hK hA hQ μ _ _ _ h hW (lv_sub hl [] rfl)
  · have h := ite_f c_1 h
    refine lv_aload_n S.1 S.2.1 dX6_keep_7 rfl (lv_at hl 0 rfl) ?_
    refine gMa_keptCount S hK hW dX6_keep_8 ?_
    refine lv_aload_n S.1 S.2.1 dX6_keep_11 rfl (lv_at hl 0 rfl) ?_
    refine gMa_kept S hK hW dX6_keep_12 ?_
    refine nMa_kept S hK hW dX6_keep_15 ?_
    refine lv_icmp_lt (tgt := 22) S.1 S.2.1 dX6_keep_16 (by decide) (fun c_2 => ?_) (fun c_2 => ?_)
    · have h := ite_t c_2 h
      refine lv_aload_n S.1 S.2.1 dX6_keep_22 rfl (lv_at hl 0 rfl) ?_
      refine gMa_kept S hK hW dX6_keep_23 ?_
      refine lv_aload_n S.1 S.2.1 dX6_keep_26 rfl (lv_at hl 0 rfl) ?_
      refine gMa_keptCount S hK hW dX6_keep_27 ?_
      refine lv_aload_n S.1 S.2.1 dX6_keep_30 rfl (lv_at hl 0 rfl) ?_
      refine gMa_holders S hK hW dX6_keep_31 ?_
      obtain ⟨hi_3, h⟩ := gI_some h
      refine sMa_kept S hK hW hi_3 dX6_keep_34 (fun H locs μ_4 eμ_4 hW => ?_)
      have h := nm_to eμ_4 h
      refine lv_aload_n S.1 S.2.1 dX6_keep_35 rfl (lv_at hl 0 rfl) ?_
      refine lv_dup S.1 S.2.1 dX6_keep_36 rfl ?_
      refine gMa_keptCount S hK hW dX6_keep_37 ?_
      refine lv_iconst (v := 1) S.1 S.2.1 dX6_keep_40 (by decide) ?_
      refine lv_iadd S.1 S.2.1 dX6_keep_41 ?_
      refine pMa_keptCount S hK hW dX6_keep_42 (fun H locs μ_5 eμ_5 hW => ?_)
      have h := nm_to eμ_5 h
      refine lv_aload_n S.1 S.2.1 dX6_keep_45 rfl (lv_at hl 0 rfl) ?_
      refine gMa_keptCount S hK hW dX6_keep_46 ?_
      obtain ⟨rfl, rfl⟩ := pr2 h
      exact hQ _ _ _ _ dX6_keep_49 rfl hW
    · have h := ite_f c_2 h
      exact wMa_keep_19 S hK hA hQ μ _ _ _ h hW (lv_sub hl [] rfl)
set_option maxHeartbeats 4000000 in
set_option maxRecDepth 100000 in
theorem wMa_back_20 {p : Program} {l : Launch} {e : Env} {s : State} {m : MethodId} {args : Array Value} {below : List Frame} {meth : Method} {c : Code} {A : Nat → Prop} {Q : State → Prop} {D : va_G} {cs : Nat → ClassId} {a aS aT aE aG aD aR : Nat → Nat} {ς : St} {τ : St} {ε : St} {γ : St} {Γ : Nat → Int64} {δ : St} {ρ : St} {dr : Nat} {r : Int32} {μ' : St} {N : Nat} (S : Fx p m c cX6_back 1 s args RX6) (hK : va_K D vwCl (tyL cs) s) (hA : ∀ x, s.heap.size ≤ x → A x) (hQ : ∀ (H : Heap) (locs : List Loc) (pc : Nat) (ls : Array Slot), decode cX6_back pc = .ok (.ireturn, 1) → narrow .int (.int r) = .int r → Wd D A s.heap (wMa cs a (aT 0) (aS 0) (aD 0) (aG 0) (aR 0) (aE 0) μ' ++ (wSc cs aS (aT 0) ς ++ (wTe cs aT τ ++ (wRo cs aE ε ++ (wGa cs aG (aD 0) (aR 0) γ Γ ++ (wDa cs aD dr δ ++ (wRo cs aR ρ))))))) H locs → W p l e { frames := 0, cells := 0, slots := 0, locals := 0 } s m args below meth c H locs 0 0 Q (F0 m pc ls [.int r])) : ∀ (μ : St) (H : Heap) (locs : List Loc) (ls : Array Slot), fMa_back_20 N μ = some (r, μ') → Wd D A s.heap (wMa cs a (aT 0) (aS 0) (aD 0) (aG 0) (aR 0) (aE 0) μ ++ (wSc cs aS (aT 0) ς ++ (wTe cs aT τ ++ (wRo cs aE ε ++ (wGa cs aG (aD 0) (aR 0) γ Γ ++ (wDa cs aD dr δ ++ (wRo cs aR ρ))))))) H locs → lv_has ls 1 [] → W p l e { frames := 0, cells := 0, slots := 0, locals := 0 } s m args below meth c H locs 0 0 Q (F0 m 20 ls []) := by
  intro μ H locs ls h hW hl
  unfold fMa_back_20 at h
  refine lv_bipush (v := -2) S.1 S.2.1 dX6_back_20 (by decide) ?_
  obtain ⟨rfl, rfl⟩ := pr2 h
  exact hQ _ _ _ _ dX6_back_22 rfl hW
set_option maxHeartbeats 4000000 in
set_option maxRecDepth 100000 in
theorem cMa_back (l : Launch) (D : va_G) (cs : Nat → ClassId) (a aS aT aE aG aD aR : Nat → Nat) (μ : St) (ς : St) (τ : St) (ε : St) (γ : St) (Γ : Nat → Int64) (δ : St) (ρ : St) (dr : Nat) (N : Nat) {r : Int32} {μ' : St} (h : fMa_back N μ = some (r, μ')) : Ki l D cs none yX6_back cX6_back 1 (some .int) 0 0 (wMa cs a (aT 0) (aS 0) (aD 0) (aG 0) (aR 0) (aE 0) μ ++ (wSc cs aS (aT 0) ς ++ (wTe cs aT τ ++ (wRo cs aE ε ++ (wGa cs aG (aD 0) (aR 0) γ Γ ++ (wDa cs aD dr δ ++ (wRo cs aR ρ))))))) [.ref (a 0)] r (wMa cs a (aT 0) (aS 0) (aD 0) (aG 0) (aR 0) (aE 0) μ' ++ (wSc cs aS (aT 0) ς ++ (wTe cs aT τ ++ (wRo cs aE ε ++ (wGa cs aG (aD 0) (aR 0) γ Γ ++ (wDa cs aD dr δ ++ (wRo cs aR ρ))))))) := by
  refine Ki_of (by decide +kernel) (Nat.le_of_ble_eq_true rfl) (fun p e s m below meth c A S hK hA hZ Q hQ ls hl hW => ?_)
  have hl : lv_has ls 1 [(0, .ref (a 0))] := hl
  unfold fMa_back at h
  refine lv_aload_n S.1 S.2.1 dX6_back_0 rfl (lv_at hl 0 rfl) ?_
  refine gMa_keptCount S hK hW dX6_back_1 ?_
  refine lv_iconst (v := 1) S.1 S.2.1 dX6_back_4 (by decide) ?_
  refine lv_icmp_lt (tgt := 20) S.1 S.2.1 dX6_back_5 (by decide) (fun c_1 => ?_) (fun c_1 => ?_)
  · have h := ite_t c_1 h
    exact wMa_back_20 S hK hA hQ μ _ _ _ h hW (lv_sub hl [] rfl)
  · have h := ite_f c_1 h
    refine lv_aload_n S.1 S.2.1 dX6_back_8 rfl (lv_at hl 0 rfl) ?_
    refine gMa_keptCount S hK hW dX6_back_9 ?_
    refine lv_aload_n S.1 S.2.1 dX6_back_12 rfl (lv_at hl 0 rfl) ?_
    refine gMa_kept S hK hW dX6_back_13 ?_
    refine nMa_kept S hK hW dX6_back_16 ?_
    refine lv_icmp_le (tgt := 23) S.1 S.2.1 dX6_back_17 (by decide) (fun c_2 => ?_) (fun c_2 => ?_)
    · have h := ite_t c_2 h
      refine lv_aload_n S.1 S.2.1 dX6_back_23 rfl (lv_at hl 0 rfl) ?_
      refine lv_dup S.1 S.2.1 dX6_back_24 rfl ?_
      refine gMa_keptCount S hK hW dX6_back_25 ?_
      refine lv_iconst (v := 1) S.1 S.2.1 dX6_back_28 (by decide) ?_
      refine lv_isub S.1 S.2.1 dX6_back_29 ?_
      refine pMa_keptCount S hK hW dX6_back_30 (fun H locs μ_3 eμ_3 hW => ?_)
      have h := nm_to eμ_3 h
      refine lv_aload_n S.1 S.2.1 dX6_back_33 rfl (lv_at hl 0 rfl) ?_
      refine lv_aload_n S.1 S.2.1 dX6_back_34 rfl (lv_at hl 0 rfl) ?_
      refine gMa_kept S hK hW dX6_back_35 ?_
      refine lv_aload_n S.1 S.2.1 dX6_back_38 rfl (lv_at hl 0 rfl) ?_
      refine gMa_keptCount S hK hW dX6_back_39 ?_
      obtain ⟨hi_4, h⟩ := gI_some h
      refine lMa_kept S hK hW hi_4 dX6_back_42 ?_
      refine pMa_holders S hK hW dX6_back_43 (fun H locs μ_5 eμ_5 hW => ?_)
      have h := nm_to eμ_5 h
      refine lv_aload_n S.1 S.2.1 dX6_back_46 rfl (lv_at hl 0 rfl) ?_
      refine gMa_keptCount S hK hW dX6_back_47 ?_
      obtain ⟨rfl, rfl⟩ := pr2 h
      exact hQ _ _ _ _ dX6_back_50 rfl hW
    · have h := ite_f c_2 h
      exact wMa_back_20 S hK hA hQ μ _ _ _ h hW (lv_sub hl [] rfl)
set_option maxHeartbeats 4000000 in
set_option maxRecDepth 100000 in
theorem cMa_count (l : Launch) (D : va_G) (cs : Nat → ClassId) (a aS aT aE aG aD aR : Nat → Nat) (μ : St) (ς : St) (τ : St) (ε : St) (γ : St) (Γ : Nat → Int64) (δ : St) (ρ : St) (dr : Nat) (p0 : Int32) (N : Nat) {r : Int32} (h : fMa_count N p0 μ τ ρ = some r) : Ki l D cs none yX6_count cX6_count 2 (some .int) 1 20 (wMa cs a (aT 0) (aS 0) (aD 0) (aG 0) (aR 0) (aE 0) μ ++ (wSc cs aS (aT 0) ς ++ (wTe cs aT τ ++ (wRo cs aE ε ++ (wGa cs aG (aD 0) (aR 0) γ Γ ++ (wDa cs aD dr δ ++ (wRo cs aR ρ))))))) [.ref (a 0), .int p0] r (wMa cs a (aT 0) (aS 0) (aD 0) (aG 0) (aR 0) (aE 0) μ ++ (wSc cs aS (aT 0) ς ++ (wTe cs aT τ ++ (wRo cs aE ε ++ (wGa cs aG (aD 0) (aR 0) γ Γ ++ (wDa cs aD dr δ ++ (wRo cs aR ρ))))))) := by
  refine Ki_of (by decide +kernel) (Nat.le_of_ble_eq_true rfl) (fun p e s m below meth c A S hK hA hZ Q hQ ls hl hW => ?_)
  have hl : lv_has ls 2 [(0, .ref (a 0)), (1, .int p0)] := hl
  unfold fMa_count at h
  refine lv_iload_n S.1 S.2.1 dX6_count_0 rfl (lv_at hl 1 rfl) ?_
  rcases Classical.em (p0 = 0) with c_1 | c_1
  · have h := ite_t c_1 h
    refine lv_tableIn (off := 35) (tgt := 36) S.1 S.2.1 dX6_count_1 (by rw [c_1]; decide) (by rw [c_1]; decide) (by rw [c_1]; decide) (by decide) ?_
    refine lv_aload_n S.1 S.2.1 dX6_count_36 rfl (lv_at hl 0 rfl) ?_
    refine gMa_laid S hK hW dX6_count_37 ?_
    obtain ⟨r_2, hc_3, h⟩ := cl1_some h
    have hW := kw (w' := (wMa cs a (aT 0) (aS 0) (aD 0) (aG 0) (aR 0) (aE 0) μ ++ (wSc cs aS (aT 0) ς ++ (wTe cs aT τ ++ (wRo cs aE ε ++ (wGa cs aG (aD 0) (aR 0) γ Γ ++ (wDa cs aD dr δ)))))) ++ ((wRo cs aR ρ) ++ [])) (by simp only [List.append_assoc, List.nil_append, List.append_nil]) hW
    refine kV_i (As := []) (rest := []) S hK hA (z := none) trivial (wMa cs a (aT 0) (aS 0) (aD 0) (aG 0) (aR 0) (aE 0) μ ++ (wSc cs aS (aT 0) ς ++ (wTe cs aT τ ++ (wRo cs aE ε ++ (wGa cs aG (aD 0) (aR 0) γ Γ ++ (wDa cs aD dr δ)))))) [] hW (cRo_seatCount l D cs aR ρ N hc_3) (ci := 2) rfl rfl lk_X6_106 q354 q355 ⟨Nat.le_of_ble_eq_true rfl, Nat.le_of_ble_eq_true rfl⟩ rfl (Nat.le_of_ble_eq_true rfl) hl.1 dX6_count_40 ⟨Nat.zero_le _, Nat.zero_le _⟩ (fun H locs hW => ?_)
    have hW : Wd D A s.heap (wMa cs a (aT 0) (aS 0) (aD 0) (aG 0) (aR 0) (aE 0) μ ++ (wSc cs aS (aT 0) ς ++ (wTe cs aT τ ++ (wRo cs aE ε ++ (wGa cs aG (aD 0) (aR 0) γ Γ ++ (wDa cs aD dr δ ++ (wRo cs aR ρ))))))) H locs := kw (by simp only [List.append_assoc, List.nil_append, List.append_nil]) hW
    obtain rfl := pr1 h
    exact hQ _ _ _ _ dX6_count_43 rfl hW
  · have h := ite_f c_1 h
    rcases Classical.em (p0 = 1) with c_4 | c_4
    · have h := ite_t c_4 h
      refine lv_tableIn (off := 43) (tgt := 44) S.1 S.2.1 dX6_count_1 (by rw [c_4]; decide) (by rw [c_4]; decide) (by rw [c_4]; decide) (by decide) ?_
      refine lv_aload_n S.1 S.2.1 dX6_count_44 rfl (lv_at hl 0 rfl) ?_
      refine gMa_laid S hK hW dX6_count_45 ?_
      obtain ⟨r_5, hc_6, h⟩ := cl1_some h
      have hW := kw (w' := (wMa cs a (aT 0) (aS 0) (aD 0) (aG 0) (aR 0) (aE 0) μ ++ (wSc cs aS (aT 0) ς ++ (wTe cs aT τ ++ (wRo cs aE ε ++ (wGa cs aG (aD 0) (aR 0) γ Γ ++ (wDa cs aD dr δ)))))) ++ ((wRo cs aR ρ) ++ [])) (by simp only [List.append_assoc, List.nil_append, List.append_nil]) hW
      refine kV_i (As := []) (rest := []) S hK hA (z := none) trivial (wMa cs a (aT 0) (aS 0) (aD 0) (aG 0) (aR 0) (aE 0) μ ++ (wSc cs aS (aT 0) ς ++ (wTe cs aT τ ++ (wRo cs aE ε ++ (wGa cs aG (aD 0) (aR 0) γ Γ ++ (wDa cs aD dr δ)))))) [] hW (cRo_readerCount l D cs aR ρ N hc_6) (ci := 2) rfl rfl lk_X6_109 q358 q359 ⟨Nat.le_of_ble_eq_true rfl, Nat.le_of_ble_eq_true rfl⟩ rfl (Nat.le_of_ble_eq_true rfl) hl.1 dX6_count_48 ⟨Nat.zero_le _, Nat.zero_le _⟩ (fun H locs hW => ?_)
      have hW : Wd D A s.heap (wMa cs a (aT 0) (aS 0) (aD 0) (aG 0) (aR 0) (aE 0) μ ++ (wSc cs aS (aT 0) ς ++ (wTe cs aT τ ++ (wRo cs aE ε ++ (wGa cs aG (aD 0) (aR 0) γ Γ ++ (wDa cs aD dr δ ++ (wRo cs aR ρ))))))) H locs := kw (by simp only [List.append_assoc, List.nil_append, List.append_nil]) hW
      obtain rfl := pr1 h
      exact hQ _ _ _ _ dX6_count_51 rfl hW
    · have h := ite_f c_4 h
      rcases Classical.em (p0 = 2) with c_7 | c_7
      · have h := ite_t c_7 h
        refine lv_tableIn (off := 51) (tgt := 52) S.1 S.2.1 dX6_count_1 (by rw [c_7]; decide) (by rw [c_7]; decide) (by rw [c_7]; decide) (by decide) ?_
        refine lv_aload_n S.1 S.2.1 dX6_count_52 rfl (lv_at hl 0 rfl) ?_
        refine gMa_text S hK hW dX6_count_53 ?_
        obtain ⟨r_8, hc_9, h⟩ := cl1_some h
        have hW := kw (w' := (wMa cs a (aT 0) (aS 0) (aD 0) (aG 0) (aR 0) (aE 0) μ ++ (wSc cs aS (aT 0) ς)) ++ ((wTe cs aT τ) ++ (wRo cs aE ε ++ (wGa cs aG (aD 0) (aR 0) γ Γ ++ (wDa cs aD dr δ ++ (wRo cs aR ρ)))))) (by simp only [List.append_assoc, List.nil_append, List.append_nil]) hW
        refine kV_i (As := []) (rest := []) S hK hA (z := none) trivial (wMa cs a (aT 0) (aS 0) (aD 0) (aG 0) (aR 0) (aE 0) μ ++ (wSc cs aS (aT 0) ς)) (wRo cs aE ε ++ (wGa cs aG (aD 0) (aR 0) γ Γ ++ (wDa cs aD dr δ ++ (wRo cs aR ρ)))) hW (cTe_length l D cs aT τ N hc_9) (ci := 4) rfl rfl lk_X6_96 q285 q286 ⟨Nat.le_of_ble_eq_true rfl, Nat.le_of_ble_eq_true rfl⟩ rfl (Nat.le_of_ble_eq_true rfl) hl.1 dX6_count_56 ⟨Nat.zero_le _, Nat.zero_le _⟩ (fun H locs hW => ?_)
        have hW : Wd D A s.heap (wMa cs a (aT 0) (aS 0) (aD 0) (aG 0) (aR 0) (aE 0) μ ++ (wSc cs aS (aT 0) ς ++ (wTe cs aT τ ++ (wRo cs aE ε ++ (wGa cs aG (aD 0) (aR 0) γ Γ ++ (wDa cs aD dr δ ++ (wRo cs aR ρ))))))) H locs := kw (by simp only [List.append_assoc, List.nil_append, List.append_nil]) hW
        obtain rfl := pr1 h
        exact hQ _ _ _ _ dX6_count_59 rfl hW
      · have h := ite_f c_7 h
        rcases Classical.em (p0 = 3) with c_10 | c_10
        · have h := ite_t c_10 h
          refine lv_tableIn (off := 59) (tgt := 60) S.1 S.2.1 dX6_count_1 (by rw [c_10]; decide) (by rw [c_10]; decide) (by rw [c_10]; decide) (by decide) ?_
          refine lv_aload_n S.1 S.2.1 dX6_count_60 rfl (lv_at hl 0 rfl) ?_
          refine gMa_holders S hK hW dX6_count_61 ?_
          obtain ⟨r_11, hc_12, h⟩ := cl1_some h
          refine kS_i (As := [.int (μ 0 9)]) (rest := []) S hK hA (z := none) trivial [] (wMa cs a (aT 0) (aS 0) (aD 0) (aG 0) (aR 0) (aE 0) μ ++ (wSc cs aS (aT 0) ς ++ (wTe cs aT τ ++ (wRo cs aE ε ++ (wGa cs aG (aD 0) (aR 0) γ Γ ++ (wDa cs aD dr δ ++ (wRo cs aR ρ))))))) hW (cBc_bitCount_0f7a4 l D cs (μ 0 9) N hc_12) lk_X6_161 q463 ⟨Nat.le_of_ble_eq_true rfl, Nat.le_of_ble_eq_true rfl⟩ rfl (Nat.le_of_ble_eq_true rfl) hl.1 dX6_count_64 ⟨Nat.zero_le _, Nat.zero_le _⟩ (fun H locs hW => ?_)
          have hW : Wd D A s.heap (wMa cs a (aT 0) (aS 0) (aD 0) (aG 0) (aR 0) (aE 0) μ ++ (wSc cs aS (aT 0) ς ++ (wTe cs aT τ ++ (wRo cs aE ε ++ (wGa cs aG (aD 0) (aR 0) γ Γ ++ (wDa cs aD dr δ ++ (wRo cs aR ρ))))))) H locs := hW
          obtain rfl := pr1 h
          exact hQ _ _ _ _ dX6_count_67 rfl hW
        · have h := ite_f c_10 h
          rcases Classical.em (p0 = 4) with c_13 | c_13
          · have h := ite_t c_13 h
            refine lv_tableIn (off := 67) (tgt := 68) S.1 S.2.1 dX6_count_1 (by rw [c_13]; decide) (by rw [c_13]; decide) (by rw [c_13]; decide) (by decide) ?_
            refine lv_aload_n S.1 S.2.1 dX6_count_68 rfl (lv_at hl 0 rfl) ?_
            refine gMa_keptCount S hK hW dX6_count_69 ?_
            obtain rfl := pr1 h
            exact hQ _ _ _ _ dX6_count_72 rfl hW
          · have h := ite_f c_13 h
            refine lv_tableOut (tgt := 73) S.1 S.2.1 dX6_count_1 (by have z0 := lv_neT (a := 0) c_1 (by decide); have z1 := lv_neT (a := 1) c_4 (by decide); have z2 := lv_neT (a := 2) c_7 (by decide); have z3 := lv_neT (a := 3) c_10 (by decide); have z4 := lv_neT (a := 4) c_13 (by decide); omega) (by decide) ?_
            refine lv_iconst (v := -1) S.1 S.2.1 dX6_count_73 (by decide) ?_
            obtain rfl := pr1 h
            exact hQ _ _ _ _ dX6_count_74 rfl hW
