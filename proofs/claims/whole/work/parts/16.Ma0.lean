set_option maxHeartbeats 4000000 in
set_option maxRecDepth 100000 in
theorem wMa_within_15 {p : Program} {l : Launch} {e : Env} {s : State} {m : MethodId} {args : Array Value} {below : List Frame} {meth : Method} {c : Code} {A : Nat → Prop} {Q : State → Prop} {D : va_G} {cs : Nat → ClassId} {r : Int32} {N : Nat} (S : Fx p m c cX6_within 3 s args RX6) (hK : va_K D vwCl (tyL cs) s) (hA : ∀ x, s.heap.size ≤ x → A x) (hQ : ∀ (H : Heap) (locs : List Loc) (pc : Nat) (ls : Array Slot), decode cX6_within pc = .ok (.ireturn, 1) → narrow .boolean (.int r) = .int r → Wd D A s.heap [] H locs → W p l e { frames := 0, cells := 0, slots := 0, locals := 0 } s m args below meth c H locs 0 0 Q (F0 m pc ls [.int r])) : ∀ (k0 : Int32) (H : Heap) (locs : List Loc) (ls : Array Slot), fMa_within_15 N k0 = some r → Wd D A s.heap [] H locs → lv_has ls 3 [] → W p l e { frames := 0, cells := 0, slots := 0, locals := 0 } s m args below meth c H locs 0 0 Q (F0 m 15 ls [.int k0]) := by
  intro k0 H locs ls h hW hl
  unfold fMa_within_15 at h
  obtain ⟨hb_1, h⟩ := gB_some h
  obtain rfl := pr1 h
  exact hQ _ _ _ _ dX6_within_15 hb_1 hW
set_option maxHeartbeats 4000000 in
set_option maxRecDepth 100000 in
theorem wMa_within_14 {p : Program} {l : Launch} {e : Env} {s : State} {m : MethodId} {args : Array Value} {below : List Frame} {meth : Method} {c : Code} {A : Nat → Prop} {Q : State → Prop} {D : va_G} {cs : Nat → ClassId} {r : Int32} {N : Nat} (S : Fx p m c cX6_within 3 s args RX6) (hK : va_K D vwCl (tyL cs) s) (hA : ∀ x, s.heap.size ≤ x → A x) (hQ : ∀ (H : Heap) (locs : List Loc) (pc : Nat) (ls : Array Slot), decode cX6_within pc = .ok (.ireturn, 1) → narrow .boolean (.int r) = .int r → Wd D A s.heap [] H locs → W p l e { frames := 0, cells := 0, slots := 0, locals := 0 } s m args below meth c H locs 0 0 Q (F0 m pc ls [.int r])) : ∀ (H : Heap) (locs : List Loc) (ls : Array Slot), fMa_within_14 N = some r → Wd D A s.heap [] H locs → lv_has ls 3 [] → W p l e { frames := 0, cells := 0, slots := 0, locals := 0 } s m args below meth c H locs 0 0 Q (F0 m 14 ls []) := by
  intro  H locs ls h hW hl
  unfold fMa_within_14 at h
  refine lv_iconst (v := 0) S.1 S.2.1 dX6_within_14 (by decide) ?_
  exact wMa_within_15 S hK hA hQ (0 : Int32) _ _ _ h hW (lv_sub hl [] rfl)
set_option maxHeartbeats 4000000 in
set_option maxRecDepth 100000 in
theorem cMa_within (l : Launch) (D : va_G) (cs : Nat → ClassId) (p0 : Int32) (p1 : Int32) (p2 : Int32) (N : Nat) {r : Int32} (h : fMa_within N p0 p1 p2 = some r) : Ki l D cs none yX6_within cX6_within 3 (some .boolean) 0 0 [] [.int p0, .int p1, .int p2] r [] := by
  refine Ki_of (by decide +kernel) (Nat.le_of_ble_eq_true rfl) (fun p e s m below meth c A S hK hA hZ Q hQ ls hl hW => ?_)
  have hl : lv_has ls 3 [(0, .int p0), (1, .int p1), (2, .int p2)] := hl
  unfold fMa_within at h
  refine lv_iload_n S.1 S.2.1 dX6_within_0 rfl (lv_at hl 1 rfl) ?_
  refine lv_iload_n S.1 S.2.1 dX6_within_1 rfl (lv_at hl 0 rfl) ?_
  refine lv_icmp_gt (tgt := 14) S.1 S.2.1 dX6_within_2 (by decide) (fun c_2 => ?_) (fun c_2 => ?_)
  · have h := ite_t c_2 h
    exact wMa_within_14 S hK hA hQ _ _ _ h hW (lv_sub hl [] rfl)
  · have h := ite_f c_2 h
    refine lv_iload_n S.1 S.2.1 dX6_within_5 rfl (lv_at hl 0 rfl) ?_
    refine lv_iload_n S.1 S.2.1 dX6_within_6 rfl (lv_at hl 2 rfl) ?_
    refine lv_icmp_gt (tgt := 14) S.1 S.2.1 dX6_within_7 (by decide) (fun c_3 => ?_) (fun c_3 => ?_)
    · have h := ite_t c_3 h
      exact wMa_within_14 S hK hA hQ _ _ _ h hW (lv_sub hl [] rfl)
    · have h := ite_f c_3 h
      refine lv_iconst (v := 1) S.1 S.2.1 dX6_within_10 (by decide) ?_
      refine lv_goto (tgt := 15) S.1 S.2.1 dX6_within_11 (by decide) ?_
      exact wMa_within_15 S hK hA hQ (1 : Int32) _ _ _ h hW (lv_sub hl [] rfl)
set_option maxHeartbeats 4000000 in
set_option maxRecDepth 100000 in
theorem wMa_write_36 {p : Program} {l : Launch} {e : Env} {s : State} {m : MethodId} {args : Array Value} {below : List Frame} {meth : Method} {c : Code} {A : Nat → Prop} {Q : State → Prop} {D : va_G} {cs : Nat → ClassId} {a aS aT aE aG aD aR : Nat → Nat} {μ : St} {ς : St} {ε : St} {γ : St} {Γ : Nat → Int64} {δ : St} {ρ : St} {dr : Nat} {r : Int32} {τ' : St} {N : Nat} (S : Fx p m c cX6_write 4 s args RX6) (hK : va_K D vwCl (tyL cs) s) (hA : ∀ x, s.heap.size ≤ x → A x) (hQ : ∀ (H : Heap) (locs : List Loc) (pc : Nat) (ls : Array Slot), decode cX6_write pc = .ok (.ireturn, 1) → narrow .int (.int r) = .int r → Wd D A s.heap (wMa cs a (aT 0) (aS 0) (aD 0) (aG 0) (aR 0) (aE 0) μ ++ (wSc cs aS (aT 0) ς ++ (wTe cs aT τ' ++ (wRo cs aE ε ++ (wGa cs aG (aD 0) (aR 0) γ Γ ++ (wDa cs aD dr δ ++ (wRo cs aR ρ))))))) H locs → W p l e { frames := 1, cells := 0, slots := 0, locals := 24 } s m args below meth c H locs 0 0 Q (F0 m pc ls [.int r])) : ∀ (k0 : Int32) (τ : St) (H : Heap) (locs : List Loc) (ls : Array Slot), fMa_write_36 N k0 τ = some (r, τ') → Wd D A s.heap (wMa cs a (aT 0) (aS 0) (aD 0) (aG 0) (aR 0) (aE 0) μ ++ (wSc cs aS (aT 0) ς ++ (wTe cs aT τ ++ (wRo cs aE ε ++ (wGa cs aG (aD 0) (aR 0) γ Γ ++ (wDa cs aD dr δ ++ (wRo cs aR ρ))))))) H locs → lv_has ls 4 [] → W p l e { frames := 1, cells := 0, slots := 0, locals := 24 } s m args below meth c H locs 0 0 Q (F0 m 36 ls [.int k0]) := by
  intro k0 τ H locs ls h hW hl
  unfold fMa_write_36 at h
  obtain ⟨rfl, rfl⟩ := pr2 h
  exact hQ _ _ _ _ dX6_write_36 rfl hW
set_option maxHeartbeats 4000000 in
set_option maxRecDepth 100000 in
theorem cMa_write (l : Launch) (D : va_G) (cs : Nat → ClassId) (a aS aT aE aG aD aR : Nat → Nat) (μ : St) (ς : St) (τ : St) (ε : St) (γ : St) (Γ : Nat → Int64) (δ : St) (ρ : St) (dr : Nat) (p0 : Int32) (p1 : Int64) (N : Nat) {r : Int32} {τ' : St} (h : fMa_write N p0 p1 τ = some (r, τ')) : Ki l D cs none yX6_write cX6_write 4 (some .int) 1 24 (wMa cs a (aT 0) (aS 0) (aD 0) (aG 0) (aR 0) (aE 0) μ ++ (wSc cs aS (aT 0) ς ++ (wTe cs aT τ ++ (wRo cs aE ε ++ (wGa cs aG (aD 0) (aR 0) γ Γ ++ (wDa cs aD dr δ ++ (wRo cs aR ρ))))))) [.ref (a 0), .int p0, .long p1] r (wMa cs a (aT 0) (aS 0) (aD 0) (aG 0) (aR 0) (aE 0) μ ++ (wSc cs aS (aT 0) ς ++ (wTe cs aT τ' ++ (wRo cs aE ε ++ (wGa cs aG (aD 0) (aR 0) γ Γ ++ (wDa cs aD dr δ ++ (wRo cs aR ρ))))))) := by
  refine Ki_of (by decide +kernel) (Nat.le_of_ble_eq_true rfl) (fun p e s m below meth c A S hK hA hZ Q hQ ls hl hW => ?_)
  have hl : lv_has ls 4 [(0, .ref (a 0)), (1, .int p0), (2, .long p1)] := hl
  unfold fMa_write at h
  refine lv_iload_n S.1 S.2.1 dX6_write_0 rfl (lv_at hl 1 rfl) ?_
  refine lv_iconst (v := 1) S.1 S.2.1 dX6_write_1 (by decide) ?_
  refine lv_bipush (v := 8) S.1 S.2.1 dX6_write_2 (by decide) ?_
  obtain ⟨r_1, hc_2, h⟩ := cl1_some h
  refine kS_i (As := [.int p0, .int (1 : Int32), .int (8 : Int32)]) (rest := []) S hK hA (z := none) trivial [] (wMa cs a (aT 0) (aS 0) (aD 0) (aG 0) (aR 0) (aE 0) μ ++ (wSc cs aS (aT 0) ς ++ (wTe cs aT τ ++ (wRo cs aE ε ++ (wGa cs aG (aD 0) (aR 0) γ Γ ++ (wDa cs aD dr δ ++ (wRo cs aR ρ))))))) hW (cMa_within l D cs p0 (1 : Int32) (8 : Int32) N hc_2) lk_X6_88 q278 ⟨Nat.le_of_ble_eq_true rfl, Nat.le_of_ble_eq_true rfl⟩ rfl (Nat.le_of_ble_eq_true rfl) hl.1 dX6_write_4 ⟨Nat.zero_le _, Nat.zero_le _⟩ (fun H locs hW => ?_)
  have hW : Wd D A s.heap (wMa cs a (aT 0) (aS 0) (aD 0) (aG 0) (aR 0) (aE 0) μ ++ (wSc cs aS (aT 0) ς ++ (wTe cs aT τ ++ (wRo cs aE ε ++ (wGa cs aG (aD 0) (aR 0) γ Γ ++ (wDa cs aD dr δ ++ (wRo cs aR ρ))))))) H locs := hW
  refine lv_if_ne (tgt := 12) S.1 S.2.1 dX6_write_7 (by decide) (fun c_3 => ?_) (fun c_3 => ?_)
  · have h := ite_f c_3 h
    refine lv_aload_n S.1 S.2.1 dX6_write_12 rfl (lv_at hl 0 rfl) ?_
    refine gMa_text S hK hW dX6_write_13 ?_
    refine lv_iload_n S.1 S.2.1 dX6_write_16 rfl (lv_at hl 1 rfl) ?_
    refine lv_lload_n S.1 S.2.1 dX6_write_17 rfl (lv_at hl 2 rfl) ?_
    obtain ⟨r_4, τ_5, hc_6, h⟩ := cl2_some h
    have hW := kw (w' := (wMa cs a (aT 0) (aS 0) (aD 0) (aG 0) (aR 0) (aE 0) μ ++ (wSc cs aS (aT 0) ς)) ++ ((wTe cs aT τ) ++ (wRo cs aE ε ++ (wGa cs aG (aD 0) (aR 0) γ Γ ++ (wDa cs aD dr δ ++ (wRo cs aR ρ)))))) (by simp only [List.append_assoc, List.nil_append, List.append_nil]) hW
    refine kV_i (As := [.int p0, .long p1]) (rest := []) S hK hA (z := none) trivial (wMa cs a (aT 0) (aS 0) (aD 0) (aG 0) (aR 0) (aE 0) μ ++ (wSc cs aS (aT 0) ς)) (wRo cs aE ε ++ (wGa cs aG (aD 0) (aR 0) γ Γ ++ (wDa cs aD dr δ ++ (wRo cs aR ρ)))) hW (cTe_append l D cs aT τ p0 p1 N hc_6) (ci := 4) rfl rfl lk_X6_92 q281 q282 ⟨Nat.le_of_ble_eq_true rfl, Nat.le_of_ble_eq_true rfl⟩ rfl (Nat.le_of_ble_eq_true rfl) hl.1 dX6_write_18 ⟨Nat.zero_le _, Nat.zero_le _⟩ (fun H locs hW => ?_)
    have hW : Wd D A s.heap (wMa cs a (aT 0) (aS 0) (aD 0) (aG 0) (aR 0) (aE 0) μ ++ (wSc cs aS (aT 0) ς ++ (wTe cs aT τ_5 ++ (wRo cs aE ε ++ (wGa cs aG (aD 0) (aR 0) γ Γ ++ (wDa cs aD dr δ ++ (wRo cs aR ρ))))))) H locs := kw (by simp only [List.append_assoc, List.nil_append, List.append_nil]) hW
    refine lv_if_eq (tgt := 34) S.1 S.2.1 dX6_write_21 (by decide) (fun c_7 => ?_) (fun c_7 => ?_)
    · have h := ite_t c_7 h
      refine lv_bipush (v := -3) S.1 S.2.1 dX6_write_34 (by decide) ?_
      exact wMa_write_36 S hK hA hQ (-3 : Int32) τ_5 _ _ _ h hW (lv_sub hl [] rfl)
    · have h := ite_f c_7 h
      refine lv_aload_n S.1 S.2.1 dX6_write_24 rfl (lv_at hl 0 rfl) ?_
      refine gMa_text S hK hW dX6_write_25 ?_
      obtain ⟨r_8, hc_9, h⟩ := cl1_some h
      have hW := kw (w' := (wMa cs a (aT 0) (aS 0) (aD 0) (aG 0) (aR 0) (aE 0) μ ++ (wSc cs aS (aT 0) ς)) ++ ((wTe cs aT τ_5) ++ (wRo cs aE ε ++ (wGa cs aG (aD 0) (aR 0) γ Γ ++ (wDa cs aD dr δ ++ (wRo cs aR ρ)))))) (by simp only [List.append_assoc, List.nil_append, List.append_nil]) hW
      refine kV_i (As := []) (rest := []) S hK hA (z := none) trivial (wMa cs a (aT 0) (aS 0) (aD 0) (aG 0) (aR 0) (aE 0) μ ++ (wSc cs aS (aT 0) ς)) (wRo cs aE ε ++ (wGa cs aG (aD 0) (aR 0) γ Γ ++ (wDa cs aD dr δ ++ (wRo cs aR ρ)))) hW (cTe_length l D cs aT τ_5 N hc_9) (ci := 4) rfl rfl lk_X6_96 q285 q286 ⟨Nat.le_of_ble_eq_true rfl, Nat.le_of_ble_eq_true rfl⟩ rfl (Nat.le_of_ble_eq_true rfl) hl.1 dX6_write_28 ⟨Nat.zero_le _, Nat.zero_le _⟩ (fun H locs hW => ?_)
      have hW : Wd D A s.heap (wMa cs a (aT 0) (aS 0) (aD 0) (aG 0) (aR 0) (aE 0) μ ++ (wSc cs aS (aT 0) ς ++ (wTe cs aT τ_5 ++ (wRo cs aE ε ++ (wGa cs aG (aD 0) (aR 0) γ Γ ++ (wDa cs aD dr δ ++ (wRo cs aR ρ))))))) H locs := kw (by simp only [List.append_assoc, List.nil_append, List.append_nil]) hW
      refine lv_goto (tgt := 36) S.1 S.2.1 dX6_write_31 (by decide) ?_
      exact wMa_write_36 S hK hA hQ r_8 τ_5 _ _ _ h hW (lv_sub hl [] rfl)
  · have h := ite_t c_3 h
    refine lv_iconst (v := -1) S.1 S.2.1 dX6_write_10 (by decide) ?_
    obtain ⟨rfl, rfl⟩ := pr2 h
    exact hQ _ _ _ _ dX6_write_11 rfl hW
set_option maxHeartbeats 4000000 in
set_option maxRecDepth 100000 in
theorem cMa_wipe (l : Launch) (D : va_G) (cs : Nat → ClassId) (a aS aT aE aG aD aR : Nat → Nat) (μ : St) (ς : St) (τ : St) (ε : St) (γ : St) (Γ : Nat → Int64) (δ : St) (ρ : St) (dr : Nat) (N : Nat) {r : Int32} {τ' : St} (h : fMa_wipe N τ = some (r, τ')) : Ki l D cs none yX6_wipe cX6_wipe 2 (some .int) 1 20 (wMa cs a (aT 0) (aS 0) (aD 0) (aG 0) (aR 0) (aE 0) μ ++ (wSc cs aS (aT 0) ς ++ (wTe cs aT τ ++ (wRo cs aE ε ++ (wGa cs aG (aD 0) (aR 0) γ Γ ++ (wDa cs aD dr δ ++ (wRo cs aR ρ))))))) [.ref (a 0)] r (wMa cs a (aT 0) (aS 0) (aD 0) (aG 0) (aR 0) (aE 0) μ ++ (wSc cs aS (aT 0) ς ++ (wTe cs aT τ' ++ (wRo cs aE ε ++ (wGa cs aG (aD 0) (aR 0) γ Γ ++ (wDa cs aD dr δ ++ (wRo cs aR ρ))))))) := by
  refine Ki_of (by decide +kernel) (Nat.le_of_ble_eq_true rfl) (fun p e s m below meth c A S hK hA hZ Q hQ ls hl hW => ?_)
  have hl : lv_has ls 2 [(0, .ref (a 0))] := hl
  unfold fMa_wipe at h
  refine lv_aload_n S.1 S.2.1 dX6_wipe_0 rfl (lv_at hl 0 rfl) ?_
  refine gMa_text S hK hW dX6_wipe_1 ?_
  obtain ⟨r_1, hc_2, h⟩ := cl1_some h
  have hW := kw (w' := (wMa cs a (aT 0) (aS 0) (aD 0) (aG 0) (aR 0) (aE 0) μ ++ (wSc cs aS (aT 0) ς)) ++ ((wTe cs aT τ) ++ (wRo cs aE ε ++ (wGa cs aG (aD 0) (aR 0) γ Γ ++ (wDa cs aD dr δ ++ (wRo cs aR ρ)))))) (by simp only [List.append_assoc, List.nil_append, List.append_nil]) hW
  refine kV_i (As := []) (rest := []) S hK hA (z := none) trivial (wMa cs a (aT 0) (aS 0) (aD 0) (aG 0) (aR 0) (aE 0) μ ++ (wSc cs aS (aT 0) ς)) (wRo cs aE ε ++ (wGa cs aG (aD 0) (aR 0) γ Γ ++ (wDa cs aD dr δ ++ (wRo cs aR ρ)))) hW (cTe_length l D cs aT τ N hc_2) (ci := 4) rfl rfl lk_X6_96 q285 q286 ⟨Nat.le_of_ble_eq_true rfl, Nat.le_of_ble_eq_true rfl⟩ rfl (Nat.le_of_ble_eq_true rfl) hl.1 dX6_wipe_4 ⟨Nat.zero_le _, Nat.zero_le _⟩ (fun H locs hW => ?_)
  have hW : Wd D A s.heap (wMa cs a (aT 0) (aS 0) (aD 0) (aG 0) (aR 0) (aE 0) μ ++ (wSc cs aS (aT 0) ς ++ (wTe cs aT τ ++ (wRo cs aE ε ++ (wGa cs aG (aD 0) (aR 0) γ Γ ++ (wDa cs aD dr δ ++ (wRo cs aR ρ))))))) H locs := kw (by simp only [List.append_assoc, List.nil_append, List.append_nil]) hW
  refine lv_istore_n (lv' := [(1, .int r_1), (0, .ref (a 0))]) S.1 S.2.1 dX6_wipe_7 rfl hl (by decide) rfl (fun ls hl => ?_)
  refine lv_aload_n S.1 S.2.1 dX6_wipe_8 rfl (lv_at hl 1 rfl) ?_
  refine gMa_text S hK hW dX6_wipe_9 ?_
  obtain ⟨τ_3, hc_4, h⟩ := cl1_some h
  have hW := kw (w' := (wMa cs a (aT 0) (aS 0) (aD 0) (aG 0) (aR 0) (aE 0) μ ++ (wSc cs aS (aT 0) ς)) ++ ((wTe cs aT τ) ++ (wRo cs aE ε ++ (wGa cs aG (aD 0) (aR 0) γ Γ ++ (wDa cs aD dr δ ++ (wRo cs aR ρ)))))) (by simp only [List.append_assoc, List.nil_append, List.append_nil]) hW
  refine kV_v (As := []) (rest := []) S hK hA (z := none) trivial (wMa cs a (aT 0) (aS 0) (aD 0) (aG 0) (aR 0) (aE 0) μ ++ (wSc cs aS (aT 0) ς)) (wRo cs aE ε ++ (wGa cs aG (aD 0) (aR 0) γ Γ ++ (wDa cs aD dr δ ++ (wRo cs aR ρ)))) hW (cTe_clear l D cs aT τ N hc_4) (ci := 4) rfl rfl lk_X6_99 q293 q294 ⟨Nat.le_of_ble_eq_true rfl, Nat.le_of_ble_eq_true rfl⟩ rfl (Nat.le_of_ble_eq_true rfl) hl.1 dX6_wipe_12 ⟨Nat.zero_le _, Nat.zero_le _⟩ (fun H locs hW => ?_)
  have hW : Wd D A s.heap (wMa cs a (aT 0) (aS 0) (aD 0) (aG 0) (aR 0) (aE 0) μ ++ (wSc cs aS (aT 0) ς ++ (wTe cs aT τ_3 ++ (wRo cs aE ε ++ (wGa cs aG (aD 0) (aR 0) γ Γ ++ (wDa cs aD dr δ ++ (wRo cs aR ρ))))))) H locs := kw (by simp only [List.append_assoc, List.nil_append, List.append_nil]) hW
  refine lv_iload_n S.1 S.2.1 dX6_wipe_15 rfl (lv_at hl 0 rfl) ?_
  obtain ⟨rfl, rfl⟩ := pr2 h
  exact hQ _ _ _ _ dX6_wipe_16 rfl hW
set_option maxHeartbeats 4000000 in
set_option maxRecDepth 100000 in
theorem cMa_fault (l : Launch) (D : va_G) (cs : Nat → ClassId) (fs : Nat → Nat) (a aS aT aE aG aD aR : Nat → Nat) (μ : St) (ς : St) (τ : St) (ε : St) (γ : St) (Γ : Nat → Int64) (δ : St) (ρ : St) (dr : Nat) (N : Nat) {r : Int32} {ς' : St} {ε' : St} (h : fMa_fault N τ ς ε = some (r, ς', ε')) : Ki l D cs (some fs) yX6_fault cX6_fault 1 (some .int) 4 127 (wMa cs a (aT 0) (aS 0) (aD 0) (aG 0) (aR 0) (aE 0) μ ++ (wSc cs aS (aT 0) ς ++ (wTe cs aT τ ++ (wRo cs aE ε ++ (wGa cs aG (aD 0) (aR 0) γ Γ ++ (wDa cs aD dr δ ++ (wRo cs aR ρ))))))) [.ref (a 0)] r (wMa cs a (aT 0) (aS 0) (aD 0) (aG 0) (aR 0) (aE 0) μ ++ (wSc cs aS (aT 0) ς' ++ (wTe cs aT τ ++ (wRo cs aE ε' ++ (wGa cs aG (aD 0) (aR 0) γ Γ ++ (wDa cs aD dr δ ++ (wRo cs aR ρ))))))) := by
  refine Ki_of (by decide +kernel) (Nat.le_of_ble_eq_true rfl) (fun p e s m below meth c A S hK hA hZ Q hQ ls hl hW => ?_)
  have hl : lv_has ls 1 [(0, .ref (a 0))] := hl
  unfold fMa_fault at h
  refine lv_aload_n S.1 S.2.1 dX6_fault_0 rfl (lv_at hl 0 rfl) ?_
  refine gMa_scan S hK hW dX6_fault_1 ?_
  refine lv_aload_n S.1 S.2.1 dX6_fault_4 rfl (lv_at hl 0 rfl) ?_
  refine gMa_draft S hK hW dX6_fault_5 ?_
  obtain ⟨r_1, ς_2, ε_3, hc_4, h⟩ := cl3_some h
  have hW := kw (w' := (wMa cs a (aT 0) (aS 0) (aD 0) (aG 0) (aR 0) (aE 0) μ) ++ ((wSc cs aS (aT 0) ς ++ (wTe cs aT τ ++ (wRo cs aE ε))) ++ (wGa cs aG (aD 0) (aR 0) γ Γ ++ (wDa cs aD dr δ ++ (wRo cs aR ρ))))) (by simp only [List.append_assoc, List.nil_append, List.append_nil]) hW
  refine kV_i (As := [.ref (aE 0)]) (rest := []) S hK hA (z := (some fs)) hZ (wMa cs a (aT 0) (aS 0) (aD 0) (aG 0) (aR 0) (aE 0) μ) (wGa cs aG (aD 0) (aR 0) γ Γ ++ (wDa cs aD dr δ ++ (wRo cs aR ρ))) hW (cSc_readInto l D cs fs aS aT aE ς τ ε N hc_4) (ci := 3) rfl rfl lk_X6_102 q301 q302 ⟨Nat.le_of_ble_eq_true rfl, Nat.le_of_ble_eq_true rfl⟩ rfl (Nat.le_of_ble_eq_true rfl) hl.1 dX6_fault_8 ⟨Nat.zero_le _, Nat.zero_le _⟩ (fun H locs hW => ?_)
  have hW : Wd D A s.heap (wMa cs a (aT 0) (aS 0) (aD 0) (aG 0) (aR 0) (aE 0) μ ++ (wSc cs aS (aT 0) ς_2 ++ (wTe cs aT τ ++ (wRo cs aE ε_3 ++ (wGa cs aG (aD 0) (aR 0) γ Γ ++ (wDa cs aD dr δ ++ (wRo cs aR ρ))))))) H locs := kw (by simp only [List.append_assoc, List.nil_append, List.append_nil]) hW
  obtain ⟨rfl, rfl, rfl⟩ := pr3 h
  exact hQ _ _ _ _ dX6_fault_11 rfl hW
set_option maxHeartbeats 4000000 in
set_option maxRecDepth 100000 in
theorem cMa_isReader (l : Launch) (D : va_G) (cs : Nat → ClassId) (a aS aT aE aG aD aR : Nat → Nat) (μ : St) (ς : St) (τ : St) (ε : St) (γ : St) (Γ : Nat → Int64) (δ : St) (ρ : St) (dr : Nat) (p0 : Int32) (N : Nat) {r : Int32} (h : fMa_isReader N p0 ρ = some r) : Ki l D cs none yX6_isReader cX6_isReader 2 (some .boolean) 1 22 (wMa cs a (aT 0) (aS 0) (aD 0) (aG 0) (aR 0) (aE 0) μ ++ (wSc cs aS (aT 0) ς ++ (wTe cs aT τ ++ (wRo cs aE ε ++ (wGa cs aG (aD 0) (aR 0) γ Γ ++ (wDa cs aD dr δ ++ (wRo cs aR ρ))))))) [.ref (a 0), .int p0] r (wMa cs a (aT 0) (aS 0) (aD 0) (aG 0) (aR 0) (aE 0) μ ++ (wSc cs aS (aT 0) ς ++ (wTe cs aT τ ++ (wRo cs aE ε ++ (wGa cs aG (aD 0) (aR 0) γ Γ ++ (wDa cs aD dr δ ++ (wRo cs aR ρ))))))) := by
  refine Ki_of (by decide +kernel) (Nat.le_of_ble_eq_true rfl) (fun p e s m below meth c A S hK hA hZ Q hQ ls hl hW => ?_)
  have hl : lv_has ls 2 [(0, .ref (a 0)), (1, .int p0)] := hl
  unfold fMa_isReader at h
  refine lv_iload_n S.1 S.2.1 dX6_isReader_0 rfl (lv_at hl 1 rfl) ?_
  refine lv_iconst (v := 0) S.1 S.2.1 dX6_isReader_1 (by decide) ?_
  refine lv_aload_n S.1 S.2.1 dX6_isReader_2 rfl (lv_at hl 0 rfl) ?_
  refine gMa_laid S hK hW dX6_isReader_3 ?_
  obtain ⟨r_1, hc_2, h⟩ := cl1_some h
  have hW := kw (w' := (wMa cs a (aT 0) (aS 0) (aD 0) (aG 0) (aR 0) (aE 0) μ ++ (wSc cs aS (aT 0) ς ++ (wTe cs aT τ ++ (wRo cs aE ε ++ (wGa cs aG (aD 0) (aR 0) γ Γ ++ (wDa cs aD dr δ)))))) ++ ((wRo cs aR ρ) ++ [])) (by simp only [List.append_assoc, List.nil_append, List.append_nil]) hW
  refine kV_i (As := []) (rest := [.int (0 : Int32), .int p0]) S hK hA (z := none) trivial (wMa cs a (aT 0) (aS 0) (aD 0) (aG 0) (aR 0) (aE 0) μ ++ (wSc cs aS (aT 0) ς ++ (wTe cs aT τ ++ (wRo cs aE ε ++ (wGa cs aG (aD 0) (aR 0) γ Γ ++ (wDa cs aD dr δ)))))) [] hW (cRo_readerCount l D cs aR ρ N hc_2) (ci := 2) rfl rfl lk_X6_109 q358 q359 ⟨Nat.le_of_ble_eq_true rfl, Nat.le_of_ble_eq_true rfl⟩ rfl (Nat.le_of_ble_eq_true rfl) hl.1 dX6_isReader_6 ⟨Nat.zero_le _, Nat.zero_le _⟩ (fun H locs hW => ?_)
  have hW : Wd D A s.heap (wMa cs a (aT 0) (aS 0) (aD 0) (aG 0) (aR 0) (aE 0) μ ++ (wSc cs aS (aT 0) ς ++ (wTe cs aT τ ++ (wRo cs aE ε ++ (wGa cs aG (aD 0) (aR 0) γ Γ ++ (wDa cs aD dr δ ++ (wRo cs aR ρ))))))) H locs := kw (by simp only [List.append_assoc, List.nil_append, List.append_nil]) hW
  refine lv_iconst (v := 1) S.1 S.2.1 dX6_isReader_9 (by decide) ?_
  refine lv_isub S.1 S.2.1 dX6_isReader_10 ?_
  obtain ⟨r_3, hc_4, h⟩ := cl1_some h
  refine kS_i (As := [.int p0, .int (0 : Int32), .int (r_1 - (1 : Int32))]) (rest := []) S hK hA (z := none) trivial [] (wMa cs a (aT 0) (aS 0) (aD 0) (aG 0) (aR 0) (aE 0) μ ++ (wSc cs aS (aT 0) ς ++ (wTe cs aT τ ++ (wRo cs aE ε ++ (wGa cs aG (aD 0) (aR 0) γ Γ ++ (wDa cs aD dr δ ++ (wRo cs aR ρ))))))) hW (cMa_within l D cs p0 (0 : Int32) (r_1 - (1 : Int32)) N hc_4) lk_X6_88 q278 ⟨Nat.le_of_ble_eq_true rfl, Nat.le_of_ble_eq_true rfl⟩ rfl (Nat.le_of_ble_eq_true rfl) hl.1 dX6_isReader_11 ⟨Nat.zero_le _, Nat.zero_le _⟩ (fun H locs hW => ?_)
  have hW : Wd D A s.heap (wMa cs a (aT 0) (aS 0) (aD 0) (aG 0) (aR 0) (aE 0) μ ++ (wSc cs aS (aT 0) ς ++ (wTe cs aT τ ++ (wRo cs aE ε ++ (wGa cs aG (aD 0) (aR 0) γ Γ ++ (wDa cs aD dr δ ++ (wRo cs aR ρ))))))) H locs := hW
  obtain ⟨hb_5, h⟩ := gB_some h
  obtain rfl := pr1 h
  exact hQ _ _ _ _ dX6_isReader_14 hb_5 hW
set_option maxHeartbeats 4000000 in
set_option maxRecDepth 100000 in
theorem wMa_reader_18 {p : Program} {l : Launch} {e : Env} {s : State} {m : MethodId} {args : Array Value} {below : List Frame} {meth : Method} {c : Code} {A : Nat → Prop} {Q : State → Prop} {D : va_G} {cs : Nat → ClassId} {a aS aT aE aG aD aR : Nat → Nat} {μ : St} {ς : St} {τ : St} {ε : St} {γ : St} {Γ : Nat → Int64} {δ : St} {ρ : St} {dr : Nat} {r : Int32} {N : Nat} (S : Fx p m c cX6_reader 3 s args RX6) (hK : va_K D vwCl (tyL cs) s) (hA : ∀ x, s.heap.size ≤ x → A x) (hQ : ∀ (H : Heap) (locs : List Loc) (pc : Nat) (ls : Array Slot), decode cX6_reader pc = .ok (.ireturn, 1) → narrow .int (.int r) = .int r → Wd D A s.heap (wMa cs a (aT 0) (aS 0) (aD 0) (aG 0) (aR 0) (aE 0) μ ++ (wSc cs aS (aT 0) ς ++ (wTe cs aT τ ++ (wRo cs aE ε ++ (wGa cs aG (aD 0) (aR 0) γ Γ ++ (wDa cs aD dr δ ++ (wRo cs aR ρ))))))) H locs → W p l e { frames := 2, cells := 0, slots := 0, locals := 43 } s m args below meth c H locs 0 0 Q (F0 m pc ls [.int r])) : ∀ (H : Heap) (locs : List Loc) (ls : Array Slot), fMa_reader_18 N μ ρ = some r → Wd D A s.heap (wMa cs a (aT 0) (aS 0) (aD 0) (aG 0) (aR 0) (aE 0) μ ++ (wSc cs aS (aT 0) ς ++ (wTe cs aT τ ++ (wRo cs aE ε ++ (wGa cs aG (aD 0) (aR 0) γ Γ ++ (wDa cs aD dr δ ++ (wRo cs aR ρ))))))) H locs → lv_has ls 3 [] → W p l e { frames := 2, cells := 0, slots := 0, locals := 43 } s m args below meth c H locs 0 0 Q (F0 m 18 ls []) := by
  intro  H locs ls h hW hl
  unfold fMa_reader_18 at h
  refine lv_iconst (v := -1) S.1 S.2.1 dX6_reader_18 (by decide) ?_
  obtain rfl := pr1 h
  exact hQ _ _ _ _ dX6_reader_19 rfl hW
set_option maxHeartbeats 4000000 in
set_option maxRecDepth 100000 in
theorem wMa_reader_46 {p : Program} {l : Launch} {e : Env} {s : State} {m : MethodId} {args : Array Value} {below : List Frame} {meth : Method} {c : Code} {A : Nat → Prop} {Q : State → Prop} {D : va_G} {cs : Nat → ClassId} {a aS aT aE aG aD aR : Nat → Nat} {μ : St} {ς : St} {τ : St} {ε : St} {γ : St} {Γ : Nat → Int64} {δ : St} {ρ : St} {dr : Nat} {r : Int32} {N : Nat} (S : Fx p m c cX6_reader 3 s args RX6) (hK : va_K D vwCl (tyL cs) s) (hA : ∀ x, s.heap.size ≤ x → A x) (hQ : ∀ (H : Heap) (locs : List Loc) (pc : Nat) (ls : Array Slot), decode cX6_reader pc = .ok (.ireturn, 1) → narrow .int (.int r) = .int r → Wd D A s.heap (wMa cs a (aT 0) (aS 0) (aD 0) (aG 0) (aR 0) (aE 0) μ ++ (wSc cs aS (aT 0) ς ++ (wTe cs aT τ ++ (wRo cs aE ε ++ (wGa cs aG (aD 0) (aR 0) γ Γ ++ (wDa cs aD dr δ ++ (wRo cs aR ρ))))))) H locs → W p l e { frames := 2, cells := 0, slots := 0, locals := 43 } s m args below meth c H locs 0 0 Q (F0 m pc ls [.int r])) : ∀ (k0 : Int32) (H : Heap) (locs : List Loc) (ls : Array Slot), fMa_reader_46 N μ ρ k0 = some r → Wd D A s.heap (wMa cs a (aT 0) (aS 0) (aD 0) (aG 0) (aR 0) (aE 0) μ ++ (wSc cs aS (aT 0) ς ++ (wTe cs aT τ ++ (wRo cs aE ε ++ (wGa cs aG (aD 0) (aR 0) γ Γ ++ (wDa cs aD dr δ ++ (wRo cs aR ρ))))))) H locs → lv_has ls 3 [] → W p l e { frames := 2, cells := 0, slots := 0, locals := 43 } s m args below meth c H locs 0 0 Q (F0 m 46 ls [.int k0]) := by
  intro k0 H locs ls h hW hl
  unfold fMa_reader_46 at h
  obtain rfl := pr1 h
  exact hQ _ _ _ _ dX6_reader_46 rfl hW
set_option maxHeartbeats 4000000 in
set_option maxRecDepth 100000 in
theorem cMa_reader (l : Launch) (D : va_G) (cs : Nat → ClassId) (a aS aT aE aG aD aR : Nat → Nat) (μ : St) (ς : St) (τ : St) (ε : St) (γ : St) (Γ : Nat → Int64) (δ : St) (ρ : St) (dr : Nat) (p0 : Int32) (p1 : Int32) (N : Nat) {r : Int32} (h : fMa_reader N p0 p1 μ ρ = some r) : Ki l D cs none yX6_reader cX6_reader 3 (some .int) 2 43 (wMa cs a (aT 0) (aS 0) (aD 0) (aG 0) (aR 0) (aE 0) μ ++ (wSc cs aS (aT 0) ς ++ (wTe cs aT τ ++ (wRo cs aE ε ++ (wGa cs aG (aD 0) (aR 0) γ Γ ++ (wDa cs aD dr δ ++ (wRo cs aR ρ))))))) [.ref (a 0), .int p0, .int p1] r (wMa cs a (aT 0) (aS 0) (aD 0) (aG 0) (aR 0) (aE 0) μ ++ (wSc cs aS (aT 0) ς ++ (wTe cs aT τ ++ (wRo cs aE ε ++ (wGa cs aG (aD 0) (aR 0) γ Γ ++ (wDa cs aD dr δ ++ (wRo cs aR ρ))))))) := by
  refine Ki_of (by decide +kernel) (Nat.le_of_ble_eq_true rfl) (fun p e s m below meth c A S hK hA hZ Q hQ ls hl hW => ?_)
  have hl : lv_has ls 3 [(0, .ref (a 0)), (1, .int p0), (2, .int p1)] := hl
  unfold fMa_reader at h
  refine lv_aload_n S.1 S.2.1 dX6_reader_0 rfl (lv_at hl 0 rfl) ?_
  refine lv_iload_n S.1 S.2.1 dX6_reader_1 rfl (lv_at hl 1 rfl) ?_
  obtain ⟨r_1, hc_2, h⟩ := cl1_some h
  have hW := kw_same hW
  refine kV_i (As := [.int p0]) (rest := []) S hK hA (z := none) trivial [] [] hW (cMa_isReader l D cs a aS aT aE aG aD aR μ ς τ ε γ Γ δ ρ dr p0 N hc_2) (ci := 5) rfl rfl lk_X6_115 q371 q3 ⟨Nat.le_of_ble_eq_true rfl, Nat.le_of_ble_eq_true rfl⟩ rfl (Nat.le_of_ble_eq_true rfl) hl.1 dX6_reader_2 ⟨Nat.zero_le _, Nat.zero_le _⟩ (fun H locs hW => ?_)
  have hW : Wd D A s.heap (wMa cs a (aT 0) (aS 0) (aD 0) (aG 0) (aR 0) (aE 0) μ ++ (wSc cs aS (aT 0) ς ++ (wTe cs aT τ ++ (wRo cs aE ε ++ (wGa cs aG (aD 0) (aR 0) γ Γ ++ (wDa cs aD dr δ ++ (wRo cs aR ρ))))))) H locs := kw_back hW
  refine lv_if_eq (tgt := 18) S.1 S.2.1 dX6_reader_5 (by decide) (fun c_3 => ?_) (fun c_3 => ?_)
  · have h := ite_t c_3 h
    exact wMa_reader_18 S hK hA hQ _ _ _ h hW (lv_sub hl [] rfl)
  · have h := ite_f c_3 h
    refine lv_iload_n S.1 S.2.1 dX6_reader_8 rfl (lv_at hl 2 rfl) ?_
    refine lv_iconst (v := 0) S.1 S.2.1 dX6_reader_9 (by decide) ?_
    refine lv_bipush (v := 7) S.1 S.2.1 dX6_reader_10 (by decide) ?_
    obtain ⟨r_4, hc_5, h⟩ := cl1_some h
    refine kS_i (As := [.int p1, .int (0 : Int32), .int (7 : Int32)]) (rest := []) S hK hA (z := none) trivial [] (wMa cs a (aT 0) (aS 0) (aD 0) (aG 0) (aR 0) (aE 0) μ ++ (wSc cs aS (aT 0) ς ++ (wTe cs aT τ ++ (wRo cs aE ε ++ (wGa cs aG (aD 0) (aR 0) γ Γ ++ (wDa cs aD dr δ ++ (wRo cs aR ρ))))))) hW (cMa_within l D cs p1 (0 : Int32) (7 : Int32) N hc_5) lk_X6_88 q278 ⟨Nat.le_of_ble_eq_true rfl, Nat.le_of_ble_eq_true rfl⟩ rfl (Nat.le_of_ble_eq_true rfl) hl.1 dX6_reader_12 ⟨Nat.zero_le _, Nat.zero_le _⟩ (fun H locs hW => ?_)
    have hW : Wd D A s.heap (wMa cs a (aT 0) (aS 0) (aD 0) (aG 0) (aR 0) (aE 0) μ ++ (wSc cs aS (aT 0) ς ++ (wTe cs aT τ ++ (wRo cs aE ε ++ (wGa cs aG (aD 0) (aR 0) γ Γ ++ (wDa cs aD dr δ ++ (wRo cs aR ρ))))))) H locs := hW
    refine lv_if_ne (tgt := 20) S.1 S.2.1 dX6_reader_15 (by decide) (fun c_6 => ?_) (fun c_6 => ?_)
    · have h := ite_f c_6 h
      refine lv_iload_n S.1 S.2.1 dX6_reader_20 rfl (lv_at hl 2 rfl) ?_
      refine lv_bipush (v := 7) S.1 S.2.1 dX6_reader_21 (by decide) ?_
      refine lv_icmp_ne (tgt := 37) S.1 S.2.1 dX6_reader_23 (by decide) (fun c_7 => ?_) (fun c_7 => ?_)
      · have h := ite_f c_7 h
        refine lv_aload_n S.1 S.2.1 dX6_reader_37 rfl (lv_at hl 0 rfl) ?_
        refine gMa_laid S hK hW dX6_reader_38 ?_
        refine lv_iload_n S.1 S.2.1 dX6_reader_41 rfl (lv_at hl 1 rfl) ?_
        refine lv_iload_n S.1 S.2.1 dX6_reader_42 rfl (lv_at hl 2 rfl) ?_
        obtain ⟨r_8, hc_9, h⟩ := cl1_some h
        have hW := kw (w' := (wMa cs a (aT 0) (aS 0) (aD 0) (aG 0) (aR 0) (aE 0) μ ++ (wSc cs aS (aT 0) ς ++ (wTe cs aT τ ++ (wRo cs aE ε ++ (wGa cs aG (aD 0) (aR 0) γ Γ ++ (wDa cs aD dr δ)))))) ++ ((wRo cs aR ρ) ++ [])) (by simp only [List.append_assoc, List.nil_append, List.append_nil]) hW
        refine kV_i (As := [.int p0, .int p1]) (rest := []) S hK hA (z := none) trivial (wMa cs a (aT 0) (aS 0) (aD 0) (aG 0) (aR 0) (aE 0) μ ++ (wSc cs aS (aT 0) ς ++ (wTe cs aT τ ++ (wRo cs aE ε ++ (wGa cs aG (aD 0) (aR 0) γ Γ ++ (wDa cs aD dr δ)))))) [] hW (cRo_number l D cs aR ρ p0 p1 N hc_9) (ci := 2) rfl rfl lk_X6_118 q374 q375 ⟨Nat.le_of_ble_eq_true rfl, Nat.le_of_ble_eq_true rfl⟩ rfl (Nat.le_of_ble_eq_true rfl) hl.1 dX6_reader_43 ⟨Nat.zero_le _, Nat.zero_le _⟩ (fun H locs hW => ?_)
        have hW : Wd D A s.heap (wMa cs a (aT 0) (aS 0) (aD 0) (aG 0) (aR 0) (aE 0) μ ++ (wSc cs aS (aT 0) ς ++ (wTe cs aT τ ++ (wRo cs aE ε ++ (wGa cs aG (aD 0) (aR 0) γ Γ ++ (wDa cs aD dr δ ++ (wRo cs aR ρ))))))) H locs := kw (by simp only [List.append_assoc, List.nil_append, List.append_nil]) hW
        exact wMa_reader_46 S hK hA hQ r_8 _ _ _ h hW (lv_sub hl [] rfl)
      · have h := ite_t c_7 h
        refine lv_aload_n S.1 S.2.1 dX6_reader_26 rfl (lv_at hl 0 rfl) ?_
        refine gMa_holders S hK hW dX6_reader_27 ?_
        refine lv_iload_n S.1 S.2.1 dX6_reader_30 rfl (lv_at hl 1 rfl) ?_
        refine lv_ishr S.1 S.2.1 dX6_reader_31 ?_
        refine lv_iconst (v := 1) S.1 S.2.1 dX6_reader_32 (by decide) ?_
        refine lv_iand S.1 S.2.1 dX6_reader_33 ?_
        refine lv_goto (tgt := 46) S.1 S.2.1 dX6_reader_34 (by decide) ?_
        exact wMa_reader_46 S hK hA hQ (((μ 0 9) >>> (p0 &&& 31)) &&& (1 : Int32)) _ _ _ h hW (lv_sub hl [] rfl)
    · have h := ite_t c_6 h
      exact wMa_reader_18 S hK hA hQ _ _ _ h hW (lv_sub hl [] rfl)
set_option maxHeartbeats 4000000 in
set_option maxRecDepth 100000 in
theorem cMa_isSeat (l : Launch) (D : va_G) (cs : Nat → ClassId) (a aS aT aE aG aD aR : Nat → Nat) (μ : St) (ς : St) (τ : St) (ε : St) (γ : St) (Γ : Nat → Int64) (δ : St) (ρ : St) (dr : Nat) (p0 : Int32) (N : Nat) {r : Int32} (h : fMa_isSeat N p0 ρ = some r) : Ki l D cs none yX6_isSeat cX6_isSeat 2 (some .boolean) 1 22 (wMa cs a (aT 0) (aS 0) (aD 0) (aG 0) (aR 0) (aE 0) μ ++ (wSc cs aS (aT 0) ς ++ (wTe cs aT τ ++ (wRo cs aE ε ++ (wGa cs aG (aD 0) (aR 0) γ Γ ++ (wDa cs aD dr δ ++ (wRo cs aR ρ))))))) [.ref (a 0), .int p0] r (wMa cs a (aT 0) (aS 0) (aD 0) (aG 0) (aR 0) (aE 0) μ ++ (wSc cs aS (aT 0) ς ++ (wTe cs aT τ ++ (wRo cs aE ε ++ (wGa cs aG (aD 0) (aR 0) γ Γ ++ (wDa cs aD dr δ ++ (wRo cs aR ρ))))))) := by
  refine Ki_of (by decide +kernel) (Nat.le_of_ble_eq_true rfl) (fun p e s m below meth c A S hK hA hZ Q hQ ls hl hW => ?_)
  have hl : lv_has ls 2 [(0, .ref (a 0)), (1, .int p0)] := hl
  unfold fMa_isSeat at h
  refine lv_iload_n S.1 S.2.1 dX6_isSeat_0 rfl (lv_at hl 1 rfl) ?_
  refine lv_iconst (v := 0) S.1 S.2.1 dX6_isSeat_1 (by decide) ?_
  refine lv_aload_n S.1 S.2.1 dX6_isSeat_2 rfl (lv_at hl 0 rfl) ?_
  refine gMa_laid S hK hW dX6_isSeat_3 ?_
  obtain ⟨r_1, hc_2, h⟩ := cl1_some h
  have hW := kw (w' := (wMa cs a (aT 0) (aS 0) (aD 0) (aG 0) (aR 0) (aE 0) μ ++ (wSc cs aS (aT 0) ς ++ (wTe cs aT τ ++ (wRo cs aE ε ++ (wGa cs aG (aD 0) (aR 0) γ Γ ++ (wDa cs aD dr δ)))))) ++ ((wRo cs aR ρ) ++ [])) (by simp only [List.append_assoc, List.nil_append, List.append_nil]) hW
  refine kV_i (As := []) (rest := [.int (0 : Int32), .int p0]) S hK hA (z := none) trivial (wMa cs a (aT 0) (aS 0) (aD 0) (aG 0) (aR 0) (aE 0) μ ++ (wSc cs aS (aT 0) ς ++ (wTe cs aT τ ++ (wRo cs aE ε ++ (wGa cs aG (aD 0) (aR 0) γ Γ ++ (wDa cs aD dr δ)))))) [] hW (cRo_seatCount l D cs aR ρ N hc_2) (ci := 2) rfl rfl lk_X6_106 q354 q355 ⟨Nat.le_of_ble_eq_true rfl, Nat.le_of_ble_eq_true rfl⟩ rfl (Nat.le_of_ble_eq_true rfl) hl.1 dX6_isSeat_6 ⟨Nat.zero_le _, Nat.zero_le _⟩ (fun H locs hW => ?_)
  have hW : Wd D A s.heap (wMa cs a (aT 0) (aS 0) (aD 0) (aG 0) (aR 0) (aE 0) μ ++ (wSc cs aS (aT 0) ς ++ (wTe cs aT τ ++ (wRo cs aE ε ++ (wGa cs aG (aD 0) (aR 0) γ Γ ++ (wDa cs aD dr δ ++ (wRo cs aR ρ))))))) H locs := kw (by simp only [List.append_assoc, List.nil_append, List.append_nil]) hW
  refine lv_iconst (v := 1) S.1 S.2.1 dX6_isSeat_9 (by decide) ?_
  refine lv_isub S.1 S.2.1 dX6_isSeat_10 ?_
  obtain ⟨r_3, hc_4, h⟩ := cl1_some h
  refine kS_i (As := [.int p0, .int (0 : Int32), .int (r_1 - (1 : Int32))]) (rest := []) S hK hA (z := none) trivial [] (wMa cs a (aT 0) (aS 0) (aD 0) (aG 0) (aR 0) (aE 0) μ ++ (wSc cs aS (aT 0) ς ++ (wTe cs aT τ ++ (wRo cs aE ε ++ (wGa cs aG (aD 0) (aR 0) γ Γ ++ (wDa cs aD dr δ ++ (wRo cs aR ρ))))))) hW (cMa_within l D cs p0 (0 : Int32) (r_1 - (1 : Int32)) N hc_4) lk_X6_88 q278 ⟨Nat.le_of_ble_eq_true rfl, Nat.le_of_ble_eq_true rfl⟩ rfl (Nat.le_of_ble_eq_true rfl) hl.1 dX6_isSeat_11 ⟨Nat.zero_le _, Nat.zero_le _⟩ (fun H locs hW => ?_)
  have hW : Wd D A s.heap (wMa cs a (aT 0) (aS 0) (aD 0) (aG 0) (aR 0) (aE 0) μ ++ (wSc cs aS (aT 0) ς ++ (wTe cs aT τ ++ (wRo cs aE ε ++ (wGa cs aG (aD 0) (aR 0) γ Γ ++ (wDa cs aD dr δ ++ (wRo cs aR ρ))))))) H locs := hW
  obtain ⟨hb_5, h⟩ := gB_some h
  obtain rfl := pr1 h
  exact hQ _ _ _ _ dX6_isSeat_14 hb_5 hW
set_option maxHeartbeats 4000000 in
set_option maxRecDepth 100000 in
theorem wMa_kind_20 {p : Program} {l : Launch} {e : Env} {s : State} {m : MethodId} {args : Array Value} {below : List Frame} {meth : Method} {c : Code} {A : Nat → Prop} {Q : State → Prop} {D : va_G} {cs : Nat → ClassId} {a aS aT aE aG aD aR : Nat → Nat} {μ : St} {ς : St} {τ : St} {ε : St} {γ : St} {Γ : Nat → Int64} {δ : St} {ρ : St} {dr : Nat} {r : Int32} {N : Nat} (S : Fx p m c cX6_kind 2 s args RX6) (hK : va_K D vwCl (tyL cs) s) (hA : ∀ x, s.heap.size ≤ x → A x) (hQ : ∀ (H : Heap) (locs : List Loc) (pc : Nat) (ls : Array Slot), decode cX6_kind pc = .ok (.ireturn, 1) → narrow .int (.int r) = .int r → Wd D A s.heap (wMa cs a (aT 0) (aS 0) (aD 0) (aG 0) (aR 0) (aE 0) μ ++ (wSc cs aS (aT 0) ς ++ (wTe cs aT τ ++ (wRo cs aE ε ++ (wGa cs aG (aD 0) (aR 0) γ Γ ++ (wDa cs aD dr δ ++ (wRo cs aR ρ))))))) H locs → W p l e { frames := 2, cells := 0, slots := 0, locals := 43 } s m args below meth c H locs 0 0 Q (F0 m pc ls [.int r])) : ∀ (k0 : Int32) (H : Heap) (locs : List Loc) (ls : Array Slot), fMa_kind_20 N ρ k0 = some r → Wd D A s.heap (wMa cs a (aT 0) (aS 0) (aD 0) (aG 0) (aR 0) (aE 0) μ ++ (wSc cs aS (aT 0) ς ++ (wTe cs aT τ ++ (wRo cs aE ε ++ (wGa cs aG (aD 0) (aR 0) γ Γ ++ (wDa cs aD dr δ ++ (wRo cs aR ρ))))))) H locs → lv_has ls 2 [] → W p l e { frames := 2, cells := 0, slots := 0, locals := 43 } s m args below meth c H locs 0 0 Q (F0 m 20 ls [.int k0]) := by
  intro k0 H locs ls h hW hl
  unfold fMa_kind_20 at h
  obtain rfl := pr1 h
  exact hQ _ _ _ _ dX6_kind_20 rfl hW
set_option maxHeartbeats 4000000 in
set_option maxRecDepth 100000 in
theorem cMa_kind (l : Launch) (D : va_G) (cs : Nat → ClassId) (a aS aT aE aG aD aR : Nat → Nat) (μ : St) (ς : St) (τ : St) (ε : St) (γ : St) (Γ : Nat → Int64) (δ : St) (ρ : St) (dr : Nat) (p0 : Int32) (N : Nat) {r : Int32} (h : fMa_kind N p0 ρ = some r) : Ki l D cs none yX6_kind cX6_kind 2 (some .int) 2 43 (wMa cs a (aT 0) (aS 0) (aD 0) (aG 0) (aR 0) (aE 0) μ ++ (wSc cs aS (aT 0) ς ++ (wTe cs aT τ ++ (wRo cs aE ε ++ (wGa cs aG (aD 0) (aR 0) γ Γ ++ (wDa cs aD dr δ ++ (wRo cs aR ρ))))))) [.ref (a 0), .int p0] r (wMa cs a (aT 0) (aS 0) (aD 0) (aG 0) (aR 0) (aE 0) μ ++ (wSc cs aS (aT 0) ς ++ (wTe cs aT τ ++ (wRo cs aE ε ++ (wGa cs aG (aD 0) (aR 0) γ Γ ++ (wDa cs aD dr δ ++ (wRo cs aR ρ))))))) := by
  refine Ki_of (by decide +kernel) (Nat.le_of_ble_eq_true rfl) (fun p e s m below meth c A S hK hA hZ Q hQ ls hl hW => ?_)
  have hl : lv_has ls 2 [(0, .ref (a 0)), (1, .int p0)] := hl
  unfold fMa_kind at h
  refine lv_aload_n S.1 S.2.1 dX6_kind_0 rfl (lv_at hl 0 rfl) ?_
  refine lv_iload_n S.1 S.2.1 dX6_kind_1 rfl (lv_at hl 1 rfl) ?_
  obtain ⟨r_1, hc_2, h⟩ := cl1_some h
  have hW := kw_same hW
  refine kV_i (As := [.int p0]) (rest := []) S hK hA (z := none) trivial [] [] hW (cMa_isSeat l D cs a aS aT aE aG aD aR μ ς τ ε γ Γ δ ρ dr p0 N hc_2) (ci := 5) rfl rfl lk_X6_122 q383 q4 ⟨Nat.le_of_ble_eq_true rfl, Nat.le_of_ble_eq_true rfl⟩ rfl (Nat.le_of_ble_eq_true rfl) hl.1 dX6_kind_2 ⟨Nat.zero_le _, Nat.zero_le _⟩ (fun H locs hW => ?_)
  have hW : Wd D A s.heap (wMa cs a (aT 0) (aS 0) (aD 0) (aG 0) (aR 0) (aE 0) μ ++ (wSc cs aS (aT 0) ς ++ (wTe cs aT τ ++ (wRo cs aE ε ++ (wGa cs aG (aD 0) (aR 0) γ Γ ++ (wDa cs aD dr δ ++ (wRo cs aR ρ))))))) H locs := kw_back hW
  refine lv_if_eq (tgt := 19) S.1 S.2.1 dX6_kind_5 (by decide) (fun c_3 => ?_) (fun c_3 => ?_)
  · have h := ite_t c_3 h
    refine lv_iconst (v := -1) S.1 S.2.1 dX6_kind_19 (by decide) ?_
    exact wMa_kind_20 S hK hA hQ (-1 : Int32) _ _ _ h hW (lv_sub hl [] rfl)
  · have h := ite_f c_3 h
    refine lv_aload_n S.1 S.2.1 dX6_kind_8 rfl (lv_at hl 0 rfl) ?_
    refine gMa_laid S hK hW dX6_kind_9 ?_
    refine lv_iload_n S.1 S.2.1 dX6_kind_12 rfl (lv_at hl 1 rfl) ?_
    obtain ⟨r_4, hc_5, h⟩ := cl1_some h
    have hW := kw (w' := (wMa cs a (aT 0) (aS 0) (aD 0) (aG 0) (aR 0) (aE 0) μ ++ (wSc cs aS (aT 0) ς ++ (wTe cs aT τ ++ (wRo cs aE ε ++ (wGa cs aG (aD 0) (aR 0) γ Γ ++ (wDa cs aD dr δ)))))) ++ ((wRo cs aR ρ) ++ [])) (by simp only [List.append_assoc, List.nil_append, List.append_nil]) hW
    refine kV_i (As := [.int p0]) (rest := []) S hK hA (z := none) trivial (wMa cs a (aT 0) (aS 0) (aD 0) (aG 0) (aR 0) (aE 0) μ ++ (wSc cs aS (aT 0) ς ++ (wTe cs aT τ ++ (wRo cs aE ε ++ (wGa cs aG (aD 0) (aR 0) γ Γ ++ (wDa cs aD dr δ)))))) [] hW (cRo_kindOf l D cs aR ρ p0 N hc_5) (ci := 2) rfl rfl lk_X6_125 q386 q387 ⟨Nat.le_of_ble_eq_true rfl, Nat.le_of_ble_eq_true rfl⟩ rfl (Nat.le_of_ble_eq_true rfl) hl.1 dX6_kind_13 ⟨Nat.zero_le _, Nat.zero_le _⟩ (fun H locs hW => ?_)
    have hW : Wd D A s.heap (wMa cs a (aT 0) (aS 0) (aD 0) (aG 0) (aR 0) (aE 0) μ ++ (wSc cs aS (aT 0) ς ++ (wTe cs aT τ ++ (wRo cs aE ε ++ (wGa cs aG (aD 0) (aR 0) γ Γ ++ (wDa cs aD dr δ ++ (wRo cs aR ρ))))))) H locs := kw (by simp only [List.append_assoc, List.nil_append, List.append_nil]) hW
    refine lv_goto (tgt := 20) S.1 S.2.1 dX6_kind_16 (by decide) ?_
    exact wMa_kind_20 S hK hA hQ r_4 _ _ _ h hW (lv_sub hl [] rfl)
set_option maxHeartbeats 4000000 in
set_option maxRecDepth 100000 in
theorem wMa_hold_45 {p : Program} {l : Launch} {e : Env} {s : State} {m : MethodId} {args : Array Value} {below : List Frame} {meth : Method} {c : Code} {A : Nat → Prop} {Q : State → Prop} {D : va_G} {cs : Nat → ClassId} {a aS aT aE aG aD aR : Nat → Nat} {ς : St} {τ : St} {ε : St} {γ : St} {Γ : Nat → Int64} {δ : St} {ρ : St} {dr : Nat} {r : Int32} {μ' : St} {N : Nat} (S : Fx p m c cX6_hold 4 s args RX6) (hK : va_K D vwCl (tyL cs) s) (hA : ∀ x, s.heap.size ≤ x → A x) (hQ : ∀ (H : Heap) (locs : List Loc) (pc : Nat) (ls : Array Slot), decode cX6_hold pc = .ok (.ireturn, 1) → narrow .int (.int r) = .int r → Wd D A s.heap (wMa cs a (aT 0) (aS 0) (aD 0) (aG 0) (aR 0) (aE 0) μ' ++ (wSc cs aS (aT 0) ς ++ (wTe cs aT τ ++ (wRo cs aE ε ++ (wGa cs aG (aD 0) (aR 0) γ Γ ++ (wDa cs aD dr δ ++ (wRo cs aR ρ))))))) H locs → W p l e { frames := 2, cells := 0, slots := 0, locals := 43 } s m args below meth c H locs 0 0 Q (F0 m pc ls [.int r])) : ∀ (v3 : Int32) (k1 : Int32) (μ : St) (H : Heap) (locs : List Loc) (ls : Array Slot), fMa_hold_45 N ρ v3 k1 μ = some (r, μ') → Wd D A s.heap (wMa cs a (aT 0) (aS 0) (aD 0) (aG 0) (aR 0) (aE 0) μ ++ (wSc cs aS (aT 0) ς ++ (wTe cs aT τ ++ (wRo cs aE ε ++ (wGa cs aG (aD 0) (aR 0) γ Γ ++ (wDa cs aD dr δ ++ (wRo cs aR ρ))))))) H locs → lv_has ls 4 [(3, .int v3)] → W p l e { frames := 2, cells := 0, slots := 0, locals := 43 } s m args below meth c H locs 0 0 Q (F0 m 45 ls [.int k1, .ref (a 0)]) := by
  intro v3 k1 μ H locs ls h hW hl
  unfold fMa_hold_45 at h
  refine pMa_holders S hK hW dX6_hold_45 (fun H locs μ_1 eμ_1 hW => ?_)
  have h := nm_to eμ_1 h
  refine lv_iload_n S.1 S.2.1 dX6_hold_48 rfl (lv_at hl 0 rfl) ?_
  obtain ⟨rfl, rfl⟩ := pr2 h
  exact hQ _ _ _ _ dX6_hold_49 rfl hW
set_option maxHeartbeats 4000000 in
set_option maxRecDepth 100000 in
theorem cMa_hold (l : Launch) (D : va_G) (cs : Nat → ClassId) (a aS aT aE aG aD aR : Nat → Nat) (μ : St) (ς : St) (τ : St) (ε : St) (γ : St) (Γ : Nat → Int64) (δ : St) (ρ : St) (dr : Nat) (p0 : Int32) (p1 : Int32) (N : Nat) {r : Int32} {μ' : St} (h : fMa_hold N p0 p1 ρ μ = some (r, μ')) : Ki l D cs none yX6_hold cX6_hold 4 (some .int) 2 43 (wMa cs a (aT 0) (aS 0) (aD 0) (aG 0) (aR 0) (aE 0) μ ++ (wSc cs aS (aT 0) ς ++ (wTe cs aT τ ++ (wRo cs aE ε ++ (wGa cs aG (aD 0) (aR 0) γ Γ ++ (wDa cs aD dr δ ++ (wRo cs aR ρ))))))) [.ref (a 0), .int p0, .int p1] r (wMa cs a (aT 0) (aS 0) (aD 0) (aG 0) (aR 0) (aE 0) μ' ++ (wSc cs aS (aT 0) ς ++ (wTe cs aT τ ++ (wRo cs aE ε ++ (wGa cs aG (aD 0) (aR 0) γ Γ ++ (wDa cs aD dr δ ++ (wRo cs aR ρ))))))) := by
  refine Ki_of (by decide +kernel) (Nat.le_of_ble_eq_true rfl) (fun p e s m below meth c A S hK hA hZ Q hQ ls hl hW => ?_)
  have hl : lv_has ls 4 [(0, .ref (a 0)), (1, .int p0), (2, .int p1)] := hl
  unfold fMa_hold at h
  refine lv_aload_n S.1 S.2.1 dX6_hold_0 rfl (lv_at hl 0 rfl) ?_
  refine lv_iload_n S.1 S.2.1 dX6_hold_1 rfl (lv_at hl 1 rfl) ?_
  obtain ⟨r_2, hc_3, h⟩ := cl1_some h
  have hW := kw_same hW
  refine kV_i (As := [.int p0]) (rest := []) S hK hA (z := none) trivial [] [] hW (cMa_isReader l D cs a aS aT aE aG aD aR μ ς τ ε γ Γ δ ρ dr p0 N hc_3) (ci := 5) rfl rfl lk_X6_115 q371 q3 ⟨Nat.le_of_ble_eq_true rfl, Nat.le_of_ble_eq_true rfl⟩ rfl (Nat.le_of_ble_eq_true rfl) hl.1 dX6_hold_2 ⟨Nat.zero_le _, Nat.zero_le _⟩ (fun H locs hW => ?_)
  have hW : Wd D A s.heap (wMa cs a (aT 0) (aS 0) (aD 0) (aG 0) (aR 0) (aE 0) μ ++ (wSc cs aS (aT 0) ς ++ (wTe cs aT τ ++ (wRo cs aE ε ++ (wGa cs aG (aD 0) (aR 0) γ Γ ++ (wDa cs aD dr δ ++ (wRo cs aR ρ))))))) H locs := kw_back hW
  refine lv_if_ne (tgt := 10) S.1 S.2.1 dX6_hold_5 (by decide) (fun c_4 => ?_) (fun c_4 => ?_)
  · have h := ite_f c_4 h
    refine lv_aload_n S.1 S.2.1 dX6_hold_10 rfl (lv_at hl 0 rfl) ?_
    refine gMa_holders S hK hW dX6_hold_11 ?_
    refine lv_iload_n S.1 S.2.1 dX6_hold_14 rfl (lv_at hl 1 rfl) ?_
    refine lv_ishr S.1 S.2.1 dX6_hold_15 ?_
    refine lv_iconst (v := 1) S.1 S.2.1 dX6_hold_16 (by decide) ?_
    refine lv_iand S.1 S.2.1 dX6_hold_17 ?_
    refine lv_topi (fun x3_5 ex3_5 => ?_)
    have h := nm_to ex3_5 h
    refine lv_istore_n (lv' := [(3, .int x3_5), (0, .ref (a 0)), (1, .int p0), (2, .int p1)]) S.1 S.2.1 dX6_hold_18 rfl hl (by decide) rfl (fun ls hl => ?_)
    refine lv_aload_n S.1 S.2.1 dX6_hold_19 rfl (lv_at hl 1 rfl) ?_
    refine lv_iload_n S.1 S.2.1 dX6_hold_20 rfl (lv_at hl 3 rfl) ?_
    refine lv_if_eq (tgt := 35) S.1 S.2.1 dX6_hold_21 (by decide) (fun c_6 => ?_) (fun c_6 => ?_)
    · have h := ite_t c_6 h
      refine lv_aload_n S.1 S.2.1 dX6_hold_35 rfl (lv_at hl 1 rfl) ?_
      refine gMa_holders S hK hW dX6_hold_36 ?_
      refine lv_iconst (v := 1) S.1 S.2.1 dX6_hold_39 (by decide) ?_
      refine lv_iload_n S.1 S.2.1 dX6_hold_40 rfl (lv_at hl 2 rfl) ?_
      refine lv_ishl S.1 S.2.1 dX6_hold_41 ?_
      refine lv_iconst (v := -1) S.1 S.2.1 dX6_hold_42 (by decide) ?_
      refine lv_ixor S.1 S.2.1 dX6_hold_43 ?_
      refine lv_iand S.1 S.2.1 dX6_hold_44 ?_
      exact wMa_hold_45 S hK hA hQ x3_5 ((μ 0 9) &&& (((1 : Int32) <<< (p0 &&& 31)) ^^^ (-1 : Int32))) μ _ _ _ h hW (lv_sub hl [0] rfl)
    · have h := ite_f c_6 h
      refine lv_aload_n S.1 S.2.1 dX6_hold_24 rfl (lv_at hl 1 rfl) ?_
      refine gMa_holders S hK hW dX6_hold_25 ?_
      refine lv_iconst (v := 1) S.1 S.2.1 dX6_hold_28 (by decide) ?_
      refine lv_iload_n S.1 S.2.1 dX6_hold_29 rfl (lv_at hl 2 rfl) ?_
      refine lv_ishl S.1 S.2.1 dX6_hold_30 ?_
      refine lv_ior S.1 S.2.1 dX6_hold_31 ?_
      refine lv_goto (tgt := 45) S.1 S.2.1 dX6_hold_32 (by decide) ?_
      exact wMa_hold_45 S hK hA hQ x3_5 ((μ 0 9) ||| ((1 : Int32) <<< (p0 &&& 31))) μ _ _ _ h hW (lv_sub hl [0] rfl)
  · have h := ite_t c_4 h
    refine lv_iconst (v := -1) S.1 S.2.1 dX6_hold_8 (by decide) ?_
    obtain ⟨rfl, rfl⟩ := pr2 h
    exact hQ _ _ _ _ dX6_hold_9 rfl hW
set_option maxHeartbeats 4000000 in
set_option maxRecDepth 100000 in
theorem cMa_isRule (l : Launch) (D : va_G) (cs : Nat → ClassId) (p0 : Int32) (N : Nat) {r : Int32} (h : fMa_isRule N p0 = some r) : Ki l D cs none yX6_isRule cX6_isRule 1 (some .boolean) 1 22 [] [.int p0] r [] := by
  refine Ki_of (by decide +kernel) (Nat.le_of_ble_eq_true rfl) (fun p e s m below meth c A S hK hA hZ Q hQ ls hl hW => ?_)
  have hl : lv_has ls 1 [(0, .int p0)] := hl
  unfold fMa_isRule at h
  refine lv_iload_n S.1 S.2.1 dX6_isRule_0 rfl (lv_at hl 0 rfl) ?_
  refine lv_iconst (v := 0) S.1 S.2.1 dX6_isRule_1 (by decide) ?_
  refine lv_iconst (v := 4) S.1 S.2.1 dX6_isRule_2 (by decide) ?_
  obtain ⟨r_1, hc_2, h⟩ := cl1_some h
  refine kS_i (As := [.int p0, .int (0 : Int32), .int (4 : Int32)]) (rest := []) S hK hA (z := none) trivial [] [] hW (cMa_within l D cs p0 (0 : Int32) (4 : Int32) N hc_2) lk_X6_88 q278 ⟨Nat.le_of_ble_eq_true rfl, Nat.le_of_ble_eq_true rfl⟩ rfl (Nat.le_of_ble_eq_true rfl) hl.1 dX6_isRule_3 ⟨Nat.zero_le _, Nat.zero_le _⟩ (fun H locs hW => ?_)
  have hW : Wd D A s.heap [] H locs := hW
  obtain ⟨hb_3, h⟩ := gB_some h
  obtain rfl := pr1 h
  exact hQ _ _ _ _ dX6_isRule_6 hb_3 hW
set_option maxHeartbeats 4000000 in
set_option maxRecDepth 100000 in
theorem wMa_seat_36 {p : Program} {l : Launch} {e : Env} {s : State} {m : MethodId} {args : Array Value} {below : List Frame} {meth : Method} {c : Code} {A : Nat → Prop} {Q : State → Prop} {D : va_G} {cs : Nat → ClassId} {a aS aT aE aG aD aR : Nat → Nat} {μ : St} {ς : St} {τ : St} {ε : St} {γ : St} {Γ : Nat → Int64} {ρ : St} {r : Int32} {δ' : St} {dr' : Nat} {N : Nat} (S : Fx p m c cX6_seat 6 s args RX6) (hK : va_K D vwCl (tyL cs) s) (hA : ∀ x, s.heap.size ≤ x → A x) (hQ : ∀ (H : Heap) (locs : List Loc) (pc : Nat) (ls : Array Slot), decode cX6_seat pc = .ok (.ireturn, 1) → narrow .int (.int r) = .int r → Wd D A s.heap (wMa cs a (aT 0) (aS 0) (aD 0) (aG 0) (aR 0) (aE 0) μ ++ (wSc cs aS (aT 0) ς ++ (wTe cs aT τ ++ (wRo cs aE ε ++ (wGa cs aG (aD 0) (aR 0) γ Γ ++ (wDa cs aD dr' δ' ++ (wRo cs aR ρ))))))) H locs → W p l e { frames := 4, cells := 0, slots := 0, locals := 94 } s m args below meth c H locs 0 0 Q (F0 m pc ls [.int r])) : ∀ (δ : St) (dr : Nat) (H : Heap) (locs : List Loc) (ls : Array Slot), fMa_seat_36 N μ ρ (aR 0) δ dr = some (r, δ', dr') → Wd D A s.heap (wMa cs a (aT 0) (aS 0) (aD 0) (aG 0) (aR 0) (aE 0) μ ++ (wSc cs aS (aT 0) ς ++ (wTe cs aT τ ++ (wRo cs aE ε ++ (wGa cs aG (aD 0) (aR 0) γ Γ ++ (wDa cs aD dr δ ++ (wRo cs aR ρ))))))) H locs → lv_has ls 6 [] → W p l e { frames := 4, cells := 0, slots := 0, locals := 94 } s m args below meth c H locs 0 0 Q (F0 m 36 ls []) := by
  intro δ dr H locs ls h hW hl
  unfold fMa_seat_36 at h
  refine lv_iconst (v := -1) S.1 S.2.1 dX6_seat_36 (by decide) ?_
  obtain ⟨rfl, rfl, rfl⟩ := pr3 h
  exact hQ _ _ _ _ dX6_seat_37 rfl hW
set_option maxHeartbeats 4000000 in
set_option maxRecDepth 100000 in
theorem wMa_seat_101 {p : Program} {l : Launch} {e : Env} {s : State} {m : MethodId} {args : Array Value} {below : List Frame} {meth : Method} {c : Code} {A : Nat → Prop} {Q : State → Prop} {D : va_G} {cs : Nat → ClassId} {a aS aT aE aG aD aR : Nat → Nat} {μ : St} {ς : St} {τ : St} {ε : St} {γ : St} {Γ : Nat → Int64} {ρ : St} {r : Int32} {δ' : St} {dr' : Nat} {N : Nat} (S : Fx p m c cX6_seat 6 s args RX6) (hK : va_K D vwCl (tyL cs) s) (hA : ∀ x, s.heap.size ≤ x → A x) (hQ : ∀ (H : Heap) (locs : List Loc) (pc : Nat) (ls : Array Slot), decode cX6_seat pc = .ok (.ireturn, 1) → narrow .int (.int r) = .int r → Wd D A s.heap (wMa cs a (aT 0) (aS 0) (aD 0) (aG 0) (aR 0) (aE 0) μ ++ (wSc cs aS (aT 0) ς ++ (wTe cs aT τ ++ (wRo cs aE ε ++ (wGa cs aG (aD 0) (aR 0) γ Γ ++ (wDa cs aD dr' δ' ++ (wRo cs aR ρ))))))) H locs → W p l e { frames := 4, cells := 0, slots := 0, locals := 94 } s m args below meth c H locs 0 0 Q (F0 m pc ls [.int r])) : ∀ (k0 : Int32) (δ : St) (H : Heap) (locs : List Loc) (ls : Array Slot), fMa_seat_101 N μ ρ (aR 0) k0 δ = some (r, δ', dr') → Wd D A s.heap (wMa cs a (aT 0) (aS 0) (aD 0) (aG 0) (aR 0) (aE 0) μ ++ (wSc cs aS (aT 0) ς ++ (wTe cs aT τ ++ (wRo cs aE ε ++ (wGa cs aG (aD 0) (aR 0) γ Γ ++ (wDa cs aD (aR 0) δ ++ (wRo cs aR ρ))))))) H locs → lv_has ls 6 [] → W p l e { frames := 4, cells := 0, slots := 0, locals := 94 } s m args below meth c H locs 0 0 Q (F0 m 101 ls [.int k0]) := by
  intro k0 δ H locs ls h hW hl
  unfold fMa_seat_101 at h
  obtain ⟨rfl, rfl, rfl⟩ := pr3 h
  exact hQ _ _ _ _ dX6_seat_101 rfl hW
set_option maxHeartbeats 4000000 in
set_option maxRecDepth 100000 in
theorem wMa_seat_86 {p : Program} {l : Launch} {e : Env} {s : State} {m : MethodId} {args : Array Value} {below : List Frame} {meth : Method} {c : Code} {A : Nat → Prop} {Q : State → Prop} {D : va_G} {cs : Nat → ClassId} {a aS aT aE aG aD aR : Nat → Nat} {μ : St} {ς : St} {τ : St} {ε : St} {γ : St} {Γ : Nat → Int64} {ρ : St} {r : Int32} {δ' : St} {dr' : Nat} {N : Nat} (S : Fx p m c cX6_seat 6 s args RX6) (hK : va_K D vwCl (tyL cs) s) (hA : ∀ x, s.heap.size ≤ x → A x) (hQ : ∀ (H : Heap) (locs : List Loc) (pc : Nat) (ls : Array Slot), decode cX6_seat pc = .ok (.ireturn, 1) → narrow .int (.int r) = .int r → Wd D A s.heap (wMa cs a (aT 0) (aS 0) (aD 0) (aG 0) (aR 0) (aE 0) μ ++ (wSc cs aS (aT 0) ς ++ (wTe cs aT τ ++ (wRo cs aE ε ++ (wGa cs aG (aD 0) (aR 0) γ Γ ++ (wDa cs aD dr' δ' ++ (wRo cs aR ρ))))))) H locs → W p l e { frames := 4, cells := 0, slots := 0, locals := 94 } s m args below meth c H locs 0 0 Q (F0 m pc ls [.int r])) : ∀ (k0 : Int32) (δ : St) (H : Heap) (locs : List Loc) (ls : Array Slot), fMa_seat_86 N μ ρ (aR 0) k0 δ = some (r, δ', dr') → Wd D A s.heap (wMa cs a (aT 0) (aS 0) (aD 0) (aG 0) (aR 0) (aE 0) μ ++ (wSc cs aS (aT 0) ς ++ (wTe cs aT τ ++ (wRo cs aE ε ++ (wGa cs aG (aD 0) (aR 0) γ Γ ++ (wDa cs aD (aR 0) δ ++ (wRo cs aR ρ))))))) H locs → lv_has ls 6 [] → W p l e { frames := 4, cells := 0, slots := 0, locals := 94 } s m args below meth c H locs 0 0 Q (F0 m 86 ls [.int k0]) := by
  intro k0 δ H locs ls h hW hl
  unfold fMa_seat_86 at h
  refine lv_istore (lv' := [(5, .int k0)]) S.1 S.2.1 dX6_seat_86 hl (by decide) rfl (fun ls hl => ?_)
  refine lv_iload S.1 S.2.1 dX6_seat_88 (lv_at hl 0 rfl) ?_
  refine lv_iconst (v := -1) S.1 S.2.1 dX6_seat_90 (by decide) ?_
  refine lv_icmp_ne (tgt := 99) S.1 S.2.1 dX6_seat_91 (by decide) (fun c_1 => ?_) (fun c_1 => ?_)
  · have h := ite_f c_1 h
    refine lv_iload S.1 S.2.1 dX6_seat_99 (lv_at hl 0 rfl) ?_
    exact wMa_seat_101 S hK hA hQ k0 δ _ _ _ h hW (lv_sub hl [] rfl)
  · have h := ite_t c_1 h
    refine lv_bipush (v := -4) S.1 S.2.1 dX6_seat_94 (by decide) ?_
    refine lv_goto (tgt := 101) S.1 S.2.1 dX6_seat_96 (by decide) ?_
    exact wMa_seat_101 S hK hA hQ (-4 : Int32) δ _ _ _ h hW (lv_sub hl [] rfl)
set_option maxHeartbeats 4000000 in
set_option maxRecDepth 100000 in
theorem cMa_seat (l : Launch) (D : va_G) (cs : Nat → ClassId) (a aS aT aE aG aD aR : Nat → Nat) (μ : St) (ς : St) (τ : St) (ε : St) (γ : St) (Γ : Nat → Int64) (δ : St) (ρ : St) (dr : Nat) (p0 : Int32) (p1 : Int32) (p2 : Int32) (p3 : Int32) (N : Nat) {r : Int32} {δ' : St} {dr' : Nat} (h : fMa_seat N p0 p1 p2 p3 μ ρ (aR 0) δ dr = some (r, δ', dr')) : Ki l D cs none yX6_seat cX6_seat 6 (some .int) 4 94 (wMa cs a (aT 0) (aS 0) (aD 0) (aG 0) (aR 0) (aE 0) μ ++ (wSc cs aS (aT 0) ς ++ (wTe cs aT τ ++ (wRo cs aE ε ++ (wGa cs aG (aD 0) (aR 0) γ Γ ++ (wDa cs aD dr δ ++ (wRo cs aR ρ))))))) [.ref (a 0), .int p0, .int p1, .int p2, .int p3] r (wMa cs a (aT 0) (aS 0) (aD 0) (aG 0) (aR 0) (aE 0) μ ++ (wSc cs aS (aT 0) ς ++ (wTe cs aT τ ++ (wRo cs aE ε ++ (wGa cs aG (aD 0) (aR 0) γ Γ ++ (wDa cs aD dr' δ' ++ (wRo cs aR ρ))))))) := by
  refine Ki_of (by decide +kernel) (Nat.le_of_ble_eq_true rfl) (fun p e s m below meth c A S hK hA hZ Q hQ ls hl hW => ?_)
  have hl : lv_has ls 6 [(0, .ref (a 0)), (1, .int p0), (2, .int p1), (3, .int p2), (4, .int p3)] := hl
  unfold fMa_seat at h
  refine lv_iload_n S.1 S.2.1 dX6_seat_0 rfl (lv_at hl 1 rfl) ?_
  obtain ⟨r_2, hc_3, h⟩ := cl1_some h
  refine kS_i (As := [.int p0]) (rest := []) S hK hA (z := none) trivial [] (wMa cs a (aT 0) (aS 0) (aD 0) (aG 0) (aR 0) (aE 0) μ ++ (wSc cs aS (aT 0) ς ++ (wTe cs aT τ ++ (wRo cs aE ε ++ (wGa cs aG (aD 0) (aR 0) γ Γ ++ (wDa cs aD dr δ ++ (wRo cs aR ρ))))))) hW (cMa_isRule l D cs p0 N hc_3) lk_X6_129 q398 ⟨Nat.le_of_ble_eq_true rfl, Nat.le_of_ble_eq_true rfl⟩ rfl (Nat.le_of_ble_eq_true rfl) hl.1 dX6_seat_1 ⟨Nat.zero_le _, Nat.zero_le _⟩ (fun H locs hW => ?_)
  have hW : Wd D A s.heap (wMa cs a (aT 0) (aS 0) (aD 0) (aG 0) (aR 0) (aE 0) μ ++ (wSc cs aS (aT 0) ς ++ (wTe cs aT τ ++ (wRo cs aE ε ++ (wGa cs aG (aD 0) (aR 0) γ Γ ++ (wDa cs aD dr δ ++ (wRo cs aR ρ))))))) H locs := hW
  refine lv_if_eq (tgt := 36) S.1 S.2.1 dX6_seat_4 (by decide) (fun c_4 => ?_) (fun c_4 => ?_)
  · have h := ite_t c_4 h
    exact wMa_seat_36 S hK hA hQ δ dr _ _ _ h hW (lv_sub hl [] rfl)
  · have h := ite_f c_4 h
    refine lv_iload_n S.1 S.2.1 dX6_seat_7 rfl (lv_at hl 2 rfl) ?_
    refine lv_iconst (v := 0) S.1 S.2.1 dX6_seat_8 (by decide) ?_
    refine lv_sipush (v := 399) S.1 S.2.1 dX6_seat_9 (by decide) ?_
    obtain ⟨r_5, hc_6, h⟩ := cl1_some h
    refine kS_i (As := [.int p1, .int (0 : Int32), .int (399 : Int32)]) (rest := []) S hK hA (z := none) trivial [] (wMa cs a (aT 0) (aS 0) (aD 0) (aG 0) (aR 0) (aE 0) μ ++ (wSc cs aS (aT 0) ς ++ (wTe cs aT τ ++ (wRo cs aE ε ++ (wGa cs aG (aD 0) (aR 0) γ Γ ++ (wDa cs aD dr δ ++ (wRo cs aR ρ))))))) hW (cMa_within l D cs p1 (0 : Int32) (399 : Int32) N hc_6) lk_X6_88 q278 ⟨Nat.le_of_ble_eq_true rfl, Nat.le_of_ble_eq_true rfl⟩ rfl (Nat.le_of_ble_eq_true rfl) hl.1 dX6_seat_12 ⟨Nat.zero_le _, Nat.zero_le _⟩ (fun H locs hW => ?_)
    have hW : Wd D A s.heap (wMa cs a (aT 0) (aS 0) (aD 0) (aG 0) (aR 0) (aE 0) μ ++ (wSc cs aS (aT 0) ς ++ (wTe cs aT τ ++ (wRo cs aE ε ++ (wGa cs aG (aD 0) (aR 0) γ Γ ++ (wDa cs aD dr δ ++ (wRo cs aR ρ))))))) H locs := hW
    refine lv_if_eq (tgt := 36) S.1 S.2.1 dX6_seat_15 (by decide) (fun c_7 => ?_) (fun c_7 => ?_)
    · have h := ite_t c_7 h
      exact wMa_seat_36 S hK hA hQ δ dr _ _ _ h hW (lv_sub hl [] rfl)
    · have h := ite_f c_7 h
      refine lv_aload_n S.1 S.2.1 dX6_seat_18 rfl (lv_at hl 0 rfl) ?_
      refine lv_iload_n S.1 S.2.1 dX6_seat_19 rfl (lv_at hl 3 rfl) ?_
      obtain ⟨r_8, hc_9, h⟩ := cl1_some h
      have hW := kw_same hW
      refine kV_i (As := [.int p2]) (rest := []) S hK hA (z := none) trivial [] [] hW (cMa_isSeat l D cs a aS aT aE aG aD aR μ ς τ ε γ Γ δ ρ dr p2 N hc_9) (ci := 5) rfl rfl lk_X6_122 q383 q4 ⟨Nat.le_of_ble_eq_true rfl, Nat.le_of_ble_eq_true rfl⟩ rfl (Nat.le_of_ble_eq_true rfl) hl.1 dX6_seat_20 ⟨Nat.zero_le _, Nat.zero_le _⟩ (fun H locs hW => ?_)
      have hW : Wd D A s.heap (wMa cs a (aT 0) (aS 0) (aD 0) (aG 0) (aR 0) (aE 0) μ ++ (wSc cs aS (aT 0) ς ++ (wTe cs aT τ ++ (wRo cs aE ε ++ (wGa cs aG (aD 0) (aR 0) γ Γ ++ (wDa cs aD dr δ ++ (wRo cs aR ρ))))))) H locs := kw_back hW
      refine lv_if_eq (tgt := 36) S.1 S.2.1 dX6_seat_23 (by decide) (fun c_10 => ?_) (fun c_10 => ?_)
      · have h := ite_t c_10 h
        exact wMa_seat_36 S hK hA hQ δ dr _ _ _ h hW (lv_sub hl [] rfl)
      · have h := ite_f c_10 h
        refine lv_iload S.1 S.2.1 dX6_seat_26 (lv_at hl 4 rfl) ?_
        refine lv_iconst (v := 0) S.1 S.2.1 dX6_seat_28 (by decide) ?_
        refine lv_iconst (v := 1) S.1 S.2.1 dX6_seat_29 (by decide) ?_
        obtain ⟨r_11, hc_12, h⟩ := cl1_some h
        refine kS_i (As := [.int p3, .int (0 : Int32), .int (1 : Int32)]) (rest := []) S hK hA (z := none) trivial [] (wMa cs a (aT 0) (aS 0) (aD 0) (aG 0) (aR 0) (aE 0) μ ++ (wSc cs aS (aT 0) ς ++ (wTe cs aT τ ++ (wRo cs aE ε ++ (wGa cs aG (aD 0) (aR 0) γ Γ ++ (wDa cs aD dr δ ++ (wRo cs aR ρ))))))) hW (cMa_within l D cs p3 (0 : Int32) (1 : Int32) N hc_12) lk_X6_88 q278 ⟨Nat.le_of_ble_eq_true rfl, Nat.le_of_ble_eq_true rfl⟩ rfl (Nat.le_of_ble_eq_true rfl) hl.1 dX6_seat_30 ⟨Nat.zero_le _, Nat.zero_le _⟩ (fun H locs hW => ?_)
        have hW : Wd D A s.heap (wMa cs a (aT 0) (aS 0) (aD 0) (aG 0) (aR 0) (aE 0) μ ++ (wSc cs aS (aT 0) ς ++ (wTe cs aT τ ++ (wRo cs aE ε ++ (wGa cs aG (aD 0) (aR 0) γ Γ ++ (wDa cs aD dr δ ++ (wRo cs aR ρ))))))) H locs := hW
        refine lv_if_ne (tgt := 38) S.1 S.2.1 dX6_seat_33 (by decide) (fun c_13 => ?_) (fun c_13 => ?_)
        · have h := ite_f c_13 h
          refine lv_aload_n S.1 S.2.1 dX6_seat_38 rfl (lv_at hl 0 rfl) ?_
          refine gMa_today S hK hW dX6_seat_39 ?_
          refine lv_aload_n S.1 S.2.1 dX6_seat_42 rfl (lv_at hl 0 rfl) ?_
          refine gMa_laid S hK hW dX6_seat_43 ?_
          refine lv_iload_n S.1 S.2.1 dX6_seat_46 rfl (lv_at hl 1 rfl) ?_
          refine lv_aload_n S.1 S.2.1 dX6_seat_47 rfl (lv_at hl 0 rfl) ?_
          refine gMa_holders S hK hW dX6_seat_48 ?_
          obtain ⟨δ_14, hc_15, h⟩ := cl1_some h
          have hW := kw (w' := (wMa cs a (aT 0) (aS 0) (aD 0) (aG 0) (aR 0) (aE 0) μ ++ (wSc cs aS (aT 0) ς ++ (wTe cs aT τ ++ (wRo cs aE ε ++ (wGa cs aG (aD 0) (aR 0) γ Γ))))) ++ ((wDa cs aD dr δ ++ (wRo cs aR ρ)) ++ [])) (by simp only [List.append_assoc, List.nil_append, List.append_nil]) hW
          refine kV_v (As := [.ref (aR 0), .int p0, .int (μ 0 9)]) (rest := []) S hK hA (z := none) trivial (wMa cs a (aT 0) (aS 0) (aD 0) (aG 0) (aR 0) (aE 0) μ ++ (wSc cs aS (aT 0) ς ++ (wTe cs aT τ ++ (wRo cs aE ε ++ (wGa cs aG (aD 0) (aR 0) γ Γ))))) [] hW (cDa_open l D cs aD aR δ ρ dr p0 (μ 0 9) N hc_15) (ci := 0) rfl rfl lk_X6_132 q401 q402 ⟨Nat.le_of_ble_eq_true rfl, Nat.le_of_ble_eq_true rfl⟩ rfl (Nat.le_of_ble_eq_true rfl) hl.1 dX6_seat_51 ⟨Nat.zero_le _, Nat.zero_le _⟩ (fun H locs hW => ?_)
          have hW : Wd D A s.heap (wMa cs a (aT 0) (aS 0) (aD 0) (aG 0) (aR 0) (aE 0) μ ++ (wSc cs aS (aT 0) ς ++ (wTe cs aT τ ++ (wRo cs aE ε ++ (wGa cs aG (aD 0) (aR 0) γ Γ ++ (wDa cs aD (aR 0) δ_14 ++ (wRo cs aR ρ))))))) H locs := kw (by simp only [List.append_assoc, List.nil_append, List.append_nil]) hW
          refine lv_aload_n S.1 S.2.1 dX6_seat_54 rfl (lv_at hl 0 rfl) ?_
          refine gMa_today S hK hW dX6_seat_55 ?_
          refine lv_iload_n S.1 S.2.1 dX6_seat_58 rfl (lv_at hl 2 rfl) ?_
          obtain ⟨δ_16, hc_17, h⟩ := cl1_some h
          have hW := kw (w' := (wMa cs a (aT 0) (aS 0) (aD 0) (aG 0) (aR 0) (aE 0) μ ++ (wSc cs aS (aT 0) ς ++ (wTe cs aT τ ++ (wRo cs aE ε ++ (wGa cs aG (aD 0) (aR 0) γ Γ))))) ++ ((wDa cs aD (aR 0) δ_14 ++ (wRo cs aR ρ)) ++ [])) (by simp only [List.append_assoc, List.nil_append, List.append_nil]) hW
          refine kV_v (As := [.int p1]) (rest := []) S hK hA (z := none) trivial (wMa cs a (aT 0) (aS 0) (aD 0) (aG 0) (aR 0) (aE 0) μ ++ (wSc cs aS (aT 0) ς ++ (wTe cs aT τ ++ (wRo cs aE ε ++ (wGa cs aG (aD 0) (aR 0) γ Γ))))) [] hW (cDa_runTo l D cs aD aR δ_14 ρ p1 N hc_17) (ci := 0) rfl rfl lk_X6_136 q426 q427 ⟨Nat.le_of_ble_eq_true rfl, Nat.le_of_ble_eq_true rfl⟩ rfl (Nat.le_of_ble_eq_true rfl) hl.1 dX6_seat_59 ⟨Nat.zero_le _, Nat.zero_le _⟩ (fun H locs hW => ?_)
          have hW : Wd D A s.heap (wMa cs a (aT 0) (aS 0) (aD 0) (aG 0) (aR 0) (aE 0) μ ++ (wSc cs aS (aT 0) ς ++ (wTe cs aT τ ++ (wRo cs aE ε ++ (wGa cs aG (aD 0) (aR 0) γ Γ ++ (wDa cs aD (aR 0) δ_16 ++ (wRo cs aR ρ))))))) H locs := kw (by simp only [List.append_assoc, List.nil_append, List.append_nil]) hW
          refine lv_iload S.1 S.2.1 dX6_seat_62 (lv_at hl 4 rfl) ?_
          refine lv_if_ne (tgt := 78) S.1 S.2.1 dX6_seat_64 (by decide) (fun c_18 => ?_) (fun c_18 => ?_)
          · have h := ite_f c_18 h
            refine lv_aload_n S.1 S.2.1 dX6_seat_78 rfl (lv_at hl 0 rfl) ?_
            refine gMa_today S hK hW dX6_seat_79 ?_
            refine lv_iload_n S.1 S.2.1 dX6_seat_82 rfl (lv_at hl 3 rfl) ?_
            obtain ⟨r_19, hc_20, h⟩ := cl1_some h
            have hW := kw (w' := (wMa cs a (aT 0) (aS 0) (aD 0) (aG 0) (aR 0) (aE 0) μ ++ (wSc cs aS (aT 0) ς ++ (wTe cs aT τ ++ (wRo cs aE ε ++ (wGa cs aG (aD 0) (aR 0) γ Γ))))) ++ ((wDa cs aD (aR 0) δ_16 ++ (wRo cs aR ρ)) ++ [])) (by simp only [List.append_assoc, List.nil_append, List.append_nil]) hW
            refine kV_i (As := [.int p2]) (rest := []) S hK hA (z := none) trivial (wMa cs a (aT 0) (aS 0) (aD 0) (aG 0) (aR 0) (aE 0) μ ++ (wSc cs aS (aT 0) ς ++ (wTe cs aT τ ++ (wRo cs aE ε ++ (wGa cs aG (aD 0) (aR 0) γ Γ))))) [] hW (cDa_holderOf l D cs aD aR δ_16 ρ p2 N hc_20) (ci := 0) rfl rfl lk_X6_143 q434 q435 ⟨Nat.le_of_ble_eq_true rfl, Nat.le_of_ble_eq_true rfl⟩ rfl (Nat.le_of_ble_eq_true rfl) hl.1 dX6_seat_83 ⟨Nat.zero_le _, Nat.zero_le _⟩ (fun H locs hW => ?_)
            have hW : Wd D A s.heap (wMa cs a (aT 0) (aS 0) (aD 0) (aG 0) (aR 0) (aE 0) μ ++ (wSc cs aS (aT 0) ς ++ (wTe cs aT τ ++ (wRo cs aE ε ++ (wGa cs aG (aD 0) (aR 0) γ Γ ++ (wDa cs aD (aR 0) δ_16 ++ (wRo cs aR ρ))))))) H locs := kw (by simp only [List.append_assoc, List.nil_append, List.append_nil]) hW
            exact wMa_seat_86 S hK hA hQ r_19 δ_16 _ _ _ h hW (lv_sub hl [] rfl)
          · have h := ite_t c_18 h
            refine lv_aload_n S.1 S.2.1 dX6_seat_67 rfl (lv_at hl 0 rfl) ?_
            refine gMa_today S hK hW dX6_seat_68 ?_
            refine lv_iload_n S.1 S.2.1 dX6_seat_71 rfl (lv_at hl 3 rfl) ?_
            obtain ⟨r_21, hc_22, h⟩ := cl1_some h
            have hW := kw (w' := (wMa cs a (aT 0) (aS 0) (aD 0) (aG 0) (aR 0) (aE 0) μ ++ (wSc cs aS (aT 0) ς ++ (wTe cs aT τ ++ (wRo cs aE ε ++ (wGa cs aG (aD 0) (aR 0) γ Γ))))) ++ ((wDa cs aD (aR 0) δ_16 ++ (wRo cs aR ρ)) ++ [])) (by simp only [List.append_assoc, List.nil_append, List.append_nil]) hW
            refine kV_i (As := [.int p2]) (rest := []) S hK hA (z := none) trivial (wMa cs a (aT 0) (aS 0) (aD 0) (aG 0) (aR 0) (aE 0) μ ++ (wSc cs aS (aT 0) ς ++ (wTe cs aT τ ++ (wRo cs aE ε ++ (wGa cs aG (aD 0) (aR 0) γ Γ))))) [] hW (cDa_sitterOf l D cs aD aR δ_16 ρ p2 N hc_22) (ci := 0) rfl rfl lk_X6_140 q485 q486 ⟨Nat.le_of_ble_eq_true rfl, Nat.le_of_ble_eq_true rfl⟩ rfl (Nat.le_of_ble_eq_true rfl) hl.1 dX6_seat_72 ⟨Nat.zero_le _, Nat.zero_le _⟩ (fun H locs hW => ?_)
            have hW : Wd D A s.heap (wMa cs a (aT 0) (aS 0) (aD 0) (aG 0) (aR 0) (aE 0) μ ++ (wSc cs aS (aT 0) ς ++ (wTe cs aT τ ++ (wRo cs aE ε ++ (wGa cs aG (aD 0) (aR 0) γ Γ ++ (wDa cs aD (aR 0) δ_16 ++ (wRo cs aR ρ))))))) H locs := kw (by simp only [List.append_assoc, List.nil_append, List.append_nil]) hW
            refine lv_goto (tgt := 86) S.1 S.2.1 dX6_seat_75 (by decide) ?_
            exact wMa_seat_86 S hK hA hQ r_21 δ_16 _ _ _ h hW (lv_sub hl [] rfl)
        · have h := ite_t c_13 h
          exact wMa_seat_36 S hK hA hQ δ dr _ _ _ h hW (lv_sub hl [] rfl)
set_option maxHeartbeats 4000000 in
set_option maxRecDepth 100000 in
theorem wMa_does_26 {p : Program} {l : Launch} {e : Env} {s : State} {m : MethodId} {args : Array Value} {below : List Frame} {meth : Method} {c : Code} {A : Nat → Prop} {Q : State → Prop} {D : va_G} {cs : Nat → ClassId} {a aS aT aE aG aD aR : Nat → Nat} {μ : St} {ς : St} {τ : St} {ε : St} {γ : St} {Γ : Nat → Int64} {ρ : St} {r : Int32} {δ' : St} {dr' : Nat} {N : Nat} (S : Fx p m c cX6_does 4 s args RX6) (hK : va_K D vwCl (tyL cs) s) (hA : ∀ x, s.heap.size ≤ x → A x) (hQ : ∀ (H : Heap) (locs : List Loc) (pc : Nat) (ls : Array Slot), decode cX6_does pc = .ok (.ireturn, 1) → narrow .int (.int r) = .int r → Wd D A s.heap (wMa cs a (aT 0) (aS 0) (aD 0) (aG 0) (aR 0) (aE 0) μ ++ (wSc cs aS (aT 0) ς ++ (wTe cs aT τ ++ (wRo cs aE ε ++ (wGa cs aG (aD 0) (aR 0) γ Γ ++ (wDa cs aD dr' δ' ++ (wRo cs aR ρ))))))) H locs → W p l e { frames := 4, cells := 0, slots := 0, locals := 94 } s m args below meth c H locs 0 0 Q (F0 m pc ls [.int r])) : ∀ (δ : St) (dr : Nat) (H : Heap) (locs : List Loc) (ls : Array Slot), fMa_does_26 N μ ρ (aR 0) δ dr = some (r, δ', dr') → Wd D A s.heap (wMa cs a (aT 0) (aS 0) (aD 0) (aG 0) (aR 0) (aE 0) μ ++ (wSc cs aS (aT 0) ς ++ (wTe cs aT τ ++ (wRo cs aE ε ++ (wGa cs aG (aD 0) (aR 0) γ Γ ++ (wDa cs aD dr δ ++ (wRo cs aR ρ))))))) H locs → lv_has ls 4 [] → W p l e { frames := 4, cells := 0, slots := 0, locals := 94 } s m args below meth c H locs 0 0 Q (F0 m 26 ls []) := by
  intro δ dr H locs ls h hW hl
  unfold fMa_does_26 at h
  refine lv_iconst (v := -1) S.1 S.2.1 dX6_does_26 (by decide) ?_
  obtain ⟨rfl, rfl, rfl⟩ := pr3 h
  exact hQ _ _ _ _ dX6_does_27 rfl hW
set_option maxHeartbeats 4000000 in
set_option maxRecDepth 100000 in
theorem cMa_does (l : Launch) (D : va_G) (cs : Nat → ClassId) (a aS aT aE aG aD aR : Nat → Nat) (μ : St) (ς : St) (τ : St) (ε : St) (γ : St) (Γ : Nat → Int64) (δ : St) (ρ : St) (dr : Nat) (p0 : Int32) (p1 : Int32) (p2 : Int32) (N : Nat) {r : Int32} {δ' : St} {dr' : Nat} (h : fMa_does N p0 p1 p2 μ ρ (aR 0) δ dr = some (r, δ', dr')) : Ki l D cs none yX6_does cX6_does 4 (some .int) 4 94 (wMa cs a (aT 0) (aS 0) (aD 0) (aG 0) (aR 0) (aE 0) μ ++ (wSc cs aS (aT 0) ς ++ (wTe cs aT τ ++ (wRo cs aE ε ++ (wGa cs aG (aD 0) (aR 0) γ Γ ++ (wDa cs aD dr δ ++ (wRo cs aR ρ))))))) [.ref (a 0), .int p0, .int p1, .int p2] r (wMa cs a (aT 0) (aS 0) (aD 0) (aG 0) (aR 0) (aE 0) μ ++ (wSc cs aS (aT 0) ς ++ (wTe cs aT τ ++ (wRo cs aE ε ++ (wGa cs aG (aD 0) (aR 0) γ Γ ++ (wDa cs aD dr' δ' ++ (wRo cs aR ρ))))))) := by
  refine Ki_of (by decide +kernel) (Nat.le_of_ble_eq_true rfl) (fun p e s m below meth c A S hK hA hZ Q hQ ls hl hW => ?_)
  have hl : lv_has ls 4 [(0, .ref (a 0)), (1, .int p0), (2, .int p1), (3, .int p2)] := hl
  unfold fMa_does at h
  refine lv_iload_n S.1 S.2.1 dX6_does_0 rfl (lv_at hl 1 rfl) ?_
  obtain ⟨r_1, hc_2, h⟩ := cl1_some h
  refine kS_i (As := [.int p0]) (rest := []) S hK hA (z := none) trivial [] (wMa cs a (aT 0) (aS 0) (aD 0) (aG 0) (aR 0) (aE 0) μ ++ (wSc cs aS (aT 0) ς ++ (wTe cs aT τ ++ (wRo cs aE ε ++ (wGa cs aG (aD 0) (aR 0) γ Γ ++ (wDa cs aD dr δ ++ (wRo cs aR ρ))))))) hW (cMa_isRule l D cs p0 N hc_2) lk_X6_129 q398 ⟨Nat.le_of_ble_eq_true rfl, Nat.le_of_ble_eq_true rfl⟩ rfl (Nat.le_of_ble_eq_true rfl) hl.1 dX6_does_1 ⟨Nat.zero_le _, Nat.zero_le _⟩ (fun H locs hW => ?_)
  have hW : Wd D A s.heap (wMa cs a (aT 0) (aS 0) (aD 0) (aG 0) (aR 0) (aE 0) μ ++ (wSc cs aS (aT 0) ς ++ (wTe cs aT τ ++ (wRo cs aE ε ++ (wGa cs aG (aD 0) (aR 0) γ Γ ++ (wDa cs aD dr δ ++ (wRo cs aR ρ))))))) H locs := hW
  refine lv_if_eq (tgt := 26) S.1 S.2.1 dX6_does_4 (by decide) (fun c_3 => ?_) (fun c_3 => ?_)
  · have h := ite_t c_3 h
    exact wMa_does_26 S hK hA hQ δ dr _ _ _ h hW (lv_sub hl [] rfl)
  · have h := ite_f c_3 h
    refine lv_iload_n S.1 S.2.1 dX6_does_7 rfl (lv_at hl 2 rfl) ?_
    refine lv_iconst (v := 0) S.1 S.2.1 dX6_does_8 (by decide) ?_
    refine lv_sipush (v := 399) S.1 S.2.1 dX6_does_9 (by decide) ?_
    obtain ⟨r_4, hc_5, h⟩ := cl1_some h
    refine kS_i (As := [.int p1, .int (0 : Int32), .int (399 : Int32)]) (rest := []) S hK hA (z := none) trivial [] (wMa cs a (aT 0) (aS 0) (aD 0) (aG 0) (aR 0) (aE 0) μ ++ (wSc cs aS (aT 0) ς ++ (wTe cs aT τ ++ (wRo cs aE ε ++ (wGa cs aG (aD 0) (aR 0) γ Γ ++ (wDa cs aD dr δ ++ (wRo cs aR ρ))))))) hW (cMa_within l D cs p1 (0 : Int32) (399 : Int32) N hc_5) lk_X6_88 q278 ⟨Nat.le_of_ble_eq_true rfl, Nat.le_of_ble_eq_true rfl⟩ rfl (Nat.le_of_ble_eq_true rfl) hl.1 dX6_does_12 ⟨Nat.zero_le _, Nat.zero_le _⟩ (fun H locs hW => ?_)
    have hW : Wd D A s.heap (wMa cs a (aT 0) (aS 0) (aD 0) (aG 0) (aR 0) (aE 0) μ ++ (wSc cs aS (aT 0) ς ++ (wTe cs aT τ ++ (wRo cs aE ε ++ (wGa cs aG (aD 0) (aR 0) γ Γ ++ (wDa cs aD dr δ ++ (wRo cs aR ρ))))))) H locs := hW
    refine lv_if_eq (tgt := 26) S.1 S.2.1 dX6_does_15 (by decide) (fun c_6 => ?_) (fun c_6 => ?_)
    · have h := ite_t c_6 h
      exact wMa_does_26 S hK hA hQ δ dr _ _ _ h hW (lv_sub hl [] rfl)
    · have h := ite_f c_6 h
      refine lv_aload_n S.1 S.2.1 dX6_does_18 rfl (lv_at hl 0 rfl) ?_
      refine lv_iload_n S.1 S.2.1 dX6_does_19 rfl (lv_at hl 3 rfl) ?_
      obtain ⟨r_7, hc_8, h⟩ := cl1_some h
      have hW := kw_same hW
      refine kV_i (As := [.int p2]) (rest := []) S hK hA (z := none) trivial [] [] hW (cMa_isReader l D cs a aS aT aE aG aD aR μ ς τ ε γ Γ δ ρ dr p2 N hc_8) (ci := 5) rfl rfl lk_X6_115 q371 q3 ⟨Nat.le_of_ble_eq_true rfl, Nat.le_of_ble_eq_true rfl⟩ rfl (Nat.le_of_ble_eq_true rfl) hl.1 dX6_does_20 ⟨Nat.zero_le _, Nat.zero_le _⟩ (fun H locs hW => ?_)
      have hW : Wd D A s.heap (wMa cs a (aT 0) (aS 0) (aD 0) (aG 0) (aR 0) (aE 0) μ ++ (wSc cs aS (aT 0) ς ++ (wTe cs aT τ ++ (wRo cs aE ε ++ (wGa cs aG (aD 0) (aR 0) γ Γ ++ (wDa cs aD dr δ ++ (wRo cs aR ρ))))))) H locs := kw_back hW
      refine lv_if_ne (tgt := 28) S.1 S.2.1 dX6_does_23 (by decide) (fun c_9 => ?_) (fun c_9 => ?_)
      · have h := ite_f c_9 h
        refine lv_aload_n S.1 S.2.1 dX6_does_28 rfl (lv_at hl 0 rfl) ?_
        refine gMa_today S hK hW dX6_does_29 ?_
        refine lv_aload_n S.1 S.2.1 dX6_does_32 rfl (lv_at hl 0 rfl) ?_
        refine gMa_laid S hK hW dX6_does_33 ?_
        refine lv_iload_n S.1 S.2.1 dX6_does_36 rfl (lv_at hl 1 rfl) ?_
        refine lv_aload_n S.1 S.2.1 dX6_does_37 rfl (lv_at hl 0 rfl) ?_
        refine gMa_holders S hK hW dX6_does_38 ?_
        obtain ⟨δ_10, hc_11, h⟩ := cl1_some h
        have hW := kw (w' := (wMa cs a (aT 0) (aS 0) (aD 0) (aG 0) (aR 0) (aE 0) μ ++ (wSc cs aS (aT 0) ς ++ (wTe cs aT τ ++ (wRo cs aE ε ++ (wGa cs aG (aD 0) (aR 0) γ Γ))))) ++ ((wDa cs aD dr δ ++ (wRo cs aR ρ)) ++ [])) (by simp only [List.append_assoc, List.nil_append, List.append_nil]) hW
        refine kV_v (As := [.ref (aR 0), .int p0, .int (μ 0 9)]) (rest := []) S hK hA (z := none) trivial (wMa cs a (aT 0) (aS 0) (aD 0) (aG 0) (aR 0) (aE 0) μ ++ (wSc cs aS (aT 0) ς ++ (wTe cs aT τ ++ (wRo cs aE ε ++ (wGa cs aG (aD 0) (aR 0) γ Γ))))) [] hW (cDa_open l D cs aD aR δ ρ dr p0 (μ 0 9) N hc_11) (ci := 0) rfl rfl lk_X6_132 q401 q402 ⟨Nat.le_of_ble_eq_true rfl, Nat.le_of_ble_eq_true rfl⟩ rfl (Nat.le_of_ble_eq_true rfl) hl.1 dX6_does_41 ⟨Nat.zero_le _, Nat.zero_le _⟩ (fun H locs hW => ?_)
        have hW : Wd D A s.heap (wMa cs a (aT 0) (aS 0) (aD 0) (aG 0) (aR 0) (aE 0) μ ++ (wSc cs aS (aT 0) ς ++ (wTe cs aT τ ++ (wRo cs aE ε ++ (wGa cs aG (aD 0) (aR 0) γ Γ ++ (wDa cs aD (aR 0) δ_10 ++ (wRo cs aR ρ))))))) H locs := kw (by simp only [List.append_assoc, List.nil_append, List.append_nil]) hW
        refine lv_aload_n S.1 S.2.1 dX6_does_44 rfl (lv_at hl 0 rfl) ?_
        refine gMa_today S hK hW dX6_does_45 ?_
        refine lv_iload_n S.1 S.2.1 dX6_does_48 rfl (lv_at hl 2 rfl) ?_
        obtain ⟨δ_12, hc_13, h⟩ := cl1_some h
        have hW := kw (w' := (wMa cs a (aT 0) (aS 0) (aD 0) (aG 0) (aR 0) (aE 0) μ ++ (wSc cs aS (aT 0) ς ++ (wTe cs aT τ ++ (wRo cs aE ε ++ (wGa cs aG (aD 0) (aR 0) γ Γ))))) ++ ((wDa cs aD (aR 0) δ_10 ++ (wRo cs aR ρ)) ++ [])) (by simp only [List.append_assoc, List.nil_append, List.append_nil]) hW
        refine kV_v (As := [.int p1]) (rest := []) S hK hA (z := none) trivial (wMa cs a (aT 0) (aS 0) (aD 0) (aG 0) (aR 0) (aE 0) μ ++ (wSc cs aS (aT 0) ς ++ (wTe cs aT τ ++ (wRo cs aE ε ++ (wGa cs aG (aD 0) (aR 0) γ Γ))))) [] hW (cDa_runTo l D cs aD aR δ_10 ρ p1 N hc_13) (ci := 0) rfl rfl lk_X6_136 q426 q427 ⟨Nat.le_of_ble_eq_true rfl, Nat.le_of_ble_eq_true rfl⟩ rfl (Nat.le_of_ble_eq_true rfl) hl.1 dX6_does_49 ⟨Nat.zero_le _, Nat.zero_le _⟩ (fun H locs hW => ?_)
        have hW : Wd D A s.heap (wMa cs a (aT 0) (aS 0) (aD 0) (aG 0) (aR 0) (aE 0) μ ++ (wSc cs aS (aT 0) ς ++ (wTe cs aT τ ++ (wRo cs aE ε ++ (wGa cs aG (aD 0) (aR 0) γ Γ ++ (wDa cs aD (aR 0) δ_12 ++ (wRo cs aR ρ))))))) H locs := kw (by simp only [List.append_assoc, List.nil_append, List.append_nil]) hW
        refine lv_aload_n S.1 S.2.1 dX6_does_52 rfl (lv_at hl 0 rfl) ?_
        refine gMa_today S hK hW dX6_does_53 ?_
        refine lv_iload_n S.1 S.2.1 dX6_does_56 rfl (lv_at hl 3 rfl) ?_
        obtain ⟨r_14, hc_15, h⟩ := cl1_some h
        have hW := kw (w' := (wMa cs a (aT 0) (aS 0) (aD 0) (aG 0) (aR 0) (aE 0) μ ++ (wSc cs aS (aT 0) ς ++ (wTe cs aT τ ++ (wRo cs aE ε ++ (wGa cs aG (aD 0) (aR 0) γ Γ))))) ++ ((wDa cs aD (aR 0) δ_12 ++ (wRo cs aR ρ)) ++ [])) (by simp only [List.append_assoc, List.nil_append, List.append_nil]) hW
        refine kV_i (As := [.int p2]) (rest := []) S hK hA (z := none) trivial (wMa cs a (aT 0) (aS 0) (aD 0) (aG 0) (aR 0) (aE 0) μ ++ (wSc cs aS (aT 0) ς ++ (wTe cs aT τ ++ (wRo cs aE ε ++ (wGa cs aG (aD 0) (aR 0) γ Γ))))) [] hW (cDa_stateOf l D cs aD aR δ_12 ρ p2 N hc_15) (ci := 0) rfl rfl lk_X6_146 q494 q495 ⟨Nat.le_of_ble_eq_true rfl, Nat.le_of_ble_eq_true rfl⟩ rfl (Nat.le_of_ble_eq_true rfl) hl.1 dX6_does_57 ⟨Nat.zero_le _, Nat.zero_le _⟩ (fun H locs hW => ?_)
        have hW : Wd D A s.heap (wMa cs a (aT 0) (aS 0) (aD 0) (aG 0) (aR 0) (aE 0) μ ++ (wSc cs aS (aT 0) ς ++ (wTe cs aT τ ++ (wRo cs aE ε ++ (wGa cs aG (aD 0) (aR 0) γ Γ ++ (wDa cs aD (aR 0) δ_12 ++ (wRo cs aR ρ))))))) H locs := kw (by simp only [List.append_assoc, List.nil_append, List.append_nil]) hW
        obtain ⟨rfl, rfl, rfl⟩ := pr3 h
        exact hQ _ _ _ _ dX6_does_60 rfl hW
      · have h := ite_t c_9 h
        exact wMa_does_26 S hK hA hQ δ dr _ _ _ h hW (lv_sub hl [] rfl)
set_option maxHeartbeats 4000000 in
set_option maxRecDepth 100000 in
theorem cMa_runWhole (l : Launch) (D : va_G) (cs : Nat → ClassId) (a aS aT aE aG aD aR : Nat → Nat) (μ : St) (ς : St) (τ : St) (ε : St) (γ : St) (Γ : Nat → Int64) (δ : St) (ρ : St) (dr : Nat) (p0 : Int32) (N : Nat) {δ' : St} (h : fMa_runWhole N p0 μ ρ δ = some δ') : Kv l D cs none yX6_runWhole cX6_runWhole 2 none 4 94 (wMa cs a (aT 0) (aS 0) (aD 0) (aG 0) (aR 0) (aE 0) μ ++ (wSc cs aS (aT 0) ς ++ (wTe cs aT τ ++ (wRo cs aE ε ++ (wGa cs aG (aD 0) (aR 0) γ Γ ++ (wDa cs aD dr δ ++ (wRo cs aR ρ))))))) [.ref (a 0), .int p0] (wMa cs a (aT 0) (aS 0) (aD 0) (aG 0) (aR 0) (aE 0) μ ++ (wSc cs aS (aT 0) ς ++ (wTe cs aT τ ++ (wRo cs aE ε ++ (wGa cs aG (aD 0) (aR 0) γ Γ ++ (wDa cs aD (aR 0) δ' ++ (wRo cs aR ρ))))))) := by
  refine Kv_of (by decide +kernel) (Nat.le_of_ble_eq_true rfl) (fun p e s m below meth c A S hK hA hZ Q hQ ls hl hW => ?_)
  have hl : lv_has ls 2 [(0, .ref (a 0)), (1, .int p0)] := hl
  unfold fMa_runWhole at h
  refine lv_aload_n S.1 S.2.1 dX6_runWhole_0 rfl (lv_at hl 0 rfl) ?_
  refine gMa_today S hK hW dX6_runWhole_1 ?_
  refine lv_aload_n S.1 S.2.1 dX6_runWhole_4 rfl (lv_at hl 0 rfl) ?_
  refine gMa_laid S hK hW dX6_runWhole_5 ?_
  refine lv_iload_n S.1 S.2.1 dX6_runWhole_8 rfl (lv_at hl 1 rfl) ?_
  refine lv_aload_n S.1 S.2.1 dX6_runWhole_9 rfl (lv_at hl 0 rfl) ?_
  refine gMa_holders S hK hW dX6_runWhole_10 ?_
  obtain ⟨δ_1, hc_2, h⟩ := cl1_some h
  have hW := kw (w' := (wMa cs a (aT 0) (aS 0) (aD 0) (aG 0) (aR 0) (aE 0) μ ++ (wSc cs aS (aT 0) ς ++ (wTe cs aT τ ++ (wRo cs aE ε ++ (wGa cs aG (aD 0) (aR 0) γ Γ))))) ++ ((wDa cs aD dr δ ++ (wRo cs aR ρ)) ++ [])) (by simp only [List.append_assoc, List.nil_append, List.append_nil]) hW
  refine kV_v (As := [.ref (aR 0), .int p0, .int (μ 0 9)]) (rest := []) S hK hA (z := none) trivial (wMa cs a (aT 0) (aS 0) (aD 0) (aG 0) (aR 0) (aE 0) μ ++ (wSc cs aS (aT 0) ς ++ (wTe cs aT τ ++ (wRo cs aE ε ++ (wGa cs aG (aD 0) (aR 0) γ Γ))))) [] hW (cDa_open l D cs aD aR δ ρ dr p0 (μ 0 9) N hc_2) (ci := 0) rfl rfl lk_X6_132 q401 q402 ⟨Nat.le_of_ble_eq_true rfl, Nat.le_of_ble_eq_true rfl⟩ rfl (Nat.le_of_ble_eq_true rfl) hl.1 dX6_runWhole_13 ⟨Nat.zero_le _, Nat.zero_le _⟩ (fun H locs hW => ?_)
  have hW : Wd D A s.heap (wMa cs a (aT 0) (aS 0) (aD 0) (aG 0) (aR 0) (aE 0) μ ++ (wSc cs aS (aT 0) ς ++ (wTe cs aT τ ++ (wRo cs aE ε ++ (wGa cs aG (aD 0) (aR 0) γ Γ ++ (wDa cs aD (aR 0) δ_1 ++ (wRo cs aR ρ))))))) H locs := kw (by simp only [List.append_assoc, List.nil_append, List.append_nil]) hW
  refine lv_aload_n S.1 S.2.1 dX6_runWhole_16 rfl (lv_at hl 0 rfl) ?_
  refine gMa_today S hK hW dX6_runWhole_17 ?_
  refine lv_sipush (v := 399) S.1 S.2.1 dX6_runWhole_20 (by decide) ?_
  obtain ⟨δ_3, hc_4, h⟩ := cl1_some h
  have hW := kw (w' := (wMa cs a (aT 0) (aS 0) (aD 0) (aG 0) (aR 0) (aE 0) μ ++ (wSc cs aS (aT 0) ς ++ (wTe cs aT τ ++ (wRo cs aE ε ++ (wGa cs aG (aD 0) (aR 0) γ Γ))))) ++ ((wDa cs aD (aR 0) δ_1 ++ (wRo cs aR ρ)) ++ [])) (by simp only [List.append_assoc, List.nil_append, List.append_nil]) hW
  refine kV_v (As := [.int (399 : Int32)]) (rest := []) S hK hA (z := none) trivial (wMa cs a (aT 0) (aS 0) (aD 0) (aG 0) (aR 0) (aE 0) μ ++ (wSc cs aS (aT 0) ς ++ (wTe cs aT τ ++ (wRo cs aE ε ++ (wGa cs aG (aD 0) (aR 0) γ Γ))))) [] hW (cDa_runTo l D cs aD aR δ_1 ρ (399 : Int32) N hc_4) (ci := 0) rfl rfl lk_X6_136 q426 q427 ⟨Nat.le_of_ble_eq_true rfl, Nat.le_of_ble_eq_true rfl⟩ rfl (Nat.le_of_ble_eq_true rfl) hl.1 dX6_runWhole_23 ⟨Nat.zero_le _, Nat.zero_le _⟩ (fun H locs hW => ?_)
  have hW : Wd D A s.heap (wMa cs a (aT 0) (aS 0) (aD 0) (aG 0) (aR 0) (aE 0) μ ++ (wSc cs aS (aT 0) ς ++ (wTe cs aT τ ++ (wRo cs aE ε ++ (wGa cs aG (aD 0) (aR 0) γ Γ ++ (wDa cs aD (aR 0) δ_3 ++ (wRo cs aR ρ))))))) H locs := kw (by simp only [List.append_assoc, List.nil_append, List.append_nil]) hW
  obtain rfl := pr1 h
  exact hQ _ _ _ _ dX6_runWhole_26 hW
set_option maxHeartbeats 4000000 in
set_option maxRecDepth 100000 in
theorem wMa_day_16 {p : Program} {l : Launch} {e : Env} {s : State} {m : MethodId} {args : Array Value} {below : List Frame} {meth : Method} {c : Code} {A : Nat → Prop} {Q : State → Prop} {D : va_G} {cs : Nat → ClassId} {a aS aT aE aG aD aR : Nat → Nat} {μ : St} {ς : St} {τ : St} {ε : St} {γ : St} {Γ : Nat → Int64} {ρ : St} {r : Int32} {δ' : St} {dr' : Nat} {N : Nat} (S : Fx p m c cX6_day 3 s args RX6) (hK : va_K D vwCl (tyL cs) s) (hA : ∀ x, s.heap.size ≤ x → A x) (hQ : ∀ (H : Heap) (locs : List Loc) (pc : Nat) (ls : Array Slot), decode cX6_day pc = .ok (.ireturn, 1) → narrow .int (.int r) = .int r → Wd D A s.heap (wMa cs a (aT 0) (aS 0) (aD 0) (aG 0) (aR 0) (aE 0) μ ++ (wSc cs aS (aT 0) ς ++ (wTe cs aT τ ++ (wRo cs aE ε ++ (wGa cs aG (aD 0) (aR 0) γ Γ ++ (wDa cs aD dr' δ' ++ (wRo cs aR ρ))))))) H locs → W p l e { frames := 5, cells := 0, slots := 0, locals := 115 } s m args below meth c H locs 0 0 Q (F0 m pc ls [.int r])) : ∀ (δ : St) (dr : Nat) (H : Heap) (locs : List Loc) (ls : Array Slot), fMa_day_16 N μ ρ (aR 0) δ dr = some (r, δ', dr') → Wd D A s.heap (wMa cs a (aT 0) (aS 0) (aD 0) (aG 0) (aR 0) (aE 0) μ ++ (wSc cs aS (aT 0) ς ++ (wTe cs aT τ ++ (wRo cs aE ε ++ (wGa cs aG (aD 0) (aR 0) γ Γ ++ (wDa cs aD dr δ ++ (wRo cs aR ρ))))))) H locs → lv_has ls 3 [] → W p l e { frames := 5, cells := 0, slots := 0, locals := 115 } s m args below meth c H locs 0 0 Q (F0 m 16 ls []) := by
  intro δ dr H locs ls h hW hl
  unfold fMa_day_16 at h
  refine lv_iconst (v := -1) S.1 S.2.1 dX6_day_16 (by decide) ?_
  obtain ⟨rfl, rfl, rfl⟩ := pr3 h
  exact hQ _ _ _ _ dX6_day_17 rfl hW
set_option maxHeartbeats 4000000 in
set_option maxRecDepth 100000 in
theorem cMa_day (l : Launch) (D : va_G) (cs : Nat → ClassId) (a aS aT aE aG aD aR : Nat → Nat) (μ : St) (ς : St) (τ : St) (ε : St) (γ : St) (Γ : Nat → Int64) (δ : St) (ρ : St) (dr : Nat) (p0 : Int32) (p1 : Int32) (N : Nat) {r : Int32} {δ' : St} {dr' : Nat} (h : fMa_day N p0 p1 μ ρ (aR 0) δ dr = some (r, δ', dr')) : Ki l D cs none yX6_day cX6_day 3 (some .int) 5 115 (wMa cs a (aT 0) (aS 0) (aD 0) (aG 0) (aR 0) (aE 0) μ ++ (wSc cs aS (aT 0) ς ++ (wTe cs aT τ ++ (wRo cs aE ε ++ (wGa cs aG (aD 0) (aR 0) γ Γ ++ (wDa cs aD dr δ ++ (wRo cs aR ρ))))))) [.ref (a 0), .int p0, .int p1] r (wMa cs a (aT 0) (aS 0) (aD 0) (aG 0) (aR 0) (aE 0) μ ++ (wSc cs aS (aT 0) ς ++ (wTe cs aT τ ++ (wRo cs aE ε ++ (wGa cs aG (aD 0) (aR 0) γ Γ ++ (wDa cs aD dr' δ' ++ (wRo cs aR ρ))))))) := by
  refine Ki_of (by decide +kernel) (Nat.le_of_ble_eq_true rfl) (fun p e s m below meth c A S hK hA hZ Q hQ ls hl hW => ?_)
  have hl : lv_has ls 3 [(0, .ref (a 0)), (1, .int p0), (2, .int p1)] := hl
  unfold fMa_day at h
  refine lv_iload_n S.1 S.2.1 dX6_day_0 rfl (lv_at hl 1 rfl) ?_
  obtain ⟨r_1, hc_2, h⟩ := cl1_some h
  refine kS_i (As := [.int p0]) (rest := []) S hK hA (z := none) trivial [] (wMa cs a (aT 0) (aS 0) (aD 0) (aG 0) (aR 0) (aE 0) μ ++ (wSc cs aS (aT 0) ς ++ (wTe cs aT τ ++ (wRo cs aE ε ++ (wGa cs aG (aD 0) (aR 0) γ Γ ++ (wDa cs aD dr δ ++ (wRo cs aR ρ))))))) hW (cMa_isRule l D cs p0 N hc_2) lk_X6_129 q398 ⟨Nat.le_of_ble_eq_true rfl, Nat.le_of_ble_eq_true rfl⟩ rfl (Nat.le_of_ble_eq_true rfl) hl.1 dX6_day_1 ⟨Nat.zero_le _, Nat.zero_le _⟩ (fun H locs hW => ?_)
  have hW : Wd D A s.heap (wMa cs a (aT 0) (aS 0) (aD 0) (aG 0) (aR 0) (aE 0) μ ++ (wSc cs aS (aT 0) ς ++ (wTe cs aT τ ++ (wRo cs aE ε ++ (wGa cs aG (aD 0) (aR 0) γ Γ ++ (wDa cs aD dr δ ++ (wRo cs aR ρ))))))) H locs := hW
  refine lv_if_eq (tgt := 16) S.1 S.2.1 dX6_day_4 (by decide) (fun c_3 => ?_) (fun c_3 => ?_)
  · have h := ite_t c_3 h
    exact wMa_day_16 S hK hA hQ δ dr _ _ _ h hW (lv_sub hl [] rfl)
  · have h := ite_f c_3 h
    refine lv_iload_n S.1 S.2.1 dX6_day_7 rfl (lv_at hl 2 rfl) ?_
    refine lv_iconst (v := 0) S.1 S.2.1 dX6_day_8 (by decide) ?_
    refine lv_iconst (v := 5) S.1 S.2.1 dX6_day_9 (by decide) ?_
    obtain ⟨r_4, hc_5, h⟩ := cl1_some h
    refine kS_i (As := [.int p1, .int (0 : Int32), .int (5 : Int32)]) (rest := []) S hK hA (z := none) trivial [] (wMa cs a (aT 0) (aS 0) (aD 0) (aG 0) (aR 0) (aE 0) μ ++ (wSc cs aS (aT 0) ς ++ (wTe cs aT τ ++ (wRo cs aE ε ++ (wGa cs aG (aD 0) (aR 0) γ Γ ++ (wDa cs aD dr δ ++ (wRo cs aR ρ))))))) hW (cMa_within l D cs p1 (0 : Int32) (5 : Int32) N hc_5) lk_X6_88 q278 ⟨Nat.le_of_ble_eq_true rfl, Nat.le_of_ble_eq_true rfl⟩ rfl (Nat.le_of_ble_eq_true rfl) hl.1 dX6_day_10 ⟨Nat.zero_le _, Nat.zero_le _⟩ (fun H locs hW => ?_)
    have hW : Wd D A s.heap (wMa cs a (aT 0) (aS 0) (aD 0) (aG 0) (aR 0) (aE 0) μ ++ (wSc cs aS (aT 0) ς ++ (wTe cs aT τ ++ (wRo cs aE ε ++ (wGa cs aG (aD 0) (aR 0) γ Γ ++ (wDa cs aD dr δ ++ (wRo cs aR ρ))))))) H locs := hW
    refine lv_if_ne (tgt := 18) S.1 S.2.1 dX6_day_13 (by decide) (fun c_6 => ?_) (fun c_6 => ?_)
    · have h := ite_f c_6 h
      refine lv_aload_n S.1 S.2.1 dX6_day_18 rfl (lv_at hl 0 rfl) ?_
      refine lv_iload_n S.1 S.2.1 dX6_day_19 rfl (lv_at hl 1 rfl) ?_
      obtain ⟨δ_7, hc_8, h⟩ := cl1_some h
      have hW := kw_same hW
      refine kV_v (As := [.int p0]) (rest := []) S hK hA (z := none) trivial [] [] hW (cMa_runWhole l D cs a aS aT aE aG aD aR μ ς τ ε γ Γ δ ρ dr p0 N hc_8) (ci := 5) rfl rfl lk_X6_149 q503 q14 ⟨Nat.le_of_ble_eq_true rfl, Nat.le_of_ble_eq_true rfl⟩ rfl (Nat.le_of_ble_eq_true rfl) hl.1 dX6_day_20 ⟨Nat.zero_le _, Nat.zero_le _⟩ (fun H locs hW => ?_)
      have hW : Wd D A s.heap (wMa cs a (aT 0) (aS 0) (aD 0) (aG 0) (aR 0) (aE 0) μ ++ (wSc cs aS (aT 0) ς ++ (wTe cs aT τ ++ (wRo cs aE ε ++ (wGa cs aG (aD 0) (aR 0) γ Γ ++ (wDa cs aD (aR 0) δ_7 ++ (wRo cs aR ρ))))))) H locs := kw_back hW
      refine lv_iload_n S.1 S.2.1 dX6_day_23 rfl (lv_at hl 2 rfl) ?_
      rcases Classical.em (p1 = 0) with c_9 | c_9
      · have h := ite_t c_9 h
        refine lv_tableIn (off := 36) (tgt := 60) S.1 S.2.1 dX6_day_24 (by rw [c_9]; decide) (by rw [c_9]; decide) (by rw [c_9]; decide) (by decide) ?_
        refine lv_aload_n S.1 S.2.1 dX6_day_60 rfl (lv_at hl 0 rfl) ?_
        refine gMa_today S hK hW dX6_day_61 ?_
        obtain ⟨r_10, hc_11, h⟩ := cl1_some h
        have hW := kw (w' := (wMa cs a (aT 0) (aS 0) (aD 0) (aG 0) (aR 0) (aE 0) μ ++ (wSc cs aS (aT 0) ς ++ (wTe cs aT τ ++ (wRo cs aE ε ++ (wGa cs aG (aD 0) (aR 0) γ Γ))))) ++ ((wDa cs aD (aR 0) δ_7 ++ (wRo cs aR ρ)) ++ [])) (by simp only [List.append_assoc, List.nil_append, List.append_nil]) hW
        refine kV_i (As := []) (rest := []) S hK hA (z := none) trivial (wMa cs a (aT 0) (aS 0) (aD 0) (aG 0) (aR 0) (aE 0) μ ++ (wSc cs aS (aT 0) ς ++ (wTe cs aT τ ++ (wRo cs aE ε ++ (wGa cs aG (aD 0) (aR 0) γ Γ))))) [] hW (cDa_used l D cs aD aR δ_7 ρ N hc_11) (ci := 0) rfl rfl lk_X6_152 q506 q507 ⟨Nat.le_of_ble_eq_true rfl, Nat.le_of_ble_eq_true rfl⟩ rfl (Nat.le_of_ble_eq_true rfl) hl.1 dX6_day_64 ⟨Nat.zero_le _, Nat.zero_le _⟩ (fun H locs hW => ?_)
        have hW : Wd D A s.heap (wMa cs a (aT 0) (aS 0) (aD 0) (aG 0) (aR 0) (aE 0) μ ++ (wSc cs aS (aT 0) ς ++ (wTe cs aT τ ++ (wRo cs aE ε ++ (wGa cs aG (aD 0) (aR 0) γ Γ ++ (wDa cs aD (aR 0) δ_7 ++ (wRo cs aR ρ))))))) H locs := kw (by simp only [List.append_assoc, List.nil_append, List.append_nil]) hW
        obtain ⟨rfl, rfl, rfl⟩ := pr3 h
        exact hQ _ _ _ _ dX6_day_67 rfl hW
      · have h := ite_f c_9 h
        rcases Classical.em (p1 = 1) with c_12 | c_12
        · have h := ite_t c_12 h
          refine lv_tableIn (off := 44) (tgt := 68) S.1 S.2.1 dX6_day_24 (by rw [c_12]; decide) (by rw [c_12]; decide) (by rw [c_12]; decide) (by decide) ?_
          refine lv_aload_n S.1 S.2.1 dX6_day_68 rfl (lv_at hl 0 rfl) ?_
          refine gMa_today S hK hW dX6_day_69 ?_
          obtain ⟨r_13, hc_14, h⟩ := cl1_some h
          have hW := kw (w' := (wMa cs a (aT 0) (aS 0) (aD 0) (aG 0) (aR 0) (aE 0) μ ++ (wSc cs aS (aT 0) ς ++ (wTe cs aT τ ++ (wRo cs aE ε ++ (wGa cs aG (aD 0) (aR 0) γ Γ))))) ++ ((wDa cs aD (aR 0) δ_7 ++ (wRo cs aR ρ)) ++ [])) (by simp only [List.append_assoc, List.nil_append, List.append_nil]) hW
          refine kV_i (As := []) (rest := []) S hK hA (z := none) trivial (wMa cs a (aT 0) (aS 0) (aD 0) (aG 0) (aR 0) (aE 0) μ ++ (wSc cs aS (aT 0) ς ++ (wTe cs aT τ ++ (wRo cs aE ε ++ (wGa cs aG (aD 0) (aR 0) γ Γ))))) [] hW (cDa_empty l D cs aD aR δ_7 ρ N hc_14) (ci := 0) rfl rfl lk_X6_155 q514 q515 ⟨Nat.le_of_ble_eq_true rfl, Nat.le_of_ble_eq_true rfl⟩ rfl (Nat.le_of_ble_eq_true rfl) hl.1 dX6_day_72 ⟨Nat.zero_le _, Nat.zero_le _⟩ (fun H locs hW => ?_)
          have hW : Wd D A s.heap (wMa cs a (aT 0) (aS 0) (aD 0) (aG 0) (aR 0) (aE 0) μ ++ (wSc cs aS (aT 0) ς ++ (wTe cs aT τ ++ (wRo cs aE ε ++ (wGa cs aG (aD 0) (aR 0) γ Γ ++ (wDa cs aD (aR 0) δ_7 ++ (wRo cs aR ρ))))))) H locs := kw (by simp only [List.append_assoc, List.nil_append, List.append_nil]) hW
          obtain ⟨rfl, rfl, rfl⟩ := pr3 h
          exact hQ _ _ _ _ dX6_day_75 rfl hW
        · have h := ite_f c_12 h
          rcases Classical.em (p1 = 2) with c_15 | c_15
          · have h := ite_t c_15 h
            refine lv_tableIn (off := 52) (tgt := 76) S.1 S.2.1 dX6_day_24 (by rw [c_15]; decide) (by rw [c_15]; decide) (by rw [c_15]; decide) (by decide) ?_
            refine lv_aload_n S.1 S.2.1 dX6_day_76 rfl (lv_at hl 0 rfl) ?_
            refine gMa_today S hK hW dX6_day_77 ?_
            obtain ⟨r_16, hc_17, h⟩ := cl1_some h
            have hW := kw (w' := (wMa cs a (aT 0) (aS 0) (aD 0) (aG 0) (aR 0) (aE 0) μ ++ (wSc cs aS (aT 0) ς ++ (wTe cs aT τ ++ (wRo cs aE ε ++ (wGa cs aG (aD 0) (aR 0) γ Γ))))) ++ ((wDa cs aD (aR 0) δ_7 ++ (wRo cs aR ρ)) ++ [])) (by simp only [List.append_assoc, List.nil_append, List.append_nil]) hW
            refine kV_i (As := []) (rest := []) S hK hA (z := none) trivial (wMa cs a (aT 0) (aS 0) (aD 0) (aG 0) (aR 0) (aE 0) μ ++ (wSc cs aS (aT 0) ς ++ (wTe cs aT τ ++ (wRo cs aE ε ++ (wGa cs aG (aD 0) (aR 0) γ Γ))))) [] hW (cDa_shutOut l D cs aD aR δ_7 ρ N hc_17) (ci := 0) rfl rfl lk_X6_158 q518 q519 ⟨Nat.le_of_ble_eq_true rfl, Nat.le_of_ble_eq_true rfl⟩ rfl (Nat.le_of_ble_eq_true rfl) hl.1 dX6_day_80 ⟨Nat.zero_le _, Nat.zero_le _⟩ (fun H locs hW => ?_)
            have hW : Wd D A s.heap (wMa cs a (aT 0) (aS 0) (aD 0) (aG 0) (aR 0) (aE 0) μ ++ (wSc cs aS (aT 0) ς ++ (wTe cs aT τ ++ (wRo cs aE ε ++ (wGa cs aG (aD 0) (aR 0) γ Γ ++ (wDa cs aD (aR 0) δ_7 ++ (wRo cs aR ρ))))))) H locs := kw (by simp only [List.append_assoc, List.nil_append, List.append_nil]) hW
            obtain ⟨r_18, hc_19, h⟩ := cl1_some h
            refine kS_i (As := [.int r_16]) (rest := []) S hK hA (z := none) trivial [] (wMa cs a (aT 0) (aS 0) (aD 0) (aG 0) (aR 0) (aE 0) μ ++ (wSc cs aS (aT 0) ς ++ (wTe cs aT τ ++ (wRo cs aE ε ++ (wGa cs aG (aD 0) (aR 0) γ Γ ++ (wDa cs aD (aR 0) δ_7 ++ (wRo cs aR ρ))))))) hW (cBc_bitCount_0f7a4 l D cs r_16 N hc_19) lk_X6_161 q463 ⟨Nat.le_of_ble_eq_true rfl, Nat.le_of_ble_eq_true rfl⟩ rfl (Nat.le_of_ble_eq_true rfl) hl.1 dX6_day_83 ⟨Nat.zero_le _, Nat.zero_le _⟩ (fun H locs hW => ?_)
            have hW : Wd D A s.heap (wMa cs a (aT 0) (aS 0) (aD 0) (aG 0) (aR 0) (aE 0) μ ++ (wSc cs aS (aT 0) ς ++ (wTe cs aT τ ++ (wRo cs aE ε ++ (wGa cs aG (aD 0) (aR 0) γ Γ ++ (wDa cs aD (aR 0) δ_7 ++ (wRo cs aR ρ))))))) H locs := hW
            obtain ⟨rfl, rfl, rfl⟩ := pr3 h
            exact hQ _ _ _ _ dX6_day_86 rfl hW
          · have h := ite_f c_15 h
            rcases Classical.em (p1 = 3) with c_20 | c_20
            · have h := ite_t c_20 h
              refine lv_tableIn (off := 63) (tgt := 87) S.1 S.2.1 dX6_day_24 (by rw [c_20]; decide) (by rw [c_20]; decide) (by rw [c_20]; decide) (by decide) ?_
              refine lv_aload_n S.1 S.2.1 dX6_day_87 rfl (lv_at hl 0 rfl) ?_
              refine gMa_today S hK hW dX6_day_88 ?_
              obtain ⟨r_21, hc_22, h⟩ := cl1_some h
              have hW := kw (w' := (wMa cs a (aT 0) (aS 0) (aD 0) (aG 0) (aR 0) (aE 0) μ ++ (wSc cs aS (aT 0) ς ++ (wTe cs aT τ ++ (wRo cs aE ε ++ (wGa cs aG (aD 0) (aR 0) γ Γ))))) ++ ((wDa cs aD (aR 0) δ_7 ++ (wRo cs aR ρ)) ++ [])) (by simp only [List.append_assoc, List.nil_append, List.append_nil]) hW
              refine kV_i (As := []) (rest := []) S hK hA (z := none) trivial (wMa cs a (aT 0) (aS 0) (aD 0) (aG 0) (aR 0) (aE 0) μ ++ (wSc cs aS (aT 0) ς ++ (wTe cs aT τ ++ (wRo cs aE ε ++ (wGa cs aG (aD 0) (aR 0) γ Γ))))) [] hW (cDa_shutOut l D cs aD aR δ_7 ρ N hc_22) (ci := 0) rfl rfl lk_X6_158 q518 q519 ⟨Nat.le_of_ble_eq_true rfl, Nat.le_of_ble_eq_true rfl⟩ rfl (Nat.le_of_ble_eq_true rfl) hl.1 dX6_day_91 ⟨Nat.zero_le _, Nat.zero_le _⟩ (fun H locs hW => ?_)
              have hW : Wd D A s.heap (wMa cs a (aT 0) (aS 0) (aD 0) (aG 0) (aR 0) (aE 0) μ ++ (wSc cs aS (aT 0) ς ++ (wTe cs aT τ ++ (wRo cs aE ε ++ (wGa cs aG (aD 0) (aR 0) γ Γ ++ (wDa cs aD (aR 0) δ_7 ++ (wRo cs aR ρ))))))) H locs := kw (by simp only [List.append_assoc, List.nil_append, List.append_nil]) hW
              obtain ⟨rfl, rfl, rfl⟩ := pr3 h
              exact hQ _ _ _ _ dX6_day_94 rfl hW
            · have h := ite_f c_20 h
              rcases Classical.em (p1 = 4) with c_23 | c_23
              · have h := ite_t c_23 h
                refine lv_tableIn (off := 71) (tgt := 95) S.1 S.2.1 dX6_day_24 (by rw [c_23]; decide) (by rw [c_23]; decide) (by rw [c_23]; decide) (by decide) ?_
                refine lv_aload_n S.1 S.2.1 dX6_day_95 rfl (lv_at hl 0 rfl) ?_
                refine gMa_today S hK hW dX6_day_96 ?_
                obtain ⟨r_24, hc_25, h⟩ := cl1_some h
                have hW := kw (w' := (wMa cs a (aT 0) (aS 0) (aD 0) (aG 0) (aR 0) (aE 0) μ ++ (wSc cs aS (aT 0) ς ++ (wTe cs aT τ ++ (wRo cs aE ε ++ (wGa cs aG (aD 0) (aR 0) γ Γ))))) ++ ((wDa cs aD (aR 0) δ_7 ++ (wRo cs aR ρ)) ++ [])) (by simp only [List.append_assoc, List.nil_append, List.append_nil]) hW
                refine kV_i (As := []) (rest := []) S hK hA (z := none) trivial (wMa cs a (aT 0) (aS 0) (aD 0) (aG 0) (aR 0) (aE 0) μ ++ (wSc cs aS (aT 0) ς ++ (wTe cs aT τ ++ (wRo cs aE ε ++ (wGa cs aG (aD 0) (aR 0) γ Γ))))) [] hW (cDa_thrownOut l D cs aD aR δ_7 ρ N hc_25) (ci := 0) rfl rfl lk_X6_166 q523 q524 ⟨Nat.le_of_ble_eq_true rfl, Nat.le_of_ble_eq_true rfl⟩ rfl (Nat.le_of_ble_eq_true rfl) hl.1 dX6_day_99 ⟨Nat.zero_le _, Nat.zero_le _⟩ (fun H locs hW => ?_)
                have hW : Wd D A s.heap (wMa cs a (aT 0) (aS 0) (aD 0) (aG 0) (aR 0) (aE 0) μ ++ (wSc cs aS (aT 0) ς ++ (wTe cs aT τ ++ (wRo cs aE ε ++ (wGa cs aG (aD 0) (aR 0) γ Γ ++ (wDa cs aD (aR 0) δ_7 ++ (wRo cs aR ρ))))))) H locs := kw (by simp only [List.append_assoc, List.nil_append, List.append_nil]) hW
                obtain ⟨r_26, hc_27, h⟩ := cl1_some h
                refine kS_i (As := [.int r_24]) (rest := []) S hK hA (z := none) trivial [] (wMa cs a (aT 0) (aS 0) (aD 0) (aG 0) (aR 0) (aE 0) μ ++ (wSc cs aS (aT 0) ς ++ (wTe cs aT τ ++ (wRo cs aE ε ++ (wGa cs aG (aD 0) (aR 0) γ Γ ++ (wDa cs aD (aR 0) δ_7 ++ (wRo cs aR ρ))))))) hW (cBc_bitCount_0f7a4 l D cs r_24 N hc_27) lk_X6_161 q463 ⟨Nat.le_of_ble_eq_true rfl, Nat.le_of_ble_eq_true rfl⟩ rfl (Nat.le_of_ble_eq_true rfl) hl.1 dX6_day_102 ⟨Nat.zero_le _, Nat.zero_le _⟩ (fun H locs hW => ?_)
                have hW : Wd D A s.heap (wMa cs a (aT 0) (aS 0) (aD 0) (aG 0) (aR 0) (aE 0) μ ++ (wSc cs aS (aT 0) ς ++ (wTe cs aT τ ++ (wRo cs aE ε ++ (wGa cs aG (aD 0) (aR 0) γ Γ ++ (wDa cs aD (aR 0) δ_7 ++ (wRo cs aR ρ))))))) H locs := hW
                obtain ⟨rfl, rfl, rfl⟩ := pr3 h
                exact hQ _ _ _ _ dX6_day_105 rfl hW
              · have h := ite_f c_23 h
                refine lv_tableOut (tgt := 106) S.1 S.2.1 dX6_day_24 (by have z0 := lv_neT (a := 0) c_9 (by decide); have z1 := lv_neT (a := 1) c_12 (by decide); have z2 := lv_neT (a := 2) c_15 (by decide); have z3 := lv_neT (a := 3) c_20 (by decide); have z4 := lv_neT (a := 4) c_23 (by decide); omega) (by decide) ?_
                refine lv_aload_n S.1 S.2.1 dX6_day_106 rfl (lv_at hl 0 rfl) ?_
                refine gMa_today S hK hW dX6_day_107 ?_
                obtain ⟨r_28, hc_29, h⟩ := cl1_some h
                have hW := kw (w' := (wMa cs a (aT 0) (aS 0) (aD 0) (aG 0) (aR 0) (aE 0) μ ++ (wSc cs aS (aT 0) ς ++ (wTe cs aT τ ++ (wRo cs aE ε ++ (wGa cs aG (aD 0) (aR 0) γ Γ))))) ++ ((wDa cs aD (aR 0) δ_7 ++ (wRo cs aR ρ)) ++ [])) (by simp only [List.append_assoc, List.nil_append, List.append_nil]) hW
                refine kV_i (As := []) (rest := []) S hK hA (z := none) trivial (wMa cs a (aT 0) (aS 0) (aD 0) (aG 0) (aR 0) (aE 0) μ ++ (wSc cs aS (aT 0) ς ++ (wTe cs aT τ ++ (wRo cs aE ε ++ (wGa cs aG (aD 0) (aR 0) γ Γ))))) [] hW (cDa_thrownOut l D cs aD aR δ_7 ρ N hc_29) (ci := 0) rfl rfl lk_X6_166 q523 q524 ⟨Nat.le_of_ble_eq_true rfl, Nat.le_of_ble_eq_true rfl⟩ rfl (Nat.le_of_ble_eq_true rfl) hl.1 dX6_day_110 ⟨Nat.zero_le _, Nat.zero_le _⟩ (fun H locs hW => ?_)
                have hW : Wd D A s.heap (wMa cs a (aT 0) (aS 0) (aD 0) (aG 0) (aR 0) (aE 0) μ ++ (wSc cs aS (aT 0) ς ++ (wTe cs aT τ ++ (wRo cs aE ε ++ (wGa cs aG (aD 0) (aR 0) γ Γ ++ (wDa cs aD (aR 0) δ_7 ++ (wRo cs aR ρ))))))) H locs := kw (by simp only [List.append_assoc, List.nil_append, List.append_nil]) hW
                obtain ⟨rfl, rfl, rfl⟩ := pr3 h
                exact hQ _ _ _ _ dX6_day_113 rfl hW
    · have h := ite_t c_6 h
      exact wMa_day_16 S hK hA hQ δ dr _ _ _ h hW (lv_sub hl [] rfl)
set_option maxHeartbeats 4000000 in
set_option maxRecDepth 100000 in
theorem wMa_sat_15 {p : Program} {l : Launch} {e : Env} {s : State} {m : MethodId} {args : Array Value} {below : List Frame} {meth : Method} {c : Code} {A : Nat → Prop} {Q : State → Prop} {D : va_G} {cs : Nat → ClassId} {a aS aT aE aG aD aR : Nat → Nat} {μ : St} {ς : St} {τ : St} {ε : St} {γ : St} {Γ : Nat → Int64} {ρ : St} {r : Int32} {δ' : St} {dr' : Nat} {N : Nat} (S : Fx p m c cX6_sat 3 s args RX6) (hK : va_K D vwCl (tyL cs) s) (hA : ∀ x, s.heap.size ≤ x → A x) (hQ : ∀ (H : Heap) (locs : List Loc) (pc : Nat) (ls : Array Slot), decode cX6_sat pc = .ok (.ireturn, 1) → narrow .int (.int r) = .int r → Wd D A s.heap (wMa cs a (aT 0) (aS 0) (aD 0) (aG 0) (aR 0) (aE 0) μ ++ (wSc cs aS (aT 0) ς ++ (wTe cs aT τ ++ (wRo cs aE ε ++ (wGa cs aG (aD 0) (aR 0) γ Γ ++ (wDa cs aD dr' δ' ++ (wRo cs aR ρ))))))) H locs → W p l e { frames := 5, cells := 0, slots := 0, locals := 115 } s m args below meth c H locs 0 0 Q (F0 m pc ls [.int r])) : ∀ (δ : St) (dr : Nat) (H : Heap) (locs : List Loc) (ls : Array Slot), fMa_sat_15 N μ ρ (aR 0) δ dr = some (r, δ', dr') → Wd D A s.heap (wMa cs a (aT 0) (aS 0) (aD 0) (aG 0) (aR 0) (aE 0) μ ++ (wSc cs aS (aT 0) ς ++ (wTe cs aT τ ++ (wRo cs aE ε ++ (wGa cs aG (aD 0) (aR 0) γ Γ ++ (wDa cs aD dr δ ++ (wRo cs aR ρ))))))) H locs → lv_has ls 3 [] → W p l e { frames := 5, cells := 0, slots := 0, locals := 115 } s m args below meth c H locs 0 0 Q (F0 m 15 ls []) := by
  intro δ dr H locs ls h hW hl
  unfold fMa_sat_15 at h
  refine lv_iconst (v := -1) S.1 S.2.1 dX6_sat_15 (by decide) ?_
  obtain ⟨rfl, rfl, rfl⟩ := pr3 h
  exact hQ _ _ _ _ dX6_sat_16 rfl hW
set_option maxHeartbeats 4000000 in
set_option maxRecDepth 100000 in
theorem cMa_sat (l : Launch) (D : va_G) (cs : Nat → ClassId) (a aS aT aE aG aD aR : Nat → Nat) (μ : St) (ς : St) (τ : St) (ε : St) (γ : St) (Γ : Nat → Int64) (δ : St) (ρ : St) (dr : Nat) (p0 : Int32) (p1 : Int32) (N : Nat) {r : Int32} {δ' : St} {dr' : Nat} (h : fMa_sat N p0 p1 μ ρ (aR 0) δ dr = some (r, δ', dr')) : Ki l D cs none yX6_sat cX6_sat 3 (some .int) 5 115 (wMa cs a (aT 0) (aS 0) (aD 0) (aG 0) (aR 0) (aE 0) μ ++ (wSc cs aS (aT 0) ς ++ (wTe cs aT τ ++ (wRo cs aE ε ++ (wGa cs aG (aD 0) (aR 0) γ Γ ++ (wDa cs aD dr δ ++ (wRo cs aR ρ))))))) [.ref (a 0), .int p0, .int p1] r (wMa cs a (aT 0) (aS 0) (aD 0) (aG 0) (aR 0) (aE 0) μ ++ (wSc cs aS (aT 0) ς ++ (wTe cs aT τ ++ (wRo cs aE ε ++ (wGa cs aG (aD 0) (aR 0) γ Γ ++ (wDa cs aD dr' δ' ++ (wRo cs aR ρ))))))) := by
  refine Ki_of (by decide +kernel) (Nat.le_of_ble_eq_true rfl) (fun p e s m below meth c A S hK hA hZ Q hQ ls hl hW => ?_)
  have hl : lv_has ls 3 [(0, .ref (a 0)), (1, .int p0), (2, .int p1)] := hl
  unfold fMa_sat at h
  refine lv_iload_n S.1 S.2.1 dX6_sat_0 rfl (lv_at hl 1 rfl) ?_
  obtain ⟨r_1, hc_2, h⟩ := cl1_some h
  refine kS_i (As := [.int p0]) (rest := []) S hK hA (z := none) trivial [] (wMa cs a (aT 0) (aS 0) (aD 0) (aG 0) (aR 0) (aE 0) μ ++ (wSc cs aS (aT 0) ς ++ (wTe cs aT τ ++ (wRo cs aE ε ++ (wGa cs aG (aD 0) (aR 0) γ Γ ++ (wDa cs aD dr δ ++ (wRo cs aR ρ))))))) hW (cMa_isRule l D cs p0 N hc_2) lk_X6_129 q398 ⟨Nat.le_of_ble_eq_true rfl, Nat.le_of_ble_eq_true rfl⟩ rfl (Nat.le_of_ble_eq_true rfl) hl.1 dX6_sat_1 ⟨Nat.zero_le _, Nat.zero_le _⟩ (fun H locs hW => ?_)
  have hW : Wd D A s.heap (wMa cs a (aT 0) (aS 0) (aD 0) (aG 0) (aR 0) (aE 0) μ ++ (wSc cs aS (aT 0) ς ++ (wTe cs aT τ ++ (wRo cs aE ε ++ (wGa cs aG (aD 0) (aR 0) γ Γ ++ (wDa cs aD dr δ ++ (wRo cs aR ρ))))))) H locs := hW
  refine lv_if_eq (tgt := 15) S.1 S.2.1 dX6_sat_4 (by decide) (fun c_3 => ?_) (fun c_3 => ?_)
  · have h := ite_t c_3 h
    exact wMa_sat_15 S hK hA hQ δ dr _ _ _ h hW (lv_sub hl [] rfl)
  · have h := ite_f c_3 h
    refine lv_aload_n S.1 S.2.1 dX6_sat_7 rfl (lv_at hl 0 rfl) ?_
    refine lv_iload_n S.1 S.2.1 dX6_sat_8 rfl (lv_at hl 2 rfl) ?_
    obtain ⟨r_4, hc_5, h⟩ := cl1_some h
    have hW := kw_same hW
    refine kV_i (As := [.int p1]) (rest := []) S hK hA (z := none) trivial [] [] hW (cMa_isReader l D cs a aS aT aE aG aD aR μ ς τ ε γ Γ δ ρ dr p1 N hc_5) (ci := 5) rfl rfl lk_X6_115 q371 q3 ⟨Nat.le_of_ble_eq_true rfl, Nat.le_of_ble_eq_true rfl⟩ rfl (Nat.le_of_ble_eq_true rfl) hl.1 dX6_sat_9 ⟨Nat.zero_le _, Nat.zero_le _⟩ (fun H locs hW => ?_)
    have hW : Wd D A s.heap (wMa cs a (aT 0) (aS 0) (aD 0) (aG 0) (aR 0) (aE 0) μ ++ (wSc cs aS (aT 0) ς ++ (wTe cs aT τ ++ (wRo cs aE ε ++ (wGa cs aG (aD 0) (aR 0) γ Γ ++ (wDa cs aD dr δ ++ (wRo cs aR ρ))))))) H locs := kw_back hW
    refine lv_if_ne (tgt := 17) S.1 S.2.1 dX6_sat_12 (by decide) (fun c_6 => ?_) (fun c_6 => ?_)
    · have h := ite_f c_6 h
      refine lv_aload_n S.1 S.2.1 dX6_sat_17 rfl (lv_at hl 0 rfl) ?_
      refine lv_iload_n S.1 S.2.1 dX6_sat_18 rfl (lv_at hl 1 rfl) ?_
      obtain ⟨δ_7, hc_8, h⟩ := cl1_some h
      have hW := kw_same hW
      refine kV_v (As := [.int p0]) (rest := []) S hK hA (z := none) trivial [] [] hW (cMa_runWhole l D cs a aS aT aE aG aD aR μ ς τ ε γ Γ δ ρ dr p0 N hc_8) (ci := 5) rfl rfl lk_X6_149 q503 q14 ⟨Nat.le_of_ble_eq_true rfl, Nat.le_of_ble_eq_true rfl⟩ rfl (Nat.le_of_ble_eq_true rfl) hl.1 dX6_sat_19 ⟨Nat.zero_le _, Nat.zero_le _⟩ (fun H locs hW => ?_)
      have hW : Wd D A s.heap (wMa cs a (aT 0) (aS 0) (aD 0) (aG 0) (aR 0) (aE 0) μ ++ (wSc cs aS (aT 0) ς ++ (wTe cs aT τ ++ (wRo cs aE ε ++ (wGa cs aG (aD 0) (aR 0) γ Γ ++ (wDa cs aD (aR 0) δ_7 ++ (wRo cs aR ρ))))))) H locs := kw_back hW
      refine lv_aload_n S.1 S.2.1 dX6_sat_22 rfl (lv_at hl 0 rfl) ?_
      refine gMa_today S hK hW dX6_sat_23 ?_
      refine lv_iload_n S.1 S.2.1 dX6_sat_26 rfl (lv_at hl 2 rfl) ?_
      obtain ⟨r_9, hc_10, h⟩ := cl1_some h
      have hW := kw (w' := (wMa cs a (aT 0) (aS 0) (aD 0) (aG 0) (aR 0) (aE 0) μ ++ (wSc cs aS (aT 0) ς ++ (wTe cs aT τ ++ (wRo cs aE ε ++ (wGa cs aG (aD 0) (aR 0) γ Γ))))) ++ ((wDa cs aD (aR 0) δ_7 ++ (wRo cs aR ρ)) ++ [])) (by simp only [List.append_assoc, List.nil_append, List.append_nil]) hW
      refine kV_i (As := [.int p1]) (rest := []) S hK hA (z := none) trivial (wMa cs a (aT 0) (aS 0) (aD 0) (aG 0) (aR 0) (aE 0) μ ++ (wSc cs aS (aT 0) ς ++ (wTe cs aT τ ++ (wRo cs aE ε ++ (wGa cs aG (aD 0) (aR 0) γ Γ))))) [] hW (cDa_minutesOf l D cs aD aR δ_7 ρ p1 N hc_10) (ci := 0) rfl rfl lk_X6_169 q531 q532 ⟨Nat.le_of_ble_eq_true rfl, Nat.le_of_ble_eq_true rfl⟩ rfl (Nat.le_of_ble_eq_true rfl) hl.1 dX6_sat_27 ⟨Nat.zero_le _, Nat.zero_le _⟩ (fun H locs hW => ?_)
      have hW : Wd D A s.heap (wMa cs a (aT 0) (aS 0) (aD 0) (aG 0) (aR 0) (aE 0) μ ++ (wSc cs aS (aT 0) ς ++ (wTe cs aT τ ++ (wRo cs aE ε ++ (wGa cs aG (aD 0) (aR 0) γ Γ ++ (wDa cs aD (aR 0) δ_7 ++ (wRo cs aR ρ))))))) H locs := kw (by simp only [List.append_assoc, List.nil_append, List.append_nil]) hW
      obtain ⟨rfl, rfl, rfl⟩ := pr3 h
      exact hQ _ _ _ _ dX6_sat_30 rfl hW
    · have h := ite_t c_6 h
      exact wMa_sat_15 S hK hA hQ δ dr _ _ _ h hW (lv_sub hl [] rfl)
set_option maxHeartbeats 4000000 in
set_option maxRecDepth 100000 in
theorem wMa_betters_73 {p : Program} {l : Launch} {e : Env} {s : State} {m : MethodId} {args : Array Value} {below : List Frame} {meth : Method} {c : Code} {A : Nat → Prop} {Q : State → Prop} {D : va_G} {cs : Nat → ClassId} {a aS aT aE aG aD aR : Nat → Nat} {μ : St} {ς : St} {τ : St} {ε : St} {γ : St} {Γ : Nat → Int64} {δ : St} {ρ : St} {dr : Nat} {r : Int32} {N : Nat} (S : Fx p m c cX6_betters 6 s args RX6) (hK : va_K D vwCl (tyL cs) s) (hA : ∀ x, s.heap.size ≤ x → A x) (hQ : ∀ (H : Heap) (locs : List Loc) (pc : Nat) (ls : Array Slot), decode cX6_betters pc = .ok (.ireturn, 1) → narrow .boolean (.int r) = .int r → Wd D A s.heap (wMa cs a (aT 0) (aS 0) (aD 0) (aG 0) (aR 0) (aE 0) μ ++ (wSc cs aS (aT 0) ς ++ (wTe cs aT τ ++ (wRo cs aE ε ++ (wGa cs aG (aD 0) (aR 0) γ Γ ++ (wDa cs aD dr δ ++ (wRo cs aR ρ))))))) H locs → W p l e { frames := 0, cells := 0, slots := 0, locals := 0 } s m args below meth c H locs 0 0 Q (F0 m pc ls [.int r])) : ∀ (k0 : Int32) (H : Heap) (locs : List Loc) (ls : Array Slot), fMa_betters_73 N μ k0 = some r → Wd D A s.heap (wMa cs a (aT 0) (aS 0) (aD 0) (aG 0) (aR 0) (aE 0) μ ++ (wSc cs aS (aT 0) ς ++ (wTe cs aT τ ++ (wRo cs aE ε ++ (wGa cs aG (aD 0) (aR 0) γ Γ ++ (wDa cs aD dr δ ++ (wRo cs aR ρ))))))) H locs → lv_has ls 6 [] → W p l e { frames := 0, cells := 0, slots := 0, locals := 0 } s m args below meth c H locs 0 0 Q (F0 m 73 ls [.int k0]) := by
  intro k0 H locs ls h hW hl
  unfold fMa_betters_73 at h
  obtain ⟨hb_1, h⟩ := gB_some h
  obtain rfl := pr1 h
  exact hQ _ _ _ _ dX6_betters_73 hb_1 hW
set_option maxHeartbeats 4000000 in
set_option maxRecDepth 100000 in
theorem wMa_betters_72 {p : Program} {l : Launch} {e : Env} {s : State} {m : MethodId} {args : Array Value} {below : List Frame} {meth : Method} {c : Code} {A : Nat → Prop} {Q : State → Prop} {D : va_G} {cs : Nat → ClassId} {a aS aT aE aG aD aR : Nat → Nat} {μ : St} {ς : St} {τ : St} {ε : St} {γ : St} {Γ : Nat → Int64} {δ : St} {ρ : St} {dr : Nat} {r : Int32} {N : Nat} (S : Fx p m c cX6_betters 6 s args RX6) (hK : va_K D vwCl (tyL cs) s) (hA : ∀ x, s.heap.size ≤ x → A x) (hQ : ∀ (H : Heap) (locs : List Loc) (pc : Nat) (ls : Array Slot), decode cX6_betters pc = .ok (.ireturn, 1) → narrow .boolean (.int r) = .int r → Wd D A s.heap (wMa cs a (aT 0) (aS 0) (aD 0) (aG 0) (aR 0) (aE 0) μ ++ (wSc cs aS (aT 0) ς ++ (wTe cs aT τ ++ (wRo cs aE ε ++ (wGa cs aG (aD 0) (aR 0) γ Γ ++ (wDa cs aD dr δ ++ (wRo cs aR ρ))))))) H locs → W p l e { frames := 0, cells := 0, slots := 0, locals := 0 } s m args below meth c H locs 0 0 Q (F0 m pc ls [.int r])) : ∀ (H : Heap) (locs : List Loc) (ls : Array Slot), fMa_betters_72 N μ = some r → Wd D A s.heap (wMa cs a (aT 0) (aS 0) (aD 0) (aG 0) (aR 0) (aE 0) μ ++ (wSc cs aS (aT 0) ς ++ (wTe cs aT τ ++ (wRo cs aE ε ++ (wGa cs aG (aD 0) (aR 0) γ Γ ++ (wDa cs aD dr δ ++ (wRo cs aR ρ))))))) H locs → lv_has ls 6 [] → W p l e { frames := 0, cells := 0, slots := 0, locals := 0 } s m args below meth c H locs 0 0 Q (F0 m 72 ls []) := by
  intro  H locs ls h hW hl
  unfold fMa_betters_72 at h
  refine lv_iconst (v := 0) S.1 S.2.1 dX6_betters_72 (by decide) ?_
  exact wMa_betters_73 S hK hA hQ (0 : Int32) _ _ _ h hW (lv_sub hl [] rfl)
set_option maxHeartbeats 4000000 in
set_option maxRecDepth 100000 in
theorem cMa_betters (l : Launch) (D : va_G) (cs : Nat → ClassId) (a aS aT aE aG aD aR : Nat → Nat) (μ : St) (ς : St) (τ : St) (ε : St) (γ : St) (Γ : Nat → Int64) (δ : St) (ρ : St) (dr : Nat) (p0 : Int32) (p1 : Int32) (N : Nat) {r : Int32} (h : fMa_betters N p0 p1 μ = some r) : Ki l D cs none yX6_betters cX6_betters 6 (some .boolean) 0 0 (wMa cs a (aT 0) (aS 0) (aD 0) (aG 0) (aR 0) (aE 0) μ ++ (wSc cs aS (aT 0) ς ++ (wTe cs aT τ ++ (wRo cs aE ε ++ (wGa cs aG (aD 0) (aR 0) γ Γ ++ (wDa cs aD dr δ ++ (wRo cs aR ρ))))))) [.ref (a 0), .int p0, .int p1] r (wMa cs a (aT 0) (aS 0) (aD 0) (aG 0) (aR 0) (aE 0) μ ++ (wSc cs aS (aT 0) ς ++ (wTe cs aT τ ++ (wRo cs aE ε ++ (wGa cs aG (aD 0) (aR 0) γ Γ ++ (wDa cs aD dr δ ++ (wRo cs aR ρ))))))) := by
  refine Ki_of (by decide +kernel) (Nat.le_of_ble_eq_true rfl) (fun p e s m below meth c A S hK hA hZ Q hQ ls hl hW => ?_)
  have hl : lv_has ls 6 [(0, .ref (a 0)), (1, .int p0), (2, .int p1)] := hl
  unfold fMa_betters at h
  refine lv_aload_n S.1 S.2.1 dX6_betters_0 rfl (lv_at hl 0 rfl) ?_
  refine gMa_usedBy S hK hW dX6_betters_1 ?_
  refine lv_iload_n S.1 S.2.1 dX6_betters_4 rfl (lv_at hl 1 rfl) ?_
  obtain ⟨hi_2, h⟩ := gI_some h
  refine lMa_usedBy S hK hW hi_2 dX6_betters_5 ?_
  refine lv_aload_n S.1 S.2.1 dX6_betters_6 rfl (lv_at hl 0 rfl) ?_
  refine gMa_usedBy S hK hW dX6_betters_7 ?_
  refine lv_iload_n S.1 S.2.1 dX6_betters_10 rfl (lv_at hl 2 rfl) ?_
  obtain ⟨hi_3, h⟩ := gI_some h
  refine lMa_usedBy S hK hW hi_3 dX6_betters_11 ?_
  refine lv_isub S.1 S.2.1 dX6_betters_12 ?_
  refine lv_topi (fun x3_4 ex3_4 => ?_)
  have h := nm_to ex3_4 h
  refine lv_istore_n (lv' := [(3, .int x3_4), (0, .ref (a 0)), (1, .int p0), (2, .int p1)]) S.1 S.2.1 dX6_betters_13 rfl hl (by decide) rfl (fun ls hl => ?_)
  refine lv_aload_n S.1 S.2.1 dX6_betters_14 rfl (lv_at hl 1 rfl) ?_
  refine gMa_shutOutBy S hK hW dX6_betters_15 ?_
  refine lv_iload_n S.1 S.2.1 dX6_betters_18 rfl (lv_at hl 3 rfl) ?_
  obtain ⟨hi_5, h⟩ := gI_some h
  refine lMa_shutOutBy S hK hW hi_5 dX6_betters_19 ?_
  refine lv_aload_n S.1 S.2.1 dX6_betters_20 rfl (lv_at hl 1 rfl) ?_
  refine gMa_shutOutBy S hK hW dX6_betters_21 ?_
  refine lv_iload_n S.1 S.2.1 dX6_betters_24 rfl (lv_at hl 2 rfl) ?_
  obtain ⟨hi_6, h⟩ := gI_some h
  refine lMa_shutOutBy S hK hW hi_6 dX6_betters_25 ?_
  refine lv_isub S.1 S.2.1 dX6_betters_26 ?_
  refine lv_topi (fun x4_7 ex4_7 => ?_)
  have h := nm_to ex4_7 h
  refine lv_istore (lv' := [(4, .int x4_7), (3, .int x3_4), (0, .ref (a 0)), (1, .int p0), (2, .int p1)]) S.1 S.2.1 dX6_betters_27 hl (by decide) rfl (fun ls hl => ?_)
  refine lv_aload_n S.1 S.2.1 dX6_betters_29 rfl (lv_at hl 2 rfl) ?_
  refine gMa_thrownOutBy S hK hW dX6_betters_30 ?_
  refine lv_iload_n S.1 S.2.1 dX6_betters_33 rfl (lv_at hl 4 rfl) ?_
  obtain ⟨hi_8, h⟩ := gI_some h
  refine lMa_thrownOutBy S hK hW hi_8 dX6_betters_34 ?_
  refine lv_aload_n S.1 S.2.1 dX6_betters_35 rfl (lv_at hl 2 rfl) ?_
  refine gMa_thrownOutBy S hK hW dX6_betters_36 ?_
  refine lv_iload_n S.1 S.2.1 dX6_betters_39 rfl (lv_at hl 3 rfl) ?_
  obtain ⟨hi_9, h⟩ := gI_some h
  refine lMa_thrownOutBy S hK hW hi_9 dX6_betters_40 ?_
  refine lv_isub S.1 S.2.1 dX6_betters_41 ?_
  refine lv_topi (fun x5_10 ex5_10 => ?_)
  have h := nm_to ex5_10 h
  refine lv_istore (lv' := [(5, .int x5_10), (4, .int x4_7), (3, .int x3_4), (0, .ref (a 0)), (1, .int p0), (2, .int p1)]) S.1 S.2.1 dX6_betters_42 hl (by decide) rfl (fun ls hl => ?_)
  refine lv_iload_n S.1 S.2.1 dX6_betters_44 rfl (lv_at hl 2 rfl) ?_
  refine lv_if_lt (tgt := 72) S.1 S.2.1 dX6_betters_45 (by decide) (fun c_11 => ?_) (fun c_11 => ?_)
  · have h := ite_t c_11 h
    exact wMa_betters_72 S hK hA hQ _ _ _ h hW (lv_sub hl [] rfl)
  · have h := ite_f c_11 h
    refine lv_iload S.1 S.2.1 dX6_betters_48 (lv_at hl 1 rfl) ?_
    refine lv_if_lt (tgt := 72) S.1 S.2.1 dX6_betters_50 (by decide) (fun c_12 => ?_) (fun c_12 => ?_)
    · have h := ite_t c_12 h
      exact wMa_betters_72 S hK hA hQ _ _ _ h hW (lv_sub hl [] rfl)
    · have h := ite_f c_12 h
      refine lv_iload S.1 S.2.1 dX6_betters_53 (lv_at hl 0 rfl) ?_
      refine lv_if_lt (tgt := 72) S.1 S.2.1 dX6_betters_55 (by decide) (fun c_13 => ?_) (fun c_13 => ?_)
      · have h := ite_t c_13 h
        exact wMa_betters_72 S hK hA hQ _ _ _ h hW (lv_sub hl [] rfl)
      · have h := ite_f c_13 h
        refine lv_iload_n S.1 S.2.1 dX6_betters_58 rfl (lv_at hl 2 rfl) ?_
        refine lv_iload S.1 S.2.1 dX6_betters_59 (lv_at hl 1 rfl) ?_
        refine lv_iadd S.1 S.2.1 dX6_betters_61 ?_
        refine lv_iload S.1 S.2.1 dX6_betters_62 (lv_at hl 0 rfl) ?_
        refine lv_iadd S.1 S.2.1 dX6_betters_64 ?_
        refine lv_if_le (tgt := 72) S.1 S.2.1 dX6_betters_65 (by decide) (fun c_14 => ?_) (fun c_14 => ?_)
        · have h := ite_t c_14 h
          exact wMa_betters_72 S hK hA hQ _ _ _ h hW (lv_sub hl [] rfl)
        · have h := ite_f c_14 h
          refine lv_iconst (v := 1) S.1 S.2.1 dX6_betters_68 (by decide) ?_
          refine lv_goto (tgt := 73) S.1 S.2.1 dX6_betters_69 (by decide) ?_
          exact wMa_betters_73 S hK hA hQ (1 : Int32) _ _ _ h hW (lv_sub hl [] rfl)
set_option maxHeartbeats 4000000 in
set_option maxRecDepth 100000 in
theorem wMa_bettered_96 {p : Program} {l : Launch} {e : Env} {s : State} {m : MethodId} {args : Array Value} {below : List Frame} {meth : Method} {c : Code} {A : Nat → Prop} {Q : State → Prop} {D : va_G} {cs : Nat → ClassId} {a aS aT aE aG aD aR : Nat → Nat} {ς : St} {τ : St} {ε : St} {γ : St} {Γ : Nat → Int64} {ρ : St} {r : Int32} {μ' : St} {δ' : St} {dr' : Nat} {N : Nat} (S : Fx p m c cX6_bettered 4 s args RX6) (hK : va_K D vwCl (tyL cs) s) (hA : ∀ x, s.heap.size ≤ x → A x) (hQ : ∀ (H : Heap) (locs : List Loc) (pc : Nat) (ls : Array Slot), decode cX6_bettered pc = .ok (.ireturn, 1) → narrow .int (.int r) = .int r → Wd D A s.heap (wMa cs a (aT 0) (aS 0) (aD 0) (aG 0) (aR 0) (aE 0) μ' ++ (wSc cs aS (aT 0) ς ++ (wTe cs aT τ ++ (wRo cs aE ε ++ (wGa cs aG (aD 0) (aR 0) γ Γ ++ (wDa cs aD dr' δ' ++ (wRo cs aR ρ))))))) H locs → W p l e { frames := 5, cells := 0, slots := 0, locals := 115 } s m args below meth c H locs 0 0 Q (F0 m pc ls [.int r])) {k_74 : Int32 → Int32 → Int32 → St → St → Nat → Option (Int32 × St × St × Nat)} (hk_74 : ∀ (v1 : Int32) (v2 : Int32) (v3 : Int32) (μ : St) (δ : St) (dr : Nat) (H : Heap) (locs : List Loc) (ls : Array Slot), k_74 v1 v2 v3 μ δ dr = some (r, μ', δ', dr') → Wd D A s.heap (wMa cs a (aT 0) (aS 0) (aD 0) (aG 0) (aR 0) (aE 0) μ ++ (wSc cs aS (aT 0) ς ++ (wTe cs aT τ ++ (wRo cs aE ε ++ (wGa cs aG (aD 0) (aR 0) γ Γ ++ (wDa cs aD dr δ ++ (wRo cs aR ρ))))))) H locs → lv_has ls 4 [(0, .ref (a 0)), (1, .int v1), (2, .int v2), (3, .int v3)] → W p l e { frames := 5, cells := 0, slots := 0, locals := 115 } s m args below meth c H locs 0 0 Q (F0 m 74 ls [])) : ∀ (v2 : Int32) (v3 : Int32) (k0 : Int32) (k1 : Int32) (μ : St) (δ : St) (dr : Nat) (H : Heap) (locs : List Loc) (ls : Array Slot), fMa_bettered_96 k_74 N ρ (aR 0) v2 v3 k0 k1 μ δ dr = some (r, μ', δ', dr') → Wd D A s.heap (wMa cs a (aT 0) (aS 0) (aD 0) (aG 0) (aR 0) (aE 0) μ ++ (wSc cs aS (aT 0) ς ++ (wTe cs aT τ ++ (wRo cs aE ε ++ (wGa cs aG (aD 0) (aR 0) γ Γ ++ (wDa cs aD dr δ ++ (wRo cs aR ρ))))))) H locs → lv_has ls 4 [(0, .ref (a 0)), (2, .int v2), (3, .int v3)] → W p l e { frames := 5, cells := 0, slots := 0, locals := 115 } s m args below meth c H locs 0 0 Q (F0 m 96 ls [.int k1, .int k0]) := by
  intro v2 v3 k0 k1 μ δ dr H locs ls h hW hl
  unfold fMa_bettered_96 at h
  refine lv_ior S.1 S.2.1 dX6_bettered_96 ?_
  refine lv_topi (fun x1_1 ex1_1 => ?_)
  have h := nm_to ex1_1 h
  refine lv_istore_n (lv' := [(1, .int x1_1), (0, .ref (a 0)), (2, .int v2), (3, .int v3)]) S.1 S.2.1 dX6_bettered_97 rfl hl (by decide) rfl (fun ls hl => ?_)
  obtain ⟨x3_2, ex3_2, h⟩ := nm_some h
  refine lv_iinc (v := x3_2) (lv' := [(3, .int x3_2), (1, .int x1_1), (0, .ref (a 0)), (2, .int v2)]) S.1 S.2.1 dX6_bettered_98 hl (k := 3) rfl (by rw [ex3_2]; rfl) (by decide) rfl (fun ls hl => ?_)
  refine lv_goto (tgt := 74) S.1 S.2.1 dX6_bettered_101 (by decide) ?_
  exact hk_74 x1_1 v2 x3_2 μ δ dr _ _ _ h hW (lv_sub hl [2, 1, 3, 0] rfl)
set_option maxHeartbeats 4000000 in
set_option maxRecDepth 100000 in
theorem wMa_bettered_74 {p : Program} {l : Launch} {e : Env} {s : State} {m : MethodId} {args : Array Value} {below : List Frame} {meth : Method} {c : Code} {A : Nat → Prop} {Q : State → Prop} {D : va_G} {cs : Nat → ClassId} {a aS aT aE aG aD aR : Nat → Nat} {ς : St} {τ : St} {ε : St} {γ : St} {Γ : Nat → Int64} {ρ : St} {r : Int32} {μ' : St} {δ' : St} {dr' : Nat} {N : Nat} (S : Fx p m c cX6_bettered 4 s args RX6) (hK : va_K D vwCl (tyL cs) s) (hA : ∀ x, s.heap.size ≤ x → A x) (hQ : ∀ (H : Heap) (locs : List Loc) (pc : Nat) (ls : Array Slot), decode cX6_bettered pc = .ok (.ireturn, 1) → narrow .int (.int r) = .int r → Wd D A s.heap (wMa cs a (aT 0) (aS 0) (aD 0) (aG 0) (aR 0) (aE 0) μ' ++ (wSc cs aS (aT 0) ς ++ (wTe cs aT τ ++ (wRo cs aE ε ++ (wGa cs aG (aD 0) (aR 0) γ Γ ++ (wDa cs aD dr' δ' ++ (wRo cs aR ρ))))))) H locs → W p l e { frames := 5, cells := 0, slots := 0, locals := 115 } s m args below meth c H locs 0 0 Q (F0 m pc ls [.int r])) {k_67 : Int32 → Int32 → St → St → Nat → Option (Int32 × St × St × Nat)} (hk_67 : ∀ (v1 : Int32) (v2 : Int32) (μ : St) (δ : St) (dr : Nat) (H : Heap) (locs : List Loc) (ls : Array Slot), k_67 v1 v2 μ δ dr = some (r, μ', δ', dr') → Wd D A s.heap (wMa cs a (aT 0) (aS 0) (aD 0) (aG 0) (aR 0) (aE 0) μ ++ (wSc cs aS (aT 0) ς ++ (wTe cs aT τ ++ (wRo cs aE ε ++ (wGa cs aG (aD 0) (aR 0) γ Γ ++ (wDa cs aD dr δ ++ (wRo cs aR ρ))))))) H locs → lv_has ls 4 [(0, .ref (a 0)), (1, .int v1), (2, .int v2)] → W p l e { frames := 5, cells := 0, slots := 0, locals := 115 } s m args below meth c H locs 0 0 Q (F0 m 67 ls [])) : ∀ (n_74 : Nat) (v1 : Int32) (v2 : Int32) (v3 : Int32) (μ : St) (δ : St) (dr : Nat) (H : Heap) (locs : List Loc) (ls : Array Slot), fMa_bettered_74 k_67 N ρ (aR 0) n_74 v1 v2 v3 μ δ dr = some (r, μ', δ', dr') → Wd D A s.heap (wMa cs a (aT 0) (aS 0) (aD 0) (aG 0) (aR 0) (aE 0) μ ++ (wSc cs aS (aT 0) ς ++ (wTe cs aT τ ++ (wRo cs aE ε ++ (wGa cs aG (aD 0) (aR 0) γ Γ ++ (wDa cs aD dr δ ++ (wRo cs aR ρ))))))) H locs → lv_has ls 4 [(0, .ref (a 0)), (1, .int v1), (2, .int v2), (3, .int v3)] → W p l e { frames := 5, cells := 0, slots := 0, locals := 115 } s m args below meth c H locs 0 0 Q (F0 m 74 ls []) := by
  intro n_74
  induction n_74 with
  | zero =>
    intro v1 v2 v3 μ δ dr H locs ls h
    cases h
  | succ n_74 ih =>
    intro v1 v2 v3 μ δ dr H locs ls h hW hl
    unfold fMa_bettered_74 at h
    refine lv_iload_n S.1 S.2.1 dX6_bettered_74 rfl (lv_at hl 3 rfl) ?_
    refine lv_iconst (v := 5) S.1 S.2.1 dX6_bettered_75 (by decide) ?_
    refine lv_icmp_ge (tgt := 104) S.1 S.2.1 dX6_bettered_76 (by decide) (fun c_3 => ?_) (fun c_3 => ?_)
    · have h := ite_t c_3 h
      obtain ⟨x2_4, ex2_4, h⟩ := nm_some h
      refine lv_iinc (v := x2_4) (lv' := [(2, .int x2_4), (0, .ref (a 0)), (1, .int v1), (3, .int v3)]) S.1 S.2.1 dX6_bettered_104 hl (k := 2) rfl (by rw [ex2_4]; rfl) (by decide) rfl (fun ls hl => ?_)
      refine lv_goto (tgt := 67) S.1 S.2.1 dX6_bettered_107 (by decide) ?_
      exact hk_67 v1 x2_4 μ δ dr _ _ _ h hW (lv_sub hl [1, 2, 0] rfl)
    · have h := ite_f c_3 h
      refine lv_iload_n S.1 S.2.1 dX6_bettered_79 rfl (lv_at hl 1 rfl) ?_
      refine lv_aload_n S.1 S.2.1 dX6_bettered_80 rfl (lv_at hl 0 rfl) ?_
      refine lv_iload_n S.1 S.2.1 dX6_bettered_81 rfl (lv_at hl 3 rfl) ?_
      refine lv_iload_n S.1 S.2.1 dX6_bettered_82 rfl (lv_at hl 2 rfl) ?_
      obtain ⟨r_5, hc_6, h⟩ := cl1_some h
      have hW := kw_same hW
      refine kV_i (As := [.int v3, .int v2]) (rest := [.int v1]) S hK hA (z := none) trivial [] [] hW (cMa_betters l D cs a aS aT aE aG aD aR μ ς τ ε γ Γ δ ρ dr v3 v2 N hc_6) (ci := 5) rfl rfl lk_X6_172 q540 q15 ⟨Nat.le_of_ble_eq_true rfl, Nat.le_of_ble_eq_true rfl⟩ rfl (Nat.le_of_ble_eq_true rfl) hl.1 dX6_bettered_83 ⟨Nat.zero_le _, Nat.zero_le _⟩ (fun H locs hW => ?_)
      have hW : Wd D A s.heap (wMa cs a (aT 0) (aS 0) (aD 0) (aG 0) (aR 0) (aE 0) μ ++ (wSc cs aS (aT 0) ς ++ (wTe cs aT τ ++ (wRo cs aE ε ++ (wGa cs aG (aD 0) (aR 0) γ Γ ++ (wDa cs aD dr δ ++ (wRo cs aR ρ))))))) H locs := kw_back hW
      refine lv_if_eq (tgt := 95) S.1 S.2.1 dX6_bettered_86 (by decide) (fun c_7 => ?_) (fun c_7 => ?_)
      · have h := ite_t c_7 h
        refine lv_iconst (v := 0) S.1 S.2.1 dX6_bettered_95 (by decide) ?_
        exact wMa_bettered_96 S hK hA hQ ih v2 v3 v1 (0 : Int32) μ δ dr _ _ _ h hW (lv_sub hl [0, 2, 3] rfl)
      · have h := ite_f c_7 h
        refine lv_iconst (v := 1) S.1 S.2.1 dX6_bettered_89 (by decide) ?_
        refine lv_iload_n S.1 S.2.1 dX6_bettered_90 rfl (lv_at hl 2 rfl) ?_
        refine lv_ishl S.1 S.2.1 dX6_bettered_91 ?_
        refine lv_goto (tgt := 96) S.1 S.2.1 dX6_bettered_92 (by decide) ?_
        exact wMa_bettered_96 S hK hA hQ ih v2 v3 v1 ((1 : Int32) <<< (v2 &&& 31)) μ δ dr _ _ _ h hW (lv_sub hl [0, 2, 3] rfl)
set_option maxHeartbeats 4000000 in
set_option maxRecDepth 100000 in
theorem wMa_bettered_67 {p : Program} {l : Launch} {e : Env} {s : State} {m : MethodId} {args : Array Value} {below : List Frame} {meth : Method} {c : Code} {A : Nat → Prop} {Q : State → Prop} {D : va_G} {cs : Nat → ClassId} {a aS aT aE aG aD aR : Nat → Nat} {ς : St} {τ : St} {ε : St} {γ : St} {Γ : Nat → Int64} {ρ : St} {r : Int32} {μ' : St} {δ' : St} {dr' : Nat} {N : Nat} (S : Fx p m c cX6_bettered 4 s args RX6) (hK : va_K D vwCl (tyL cs) s) (hA : ∀ x, s.heap.size ≤ x → A x) (hQ : ∀ (H : Heap) (locs : List Loc) (pc : Nat) (ls : Array Slot), decode cX6_bettered pc = .ok (.ireturn, 1) → narrow .int (.int r) = .int r → Wd D A s.heap (wMa cs a (aT 0) (aS 0) (aD 0) (aG 0) (aR 0) (aE 0) μ' ++ (wSc cs aS (aT 0) ς ++ (wTe cs aT τ ++ (wRo cs aE ε ++ (wGa cs aG (aD 0) (aR 0) γ Γ ++ (wDa cs aD dr' δ' ++ (wRo cs aR ρ))))))) H locs → W p l e { frames := 5, cells := 0, slots := 0, locals := 115 } s m args below meth c H locs 0 0 Q (F0 m pc ls [.int r])) : ∀ (n_67 : Nat) (v1 : Int32) (v2 : Int32) (μ : St) (δ : St) (dr : Nat) (H : Heap) (locs : List Loc) (ls : Array Slot), fMa_bettered_67 N ρ (aR 0) n_67 v1 v2 μ δ dr = some (r, μ', δ', dr') → Wd D A s.heap (wMa cs a (aT 0) (aS 0) (aD 0) (aG 0) (aR 0) (aE 0) μ ++ (wSc cs aS (aT 0) ς ++ (wTe cs aT τ ++ (wRo cs aE ε ++ (wGa cs aG (aD 0) (aR 0) γ Γ ++ (wDa cs aD dr δ ++ (wRo cs aR ρ))))))) H locs → lv_has ls 4 [(0, .ref (a 0)), (1, .int v1), (2, .int v2)] → W p l e { frames := 5, cells := 0, slots := 0, locals := 115 } s m args below meth c H locs 0 0 Q (F0 m 67 ls []) := by
  intro n_67
  induction n_67 with
  | zero =>
    intro v1 v2 μ δ dr H locs ls h
    cases h
  | succ n_67 ih =>
    intro v1 v2 μ δ dr H locs ls h hW hl
    unfold fMa_bettered_67 at h
    refine lv_iload_n S.1 S.2.1 dX6_bettered_67 rfl (lv_at hl 2 rfl) ?_
    refine lv_iconst (v := 5) S.1 S.2.1 dX6_bettered_68 (by decide) ?_
    refine lv_icmp_ge (tgt := 110) S.1 S.2.1 dX6_bettered_69 (by decide) (fun c_8 => ?_) (fun c_8 => ?_)
    · have h := ite_t c_8 h
      refine lv_iload_n S.1 S.2.1 dX6_bettered_110 rfl (lv_at hl 1 rfl) ?_
      obtain ⟨rfl, rfl, rfl, rfl⟩ := pr4 h
      exact hQ _ _ _ _ dX6_bettered_111 rfl hW
    · have h := ite_f c_8 h
      refine lv_iconst (v := 0) S.1 S.2.1 dX6_bettered_72 (by decide) ?_
      refine lv_istore_n (lv' := [(3, .int (0 : Int32)), (0, .ref (a 0)), (1, .int v1), (2, .int v2)]) S.1 S.2.1 dX6_bettered_73 rfl hl (by decide) rfl (fun ls hl => ?_)
      exact wMa_bettered_74 S hK hA hQ ih N v1 v2 (0 : Int32) μ δ dr _ _ _ h hW (lv_sub hl [1, 2, 3, 0] rfl)
set_option maxHeartbeats 4000000 in
set_option maxRecDepth 100000 in
theorem wMa_bettered_2 {p : Program} {l : Launch} {e : Env} {s : State} {m : MethodId} {args : Array Value} {below : List Frame} {meth : Method} {c : Code} {A : Nat → Prop} {Q : State → Prop} {D : va_G} {cs : Nat → ClassId} {a aS aT aE aG aD aR : Nat → Nat} {ς : St} {τ : St} {ε : St} {γ : St} {Γ : Nat → Int64} {ρ : St} {r : Int32} {μ' : St} {δ' : St} {dr' : Nat} {N : Nat} (S : Fx p m c cX6_bettered 4 s args RX6) (hK : va_K D vwCl (tyL cs) s) (hA : ∀ x, s.heap.size ≤ x → A x) (hQ : ∀ (H : Heap) (locs : List Loc) (pc : Nat) (ls : Array Slot), decode cX6_bettered pc = .ok (.ireturn, 1) → narrow .int (.int r) = .int r → Wd D A s.heap (wMa cs a (aT 0) (aS 0) (aD 0) (aG 0) (aR 0) (aE 0) μ' ++ (wSc cs aS (aT 0) ς ++ (wTe cs aT τ ++ (wRo cs aE ε ++ (wGa cs aG (aD 0) (aR 0) γ Γ ++ (wDa cs aD dr' δ' ++ (wRo cs aR ρ))))))) H locs → W p l e { frames := 5, cells := 0, slots := 0, locals := 115 } s m args below meth c H locs 0 0 Q (F0 m pc ls [.int r])) : ∀ (n_2 : Nat) (v1 : Int32) (μ : St) (δ : St) (dr : Nat) (H : Heap) (locs : List Loc) (ls : Array Slot), fMa_bettered_2 N ρ (aR 0) n_2 v1 μ δ dr = some (r, μ', δ', dr') → Wd D A s.heap (wMa cs a (aT 0) (aS 0) (aD 0) (aG 0) (aR 0) (aE 0) μ ++ (wSc cs aS (aT 0) ς ++ (wTe cs aT τ ++ (wRo cs aE ε ++ (wGa cs aG (aD 0) (aR 0) γ Γ ++ (wDa cs aD dr δ ++ (wRo cs aR ρ))))))) H locs → lv_has ls 4 [(0, .ref (a 0)), (1, .int v1)] → W p l e { frames := 5, cells := 0, slots := 0, locals := 115 } s m args below meth c H locs 0 0 Q (F0 m 2 ls []) := by
  intro n_2
  induction n_2 with
  | zero =>
    intro v1 μ δ dr H locs ls h
    cases h
  | succ n_2 ih =>
    intro v1 μ δ dr H locs ls h hW hl
    unfold fMa_bettered_2 at h
    refine lv_iload_n S.1 S.2.1 dX6_bettered_2 rfl (lv_at hl 1 rfl) ?_
    refine lv_iconst (v := 5) S.1 S.2.1 dX6_bettered_3 (by decide) ?_
    refine lv_icmp_ge (tgt := 63) S.1 S.2.1 dX6_bettered_4 (by decide) (fun c_9 => ?_) (fun c_9 => ?_)
    · have h := ite_t c_9 h
      refine lv_iconst (v := 0) S.1 S.2.1 dX6_bettered_63 (by decide) ?_
      refine lv_istore_n (lv' := [(1, .int (0 : Int32)), (0, .ref (a 0))]) S.1 S.2.1 dX6_bettered_64 rfl hl (by decide) rfl (fun ls hl => ?_)
      refine lv_iconst (v := 0) S.1 S.2.1 dX6_bettered_65 (by decide) ?_
      refine lv_istore_n (lv' := [(2, .int (0 : Int32)), (1, .int (0 : Int32)), (0, .ref (a 0))]) S.1 S.2.1 dX6_bettered_66 rfl hl (by decide) rfl (fun ls hl => ?_)
      exact wMa_bettered_67 S hK hA hQ N (0 : Int32) (0 : Int32) μ δ dr _ _ _ h hW (lv_sub hl [2, 1, 0] rfl)
    · have h := ite_f c_9 h
      refine lv_aload_n S.1 S.2.1 dX6_bettered_7 rfl (lv_at hl 0 rfl) ?_
      refine lv_iload_n S.1 S.2.1 dX6_bettered_8 rfl (lv_at hl 1 rfl) ?_
      obtain ⟨δ_10, hc_11, h⟩ := cl1_some h
      have hW := kw_same hW
      refine kV_v (As := [.int v1]) (rest := []) S hK hA (z := none) trivial [] [] hW (cMa_runWhole l D cs a aS aT aE aG aD aR μ ς τ ε γ Γ δ ρ dr v1 N hc_11) (ci := 5) rfl rfl lk_X6_149 q503 q14 ⟨Nat.le_of_ble_eq_true rfl, Nat.le_of_ble_eq_true rfl⟩ rfl (Nat.le_of_ble_eq_true rfl) hl.1 dX6_bettered_9 ⟨Nat.zero_le _, Nat.zero_le _⟩ (fun H locs hW => ?_)
      have hW : Wd D A s.heap (wMa cs a (aT 0) (aS 0) (aD 0) (aG 0) (aR 0) (aE 0) μ ++ (wSc cs aS (aT 0) ς ++ (wTe cs aT τ ++ (wRo cs aE ε ++ (wGa cs aG (aD 0) (aR 0) γ Γ ++ (wDa cs aD (aR 0) δ_10 ++ (wRo cs aR ρ))))))) H locs := kw_back hW
      refine lv_aload_n S.1 S.2.1 dX6_bettered_12 rfl (lv_at hl 0 rfl) ?_
      refine gMa_usedBy S hK hW dX6_bettered_13 ?_
      refine lv_iload_n S.1 S.2.1 dX6_bettered_16 rfl (lv_at hl 1 rfl) ?_
      refine lv_aload_n S.1 S.2.1 dX6_bettered_17 rfl (lv_at hl 0 rfl) ?_
      refine gMa_today S hK hW dX6_bettered_18 ?_
      obtain ⟨r_12, hc_13, h⟩ := cl1_some h
      have hW := kw (w' := (wMa cs a (aT 0) (aS 0) (aD 0) (aG 0) (aR 0) (aE 0) μ ++ (wSc cs aS (aT 0) ς ++ (wTe cs aT τ ++ (wRo cs aE ε ++ (wGa cs aG (aD 0) (aR 0) γ Γ))))) ++ ((wDa cs aD (aR 0) δ_10 ++ (wRo cs aR ρ)) ++ [])) (by simp only [List.append_assoc, List.nil_append, List.append_nil]) hW
      refine kV_i (As := []) (rest := [.int v1, .ref (a 5)]) S hK hA (z := none) trivial (wMa cs a (aT 0) (aS 0) (aD 0) (aG 0) (aR 0) (aE 0) μ ++ (wSc cs aS (aT 0) ς ++ (wTe cs aT τ ++ (wRo cs aE ε ++ (wGa cs aG (aD 0) (aR 0) γ Γ))))) [] hW (cDa_used l D cs aD aR δ_10 ρ N hc_13) (ci := 0) rfl rfl lk_X6_152 q506 q507 ⟨Nat.le_of_ble_eq_true rfl, Nat.le_of_ble_eq_true rfl⟩ rfl (Nat.le_of_ble_eq_true rfl) hl.1 dX6_bettered_21 ⟨Nat.zero_le _, Nat.zero_le _⟩ (fun H locs hW => ?_)
      have hW : Wd D A s.heap (wMa cs a (aT 0) (aS 0) (aD 0) (aG 0) (aR 0) (aE 0) μ ++ (wSc cs aS (aT 0) ς ++ (wTe cs aT τ ++ (wRo cs aE ε ++ (wGa cs aG (aD 0) (aR 0) γ Γ ++ (wDa cs aD (aR 0) δ_10 ++ (wRo cs aR ρ))))))) H locs := kw (by simp only [List.append_assoc, List.nil_append, List.append_nil]) hW
      obtain ⟨hi_14, h⟩ := gI_some h
      refine sMa_usedBy S hK hW hi_14 dX6_bettered_24 (fun H locs μ_15 eμ_15 hW => ?_)
      have h := nm_to eμ_15 h
      refine lv_aload_n S.1 S.2.1 dX6_bettered_25 rfl (lv_at hl 0 rfl) ?_
      refine gMa_shutOutBy S hK hW dX6_bettered_26 ?_
      refine lv_iload_n S.1 S.2.1 dX6_bettered_29 rfl (lv_at hl 1 rfl) ?_
      refine lv_aload_n S.1 S.2.1 dX6_bettered_30 rfl (lv_at hl 0 rfl) ?_
      refine gMa_today S hK hW dX6_bettered_31 ?_
      obtain ⟨r_16, hc_17, h⟩ := cl1_some h
      have hW := kw (w' := (wMa cs a (aT 0) (aS 0) (aD 0) (aG 0) (aR 0) (aE 0) μ_15 ++ (wSc cs aS (aT 0) ς ++ (wTe cs aT τ ++ (wRo cs aE ε ++ (wGa cs aG (aD 0) (aR 0) γ Γ))))) ++ ((wDa cs aD (aR 0) δ_10 ++ (wRo cs aR ρ)) ++ [])) (by simp only [List.append_assoc, List.nil_append, List.append_nil]) hW
      refine kV_i (As := []) (rest := [.int v1, .ref (a 6)]) S hK hA (z := none) trivial (wMa cs a (aT 0) (aS 0) (aD 0) (aG 0) (aR 0) (aE 0) μ_15 ++ (wSc cs aS (aT 0) ς ++ (wTe cs aT τ ++ (wRo cs aE ε ++ (wGa cs aG (aD 0) (aR 0) γ Γ))))) [] hW (cDa_shutOut l D cs aD aR δ_10 ρ N hc_17) (ci := 0) rfl rfl lk_X6_158 q518 q519 ⟨Nat.le_of_ble_eq_true rfl, Nat.le_of_ble_eq_true rfl⟩ rfl (Nat.le_of_ble_eq_true rfl) hl.1 dX6_bettered_34 ⟨Nat.zero_le _, Nat.zero_le _⟩ (fun H locs hW => ?_)
      have hW : Wd D A s.heap (wMa cs a (aT 0) (aS 0) (aD 0) (aG 0) (aR 0) (aE 0) μ_15 ++ (wSc cs aS (aT 0) ς ++ (wTe cs aT τ ++ (wRo cs aE ε ++ (wGa cs aG (aD 0) (aR 0) γ Γ ++ (wDa cs aD (aR 0) δ_10 ++ (wRo cs aR ρ))))))) H locs := kw (by simp only [List.append_assoc, List.nil_append, List.append_nil]) hW
      obtain ⟨r_18, hc_19, h⟩ := cl1_some h
      refine kS_i (As := [.int r_16]) (rest := [.int v1, .ref (a 6)]) S hK hA (z := none) trivial [] (wMa cs a (aT 0) (aS 0) (aD 0) (aG 0) (aR 0) (aE 0) μ_15 ++ (wSc cs aS (aT 0) ς ++ (wTe cs aT τ ++ (wRo cs aE ε ++ (wGa cs aG (aD 0) (aR 0) γ Γ ++ (wDa cs aD (aR 0) δ_10 ++ (wRo cs aR ρ))))))) hW (cBc_bitCount_0f7a4 l D cs r_16 N hc_19) lk_X6_161 q463 ⟨Nat.le_of_ble_eq_true rfl, Nat.le_of_ble_eq_true rfl⟩ rfl (Nat.le_of_ble_eq_true rfl) hl.1 dX6_bettered_37 ⟨Nat.zero_le _, Nat.zero_le _⟩ (fun H locs hW => ?_)
      have hW : Wd D A s.heap (wMa cs a (aT 0) (aS 0) (aD 0) (aG 0) (aR 0) (aE 0) μ_15 ++ (wSc cs aS (aT 0) ς ++ (wTe cs aT τ ++ (wRo cs aE ε ++ (wGa cs aG (aD 0) (aR 0) γ Γ ++ (wDa cs aD (aR 0) δ_10 ++ (wRo cs aR ρ))))))) H locs := hW
      obtain ⟨hi_20, h⟩ := gI_some h
      refine sMa_shutOutBy S hK hW hi_20 dX6_bettered_40 (fun H locs μ_21 eμ_21 hW => ?_)
      have h := nm_to eμ_21 h
      refine lv_aload_n S.1 S.2.1 dX6_bettered_41 rfl (lv_at hl 0 rfl) ?_
      refine gMa_thrownOutBy S hK hW dX6_bettered_42 ?_
      refine lv_iload_n S.1 S.2.1 dX6_bettered_45 rfl (lv_at hl 1 rfl) ?_
      refine lv_aload_n S.1 S.2.1 dX6_bettered_46 rfl (lv_at hl 0 rfl) ?_
      refine gMa_today S hK hW dX6_bettered_47 ?_
      obtain ⟨r_22, hc_23, h⟩ := cl1_some h
      have hW := kw (w' := (wMa cs a (aT 0) (aS 0) (aD 0) (aG 0) (aR 0) (aE 0) μ_21 ++ (wSc cs aS (aT 0) ς ++ (wTe cs aT τ ++ (wRo cs aE ε ++ (wGa cs aG (aD 0) (aR 0) γ Γ))))) ++ ((wDa cs aD (aR 0) δ_10 ++ (wRo cs aR ρ)) ++ [])) (by simp only [List.append_assoc, List.nil_append, List.append_nil]) hW
      refine kV_i (As := []) (rest := [.int v1, .ref (a 7)]) S hK hA (z := none) trivial (wMa cs a (aT 0) (aS 0) (aD 0) (aG 0) (aR 0) (aE 0) μ_21 ++ (wSc cs aS (aT 0) ς ++ (wTe cs aT τ ++ (wRo cs aE ε ++ (wGa cs aG (aD 0) (aR 0) γ Γ))))) [] hW (cDa_thrownOut l D cs aD aR δ_10 ρ N hc_23) (ci := 0) rfl rfl lk_X6_166 q523 q524 ⟨Nat.le_of_ble_eq_true rfl, Nat.le_of_ble_eq_true rfl⟩ rfl (Nat.le_of_ble_eq_true rfl) hl.1 dX6_bettered_50 ⟨Nat.zero_le _, Nat.zero_le _⟩ (fun H locs hW => ?_)
      have hW : Wd D A s.heap (wMa cs a (aT 0) (aS 0) (aD 0) (aG 0) (aR 0) (aE 0) μ_21 ++ (wSc cs aS (aT 0) ς ++ (wTe cs aT τ ++ (wRo cs aE ε ++ (wGa cs aG (aD 0) (aR 0) γ Γ ++ (wDa cs aD (aR 0) δ_10 ++ (wRo cs aR ρ))))))) H locs := kw (by simp only [List.append_assoc, List.nil_append, List.append_nil]) hW
      obtain ⟨r_24, hc_25, h⟩ := cl1_some h
      refine kS_i (As := [.int r_22]) (rest := [.int v1, .ref (a 7)]) S hK hA (z := none) trivial [] (wMa cs a (aT 0) (aS 0) (aD 0) (aG 0) (aR 0) (aE 0) μ_21 ++ (wSc cs aS (aT 0) ς ++ (wTe cs aT τ ++ (wRo cs aE ε ++ (wGa cs aG (aD 0) (aR 0) γ Γ ++ (wDa cs aD (aR 0) δ_10 ++ (wRo cs aR ρ))))))) hW (cBc_bitCount_0f7a4 l D cs r_22 N hc_25) lk_X6_161 q463 ⟨Nat.le_of_ble_eq_true rfl, Nat.le_of_ble_eq_true rfl⟩ rfl (Nat.le_of_ble_eq_true rfl) hl.1 dX6_bettered_53 ⟨Nat.zero_le _, Nat.zero_le _⟩ (fun H locs hW => ?_)
      have hW : Wd D A s.heap (wMa cs a (aT 0) (aS 0) (aD 0) (aG 0) (aR 0) (aE 0) μ_21 ++ (wSc cs aS (aT 0) ς ++ (wTe cs aT τ ++ (wRo cs aE ε ++ (wGa cs aG (aD 0) (aR 0) γ Γ ++ (wDa cs aD (aR 0) δ_10 ++ (wRo cs aR ρ))))))) H locs := hW
      obtain ⟨hi_26, h⟩ := gI_some h
      refine sMa_thrownOutBy S hK hW hi_26 dX6_bettered_56 (fun H locs μ_27 eμ_27 hW => ?_)
      have h := nm_to eμ_27 h
      obtain ⟨x1_28, ex1_28, h⟩ := nm_some h
      refine lv_iinc (v := x1_28) (lv' := [(1, .int x1_28), (0, .ref (a 0))]) S.1 S.2.1 dX6_bettered_57 hl (k := 1) rfl (by rw [ex1_28]; rfl) (by decide) rfl (fun ls hl => ?_)
      refine lv_goto (tgt := 2) S.1 S.2.1 dX6_bettered_60 (by decide) ?_
      exact ih x1_28 μ_27 δ_10 (aR 0) _ _ _ h hW (lv_sub hl [1, 0] rfl)
set_option maxHeartbeats 4000000 in
set_option maxRecDepth 100000 in
theorem cMa_bettered (l : Launch) (D : va_G) (cs : Nat → ClassId) (a aS aT aE aG aD aR : Nat → Nat) (μ : St) (ς : St) (τ : St) (ε : St) (γ : St) (Γ : Nat → Int64) (δ : St) (ρ : St) (dr : Nat) (N : Nat) {r : Int32} {μ' : St} {δ' : St} {dr' : Nat} (h : fMa_bettered N ρ (aR 0) μ δ dr = some (r, μ', δ', dr')) : Ki l D cs none yX6_bettered cX6_bettered 4 (some .int) 5 115 (wMa cs a (aT 0) (aS 0) (aD 0) (aG 0) (aR 0) (aE 0) μ ++ (wSc cs aS (aT 0) ς ++ (wTe cs aT τ ++ (wRo cs aE ε ++ (wGa cs aG (aD 0) (aR 0) γ Γ ++ (wDa cs aD dr δ ++ (wRo cs aR ρ))))))) [.ref (a 0)] r (wMa cs a (aT 0) (aS 0) (aD 0) (aG 0) (aR 0) (aE 0) μ' ++ (wSc cs aS (aT 0) ς ++ (wTe cs aT τ ++ (wRo cs aE ε ++ (wGa cs aG (aD 0) (aR 0) γ Γ ++ (wDa cs aD dr' δ' ++ (wRo cs aR ρ))))))) := by
  refine Ki_of (by decide +kernel) (Nat.le_of_ble_eq_true rfl) (fun p e s m below meth c A S hK hA hZ Q hQ ls hl hW => ?_)
  have hl : lv_has ls 4 [(0, .ref (a 0))] := hl
  unfold fMa_bettered at h
  refine lv_iconst (v := 0) S.1 S.2.1 dX6_bettered_0 (by decide) ?_
  refine lv_istore_n (lv' := [(1, .int (0 : Int32)), (0, .ref (a 0))]) S.1 S.2.1 dX6_bettered_1 rfl hl (by decide) rfl (fun ls hl => ?_)
  exact wMa_bettered_2 S hK hA hQ N (0 : Int32) μ δ dr _ _ _ h hW (lv_sub hl [1, 0] rfl)
