def fTe_initS (N : Nat) (τ : St) : Option St :=
  nm (sA τ 0 (upd (τ 0) 1 (0 : Int32))) fun τ_1 =>
  some τ_1
def fTe_init (N : Nat) : Option St := fTe_initS N z0
set_option maxHeartbeats 4000000 in
set_option maxRecDepth 100000 in
theorem wTe_initS {p : Program} {l : Launch} {e : Env} {s : State} {m : MethodId} {args : Array Value} {below : List Frame} {meth : Method} {c : Code} {A : Nat → Prop} {Q : State → Prop} {D : va_G} {cs : Nat → ClassId} {a : Nat → Nat} {τ' : St} {N : Nat} (S : Fx p m c cX5_init 1 s args RX5) (hK : va_K D vwCl (tyL cs) s) (hA : ∀ x, s.heap.size ≤ x → A x) (hQ : ∀ (H : Heap) (locs : List Loc) (pc : Nat) (ls : Array Slot), decode cX5_init pc = .ok (.return_, 1) → Wd D A s.heap (wTe cs a τ') H locs → W p l e { frames := 1, cells := 1, slots := 400, locals := 12 } s m args below meth c H locs 1 400 Q (F0 m pc ls [])) : ∀ (τ : St) (H : Heap) (locs : List Loc) (ls : Array Slot), fTe_initS N τ = some τ' → Wd D A s.heap (wTe cs a τ) H locs → lv_has ls 1 [(0, .ref (a 0))] → W p l e { frames := 1, cells := 1, slots := 400, locals := 12 } s m args below meth c H locs 1 400 Q (F0 m 13 ls []) := by
  intro τ H locs ls h hW hl
  unfold fTe_initS at h
  refine lv_aload_n S.1 S.2.1 dX5_init_13 rfl (lv_at hl 0 rfl) ?_
  refine lv_iconst (v := 0) S.1 S.2.1 dX5_init_14 (by decide) ?_
  refine pTe_length S hK hW dX5_init_15 (fun H locs τ_1 eτ_1 hW => ?_)
  have h := nm_to eτ_1 h
  obtain rfl := pr1 h
  exact hQ _ _ _ _ dX5_init_18 hW
set_option maxHeartbeats 4000000 in
set_option maxRecDepth 100000 in
theorem cTe_init (l : Launch) (D : va_G) (cs : Nat → ClassId) (h0 : Nat) (N : Nat) {τ' : St} (h : fTe_init N = some τ') : Kn l D cs none yX5_init cX5_init 1 1 12 1 400 [(h0, .inr (4, [.null, .int 0]))] [.ref h0] (fun (u : Nat → Nat) => u 0 = h0) (fun (u : Nat → Nat) => (wTe cs u τ')) := by
  refine Kn_of (by decide +kernel) rfl (Nat.le_of_ble_eq_true rfl) (fun p e s m below meth c A S hin hK hA hZ Q hQ ls hl hW => ?_)
  have hl : lv_has ls 1 [(0, .ref h0)] := hl
  refine lv_aload_n S.1 S.2.1 dX5_init_0 rfl (lv_at hl 0 rfl) ?_
  refine W.objInit S.1 S.2.1 S.2.2.2.1 (S.2.2.2.2 _ q65) (S.2.2.2.2 _ q58) (S.2.2.2.2 _ q59) rfl (by rw [S.2.2.1]; exact hl.1) rfl dX5_init_1 (Nat.le_of_ble_eq_true rfl) (Nat.le_of_ble_eq_true rfl) ?_
  refine W.eq (g2 := F0 m 4 ls []) rfl ?_
  refine lv_aload_n S.1 S.2.1 dX5_init_4 rfl (lv_at hl 0 rfl) ?_
  refine lv_sipush (v := 400) S.1 S.2.1 dX5_init_5 (by decide) ?_
  refine k_newB (N := 400) S q73 hK hA hW (by decide) (by decide) (Nat.le_of_ble_eq_true rfl) (Nat.le_of_ble_eq_true rfl) (Nat.le_of_ble_eq_true rfl) dX5_init_8 (fun q_8 H hW => ?_)
  have hW : Wd D A s.heap [(h0, .inr (4, [.null, .int 0])), (q_8, .inl (cs 1, 400, .inl (fun _ => 0)))] H _ := hW
  refine W.widen (k := 1) (n := 400) (by decide) (by decide) ?_
  refine va_putF (ci := 4) (v := .ref q_8) (ty := .array .byte) (C := RX5) (T := TX5) (N := 2) S.1 S.2.1 S.2.2.2.2 inTe tyX5 tyX5_ok nmX5 S.2.2.2.1 hK hW.1 hW.2.1 hW.2.2 0 rfl rfl 0 (by decide) (S.2.2.2.2 _ q66) (fun _ h => h) rfl hin rfl (by decide +kernel) rfl rfl (Nat.le_of_ble_eq_true rfl) dX5_init_10 (fun H locs hP hD hS => ?_)
  have hW : Wd D A s.heap [(h0, .inr (4, [.ref q_8, .int 0])), (q_8, .inl (cs 1, 400, .inl (fun _ => 0)))] H locs := ⟨hP, hD, hS⟩
  exact wTe_initS (N := N) (a := (fun k => ([h0, q_8] : List Nat).getD k 0)) S hK hA (hQ (fun k => ([h0, q_8] : List Nat).getD k 0) rfl) z0 _ _ _ h hW hl
def fSc_initS (N : Nat) (ς : St) : Option St :=
  nm (sA ς 0 (upd (ς 0) 2 (0 : Int32))) fun ς_1 =>
  some ς_1
def fSc_init (N : Nat) : Option St := fSc_initS N z0
set_option maxHeartbeats 4000000 in
set_option maxRecDepth 100000 in
theorem wSc_initS {p : Program} {l : Launch} {e : Env} {s : State} {m : MethodId} {args : Array Value} {below : List Frame} {meth : Method} {c : Code} {A : Nat → Prop} {Q : State → Prop} {D : va_G} {cs : Nat → ClassId} {a : Nat → Nat} {x_text : Nat} {ς' : St} {N : Nat} (S : Fx p m c cX4_init 2 s args RX4) (hK : va_K D vwCl (tyL cs) s) (hA : ∀ x, s.heap.size ≤ x → A x) (hQ : ∀ (H : Heap) (locs : List Loc) (pc : Nat) (ls : Array Slot), decode cX4_init pc = .ok (.return_, 1) → Wd D A s.heap (wSc cs a x_text ς' ++ []) H locs → W p l e { frames := 1, cells := 1, slots := 7, locals := 12 } s m args below meth c H locs 1 7 Q (F0 m pc ls [])) : ∀ (ς : St) (H : Heap) (locs : List Loc) (ls : Array Slot), fSc_initS N ς = some ς' → Wd D A s.heap (wSc cs a x_text ς ++ []) H locs → lv_has ls 2 [(0, .ref (a 0))] → W p l e { frames := 1, cells := 1, slots := 7, locals := 12 } s m args below meth c H locs 1 7 Q (F0 m 17 ls []) := by
  intro ς H locs ls h hW hl
  unfold fSc_initS at h
  refine lv_aload_n S.1 S.2.1 dX4_init_17 rfl (lv_at hl 0 rfl) ?_
  refine lv_iconst (v := 0) S.1 S.2.1 dX4_init_18 (by decide) ?_
  refine pSc_at S hK hW dX4_init_19 (fun H locs ς_1 eς_1 hW => ?_)
  have h := nm_to eς_1 h
  obtain rfl := pr1 h
  exact hQ _ _ _ _ dX4_init_22 hW
set_option maxHeartbeats 4000000 in
set_option maxRecDepth 100000 in
theorem cSc_init (l : Launch) (D : va_G) (cs : Nat → ClassId) (h0 : Nat) (y1 : Nat) (N : Nat) {ς' : St} (h : fSc_init N = some ς') : Kn l D cs none yX4_init cX4_init 2 1 12 1 7 [(h0, .inr (3, [.null, .null, .int 0]))] [.ref h0, .ref y1] (fun (u : Nat → Nat) => u 0 = h0) (fun (u : Nat → Nat) => (wSc cs u y1 ς' ++ [])) := by
  refine Kn_of (by decide +kernel) rfl (Nat.le_of_ble_eq_true rfl) (fun p e s m below meth c A S hin hK hA hZ Q hQ ls hl hW => ?_)
  have hl : lv_has ls 2 [(0, .ref h0), (1, .ref y1)] := hl
  refine lv_aload_n S.1 S.2.1 dX4_init_0 rfl (lv_at hl 0 rfl) ?_
  refine W.objInit S.1 S.2.1 S.2.2.2.1 (S.2.2.2.2 _ q79) (S.2.2.2.2 _ q58) (S.2.2.2.2 _ q59) rfl (by rw [S.2.2.1]; exact hl.1) rfl dX4_init_1 (Nat.le_of_ble_eq_true rfl) (Nat.le_of_ble_eq_true rfl) ?_
  refine W.eq (g2 := F0 m 4 ls []) rfl ?_
  refine lv_aload_n S.1 S.2.1 dX4_init_4 rfl (lv_at hl 0 rfl) ?_
  refine lv_aload_n S.1 S.2.1 dX4_init_5 rfl (lv_at hl 1 rfl) ?_
  refine va_putF (ci := 3) (v := .ref y1) (ty := .object "CoatsOnChairs$Text") (C := RX4) (T := TX4) (N := 3) S.1 S.2.1 S.2.2.2.2 inSc tyX4 tyX4_ok nmX4 S.2.2.2.1 hK hW.1 hW.2.1 hW.2.2 0 rfl rfl 0 (by decide) (S.2.2.2.2 _ q80) (fun _ h => h) rfl hin rfl (by decide +kernel) rfl rfl (Nat.le_of_ble_eq_true rfl) dX4_init_6 (fun H locs hP hD hS => ?_)
  have hW : Wd D A s.heap [(h0, .inr (3, [.ref y1, .null, .int 0]))] H locs := ⟨hP, hD, hS⟩
  refine lv_aload_n S.1 S.2.1 dX4_init_9 rfl (lv_at hl 0 rfl) ?_
  refine lv_bipush (v := 7) S.1 S.2.1 dX4_init_10 (by decide) ?_
  refine k_newI (N := 7) S q90 hK hA hW (by decide) (by decide) (Nat.le_of_ble_eq_true rfl) (Nat.le_of_ble_eq_true rfl) (Nat.le_of_ble_eq_true rfl) dX4_init_12 (fun q_12 H hW => ?_)
  have hW : Wd D A s.heap [(h0, .inr (3, [.ref y1, .null, .int 0])), (q_12, .inl (cs 0, 7, .inl (fun _ => 0)))] H _ := hW
  refine W.widen (k := 1) (n := 7) (by decide) (by decide) ?_
  refine va_putF (ci := 3) (v := .ref q_12) (ty := .array .int) (C := RX4) (T := TX4) (N := 3) S.1 S.2.1 S.2.2.2.2 inSc tyX4 tyX4_ok nmX4 S.2.2.2.1 hK hW.1 hW.2.1 hW.2.2 0 rfl rfl 1 (by decide) (S.2.2.2.2 _ q81) (fun _ h => h) rfl hin rfl (by decide +kernel) rfl rfl (Nat.le_of_ble_eq_true rfl) dX4_init_14 (fun H locs hP hD hS => ?_)
  have hW : Wd D A s.heap [(h0, .inr (3, [.ref y1, .ref q_12, .int 0])), (q_12, .inl (cs 0, 7, .inl (fun _ => 0)))] H locs := ⟨hP, hD, hS⟩
  exact wSc_initS (N := N) (a := (fun k => ([h0, h0, q_12] : List Nat).getD k 0)) (x_text := y1) S hK hA (hQ (fun k => ([h0, h0, q_12] : List Nat).getD k 0) rfl) z0 _ _ _ h hW (lv_sub hl [0] rfl)
def fRo_initS (N : Nat) (ρ : St) : Option St :=
  cl1 (fRo_clear N ρ) fun ρ_1 =>
  some ρ_1
def fRo_init (N : Nat) : Option St := fRo_initS N z0
set_option maxHeartbeats 4000000 in
set_option maxRecDepth 100000 in
theorem wRo_initS {p : Program} {l : Launch} {e : Env} {s : State} {m : MethodId} {args : Array Value} {below : List Frame} {meth : Method} {c : Code} {A : Nat → Prop} {Q : State → Prop} {D : va_G} {cs : Nat → ClassId} {a : Nat → Nat} {ρ' : St} {N : Nat} (S : Fx p m c cX3_init 1 s args RX3) (hK : va_K D vwCl (tyL cs) s) (hA : ∀ x, s.heap.size ≤ x → A x) (hQ : ∀ (H : Heap) (locs : List Loc) (pc : Nat) (ls : Array Slot), decode cX3_init pc = .ok (.return_, 1) → Wd D A s.heap (wRo cs a ρ') H locs → W p l e { frames := 1, cells := 2, slots := 66, locals := 20 } s m args below meth c H locs 2 66 Q (F0 m pc ls [])) : ∀ (ρ : St) (H : Heap) (locs : List Loc) (ls : Array Slot), fRo_initS N ρ = some ρ' → Wd D A s.heap (wRo cs a ρ) H locs → lv_has ls 1 [(0, .ref (a 0))] → W p l e { frames := 1, cells := 2, slots := 66, locals := 20 } s m args below meth c H locs 2 66 Q (F0 m 20 ls []) := by
  intro ρ H locs ls h hW hl
  unfold fRo_initS at h
  refine lv_aload_n S.1 S.2.1 dX3_init_20 rfl (lv_at hl 0 rfl) ?_
  obtain ⟨ρ_1, hc_2, h⟩ := cl1_some h
  have hW := kw_same hW
  refine kV_v (As := []) (rest := []) S hK hA (z := none) trivial [] [] hW (cRo_clear l D cs a ρ N hc_2) (ci := 2) rfl rfl lk_X3_18 q98 q99 ⟨Nat.le_of_ble_eq_true rfl, Nat.le_of_ble_eq_true rfl⟩ rfl (Nat.le_of_ble_eq_true rfl) hl.1 dX3_init_21 ⟨Nat.le_of_ble_eq_true rfl, Nat.le_of_ble_eq_true rfl⟩ (fun H locs hW => ?_)
  have hW : Wd D A s.heap (wRo cs a ρ_1) H locs := kw_back hW
  obtain rfl := pr1 h
  exact hQ _ _ _ _ dX3_init_24 hW
set_option maxHeartbeats 4000000 in
set_option maxRecDepth 100000 in
theorem cRo_init (l : Launch) (D : va_G) (cs : Nat → ClassId) (h0 : Nat) (N : Nat) {ρ' : St} (h : fRo_init N = some ρ') : Kn l D cs none yX3_init cX3_init 1 1 20 2 66 [(h0, .inr (2, [.null, .null, .int 0, .int 0, .int 0, .int 0, .int 0, .int 0, .int 0]))] [.ref h0] (fun (u : Nat → Nat) => u 0 = h0) (fun (u : Nat → Nat) => (wRo cs u ρ')) := by
  refine Kn_of (by decide +kernel) rfl (Nat.le_of_ble_eq_true rfl) (fun p e s m below meth c A S hin hK hA hZ Q hQ ls hl hW => ?_)
  have hl : lv_has ls 1 [(0, .ref h0)] := hl
  refine lv_aload_n S.1 S.2.1 dX3_init_0 rfl (lv_at hl 0 rfl) ?_
  refine W.objInit S.1 S.2.1 S.2.2.2.1 (S.2.2.2.2 _ q96) (S.2.2.2.2 _ q58) (S.2.2.2.2 _ q59) rfl (by rw [S.2.2.1]; exact hl.1) rfl dX3_init_1 (Nat.le_of_ble_eq_true rfl) (Nat.le_of_ble_eq_true rfl) ?_
  refine W.eq (g2 := F0 m 4 ls []) rfl ?_
  refine lv_aload_n S.1 S.2.1 dX3_init_4 rfl (lv_at hl 0 rfl) ?_
  refine lv_bipush (v := 10) S.1 S.2.1 dX3_init_5 (by decide) ?_
  refine k_newI (N := 10) S q90 hK hA hW (by decide) (by decide) (Nat.le_of_ble_eq_true rfl) (Nat.le_of_ble_eq_true rfl) (Nat.le_of_ble_eq_true rfl) dX3_init_7 (fun q_7 H hW => ?_)
  have hW : Wd D A s.heap [(h0, .inr (2, [.null, .null, .int 0, .int 0, .int 0, .int 0, .int 0, .int 0, .int 0])), (q_7, .inl (cs 0, 10, .inl (fun _ => 0)))] H _ := hW
  refine W.widen (k := 1) (n := 10) (by decide) (by decide) ?_
  refine va_putF (ci := 2) (v := .ref q_7) (ty := .array .int) (C := RX3) (T := TX3) (N := 9) S.1 S.2.1 S.2.2.2.2 inRo tyX3 tyX3_ok nmX3 S.2.2.2.1 hK hW.1 hW.2.1 hW.2.2 0 rfl rfl 0 (by decide) (S.2.2.2.2 _ q101) (fun _ h => h) rfl hin rfl (by decide +kernel) rfl rfl (Nat.le_of_ble_eq_true rfl) dX3_init_9 (fun H locs hP hD hS => ?_)
  have hW : Wd D A s.heap [(h0, .inr (2, [.ref q_7, .null, .int 0, .int 0, .int 0, .int 0, .int 0, .int 0, .int 0])), (q_7, .inl (cs 0, 10, .inl (fun _ => 0)))] H locs := ⟨hP, hD, hS⟩
  refine lv_aload_n S.1 S.2.1 dX3_init_12 rfl (lv_at hl 0 rfl) ?_
  refine lv_bipush (v := 56) S.1 S.2.1 dX3_init_13 (by decide) ?_
  refine k_newI (N := 56) S q90 hK hA hW (by decide) (by decide) (Nat.le_of_ble_eq_true rfl) (Nat.le_of_ble_eq_true rfl) (Nat.le_of_ble_eq_true rfl) dX3_init_15 (fun q_15 H hW => ?_)
  have hW : Wd D A s.heap [(h0, .inr (2, [.ref q_7, .null, .int 0, .int 0, .int 0, .int 0, .int 0, .int 0, .int 0])), (q_7, .inl (cs 0, 10, .inl (fun _ => 0))), (q_15, .inl (cs 0, 56, .inl (fun _ => 0)))] H _ := hW
  refine W.widen (k := 2) (n := 66) (by decide) (by decide) ?_
  refine va_putF (ci := 2) (v := .ref q_15) (ty := .array .int) (C := RX3) (T := TX3) (N := 9) S.1 S.2.1 S.2.2.2.2 inRo tyX3 tyX3_ok nmX3 S.2.2.2.1 hK hW.1 hW.2.1 hW.2.2 0 rfl rfl 1 (by decide) (S.2.2.2.2 _ q102) (fun _ h => h) rfl hin rfl (by decide +kernel) rfl rfl (Nat.le_of_ble_eq_true rfl) dX3_init_17 (fun H locs hP hD hS => ?_)
  have hW : Wd D A s.heap [(h0, .inr (2, [.ref q_7, .ref q_15, .int 0, .int 0, .int 0, .int 0, .int 0, .int 0, .int 0])), (q_7, .inl (cs 0, 10, .inl (fun _ => 0))), (q_15, .inl (cs 0, 56, .inl (fun _ => 0)))] H locs := ⟨hP, hD, hS⟩
  exact wRo_initS (N := N) (a := (fun k => ([h0, q_7, q_15] : List Nat).getD k 0)) S hK hA (hQ (fun k => ([h0, q_7, q_15] : List Nat).getD k 0) rfl) z0 _ _ _ h hW hl
set_option maxHeartbeats 4000000 in
set_option maxRecDepth 100000 in
theorem wDa_initS {p : Program} {l : Launch} {e : Env} {s : State} {m : MethodId} {args : Array Value} {below : List Frame} {meth : Method} {c : Code} {A : Nat → Prop} {Q : State → Prop} {D : va_G} {cs : Nat → ClassId} {a : Nat → Nat} {x_room : Nat} {N : Nat} (S : Fx p m c cX0_init 2 s args RX0) (hK : va_K D vwCl (tyL cs) s) (hA : ∀ x, s.heap.size ≤ x → A x) (hQ : ∀ (H : Heap) (locs : List Loc) (pc : Nat) (ls : Array Slot), decode cX0_init pc = .ok (.return_, 1) → Wd D A s.heap (wDa cs a x_room z0 ++ []) H locs → W p l e { frames := 1, cells := 8, slots := 460, locals := 12 } s m args below meth c H locs 8 460 Q (F0 m pc ls [])) : ∀ (H : Heap) (locs : List Loc) (ls : Array Slot), Wd D A s.heap (wDa cs a x_room z0 ++ []) H locs → lv_has ls 2 [(0, .ref (a 0))] → W p l e { frames := 1, cells := 8, slots := 460, locals := 12 } s m args below meth c H locs 8 460 Q (F0 m 74 ls []) := by
  intro H locs ls hW hl
  exact hQ _ _ _ _ dX0_init_74 hW
set_option maxHeartbeats 4000000 in
set_option maxRecDepth 100000 in
theorem cDa_init (l : Launch) (D : va_G) (cs : Nat → ClassId) (h0 : Nat) (y1 : Nat) (N : Nat) : Kn l D cs none yX0_init cX0_init 2 1 12 8 460 [(h0, .inr (0, [.null, .null, .null, .null, .null, .null, .null, .null, .null, .int 0, .int 0, .int 0, .int 0, .int 0, .int 0, .int 0, .int 0, .int 0, .int 0, .int 0]))] [.ref h0, .ref y1] (fun (u : Nat → Nat) => u 0 = h0) (fun (u : Nat → Nat) => (wDa cs u y1 z0 ++ [])) := by
  refine Kn_of (by decide +kernel) rfl (Nat.le_of_ble_eq_true rfl) (fun p e s m below meth c A S hin hK hA hZ Q hQ ls hl hW => ?_)
  have hl : lv_has ls 2 [(0, .ref h0), (1, .ref y1)] := hl
  refine lv_aload_n S.1 S.2.1 dX0_init_0 rfl (lv_at hl 0 rfl) ?_
  refine W.objInit S.1 S.2.1 S.2.2.2.1 (S.2.2.2.2 _ q147) (S.2.2.2.2 _ q58) (S.2.2.2.2 _ q59) rfl (by rw [S.2.2.1]; exact hl.1) rfl dX0_init_1 (Nat.le_of_ble_eq_true rfl) (Nat.le_of_ble_eq_true rfl) ?_
  refine W.eq (g2 := F0 m 4 ls []) rfl ?_
  refine lv_aload_n S.1 S.2.1 dX0_init_4 rfl (lv_at hl 0 rfl) ?_
  refine lv_bipush (v := 8) S.1 S.2.1 dX0_init_5 (by decide) ?_
  refine k_newI (N := 8) S q90 hK hA hW (by decide) (by decide) (Nat.le_of_ble_eq_true rfl) (Nat.le_of_ble_eq_true rfl) (Nat.le_of_ble_eq_true rfl) dX0_init_7 (fun q_7 H hW => ?_)
  have hW : Wd D A s.heap [(h0, .inr (0, [.null, .null, .null, .null, .null, .null, .null, .null, .null, .int 0, .int 0, .int 0, .int 0, .int 0, .int 0, .int 0, .int 0, .int 0, .int 0, .int 0])), (q_7, .inl (cs 0, 8, .inl (fun _ => 0)))] H _ := hW
  refine W.widen (k := 1) (n := 8) (by decide) (by decide) ?_
  refine va_putF (ci := 0) (v := .ref q_7) (ty := .array .int) (C := RX0) (T := TX0) (N := 20) S.1 S.2.1 S.2.2.2.2 inDa tyX0 tyX0_ok nmX0 S.2.2.2.1 hK hW.1 hW.2.1 hW.2.2 0 rfl rfl 0 (by decide) (S.2.2.2.2 _ q148) (fun _ h => h) rfl hin rfl (by decide +kernel) rfl rfl (Nat.le_of_ble_eq_true rfl) dX0_init_9 (fun H locs hP hD hS => ?_)
  have hW : Wd D A s.heap [(h0, .inr (0, [.ref q_7, .null, .null, .null, .null, .null, .null, .null, .null, .int 0, .int 0, .int 0, .int 0, .int 0, .int 0, .int 0, .int 0, .int 0, .int 0, .int 0])), (q_7, .inl (cs 0, 8, .inl (fun _ => 0)))] H locs := ⟨hP, hD, hS⟩
  refine lv_aload_n S.1 S.2.1 dX0_init_12 rfl (lv_at hl 0 rfl) ?_
  refine lv_bipush (v := 8) S.1 S.2.1 dX0_init_13 (by decide) ?_
  refine k_newI (N := 8) S q90 hK hA hW (by decide) (by decide) (Nat.le_of_ble_eq_true rfl) (Nat.le_of_ble_eq_true rfl) (Nat.le_of_ble_eq_true rfl) dX0_init_15 (fun q_15 H hW => ?_)
  have hW : Wd D A s.heap [(h0, .inr (0, [.ref q_7, .null, .null, .null, .null, .null, .null, .null, .null, .int 0, .int 0, .int 0, .int 0, .int 0, .int 0, .int 0, .int 0, .int 0, .int 0, .int 0])), (q_7, .inl (cs 0, 8, .inl (fun _ => 0))), (q_15, .inl (cs 0, 8, .inl (fun _ => 0)))] H _ := hW
  refine W.widen (k := 2) (n := 16) (by decide) (by decide) ?_
  refine va_putF (ci := 0) (v := .ref q_15) (ty := .array .int) (C := RX0) (T := TX0) (N := 20) S.1 S.2.1 S.2.2.2.2 inDa tyX0 tyX0_ok nmX0 S.2.2.2.1 hK hW.1 hW.2.1 hW.2.2 0 rfl rfl 1 (by decide) (S.2.2.2.2 _ q149) (fun _ h => h) rfl hin rfl (by decide +kernel) rfl rfl (Nat.le_of_ble_eq_true rfl) dX0_init_17 (fun H locs hP hD hS => ?_)
  have hW : Wd D A s.heap [(h0, .inr (0, [.ref q_7, .ref q_15, .null, .null, .null, .null, .null, .null, .null, .int 0, .int 0, .int 0, .int 0, .int 0, .int 0, .int 0, .int 0, .int 0, .int 0, .int 0])), (q_7, .inl (cs 0, 8, .inl (fun _ => 0))), (q_15, .inl (cs 0, 8, .inl (fun _ => 0)))] H locs := ⟨hP, hD, hS⟩
  refine lv_aload_n S.1 S.2.1 dX0_init_20 rfl (lv_at hl 0 rfl) ?_
  refine lv_bipush (v := 8) S.1 S.2.1 dX0_init_21 (by decide) ?_
  refine k_newI (N := 8) S q90 hK hA hW (by decide) (by decide) (Nat.le_of_ble_eq_true rfl) (Nat.le_of_ble_eq_true rfl) (Nat.le_of_ble_eq_true rfl) dX0_init_23 (fun q_23 H hW => ?_)
  have hW : Wd D A s.heap [(h0, .inr (0, [.ref q_7, .ref q_15, .null, .null, .null, .null, .null, .null, .null, .int 0, .int 0, .int 0, .int 0, .int 0, .int 0, .int 0, .int 0, .int 0, .int 0, .int 0])), (q_7, .inl (cs 0, 8, .inl (fun _ => 0))), (q_15, .inl (cs 0, 8, .inl (fun _ => 0))), (q_23, .inl (cs 0, 8, .inl (fun _ => 0)))] H _ := hW
  refine W.widen (k := 3) (n := 24) (by decide) (by decide) ?_
  refine va_putF (ci := 0) (v := .ref q_23) (ty := .array .int) (C := RX0) (T := TX0) (N := 20) S.1 S.2.1 S.2.2.2.2 inDa tyX0 tyX0_ok nmX0 S.2.2.2.1 hK hW.1 hW.2.1 hW.2.2 0 rfl rfl 2 (by decide) (S.2.2.2.2 _ q150) (fun _ h => h) rfl hin rfl (by decide +kernel) rfl rfl (Nat.le_of_ble_eq_true rfl) dX0_init_25 (fun H locs hP hD hS => ?_)
  have hW : Wd D A s.heap [(h0, .inr (0, [.ref q_7, .ref q_15, .ref q_23, .null, .null, .null, .null, .null, .null, .int 0, .int 0, .int 0, .int 0, .int 0, .int 0, .int 0, .int 0, .int 0, .int 0, .int 0])), (q_7, .inl (cs 0, 8, .inl (fun _ => 0))), (q_15, .inl (cs 0, 8, .inl (fun _ => 0))), (q_23, .inl (cs 0, 8, .inl (fun _ => 0)))] H locs := ⟨hP, hD, hS⟩
  refine lv_aload_n S.1 S.2.1 dX0_init_28 rfl (lv_at hl 0 rfl) ?_
  refine lv_bipush (v := 8) S.1 S.2.1 dX0_init_29 (by decide) ?_
  refine k_newI (N := 8) S q90 hK hA hW (by decide) (by decide) (Nat.le_of_ble_eq_true rfl) (Nat.le_of_ble_eq_true rfl) (Nat.le_of_ble_eq_true rfl) dX0_init_31 (fun q_31 H hW => ?_)
  have hW : Wd D A s.heap [(h0, .inr (0, [.ref q_7, .ref q_15, .ref q_23, .null, .null, .null, .null, .null, .null, .int 0, .int 0, .int 0, .int 0, .int 0, .int 0, .int 0, .int 0, .int 0, .int 0, .int 0])), (q_7, .inl (cs 0, 8, .inl (fun _ => 0))), (q_15, .inl (cs 0, 8, .inl (fun _ => 0))), (q_23, .inl (cs 0, 8, .inl (fun _ => 0))), (q_31, .inl (cs 0, 8, .inl (fun _ => 0)))] H _ := hW
  refine W.widen (k := 4) (n := 32) (by decide) (by decide) ?_
  refine va_putF (ci := 0) (v := .ref q_31) (ty := .array .int) (C := RX0) (T := TX0) (N := 20) S.1 S.2.1 S.2.2.2.2 inDa tyX0 tyX0_ok nmX0 S.2.2.2.1 hK hW.1 hW.2.1 hW.2.2 0 rfl rfl 3 (by decide) (S.2.2.2.2 _ q151) (fun _ h => h) rfl hin rfl (by decide +kernel) rfl rfl (Nat.le_of_ble_eq_true rfl) dX0_init_33 (fun H locs hP hD hS => ?_)
  have hW : Wd D A s.heap [(h0, .inr (0, [.ref q_7, .ref q_15, .ref q_23, .ref q_31, .null, .null, .null, .null, .null, .int 0, .int 0, .int 0, .int 0, .int 0, .int 0, .int 0, .int 0, .int 0, .int 0, .int 0])), (q_7, .inl (cs 0, 8, .inl (fun _ => 0))), (q_15, .inl (cs 0, 8, .inl (fun _ => 0))), (q_23, .inl (cs 0, 8, .inl (fun _ => 0))), (q_31, .inl (cs 0, 8, .inl (fun _ => 0)))] H locs := ⟨hP, hD, hS⟩
  refine lv_aload_n S.1 S.2.1 dX0_init_36 rfl (lv_at hl 0 rfl) ?_
  refine lv_bipush (v := 8) S.1 S.2.1 dX0_init_37 (by decide) ?_
  refine k_newI (N := 8) S q90 hK hA hW (by decide) (by decide) (Nat.le_of_ble_eq_true rfl) (Nat.le_of_ble_eq_true rfl) (Nat.le_of_ble_eq_true rfl) dX0_init_39 (fun q_39 H hW => ?_)
  have hW : Wd D A s.heap [(h0, .inr (0, [.ref q_7, .ref q_15, .ref q_23, .ref q_31, .null, .null, .null, .null, .null, .int 0, .int 0, .int 0, .int 0, .int 0, .int 0, .int 0, .int 0, .int 0, .int 0, .int 0])), (q_7, .inl (cs 0, 8, .inl (fun _ => 0))), (q_15, .inl (cs 0, 8, .inl (fun _ => 0))), (q_23, .inl (cs 0, 8, .inl (fun _ => 0))), (q_31, .inl (cs 0, 8, .inl (fun _ => 0))), (q_39, .inl (cs 0, 8, .inl (fun _ => 0)))] H _ := hW
  refine W.widen (k := 5) (n := 40) (by decide) (by decide) ?_
  refine va_putF (ci := 0) (v := .ref q_39) (ty := .array .int) (C := RX0) (T := TX0) (N := 20) S.1 S.2.1 S.2.2.2.2 inDa tyX0 tyX0_ok nmX0 S.2.2.2.1 hK hW.1 hW.2.1 hW.2.2 0 rfl rfl 4 (by decide) (S.2.2.2.2 _ q152) (fun _ h => h) rfl hin rfl (by decide +kernel) rfl rfl (Nat.le_of_ble_eq_true rfl) dX0_init_41 (fun H locs hP hD hS => ?_)
  have hW : Wd D A s.heap [(h0, .inr (0, [.ref q_7, .ref q_15, .ref q_23, .ref q_31, .ref q_39, .null, .null, .null, .null, .int 0, .int 0, .int 0, .int 0, .int 0, .int 0, .int 0, .int 0, .int 0, .int 0, .int 0])), (q_7, .inl (cs 0, 8, .inl (fun _ => 0))), (q_15, .inl (cs 0, 8, .inl (fun _ => 0))), (q_23, .inl (cs 0, 8, .inl (fun _ => 0))), (q_31, .inl (cs 0, 8, .inl (fun _ => 0))), (q_39, .inl (cs 0, 8, .inl (fun _ => 0)))] H locs := ⟨hP, hD, hS⟩
  refine lv_aload_n S.1 S.2.1 dX0_init_44 rfl (lv_at hl 0 rfl) ?_
  refine lv_bipush (v := 10) S.1 S.2.1 dX0_init_45 (by decide) ?_
  refine k_newI (N := 10) S q90 hK hA hW (by decide) (by decide) (Nat.le_of_ble_eq_true rfl) (Nat.le_of_ble_eq_true rfl) (Nat.le_of_ble_eq_true rfl) dX0_init_47 (fun q_47 H hW => ?_)
  have hW : Wd D A s.heap [(h0, .inr (0, [.ref q_7, .ref q_15, .ref q_23, .ref q_31, .ref q_39, .null, .null, .null, .null, .int 0, .int 0, .int 0, .int 0, .int 0, .int 0, .int 0, .int 0, .int 0, .int 0, .int 0])), (q_7, .inl (cs 0, 8, .inl (fun _ => 0))), (q_15, .inl (cs 0, 8, .inl (fun _ => 0))), (q_23, .inl (cs 0, 8, .inl (fun _ => 0))), (q_31, .inl (cs 0, 8, .inl (fun _ => 0))), (q_39, .inl (cs 0, 8, .inl (fun _ => 0))), (q_47, .inl (cs 0, 10, .inl (fun _ => 0)))] H _ := hW
  refine W.widen (k := 6) (n := 50) (by decide) (by decide) ?_
  refine va_putF (ci := 0) (v := .ref q_47) (ty := .array .int) (C := RX0) (T := TX0) (N := 20) S.1 S.2.1 S.2.2.2.2 inDa tyX0 tyX0_ok nmX0 S.2.2.2.1 hK hW.1 hW.2.1 hW.2.2 0 rfl rfl 5 (by decide) (S.2.2.2.2 _ q153) (fun _ h => h) rfl hin rfl (by decide +kernel) rfl rfl (Nat.le_of_ble_eq_true rfl) dX0_init_49 (fun H locs hP hD hS => ?_)
  have hW : Wd D A s.heap [(h0, .inr (0, [.ref q_7, .ref q_15, .ref q_23, .ref q_31, .ref q_39, .ref q_47, .null, .null, .null, .int 0, .int 0, .int 0, .int 0, .int 0, .int 0, .int 0, .int 0, .int 0, .int 0, .int 0])), (q_7, .inl (cs 0, 8, .inl (fun _ => 0))), (q_15, .inl (cs 0, 8, .inl (fun _ => 0))), (q_23, .inl (cs 0, 8, .inl (fun _ => 0))), (q_31, .inl (cs 0, 8, .inl (fun _ => 0))), (q_39, .inl (cs 0, 8, .inl (fun _ => 0))), (q_47, .inl (cs 0, 10, .inl (fun _ => 0)))] H locs := ⟨hP, hD, hS⟩
  refine lv_aload_n S.1 S.2.1 dX0_init_52 rfl (lv_at hl 0 rfl) ?_
  refine lv_bipush (v := 10) S.1 S.2.1 dX0_init_53 (by decide) ?_
  refine k_newI (N := 10) S q90 hK hA hW (by decide) (by decide) (Nat.le_of_ble_eq_true rfl) (Nat.le_of_ble_eq_true rfl) (Nat.le_of_ble_eq_true rfl) dX0_init_55 (fun q_55 H hW => ?_)
  have hW : Wd D A s.heap [(h0, .inr (0, [.ref q_7, .ref q_15, .ref q_23, .ref q_31, .ref q_39, .ref q_47, .null, .null, .null, .int 0, .int 0, .int 0, .int 0, .int 0, .int 0, .int 0, .int 0, .int 0, .int 0, .int 0])), (q_7, .inl (cs 0, 8, .inl (fun _ => 0))), (q_15, .inl (cs 0, 8, .inl (fun _ => 0))), (q_23, .inl (cs 0, 8, .inl (fun _ => 0))), (q_31, .inl (cs 0, 8, .inl (fun _ => 0))), (q_39, .inl (cs 0, 8, .inl (fun _ => 0))), (q_47, .inl (cs 0, 10, .inl (fun _ => 0))), (q_55, .inl (cs 0, 10, .inl (fun _ => 0)))] H _ := hW
  refine W.widen (k := 7) (n := 60) (by decide) (by decide) ?_
  refine va_putF (ci := 0) (v := .ref q_55) (ty := .array .int) (C := RX0) (T := TX0) (N := 20) S.1 S.2.1 S.2.2.2.2 inDa tyX0 tyX0_ok nmX0 S.2.2.2.1 hK hW.1 hW.2.1 hW.2.2 0 rfl rfl 6 (by decide) (S.2.2.2.2 _ q154) (fun _ h => h) rfl hin rfl (by decide +kernel) rfl rfl (Nat.le_of_ble_eq_true rfl) dX0_init_57 (fun H locs hP hD hS => ?_)
  have hW : Wd D A s.heap [(h0, .inr (0, [.ref q_7, .ref q_15, .ref q_23, .ref q_31, .ref q_39, .ref q_47, .ref q_55, .null, .null, .int 0, .int 0, .int 0, .int 0, .int 0, .int 0, .int 0, .int 0, .int 0, .int 0, .int 0])), (q_7, .inl (cs 0, 8, .inl (fun _ => 0))), (q_15, .inl (cs 0, 8, .inl (fun _ => 0))), (q_23, .inl (cs 0, 8, .inl (fun _ => 0))), (q_31, .inl (cs 0, 8, .inl (fun _ => 0))), (q_39, .inl (cs 0, 8, .inl (fun _ => 0))), (q_47, .inl (cs 0, 10, .inl (fun _ => 0))), (q_55, .inl (cs 0, 10, .inl (fun _ => 0)))] H locs := ⟨hP, hD, hS⟩
  refine lv_aload_n S.1 S.2.1 dX0_init_60 rfl (lv_at hl 0 rfl) ?_
  refine lv_sipush (v := 400) S.1 S.2.1 dX0_init_61 (by decide) ?_
  refine k_newI (N := 400) S q90 hK hA hW (by decide) (by decide) (Nat.le_of_ble_eq_true rfl) (Nat.le_of_ble_eq_true rfl) (Nat.le_of_ble_eq_true rfl) dX0_init_64 (fun q_64 H hW => ?_)
  have hW : Wd D A s.heap [(h0, .inr (0, [.ref q_7, .ref q_15, .ref q_23, .ref q_31, .ref q_39, .ref q_47, .ref q_55, .null, .null, .int 0, .int 0, .int 0, .int 0, .int 0, .int 0, .int 0, .int 0, .int 0, .int 0, .int 0])), (q_7, .inl (cs 0, 8, .inl (fun _ => 0))), (q_15, .inl (cs 0, 8, .inl (fun _ => 0))), (q_23, .inl (cs 0, 8, .inl (fun _ => 0))), (q_31, .inl (cs 0, 8, .inl (fun _ => 0))), (q_39, .inl (cs 0, 8, .inl (fun _ => 0))), (q_47, .inl (cs 0, 10, .inl (fun _ => 0))), (q_55, .inl (cs 0, 10, .inl (fun _ => 0))), (q_64, .inl (cs 0, 400, .inl (fun _ => 0)))] H _ := hW
  refine W.widen (k := 8) (n := 460) (by decide) (by decide) ?_
  refine va_putF (ci := 0) (v := .ref q_64) (ty := .array .int) (C := RX0) (T := TX0) (N := 20) S.1 S.2.1 S.2.2.2.2 inDa tyX0 tyX0_ok nmX0 S.2.2.2.1 hK hW.1 hW.2.1 hW.2.2 0 rfl rfl 7 (by decide) (S.2.2.2.2 _ q155) (fun _ h => h) rfl hin rfl (by decide +kernel) rfl rfl (Nat.le_of_ble_eq_true rfl) dX0_init_66 (fun H locs hP hD hS => ?_)
  have hW : Wd D A s.heap [(h0, .inr (0, [.ref q_7, .ref q_15, .ref q_23, .ref q_31, .ref q_39, .ref q_47, .ref q_55, .ref q_64, .null, .int 0, .int 0, .int 0, .int 0, .int 0, .int 0, .int 0, .int 0, .int 0, .int 0, .int 0])), (q_7, .inl (cs 0, 8, .inl (fun _ => 0))), (q_15, .inl (cs 0, 8, .inl (fun _ => 0))), (q_23, .inl (cs 0, 8, .inl (fun _ => 0))), (q_31, .inl (cs 0, 8, .inl (fun _ => 0))), (q_39, .inl (cs 0, 8, .inl (fun _ => 0))), (q_47, .inl (cs 0, 10, .inl (fun _ => 0))), (q_55, .inl (cs 0, 10, .inl (fun _ => 0))), (q_64, .inl (cs 0, 400, .inl (fun _ => 0)))] H locs := ⟨hP, hD, hS⟩
  refine lv_aload_n S.1 S.2.1 dX0_init_69 rfl (lv_at hl 0 rfl) ?_
  refine lv_aload_n S.1 S.2.1 dX0_init_70 rfl (lv_at hl 1 rfl) ?_
  refine va_put (ci := 0) (v := .ref y1) (ty := .object "CoatsOnChairs$Room") (C := RX0) (T := TX0) (N := 20) S.1 S.2.1 S.2.2.2.2 inDa tyX0 tyX0_ok nmX0 S.2.2.2.1 hK hW.1 hW.2.1 hW.2.2 0 rfl rfl 8 (by decide) (S.2.2.2.2 _ q156) (fun _ h => h) rfl (by decide +kernel) rfl rfl (Nat.le_of_ble_eq_true rfl) dX0_init_71 (fun H locs hP hD hS => ?_)
  have hW : Wd D A s.heap [(h0, .inr (0, [.ref q_7, .ref q_15, .ref q_23, .ref q_31, .ref q_39, .ref q_47, .ref q_55, .ref q_64, .ref y1, .int 0, .int 0, .int 0, .int 0, .int 0, .int 0, .int 0, .int 0, .int 0, .int 0, .int 0])), (q_7, .inl (cs 0, 8, .inl (fun _ => 0))), (q_15, .inl (cs 0, 8, .inl (fun _ => 0))), (q_23, .inl (cs 0, 8, .inl (fun _ => 0))), (q_31, .inl (cs 0, 8, .inl (fun _ => 0))), (q_39, .inl (cs 0, 8, .inl (fun _ => 0))), (q_47, .inl (cs 0, 10, .inl (fun _ => 0))), (q_55, .inl (cs 0, 10, .inl (fun _ => 0))), (q_64, .inl (cs 0, 400, .inl (fun _ => 0)))] H locs := ⟨hP, hD, hS⟩
  exact wDa_initS (N := N) (a := (fun k => ([h0, q_7, q_15, q_23, q_31, q_39, q_47, q_55, q_64] : List Nat).getD k 0)) (x_room := y1) S hK hA (hQ (fun k => ([h0, q_7, q_15, q_23, q_31, q_39, q_47, q_55, q_64] : List Nat).getD k 0) rfl) _ _ _ hW (lv_sub hl [0] rfl)
def fGa_initS (N : Nat) (γ : St) : Option St :=
  nm (sA γ 0 (upd (γ 0) 3 (-1 : Int32))) fun γ_1 =>
  nm (sA γ_1 0 (upd (γ_1 0) 4 (0 : Int32))) fun γ_2 =>
  some γ_2
def fGa_init (N : Nat) : Option St := fGa_initS N z0
set_option maxHeartbeats 4000000 in
set_option maxRecDepth 100000 in
theorem wGa_initS {p : Program} {l : Launch} {e : Env} {s : State} {m : MethodId} {args : Array Value} {below : List Frame} {meth : Method} {c : Code} {A : Nat → Prop} {Q : State → Prop} {D : va_G} {cs : Nat → ClassId} {a : Nat → Nat} {x_day x_room : Nat} {γ' : St} {N : Nat} (S : Fx p m c cX1_init 3 s args RX1) (hK : va_K D vwCl (tyL cs) s) (hA : ∀ x, s.heap.size ≤ x → A x) (hQ : ∀ (H : Heap) (locs : List Loc) (pc : Nat) (ls : Array Slot), decode cX1_init pc = .ok (.return_, 1) → Wd D A s.heap (wGa cs a x_day x_room γ' (fun _ => (0 : Int64)) ++ []) H locs → W p l e { frames := 1, cells := 1, slots := 256, locals := 12 } s m args below meth c H locs 1 256 Q (F0 m pc ls [])) : ∀ (γ : St) (H : Heap) (locs : List Loc) (ls : Array Slot), fGa_initS N γ = some γ' → Wd D A s.heap (wGa cs a x_day x_room γ (fun _ => (0 : Int64)) ++ []) H locs → lv_has ls 3 [(0, .ref (a 0))] → W p l e { frames := 1, cells := 1, slots := 256, locals := 12 } s m args below meth c H locs 1 256 Q (F0 m 23 ls []) := by
  intro γ H locs ls h hW hl
  unfold fGa_initS at h
  refine lv_aload_n S.1 S.2.1 dX1_init_23 rfl (lv_at hl 0 rfl) ?_
  refine lv_iconst (v := -1) S.1 S.2.1 dX1_init_24 (by decide) ?_
  refine pGa_rule S hK hW dX1_init_25 (fun H locs γ_1 eγ_1 hW => ?_)
  have h := nm_to eγ_1 h
  refine lv_aload_n S.1 S.2.1 dX1_init_28 rfl (lv_at hl 0 rfl) ?_
  refine lv_iconst (v := 0) S.1 S.2.1 dX1_init_29 (by decide) ?_
  refine pGa_mattering S hK hW dX1_init_30 (fun H locs γ_2 eγ_2 hW => ?_)
  have h := nm_to eγ_2 h
  obtain rfl := pr1 h
  exact hQ _ _ _ _ dX1_init_33 hW
set_option maxHeartbeats 4000000 in
set_option maxRecDepth 100000 in
theorem cGa_init (l : Launch) (D : va_G) (cs : Nat → ClassId) (h0 : Nat) (y1 y2 : Nat) (N : Nat) {γ' : St} (h : fGa_init N = some γ') : Kn l D cs none yX1_init cX1_init 3 1 12 1 256 [(h0, .inr (1, [.null, .null, .null, .int 0, .int 0]))] [.ref h0, .ref y1, .ref y2] (fun (u : Nat → Nat) => u 0 = h0) (fun (u : Nat → Nat) => (wGa cs u y1 y2 γ' (fun _ => (0 : Int64)) ++ [])) := by
  refine Kn_of (by decide +kernel) rfl (Nat.le_of_ble_eq_true rfl) (fun p e s m below meth c A S hin hK hA hZ Q hQ ls hl hW => ?_)
  have hl : lv_has ls 3 [(0, .ref h0), (1, .ref y1), (2, .ref y2)] := hl
  refine lv_aload_n S.1 S.2.1 dX1_init_0 rfl (lv_at hl 0 rfl) ?_
  refine W.objInit S.1 S.2.1 S.2.2.2.1 (S.2.2.2.2 _ q214) (S.2.2.2.2 _ q58) (S.2.2.2.2 _ q59) rfl (by rw [S.2.2.1]; exact hl.1) rfl dX1_init_1 (Nat.le_of_ble_eq_true rfl) (Nat.le_of_ble_eq_true rfl) ?_
  refine W.eq (g2 := F0 m 4 ls []) rfl ?_
  refine lv_aload_n S.1 S.2.1 dX1_init_4 rfl (lv_at hl 0 rfl) ?_
  refine lv_aload_n S.1 S.2.1 dX1_init_5 rfl (lv_at hl 1 rfl) ?_
  refine va_putF (ci := 1) (v := .ref y1) (ty := .object "CoatsOnChairs$Day") (C := RX1) (T := TX1) (N := 5) S.1 S.2.1 S.2.2.2.2 inGa tyX1 tyX1_ok nmX1 S.2.2.2.1 hK hW.1 hW.2.1 hW.2.2 0 rfl rfl 0 (by decide) (S.2.2.2.2 _ q215) (fun _ h => h) rfl hin rfl (by decide +kernel) rfl rfl (Nat.le_of_ble_eq_true rfl) dX1_init_6 (fun H locs hP hD hS => ?_)
  have hW : Wd D A s.heap [(h0, .inr (1, [.ref y1, .null, .null, .int 0, .int 0]))] H locs := ⟨hP, hD, hS⟩
  refine lv_aload_n S.1 S.2.1 dX1_init_9 rfl (lv_at hl 0 rfl) ?_
  refine lv_sipush (v := 256) S.1 S.2.1 dX1_init_10 (by decide) ?_
  refine k_newJ (N := 256) S q231 hK hA hW (by decide) (by decide) (Nat.le_of_ble_eq_true rfl) (Nat.le_of_ble_eq_true rfl) (Nat.le_of_ble_eq_true rfl) dX1_init_13 (fun q_13 H hW => ?_)
  have hW : Wd D A s.heap [(h0, .inr (1, [.ref y1, .null, .null, .int 0, .int 0])), (q_13, .inl (cs 3, 256, .inr (.inl (fun _ => 0))))] H _ := hW
  refine W.widen (k := 1) (n := 256) (by decide) (by decide) ?_
  refine va_putF (ci := 1) (v := .ref q_13) (ty := .array .long) (C := RX1) (T := TX1) (N := 5) S.1 S.2.1 S.2.2.2.2 inGa tyX1 tyX1_ok nmX1 S.2.2.2.1 hK hW.1 hW.2.1 hW.2.2 0 rfl rfl 1 (by decide) (S.2.2.2.2 _ q216) (fun _ h => h) rfl hin rfl (by decide +kernel) rfl rfl (Nat.le_of_ble_eq_true rfl) dX1_init_15 (fun H locs hP hD hS => ?_)
  have hW : Wd D A s.heap [(h0, .inr (1, [.ref y1, .ref q_13, .null, .int 0, .int 0])), (q_13, .inl (cs 3, 256, .inr (.inl (fun _ => 0))))] H locs := ⟨hP, hD, hS⟩
  refine lv_aload_n S.1 S.2.1 dX1_init_18 rfl (lv_at hl 0 rfl) ?_
  refine lv_aload_n S.1 S.2.1 dX1_init_19 rfl (lv_at hl 2 rfl) ?_
  refine va_put (ci := 1) (v := .ref y2) (ty := .object "CoatsOnChairs$Room") (C := RX1) (T := TX1) (N := 5) S.1 S.2.1 S.2.2.2.2 inGa tyX1 tyX1_ok nmX1 S.2.2.2.1 hK hW.1 hW.2.1 hW.2.2 0 rfl rfl 2 (by decide) (S.2.2.2.2 _ q217) (fun _ h => h) rfl (by decide +kernel) rfl rfl (Nat.le_of_ble_eq_true rfl) dX1_init_20 (fun H locs hP hD hS => ?_)
  have hW : Wd D A s.heap [(h0, .inr (1, [.ref y1, .ref q_13, .ref y2, .int 0, .int 0])), (q_13, .inl (cs 3, 256, .inr (.inl (fun _ => 0))))] H locs := ⟨hP, hD, hS⟩
  exact wGa_initS (N := N) (a := (fun k => ([h0, h0, q_13] : List Nat).getD k 0)) (x_day := y1) (x_room := y2) S hK hA (hQ (fun k => ([h0, h0, q_13] : List Nat).getD k 0) rfl) z0 _ _ _ h hW (lv_sub hl [0] rfl)
def fMo_initS (N : Nat) (σ : St) : Option St :=
  cl1 (fMo_begins N σ) fun σ_1 =>
  gI (1 : Int32) 2 <|
  nm (sA σ_1 4 (upd (σ_1 4) (1 : Int32).toNatClampNeg (1 : Int32))) fun σ_4 =>
  gI (1 : Int32) 2 <|
  nm (sA σ_4 5 (upd (σ_4 5) (1 : Int32).toNatClampNeg (1 : Int32))) fun σ_6 =>
  gI (56 : Int32) 112 <|
  nm (sA σ_6 7 (upd (σ_6 7) (56 : Int32).toNatClampNeg (0 : Int32))) fun σ_8 =>
  gI (57 : Int32) 112 <|
  nm (sA σ_8 7 (upd (σ_8 7) (57 : Int32).toNatClampNeg (60 : Int32))) fun σ_10 =>
  gI (58 : Int32) 112 <|
  nm (sA σ_10 7 (upd (σ_10 7) (58 : Int32).toNatClampNeg (30 : Int32))) fun σ_12 =>
  gI (59 : Int32) 112 <|
  nm (sA σ_12 7 (upd (σ_12 7) (59 : Int32).toNatClampNeg (10 : Int32))) fun σ_14 =>
  gI (60 : Int32) 112 <|
  nm (sA σ_14 7 (upd (σ_14 7) (60 : Int32).toNatClampNeg (0 : Int32))) fun σ_16 =>
  gI (61 : Int32) 112 <|
  nm (sA σ_16 7 (upd (σ_16 7) (61 : Int32).toNatClampNeg (5 : Int32))) fun σ_18 =>
  gI (62 : Int32) 112 <|
  nm (sA σ_18 7 (upd (σ_18 7) (62 : Int32).toNatClampNeg (5 : Int32))) fun σ_20 =>
  cl1 (fMo_takes N σ_20) fun σ_21 =>
  some σ_21
def fMo_init (N : Nat) : Option St := fMo_initS N z0
set_option maxHeartbeats 4000000 in
set_option maxRecDepth 100000 in
theorem wMo_initS {p : Program} {l : Launch} {e : Env} {s : State} {m : MethodId} {args : Array Value} {below : List Frame} {meth : Method} {c : Code} {A : Nat → Prop} {Q : State → Prop} {D : va_G} {cs : Nat → ClassId} {a : Nat → Nat} {σ' : St} {N : Nat} (S : Fx p m c cX7_init 1 s args RX7) (hK : va_K D vwCl (tyL cs) s) (hA : ∀ x, s.heap.size ≤ x → A x) (hQ : ∀ (H : Heap) (locs : List Loc) (pc : Nat) (ls : Array Slot), decode cX7_init pc = .ok (.return_, 1) → Wd D A s.heap (wMo cs a σ' (fun _ => (0 : Int64))) H locs → W p l e { frames := 1, cells := 20, slots := 3094, locals := 21 } s m args below meth c H locs 20 3094 Q (F0 m pc ls [])) : ∀ (σ : St) (H : Heap) (locs : List Loc) (ls : Array Slot), fMo_initS N σ = some σ' → Wd D A s.heap (wMo cs a σ (fun _ => (0 : Int64))) H locs → lv_has ls 1 [(0, .ref (a 0))] → W p l e { frames := 1, cells := 20, slots := 3094, locals := 21 } s m args below meth c H locs 20 3094 Q (F0 m 164 ls []) := by
  intro σ H locs ls h hW hl
  unfold fMo_initS at h
  refine lv_aload_n S.1 S.2.1 dX7_init_164 rfl (lv_at hl 0 rfl) ?_
  obtain ⟨σ_1, hc_2, h⟩ := cl1_some h
  have hW := kw_same hW
  refine kV_v (As := []) (rest := []) S hK hA (z := none) trivial [] [] hW (cMo_begins l D cs a σ (fun _ => (0 : Int64)) N hc_2) (ci := 6) rfl rfl lk_X7_72 q673 q19 ⟨Nat.le_of_ble_eq_true rfl, Nat.le_of_ble_eq_true rfl⟩ rfl (Nat.le_of_ble_eq_true rfl) hl.1 dX7_init_165 ⟨Nat.le_of_ble_eq_true rfl, Nat.le_of_ble_eq_true rfl⟩ (fun H locs hW => ?_)
  have hW : Wd D A s.heap (wMo cs a σ_1 (fun _ => (0 : Int64))) H locs := kw_back hW
  refine lv_aload_n S.1 S.2.1 dX7_init_168 rfl (lv_at hl 0 rfl) ?_
  refine gMo_seats S hK hW dX7_init_169 ?_
  refine lv_iconst (v := 1) S.1 S.2.1 dX7_init_172 (by decide) ?_
  refine lv_iconst (v := 1) S.1 S.2.1 dX7_init_173 (by decide) ?_
  obtain ⟨hi_3, h⟩ := gI_some h
  refine sMo_seats S hK hW hi_3 dX7_init_174 (fun H locs σ_4 eσ_4 hW => ?_)
  have h := nm_to eσ_4 h
  refine lv_aload_n S.1 S.2.1 dX7_init_175 rfl (lv_at hl 0 rfl) ?_
  refine gMo_readers S hK hW dX7_init_176 ?_
  refine lv_iconst (v := 1) S.1 S.2.1 dX7_init_179 (by decide) ?_
  refine lv_iconst (v := 1) S.1 S.2.1 dX7_init_180 (by decide) ?_
  obtain ⟨hi_5, h⟩ := gI_some h
  refine sMo_readers S hK hW hi_5 dX7_init_181 (fun H locs σ_6 eσ_6 hW => ?_)
  have h := nm_to eσ_6 h
  refine lv_aload_n S.1 S.2.1 dX7_init_182 rfl (lv_at hl 0 rfl) ?_
  refine gMo_reader S hK hW dX7_init_183 ?_
  refine lv_bipush (v := 56) S.1 S.2.1 dX7_init_186 (by decide) ?_
  refine lv_iconst (v := 0) S.1 S.2.1 dX7_init_188 (by decide) ?_
  obtain ⟨hi_7, h⟩ := gI_some h
  refine sMo_reader S hK hW hi_7 dX7_init_189 (fun H locs σ_8 eσ_8 hW => ?_)
  have h := nm_to eσ_8 h
  refine lv_aload_n S.1 S.2.1 dX7_init_190 rfl (lv_at hl 0 rfl) ?_
  refine gMo_reader S hK hW dX7_init_191 ?_
  refine lv_bipush (v := 57) S.1 S.2.1 dX7_init_194 (by decide) ?_
  refine lv_bipush (v := 60) S.1 S.2.1 dX7_init_196 (by decide) ?_
  obtain ⟨hi_9, h⟩ := gI_some h
  refine sMo_reader S hK hW hi_9 dX7_init_198 (fun H locs σ_10 eσ_10 hW => ?_)
  have h := nm_to eσ_10 h
  refine lv_aload_n S.1 S.2.1 dX7_init_199 rfl (lv_at hl 0 rfl) ?_
  refine gMo_reader S hK hW dX7_init_200 ?_
  refine lv_bipush (v := 58) S.1 S.2.1 dX7_init_203 (by decide) ?_
  refine lv_bipush (v := 30) S.1 S.2.1 dX7_init_205 (by decide) ?_
  obtain ⟨hi_11, h⟩ := gI_some h
  refine sMo_reader S hK hW hi_11 dX7_init_207 (fun H locs σ_12 eσ_12 hW => ?_)
  have h := nm_to eσ_12 h
  refine lv_aload_n S.1 S.2.1 dX7_init_208 rfl (lv_at hl 0 rfl) ?_
  refine gMo_reader S hK hW dX7_init_209 ?_
  refine lv_bipush (v := 59) S.1 S.2.1 dX7_init_212 (by decide) ?_
  refine lv_bipush (v := 10) S.1 S.2.1 dX7_init_214 (by decide) ?_
  obtain ⟨hi_13, h⟩ := gI_some h
  refine sMo_reader S hK hW hi_13 dX7_init_216 (fun H locs σ_14 eσ_14 hW => ?_)
  have h := nm_to eσ_14 h
  refine lv_aload_n S.1 S.2.1 dX7_init_217 rfl (lv_at hl 0 rfl) ?_
  refine gMo_reader S hK hW dX7_init_218 ?_
  refine lv_bipush (v := 60) S.1 S.2.1 dX7_init_221 (by decide) ?_
  refine lv_iconst (v := 0) S.1 S.2.1 dX7_init_223 (by decide) ?_
  obtain ⟨hi_15, h⟩ := gI_some h
  refine sMo_reader S hK hW hi_15 dX7_init_224 (fun H locs σ_16 eσ_16 hW => ?_)
  have h := nm_to eσ_16 h
  refine lv_aload_n S.1 S.2.1 dX7_init_225 rfl (lv_at hl 0 rfl) ?_
  refine gMo_reader S hK hW dX7_init_226 ?_
  refine lv_bipush (v := 61) S.1 S.2.1 dX7_init_229 (by decide) ?_
  refine lv_iconst (v := 5) S.1 S.2.1 dX7_init_231 (by decide) ?_
  obtain ⟨hi_17, h⟩ := gI_some h
  refine sMo_reader S hK hW hi_17 dX7_init_232 (fun H locs σ_18 eσ_18 hW => ?_)
  have h := nm_to eσ_18 h
  refine lv_aload_n S.1 S.2.1 dX7_init_233 rfl (lv_at hl 0 rfl) ?_
  refine gMo_reader S hK hW dX7_init_234 ?_
  refine lv_bipush (v := 62) S.1 S.2.1 dX7_init_237 (by decide) ?_
  refine lv_iconst (v := 5) S.1 S.2.1 dX7_init_239 (by decide) ?_
  obtain ⟨hi_19, h⟩ := gI_some h
  refine sMo_reader S hK hW hi_19 dX7_init_240 (fun H locs σ_20 eσ_20 hW => ?_)
  have h := nm_to eσ_20 h
  refine lv_aload_n S.1 S.2.1 dX7_init_241 rfl (lv_at hl 0 rfl) ?_
  obtain ⟨σ_21, hc_22, h⟩ := cl1_some h
  have hW := kw_same hW
  refine kV_v (As := []) (rest := []) S hK hA (z := none) trivial [] [] hW (cMo_takes l D cs a σ_20 (fun _ => (0 : Int64)) N hc_22) (ci := 6) rfl rfl lk_X7_75 q677 q20 ⟨Nat.le_of_ble_eq_true rfl, Nat.le_of_ble_eq_true rfl⟩ rfl (Nat.le_of_ble_eq_true rfl) hl.1 dX7_init_242 ⟨Nat.le_of_ble_eq_true rfl, Nat.le_of_ble_eq_true rfl⟩ (fun H locs hW => ?_)
  have hW : Wd D A s.heap (wMo cs a σ_21 (fun _ => (0 : Int64))) H locs := kw_back hW
  obtain rfl := pr1 h
  exact hQ _ _ _ _ dX7_init_245 hW
set_option maxHeartbeats 4000000 in
set_option maxRecDepth 100000 in
theorem cMo_init (l : Launch) (D : va_G) (cs : Nat → ClassId) (h0 : Nat) (N : Nat) {σ' : St} (h : fMo_init N = some σ') : Kn l D cs none yX7_init cX7_init 1 1 21 20 3094 [(h0, .inr (6, [.int 0, .null, .int 0, .null, .null, .null, .null, .null, .int 0, .int 0, .null, .null, .null, .null, .null, .null, .null, .null, .null, .null, .int 0, .int 0, .int 0, .int 0, .null, .null, .null, .long 0, .long 0, .null]))] [.ref h0] (fun (u : Nat → Nat) => u 0 = h0) (fun (u : Nat → Nat) => (wMo cs u σ' (fun _ => (0 : Int64)))) := by
  refine Kn_of (by decide +kernel) rfl (Nat.le_of_ble_eq_true rfl) (fun p e s m below meth c A S hin hK hA hZ Q hQ ls hl hW => ?_)
  have hl : lv_has ls 1 [(0, .ref h0)] := hl
  refine lv_aload_n S.1 S.2.1 dX7_init_0 rfl (lv_at hl 0 rfl) ?_
  refine W.objInit S.1 S.2.1 S.2.2.2.1 (S.2.2.2.2 _ q670) (S.2.2.2.2 _ q58) (S.2.2.2.2 _ q59) rfl (by rw [S.2.2.1]; exact hl.1) rfl dX7_init_1 (Nat.le_of_ble_eq_true rfl) (Nat.le_of_ble_eq_true rfl) ?_
  refine W.eq (g2 := F0 m 4 ls []) rfl ?_
  refine lv_aload_n S.1 S.2.1 dX7_init_4 rfl (lv_at hl 0 rfl) ?_
  refine lv_sipush (v := 400) S.1 S.2.1 dX7_init_5 (by decide) ?_
  refine k_newB (N := 400) S q73 hK hA hW (by decide) (by decide) (Nat.le_of_ble_eq_true rfl) (Nat.le_of_ble_eq_true rfl) (Nat.le_of_ble_eq_true rfl) dX7_init_8 (fun q_8 H hW => ?_)
  have hW : Wd D A s.heap [(h0, .inr (6, [.int 0, .null, .int 0, .null, .null, .null, .null, .null, .int 0, .int 0, .null, .null, .null, .null, .null, .null, .null, .null, .null, .null, .int 0, .int 0, .int 0, .int 0, .null, .null, .null, .long 0, .long 0, .null])), (q_8, .inl (cs 1, 400, .inl (fun _ => 0)))] H _ := hW
  refine W.widen (k := 1) (n := 400) (by decide) (by decide) ?_
  refine va_putF (ci := 6) (v := .ref q_8) (ty := .array .byte) (C := RX7) (T := TX7) (N := 30) S.1 S.2.1 S.2.2.2.2 inMo tyX7 tyX7_ok nmX7 S.2.2.2.1 hK hW.1 hW.2.1 hW.2.2 0 rfl rfl 1 (by decide) (S.2.2.2.2 _ q680) (fun _ h => h) rfl hin rfl (by decide +kernel) rfl rfl (Nat.le_of_ble_eq_true rfl) dX7_init_10 (fun H locs hP hD hS => ?_)
  have hW : Wd D A s.heap [(h0, .inr (6, [.int 0, .ref q_8, .int 0, .null, .null, .null, .null, .null, .int 0, .int 0, .null, .null, .null, .null, .null, .null, .null, .null, .null, .null, .int 0, .int 0, .int 0, .int 0, .null, .null, .null, .long 0, .long 0, .null])), (q_8, .inl (cs 1, 400, .inl (fun _ => 0)))] H locs := ⟨hP, hD, hS⟩
  refine lv_aload_n S.1 S.2.1 dX7_init_13 rfl (lv_at hl 0 rfl) ?_
  refine lv_iconst (v := 2) S.1 S.2.1 dX7_init_14 (by decide) ?_
  refine k_newI (N := 2) S q90 hK hA hW (by decide) (by decide) (Nat.le_of_ble_eq_true rfl) (Nat.le_of_ble_eq_true rfl) (Nat.le_of_ble_eq_true rfl) dX7_init_15 (fun q_15 H hW => ?_)
  have hW : Wd D A s.heap [(h0, .inr (6, [.int 0, .ref q_8, .int 0, .null, .null, .null, .null, .null, .int 0, .int 0, .null, .null, .null, .null, .null, .null, .null, .null, .null, .null, .int 0, .int 0, .int 0, .int 0, .null, .null, .null, .long 0, .long 0, .null])), (q_8, .inl (cs 1, 400, .inl (fun _ => 0))), (q_15, .inl (cs 0, 2, .inl (fun _ => 0)))] H _ := hW
  refine W.widen (k := 2) (n := 402) (by decide) (by decide) ?_
  refine va_putF (ci := 6) (v := .ref q_15) (ty := .array .int) (C := RX7) (T := TX7) (N := 30) S.1 S.2.1 S.2.2.2.2 inMo tyX7 tyX7_ok nmX7 S.2.2.2.1 hK hW.1 hW.2.1 hW.2.2 0 rfl rfl 3 (by decide) (S.2.2.2.2 _ q682) (fun _ h => h) rfl hin rfl (by decide +kernel) rfl rfl (Nat.le_of_ble_eq_true rfl) dX7_init_17 (fun H locs hP hD hS => ?_)
  have hW : Wd D A s.heap [(h0, .inr (6, [.int 0, .ref q_8, .int 0, .ref q_15, .null, .null, .null, .null, .int 0, .int 0, .null, .null, .null, .null, .null, .null, .null, .null, .null, .null, .int 0, .int 0, .int 0, .int 0, .null, .null, .null, .long 0, .long 0, .null])), (q_8, .inl (cs 1, 400, .inl (fun _ => 0))), (q_15, .inl (cs 0, 2, .inl (fun _ => 0)))] H locs := ⟨hP, hD, hS⟩
  refine lv_aload_n S.1 S.2.1 dX7_init_20 rfl (lv_at hl 0 rfl) ?_
  refine lv_iconst (v := 2) S.1 S.2.1 dX7_init_21 (by decide) ?_
  refine k_newI (N := 2) S q90 hK hA hW (by decide) (by decide) (Nat.le_of_ble_eq_true rfl) (Nat.le_of_ble_eq_true rfl) (Nat.le_of_ble_eq_true rfl) dX7_init_22 (fun q_22 H hW => ?_)
  have hW : Wd D A s.heap [(h0, .inr (6, [.int 0, .ref q_8, .int 0, .ref q_15, .null, .null, .null, .null, .int 0, .int 0, .null, .null, .null, .null, .null, .null, .null, .null, .null, .null, .int 0, .int 0, .int 0, .int 0, .null, .null, .null, .long 0, .long 0, .null])), (q_8, .inl (cs 1, 400, .inl (fun _ => 0))), (q_15, .inl (cs 0, 2, .inl (fun _ => 0))), (q_22, .inl (cs 0, 2, .inl (fun _ => 0)))] H _ := hW
  refine W.widen (k := 3) (n := 404) (by decide) (by decide) ?_
  refine va_putF (ci := 6) (v := .ref q_22) (ty := .array .int) (C := RX7) (T := TX7) (N := 30) S.1 S.2.1 S.2.2.2.2 inMo tyX7 tyX7_ok nmX7 S.2.2.2.1 hK hW.1 hW.2.1 hW.2.2 0 rfl rfl 4 (by decide) (S.2.2.2.2 _ q683) (fun _ h => h) rfl hin rfl (by decide +kernel) rfl rfl (Nat.le_of_ble_eq_true rfl) dX7_init_24 (fun H locs hP hD hS => ?_)
  have hW : Wd D A s.heap [(h0, .inr (6, [.int 0, .ref q_8, .int 0, .ref q_15, .ref q_22, .null, .null, .null, .int 0, .int 0, .null, .null, .null, .null, .null, .null, .null, .null, .null, .null, .int 0, .int 0, .int 0, .int 0, .null, .null, .null, .long 0, .long 0, .null])), (q_8, .inl (cs 1, 400, .inl (fun _ => 0))), (q_15, .inl (cs 0, 2, .inl (fun _ => 0))), (q_22, .inl (cs 0, 2, .inl (fun _ => 0)))] H locs := ⟨hP, hD, hS⟩
  refine lv_aload_n S.1 S.2.1 dX7_init_27 rfl (lv_at hl 0 rfl) ?_
  refine lv_bipush (v := 20) S.1 S.2.1 dX7_init_28 (by decide) ?_
  refine k_newI (N := 20) S q90 hK hA hW (by decide) (by decide) (Nat.le_of_ble_eq_true rfl) (Nat.le_of_ble_eq_true rfl) (Nat.le_of_ble_eq_true rfl) dX7_init_30 (fun q_30 H hW => ?_)
  have hW : Wd D A s.heap [(h0, .inr (6, [.int 0, .ref q_8, .int 0, .ref q_15, .ref q_22, .null, .null, .null, .int 0, .int 0, .null, .null, .null, .null, .null, .null, .null, .null, .null, .null, .int 0, .int 0, .int 0, .int 0, .null, .null, .null, .long 0, .long 0, .null])), (q_8, .inl (cs 1, 400, .inl (fun _ => 0))), (q_15, .inl (cs 0, 2, .inl (fun _ => 0))), (q_22, .inl (cs 0, 2, .inl (fun _ => 0))), (q_30, .inl (cs 0, 20, .inl (fun _ => 0)))] H _ := hW
  refine W.widen (k := 4) (n := 424) (by decide) (by decide) ?_
  refine va_putF (ci := 6) (v := .ref q_30) (ty := .array .int) (C := RX7) (T := TX7) (N := 30) S.1 S.2.1 S.2.2.2.2 inMo tyX7 tyX7_ok nmX7 S.2.2.2.1 hK hW.1 hW.2.1 hW.2.2 0 rfl rfl 5 (by decide) (S.2.2.2.2 _ q684) (fun _ h => h) rfl hin rfl (by decide +kernel) rfl rfl (Nat.le_of_ble_eq_true rfl) dX7_init_32 (fun H locs hP hD hS => ?_)
  have hW : Wd D A s.heap [(h0, .inr (6, [.int 0, .ref q_8, .int 0, .ref q_15, .ref q_22, .ref q_30, .null, .null, .int 0, .int 0, .null, .null, .null, .null, .null, .null, .null, .null, .null, .null, .int 0, .int 0, .int 0, .int 0, .null, .null, .null, .long 0, .long 0, .null])), (q_8, .inl (cs 1, 400, .inl (fun _ => 0))), (q_15, .inl (cs 0, 2, .inl (fun _ => 0))), (q_22, .inl (cs 0, 2, .inl (fun _ => 0))), (q_30, .inl (cs 0, 20, .inl (fun _ => 0)))] H locs := ⟨hP, hD, hS⟩
  refine lv_aload_n S.1 S.2.1 dX7_init_35 rfl (lv_at hl 0 rfl) ?_
  refine lv_bipush (v := 112) S.1 S.2.1 dX7_init_36 (by decide) ?_
  refine k_newI (N := 112) S q90 hK hA hW (by decide) (by decide) (Nat.le_of_ble_eq_true rfl) (Nat.le_of_ble_eq_true rfl) (Nat.le_of_ble_eq_true rfl) dX7_init_38 (fun q_38 H hW => ?_)
  have hW : Wd D A s.heap [(h0, .inr (6, [.int 0, .ref q_8, .int 0, .ref q_15, .ref q_22, .ref q_30, .null, .null, .int 0, .int 0, .null, .null, .null, .null, .null, .null, .null, .null, .null, .null, .int 0, .int 0, .int 0, .int 0, .null, .null, .null, .long 0, .long 0, .null])), (q_8, .inl (cs 1, 400, .inl (fun _ => 0))), (q_15, .inl (cs 0, 2, .inl (fun _ => 0))), (q_22, .inl (cs 0, 2, .inl (fun _ => 0))), (q_30, .inl (cs 0, 20, .inl (fun _ => 0))), (q_38, .inl (cs 0, 112, .inl (fun _ => 0)))] H _ := hW
  refine W.widen (k := 5) (n := 536) (by decide) (by decide) ?_
  refine va_putF (ci := 6) (v := .ref q_38) (ty := .array .int) (C := RX7) (T := TX7) (N := 30) S.1 S.2.1 S.2.2.2.2 inMo tyX7 tyX7_ok nmX7 S.2.2.2.1 hK hW.1 hW.2.1 hW.2.2 0 rfl rfl 6 (by decide) (S.2.2.2.2 _ q685) (fun _ h => h) rfl hin rfl (by decide +kernel) rfl rfl (Nat.le_of_ble_eq_true rfl) dX7_init_40 (fun H locs hP hD hS => ?_)
  have hW : Wd D A s.heap [(h0, .inr (6, [.int 0, .ref q_8, .int 0, .ref q_15, .ref q_22, .ref q_30, .ref q_38, .null, .int 0, .int 0, .null, .null, .null, .null, .null, .null, .null, .null, .null, .null, .int 0, .int 0, .int 0, .int 0, .null, .null, .null, .long 0, .long 0, .null])), (q_8, .inl (cs 1, 400, .inl (fun _ => 0))), (q_15, .inl (cs 0, 2, .inl (fun _ => 0))), (q_22, .inl (cs 0, 2, .inl (fun _ => 0))), (q_30, .inl (cs 0, 20, .inl (fun _ => 0))), (q_38, .inl (cs 0, 112, .inl (fun _ => 0)))] H locs := ⟨hP, hD, hS⟩
  refine lv_aload_n S.1 S.2.1 dX7_init_43 rfl (lv_at hl 0 rfl) ?_
  refine lv_bipush (v := 10) S.1 S.2.1 dX7_init_44 (by decide) ?_
  refine k_newI (N := 10) S q90 hK hA hW (by decide) (by decide) (Nat.le_of_ble_eq_true rfl) (Nat.le_of_ble_eq_true rfl) (Nat.le_of_ble_eq_true rfl) dX7_init_46 (fun q_46 H hW => ?_)
  have hW : Wd D A s.heap [(h0, .inr (6, [.int 0, .ref q_8, .int 0, .ref q_15, .ref q_22, .ref q_30, .ref q_38, .null, .int 0, .int 0, .null, .null, .null, .null, .null, .null, .null, .null, .null, .null, .int 0, .int 0, .int 0, .int 0, .null, .null, .null, .long 0, .long 0, .null])), (q_8, .inl (cs 1, 400, .inl (fun _ => 0))), (q_15, .inl (cs 0, 2, .inl (fun _ => 0))), (q_22, .inl (cs 0, 2, .inl (fun _ => 0))), (q_30, .inl (cs 0, 20, .inl (fun _ => 0))), (q_38, .inl (cs 0, 112, .inl (fun _ => 0))), (q_46, .inl (cs 0, 10, .inl (fun _ => 0)))] H _ := hW
  refine W.widen (k := 6) (n := 546) (by decide) (by decide) ?_
  refine va_putF (ci := 6) (v := .ref q_46) (ty := .array .int) (C := RX7) (T := TX7) (N := 30) S.1 S.2.1 S.2.2.2.2 inMo tyX7 tyX7_ok nmX7 S.2.2.2.1 hK hW.1 hW.2.1 hW.2.2 0 rfl rfl 7 (by decide) (S.2.2.2.2 _ q686) (fun _ h => h) rfl hin rfl (by decide +kernel) rfl rfl (Nat.le_of_ble_eq_true rfl) dX7_init_48 (fun H locs hP hD hS => ?_)
  have hW : Wd D A s.heap [(h0, .inr (6, [.int 0, .ref q_8, .int 0, .ref q_15, .ref q_22, .ref q_30, .ref q_38, .ref q_46, .int 0, .int 0, .null, .null, .null, .null, .null, .null, .null, .null, .null, .null, .int 0, .int 0, .int 0, .int 0, .null, .null, .null, .long 0, .long 0, .null])), (q_8, .inl (cs 1, 400, .inl (fun _ => 0))), (q_15, .inl (cs 0, 2, .inl (fun _ => 0))), (q_22, .inl (cs 0, 2, .inl (fun _ => 0))), (q_30, .inl (cs 0, 20, .inl (fun _ => 0))), (q_38, .inl (cs 0, 112, .inl (fun _ => 0))), (q_46, .inl (cs 0, 10, .inl (fun _ => 0)))] H locs := ⟨hP, hD, hS⟩
  refine lv_aload_n S.1 S.2.1 dX7_init_51 rfl (lv_at hl 0 rfl) ?_
  refine lv_iconst (v := 2) S.1 S.2.1 dX7_init_52 (by decide) ?_
  refine k_newI (N := 2) S q90 hK hA hW (by decide) (by decide) (Nat.le_of_ble_eq_true rfl) (Nat.le_of_ble_eq_true rfl) (Nat.le_of_ble_eq_true rfl) dX7_init_53 (fun q_53 H hW => ?_)
  have hW : Wd D A s.heap [(h0, .inr (6, [.int 0, .ref q_8, .int 0, .ref q_15, .ref q_22, .ref q_30, .ref q_38, .ref q_46, .int 0, .int 0, .null, .null, .null, .null, .null, .null, .null, .null, .null, .null, .int 0, .int 0, .int 0, .int 0, .null, .null, .null, .long 0, .long 0, .null])), (q_8, .inl (cs 1, 400, .inl (fun _ => 0))), (q_15, .inl (cs 0, 2, .inl (fun _ => 0))), (q_22, .inl (cs 0, 2, .inl (fun _ => 0))), (q_30, .inl (cs 0, 20, .inl (fun _ => 0))), (q_38, .inl (cs 0, 112, .inl (fun _ => 0))), (q_46, .inl (cs 0, 10, .inl (fun _ => 0))), (q_53, .inl (cs 0, 2, .inl (fun _ => 0)))] H _ := hW
  refine W.widen (k := 7) (n := 548) (by decide) (by decide) ?_
  refine va_putF (ci := 6) (v := .ref q_53) (ty := .array .int) (C := RX7) (T := TX7) (N := 30) S.1 S.2.1 S.2.2.2.2 inMo tyX7 tyX7_ok nmX7 S.2.2.2.1 hK hW.1 hW.2.1 hW.2.2 0 rfl rfl 10 (by decide) (S.2.2.2.2 _ q689) (fun _ h => h) rfl hin rfl (by decide +kernel) rfl rfl (Nat.le_of_ble_eq_true rfl) dX7_init_55 (fun H locs hP hD hS => ?_)
  have hW : Wd D A s.heap [(h0, .inr (6, [.int 0, .ref q_8, .int 0, .ref q_15, .ref q_22, .ref q_30, .ref q_38, .ref q_46, .int 0, .int 0, .ref q_53, .null, .null, .null, .null, .null, .null, .null, .null, .null, .int 0, .int 0, .int 0, .int 0, .null, .null, .null, .long 0, .long 0, .null])), (q_8, .inl (cs 1, 400, .inl (fun _ => 0))), (q_15, .inl (cs 0, 2, .inl (fun _ => 0))), (q_22, .inl (cs 0, 2, .inl (fun _ => 0))), (q_30, .inl (cs 0, 20, .inl (fun _ => 0))), (q_38, .inl (cs 0, 112, .inl (fun _ => 0))), (q_46, .inl (cs 0, 10, .inl (fun _ => 0))), (q_53, .inl (cs 0, 2, .inl (fun _ => 0)))] H locs := ⟨hP, hD, hS⟩
  refine lv_aload_n S.1 S.2.1 dX7_init_58 rfl (lv_at hl 0 rfl) ?_
  refine lv_bipush (v := 8) S.1 S.2.1 dX7_init_59 (by decide) ?_
  refine k_newI (N := 8) S q90 hK hA hW (by decide) (by decide) (Nat.le_of_ble_eq_true rfl) (Nat.le_of_ble_eq_true rfl) (Nat.le_of_ble_eq_true rfl) dX7_init_61 (fun q_61 H hW => ?_)
  have hW : Wd D A s.heap [(h0, .inr (6, [.int 0, .ref q_8, .int 0, .ref q_15, .ref q_22, .ref q_30, .ref q_38, .ref q_46, .int 0, .int 0, .ref q_53, .null, .null, .null, .null, .null, .null, .null, .null, .null, .int 0, .int 0, .int 0, .int 0, .null, .null, .null, .long 0, .long 0, .null])), (q_8, .inl (cs 1, 400, .inl (fun _ => 0))), (q_15, .inl (cs 0, 2, .inl (fun _ => 0))), (q_22, .inl (cs 0, 2, .inl (fun _ => 0))), (q_30, .inl (cs 0, 20, .inl (fun _ => 0))), (q_38, .inl (cs 0, 112, .inl (fun _ => 0))), (q_46, .inl (cs 0, 10, .inl (fun _ => 0))), (q_53, .inl (cs 0, 2, .inl (fun _ => 0))), (q_61, .inl (cs 0, 8, .inl (fun _ => 0)))] H _ := hW
  refine W.widen (k := 8) (n := 556) (by decide) (by decide) ?_
  refine va_putF (ci := 6) (v := .ref q_61) (ty := .array .int) (C := RX7) (T := TX7) (N := 30) S.1 S.2.1 S.2.2.2.2 inMo tyX7 tyX7_ok nmX7 S.2.2.2.1 hK hW.1 hW.2.1 hW.2.2 0 rfl rfl 11 (by decide) (S.2.2.2.2 _ q690) (fun _ h => h) rfl hin rfl (by decide +kernel) rfl rfl (Nat.le_of_ble_eq_true rfl) dX7_init_63 (fun H locs hP hD hS => ?_)
  have hW : Wd D A s.heap [(h0, .inr (6, [.int 0, .ref q_8, .int 0, .ref q_15, .ref q_22, .ref q_30, .ref q_38, .ref q_46, .int 0, .int 0, .ref q_53, .ref q_61, .null, .null, .null, .null, .null, .null, .null, .null, .int 0, .int 0, .int 0, .int 0, .null, .null, .null, .long 0, .long 0, .null])), (q_8, .inl (cs 1, 400, .inl (fun _ => 0))), (q_15, .inl (cs 0, 2, .inl (fun _ => 0))), (q_22, .inl (cs 0, 2, .inl (fun _ => 0))), (q_30, .inl (cs 0, 20, .inl (fun _ => 0))), (q_38, .inl (cs 0, 112, .inl (fun _ => 0))), (q_46, .inl (cs 0, 10, .inl (fun _ => 0))), (q_53, .inl (cs 0, 2, .inl (fun _ => 0))), (q_61, .inl (cs 0, 8, .inl (fun _ => 0)))] H locs := ⟨hP, hD, hS⟩
  refine lv_aload_n S.1 S.2.1 dX7_init_66 rfl (lv_at hl 0 rfl) ?_
  refine lv_bipush (v := 8) S.1 S.2.1 dX7_init_67 (by decide) ?_
  refine k_newI (N := 8) S q90 hK hA hW (by decide) (by decide) (Nat.le_of_ble_eq_true rfl) (Nat.le_of_ble_eq_true rfl) (Nat.le_of_ble_eq_true rfl) dX7_init_69 (fun q_69 H hW => ?_)
  have hW : Wd D A s.heap [(h0, .inr (6, [.int 0, .ref q_8, .int 0, .ref q_15, .ref q_22, .ref q_30, .ref q_38, .ref q_46, .int 0, .int 0, .ref q_53, .ref q_61, .null, .null, .null, .null, .null, .null, .null, .null, .int 0, .int 0, .int 0, .int 0, .null, .null, .null, .long 0, .long 0, .null])), (q_8, .inl (cs 1, 400, .inl (fun _ => 0))), (q_15, .inl (cs 0, 2, .inl (fun _ => 0))), (q_22, .inl (cs 0, 2, .inl (fun _ => 0))), (q_30, .inl (cs 0, 20, .inl (fun _ => 0))), (q_38, .inl (cs 0, 112, .inl (fun _ => 0))), (q_46, .inl (cs 0, 10, .inl (fun _ => 0))), (q_53, .inl (cs 0, 2, .inl (fun _ => 0))), (q_61, .inl (cs 0, 8, .inl (fun _ => 0))), (q_69, .inl (cs 0, 8, .inl (fun _ => 0)))] H _ := hW
  refine W.widen (k := 9) (n := 564) (by decide) (by decide) ?_
  refine va_putF (ci := 6) (v := .ref q_69) (ty := .array .int) (C := RX7) (T := TX7) (N := 30) S.1 S.2.1 S.2.2.2.2 inMo tyX7 tyX7_ok nmX7 S.2.2.2.1 hK hW.1 hW.2.1 hW.2.2 0 rfl rfl 12 (by decide) (S.2.2.2.2 _ q691) (fun _ h => h) rfl hin rfl (by decide +kernel) rfl rfl (Nat.le_of_ble_eq_true rfl) dX7_init_71 (fun H locs hP hD hS => ?_)
  have hW : Wd D A s.heap [(h0, .inr (6, [.int 0, .ref q_8, .int 0, .ref q_15, .ref q_22, .ref q_30, .ref q_38, .ref q_46, .int 0, .int 0, .ref q_53, .ref q_61, .ref q_69, .null, .null, .null, .null, .null, .null, .null, .int 0, .int 0, .int 0, .int 0, .null, .null, .null, .long 0, .long 0, .null])), (q_8, .inl (cs 1, 400, .inl (fun _ => 0))), (q_15, .inl (cs 0, 2, .inl (fun _ => 0))), (q_22, .inl (cs 0, 2, .inl (fun _ => 0))), (q_30, .inl (cs 0, 20, .inl (fun _ => 0))), (q_38, .inl (cs 0, 112, .inl (fun _ => 0))), (q_46, .inl (cs 0, 10, .inl (fun _ => 0))), (q_53, .inl (cs 0, 2, .inl (fun _ => 0))), (q_61, .inl (cs 0, 8, .inl (fun _ => 0))), (q_69, .inl (cs 0, 8, .inl (fun _ => 0)))] H locs := ⟨hP, hD, hS⟩
  refine lv_aload_n S.1 S.2.1 dX7_init_74 rfl (lv_at hl 0 rfl) ?_
  refine lv_bipush (v := 8) S.1 S.2.1 dX7_init_75 (by decide) ?_
  refine k_newI (N := 8) S q90 hK hA hW (by decide) (by decide) (Nat.le_of_ble_eq_true rfl) (Nat.le_of_ble_eq_true rfl) (Nat.le_of_ble_eq_true rfl) dX7_init_77 (fun q_77 H hW => ?_)
  have hW : Wd D A s.heap [(h0, .inr (6, [.int 0, .ref q_8, .int 0, .ref q_15, .ref q_22, .ref q_30, .ref q_38, .ref q_46, .int 0, .int 0, .ref q_53, .ref q_61, .ref q_69, .null, .null, .null, .null, .null, .null, .null, .int 0, .int 0, .int 0, .int 0, .null, .null, .null, .long 0, .long 0, .null])), (q_8, .inl (cs 1, 400, .inl (fun _ => 0))), (q_15, .inl (cs 0, 2, .inl (fun _ => 0))), (q_22, .inl (cs 0, 2, .inl (fun _ => 0))), (q_30, .inl (cs 0, 20, .inl (fun _ => 0))), (q_38, .inl (cs 0, 112, .inl (fun _ => 0))), (q_46, .inl (cs 0, 10, .inl (fun _ => 0))), (q_53, .inl (cs 0, 2, .inl (fun _ => 0))), (q_61, .inl (cs 0, 8, .inl (fun _ => 0))), (q_69, .inl (cs 0, 8, .inl (fun _ => 0))), (q_77, .inl (cs 0, 8, .inl (fun _ => 0)))] H _ := hW
  refine W.widen (k := 10) (n := 572) (by decide) (by decide) ?_
  refine va_putF (ci := 6) (v := .ref q_77) (ty := .array .int) (C := RX7) (T := TX7) (N := 30) S.1 S.2.1 S.2.2.2.2 inMo tyX7 tyX7_ok nmX7 S.2.2.2.1 hK hW.1 hW.2.1 hW.2.2 0 rfl rfl 13 (by decide) (S.2.2.2.2 _ q692) (fun _ h => h) rfl hin rfl (by decide +kernel) rfl rfl (Nat.le_of_ble_eq_true rfl) dX7_init_79 (fun H locs hP hD hS => ?_)
  have hW : Wd D A s.heap [(h0, .inr (6, [.int 0, .ref q_8, .int 0, .ref q_15, .ref q_22, .ref q_30, .ref q_38, .ref q_46, .int 0, .int 0, .ref q_53, .ref q_61, .ref q_69, .ref q_77, .null, .null, .null, .null, .null, .null, .int 0, .int 0, .int 0, .int 0, .null, .null, .null, .long 0, .long 0, .null])), (q_8, .inl (cs 1, 400, .inl (fun _ => 0))), (q_15, .inl (cs 0, 2, .inl (fun _ => 0))), (q_22, .inl (cs 0, 2, .inl (fun _ => 0))), (q_30, .inl (cs 0, 20, .inl (fun _ => 0))), (q_38, .inl (cs 0, 112, .inl (fun _ => 0))), (q_46, .inl (cs 0, 10, .inl (fun _ => 0))), (q_53, .inl (cs 0, 2, .inl (fun _ => 0))), (q_61, .inl (cs 0, 8, .inl (fun _ => 0))), (q_69, .inl (cs 0, 8, .inl (fun _ => 0))), (q_77, .inl (cs 0, 8, .inl (fun _ => 0)))] H locs := ⟨hP, hD, hS⟩
  refine lv_aload_n S.1 S.2.1 dX7_init_82 rfl (lv_at hl 0 rfl) ?_
  refine lv_bipush (v := 8) S.1 S.2.1 dX7_init_83 (by decide) ?_
  refine k_newI (N := 8) S q90 hK hA hW (by decide) (by decide) (Nat.le_of_ble_eq_true rfl) (Nat.le_of_ble_eq_true rfl) (Nat.le_of_ble_eq_true rfl) dX7_init_85 (fun q_85 H hW => ?_)
  have hW : Wd D A s.heap [(h0, .inr (6, [.int 0, .ref q_8, .int 0, .ref q_15, .ref q_22, .ref q_30, .ref q_38, .ref q_46, .int 0, .int 0, .ref q_53, .ref q_61, .ref q_69, .ref q_77, .null, .null, .null, .null, .null, .null, .int 0, .int 0, .int 0, .int 0, .null, .null, .null, .long 0, .long 0, .null])), (q_8, .inl (cs 1, 400, .inl (fun _ => 0))), (q_15, .inl (cs 0, 2, .inl (fun _ => 0))), (q_22, .inl (cs 0, 2, .inl (fun _ => 0))), (q_30, .inl (cs 0, 20, .inl (fun _ => 0))), (q_38, .inl (cs 0, 112, .inl (fun _ => 0))), (q_46, .inl (cs 0, 10, .inl (fun _ => 0))), (q_53, .inl (cs 0, 2, .inl (fun _ => 0))), (q_61, .inl (cs 0, 8, .inl (fun _ => 0))), (q_69, .inl (cs 0, 8, .inl (fun _ => 0))), (q_77, .inl (cs 0, 8, .inl (fun _ => 0))), (q_85, .inl (cs 0, 8, .inl (fun _ => 0)))] H _ := hW
  refine W.widen (k := 11) (n := 580) (by decide) (by decide) ?_
  refine va_putF (ci := 6) (v := .ref q_85) (ty := .array .int) (C := RX7) (T := TX7) (N := 30) S.1 S.2.1 S.2.2.2.2 inMo tyX7 tyX7_ok nmX7 S.2.2.2.1 hK hW.1 hW.2.1 hW.2.2 0 rfl rfl 14 (by decide) (S.2.2.2.2 _ q693) (fun _ h => h) rfl hin rfl (by decide +kernel) rfl rfl (Nat.le_of_ble_eq_true rfl) dX7_init_87 (fun H locs hP hD hS => ?_)
  have hW : Wd D A s.heap [(h0, .inr (6, [.int 0, .ref q_8, .int 0, .ref q_15, .ref q_22, .ref q_30, .ref q_38, .ref q_46, .int 0, .int 0, .ref q_53, .ref q_61, .ref q_69, .ref q_77, .ref q_85, .null, .null, .null, .null, .null, .int 0, .int 0, .int 0, .int 0, .null, .null, .null, .long 0, .long 0, .null])), (q_8, .inl (cs 1, 400, .inl (fun _ => 0))), (q_15, .inl (cs 0, 2, .inl (fun _ => 0))), (q_22, .inl (cs 0, 2, .inl (fun _ => 0))), (q_30, .inl (cs 0, 20, .inl (fun _ => 0))), (q_38, .inl (cs 0, 112, .inl (fun _ => 0))), (q_46, .inl (cs 0, 10, .inl (fun _ => 0))), (q_53, .inl (cs 0, 2, .inl (fun _ => 0))), (q_61, .inl (cs 0, 8, .inl (fun _ => 0))), (q_69, .inl (cs 0, 8, .inl (fun _ => 0))), (q_77, .inl (cs 0, 8, .inl (fun _ => 0))), (q_85, .inl (cs 0, 8, .inl (fun _ => 0)))] H locs := ⟨hP, hD, hS⟩
  refine lv_aload_n S.1 S.2.1 dX7_init_90 rfl (lv_at hl 0 rfl) ?_
  refine lv_bipush (v := 8) S.1 S.2.1 dX7_init_91 (by decide) ?_
  refine k_newI (N := 8) S q90 hK hA hW (by decide) (by decide) (Nat.le_of_ble_eq_true rfl) (Nat.le_of_ble_eq_true rfl) (Nat.le_of_ble_eq_true rfl) dX7_init_93 (fun q_93 H hW => ?_)
  have hW : Wd D A s.heap [(h0, .inr (6, [.int 0, .ref q_8, .int 0, .ref q_15, .ref q_22, .ref q_30, .ref q_38, .ref q_46, .int 0, .int 0, .ref q_53, .ref q_61, .ref q_69, .ref q_77, .ref q_85, .null, .null, .null, .null, .null, .int 0, .int 0, .int 0, .int 0, .null, .null, .null, .long 0, .long 0, .null])), (q_8, .inl (cs 1, 400, .inl (fun _ => 0))), (q_15, .inl (cs 0, 2, .inl (fun _ => 0))), (q_22, .inl (cs 0, 2, .inl (fun _ => 0))), (q_30, .inl (cs 0, 20, .inl (fun _ => 0))), (q_38, .inl (cs 0, 112, .inl (fun _ => 0))), (q_46, .inl (cs 0, 10, .inl (fun _ => 0))), (q_53, .inl (cs 0, 2, .inl (fun _ => 0))), (q_61, .inl (cs 0, 8, .inl (fun _ => 0))), (q_69, .inl (cs 0, 8, .inl (fun _ => 0))), (q_77, .inl (cs 0, 8, .inl (fun _ => 0))), (q_85, .inl (cs 0, 8, .inl (fun _ => 0))), (q_93, .inl (cs 0, 8, .inl (fun _ => 0)))] H _ := hW
  refine W.widen (k := 12) (n := 588) (by decide) (by decide) ?_
  refine va_putF (ci := 6) (v := .ref q_93) (ty := .array .int) (C := RX7) (T := TX7) (N := 30) S.1 S.2.1 S.2.2.2.2 inMo tyX7 tyX7_ok nmX7 S.2.2.2.1 hK hW.1 hW.2.1 hW.2.2 0 rfl rfl 15 (by decide) (S.2.2.2.2 _ q694) (fun _ h => h) rfl hin rfl (by decide +kernel) rfl rfl (Nat.le_of_ble_eq_true rfl) dX7_init_95 (fun H locs hP hD hS => ?_)
  have hW : Wd D A s.heap [(h0, .inr (6, [.int 0, .ref q_8, .int 0, .ref q_15, .ref q_22, .ref q_30, .ref q_38, .ref q_46, .int 0, .int 0, .ref q_53, .ref q_61, .ref q_69, .ref q_77, .ref q_85, .ref q_93, .null, .null, .null, .null, .int 0, .int 0, .int 0, .int 0, .null, .null, .null, .long 0, .long 0, .null])), (q_8, .inl (cs 1, 400, .inl (fun _ => 0))), (q_15, .inl (cs 0, 2, .inl (fun _ => 0))), (q_22, .inl (cs 0, 2, .inl (fun _ => 0))), (q_30, .inl (cs 0, 20, .inl (fun _ => 0))), (q_38, .inl (cs 0, 112, .inl (fun _ => 0))), (q_46, .inl (cs 0, 10, .inl (fun _ => 0))), (q_53, .inl (cs 0, 2, .inl (fun _ => 0))), (q_61, .inl (cs 0, 8, .inl (fun _ => 0))), (q_69, .inl (cs 0, 8, .inl (fun _ => 0))), (q_77, .inl (cs 0, 8, .inl (fun _ => 0))), (q_85, .inl (cs 0, 8, .inl (fun _ => 0))), (q_93, .inl (cs 0, 8, .inl (fun _ => 0)))] H locs := ⟨hP, hD, hS⟩
  refine lv_aload_n S.1 S.2.1 dX7_init_98 rfl (lv_at hl 0 rfl) ?_
  refine lv_bipush (v := 8) S.1 S.2.1 dX7_init_99 (by decide) ?_
  refine k_newZ (N := 8) S q770 hK hA hW (by decide) (by decide) (Nat.le_of_ble_eq_true rfl) (Nat.le_of_ble_eq_true rfl) (Nat.le_of_ble_eq_true rfl) dX7_init_101 (fun q_101 H hW => ?_)
  have hW : Wd D A s.heap [(h0, .inr (6, [.int 0, .ref q_8, .int 0, .ref q_15, .ref q_22, .ref q_30, .ref q_38, .ref q_46, .int 0, .int 0, .ref q_53, .ref q_61, .ref q_69, .ref q_77, .ref q_85, .ref q_93, .null, .null, .null, .null, .int 0, .int 0, .int 0, .int 0, .null, .null, .null, .long 0, .long 0, .null])), (q_8, .inl (cs 1, 400, .inl (fun _ => 0))), (q_15, .inl (cs 0, 2, .inl (fun _ => 0))), (q_22, .inl (cs 0, 2, .inl (fun _ => 0))), (q_30, .inl (cs 0, 20, .inl (fun _ => 0))), (q_38, .inl (cs 0, 112, .inl (fun _ => 0))), (q_46, .inl (cs 0, 10, .inl (fun _ => 0))), (q_53, .inl (cs 0, 2, .inl (fun _ => 0))), (q_61, .inl (cs 0, 8, .inl (fun _ => 0))), (q_69, .inl (cs 0, 8, .inl (fun _ => 0))), (q_77, .inl (cs 0, 8, .inl (fun _ => 0))), (q_85, .inl (cs 0, 8, .inl (fun _ => 0))), (q_93, .inl (cs 0, 8, .inl (fun _ => 0))), (q_101, .inl (cs 2, 8, .inl (fun _ => 0)))] H _ := hW
  refine W.widen (k := 13) (n := 596) (by decide) (by decide) ?_
  refine va_putF (ci := 6) (v := .ref q_101) (ty := .array .boolean) (C := RX7) (T := TX7) (N := 30) S.1 S.2.1 S.2.2.2.2 inMo tyX7 tyX7_ok nmX7 S.2.2.2.1 hK hW.1 hW.2.1 hW.2.2 0 rfl rfl 16 (by decide) (S.2.2.2.2 _ q695) (fun _ h => h) rfl hin rfl (by decide +kernel) rfl rfl (Nat.le_of_ble_eq_true rfl) dX7_init_103 (fun H locs hP hD hS => ?_)
  have hW : Wd D A s.heap [(h0, .inr (6, [.int 0, .ref q_8, .int 0, .ref q_15, .ref q_22, .ref q_30, .ref q_38, .ref q_46, .int 0, .int 0, .ref q_53, .ref q_61, .ref q_69, .ref q_77, .ref q_85, .ref q_93, .ref q_101, .null, .null, .null, .int 0, .int 0, .int 0, .int 0, .null, .null, .null, .long 0, .long 0, .null])), (q_8, .inl (cs 1, 400, .inl (fun _ => 0))), (q_15, .inl (cs 0, 2, .inl (fun _ => 0))), (q_22, .inl (cs 0, 2, .inl (fun _ => 0))), (q_30, .inl (cs 0, 20, .inl (fun _ => 0))), (q_38, .inl (cs 0, 112, .inl (fun _ => 0))), (q_46, .inl (cs 0, 10, .inl (fun _ => 0))), (q_53, .inl (cs 0, 2, .inl (fun _ => 0))), (q_61, .inl (cs 0, 8, .inl (fun _ => 0))), (q_69, .inl (cs 0, 8, .inl (fun _ => 0))), (q_77, .inl (cs 0, 8, .inl (fun _ => 0))), (q_85, .inl (cs 0, 8, .inl (fun _ => 0))), (q_93, .inl (cs 0, 8, .inl (fun _ => 0))), (q_101, .inl (cs 2, 8, .inl (fun _ => 0)))] H locs := ⟨hP, hD, hS⟩
  refine lv_aload_n S.1 S.2.1 dX7_init_106 rfl (lv_at hl 0 rfl) ?_
  refine lv_bipush (v := 8) S.1 S.2.1 dX7_init_107 (by decide) ?_
  refine k_newI (N := 8) S q90 hK hA hW (by decide) (by decide) (Nat.le_of_ble_eq_true rfl) (Nat.le_of_ble_eq_true rfl) (Nat.le_of_ble_eq_true rfl) dX7_init_109 (fun q_109 H hW => ?_)
  have hW : Wd D A s.heap [(h0, .inr (6, [.int 0, .ref q_8, .int 0, .ref q_15, .ref q_22, .ref q_30, .ref q_38, .ref q_46, .int 0, .int 0, .ref q_53, .ref q_61, .ref q_69, .ref q_77, .ref q_85, .ref q_93, .ref q_101, .null, .null, .null, .int 0, .int 0, .int 0, .int 0, .null, .null, .null, .long 0, .long 0, .null])), (q_8, .inl (cs 1, 400, .inl (fun _ => 0))), (q_15, .inl (cs 0, 2, .inl (fun _ => 0))), (q_22, .inl (cs 0, 2, .inl (fun _ => 0))), (q_30, .inl (cs 0, 20, .inl (fun _ => 0))), (q_38, .inl (cs 0, 112, .inl (fun _ => 0))), (q_46, .inl (cs 0, 10, .inl (fun _ => 0))), (q_53, .inl (cs 0, 2, .inl (fun _ => 0))), (q_61, .inl (cs 0, 8, .inl (fun _ => 0))), (q_69, .inl (cs 0, 8, .inl (fun _ => 0))), (q_77, .inl (cs 0, 8, .inl (fun _ => 0))), (q_85, .inl (cs 0, 8, .inl (fun _ => 0))), (q_93, .inl (cs 0, 8, .inl (fun _ => 0))), (q_101, .inl (cs 2, 8, .inl (fun _ => 0))), (q_109, .inl (cs 0, 8, .inl (fun _ => 0)))] H _ := hW
  refine W.widen (k := 14) (n := 604) (by decide) (by decide) ?_
  refine va_putF (ci := 6) (v := .ref q_109) (ty := .array .int) (C := RX7) (T := TX7) (N := 30) S.1 S.2.1 S.2.2.2.2 inMo tyX7 tyX7_ok nmX7 S.2.2.2.1 hK hW.1 hW.2.1 hW.2.2 0 rfl rfl 17 (by decide) (S.2.2.2.2 _ q696) (fun _ h => h) rfl hin rfl (by decide +kernel) rfl rfl (Nat.le_of_ble_eq_true rfl) dX7_init_111 (fun H locs hP hD hS => ?_)
  have hW : Wd D A s.heap [(h0, .inr (6, [.int 0, .ref q_8, .int 0, .ref q_15, .ref q_22, .ref q_30, .ref q_38, .ref q_46, .int 0, .int 0, .ref q_53, .ref q_61, .ref q_69, .ref q_77, .ref q_85, .ref q_93, .ref q_101, .ref q_109, .null, .null, .int 0, .int 0, .int 0, .int 0, .null, .null, .null, .long 0, .long 0, .null])), (q_8, .inl (cs 1, 400, .inl (fun _ => 0))), (q_15, .inl (cs 0, 2, .inl (fun _ => 0))), (q_22, .inl (cs 0, 2, .inl (fun _ => 0))), (q_30, .inl (cs 0, 20, .inl (fun _ => 0))), (q_38, .inl (cs 0, 112, .inl (fun _ => 0))), (q_46, .inl (cs 0, 10, .inl (fun _ => 0))), (q_53, .inl (cs 0, 2, .inl (fun _ => 0))), (q_61, .inl (cs 0, 8, .inl (fun _ => 0))), (q_69, .inl (cs 0, 8, .inl (fun _ => 0))), (q_77, .inl (cs 0, 8, .inl (fun _ => 0))), (q_85, .inl (cs 0, 8, .inl (fun _ => 0))), (q_93, .inl (cs 0, 8, .inl (fun _ => 0))), (q_101, .inl (cs 2, 8, .inl (fun _ => 0))), (q_109, .inl (cs 0, 8, .inl (fun _ => 0)))] H locs := ⟨hP, hD, hS⟩
  refine lv_aload_n S.1 S.2.1 dX7_init_114 rfl (lv_at hl 0 rfl) ?_
  refine lv_bipush (v := 10) S.1 S.2.1 dX7_init_115 (by decide) ?_
  refine k_newI (N := 10) S q90 hK hA hW (by decide) (by decide) (Nat.le_of_ble_eq_true rfl) (Nat.le_of_ble_eq_true rfl) (Nat.le_of_ble_eq_true rfl) dX7_init_117 (fun q_117 H hW => ?_)
  have hW : Wd D A s.heap [(h0, .inr (6, [.int 0, .ref q_8, .int 0, .ref q_15, .ref q_22, .ref q_30, .ref q_38, .ref q_46, .int 0, .int 0, .ref q_53, .ref q_61, .ref q_69, .ref q_77, .ref q_85, .ref q_93, .ref q_101, .ref q_109, .null, .null, .int 0, .int 0, .int 0, .int 0, .null, .null, .null, .long 0, .long 0, .null])), (q_8, .inl (cs 1, 400, .inl (fun _ => 0))), (q_15, .inl (cs 0, 2, .inl (fun _ => 0))), (q_22, .inl (cs 0, 2, .inl (fun _ => 0))), (q_30, .inl (cs 0, 20, .inl (fun _ => 0))), (q_38, .inl (cs 0, 112, .inl (fun _ => 0))), (q_46, .inl (cs 0, 10, .inl (fun _ => 0))), (q_53, .inl (cs 0, 2, .inl (fun _ => 0))), (q_61, .inl (cs 0, 8, .inl (fun _ => 0))), (q_69, .inl (cs 0, 8, .inl (fun _ => 0))), (q_77, .inl (cs 0, 8, .inl (fun _ => 0))), (q_85, .inl (cs 0, 8, .inl (fun _ => 0))), (q_93, .inl (cs 0, 8, .inl (fun _ => 0))), (q_101, .inl (cs 2, 8, .inl (fun _ => 0))), (q_109, .inl (cs 0, 8, .inl (fun _ => 0))), (q_117, .inl (cs 0, 10, .inl (fun _ => 0)))] H _ := hW
  refine W.widen (k := 15) (n := 614) (by decide) (by decide) ?_
  refine va_putF (ci := 6) (v := .ref q_117) (ty := .array .int) (C := RX7) (T := TX7) (N := 30) S.1 S.2.1 S.2.2.2.2 inMo tyX7 tyX7_ok nmX7 S.2.2.2.1 hK hW.1 hW.2.1 hW.2.2 0 rfl rfl 18 (by decide) (S.2.2.2.2 _ q697) (fun _ h => h) rfl hin rfl (by decide +kernel) rfl rfl (Nat.le_of_ble_eq_true rfl) dX7_init_119 (fun H locs hP hD hS => ?_)
  have hW : Wd D A s.heap [(h0, .inr (6, [.int 0, .ref q_8, .int 0, .ref q_15, .ref q_22, .ref q_30, .ref q_38, .ref q_46, .int 0, .int 0, .ref q_53, .ref q_61, .ref q_69, .ref q_77, .ref q_85, .ref q_93, .ref q_101, .ref q_109, .ref q_117, .null, .int 0, .int 0, .int 0, .int 0, .null, .null, .null, .long 0, .long 0, .null])), (q_8, .inl (cs 1, 400, .inl (fun _ => 0))), (q_15, .inl (cs 0, 2, .inl (fun _ => 0))), (q_22, .inl (cs 0, 2, .inl (fun _ => 0))), (q_30, .inl (cs 0, 20, .inl (fun _ => 0))), (q_38, .inl (cs 0, 112, .inl (fun _ => 0))), (q_46, .inl (cs 0, 10, .inl (fun _ => 0))), (q_53, .inl (cs 0, 2, .inl (fun _ => 0))), (q_61, .inl (cs 0, 8, .inl (fun _ => 0))), (q_69, .inl (cs 0, 8, .inl (fun _ => 0))), (q_77, .inl (cs 0, 8, .inl (fun _ => 0))), (q_85, .inl (cs 0, 8, .inl (fun _ => 0))), (q_93, .inl (cs 0, 8, .inl (fun _ => 0))), (q_101, .inl (cs 2, 8, .inl (fun _ => 0))), (q_109, .inl (cs 0, 8, .inl (fun _ => 0))), (q_117, .inl (cs 0, 10, .inl (fun _ => 0)))] H locs := ⟨hP, hD, hS⟩
  refine lv_aload_n S.1 S.2.1 dX7_init_122 rfl (lv_at hl 0 rfl) ?_
  refine lv_bipush (v := 10) S.1 S.2.1 dX7_init_123 (by decide) ?_
  refine k_newI (N := 10) S q90 hK hA hW (by decide) (by decide) (Nat.le_of_ble_eq_true rfl) (Nat.le_of_ble_eq_true rfl) (Nat.le_of_ble_eq_true rfl) dX7_init_125 (fun q_125 H hW => ?_)
  have hW : Wd D A s.heap [(h0, .inr (6, [.int 0, .ref q_8, .int 0, .ref q_15, .ref q_22, .ref q_30, .ref q_38, .ref q_46, .int 0, .int 0, .ref q_53, .ref q_61, .ref q_69, .ref q_77, .ref q_85, .ref q_93, .ref q_101, .ref q_109, .ref q_117, .null, .int 0, .int 0, .int 0, .int 0, .null, .null, .null, .long 0, .long 0, .null])), (q_8, .inl (cs 1, 400, .inl (fun _ => 0))), (q_15, .inl (cs 0, 2, .inl (fun _ => 0))), (q_22, .inl (cs 0, 2, .inl (fun _ => 0))), (q_30, .inl (cs 0, 20, .inl (fun _ => 0))), (q_38, .inl (cs 0, 112, .inl (fun _ => 0))), (q_46, .inl (cs 0, 10, .inl (fun _ => 0))), (q_53, .inl (cs 0, 2, .inl (fun _ => 0))), (q_61, .inl (cs 0, 8, .inl (fun _ => 0))), (q_69, .inl (cs 0, 8, .inl (fun _ => 0))), (q_77, .inl (cs 0, 8, .inl (fun _ => 0))), (q_85, .inl (cs 0, 8, .inl (fun _ => 0))), (q_93, .inl (cs 0, 8, .inl (fun _ => 0))), (q_101, .inl (cs 2, 8, .inl (fun _ => 0))), (q_109, .inl (cs 0, 8, .inl (fun _ => 0))), (q_117, .inl (cs 0, 10, .inl (fun _ => 0))), (q_125, .inl (cs 0, 10, .inl (fun _ => 0)))] H _ := hW
  refine W.widen (k := 16) (n := 624) (by decide) (by decide) ?_
  refine va_putF (ci := 6) (v := .ref q_125) (ty := .array .int) (C := RX7) (T := TX7) (N := 30) S.1 S.2.1 S.2.2.2.2 inMo tyX7 tyX7_ok nmX7 S.2.2.2.1 hK hW.1 hW.2.1 hW.2.2 0 rfl rfl 19 (by decide) (S.2.2.2.2 _ q698) (fun _ h => h) rfl hin rfl (by decide +kernel) rfl rfl (Nat.le_of_ble_eq_true rfl) dX7_init_127 (fun H locs hP hD hS => ?_)
  have hW : Wd D A s.heap [(h0, .inr (6, [.int 0, .ref q_8, .int 0, .ref q_15, .ref q_22, .ref q_30, .ref q_38, .ref q_46, .int 0, .int 0, .ref q_53, .ref q_61, .ref q_69, .ref q_77, .ref q_85, .ref q_93, .ref q_101, .ref q_109, .ref q_117, .ref q_125, .int 0, .int 0, .int 0, .int 0, .null, .null, .null, .long 0, .long 0, .null])), (q_8, .inl (cs 1, 400, .inl (fun _ => 0))), (q_15, .inl (cs 0, 2, .inl (fun _ => 0))), (q_22, .inl (cs 0, 2, .inl (fun _ => 0))), (q_30, .inl (cs 0, 20, .inl (fun _ => 0))), (q_38, .inl (cs 0, 112, .inl (fun _ => 0))), (q_46, .inl (cs 0, 10, .inl (fun _ => 0))), (q_53, .inl (cs 0, 2, .inl (fun _ => 0))), (q_61, .inl (cs 0, 8, .inl (fun _ => 0))), (q_69, .inl (cs 0, 8, .inl (fun _ => 0))), (q_77, .inl (cs 0, 8, .inl (fun _ => 0))), (q_85, .inl (cs 0, 8, .inl (fun _ => 0))), (q_93, .inl (cs 0, 8, .inl (fun _ => 0))), (q_101, .inl (cs 2, 8, .inl (fun _ => 0))), (q_109, .inl (cs 0, 8, .inl (fun _ => 0))), (q_117, .inl (cs 0, 10, .inl (fun _ => 0))), (q_125, .inl (cs 0, 10, .inl (fun _ => 0)))] H locs := ⟨hP, hD, hS⟩
  refine lv_aload_n S.1 S.2.1 dX7_init_130 rfl (lv_at hl 0 rfl) ?_
  refine lv_sipush (v := 400) S.1 S.2.1 dX7_init_131 (by decide) ?_
  refine k_newI (N := 400) S q90 hK hA hW (by decide) (by decide) (Nat.le_of_ble_eq_true rfl) (Nat.le_of_ble_eq_true rfl) (Nat.le_of_ble_eq_true rfl) dX7_init_134 (fun q_134 H hW => ?_)
  have hW : Wd D A s.heap [(h0, .inr (6, [.int 0, .ref q_8, .int 0, .ref q_15, .ref q_22, .ref q_30, .ref q_38, .ref q_46, .int 0, .int 0, .ref q_53, .ref q_61, .ref q_69, .ref q_77, .ref q_85, .ref q_93, .ref q_101, .ref q_109, .ref q_117, .ref q_125, .int 0, .int 0, .int 0, .int 0, .null, .null, .null, .long 0, .long 0, .null])), (q_8, .inl (cs 1, 400, .inl (fun _ => 0))), (q_15, .inl (cs 0, 2, .inl (fun _ => 0))), (q_22, .inl (cs 0, 2, .inl (fun _ => 0))), (q_30, .inl (cs 0, 20, .inl (fun _ => 0))), (q_38, .inl (cs 0, 112, .inl (fun _ => 0))), (q_46, .inl (cs 0, 10, .inl (fun _ => 0))), (q_53, .inl (cs 0, 2, .inl (fun _ => 0))), (q_61, .inl (cs 0, 8, .inl (fun _ => 0))), (q_69, .inl (cs 0, 8, .inl (fun _ => 0))), (q_77, .inl (cs 0, 8, .inl (fun _ => 0))), (q_85, .inl (cs 0, 8, .inl (fun _ => 0))), (q_93, .inl (cs 0, 8, .inl (fun _ => 0))), (q_101, .inl (cs 2, 8, .inl (fun _ => 0))), (q_109, .inl (cs 0, 8, .inl (fun _ => 0))), (q_117, .inl (cs 0, 10, .inl (fun _ => 0))), (q_125, .inl (cs 0, 10, .inl (fun _ => 0))), (q_134, .inl (cs 0, 400, .inl (fun _ => 0)))] H _ := hW
  refine W.widen (k := 17) (n := 1024) (by decide) (by decide) ?_
  refine va_putF (ci := 6) (v := .ref q_134) (ty := .array .int) (C := RX7) (T := TX7) (N := 30) S.1 S.2.1 S.2.2.2.2 inMo tyX7 tyX7_ok nmX7 S.2.2.2.1 hK hW.1 hW.2.1 hW.2.2 0 rfl rfl 24 (by decide) (S.2.2.2.2 _ q703) (fun _ h => h) rfl hin rfl (by decide +kernel) rfl rfl (Nat.le_of_ble_eq_true rfl) dX7_init_136 (fun H locs hP hD hS => ?_)
  have hW : Wd D A s.heap [(h0, .inr (6, [.int 0, .ref q_8, .int 0, .ref q_15, .ref q_22, .ref q_30, .ref q_38, .ref q_46, .int 0, .int 0, .ref q_53, .ref q_61, .ref q_69, .ref q_77, .ref q_85, .ref q_93, .ref q_101, .ref q_109, .ref q_117, .ref q_125, .int 0, .int 0, .int 0, .int 0, .ref q_134, .null, .null, .long 0, .long 0, .null])), (q_8, .inl (cs 1, 400, .inl (fun _ => 0))), (q_15, .inl (cs 0, 2, .inl (fun _ => 0))), (q_22, .inl (cs 0, 2, .inl (fun _ => 0))), (q_30, .inl (cs 0, 20, .inl (fun _ => 0))), (q_38, .inl (cs 0, 112, .inl (fun _ => 0))), (q_46, .inl (cs 0, 10, .inl (fun _ => 0))), (q_53, .inl (cs 0, 2, .inl (fun _ => 0))), (q_61, .inl (cs 0, 8, .inl (fun _ => 0))), (q_69, .inl (cs 0, 8, .inl (fun _ => 0))), (q_77, .inl (cs 0, 8, .inl (fun _ => 0))), (q_85, .inl (cs 0, 8, .inl (fun _ => 0))), (q_93, .inl (cs 0, 8, .inl (fun _ => 0))), (q_101, .inl (cs 2, 8, .inl (fun _ => 0))), (q_109, .inl (cs 0, 8, .inl (fun _ => 0))), (q_117, .inl (cs 0, 10, .inl (fun _ => 0))), (q_125, .inl (cs 0, 10, .inl (fun _ => 0))), (q_134, .inl (cs 0, 400, .inl (fun _ => 0)))] H locs := ⟨hP, hD, hS⟩
  refine lv_aload_n S.1 S.2.1 dX7_init_139 rfl (lv_at hl 0 rfl) ?_
  refine lv_sipush (v := 2048) S.1 S.2.1 dX7_init_140 (by decide) ?_
  refine k_newI (N := 2048) S q90 hK hA hW (by decide) (by decide) (Nat.le_of_ble_eq_true rfl) (Nat.le_of_ble_eq_true rfl) (Nat.le_of_ble_eq_true rfl) dX7_init_143 (fun q_143 H hW => ?_)
  have hW : Wd D A s.heap [(h0, .inr (6, [.int 0, .ref q_8, .int 0, .ref q_15, .ref q_22, .ref q_30, .ref q_38, .ref q_46, .int 0, .int 0, .ref q_53, .ref q_61, .ref q_69, .ref q_77, .ref q_85, .ref q_93, .ref q_101, .ref q_109, .ref q_117, .ref q_125, .int 0, .int 0, .int 0, .int 0, .ref q_134, .null, .null, .long 0, .long 0, .null])), (q_8, .inl (cs 1, 400, .inl (fun _ => 0))), (q_15, .inl (cs 0, 2, .inl (fun _ => 0))), (q_22, .inl (cs 0, 2, .inl (fun _ => 0))), (q_30, .inl (cs 0, 20, .inl (fun _ => 0))), (q_38, .inl (cs 0, 112, .inl (fun _ => 0))), (q_46, .inl (cs 0, 10, .inl (fun _ => 0))), (q_53, .inl (cs 0, 2, .inl (fun _ => 0))), (q_61, .inl (cs 0, 8, .inl (fun _ => 0))), (q_69, .inl (cs 0, 8, .inl (fun _ => 0))), (q_77, .inl (cs 0, 8, .inl (fun _ => 0))), (q_85, .inl (cs 0, 8, .inl (fun _ => 0))), (q_93, .inl (cs 0, 8, .inl (fun _ => 0))), (q_101, .inl (cs 2, 8, .inl (fun _ => 0))), (q_109, .inl (cs 0, 8, .inl (fun _ => 0))), (q_117, .inl (cs 0, 10, .inl (fun _ => 0))), (q_125, .inl (cs 0, 10, .inl (fun _ => 0))), (q_134, .inl (cs 0, 400, .inl (fun _ => 0))), (q_143, .inl (cs 0, 2048, .inl (fun _ => 0)))] H _ := hW
  refine W.widen (k := 18) (n := 3072) (by decide) (by decide) ?_
  refine va_putF (ci := 6) (v := .ref q_143) (ty := .array .int) (C := RX7) (T := TX7) (N := 30) S.1 S.2.1 S.2.2.2.2 inMo tyX7 tyX7_ok nmX7 S.2.2.2.1 hK hW.1 hW.2.1 hW.2.2 0 rfl rfl 25 (by decide) (S.2.2.2.2 _ q704) (fun _ h => h) rfl hin rfl (by decide +kernel) rfl rfl (Nat.le_of_ble_eq_true rfl) dX7_init_145 (fun H locs hP hD hS => ?_)
  have hW : Wd D A s.heap [(h0, .inr (6, [.int 0, .ref q_8, .int 0, .ref q_15, .ref q_22, .ref q_30, .ref q_38, .ref q_46, .int 0, .int 0, .ref q_53, .ref q_61, .ref q_69, .ref q_77, .ref q_85, .ref q_93, .ref q_101, .ref q_109, .ref q_117, .ref q_125, .int 0, .int 0, .int 0, .int 0, .ref q_134, .ref q_143, .null, .long 0, .long 0, .null])), (q_8, .inl (cs 1, 400, .inl (fun _ => 0))), (q_15, .inl (cs 0, 2, .inl (fun _ => 0))), (q_22, .inl (cs 0, 2, .inl (fun _ => 0))), (q_30, .inl (cs 0, 20, .inl (fun _ => 0))), (q_38, .inl (cs 0, 112, .inl (fun _ => 0))), (q_46, .inl (cs 0, 10, .inl (fun _ => 0))), (q_53, .inl (cs 0, 2, .inl (fun _ => 0))), (q_61, .inl (cs 0, 8, .inl (fun _ => 0))), (q_69, .inl (cs 0, 8, .inl (fun _ => 0))), (q_77, .inl (cs 0, 8, .inl (fun _ => 0))), (q_85, .inl (cs 0, 8, .inl (fun _ => 0))), (q_93, .inl (cs 0, 8, .inl (fun _ => 0))), (q_101, .inl (cs 2, 8, .inl (fun _ => 0))), (q_109, .inl (cs 0, 8, .inl (fun _ => 0))), (q_117, .inl (cs 0, 10, .inl (fun _ => 0))), (q_125, .inl (cs 0, 10, .inl (fun _ => 0))), (q_134, .inl (cs 0, 400, .inl (fun _ => 0))), (q_143, .inl (cs 0, 2048, .inl (fun _ => 0)))] H locs := ⟨hP, hD, hS⟩
  refine lv_aload_n S.1 S.2.1 dX7_init_148 rfl (lv_at hl 0 rfl) ?_
  refine lv_bipush (v := 15) S.1 S.2.1 dX7_init_149 (by decide) ?_
  refine k_newI (N := 15) S q90 hK hA hW (by decide) (by decide) (Nat.le_of_ble_eq_true rfl) (Nat.le_of_ble_eq_true rfl) (Nat.le_of_ble_eq_true rfl) dX7_init_151 (fun q_151 H hW => ?_)
  have hW : Wd D A s.heap [(h0, .inr (6, [.int 0, .ref q_8, .int 0, .ref q_15, .ref q_22, .ref q_30, .ref q_38, .ref q_46, .int 0, .int 0, .ref q_53, .ref q_61, .ref q_69, .ref q_77, .ref q_85, .ref q_93, .ref q_101, .ref q_109, .ref q_117, .ref q_125, .int 0, .int 0, .int 0, .int 0, .ref q_134, .ref q_143, .null, .long 0, .long 0, .null])), (q_8, .inl (cs 1, 400, .inl (fun _ => 0))), (q_15, .inl (cs 0, 2, .inl (fun _ => 0))), (q_22, .inl (cs 0, 2, .inl (fun _ => 0))), (q_30, .inl (cs 0, 20, .inl (fun _ => 0))), (q_38, .inl (cs 0, 112, .inl (fun _ => 0))), (q_46, .inl (cs 0, 10, .inl (fun _ => 0))), (q_53, .inl (cs 0, 2, .inl (fun _ => 0))), (q_61, .inl (cs 0, 8, .inl (fun _ => 0))), (q_69, .inl (cs 0, 8, .inl (fun _ => 0))), (q_77, .inl (cs 0, 8, .inl (fun _ => 0))), (q_85, .inl (cs 0, 8, .inl (fun _ => 0))), (q_93, .inl (cs 0, 8, .inl (fun _ => 0))), (q_101, .inl (cs 2, 8, .inl (fun _ => 0))), (q_109, .inl (cs 0, 8, .inl (fun _ => 0))), (q_117, .inl (cs 0, 10, .inl (fun _ => 0))), (q_125, .inl (cs 0, 10, .inl (fun _ => 0))), (q_134, .inl (cs 0, 400, .inl (fun _ => 0))), (q_143, .inl (cs 0, 2048, .inl (fun _ => 0))), (q_151, .inl (cs 0, 15, .inl (fun _ => 0)))] H _ := hW
  refine W.widen (k := 19) (n := 3087) (by decide) (by decide) ?_
  refine va_putF (ci := 6) (v := .ref q_151) (ty := .array .int) (C := RX7) (T := TX7) (N := 30) S.1 S.2.1 S.2.2.2.2 inMo tyX7 tyX7_ok nmX7 S.2.2.2.1 hK hW.1 hW.2.1 hW.2.2 0 rfl rfl 26 (by decide) (S.2.2.2.2 _ q705) (fun _ h => h) rfl hin rfl (by decide +kernel) rfl rfl (Nat.le_of_ble_eq_true rfl) dX7_init_153 (fun H locs hP hD hS => ?_)
  have hW : Wd D A s.heap [(h0, .inr (6, [.int 0, .ref q_8, .int 0, .ref q_15, .ref q_22, .ref q_30, .ref q_38, .ref q_46, .int 0, .int 0, .ref q_53, .ref q_61, .ref q_69, .ref q_77, .ref q_85, .ref q_93, .ref q_101, .ref q_109, .ref q_117, .ref q_125, .int 0, .int 0, .int 0, .int 0, .ref q_134, .ref q_143, .ref q_151, .long 0, .long 0, .null])), (q_8, .inl (cs 1, 400, .inl (fun _ => 0))), (q_15, .inl (cs 0, 2, .inl (fun _ => 0))), (q_22, .inl (cs 0, 2, .inl (fun _ => 0))), (q_30, .inl (cs 0, 20, .inl (fun _ => 0))), (q_38, .inl (cs 0, 112, .inl (fun _ => 0))), (q_46, .inl (cs 0, 10, .inl (fun _ => 0))), (q_53, .inl (cs 0, 2, .inl (fun _ => 0))), (q_61, .inl (cs 0, 8, .inl (fun _ => 0))), (q_69, .inl (cs 0, 8, .inl (fun _ => 0))), (q_77, .inl (cs 0, 8, .inl (fun _ => 0))), (q_85, .inl (cs 0, 8, .inl (fun _ => 0))), (q_93, .inl (cs 0, 8, .inl (fun _ => 0))), (q_101, .inl (cs 2, 8, .inl (fun _ => 0))), (q_109, .inl (cs 0, 8, .inl (fun _ => 0))), (q_117, .inl (cs 0, 10, .inl (fun _ => 0))), (q_125, .inl (cs 0, 10, .inl (fun _ => 0))), (q_134, .inl (cs 0, 400, .inl (fun _ => 0))), (q_143, .inl (cs 0, 2048, .inl (fun _ => 0))), (q_151, .inl (cs 0, 15, .inl (fun _ => 0)))] H locs := ⟨hP, hD, hS⟩
  refine lv_aload_n S.1 S.2.1 dX7_init_156 rfl (lv_at hl 0 rfl) ?_
  refine lv_bipush (v := 7) S.1 S.2.1 dX7_init_157 (by decide) ?_
  refine k_newI (N := 7) S q90 hK hA hW (by decide) (by decide) (Nat.le_of_ble_eq_true rfl) (Nat.le_of_ble_eq_true rfl) (Nat.le_of_ble_eq_true rfl) dX7_init_159 (fun q_159 H hW => ?_)
  have hW : Wd D A s.heap [(h0, .inr (6, [.int 0, .ref q_8, .int 0, .ref q_15, .ref q_22, .ref q_30, .ref q_38, .ref q_46, .int 0, .int 0, .ref q_53, .ref q_61, .ref q_69, .ref q_77, .ref q_85, .ref q_93, .ref q_101, .ref q_109, .ref q_117, .ref q_125, .int 0, .int 0, .int 0, .int 0, .ref q_134, .ref q_143, .ref q_151, .long 0, .long 0, .null])), (q_8, .inl (cs 1, 400, .inl (fun _ => 0))), (q_15, .inl (cs 0, 2, .inl (fun _ => 0))), (q_22, .inl (cs 0, 2, .inl (fun _ => 0))), (q_30, .inl (cs 0, 20, .inl (fun _ => 0))), (q_38, .inl (cs 0, 112, .inl (fun _ => 0))), (q_46, .inl (cs 0, 10, .inl (fun _ => 0))), (q_53, .inl (cs 0, 2, .inl (fun _ => 0))), (q_61, .inl (cs 0, 8, .inl (fun _ => 0))), (q_69, .inl (cs 0, 8, .inl (fun _ => 0))), (q_77, .inl (cs 0, 8, .inl (fun _ => 0))), (q_85, .inl (cs 0, 8, .inl (fun _ => 0))), (q_93, .inl (cs 0, 8, .inl (fun _ => 0))), (q_101, .inl (cs 2, 8, .inl (fun _ => 0))), (q_109, .inl (cs 0, 8, .inl (fun _ => 0))), (q_117, .inl (cs 0, 10, .inl (fun _ => 0))), (q_125, .inl (cs 0, 10, .inl (fun _ => 0))), (q_134, .inl (cs 0, 400, .inl (fun _ => 0))), (q_143, .inl (cs 0, 2048, .inl (fun _ => 0))), (q_151, .inl (cs 0, 15, .inl (fun _ => 0))), (q_159, .inl (cs 0, 7, .inl (fun _ => 0)))] H _ := hW
  refine W.widen (k := 20) (n := 3094) (by decide) (by decide) ?_
  refine va_putF (ci := 6) (v := .ref q_159) (ty := .array .int) (C := RX7) (T := TX7) (N := 30) S.1 S.2.1 S.2.2.2.2 inMo tyX7 tyX7_ok nmX7 S.2.2.2.1 hK hW.1 hW.2.1 hW.2.2 0 rfl rfl 29 (by decide) (S.2.2.2.2 _ q708) (fun _ h => h) rfl hin rfl (by decide +kernel) rfl rfl (Nat.le_of_ble_eq_true rfl) dX7_init_161 (fun H locs hP hD hS => ?_)
  have hW : Wd D A s.heap [(h0, .inr (6, [.int 0, .ref q_8, .int 0, .ref q_15, .ref q_22, .ref q_30, .ref q_38, .ref q_46, .int 0, .int 0, .ref q_53, .ref q_61, .ref q_69, .ref q_77, .ref q_85, .ref q_93, .ref q_101, .ref q_109, .ref q_117, .ref q_125, .int 0, .int 0, .int 0, .int 0, .ref q_134, .ref q_143, .ref q_151, .long 0, .long 0, .ref q_159])), (q_8, .inl (cs 1, 400, .inl (fun _ => 0))), (q_15, .inl (cs 0, 2, .inl (fun _ => 0))), (q_22, .inl (cs 0, 2, .inl (fun _ => 0))), (q_30, .inl (cs 0, 20, .inl (fun _ => 0))), (q_38, .inl (cs 0, 112, .inl (fun _ => 0))), (q_46, .inl (cs 0, 10, .inl (fun _ => 0))), (q_53, .inl (cs 0, 2, .inl (fun _ => 0))), (q_61, .inl (cs 0, 8, .inl (fun _ => 0))), (q_69, .inl (cs 0, 8, .inl (fun _ => 0))), (q_77, .inl (cs 0, 8, .inl (fun _ => 0))), (q_85, .inl (cs 0, 8, .inl (fun _ => 0))), (q_93, .inl (cs 0, 8, .inl (fun _ => 0))), (q_101, .inl (cs 2, 8, .inl (fun _ => 0))), (q_109, .inl (cs 0, 8, .inl (fun _ => 0))), (q_117, .inl (cs 0, 10, .inl (fun _ => 0))), (q_125, .inl (cs 0, 10, .inl (fun _ => 0))), (q_134, .inl (cs 0, 400, .inl (fun _ => 0))), (q_143, .inl (cs 0, 2048, .inl (fun _ => 0))), (q_151, .inl (cs 0, 15, .inl (fun _ => 0))), (q_159, .inl (cs 0, 7, .inl (fun _ => 0)))] H locs := ⟨hP, hD, hS⟩
  exact wMo_initS (N := N) (a := (fun k => ([h0, h0, q_8, h0, q_15, q_22, q_30, q_38, q_46, h0, h0, q_53, q_61, q_69, q_77, q_85, q_93, q_101, q_109, q_117, q_125, h0, h0, h0, h0, q_134, q_143, q_151, h0, h0, q_159] : List Nat).getD k 0)) S hK hA (hQ (fun k => ([h0, h0, q_8, h0, q_15, q_22, q_30, q_38, q_46, h0, h0, q_53, q_61, q_69, q_77, q_85, q_93, q_101, q_109, q_117, q_125, h0, h0, h0, h0, q_134, q_143, q_151, h0, h0, q_159] : List Nat).getD k 0) rfl) z0 _ _ _ h hW hl
