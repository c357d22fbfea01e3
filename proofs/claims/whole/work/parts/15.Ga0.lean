set_option maxHeartbeats 4000000 in
set_option maxRecDepth 100000 in
theorem wGa_playBy_70 {p : Program} {l : Launch} {e : Env} {s : State} {m : MethodId} {args : Array Value} {below : List Frame} {meth : Method} {c : Code} {A : Nat → Prop} {Q : State → Prop} {D : va_G} {cs : Nat → ClassId} {a aD aR : Nat → Nat} {δ : St} {ρ : St} {dr : Nat} {γ' : St} {Γ' : Nat → Int64} {N : Nat} (S : Fx p m c cX1_playBy 3 s args RX1) (hK : va_K D vwCl (tyL cs) s) (hA : ∀ x, s.heap.size ≤ x → A x) (hQ : ∀ (H : Heap) (locs : List Loc) (pc : Nat) (ls : Array Slot), decode cX1_playBy pc = .ok (.return_, 1) → Wd D A s.heap (wGa cs a (aD 0) (aR 0) γ' Γ' ++ (wDa cs aD dr δ ++ (wRo cs aR ρ))) H locs → W p l e { frames := 2, cells := 0, slots := 0, locals := 44 } s m args below meth c H locs 0 0 Q (F0 m pc ls [])) {k_31 : Int32 → Int32 → St → (Nat → Int64) → Option (St × (Nat → Int64))} (hk_31 : ∀ (v1 : Int32) (v2 : Int32) (γ : St) (Γ : Nat → Int64) (H : Heap) (locs : List Loc) (ls : Array Slot), k_31 v1 v2 γ Γ = some (γ', Γ') → Wd D A s.heap (wGa cs a (aD 0) (aR 0) γ Γ ++ (wDa cs aD dr δ ++ (wRo cs aR ρ))) H locs → lv_has ls 3 [(0, .ref (a 0)), (1, .int v1), (2, .int v2)] → W p l e { frames := 2, cells := 0, slots := 0, locals := 44 } s m args below meth c H locs 0 0 Q (F0 m 31 ls [])) : ∀ (v1 : Int32) (v2 : Int32) (γ : St) (Γ : Nat → Int64) (H : Heap) (locs : List Loc) (ls : Array Slot), fGa_playBy_70 k_31 N ρ v1 v2 γ Γ = some (γ', Γ') → Wd D A s.heap (wGa cs a (aD 0) (aR 0) γ Γ ++ (wDa cs aD dr δ ++ (wRo cs aR ρ))) H locs → lv_has ls 3 [(0, .ref (a 0)), (1, .int v1), (2, .int v2)] → W p l e { frames := 2, cells := 0, slots := 0, locals := 44 } s m args below meth c H locs 0 0 Q (F0 m 70 ls []) := by
  intro v1 v2 γ Γ H locs ls h hW hl
  unfold fGa_playBy_70 at h
  obtain ⟨x2_1, ex2_1, h⟩ := nm_some h
  refine lv_iinc (v := x2_1) (lv' := [(2, .int x2_1), (0, .ref (a 0)), (1, .int v1)]) S.1 S.2.1 dX1_playBy_70 hl (k := 2) rfl (by rw [ex2_1]; rfl) (by decide) rfl (fun ls hl => ?_)
  refine lv_goto (tgt := 31) S.1 S.2.1 dX1_playBy_73 (by decide) ?_
  exact hk_31 v1 x2_1 γ Γ _ _ _ h hW (lv_sub hl [1, 2, 0] rfl)
set_option maxHeartbeats 4000000 in
set_option maxRecDepth 100000 in
theorem wGa_playBy_31 {p : Program} {l : Launch} {e : Env} {s : State} {m : MethodId} {args : Array Value} {below : List Frame} {meth : Method} {c : Code} {A : Nat → Prop} {Q : State → Prop} {D : va_G} {cs : Nat → ClassId} {a aD aR : Nat → Nat} {δ : St} {ρ : St} {dr : Nat} {γ' : St} {Γ' : Nat → Int64} {N : Nat} (S : Fx p m c cX1_playBy 3 s args RX1) (hK : va_K D vwCl (tyL cs) s) (hA : ∀ x, s.heap.size ≤ x → A x) (hQ : ∀ (H : Heap) (locs : List Loc) (pc : Nat) (ls : Array Slot), decode cX1_playBy pc = .ok (.return_, 1) → Wd D A s.heap (wGa cs a (aD 0) (aR 0) γ' Γ' ++ (wDa cs aD dr δ ++ (wRo cs aR ρ))) H locs → W p l e { frames := 2, cells := 0, slots := 0, locals := 44 } s m args below meth c H locs 0 0 Q (F0 m pc ls [])) : ∀ (n_31 : Nat) (v1 : Int32) (v2 : Int32) (γ : St) (Γ : Nat → Int64) (H : Heap) (locs : List Loc) (ls : Array Slot), fGa_playBy_31 N ρ n_31 v1 v2 γ Γ = some (γ', Γ') → Wd D A s.heap (wGa cs a (aD 0) (aR 0) γ Γ ++ (wDa cs aD dr δ ++ (wRo cs aR ρ))) H locs → lv_has ls 3 [(0, .ref (a 0)), (1, .int v1), (2, .int v2)] → W p l e { frames := 2, cells := 0, slots := 0, locals := 44 } s m args below meth c H locs 0 0 Q (F0 m 31 ls []) := by
  intro n_31
  induction n_31 with
  | zero =>
    intro v1 v2 γ Γ H locs ls h
    cases h
  | succ n_31 ih =>
    intro v1 v2 γ Γ H locs ls h hW hl
    unfold fGa_playBy_31 at h
    refine lv_iload_n S.1 S.2.1 dX1_playBy_31 rfl (lv_at hl 2 rfl) ?_
    refine lv_aload_n S.1 S.2.1 dX1_playBy_32 rfl (lv_at hl 0 rfl) ?_
    refine gGa_room S hK hW dX1_playBy_33 ?_
    obtain ⟨r_2, hc_3, h⟩ := cl1_some h
    have hW := kw (w' := (wGa cs a (aD 0) (aR 0) γ Γ ++ (wDa cs aD dr δ)) ++ ((wRo cs aR ρ) ++ [])) (by simp only [List.append_assoc, List.nil_append, List.append_nil]) hW
    refine kV_i (As := []) (rest := [.int v2]) S hK hA (z := none) trivial (wGa cs a (aD 0) (aR 0) γ Γ ++ (wDa cs aD dr δ)) [] hW (cRo_readerCount l D cs aR ρ N hc_3) (ci := 2) rfl rfl lk_X1_38 q358 q359 ⟨Nat.le_of_ble_eq_true rfl, Nat.le_of_ble_eq_true rfl⟩ rfl (Nat.le_of_ble_eq_true rfl) hl.1 dX1_playBy_36 ⟨Nat.zero_le _, Nat.zero_le _⟩ (fun H locs hW => ?_)
    have hW : Wd D A s.heap (wGa cs a (aD 0) (aR 0) γ Γ ++ (wDa cs aD dr δ ++ (wRo cs aR ρ))) H locs := kw (by simp only [List.append_assoc, List.nil_append, List.append_nil]) hW
    refine lv_icmp_ge (tgt := 76) S.1 S.2.1 dX1_playBy_39 (by decide) (fun c_4 => ?_) (fun c_4 => ?_)
    · have h := ite_t c_4 h
      obtain ⟨rfl, rfl⟩ := pr2 h
      exact hQ _ _ _ _ dX1_playBy_76 hW
    · have h := ite_f c_4 h
      refine lv_iload_n S.1 S.2.1 dX1_playBy_42 rfl (lv_at hl 1 rfl) ?_
      refine lv_iconst (v := 1) S.1 S.2.1 dX1_playBy_43 (by decide) ?_
      refine lv_icmp_eq (tgt := 70) S.1 S.2.1 dX1_playBy_44 (by decide) (fun c_5 => ?_) (fun c_5 => ?_)
      · have h := ite_t c_5 h
        exact wGa_playBy_70 S hK hA hQ ih v1 v2 γ Γ _ _ _ h hW (lv_sub hl [0, 1, 2] rfl)
      · have h := ite_f c_5 h
        refine lv_aload_n S.1 S.2.1 dX1_playBy_47 rfl (lv_at hl 0 rfl) ?_
        refine gGa_room S hK hW dX1_playBy_48 ?_
        refine lv_iload_n S.1 S.2.1 dX1_playBy_51 rfl (lv_at hl 2 rfl) ?_
        obtain ⟨r_6, hc_7, h⟩ := cl1_some h
        have hW := kw (w' := (wGa cs a (aD 0) (aR 0) γ Γ ++ (wDa cs aD dr δ)) ++ ((wRo cs aR ρ) ++ [])) (by simp only [List.append_assoc, List.nil_append, List.append_nil]) hW
        refine kV_i (As := [.int v2]) (rest := []) S hK hA (z := none) trivial (wGa cs a (aD 0) (aR 0) γ Γ ++ (wDa cs aD dr δ)) [] hW (cRo_goesOff l D cs aR ρ v2 N hc_7) (ci := 2) rfl rfl lk_X1_44 q556 q557 ⟨Nat.le_of_ble_eq_true rfl, Nat.le_of_ble_eq_true rfl⟩ rfl (Nat.le_of_ble_eq_true rfl) hl.1 dX1_playBy_52 ⟨Nat.zero_le _, Nat.zero_le _⟩ (fun H locs hW => ?_)
        have hW : Wd D A s.heap (wGa cs a (aD 0) (aR 0) γ Γ ++ (wDa cs aD dr δ ++ (wRo cs aR ρ))) H locs := kw (by simp only [List.append_assoc, List.nil_append, List.append_nil]) hW
        refine lv_if_eq (tgt := 70) S.1 S.2.1 dX1_playBy_55 (by decide) (fun c_8 => ?_) (fun c_8 => ?_)
        · have h := ite_t c_8 h
          exact wGa_playBy_70 S hK hA hQ ih v1 v2 γ Γ _ _ _ h hW (lv_sub hl [0, 1, 2] rfl)
        · have h := ite_f c_8 h
          refine lv_aload_n S.1 S.2.1 dX1_playBy_58 rfl (lv_at hl 0 rfl) ?_
          refine lv_dup S.1 S.2.1 dX1_playBy_59 rfl ?_
          refine gGa_mattering S hK hW dX1_playBy_60 ?_
          refine lv_iconst (v := 1) S.1 S.2.1 dX1_playBy_63 (by decide) ?_
          refine lv_iload_n S.1 S.2.1 dX1_playBy_64 rfl (lv_at hl 2 rfl) ?_
          refine lv_ishl S.1 S.2.1 dX1_playBy_65 ?_
          refine lv_ior S.1 S.2.1 dX1_playBy_66 ?_
          refine pGa_mattering S hK hW dX1_playBy_67 (fun H locs γ_9 eγ_9 hW => ?_)
          have h := nm_to eγ_9 h
          exact wGa_playBy_70 S hK hA hQ ih v1 v2 γ_9 Γ _ _ _ h hW (lv_sub hl [0, 1, 2] rfl)
set_option maxHeartbeats 4000000 in
set_option maxRecDepth 100000 in
theorem cGa_playBy (l : Launch) (D : va_G) (cs : Nat → ClassId) (a aD aR : Nat → Nat) (γ : St) (Γ : Nat → Int64) (δ : St) (ρ : St) (dr : Nat) (p0 : Int32) (N : Nat) {γ' : St} {Γ' : Nat → Int64} (h : fGa_playBy N p0 ρ γ Γ = some (γ', Γ')) : Kv l D cs none yX1_playBy cX1_playBy 3 none 2 44 (wGa cs a (aD 0) (aR 0) γ Γ ++ (wDa cs aD dr δ ++ (wRo cs aR ρ))) [.ref (a 0), .int p0] (wGa cs a (aD 0) (aR 0) γ' Γ' ++ (wDa cs aD dr δ ++ (wRo cs aR ρ))) := by
  refine Kv_of (by decide +kernel) (Nat.le_of_ble_eq_true rfl) (fun p e s m below meth c A S hK hA hZ Q hQ ls hl hW => ?_)
  have hl : lv_has ls 3 [(0, .ref (a 0)), (1, .int p0)] := hl
  unfold fGa_playBy at h
  refine lv_aload_n S.1 S.2.1 dX1_playBy_0 rfl (lv_at hl 0 rfl) ?_
  refine gGa_rule S hK hW dX1_playBy_1 ?_
  refine lv_iload_n S.1 S.2.1 dX1_playBy_4 rfl (lv_at hl 1 rfl) ?_
  refine lv_icmp_ne (tgt := 9) S.1 S.2.1 dX1_playBy_5 (by decide) (fun c_10 => ?_) (fun c_10 => ?_)
  · have h := ite_f c_10 h
    refine lv_aload_n S.1 S.2.1 dX1_playBy_9 rfl (lv_at hl 0 rfl) ?_
    refine lv_iload_n S.1 S.2.1 dX1_playBy_10 rfl (lv_at hl 1 rfl) ?_
    refine pGa_rule S hK hW dX1_playBy_11 (fun H locs γ_11 eγ_11 hW => ?_)
    have h := nm_to eγ_11 h
    refine lv_aload_n S.1 S.2.1 dX1_playBy_14 rfl (lv_at hl 0 rfl) ?_
    refine gGa_minutes S hK hW dX1_playBy_15 ?_
    refine lv_ldc2 (v := -1) S.1 S.2.1 S.2.2.2.1 (S.2.2.2.2 _ q550) dX1_playBy_18 ?_
    obtain ⟨Γ_12, eΓ_12, h⟩ := nm_some h
    refine kS_v (As := [.ref (a 2), .long (-1 : Int64)]) (rest := []) S hK hA (z := none) trivial [(a 0, .inr (1, [.ref (aD 0), .ref (a 2), .ref (aR 0), .int (γ_11 0 3), .int (γ_11 0 4)]))] ([] ++ (wDa cs aD dr δ ++ (wRo cs aR ρ))) hW (c_fillL l D cs (a 2) 256 Γ (-1 : Int64) (Nat.le_of_ble_eq_true rfl)) lk_X1_32 q552 ⟨Nat.le_of_ble_eq_true rfl, Nat.le_of_ble_eq_true rfl⟩ rfl (Nat.le_of_ble_eq_true rfl) hl.1 dX1_playBy_21 ⟨Nat.zero_le _, Nat.zero_le _⟩ (fun H locs hW => ?_)
    have hW : Wd D A s.heap (wGa cs a (aD 0) (aR 0) γ_11 Γ_12 ++ (wDa cs aD dr δ ++ (wRo cs aR ρ))) H locs := by rw [eΓ_12]; exact hW
    refine lv_aload_n S.1 S.2.1 dX1_playBy_24 rfl (lv_at hl 0 rfl) ?_
    refine lv_iconst (v := 0) S.1 S.2.1 dX1_playBy_25 (by decide) ?_
    refine pGa_mattering S hK hW dX1_playBy_26 (fun H locs γ_13 eγ_13 hW => ?_)
    have h := nm_to eγ_13 h
    refine lv_iconst (v := 0) S.1 S.2.1 dX1_playBy_29 (by decide) ?_
    refine lv_istore_n (lv' := [(2, .int (0 : Int32)), (0, .ref (a 0)), (1, .int p0)]) S.1 S.2.1 dX1_playBy_30 rfl hl (by decide) rfl (fun ls hl => ?_)
    exact wGa_playBy_31 S hK hA hQ N p0 (0 : Int32) γ_13 Γ_12 _ _ _ h hW (lv_sub hl [1, 2, 0] rfl)
  · have h := ite_t c_10 h
    obtain ⟨rfl, rfl⟩ := pr2 h
    exact hQ _ _ _ _ dX1_playBy_8 hW
set_option maxHeartbeats 4000000 in
set_option maxRecDepth 100000 in
theorem wGa_minutesIn_20 {p : Program} {l : Launch} {e : Env} {s : State} {m : MethodId} {args : Array Value} {below : List Frame} {meth : Method} {c : Code} {A : Nat → Prop} {Q : State → Prop} {D : va_G} {cs : Nat → ClassId} {a aD aR : Nat → Nat} {γ : St} {ρ : St} {r : Int32} {Γ' : Nat → Int64} {δ' : St} {dr' : Nat} {N : Nat} (S : Fx p m c cX1_minutesIn 4 s args RX1) (hK : va_K D vwCl (tyL cs) s) (hA : ∀ x, s.heap.size ≤ x → A x) (hQ : ∀ (H : Heap) (locs : List Loc) (pc : Nat) (ls : Array Slot), decode cX1_minutesIn pc = .ok (.ireturn, 1) → narrow .int (.int r) = .int r → Wd D A s.heap (wGa cs a (aD 0) (aR 0) γ Γ' ++ (wDa cs aD dr' δ' ++ (wRo cs aR ρ))) H locs → W p l e { frames := 4, cells := 0, slots := 0, locals := 94 } s m args below meth c H locs 0 0 Q (F0 m pc ls [.int r])) : ∀ (Γ : Nat → Int64) (δ : St) (dr : Nat) (H : Heap) (locs : List Loc) (ls : Array Slot), fGa_minutesIn_20 N γ ρ (aR 0) Γ δ dr = some (r, Γ', δ', dr') → Wd D A s.heap (wGa cs a (aD 0) (aR 0) γ Γ ++ (wDa cs aD dr δ ++ (wRo cs aR ρ))) H locs → lv_has ls 4 [] → W p l e { frames := 4, cells := 0, slots := 0, locals := 94 } s m args below meth c H locs 0 0 Q (F0 m 20 ls []) := by
  intro Γ δ dr H locs ls h hW hl
  unfold fGa_minutesIn_20 at h
  refine lv_iconst (v := 0) S.1 S.2.1 dX1_minutesIn_20 (by decide) ?_
  obtain ⟨rfl, rfl, rfl, rfl⟩ := pr4 h
  exact hQ _ _ _ _ dX1_minutesIn_21 rfl hW
set_option maxHeartbeats 4000000 in
set_option maxRecDepth 100000 in
theorem wGa_minutesIn_74 {p : Program} {l : Launch} {e : Env} {s : State} {m : MethodId} {args : Array Value} {below : List Frame} {meth : Method} {c : Code} {A : Nat → Prop} {Q : State → Prop} {D : va_G} {cs : Nat → ClassId} {a aD aR : Nat → Nat} {γ : St} {ρ : St} {r : Int32} {Γ' : Nat → Int64} {δ' : St} {dr' : Nat} {N : Nat} (S : Fx p m c cX1_minutesIn 4 s args RX1) (hK : va_K D vwCl (tyL cs) s) (hA : ∀ x, s.heap.size ≤ x → A x) (hQ : ∀ (H : Heap) (locs : List Loc) (pc : Nat) (ls : Array Slot), decode cX1_minutesIn pc = .ok (.ireturn, 1) → narrow .int (.int r) = .int r → Wd D A s.heap (wGa cs a (aD 0) (aR 0) γ Γ' ++ (wDa cs aD dr' δ' ++ (wRo cs aR ρ))) H locs → W p l e { frames := 4, cells := 0, slots := 0, locals := 94 } s m args below meth c H locs 0 0 Q (F0 m pc ls [.int r])) : ∀ (v2 : Int32) (v3 : Int32) (Γ : Nat → Int64) (δ : St) (dr : Nat) (H : Heap) (locs : List Loc) (ls : Array Slot), fGa_minutesIn_74 N γ ρ (aR 0) v2 v3 Γ δ dr = some (r, Γ', δ', dr') → Wd D A s.heap (wGa cs a (aD 0) (aR 0) γ Γ ++ (wDa cs aD dr δ ++ (wRo cs aR ρ))) H locs → lv_has ls 4 [(0, .ref (a 0)), (2, .int v2), (3, .int v3)] → W p l e { frames := 4, cells := 0, slots := 0, locals := 94 } s m args below meth c H locs 0 0 Q (F0 m 74 ls []) := by
  intro v2 v3 Γ δ dr H locs ls h hW hl
  unfold fGa_minutesIn_74 at h
  refine lv_aload_n S.1 S.2.1 dX1_minutesIn_74 rfl (lv_at hl 0 rfl) ?_
  refine gGa_minutes S hK hW dX1_minutesIn_75 ?_
  refine lv_iload_n S.1 S.2.1 dX1_minutesIn_78 rfl (lv_at hl 2 rfl) ?_
  obtain ⟨hi_1, h⟩ := gI_some h
  refine lGa_minutes S hK hW hi_1 dX1_minutesIn_79 ?_
  refine lv_bipush (v := 8) S.1 S.2.1 dX1_minutesIn_80 (by decide) ?_
  refine lv_iload_n S.1 S.2.1 dX1_minutesIn_82 rfl (lv_at hl 1 rfl) ?_
  refine lv_imul S.1 S.2.1 dX1_minutesIn_83 ?_
  refine lv_lushr S.1 S.2.1 dX1_minutesIn_84 rfl ?_
  refine lv_l2i S.1 S.2.1 dX1_minutesIn_85 rfl ?_
  refine lv_sipush (v := 255) S.1 S.2.1 dX1_minutesIn_86 (by decide) ?_
  refine lv_iand S.1 S.2.1 dX1_minutesIn_89 ?_
  obtain ⟨rfl, rfl, rfl, rfl⟩ := pr4 h
  exact hQ _ _ _ _ dX1_minutesIn_90 rfl hW
set_option maxHeartbeats 4000000 in
set_option maxRecDepth 100000 in
theorem cGa_minutesIn (l : Launch) (D : va_G) (cs : Nat → ClassId) (a aD aR : Nat → Nat) (γ : St) (Γ : Nat → Int64) (δ : St) (ρ : St) (dr : Nat) (p0 : Int32) (p1 : Int32) (N : Nat) {r : Int32} {Γ' : Nat → Int64} {δ' : St} {dr' : Nat} (h : fGa_minutesIn N p0 p1 γ ρ (aR 0) Γ δ dr = some (r, Γ', δ', dr')) : Ki l D cs none yX1_minutesIn cX1_minutesIn 4 (some .int) 4 94 (wGa cs a (aD 0) (aR 0) γ Γ ++ (wDa cs aD dr δ ++ (wRo cs aR ρ))) [.ref (a 0), .int p0, .int p1] r (wGa cs a (aD 0) (aR 0) γ Γ' ++ (wDa cs aD dr' δ' ++ (wRo cs aR ρ))) := by
  refine Ki_of (by decide +kernel) (Nat.le_of_ble_eq_true rfl) (fun p e s m below meth c A S hK hA hZ Q hQ ls hl hW => ?_)
  have hl : lv_has ls 4 [(0, .ref (a 0)), (1, .int p0), (2, .int p1)] := hl
  unfold fGa_minutesIn at h
  refine lv_iload_n S.1 S.2.1 dX1_minutesIn_0 rfl (lv_at hl 1 rfl) ?_
  refine lv_aload_n S.1 S.2.1 dX1_minutesIn_1 rfl (lv_at hl 0 rfl) ?_
  refine gGa_mattering S hK hW dX1_minutesIn_2 ?_
  refine lv_iand S.1 S.2.1 dX1_minutesIn_5 ?_
  refine lv_topi (fun x3_2 ex3_2 => ?_)
  have h := nm_to ex3_2 h
  refine lv_istore_n (lv' := [(3, .int x3_2), (0, .ref (a 0)), (1, .int p0), (2, .int p1)]) S.1 S.2.1 dX1_minutesIn_6 rfl hl (by decide) rfl (fun ls hl => ?_)
  refine lv_iload_n S.1 S.2.1 dX1_minutesIn_7 rfl (lv_at hl 0 rfl) ?_
  refine lv_if_lt (tgt := 20) S.1 S.2.1 dX1_minutesIn_8 (by decide) (fun c_3 => ?_) (fun c_3 => ?_)
  · have h := ite_t c_3 h
    exact wGa_minutesIn_20 S hK hA hQ Γ δ dr _ _ _ h hW (lv_sub hl [] rfl)
  · have h := ite_f c_3 h
    refine lv_iload_n S.1 S.2.1 dX1_minutesIn_11 rfl (lv_at hl 0 rfl) ?_
    refine lv_aload_n S.1 S.2.1 dX1_minutesIn_12 rfl (lv_at hl 1 rfl) ?_
    refine gGa_minutes S hK hW dX1_minutesIn_13 ?_
    refine nGa_minutes S hK hW dX1_minutesIn_16 ?_
    refine lv_icmp_lt (tgt := 22) S.1 S.2.1 dX1_minutesIn_17 (by decide) (fun c_4 => ?_) (fun c_4 => ?_)
    · have h := ite_t c_4 h
      refine lv_aload_n S.1 S.2.1 dX1_minutesIn_22 rfl (lv_at hl 1 rfl) ?_
      refine gGa_minutes S hK hW dX1_minutesIn_23 ?_
      refine lv_iload_n S.1 S.2.1 dX1_minutesIn_26 rfl (lv_at hl 0 rfl) ?_
      obtain ⟨hi_5, h⟩ := gI_some h
      refine lGa_minutes S hK hW hi_5 dX1_minutesIn_27 ?_
      refine lv_ldc2 (v := -1) S.1 S.2.1 S.2.2.2.1 (S.2.2.2.2 _ q550) dX1_minutesIn_28 ?_
      refine W.lcmp S.1 S.2.1 dX1_minutesIn_31 ?_
      refine lv_if_ne (tgt := 74) S.1 S.2.1 dX1_minutesIn_32 (by decide) (fun c_6 => ?_) (fun c_6 => ?_)
      · have h := ite_f c_6 h
        exact wGa_minutesIn_74 S hK hA hQ p1 x3_2 Γ δ dr _ _ _ h hW (lv_sub hl [1, 3, 0] rfl)
      · have h := ite_t c_6 h
        refine lv_aload_n S.1 S.2.1 dX1_minutesIn_35 rfl (lv_at hl 1 rfl) ?_
        refine gGa_day S hK hW dX1_minutesIn_36 ?_
        refine lv_aload_n S.1 S.2.1 dX1_minutesIn_39 rfl (lv_at hl 1 rfl) ?_
        refine gGa_room S hK hW dX1_minutesIn_40 ?_
        refine lv_aload_n S.1 S.2.1 dX1_minutesIn_43 rfl (lv_at hl 1 rfl) ?_
        refine gGa_rule S hK hW dX1_minutesIn_44 ?_
        refine lv_iload_n S.1 S.2.1 dX1_minutesIn_47 rfl (lv_at hl 0 rfl) ?_
        obtain ⟨δ_7, hc_8, h⟩ := cl1_some h
        have hW := kw (w' := (wGa cs a (aD 0) (aR 0) γ Γ) ++ ((wDa cs aD dr δ ++ (wRo cs aR ρ)) ++ [])) (by simp only [List.append_assoc, List.nil_append, List.append_nil]) hW
        refine kV_v (As := [.ref (aR 0), .int (γ 0 3), .int x3_2]) (rest := []) S hK hA (z := none) trivial (wGa cs a (aD 0) (aR 0) γ Γ) [] hW (cDa_open l D cs aD aR δ ρ dr (γ 0 3) x3_2 N hc_8) (ci := 0) rfl rfl lk_X1_52 q401 q402 ⟨Nat.le_of_ble_eq_true rfl, Nat.le_of_ble_eq_true rfl⟩ rfl (Nat.le_of_ble_eq_true rfl) hl.1 dX1_minutesIn_48 ⟨Nat.zero_le _, Nat.zero_le _⟩ (fun H locs hW => ?_)
        have hW : Wd D A s.heap (wGa cs a (aD 0) (aR 0) γ Γ ++ (wDa cs aD (aR 0) δ_7 ++ (wRo cs aR ρ))) H locs := kw (by simp only [List.append_assoc, List.nil_append, List.append_nil]) hW
        refine lv_aload_n S.1 S.2.1 dX1_minutesIn_51 rfl (lv_at hl 1 rfl) ?_
        refine gGa_day S hK hW dX1_minutesIn_52 ?_
        refine lv_sipush (v := 399) S.1 S.2.1 dX1_minutesIn_55 (by decide) ?_
        obtain ⟨δ_9, hc_10, h⟩ := cl1_some h
        have hW := kw (w' := (wGa cs a (aD 0) (aR 0) γ Γ) ++ ((wDa cs aD (aR 0) δ_7 ++ (wRo cs aR ρ)) ++ [])) (by simp only [List.append_assoc, List.nil_append, List.append_nil]) hW
        refine kV_v (As := [.int (399 : Int32)]) (rest := []) S hK hA (z := none) trivial (wGa cs a (aD 0) (aR 0) γ Γ) [] hW (cDa_runTo l D cs aD aR δ_7 ρ (399 : Int32) N hc_10) (ci := 0) rfl rfl lk_X1_58 q426 q427 ⟨Nat.le_of_ble_eq_true rfl, Nat.le_of_ble_eq_true rfl⟩ rfl (Nat.le_of_ble_eq_true rfl) hl.1 dX1_minutesIn_58 ⟨Nat.zero_le _, Nat.zero_le _⟩ (fun H locs hW => ?_)
        have hW : Wd D A s.heap (wGa cs a (aD 0) (aR 0) γ Γ ++ (wDa cs aD (aR 0) δ_9 ++ (wRo cs aR ρ))) H locs := kw (by simp only [List.append_assoc, List.nil_append, List.append_nil]) hW
        refine lv_aload_n S.1 S.2.1 dX1_minutesIn_61 rfl (lv_at hl 1 rfl) ?_
        refine gGa_minutes S hK hW dX1_minutesIn_62 ?_
        refine lv_iload_n S.1 S.2.1 dX1_minutesIn_65 rfl (lv_at hl 0 rfl) ?_
        refine lv_aload_n S.1 S.2.1 dX1_minutesIn_66 rfl (lv_at hl 1 rfl) ?_
        refine gGa_day S hK hW dX1_minutesIn_67 ?_
        obtain ⟨r_11, hc_12, h⟩ := cl1_some h
        have hW := kw (w' := (wGa cs a (aD 0) (aR 0) γ Γ) ++ ((wDa cs aD (aR 0) δ_9 ++ (wRo cs aR ρ)) ++ [])) (by simp only [List.append_assoc, List.nil_append, List.append_nil]) hW
        refine kV_l (As := []) (rest := [.int x3_2, .ref (a 2)]) S hK hA (z := none) trivial (wGa cs a (aD 0) (aR 0) γ Γ) [] hW (cDa_packedMinutes l D cs aD aR δ_9 ρ N hc_12) (ci := 0) rfl rfl lk_X1_62 q571 q572 ⟨Nat.le_of_ble_eq_true rfl, Nat.le_of_ble_eq_true rfl⟩ rfl (Nat.le_of_ble_eq_true rfl) hl.1 dX1_minutesIn_70 ⟨Nat.zero_le _, Nat.zero_le _⟩ (fun H locs hW => ?_)
        have hW : Wd D A s.heap (wGa cs a (aD 0) (aR 0) γ Γ ++ (wDa cs aD (aR 0) δ_9 ++ (wRo cs aR ρ))) H locs := kw (by simp only [List.append_assoc, List.nil_append, List.append_nil]) hW
        obtain ⟨hi_13, h⟩ := gI_some h
        refine sGa_minutes S hK hW hi_13 dX1_minutesIn_73 (fun H locs Γ_14 eΓ_14 hW => ?_)
        have h := nm_to eΓ_14 h
        exact wGa_minutesIn_74 S hK hA hQ p1 x3_2 Γ_14 δ_9 (aR 0) _ _ _ h hW (lv_sub hl [1, 3, 0] rfl)
    · have h := ite_f c_4 h
      exact wGa_minutesIn_20 S hK hA hQ Γ δ dr _ _ _ h hW (lv_sub hl [] rfl)
set_option maxHeartbeats 4000000 in
set_option maxRecDepth 100000 in
theorem wGa_isRest_2 {p : Program} {l : Launch} {e : Env} {s : State} {m : MethodId} {args : Array Value} {below : List Frame} {meth : Method} {c : Code} {A : Nat → Prop} {Q : State → Prop} {D : va_G} {cs : Nat → ClassId} {a aD aR : Nat → Nat} {γ : St} {ρ : St} {r : Int32} {Γ' : Nat → Int64} {δ' : St} {dr' : Nat} {N : Nat} (S : Fx p m c cX1_isRest 3 s args RX1) (hK : va_K D vwCl (tyL cs) s) (hA : ∀ x, s.heap.size ≤ x → A x) (hQ : ∀ (H : Heap) (locs : List Loc) (pc : Nat) (ls : Array Slot), decode cX1_isRest pc = .ok (.ireturn, 1) → narrow .boolean (.int r) = .int r → Wd D A s.heap (wGa cs a (aD 0) (aR 0) γ Γ' ++ (wDa cs aD dr' δ' ++ (wRo cs aR ρ))) H locs → W p l e { frames := 5, cells := 0, slots := 0, locals := 117 } s m args below meth c H locs 0 0 Q (F0 m pc ls [.int r])) : ∀ (n_2 : Nat) (v1 : Int32) (v2 : Int32) (Γ : Nat → Int64) (δ : St) (dr : Nat) (H : Heap) (locs : List Loc) (ls : Array Slot), fGa_isRest_2 N γ ρ (aR 0) n_2 v1 v2 Γ δ dr = some (r, Γ', δ', dr') → Wd D A s.heap (wGa cs a (aD 0) (aR 0) γ Γ ++ (wDa cs aD dr δ ++ (wRo cs aR ρ))) H locs → lv_has ls 3 [(0, .ref (a 0)), (1, .int v1), (2, .int v2)] → W p l e { frames := 5, cells := 0, slots := 0, locals := 117 } s m args below meth c H locs 0 0 Q (F0 m 2 ls []) := by
  intro n_2
  induction n_2 with
  | zero =>
    intro v1 v2 Γ δ dr H locs ls h
    cases h
  | succ n_2 ih =>
    intro v1 v2 Γ δ dr H locs ls h hW hl
    unfold fGa_isRest_2 at h
    refine lv_iload_n S.1 S.2.1 dX1_isRest_2 rfl (lv_at hl 2 rfl) ?_
    refine lv_aload_n S.1 S.2.1 dX1_isRest_3 rfl (lv_at hl 0 rfl) ?_
    refine gGa_room S hK hW dX1_isRest_4 ?_
    obtain ⟨r_1, hc_2, h⟩ := cl1_some h
    have hW := kw (w' := (wGa cs a (aD 0) (aR 0) γ Γ ++ (wDa cs aD dr δ)) ++ ((wRo cs aR ρ) ++ [])) (by simp only [List.append_assoc, List.nil_append, List.append_nil]) hW
    refine kV_i (As := []) (rest := [.int v2]) S hK hA (z := none) trivial (wGa cs a (aD 0) (aR 0) γ Γ ++ (wDa cs aD dr δ)) [] hW (cRo_readerCount l D cs aR ρ N hc_2) (ci := 2) rfl rfl lk_X1_38 q358 q359 ⟨Nat.le_of_ble_eq_true rfl, Nat.le_of_ble_eq_true rfl⟩ rfl (Nat.le_of_ble_eq_true rfl) hl.1 dX1_isRest_7 ⟨Nat.zero_le _, Nat.zero_le _⟩ (fun H locs hW => ?_)
    have hW : Wd D A s.heap (wGa cs a (aD 0) (aR 0) γ Γ ++ (wDa cs aD dr δ ++ (wRo cs aR ρ))) H locs := kw (by simp only [List.append_assoc, List.nil_append, List.append_nil]) hW
    refine lv_icmp_ge (tgt := 40) S.1 S.2.1 dX1_isRest_10 (by decide) (fun c_3 => ?_) (fun c_3 => ?_)
    · have h := ite_t c_3 h
      refine lv_iconst (v := 1) S.1 S.2.1 dX1_isRest_40 (by decide) ?_
      obtain ⟨rfl, rfl, rfl, rfl⟩ := pr4 h
      exact hQ _ _ _ _ dX1_isRest_41 rfl hW
    · have h := ite_f c_3 h
      refine lv_aload_n S.1 S.2.1 dX1_isRest_13 rfl (lv_at hl 0 rfl) ?_
      refine lv_iload_n S.1 S.2.1 dX1_isRest_14 rfl (lv_at hl 1 rfl) ?_
      refine lv_iconst (v := 1) S.1 S.2.1 dX1_isRest_15 (by decide) ?_
      refine lv_iload_n S.1 S.2.1 dX1_isRest_16 rfl (lv_at hl 2 rfl) ?_
      refine lv_ishl S.1 S.2.1 dX1_isRest_17 ?_
      refine lv_ixor S.1 S.2.1 dX1_isRest_18 ?_
      refine lv_iload_n S.1 S.2.1 dX1_isRest_19 rfl (lv_at hl 2 rfl) ?_
      obtain ⟨r_4, Γ_5, δ_6, dr_7, hc_8, h⟩ := cl4_some h
      have hW := kw_same hW
      refine kV_i (As := [.int (v1 ^^^ ((1 : Int32) <<< (v2 &&& 31))), .int v2]) (rest := []) S hK hA (z := none) trivial [] [] hW (cGa_minutesIn l D cs a aD aR γ Γ δ ρ dr (v1 ^^^ ((1 : Int32) <<< (v2 &&& 31))) v2 N hc_8) (ci := 1) rfl rfl lk_X1_48 q566 q16 ⟨Nat.le_of_ble_eq_true rfl, Nat.le_of_ble_eq_true rfl⟩ rfl (Nat.le_of_ble_eq_true rfl) hl.1 dX1_isRest_20 ⟨Nat.zero_le _, Nat.zero_le _⟩ (fun H locs hW => ?_)
      have hW : Wd D A s.heap (wGa cs a (aD 0) (aR 0) γ Γ_5 ++ (wDa cs aD dr_7 δ_6 ++ (wRo cs aR ρ))) H locs := kw_back hW
      refine lv_aload_n S.1 S.2.1 dX1_isRest_23 rfl (lv_at hl 0 rfl) ?_
      refine lv_iload_n S.1 S.2.1 dX1_isRest_24 rfl (lv_at hl 1 rfl) ?_
      refine lv_iload_n S.1 S.2.1 dX1_isRest_25 rfl (lv_at hl 2 rfl) ?_
      obtain ⟨r_9, Γ_10, δ_11, dr_12, hc_13, h⟩ := cl4_some h
      have hW := kw_same hW
      refine kV_i (As := [.int v1, .int v2]) (rest := [.int r_4]) S hK hA (z := none) trivial [] [] hW (cGa_minutesIn l D cs a aD aR γ Γ_5 δ_6 ρ dr_7 v1 v2 N hc_13) (ci := 1) rfl rfl lk_X1_48 q566 q16 ⟨Nat.le_of_ble_eq_true rfl, Nat.le_of_ble_eq_true rfl⟩ rfl (Nat.le_of_ble_eq_true rfl) hl.1 dX1_isRest_26 ⟨Nat.zero_le _, Nat.zero_le _⟩ (fun H locs hW => ?_)
      have hW : Wd D A s.heap (wGa cs a (aD 0) (aR 0) γ Γ_10 ++ (wDa cs aD dr_12 δ_11 ++ (wRo cs aR ρ))) H locs := kw_back hW
      refine lv_icmp_le (tgt := 34) S.1 S.2.1 dX1_isRest_29 (by decide) (fun c_14 => ?_) (fun c_14 => ?_)
      · have h := ite_t c_14 h
        obtain ⟨x2_15, ex2_15, h⟩ := nm_some h
        refine lv_iinc (v := x2_15) (lv' := [(2, .int x2_15), (0, .ref (a 0)), (1, .int v1)]) S.1 S.2.1 dX1_isRest_34 hl (k := 2) rfl (by rw [ex2_15]; rfl) (by decide) rfl (fun ls hl => ?_)
        refine lv_goto (tgt := 2) S.1 S.2.1 dX1_isRest_37 (by decide) ?_
        exact ih v1 x2_15 Γ_10 δ_11 dr_12 _ _ _ h hW (lv_sub hl [1, 2, 0] rfl)
      · have h := ite_f c_14 h
        refine lv_iconst (v := 0) S.1 S.2.1 dX1_isRest_32 (by decide) ?_
        obtain ⟨rfl, rfl, rfl, rfl⟩ := pr4 h
        exact hQ _ _ _ _ dX1_isRest_33 rfl hW
set_option maxHeartbeats 4000000 in
set_option maxRecDepth 100000 in
theorem cGa_isRest (l : Launch) (D : va_G) (cs : Nat → ClassId) (a aD aR : Nat → Nat) (γ : St) (Γ : Nat → Int64) (δ : St) (ρ : St) (dr : Nat) (p0 : Int32) (N : Nat) {r : Int32} {Γ' : Nat → Int64} {δ' : St} {dr' : Nat} (h : fGa_isRest N p0 γ ρ (aR 0) Γ δ dr = some (r, Γ', δ', dr')) : Ki l D cs none yX1_isRest cX1_isRest 3 (some .boolean) 5 117 (wGa cs a (aD 0) (aR 0) γ Γ ++ (wDa cs aD dr δ ++ (wRo cs aR ρ))) [.ref (a 0), .int p0] r (wGa cs a (aD 0) (aR 0) γ Γ' ++ (wDa cs aD dr' δ' ++ (wRo cs aR ρ))) := by
  refine Ki_of (by decide +kernel) (Nat.le_of_ble_eq_true rfl) (fun p e s m below meth c A S hK hA hZ Q hQ ls hl hW => ?_)
  have hl : lv_has ls 3 [(0, .ref (a 0)), (1, .int p0)] := hl
  unfold fGa_isRest at h
  refine lv_iconst (v := 0) S.1 S.2.1 dX1_isRest_0 (by decide) ?_
  refine lv_istore_n (lv' := [(2, .int (0 : Int32)), (0, .ref (a 0)), (1, .int p0)]) S.1 S.2.1 dX1_isRest_1 rfl hl (by decide) rfl (fun ls hl => ?_)
  exact wGa_isRest_2 S hK hA hQ N p0 (0 : Int32) Γ δ dr _ _ _ h hW (lv_sub hl [1, 2, 0] rfl)
