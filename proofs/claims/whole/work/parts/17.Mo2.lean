set_option maxHeartbeats 4000000 in
set_option maxRecDepth 100000 in
theorem wMo_run_95 {p : Program} {l : Launch} {e : Env} {s : State} {m : MethodId} {args : Array Value} {below : List Frame} {meth : Method} {c : Code} {A : Nat → Prop} {Q : State → Prop} {D : va_G} {cs : Nat → ClassId} {a : Nat → Nat} {Λ : Nat → Int64} {σ' : St} {N : Nat} (S : Fx p m c cX7_run 7 s args RX7) (hK : va_K D vwCl (tyL cs) s) (hA : ∀ x, s.heap.size ≤ x → A x) (hQ : ∀ (H : Heap) (locs : List Loc) (pc : Nat) (ls : Array Slot), decode cX7_run pc = .ok (.return_, 1) → Wd D A s.heap (wMo cs a σ' Λ) H locs → W p l e { frames := 4, cells := 0, slots := 0, locals := 99 } s m args below meth c H locs 0 0 Q (F0 m pc ls [])) : ∀ (n_95 : Nat) (v1 : Int32) (v2 : Int32) (v3 : Int32) (v4 : Int32) (v5 : Int32) (v6 : Int32) (σ : St) (H : Heap) (locs : List Loc) (ls : Array Slot), fMo_run_95 N n_95 v1 v2 v3 v4 v5 v6 σ = some σ' → Wd D A s.heap (wMo cs a σ Λ) H locs → lv_has ls 7 [(0, .ref (a 0)), (1, .int v1), (2, .int v2), (3, .int v3), (4, .int v4), (5, .int v5), (6, .int v6)] → W p l e { frames := 4, cells := 0, slots := 0, locals := 99 } s m args below meth c H locs 0 0 Q (F0 m 95 ls []) := by
  intro n_95
  induction n_95 with
  | zero =>
    intro v1 v2 v3 v4 v5 v6 σ H locs ls h
    cases h
  | succ n_95 ih =>
    intro v1 v2 v3 v4 v5 v6 σ H locs ls h hW hl
    unfold fMo_run_95 at h
    refine lv_iload S.1 S.2.1 dX7_run_95 (lv_at hl 6 rfl) ?_
    refine lv_iload_n S.1 S.2.1 dX7_run_97 rfl (lv_at hl 3 rfl) ?_
    refine lv_icmp_gt (tgt := 119) S.1 S.2.1 dX7_run_98 (by decide) (fun c_1 => ?_) (fun c_1 => ?_)
    · have h := ite_t c_1 h
      obtain rfl := pr1 h
      exact hQ _ _ _ _ dX7_run_119 hW
    · have h := ite_f c_1 h
      refine lv_aload_n S.1 S.2.1 dX7_run_101 rfl (lv_at hl 0 rfl) ?_
      refine lv_iload_n S.1 S.2.1 dX7_run_102 rfl (lv_at hl 1 rfl) ?_
      refine lv_iload_n S.1 S.2.1 dX7_run_103 rfl (lv_at hl 2 rfl) ?_
      refine lv_iload S.1 S.2.1 dX7_run_104 (lv_at hl 6 rfl) ?_
      refine lv_iload S.1 S.2.1 dX7_run_106 (lv_at hl 4 rfl) ?_
      refine lv_iload S.1 S.2.1 dX7_run_108 (lv_at hl 5 rfl) ?_
      obtain ⟨σ_2, hc_3, h⟩ := cl1_some h
      have hW := kw_same hW
      refine kV_v (As := [.int v1, .int v2, .int v6, .int v4, .int v5]) (rest := []) S hK hA (z := none) trivial [] [] hW (cMo_minute l D cs a σ Λ v1 v2 v6 v4 v5 N hc_3) (ci := 6) rfl rfl lk_X7_177 q857 q29 ⟨Nat.le_of_ble_eq_true rfl, Nat.le_of_ble_eq_true rfl⟩ rfl (Nat.le_of_ble_eq_true rfl) hl.1 dX7_run_110 ⟨Nat.zero_le _, Nat.zero_le _⟩ (fun H locs hW => ?_)
      have hW : Wd D A s.heap (wMo cs a σ_2 Λ) H locs := kw_back hW
      obtain ⟨x6_4, ex6_4, h⟩ := nm_some h
      refine lv_iinc (v := x6_4) (lv' := [(6, .int x6_4), (0, .ref (a 0)), (1, .int v1), (2, .int v2), (3, .int v3), (4, .int v4), (5, .int v5)]) S.1 S.2.1 dX7_run_113 hl (k := 6) rfl (by rw [ex6_4]; rfl) (by decide) rfl (fun ls hl => ?_)
      refine lv_goto (tgt := 95) S.1 S.2.1 dX7_run_116 (by decide) ?_
      exact ih v1 v2 v3 v4 v5 x6_4 σ_2 _ _ _ h hW (lv_sub hl [1, 2, 3, 4, 5, 6, 0] rfl)
set_option maxHeartbeats 4000000 in
set_option maxRecDepth 100000 in
theorem wMo_run_43 {p : Program} {l : Launch} {e : Env} {s : State} {m : MethodId} {args : Array Value} {below : List Frame} {meth : Method} {c : Code} {A : Nat → Prop} {Q : State → Prop} {D : va_G} {cs : Nat → ClassId} {a : Nat → Nat} {Λ : Nat → Int64} {σ' : St} {N : Nat} (S : Fx p m c cX7_run 7 s args RX7) (hK : va_K D vwCl (tyL cs) s) (hA : ∀ x, s.heap.size ≤ x → A x) (hQ : ∀ (H : Heap) (locs : List Loc) (pc : Nat) (ls : Array Slot), decode cX7_run pc = .ok (.return_, 1) → Wd D A s.heap (wMo cs a σ' Λ) H locs → W p l e { frames := 4, cells := 0, slots := 0, locals := 99 } s m args below meth c H locs 0 0 Q (F0 m pc ls [])) : ∀ (n_43 : Nat) (v1 : Int32) (v2 : Int32) (v3 : Int32) (v4 : Int32) (v5 : Int32) (v6 : Int32) (σ : St) (H : Heap) (locs : List Loc) (ls : Array Slot), fMo_run_43 N n_43 v1 v2 v3 v4 v5 v6 σ = some σ' → Wd D A s.heap (wMo cs a σ Λ) H locs → lv_has ls 7 [(0, .ref (a 0)), (1, .int v1), (2, .int v2), (3, .int v3), (4, .int v4), (5, .int v5), (6, .int v6)] → W p l e { frames := 4, cells := 0, slots := 0, locals := 99 } s m args below meth c H locs 0 0 Q (F0 m 43 ls []) := by
  intro n_43
  induction n_43 with
  | zero =>
    intro v1 v2 v3 v4 v5 v6 σ H locs ls h
    cases h
  | succ n_43 ih =>
    intro v1 v2 v3 v4 v5 v6 σ H locs ls h hW hl
    unfold fMo_run_43 at h
    refine lv_iload S.1 S.2.1 dX7_run_43 (lv_at hl 6 rfl) ?_
    refine lv_bipush (v := 10) S.1 S.2.1 dX7_run_45 (by decide) ?_
    refine lv_icmp_ge (tgt := 72) S.1 S.2.1 dX7_run_47 (by decide) (fun c_5 => ?_) (fun c_5 => ?_)
    · have h := ite_t c_5 h
      refine lv_aload_n S.1 S.2.1 dX7_run_72 rfl (lv_at hl 0 rfl) ?_
      refine lv_iconst (v := 0) S.1 S.2.1 dX7_run_73 (by decide) ?_
      refine pMo_used S hK hW dX7_run_74 (fun H locs σ_6 eσ_6 hW => ?_)
      have h := nm_to eσ_6 h
      refine lv_aload_n S.1 S.2.1 dX7_run_77 rfl (lv_at hl 0 rfl) ?_
      refine lv_iconst (v := 0) S.1 S.2.1 dX7_run_78 (by decide) ?_
      refine pMo_empty S hK hW dX7_run_79 (fun H locs σ_7 eσ_7 hW => ?_)
      have h := nm_to eσ_7 h
      refine lv_aload_n S.1 S.2.1 dX7_run_82 rfl (lv_at hl 0 rfl) ?_
      refine lv_iconst (v := 0) S.1 S.2.1 dX7_run_83 (by decide) ?_
      refine pMo_shut S hK hW dX7_run_84 (fun H locs σ_8 eσ_8 hW => ?_)
      have h := nm_to eσ_8 h
      refine lv_aload_n S.1 S.2.1 dX7_run_87 rfl (lv_at hl 0 rfl) ?_
      refine lv_iconst (v := 0) S.1 S.2.1 dX7_run_88 (by decide) ?_
      refine pMo_thrown S hK hW dX7_run_89 (fun H locs σ_9 eσ_9 hW => ?_)
      have h := nm_to eσ_9 h
      refine lv_iconst (v := 0) S.1 S.2.1 dX7_run_92 (by decide) ?_
      refine lv_istore (lv' := [(6, .int (0 : Int32)), (0, .ref (a 0)), (1, .int v1), (2, .int v2), (3, .int v3), (4, .int v4), (5, .int v5)]) S.1 S.2.1 dX7_run_93 hl (by decide) rfl (fun ls hl => ?_)
      exact wMo_run_95 S hK hA hQ N v1 v2 v3 v4 v5 (0 : Int32) σ_9 _ _ _ h hW (lv_sub hl [1, 2, 3, 4, 5, 6, 0] rfl)
    · have h := ite_f c_5 h
      refine lv_aload_n S.1 S.2.1 dX7_run_50 rfl (lv_at hl 0 rfl) ?_
      refine gMo_sits S hK hW dX7_run_51 ?_
      refine lv_iload S.1 S.2.1 dX7_run_54 (lv_at hl 6 rfl) ?_
      refine lv_iconst (v := -1) S.1 S.2.1 dX7_run_56 (by decide) ?_
      obtain ⟨hi_10, h⟩ := gI_some h
      refine sMo_sits S hK hW hi_10 dX7_run_57 (fun H locs σ_11 eσ_11 hW => ?_)
      have h := nm_to eσ_11 h
      refine lv_aload_n S.1 S.2.1 dX7_run_58 rfl (lv_at hl 0 rfl) ?_
      refine gMo_holds S hK hW dX7_run_59 ?_
      refine lv_iload S.1 S.2.1 dX7_run_62 (lv_at hl 6 rfl) ?_
      refine lv_iconst (v := -1) S.1 S.2.1 dX7_run_64 (by decide) ?_
      obtain ⟨hi_12, h⟩ := gI_some h
      refine sMo_holds S hK hW hi_12 dX7_run_65 (fun H locs σ_13 eσ_13 hW => ?_)
      have h := nm_to eσ_13 h
      obtain ⟨x6_14, ex6_14, h⟩ := nm_some h
      refine lv_iinc (v := x6_14) (lv' := [(6, .int x6_14), (0, .ref (a 0)), (1, .int v1), (2, .int v2), (3, .int v3), (4, .int v4), (5, .int v5)]) S.1 S.2.1 dX7_run_66 hl (k := 6) rfl (by rw [ex6_14]; rfl) (by decide) rfl (fun ls hl => ?_)
      refine lv_goto (tgt := 43) S.1 S.2.1 dX7_run_69 (by decide) ?_
      exact ih v1 v2 v3 v4 v5 x6_14 σ_13 _ _ _ h hW (lv_sub hl [1, 2, 3, 4, 5, 6, 0] rfl)
set_option maxHeartbeats 4000000 in
set_option maxRecDepth 100000 in
theorem wMo_run_3 {p : Program} {l : Launch} {e : Env} {s : State} {m : MethodId} {args : Array Value} {below : List Frame} {meth : Method} {c : Code} {A : Nat → Prop} {Q : State → Prop} {D : va_G} {cs : Nat → ClassId} {a : Nat → Nat} {Λ : Nat → Int64} {σ' : St} {N : Nat} (S : Fx p m c cX7_run 7 s args RX7) (hK : va_K D vwCl (tyL cs) s) (hA : ∀ x, s.heap.size ≤ x → A x) (hQ : ∀ (H : Heap) (locs : List Loc) (pc : Nat) (ls : Array Slot), decode cX7_run pc = .ok (.return_, 1) → Wd D A s.heap (wMo cs a σ' Λ) H locs → W p l e { frames := 4, cells := 0, slots := 0, locals := 99 } s m args below meth c H locs 0 0 Q (F0 m pc ls [])) : ∀ (n_3 : Nat) (v1 : Int32) (v2 : Int32) (v3 : Int32) (v4 : Int32) (v5 : Int32) (v6 : Int32) (σ : St) (H : Heap) (locs : List Loc) (ls : Array Slot), fMo_run_3 N n_3 v1 v2 v3 v4 v5 v6 σ = some σ' → Wd D A s.heap (wMo cs a σ Λ) H locs → lv_has ls 7 [(0, .ref (a 0)), (1, .int v1), (2, .int v2), (3, .int v3), (4, .int v4), (5, .int v5), (6, .int v6)] → W p l e { frames := 4, cells := 0, slots := 0, locals := 99 } s m args below meth c H locs 0 0 Q (F0 m 3 ls []) := by
  intro n_3
  induction n_3 with
  | zero =>
    intro v1 v2 v3 v4 v5 v6 σ H locs ls h
    cases h
  | succ n_3 ih =>
    intro v1 v2 v3 v4 v5 v6 σ H locs ls h hW hl
    unfold fMo_run_3 at h
    refine lv_iload S.1 S.2.1 dX7_run_3 (lv_at hl 6 rfl) ?_
    refine lv_bipush (v := 8) S.1 S.2.1 dX7_run_5 (by decide) ?_
    refine lv_icmp_ge (tgt := 40) S.1 S.2.1 dX7_run_7 (by decide) (fun c_15 => ?_) (fun c_15 => ?_)
    · have h := ite_t c_15 h
      refine lv_iconst (v := 0) S.1 S.2.1 dX7_run_40 (by decide) ?_
      refine lv_istore (lv' := [(6, .int (0 : Int32)), (0, .ref (a 0)), (1, .int v1), (2, .int v2), (3, .int v3), (4, .int v4), (5, .int v5)]) S.1 S.2.1 dX7_run_41 hl (by decide) rfl (fun ls hl => ?_)
      exact wMo_run_43 S hK hA hQ N v1 v2 v3 v4 v5 (0 : Int32) σ _ _ _ h hW (lv_sub hl [1, 2, 3, 4, 5, 6, 0] rfl)
    · have h := ite_f c_15 h
      refine lv_aload_n S.1 S.2.1 dX7_run_10 rfl (lv_at hl 0 rfl) ?_
      refine gMo_does S hK hW dX7_run_11 ?_
      refine lv_iload S.1 S.2.1 dX7_run_14 (lv_at hl 6 rfl) ?_
      refine lv_iconst (v := 0) S.1 S.2.1 dX7_run_16 (by decide) ?_
      obtain ⟨hi_16, h⟩ := gI_some h
      refine sMo_does S hK hW hi_16 dX7_run_17 (fun H locs σ_17 eσ_17 hW => ?_)
      have h := nm_to eσ_17 h
      refine lv_aload_n S.1 S.2.1 dX7_run_18 rfl (lv_at hl 0 rfl) ?_
      refine gMo_sat S hK hW dX7_run_19 ?_
      refine lv_iload S.1 S.2.1 dX7_run_22 (lv_at hl 6 rfl) ?_
      refine lv_iconst (v := 0) S.1 S.2.1 dX7_run_24 (by decide) ?_
      obtain ⟨hi_18, h⟩ := gI_some h
      refine sMo_sat S hK hW hi_18 dX7_run_25 (fun H locs σ_19 eσ_19 hW => ?_)
      have h := nm_to eσ_19 h
      refine lv_aload_n S.1 S.2.1 dX7_run_26 rfl (lv_at hl 0 rfl) ?_
      refine gMo_held S hK hW dX7_run_27 ?_
      refine lv_iload S.1 S.2.1 dX7_run_30 (lv_at hl 6 rfl) ?_
      refine lv_iconst (v := 0) S.1 S.2.1 dX7_run_32 (by decide) ?_
      obtain ⟨hi_20, h⟩ := gI_some h
      refine sMo_held S hK hW hi_20 dX7_run_33 (fun H locs σ_21 eσ_21 hW => ?_)
      have h := nm_to eσ_21 h
      obtain ⟨x6_22, ex6_22, h⟩ := nm_some h
      refine lv_iinc (v := x6_22) (lv' := [(6, .int x6_22), (0, .ref (a 0)), (1, .int v1), (2, .int v2), (3, .int v3), (4, .int v4), (5, .int v5)]) S.1 S.2.1 dX7_run_34 hl (k := 6) rfl (by rw [ex6_22]; rfl) (by decide) rfl (fun ls hl => ?_)
      refine lv_goto (tgt := 3) S.1 S.2.1 dX7_run_37 (by decide) ?_
      exact ih v1 v2 v3 v4 v5 x6_22 σ_21 _ _ _ h hW (lv_sub hl [1, 2, 3, 4, 5, 6, 0] rfl)
set_option maxHeartbeats 4000000 in
set_option maxRecDepth 100000 in
theorem cMo_run (l : Launch) (D : va_G) (cs : Nat → ClassId) (a : Nat → Nat) (σ : St) (Λ : Nat → Int64) (p0 : Int32) (p1 : Int32) (p2 : Int32) (p3 : Int32) (p4 : Int32) (N : Nat) {σ' : St} (h : fMo_run N p0 p1 p2 p3 p4 σ = some σ') : Kv l D cs none yX7_run cX7_run 7 none 4 99 (wMo cs a σ Λ) [.ref (a 0), .int p0, .int p1, .int p2, .int p3, .int p4] (wMo cs a σ' Λ) := by
  refine Kv_of (by decide +kernel) (Nat.le_of_ble_eq_true rfl) (fun p e s m below meth c A S hK hA hZ Q hQ ls hl hW => ?_)
  have hl : lv_has ls 7 [(0, .ref (a 0)), (1, .int p0), (2, .int p1), (3, .int p2), (4, .int p3), (5, .int p4)] := hl
  unfold fMo_run at h
  refine lv_iconst (v := 0) S.1 S.2.1 dX7_run_0 (by decide) ?_
  refine lv_istore (lv' := [(6, .int (0 : Int32)), (0, .ref (a 0)), (1, .int p0), (2, .int p1), (3, .int p2), (4, .int p3), (5, .int p4)]) S.1 S.2.1 dX7_run_1 hl (by decide) rfl (fun ls hl => ?_)
  exact wMo_run_3 S hK hA hQ N p0 p1 p2 p3 p4 (0 : Int32) σ _ _ _ h hW (lv_sub hl [1, 2, 3, 4, 5, 6, 0] rfl)
set_option maxHeartbeats 4000000 in
set_option maxRecDepth 100000 in
theorem wMo_goes_3 {p : Program} {l : Launch} {e : Env} {s : State} {m : MethodId} {args : Array Value} {below : List Frame} {meth : Method} {c : Code} {A : Nat → Prop} {Q : State → Prop} {D : va_G} {cs : Nat → ClassId} {a : Nat → Nat} {Λ : Nat → Int64} {σ' : St} {N : Nat} (S : Fx p m c cX7_goes 7 s args RX7) (hK : va_K D vwCl (tyL cs) s) (hA : ∀ x, s.heap.size ≤ x → A x) (hQ : ∀ (H : Heap) (locs : List Loc) (pc : Nat) (ls : Array Slot), decode cX7_goes pc = .ok (.return_, 1) → Wd D A s.heap (wMo cs a σ' Λ) H locs → W p l e { frames := 5, cells := 0, slots := 0, locals := 125 } s m args below meth c H locs 0 0 Q (F0 m pc ls [])) : ∀ (n_3 : Nat) (v1 : Int32) (v2 : Int32) (v3 : Int32) (v4 : Int32) (v5 : Int32) (v6 : Int32) (σ : St) (H : Heap) (locs : List Loc) (ls : Array Slot), fMo_goes_3 N n_3 v1 v2 v3 v4 v5 v6 σ = some σ' → Wd D A s.heap (wMo cs a σ Λ) H locs → lv_has ls 7 [(0, .ref (a 0)), (1, .int v1), (2, .int v2), (3, .int v3), (4, .int v4), (5, .int v5), (6, .int v6)] → W p l e { frames := 5, cells := 0, slots := 0, locals := 125 } s m args below meth c H locs 0 0 Q (F0 m 3 ls []) := by
  intro n_3
  induction n_3 with
  | zero =>
    intro v1 v2 v3 v4 v5 v6 σ H locs ls h
    cases h
  | succ n_3 ih =>
    intro v1 v2 v3 v4 v5 v6 σ H locs ls h hW hl
    unfold fMo_goes_3 at h
    refine lv_iload S.1 S.2.1 dX7_goes_3 (lv_at hl 6 rfl) ?_
    refine lv_bipush (v := 8) S.1 S.2.1 dX7_goes_5 (by decide) ?_
    refine lv_icmp_ge (tgt := 24) S.1 S.2.1 dX7_goes_7 (by decide) (fun c_1 => ?_) (fun c_1 => ?_)
    · have h := ite_t c_1 h
      refine lv_aload_n S.1 S.2.1 dX7_goes_24 rfl (lv_at hl 0 rfl) ?_
      refine lv_iload_n S.1 S.2.1 dX7_goes_25 rfl (lv_at hl 1 rfl) ?_
      refine lv_iload_n S.1 S.2.1 dX7_goes_26 rfl (lv_at hl 2 rfl) ?_
      refine lv_iload_n S.1 S.2.1 dX7_goes_27 rfl (lv_at hl 3 rfl) ?_
      refine lv_iload S.1 S.2.1 dX7_goes_28 (lv_at hl 4 rfl) ?_
      refine lv_iload S.1 S.2.1 dX7_goes_30 (lv_at hl 5 rfl) ?_
      obtain ⟨σ_2, hc_3, h⟩ := cl1_some h
      have hW := kw_same hW
      refine kV_v (As := [.int v1, .int v2, .int v3, .int v4, .int v5]) (rest := []) S hK hA (z := none) trivial [] [] hW (cMo_run l D cs a σ Λ v1 v2 v3 v4 v5 N hc_3) (ci := 6) rfl rfl lk_X7_173 q853 q28 ⟨Nat.le_of_ble_eq_true rfl, Nat.le_of_ble_eq_true rfl⟩ rfl (Nat.le_of_ble_eq_true rfl) hl.1 dX7_goes_32 ⟨Nat.zero_le _, Nat.zero_le _⟩ (fun H locs hW => ?_)
      have hW : Wd D A s.heap (wMo cs a σ_2 Λ) H locs := kw_back hW
      obtain rfl := pr1 h
      exact hQ _ _ _ _ dX7_goes_35 hW
    · have h := ite_f c_1 h
      refine lv_aload_n S.1 S.2.1 dX7_goes_10 rfl (lv_at hl 0 rfl) ?_
      refine gMo_late S hK hW dX7_goes_11 ?_
      refine lv_iload S.1 S.2.1 dX7_goes_14 (lv_at hl 6 rfl) ?_
      refine lv_iconst (v := 0) S.1 S.2.1 dX7_goes_16 (by decide) ?_
      obtain ⟨hi_4, h⟩ := gI_some h
      refine sMo_late S hK hW hi_4 dX7_goes_17 (fun H locs σ_5 eσ_5 hW => ?_)
      have h := nm_to eσ_5 h
      obtain ⟨x6_6, ex6_6, h⟩ := nm_some h
      refine lv_iinc (v := x6_6) (lv' := [(6, .int x6_6), (0, .ref (a 0)), (1, .int v1), (2, .int v2), (3, .int v3), (4, .int v4), (5, .int v5)]) S.1 S.2.1 dX7_goes_18 hl (k := 6) rfl (by rw [ex6_6]; rfl) (by decide) rfl (fun ls hl => ?_)
      refine lv_goto (tgt := 3) S.1 S.2.1 dX7_goes_21 (by decide) ?_
      exact ih v1 v2 v3 v4 v5 x6_6 σ_5 _ _ _ h hW (lv_sub hl [1, 2, 3, 4, 5, 6, 0] rfl)
set_option maxHeartbeats 4000000 in
set_option maxRecDepth 100000 in
theorem cMo_goes (l : Launch) (D : va_G) (cs : Nat → ClassId) (a : Nat → Nat) (σ : St) (Λ : Nat → Int64) (p0 : Int32) (p1 : Int32) (p2 : Int32) (p3 : Int32) (p4 : Int32) (N : Nat) {σ' : St} (h : fMo_goes N p0 p1 p2 p3 p4 σ = some σ') : Kv l D cs none yX7_goes cX7_goes 7 none 5 125 (wMo cs a σ Λ) [.ref (a 0), .int p0, .int p1, .int p2, .int p3, .int p4] (wMo cs a σ' Λ) := by
  refine Kv_of (by decide +kernel) (Nat.le_of_ble_eq_true rfl) (fun p e s m below meth c A S hK hA hZ Q hQ ls hl hW => ?_)
  have hl : lv_has ls 7 [(0, .ref (a 0)), (1, .int p0), (2, .int p1), (3, .int p2), (4, .int p3), (5, .int p4)] := hl
  unfold fMo_goes at h
  refine lv_iconst (v := 0) S.1 S.2.1 dX7_goes_0 (by decide) ?_
  refine lv_istore (lv' := [(6, .int (0 : Int32)), (0, .ref (a 0)), (1, .int p0), (2, .int p1), (3, .int p2), (4, .int p3), (5, .int p4)]) S.1 S.2.1 dX7_goes_1 hl (by decide) rfl (fun ls hl => ?_)
  exact wMo_goes_3 S hK hA hQ N p0 p1 p2 p3 p4 (0 : Int32) σ _ _ _ h hW (lv_sub hl [1, 2, 3, 4, 5, 6, 0] rfl)
set_option maxHeartbeats 4000000 in
set_option maxRecDepth 100000 in
theorem cMo_whole (l : Launch) (D : va_G) (cs : Nat → ClassId) (a : Nat → Nat) (σ : St) (Λ : Nat → Int64) (p0 : Int32) (N : Nat) {σ' : St} (h : fMo_whole N p0 σ = some σ') : Kv l D cs none yX7_whole cX7_whole 2 none 6 151 (wMo cs a σ Λ) [.ref (a 0), .int p0] (wMo cs a σ' Λ) := by
  refine Kv_of (by decide +kernel) (Nat.le_of_ble_eq_true rfl) (fun p e s m below meth c A S hK hA hZ Q hQ ls hl hW => ?_)
  have hl : lv_has ls 2 [(0, .ref (a 0)), (1, .int p0)] := hl
  unfold fMo_whole at h
  refine lv_aload_n S.1 S.2.1 dX7_whole_0 rfl (lv_at hl 0 rfl) ?_
  refine lv_iload_n S.1 S.2.1 dX7_whole_1 rfl (lv_at hl 1 rfl) ?_
  refine lv_aload_n S.1 S.2.1 dX7_whole_2 rfl (lv_at hl 0 rfl) ?_
  refine gMo_holders S hK hW dX7_whole_3 ?_
  refine lv_sipush (v := 399) S.1 S.2.1 dX7_whole_6 (by decide) ?_
  refine lv_aload_n S.1 S.2.1 dX7_whole_9 rfl (lv_at hl 0 rfl) ?_
  refine gMo_told S hK hW dX7_whole_10 ?_
  refine lv_iconst (v := 0) S.1 S.2.1 dX7_whole_13 (by decide) ?_
  obtain ⟨hi_1, h⟩ := gI_some h
  refine lMo_told S hK hW hi_1 dX7_whole_14 ?_
  refine lv_aload_n S.1 S.2.1 dX7_whole_15 rfl (lv_at hl 0 rfl) ?_
  refine gMo_told S hK hW dX7_whole_16 ?_
  refine lv_iconst (v := 1) S.1 S.2.1 dX7_whole_19 (by decide) ?_
  obtain ⟨hi_2, h⟩ := gI_some h
  refine lMo_told S hK hW hi_2 dX7_whole_20 ?_
  obtain ⟨σ_3, hc_4, h⟩ := cl1_some h
  have hW := kw_same hW
  refine kV_v (As := [.int p0, .int (σ 0 8), .int (399 : Int32), .int (σ 8 (0 : Int32).toNatClampNeg), .int (σ 8 (1 : Int32).toNatClampNeg)]) (rest := []) S hK hA (z := none) trivial [] [] hW (cMo_goes l D cs a σ Λ p0 (σ 0 8) (399 : Int32) (σ 8 (0 : Int32).toNatClampNeg) (σ 8 (1 : Int32).toNatClampNeg) N hc_4) (ci := 6) rfl rfl lk_X7_180 q849 q27 ⟨Nat.le_of_ble_eq_true rfl, Nat.le_of_ble_eq_true rfl⟩ rfl (Nat.le_of_ble_eq_true rfl) hl.1 dX7_whole_21 ⟨Nat.zero_le _, Nat.zero_le _⟩ (fun H locs hW => ?_)
  have hW : Wd D A s.heap (wMo cs a σ_3 Λ) H locs := kw_back hW
  obtain rfl := pr1 h
  exact hQ _ _ _ _ dX7_whole_24 hW
set_option maxHeartbeats 4000000 in
set_option maxRecDepth 100000 in
theorem wMo_seat_43 {p : Program} {l : Launch} {e : Env} {s : State} {m : MethodId} {args : Array Value} {below : List Frame} {meth : Method} {c : Code} {A : Nat → Prop} {Q : State → Prop} {D : va_G} {cs : Nat → ClassId} {a : Nat → Nat} {Λ : Nat → Int64} {r : Int32} {σ' : St} {N : Nat} (S : Fx p m c cX7_seat 6 s args RX7) (hK : va_K D vwCl (tyL cs) s) (hA : ∀ x, s.heap.size ≤ x → A x) (hQ : ∀ (H : Heap) (locs : List Loc) (pc : Nat) (ls : Array Slot), decode cX7_seat pc = .ok (.ireturn, 1) → narrow .int (.int r) = .int r → Wd D A s.heap (wMo cs a σ' Λ) H locs → W p l e { frames := 6, cells := 0, slots := 0, locals := 151 } s m args below meth c H locs 0 0 Q (F0 m pc ls [.int r])) : ∀ (σ : St) (H : Heap) (locs : List Loc) (ls : Array Slot), fMo_seat_43 N σ = some (r, σ') → Wd D A s.heap (wMo cs a σ Λ) H locs → lv_has ls 6 [] → W p l e { frames := 6, cells := 0, slots := 0, locals := 151 } s m args below meth c H locs 0 0 Q (F0 m 43 ls []) := by
  intro σ H locs ls h hW hl
  unfold fMo_seat_43 at h
  refine lv_iconst (v := -1) S.1 S.2.1 dX7_seat_43 (by decide) ?_
  obtain ⟨rfl, rfl⟩ := pr2 h
  exact hQ _ _ _ _ dX7_seat_44 rfl hW
set_option maxHeartbeats 4000000 in
set_option maxRecDepth 100000 in
theorem wMo_seat_101 {p : Program} {l : Launch} {e : Env} {s : State} {m : MethodId} {args : Array Value} {below : List Frame} {meth : Method} {c : Code} {A : Nat → Prop} {Q : State → Prop} {D : va_G} {cs : Nat → ClassId} {a : Nat → Nat} {Λ : Nat → Int64} {r : Int32} {σ' : St} {N : Nat} (S : Fx p m c cX7_seat 6 s args RX7) (hK : va_K D vwCl (tyL cs) s) (hA : ∀ x, s.heap.size ≤ x → A x) (hQ : ∀ (H : Heap) (locs : List Loc) (pc : Nat) (ls : Array Slot), decode cX7_seat pc = .ok (.ireturn, 1) → narrow .int (.int r) = .int r → Wd D A s.heap (wMo cs a σ' Λ) H locs → W p l e { frames := 6, cells := 0, slots := 0, locals := 151 } s m args below meth c H locs 0 0 Q (F0 m pc ls [.int r])) : ∀ (k0 : Int32) (σ : St) (H : Heap) (locs : List Loc) (ls : Array Slot), fMo_seat_101 N k0 σ = some (r, σ') → Wd D A s.heap (wMo cs a σ Λ) H locs → lv_has ls 6 [] → W p l e { frames := 6, cells := 0, slots := 0, locals := 151 } s m args below meth c H locs 0 0 Q (F0 m 101 ls [.int k0]) := by
  intro k0 σ H locs ls h hW hl
  unfold fMo_seat_101 at h
  obtain ⟨rfl, rfl⟩ := pr2 h
  exact hQ _ _ _ _ dX7_seat_101 rfl hW
set_option maxHeartbeats 4000000 in
set_option maxRecDepth 100000 in
theorem wMo_seat_87 {p : Program} {l : Launch} {e : Env} {s : State} {m : MethodId} {args : Array Value} {below : List Frame} {meth : Method} {c : Code} {A : Nat → Prop} {Q : State → Prop} {D : va_G} {cs : Nat → ClassId} {a : Nat → Nat} {Λ : Nat → Int64} {r : Int32} {σ' : St} {N : Nat} (S : Fx p m c cX7_seat 6 s args RX7) (hK : va_K D vwCl (tyL cs) s) (hA : ∀ x, s.heap.size ≤ x → A x) (hQ : ∀ (H : Heap) (locs : List Loc) (pc : Nat) (ls : Array Slot), decode cX7_seat pc = .ok (.ireturn, 1) → narrow .int (.int r) = .int r → Wd D A s.heap (wMo cs a σ' Λ) H locs → W p l e { frames := 6, cells := 0, slots := 0, locals := 151 } s m args below meth c H locs 0 0 Q (F0 m pc ls [.int r])) : ∀ (k0 : Int32) (σ : St) (H : Heap) (locs : List Loc) (ls : Array Slot), fMo_seat_87 N k0 σ = some (r, σ') → Wd D A s.heap (wMo cs a σ Λ) H locs → lv_has ls 6 [] → W p l e { frames := 6, cells := 0, slots := 0, locals := 151 } s m args below meth c H locs 0 0 Q (F0 m 87 ls [.int k0]) := by
  intro k0 σ H locs ls h hW hl
  unfold fMo_seat_87 at h
  refine lv_istore (lv' := [(5, .int k0)]) S.1 S.2.1 dX7_seat_87 hl (by decide) rfl (fun ls hl => ?_)
  refine lv_iload S.1 S.2.1 dX7_seat_89 (lv_at hl 0 rfl) ?_
  refine lv_if_ge (tgt := 99) S.1 S.2.1 dX7_seat_91 (by decide) (fun c_1 => ?_) (fun c_1 => ?_)
  · have h := ite_t c_1 h
    refine lv_iload S.1 S.2.1 dX7_seat_99 (lv_at hl 0 rfl) ?_
    exact wMo_seat_101 S hK hA hQ k0 σ _ _ _ h hW (lv_sub hl [] rfl)
  · have h := ite_f c_1 h
    refine lv_bipush (v := -4) S.1 S.2.1 dX7_seat_94 (by decide) ?_
    refine lv_goto (tgt := 101) S.1 S.2.1 dX7_seat_96 (by decide) ?_
    exact wMo_seat_101 S hK hA hQ (-4 : Int32) σ _ _ _ h hW (lv_sub hl [] rfl)
set_option maxHeartbeats 4000000 in
set_option maxRecDepth 100000 in
theorem cMo_seat (l : Launch) (D : va_G) (cs : Nat → ClassId) (a : Nat → Nat) (σ : St) (Λ : Nat → Int64) (p0 : Int32) (p1 : Int32) (p2 : Int32) (p3 : Int32) (N : Nat) {r : Int32} {σ' : St} (h : fMo_seat N p0 p1 p2 p3 σ = some (r, σ')) : Ki l D cs none yX7_seat cX7_seat 6 (some .int) 6 151 (wMo cs a σ Λ) [.ref (a 0), .int p0, .int p1, .int p2, .int p3] r (wMo cs a σ' Λ) := by
  refine Ki_of (by decide +kernel) (Nat.le_of_ble_eq_true rfl) (fun p e s m below meth c A S hK hA hZ Q hQ ls hl hW => ?_)
  have hl : lv_has ls 6 [(0, .ref (a 0)), (1, .int p0), (2, .int p1), (3, .int p2), (4, .int p3)] := hl
  unfold fMo_seat at h
  refine lv_iload_n S.1 S.2.1 dX7_seat_0 rfl (lv_at hl 1 rfl) ?_
  obtain ⟨r_2, hc_3, h⟩ := cl1_some h
  refine kS_i (As := [.int p0]) (rest := []) S hK hA (z := none) trivial [] (wMo cs a σ Λ) hW (cMo_isRule l D cs p0 N hc_3) lk_X7_183 q840 ⟨Nat.le_of_ble_eq_true rfl, Nat.le_of_ble_eq_true rfl⟩ rfl (Nat.le_of_ble_eq_true rfl) hl.1 dX7_seat_1 ⟨Nat.zero_le _, Nat.zero_le _⟩ (fun H locs hW => ?_)
  have hW : Wd D A s.heap (wMo cs a σ Λ) H locs := hW
  refine lv_if_eq (tgt := 43) S.1 S.2.1 dX7_seat_4 (by decide) (fun c_4 => ?_) (fun c_4 => ?_)
  · have h := ite_t c_4 h
    exact wMo_seat_43 S hK hA hQ σ _ _ _ h hW (lv_sub hl [] rfl)
  · have h := ite_f c_4 h
    refine lv_iload_n S.1 S.2.1 dX7_seat_7 rfl (lv_at hl 2 rfl) ?_
    obtain ⟨r_5, hc_6, h⟩ := cl1_some h
    refine kS_i (As := [.int p1]) (rest := []) S hK hA (z := none) trivial [] (wMo cs a σ Λ) hW (cMo_isMinute l D cs p1 N hc_6) lk_X7_186 q844 ⟨Nat.le_of_ble_eq_true rfl, Nat.le_of_ble_eq_true rfl⟩ rfl (Nat.le_of_ble_eq_true rfl) hl.1 dX7_seat_8 ⟨Nat.zero_le _, Nat.zero_le _⟩ (fun H locs hW => ?_)
    have hW : Wd D A s.heap (wMo cs a σ Λ) H locs := hW
    refine lv_if_eq (tgt := 43) S.1 S.2.1 dX7_seat_11 (by decide) (fun c_7 => ?_) (fun c_7 => ?_)
    · have h := ite_t c_7 h
      exact wMo_seat_43 S hK hA hQ σ _ _ _ h hW (lv_sub hl [] rfl)
    · have h := ite_f c_7 h
      refine lv_iload_n S.1 S.2.1 dX7_seat_14 rfl (lv_at hl 3 rfl) ?_
      refine lv_i2l S.1 S.2.1 dX7_seat_15 rfl ?_
      refine lv_lconst (v := 0) S.1 S.2.1 dX7_seat_16 (by decide) ?_
      refine lv_aload_n S.1 S.2.1 dX7_seat_17 rfl (lv_at hl 0 rfl) ?_
      refine gMo_seats S hK hW dX7_seat_18 ?_
      refine lv_iconst (v := 0) S.1 S.2.1 dX7_seat_21 (by decide) ?_
      obtain ⟨hi_8, h⟩ := gI_some h
      refine lMo_seats S hK hW hi_8 dX7_seat_22 ?_
      refine lv_iconst (v := 1) S.1 S.2.1 dX7_seat_23 (by decide) ?_
      refine lv_isub S.1 S.2.1 dX7_seat_24 ?_
      refine lv_i2l S.1 S.2.1 dX7_seat_25 rfl ?_
      obtain ⟨r_9, hc_10, h⟩ := cl1_some h
      refine kS_i (As := [.long (p2.toInt64), .long (0 : Int64), .long (((σ 4 (0 : Int32).toNatClampNeg) - (1 : Int32)).toInt64)]) (rest := []) S hK hA (z := none) trivial [] (wMo cs a σ Λ) hW (cMo_in l D cs (p2.toInt64) (0 : Int64) (((σ 4 (0 : Int32).toNatClampNeg) - (1 : Int32)).toInt64) N hc_10) lk_X7_80 q777 ⟨Nat.le_of_ble_eq_true rfl, Nat.le_of_ble_eq_true rfl⟩ rfl (Nat.le_of_ble_eq_true rfl) hl.1 dX7_seat_26 ⟨Nat.zero_le _, Nat.zero_le _⟩ (fun H locs hW => ?_)
      have hW : Wd D A s.heap (wMo cs a σ Λ) H locs := hW
      refine lv_if_eq (tgt := 43) S.1 S.2.1 dX7_seat_29 (by decide) (fun c_11 => ?_) (fun c_11 => ?_)
      · have h := ite_t c_11 h
        exact wMo_seat_43 S hK hA hQ σ _ _ _ h hW (lv_sub hl [] rfl)
      · have h := ite_f c_11 h
        refine lv_iload S.1 S.2.1 dX7_seat_32 (lv_at hl 4 rfl) ?_
        refine lv_i2l S.1 S.2.1 dX7_seat_34 rfl ?_
        refine lv_lconst (v := 0) S.1 S.2.1 dX7_seat_35 (by decide) ?_
        refine lv_lconst (v := 1) S.1 S.2.1 dX7_seat_36 (by decide) ?_
        obtain ⟨r_12, hc_13, h⟩ := cl1_some h
        refine kS_i (As := [.long (p3.toInt64), .long (0 : Int64), .long (1 : Int64)]) (rest := []) S hK hA (z := none) trivial [] (wMo cs a σ Λ) hW (cMo_in l D cs (p3.toInt64) (0 : Int64) (1 : Int64) N hc_13) lk_X7_80 q777 ⟨Nat.le_of_ble_eq_true rfl, Nat.le_of_ble_eq_true rfl⟩ rfl (Nat.le_of_ble_eq_true rfl) hl.1 dX7_seat_37 ⟨Nat.zero_le _, Nat.zero_le _⟩ (fun H locs hW => ?_)
        have hW : Wd D A s.heap (wMo cs a σ Λ) H locs := hW
        refine lv_if_ne (tgt := 45) S.1 S.2.1 dX7_seat_40 (by decide) (fun c_14 => ?_) (fun c_14 => ?_)
        · have h := ite_f c_14 h
          refine lv_aload_n S.1 S.2.1 dX7_seat_45 rfl (lv_at hl 0 rfl) ?_
          refine lv_iload_n S.1 S.2.1 dX7_seat_46 rfl (lv_at hl 1 rfl) ?_
          refine lv_aload_n S.1 S.2.1 dX7_seat_47 rfl (lv_at hl 0 rfl) ?_
          refine gMo_holders S hK hW dX7_seat_48 ?_
          refine lv_iload_n S.1 S.2.1 dX7_seat_51 rfl (lv_at hl 2 rfl) ?_
          refine lv_aload_n S.1 S.2.1 dX7_seat_52 rfl (lv_at hl 0 rfl) ?_
          refine gMo_told S hK hW dX7_seat_53 ?_
          refine lv_iconst (v := 0) S.1 S.2.1 dX7_seat_56 (by decide) ?_
          obtain ⟨hi_15, h⟩ := gI_some h
          refine lMo_told S hK hW hi_15 dX7_seat_57 ?_
          refine lv_aload_n S.1 S.2.1 dX7_seat_58 rfl (lv_at hl 0 rfl) ?_
          refine gMo_told S hK hW dX7_seat_59 ?_
          refine lv_iconst (v := 1) S.1 S.2.1 dX7_seat_62 (by decide) ?_
          obtain ⟨hi_16, h⟩ := gI_some h
          refine lMo_told S hK hW hi_16 dX7_seat_63 ?_
          obtain ⟨σ_17, hc_18, h⟩ := cl1_some h
          have hW := kw_same hW
          refine kV_v (As := [.int p0, .int (σ 0 8), .int p1, .int (σ 8 (0 : Int32).toNatClampNeg), .int (σ 8 (1 : Int32).toNatClampNeg)]) (rest := []) S hK hA (z := none) trivial [] [] hW (cMo_goes l D cs a σ Λ p0 (σ 0 8) p1 (σ 8 (0 : Int32).toNatClampNeg) (σ 8 (1 : Int32).toNatClampNeg) N hc_18) (ci := 6) rfl rfl lk_X7_180 q849 q27 ⟨Nat.le_of_ble_eq_true rfl, Nat.le_of_ble_eq_true rfl⟩ rfl (Nat.le_of_ble_eq_true rfl) hl.1 dX7_seat_64 ⟨Nat.zero_le _, Nat.zero_le _⟩ (fun H locs hW => ?_)
          have hW : Wd D A s.heap (wMo cs a σ_17 Λ) H locs := kw_back hW
          refine lv_iload S.1 S.2.1 dX7_seat_67 (lv_at hl 4 rfl) ?_
          refine lv_if_ne (tgt := 81) S.1 S.2.1 dX7_seat_69 (by decide) (fun c_19 => ?_) (fun c_19 => ?_)
          · have h := ite_f c_19 h
            refine lv_aload_n S.1 S.2.1 dX7_seat_81 rfl (lv_at hl 0 rfl) ?_
            refine gMo_holds S hK hW dX7_seat_82 ?_
            refine lv_iload_n S.1 S.2.1 dX7_seat_85 rfl (lv_at hl 3 rfl) ?_
            obtain ⟨hi_20, h⟩ := gI_some h
            refine lMo_holds S hK hW hi_20 dX7_seat_86 ?_
            exact wMo_seat_87 S hK hA hQ (σ_17 20 p2.toNatClampNeg) σ_17 _ _ _ h hW (lv_sub hl [] rfl)
          · have h := ite_t c_19 h
            refine lv_aload_n S.1 S.2.1 dX7_seat_72 rfl (lv_at hl 0 rfl) ?_
            refine gMo_sits S hK hW dX7_seat_73 ?_
            refine lv_iload_n S.1 S.2.1 dX7_seat_76 rfl (lv_at hl 3 rfl) ?_
            obtain ⟨hi_21, h⟩ := gI_some h
            refine lMo_sits S hK hW hi_21 dX7_seat_77 ?_
            refine lv_goto (tgt := 87) S.1 S.2.1 dX7_seat_78 (by decide) ?_
            exact wMo_seat_87 S hK hA hQ (σ_17 19 p2.toNatClampNeg) σ_17 _ _ _ h hW (lv_sub hl [] rfl)
        · have h := ite_t c_14 h
          exact wMo_seat_43 S hK hA hQ σ _ _ _ h hW (lv_sub hl [] rfl)
set_option maxHeartbeats 4000000 in
set_option maxRecDepth 100000 in
theorem wMo_does_22 {p : Program} {l : Launch} {e : Env} {s : State} {m : MethodId} {args : Array Value} {below : List Frame} {meth : Method} {c : Code} {A : Nat → Prop} {Q : State → Prop} {D : va_G} {cs : Nat → ClassId} {a : Nat → Nat} {Λ : Nat → Int64} {r : Int32} {σ' : St} {N : Nat} (S : Fx p m c cX7_does 4 s args RX7) (hK : va_K D vwCl (tyL cs) s) (hA : ∀ x, s.heap.size ≤ x → A x) (hQ : ∀ (H : Heap) (locs : List Loc) (pc : Nat) (ls : Array Slot), decode cX7_does pc = .ok (.ireturn, 1) → narrow .int (.int r) = .int r → Wd D A s.heap (wMo cs a σ' Λ) H locs → W p l e { frames := 6, cells := 0, slots := 0, locals := 151 } s m args below meth c H locs 0 0 Q (F0 m pc ls [.int r])) : ∀ (σ : St) (H : Heap) (locs : List Loc) (ls : Array Slot), fMo_does_22 N σ = some (r, σ') → Wd D A s.heap (wMo cs a σ Λ) H locs → lv_has ls 4 [] → W p l e { frames := 6, cells := 0, slots := 0, locals := 151 } s m args below meth c H locs 0 0 Q (F0 m 22 ls []) := by
  intro σ H locs ls h hW hl
  unfold fMo_does_22 at h
  refine lv_iconst (v := -1) S.1 S.2.1 dX7_does_22 (by decide) ?_
  obtain ⟨rfl, rfl⟩ := pr2 h
  exact hQ _ _ _ _ dX7_does_23 rfl hW
set_option maxHeartbeats 4000000 in
set_option maxRecDepth 100000 in
theorem cMo_does (l : Launch) (D : va_G) (cs : Nat → ClassId) (a : Nat → Nat) (σ : St) (Λ : Nat → Int64) (p0 : Int32) (p1 : Int32) (p2 : Int32) (N : Nat) {r : Int32} {σ' : St} (h : fMo_does N p0 p1 p2 σ = some (r, σ')) : Ki l D cs none yX7_does cX7_does 4 (some .int) 6 151 (wMo cs a σ Λ) [.ref (a 0), .int p0, .int p1, .int p2] r (wMo cs a σ' Λ) := by
  refine Ki_of (by decide +kernel) (Nat.le_of_ble_eq_true rfl) (fun p e s m below meth c A S hK hA hZ Q hQ ls hl hW => ?_)
  have hl : lv_has ls 4 [(0, .ref (a 0)), (1, .int p0), (2, .int p1), (3, .int p2)] := hl
  unfold fMo_does at h
  refine lv_iload_n S.1 S.2.1 dX7_does_0 rfl (lv_at hl 1 rfl) ?_
  obtain ⟨r_1, hc_2, h⟩ := cl1_some h
  refine kS_i (As := [.int p0]) (rest := []) S hK hA (z := none) trivial [] (wMo cs a σ Λ) hW (cMo_isRule l D cs p0 N hc_2) lk_X7_183 q840 ⟨Nat.le_of_ble_eq_true rfl, Nat.le_of_ble_eq_true rfl⟩ rfl (Nat.le_of_ble_eq_true rfl) hl.1 dX7_does_1 ⟨Nat.zero_le _, Nat.zero_le _⟩ (fun H locs hW => ?_)
  have hW : Wd D A s.heap (wMo cs a σ Λ) H locs := hW
  refine lv_if_eq (tgt := 22) S.1 S.2.1 dX7_does_4 (by decide) (fun c_3 => ?_) (fun c_3 => ?_)
  · have h := ite_t c_3 h
    exact wMo_does_22 S hK hA hQ σ _ _ _ h hW (lv_sub hl [] rfl)
  · have h := ite_f c_3 h
    refine lv_iload_n S.1 S.2.1 dX7_does_7 rfl (lv_at hl 2 rfl) ?_
    obtain ⟨r_4, hc_5, h⟩ := cl1_some h
    refine kS_i (As := [.int p1]) (rest := []) S hK hA (z := none) trivial [] (wMo cs a σ Λ) hW (cMo_isMinute l D cs p1 N hc_5) lk_X7_186 q844 ⟨Nat.le_of_ble_eq_true rfl, Nat.le_of_ble_eq_true rfl⟩ rfl (Nat.le_of_ble_eq_true rfl) hl.1 dX7_does_8 ⟨Nat.zero_le _, Nat.zero_le _⟩ (fun H locs hW => ?_)
    have hW : Wd D A s.heap (wMo cs a σ Λ) H locs := hW
    refine lv_if_eq (tgt := 22) S.1 S.2.1 dX7_does_11 (by decide) (fun c_6 => ?_) (fun c_6 => ?_)
    · have h := ite_t c_6 h
      exact wMo_does_22 S hK hA hQ σ _ _ _ h hW (lv_sub hl [] rfl)
    · have h := ite_f c_6 h
      refine lv_aload_n S.1 S.2.1 dX7_does_14 rfl (lv_at hl 0 rfl) ?_
      refine lv_iload_n S.1 S.2.1 dX7_does_15 rfl (lv_at hl 3 rfl) ?_
      obtain ⟨r_7, hc_8, h⟩ := cl1_some h
      have hW := kw_same hW
      refine kV_i (As := [.int p2]) (rest := []) S hK hA (z := none) trivial [] [] hW (cMo_isReader l D cs a σ Λ p2 N hc_8) (ci := 6) rfl rfl lk_X7_130 q820 q25 ⟨Nat.le_of_ble_eq_true rfl, Nat.le_of_ble_eq_true rfl⟩ rfl (Nat.le_of_ble_eq_true rfl) hl.1 dX7_does_16 ⟨Nat.zero_le _, Nat.zero_le _⟩ (fun H locs hW => ?_)
      have hW : Wd D A s.heap (wMo cs a σ Λ) H locs := kw_back hW
      refine lv_if_ne (tgt := 24) S.1 S.2.1 dX7_does_19 (by decide) (fun c_9 => ?_) (fun c_9 => ?_)
      · have h := ite_f c_9 h
        refine lv_aload_n S.1 S.2.1 dX7_does_24 rfl (lv_at hl 0 rfl) ?_
        refine lv_iload_n S.1 S.2.1 dX7_does_25 rfl (lv_at hl 1 rfl) ?_
        refine lv_aload_n S.1 S.2.1 dX7_does_26 rfl (lv_at hl 0 rfl) ?_
        refine gMo_holders S hK hW dX7_does_27 ?_
        refine lv_iload_n S.1 S.2.1 dX7_does_30 rfl (lv_at hl 2 rfl) ?_
        refine lv_aload_n S.1 S.2.1 dX7_does_31 rfl (lv_at hl 0 rfl) ?_
        refine gMo_told S hK hW dX7_does_32 ?_
        refine lv_iconst (v := 0) S.1 S.2.1 dX7_does_35 (by decide) ?_
        obtain ⟨hi_10, h⟩ := gI_some h
        refine lMo_told S hK hW hi_10 dX7_does_36 ?_
        refine lv_aload_n S.1 S.2.1 dX7_does_37 rfl (lv_at hl 0 rfl) ?_
        refine gMo_told S hK hW dX7_does_38 ?_
        refine lv_iconst (v := 1) S.1 S.2.1 dX7_does_41 (by decide) ?_
        obtain ⟨hi_11, h⟩ := gI_some h
        refine lMo_told S hK hW hi_11 dX7_does_42 ?_
        obtain ⟨σ_12, hc_13, h⟩ := cl1_some h
        have hW := kw_same hW
        refine kV_v (As := [.int p0, .int (σ 0 8), .int p1, .int (σ 8 (0 : Int32).toNatClampNeg), .int (σ 8 (1 : Int32).toNatClampNeg)]) (rest := []) S hK hA (z := none) trivial [] [] hW (cMo_goes l D cs a σ Λ p0 (σ 0 8) p1 (σ 8 (0 : Int32).toNatClampNeg) (σ 8 (1 : Int32).toNatClampNeg) N hc_13) (ci := 6) rfl rfl lk_X7_180 q849 q27 ⟨Nat.le_of_ble_eq_true rfl, Nat.le_of_ble_eq_true rfl⟩ rfl (Nat.le_of_ble_eq_true rfl) hl.1 dX7_does_43 ⟨Nat.zero_le _, Nat.zero_le _⟩ (fun H locs hW => ?_)
        have hW : Wd D A s.heap (wMo cs a σ_12 Λ) H locs := kw_back hW
        refine lv_aload_n S.1 S.2.1 dX7_does_46 rfl (lv_at hl 0 rfl) ?_
        refine gMo_does S hK hW dX7_does_47 ?_
        refine lv_iload_n S.1 S.2.1 dX7_does_50 rfl (lv_at hl 3 rfl) ?_
        obtain ⟨hi_14, h⟩ := gI_some h
        refine lMo_does S hK hW hi_14 dX7_does_51 ?_
        obtain ⟨rfl, rfl⟩ := pr2 h
        exact hQ _ _ _ _ dX7_does_52 rfl hW
      · have h := ite_t c_9 h
        exact wMo_does_22 S hK hA hQ σ _ _ _ h hW (lv_sub hl [] rfl)
set_option maxHeartbeats 4000000 in
set_option maxRecDepth 100000 in
theorem wMo_many_4 {p : Program} {l : Launch} {e : Env} {s : State} {m : MethodId} {args : Array Value} {below : List Frame} {meth : Method} {c : Code} {A : Nat → Prop} {Q : State → Prop} {D : va_G} {cs : Nat → ClassId} {r : Int32} {N : Nat} (S : Fx p m c cX7_many 3 s args RX7) (hK : va_K D vwCl (tyL cs) s) (hA : ∀ x, s.heap.size ≤ x → A x) (hQ : ∀ (H : Heap) (locs : List Loc) (pc : Nat) (ls : Array Slot), decode cX7_many pc = .ok (.ireturn, 1) → narrow .int (.int r) = .int r → Wd D A s.heap [] H locs → W p l e { frames := 0, cells := 0, slots := 0, locals := 0 } s m args below meth c H locs 0 0 Q (F0 m pc ls [.int r])) : ∀ (n_4 : Nat) (v0 : Int32) (v1 : Int32) (v2 : Int32) (H : Heap) (locs : List Loc) (ls : Array Slot), fMo_many_4 N n_4 v0 v1 v2 = some r → Wd D A s.heap [] H locs → lv_has ls 3 [(0, .int v0), (1, .int v1), (2, .int v2)] → W p l e { frames := 0, cells := 0, slots := 0, locals := 0 } s m args below meth c H locs 0 0 Q (F0 m 4 ls []) := by
  intro n_4
  induction n_4 with
  | zero =>
    intro v0 v1 v2 H locs ls h
    cases h
  | succ n_4 ih =>
    intro v0 v1 v2 H locs ls h hW hl
    unfold fMo_many_4 at h
    refine lv_iload_n S.1 S.2.1 dX7_many_4 rfl (lv_at hl 2 rfl) ?_
    refine lv_bipush (v := 8) S.1 S.2.1 dX7_many_5 (by decide) ?_
    refine lv_icmp_ge (tgt := 24) S.1 S.2.1 dX7_many_7 (by decide) (fun c_1 => ?_) (fun c_1 => ?_)
    · have h := ite_t c_1 h
      refine lv_iload_n S.1 S.2.1 dX7_many_24 rfl (lv_at hl 1 rfl) ?_
      obtain rfl := pr1 h
      exact hQ _ _ _ _ dX7_many_25 rfl hW
    · have h := ite_f c_1 h
      refine lv_iload_n S.1 S.2.1 dX7_many_10 rfl (lv_at hl 1 rfl) ?_
      refine lv_iload_n S.1 S.2.1 dX7_many_11 rfl (lv_at hl 0 rfl) ?_
      refine lv_iload_n S.1 S.2.1 dX7_many_12 rfl (lv_at hl 2 rfl) ?_
      refine lv_ishr S.1 S.2.1 dX7_many_13 ?_
      refine lv_iconst (v := 1) S.1 S.2.1 dX7_many_14 (by decide) ?_
      refine lv_iand S.1 S.2.1 dX7_many_15 ?_
      refine lv_iadd S.1 S.2.1 dX7_many_16 ?_
      refine lv_topi (fun x1_2 ex1_2 => ?_)
      have h := nm_to ex1_2 h
      refine lv_istore_n (lv' := [(1, .int x1_2), (0, .int v0), (2, .int v2)]) S.1 S.2.1 dX7_many_17 rfl hl (by decide) rfl (fun ls hl => ?_)
      obtain ⟨x2_3, ex2_3, h⟩ := nm_some h
      refine lv_iinc (v := x2_3) (lv' := [(2, .int x2_3), (1, .int x1_2), (0, .int v0)]) S.1 S.2.1 dX7_many_18 hl (k := 2) rfl (by rw [ex2_3]; rfl) (by decide) rfl (fun ls hl => ?_)
      refine lv_goto (tgt := 4) S.1 S.2.1 dX7_many_21 (by decide) ?_
      exact ih v0 x1_2 x2_3 _ _ _ h hW (lv_sub hl [2, 1, 0] rfl)
set_option maxHeartbeats 4000000 in
set_option maxRecDepth 100000 in
theorem cMo_many (l : Launch) (D : va_G) (cs : Nat → ClassId) (p0 : Int32) (N : Nat) {r : Int32} (h : fMo_many N p0 = some r) : Ki l D cs none yX7_many cX7_many 3 (some .int) 0 0 [] [.int p0] r [] := by
  refine Ki_of (by decide +kernel) (Nat.le_of_ble_eq_true rfl) (fun p e s m below meth c A S hK hA hZ Q hQ ls hl hW => ?_)
  have hl : lv_has ls 3 [(0, .int p0)] := hl
  unfold fMo_many at h
  refine lv_iconst (v := 0) S.1 S.2.1 dX7_many_0 (by decide) ?_
  refine lv_istore_n (lv' := [(1, .int (0 : Int32)), (0, .int p0)]) S.1 S.2.1 dX7_many_1 rfl hl (by decide) rfl (fun ls hl => ?_)
  refine lv_iconst (v := 0) S.1 S.2.1 dX7_many_2 (by decide) ?_
  refine lv_istore_n (lv' := [(2, .int (0 : Int32)), (1, .int (0 : Int32)), (0, .int p0)]) S.1 S.2.1 dX7_many_3 rfl hl (by decide) rfl (fun ls hl => ?_)
  exact wMo_many_4 S hK hA hQ N p0 (0 : Int32) (0 : Int32) _ _ _ h hW (lv_sub hl [2, 1, 0] rfl)
set_option maxHeartbeats 4000000 in
set_option maxRecDepth 100000 in
theorem wMo_day_19 {p : Program} {l : Launch} {e : Env} {s : State} {m : MethodId} {args : Array Value} {below : List Frame} {meth : Method} {c : Code} {A : Nat → Prop} {Q : State → Prop} {D : va_G} {cs : Nat → ClassId} {a : Nat → Nat} {Λ : Nat → Int64} {r : Int32} {σ' : St} {N : Nat} (S : Fx p m c cX7_day 3 s args RX7) (hK : va_K D vwCl (tyL cs) s) (hA : ∀ x, s.heap.size ≤ x → A x) (hQ : ∀ (H : Heap) (locs : List Loc) (pc : Nat) (ls : Array Slot), decode cX7_day pc = .ok (.ireturn, 1) → narrow .int (.int r) = .int r → Wd D A s.heap (wMo cs a σ' Λ) H locs → W p l e { frames := 7, cells := 0, slots := 0, locals := 172 } s m args below meth c H locs 0 0 Q (F0 m pc ls [.int r])) : ∀ (σ : St) (H : Heap) (locs : List Loc) (ls : Array Slot), fMo_day_19 N σ = some (r, σ') → Wd D A s.heap (wMo cs a σ Λ) H locs → lv_has ls 3 [] → W p l e { frames := 7, cells := 0, slots := 0, locals := 172 } s m args below meth c H locs 0 0 Q (F0 m 19 ls []) := by
  intro σ H locs ls h hW hl
  unfold fMo_day_19 at h
  refine lv_iconst (v := -1) S.1 S.2.1 dX7_day_19 (by decide) ?_
  obtain ⟨rfl, rfl⟩ := pr2 h
  exact hQ _ _ _ _ dX7_day_20 rfl hW
set_option maxHeartbeats 4000000 in
set_option maxRecDepth 100000 in
theorem wMo_day_95 {p : Program} {l : Launch} {e : Env} {s : State} {m : MethodId} {args : Array Value} {below : List Frame} {meth : Method} {c : Code} {A : Nat → Prop} {Q : State → Prop} {D : va_G} {cs : Nat → ClassId} {a : Nat → Nat} {Λ : Nat → Int64} {r : Int32} {σ' : St} {N : Nat} (S : Fx p m c cX7_day 3 s args RX7) (hK : va_K D vwCl (tyL cs) s) (hA : ∀ x, s.heap.size ≤ x → A x) (hQ : ∀ (H : Heap) (locs : List Loc) (pc : Nat) (ls : Array Slot), decode cX7_day pc = .ok (.ireturn, 1) → narrow .int (.int r) = .int r → Wd D A s.heap (wMo cs a σ' Λ) H locs → W p l e { frames := 7, cells := 0, slots := 0, locals := 172 } s m args below meth c H locs 0 0 Q (F0 m pc ls [.int r])) : ∀ (k0 : Int32) (σ : St) (H : Heap) (locs : List Loc) (ls : Array Slot), fMo_day_95 N k0 σ = some (r, σ') → Wd D A s.heap (wMo cs a σ Λ) H locs → lv_has ls 3 [] → W p l e { frames := 7, cells := 0, slots := 0, locals := 172 } s m args below meth c H locs 0 0 Q (F0 m 95 ls [.int k0]) := by
  intro k0 σ H locs ls h hW hl
  unfold fMo_day_95 at h
  obtain ⟨rfl, rfl⟩ := pr2 h
  exact hQ _ _ _ _ dX7_day_95 rfl hW
set_option maxHeartbeats 4000000 in
set_option maxRecDepth 100000 in
theorem cMo_day (l : Launch) (D : va_G) (cs : Nat → ClassId) (a : Nat → Nat) (σ : St) (Λ : Nat → Int64) (p0 : Int32) (p1 : Int32) (N : Nat) {r : Int32} {σ' : St} (h : fMo_day N p0 p1 σ = some (r, σ')) : Ki l D cs none yX7_day cX7_day 3 (some .int) 7 172 (wMo cs a σ Λ) [.ref (a 0), .int p0, .int p1] r (wMo cs a σ' Λ) := by
  refine Ki_of (by decide +kernel) (Nat.le_of_ble_eq_true rfl) (fun p e s m below meth c A S hK hA hZ Q hQ ls hl hW => ?_)
  have hl : lv_has ls 3 [(0, .ref (a 0)), (1, .int p0), (2, .int p1)] := hl
  unfold fMo_day at h
  refine lv_iload_n S.1 S.2.1 dX7_day_0 rfl (lv_at hl 1 rfl) ?_
  obtain ⟨r_1, hc_2, h⟩ := cl1_some h
  refine kS_i (As := [.int p0]) (rest := []) S hK hA (z := none) trivial [] (wMo cs a σ Λ) hW (cMo_isRule l D cs p0 N hc_2) lk_X7_183 q840 ⟨Nat.le_of_ble_eq_true rfl, Nat.le_of_ble_eq_true rfl⟩ rfl (Nat.le_of_ble_eq_true rfl) hl.1 dX7_day_1 ⟨Nat.zero_le _, Nat.zero_le _⟩ (fun H locs hW => ?_)
  have hW : Wd D A s.heap (wMo cs a σ Λ) H locs := hW
  refine lv_if_eq (tgt := 19) S.1 S.2.1 dX7_day_4 (by decide) (fun c_3 => ?_) (fun c_3 => ?_)
  · have h := ite_t c_3 h
    exact wMo_day_19 S hK hA hQ σ _ _ _ h hW (lv_sub hl [] rfl)
  · have h := ite_f c_3 h
    refine lv_iload_n S.1 S.2.1 dX7_day_7 rfl (lv_at hl 2 rfl) ?_
    refine lv_i2l S.1 S.2.1 dX7_day_8 rfl ?_
    refine lv_lconst (v := 0) S.1 S.2.1 dX7_day_9 (by decide) ?_
    refine lv_ldc2 (v := 5) S.1 S.2.1 S.2.2.2.1 (S.2.2.2.2 _ q890) dX7_day_10 ?_
    obtain ⟨r_4, hc_5, h⟩ := cl1_some h
    refine kS_i (As := [.long (p1.toInt64), .long (0 : Int64), .long (5 : Int64)]) (rest := []) S hK hA (z := none) trivial [] (wMo cs a σ Λ) hW (cMo_in l D cs (p1.toInt64) (0 : Int64) (5 : Int64) N hc_5) lk_X7_80 q777 ⟨Nat.le_of_ble_eq_true rfl, Nat.le_of_ble_eq_true rfl⟩ rfl (Nat.le_of_ble_eq_true rfl) hl.1 dX7_day_13 ⟨Nat.zero_le _, Nat.zero_le _⟩ (fun H locs hW => ?_)
    have hW : Wd D A s.heap (wMo cs a σ Λ) H locs := hW
    refine lv_if_ne (tgt := 21) S.1 S.2.1 dX7_day_16 (by decide) (fun c_6 => ?_) (fun c_6 => ?_)
    · have h := ite_f c_6 h
      refine lv_aload_n S.1 S.2.1 dX7_day_21 rfl (lv_at hl 0 rfl) ?_
      refine lv_iload_n S.1 S.2.1 dX7_day_22 rfl (lv_at hl 1 rfl) ?_
      obtain ⟨σ_7, hc_8, h⟩ := cl1_some h
      have hW := kw_same hW
      refine kV_v (As := [.int p0]) (rest := []) S hK hA (z := none) trivial [] [] hW (cMo_whole l D cs a σ Λ p0 N hc_8) (ci := 6) rfl rfl lk_X7_191 q893 q35 ⟨Nat.le_of_ble_eq_true rfl, Nat.le_of_ble_eq_true rfl⟩ rfl (Nat.le_of_ble_eq_true rfl) hl.1 dX7_day_23 ⟨Nat.zero_le _, Nat.zero_le _⟩ (fun H locs hW => ?_)
      have hW : Wd D A s.heap (wMo cs a σ_7 Λ) H locs := kw_back hW
      refine lv_iload_n S.1 S.2.1 dX7_day_26 rfl (lv_at hl 2 rfl) ?_
      refine lv_if_ne (tgt := 37) S.1 S.2.1 dX7_day_27 (by decide) (fun c_9 => ?_) (fun c_9 => ?_)
      · have h := ite_f c_9 h
        refine lv_iload_n S.1 S.2.1 dX7_day_37 rfl (lv_at hl 2 rfl) ?_
        refine lv_iconst (v := 1) S.1 S.2.1 dX7_day_38 (by decide) ?_
        refine lv_icmp_ne (tgt := 49) S.1 S.2.1 dX7_day_39 (by decide) (fun c_10 => ?_) (fun c_10 => ?_)
        · have h := ite_f c_10 h
          refine lv_iload_n S.1 S.2.1 dX7_day_49 rfl (lv_at hl 2 rfl) ?_
          refine lv_iconst (v := 2) S.1 S.2.1 dX7_day_50 (by decide) ?_
          refine lv_icmp_ne (tgt := 64) S.1 S.2.1 dX7_day_51 (by decide) (fun c_11 => ?_) (fun c_11 => ?_)
          · have h := ite_f c_11 h
            refine lv_iload_n S.1 S.2.1 dX7_day_64 rfl (lv_at hl 2 rfl) ?_
            refine lv_iconst (v := 3) S.1 S.2.1 dX7_day_65 (by decide) ?_
            refine lv_icmp_ne (tgt := 76) S.1 S.2.1 dX7_day_66 (by decide) (fun c_12 => ?_) (fun c_12 => ?_)
            · have h := ite_f c_12 h
              refine lv_iload_n S.1 S.2.1 dX7_day_76 rfl (lv_at hl 2 rfl) ?_
              refine lv_iconst (v := 4) S.1 S.2.1 dX7_day_77 (by decide) ?_
              refine lv_icmp_ne (tgt := 91) S.1 S.2.1 dX7_day_78 (by decide) (fun c_13 => ?_) (fun c_13 => ?_)
              · have h := ite_f c_13 h
                refine lv_aload_n S.1 S.2.1 dX7_day_91 rfl (lv_at hl 0 rfl) ?_
                refine gMo_thrown S hK hW dX7_day_92 ?_
                exact wMo_day_95 S hK hA hQ (σ_7 0 23) σ_7 _ _ _ h hW (lv_sub hl [] rfl)
              · have h := ite_t c_13 h
                refine lv_aload_n S.1 S.2.1 dX7_day_81 rfl (lv_at hl 0 rfl) ?_
                refine gMo_thrown S hK hW dX7_day_82 ?_
                obtain ⟨r_14, hc_15, h⟩ := cl1_some h
                refine kS_i (As := [.int (σ_7 0 23)]) (rest := []) S hK hA (z := none) trivial [] (wMo cs a σ_7 Λ) hW (cMo_many l D cs (σ_7 0 23) N hc_15) lk_X7_195 q896 ⟨Nat.le_of_ble_eq_true rfl, Nat.le_of_ble_eq_true rfl⟩ rfl (Nat.le_of_ble_eq_true rfl) hl.1 dX7_day_85 ⟨Nat.zero_le _, Nat.zero_le _⟩ (fun H locs hW => ?_)
                have hW : Wd D A s.heap (wMo cs a σ_7 Λ) H locs := hW
                refine lv_goto (tgt := 95) S.1 S.2.1 dX7_day_88 (by decide) ?_
                exact wMo_day_95 S hK hA hQ r_14 σ_7 _ _ _ h hW (lv_sub hl [] rfl)
            · have h := ite_t c_12 h
              refine lv_aload_n S.1 S.2.1 dX7_day_69 rfl (lv_at hl 0 rfl) ?_
              refine gMo_shut S hK hW dX7_day_70 ?_
              refine lv_goto (tgt := 95) S.1 S.2.1 dX7_day_73 (by decide) ?_
              exact wMo_day_95 S hK hA hQ (σ_7 0 22) σ_7 _ _ _ h hW (lv_sub hl [] rfl)
          · have h := ite_t c_11 h
            refine lv_aload_n S.1 S.2.1 dX7_day_54 rfl (lv_at hl 0 rfl) ?_
            refine gMo_shut S hK hW dX7_day_55 ?_
            obtain ⟨r_16, hc_17, h⟩ := cl1_some h
            refine kS_i (As := [.int (σ_7 0 22)]) (rest := []) S hK hA (z := none) trivial [] (wMo cs a σ_7 Λ) hW (cMo_many l D cs (σ_7 0 22) N hc_17) lk_X7_195 q896 ⟨Nat.le_of_ble_eq_true rfl, Nat.le_of_ble_eq_true rfl⟩ rfl (Nat.le_of_ble_eq_true rfl) hl.1 dX7_day_58 ⟨Nat.zero_le _, Nat.zero_le _⟩ (fun H locs hW => ?_)
            have hW : Wd D A s.heap (wMo cs a σ_7 Λ) H locs := hW
            refine lv_goto (tgt := 95) S.1 S.2.1 dX7_day_61 (by decide) ?_
            exact wMo_day_95 S hK hA hQ r_16 σ_7 _ _ _ h hW (lv_sub hl [] rfl)
        · have h := ite_t c_10 h
          refine lv_aload_n S.1 S.2.1 dX7_day_42 rfl (lv_at hl 0 rfl) ?_
          refine gMo_empty S hK hW dX7_day_43 ?_
          refine lv_goto (tgt := 95) S.1 S.2.1 dX7_day_46 (by decide) ?_
          exact wMo_day_95 S hK hA hQ (σ_7 0 21) σ_7 _ _ _ h hW (lv_sub hl [] rfl)
      · have h := ite_t c_9 h
        refine lv_aload_n S.1 S.2.1 dX7_day_30 rfl (lv_at hl 0 rfl) ?_
        refine gMo_used S hK hW dX7_day_31 ?_
        refine lv_goto (tgt := 95) S.1 S.2.1 dX7_day_34 (by decide) ?_
        exact wMo_day_95 S hK hA hQ (σ_7 0 20) σ_7 _ _ _ h hW (lv_sub hl [] rfl)
    · have h := ite_t c_6 h
      exact wMo_day_19 S hK hA hQ σ _ _ _ h hW (lv_sub hl [] rfl)
set_option maxHeartbeats 4000000 in
set_option maxRecDepth 100000 in
theorem wMo_sat_15 {p : Program} {l : Launch} {e : Env} {s : State} {m : MethodId} {args : Array Value} {below : List Frame} {meth : Method} {c : Code} {A : Nat → Prop} {Q : State → Prop} {D : va_G} {cs : Nat → ClassId} {a : Nat → Nat} {Λ : Nat → Int64} {r : Int32} {σ' : St} {N : Nat} (S : Fx p m c cX7_sat 3 s args RX7) (hK : va_K D vwCl (tyL cs) s) (hA : ∀ x, s.heap.size ≤ x → A x) (hQ : ∀ (H : Heap) (locs : List Loc) (pc : Nat) (ls : Array Slot), decode cX7_sat pc = .ok (.ireturn, 1) → narrow .int (.int r) = .int r → Wd D A s.heap (wMo cs a σ' Λ) H locs → W p l e { frames := 7, cells := 0, slots := 0, locals := 172 } s m args below meth c H locs 0 0 Q (F0 m pc ls [.int r])) : ∀ (σ : St) (H : Heap) (locs : List Loc) (ls : Array Slot), fMo_sat_15 N σ = some (r, σ') → Wd D A s.heap (wMo cs a σ Λ) H locs → lv_has ls 3 [] → W p l e { frames := 7, cells := 0, slots := 0, locals := 172 } s m args below meth c H locs 0 0 Q (F0 m 15 ls []) := by
  intro σ H locs ls h hW hl
  unfold fMo_sat_15 at h
  refine lv_iconst (v := -1) S.1 S.2.1 dX7_sat_15 (by decide) ?_
  obtain ⟨rfl, rfl⟩ := pr2 h
  exact hQ _ _ _ _ dX7_sat_16 rfl hW
set_option maxHeartbeats 4000000 in
set_option maxRecDepth 100000 in
theorem cMo_sat (l : Launch) (D : va_G) (cs : Nat → ClassId) (a : Nat → Nat) (σ : St) (Λ : Nat → Int64) (p0 : Int32) (p1 : Int32) (N : Nat) {r : Int32} {σ' : St} (h : fMo_sat N p0 p1 σ = some (r, σ')) : Ki l D cs none yX7_sat cX7_sat 3 (some .int) 7 172 (wMo cs a σ Λ) [.ref (a 0), .int p0, .int p1] r (wMo cs a σ' Λ) := by
  refine Ki_of (by decide +kernel) (Nat.le_of_ble_eq_true rfl) (fun p e s m below meth c A S hK hA hZ Q hQ ls hl hW => ?_)
  have hl : lv_has ls 3 [(0, .ref (a 0)), (1, .int p0), (2, .int p1)] := hl
  unfold fMo_sat at h
  refine lv_iload_n S.1 S.2.1 dX7_sat_0 rfl (lv_at hl 1 rfl) ?_
  obtain ⟨r_1, hc_2, h⟩ := cl1_some h
  refine kS_i (As := [.int p0]) (rest := []) S hK hA (z := none) trivial [] (wMo cs a σ Λ) hW (cMo_isRule l D cs p0 N hc_2) lk_X7_183 q840 ⟨Nat.le_of_ble_eq_true rfl, Nat.le_of_ble_eq_true rfl⟩ rfl (Nat.le_of_ble_eq_true rfl) hl.1 dX7_sat_1 ⟨Nat.zero_le _, Nat.zero_le _⟩ (fun H locs hW => ?_)
  have hW : Wd D A s.heap (wMo cs a σ Λ) H locs := hW
  refine lv_if_eq (tgt := 15) S.1 S.2.1 dX7_sat_4 (by decide) (fun c_3 => ?_) (fun c_3 => ?_)
  · have h := ite_t c_3 h
    exact wMo_sat_15 S hK hA hQ σ _ _ _ h hW (lv_sub hl [] rfl)
  · have h := ite_f c_3 h
    refine lv_aload_n S.1 S.2.1 dX7_sat_7 rfl (lv_at hl 0 rfl) ?_
    refine lv_iload_n S.1 S.2.1 dX7_sat_8 rfl (lv_at hl 2 rfl) ?_
    obtain ⟨r_4, hc_5, h⟩ := cl1_some h
    have hW := kw_same hW
    refine kV_i (As := [.int p1]) (rest := []) S hK hA (z := none) trivial [] [] hW (cMo_isReader l D cs a σ Λ p1 N hc_5) (ci := 6) rfl rfl lk_X7_130 q820 q25 ⟨Nat.le_of_ble_eq_true rfl, Nat.le_of_ble_eq_true rfl⟩ rfl (Nat.le_of_ble_eq_true rfl) hl.1 dX7_sat_9 ⟨Nat.zero_le _, Nat.zero_le _⟩ (fun H locs hW => ?_)
    have hW : Wd D A s.heap (wMo cs a σ Λ) H locs := kw_back hW
    refine lv_if_ne (tgt := 17) S.1 S.2.1 dX7_sat_12 (by decide) (fun c_6 => ?_) (fun c_6 => ?_)
    · have h := ite_f c_6 h
      refine lv_aload_n S.1 S.2.1 dX7_sat_17 rfl (lv_at hl 0 rfl) ?_
      refine lv_iload_n S.1 S.2.1 dX7_sat_18 rfl (lv_at hl 1 rfl) ?_
      obtain ⟨σ_7, hc_8, h⟩ := cl1_some h
      have hW := kw_same hW
      refine kV_v (As := [.int p0]) (rest := []) S hK hA (z := none) trivial [] [] hW (cMo_whole l D cs a σ Λ p0 N hc_8) (ci := 6) rfl rfl lk_X7_191 q893 q35 ⟨Nat.le_of_ble_eq_true rfl, Nat.le_of_ble_eq_true rfl⟩ rfl (Nat.le_of_ble_eq_true rfl) hl.1 dX7_sat_19 ⟨Nat.zero_le _, Nat.zero_le _⟩ (fun H locs hW => ?_)
      have hW : Wd D A s.heap (wMo cs a σ_7 Λ) H locs := kw_back hW
      refine lv_aload_n S.1 S.2.1 dX7_sat_22 rfl (lv_at hl 0 rfl) ?_
      refine gMo_sat S hK hW dX7_sat_23 ?_
      refine lv_iload_n S.1 S.2.1 dX7_sat_26 rfl (lv_at hl 2 rfl) ?_
      obtain ⟨hi_9, h⟩ := gI_some h
      refine lMo_sat S hK hW hi_9 dX7_sat_27 ?_
      obtain ⟨rfl, rfl⟩ := pr2 h
      exact hQ _ _ _ _ dX7_sat_28 rfl hW
    · have h := ite_t c_6 h
      exact wMo_sat_15 S hK hA hQ σ _ _ _ h hW (lv_sub hl [] rfl)
set_option maxHeartbeats 4000000 in
set_option maxRecDepth 100000 in
theorem wMo_bettered_169 {p : Program} {l : Launch} {e : Env} {s : State} {m : MethodId} {args : Array Value} {below : List Frame} {meth : Method} {c : Code} {A : Nat → Prop} {Q : State → Prop} {D : va_G} {cs : Nat → ClassId} {a : Nat → Nat} {Λ : Nat → Int64} {r : Int32} {σ' : St} {N : Nat} (S : Fx p m c cX7_bettered 7 s args RX7) (hK : va_K D vwCl (tyL cs) s) (hA : ∀ x, s.heap.size ≤ x → A x) (hQ : ∀ (H : Heap) (locs : List Loc) (pc : Nat) (ls : Array Slot), decode cX7_bettered pc = .ok (.ireturn, 1) → narrow .int (.int r) = .int r → Wd D A s.heap (wMo cs a σ' Λ) H locs → W p l e { frames := 7, cells := 0, slots := 0, locals := 172 } s m args below meth c H locs 0 0 Q (F0 m pc ls [.int r])) {k_91 : Int32 → Int32 → Int32 → Int32 → Int32 → Int32 → St → Option (Int32 × St)} (hk_91 : ∀ (v1 : Int32) (v2 : Int32) (v3 : Int32) (v4 : Int32) (v5 : Int32) (v6 : Int32) (σ : St) (H : Heap) (locs : List Loc) (ls : Array Slot), k_91 v1 v2 v3 v4 v5 v6 σ = some (r, σ') → Wd D A s.heap (wMo cs a σ Λ) H locs → lv_has ls 7 [(0, .ref (a 0)), (1, .int v1), (2, .int v2), (3, .int v3), (4, .int v4), (5, .int v5), (6, .int v6)] → W p l e { frames := 7, cells := 0, slots := 0, locals := 172 } s m args below meth c H locs 0 0 Q (F0 m 91 ls [])) : ∀ (v1 : Int32) (v2 : Int32) (v3 : Int32) (v4 : Int32) (v6 : Int32) (k0 : Int32) (σ : St) (H : Heap) (locs : List Loc) (ls : Array Slot), fMo_bettered_169 k_91 N v1 v2 v3 v4 v6 k0 σ = some (r, σ') → Wd D A s.heap (wMo cs a σ Λ) H locs → lv_has ls 7 [(0, .ref (a 0)), (1, .int v1), (2, .int v2), (3, .int v3), (4, .int v4), (6, .int v6)] → W p l e { frames := 7, cells := 0, slots := 0, locals := 172 } s m args below meth c H locs 0 0 Q (F0 m 169 ls [.int k0]) := by
  intro v1 v2 v3 v4 v6 k0 σ H locs ls h hW hl
  unfold fMo_bettered_169 at h
  refine lv_istore (lv' := [(5, .int k0), (0, .ref (a 0)), (1, .int v1), (2, .int v2), (3, .int v3), (4, .int v4), (6, .int v6)]) S.1 S.2.1 dX7_bettered_169 hl (by decide) rfl (fun ls hl => ?_)
  obtain ⟨x6_1, ex6_1, h⟩ := nm_some h
  refine lv_iinc (v := x6_1) (lv' := [(6, .int x6_1), (5, .int k0), (0, .ref (a 0)), (1, .int v1), (2, .int v2), (3, .int v3), (4, .int v4)]) S.1 S.2.1 dX7_bettered_171 hl (k := 6) rfl (by rw [ex6_1]; rfl) (by decide) rfl (fun ls hl => ?_)
  refine lv_goto (tgt := 91) S.1 S.2.1 dX7_bettered_174 (by decide) ?_
  exact hk_91 v1 v2 v3 v4 k0 x6_1 σ _ _ _ h hW (lv_sub hl [2, 3, 4, 5, 6, 1, 0] rfl)
set_option maxHeartbeats 4000000 in
set_option maxRecDepth 100000 in
theorem wMo_bettered_164 {p : Program} {l : Launch} {e : Env} {s : State} {m : MethodId} {args : Array Value} {below : List Frame} {meth : Method} {c : Code} {A : Nat → Prop} {Q : State → Prop} {D : va_G} {cs : Nat → ClassId} {a : Nat → Nat} {Λ : Nat → Int64} {r : Int32} {σ' : St} {N : Nat} (S : Fx p m c cX7_bettered 7 s args RX7) (hK : va_K D vwCl (tyL cs) s) (hA : ∀ x, s.heap.size ≤ x → A x) (hQ : ∀ (H : Heap) (locs : List Loc) (pc : Nat) (ls : Array Slot), decode cX7_bettered pc = .ok (.ireturn, 1) → narrow .int (.int r) = .int r → Wd D A s.heap (wMo cs a σ' Λ) H locs → W p l e { frames := 7, cells := 0, slots := 0, locals := 172 } s m args below meth c H locs 0 0 Q (F0 m pc ls [.int r])) {k_91 : Int32 → Int32 → Int32 → Int32 → Int32 → Int32 → St → Option (Int32 × St)} (hk_91 : ∀ (v1 : Int32) (v2 : Int32) (v3 : Int32) (v4 : Int32) (v5 : Int32) (v6 : Int32) (σ : St) (H : Heap) (locs : List Loc) (ls : Array Slot), k_91 v1 v2 v3 v4 v5 v6 σ = some (r, σ') → Wd D A s.heap (wMo cs a σ Λ) H locs → lv_has ls 7 [(0, .ref (a 0)), (1, .int v1), (2, .int v2), (3, .int v3), (4, .int v4), (5, .int v5), (6, .int v6)] → W p l e { frames := 7, cells := 0, slots := 0, locals := 172 } s m args below meth c H locs 0 0 Q (F0 m 91 ls [])) : ∀ (v1 : Int32) (v2 : Int32) (v3 : Int32) (v4 : Int32) (v6 : Int32) (σ : St) (H : Heap) (locs : List Loc) (ls : Array Slot), fMo_bettered_164 k_91 N v1 v2 v3 v4 v6 σ = some (r, σ') → Wd D A s.heap (wMo cs a σ Λ) H locs → lv_has ls 7 [(0, .ref (a 0)), (1, .int v1), (2, .int v2), (3, .int v3), (4, .int v4), (6, .int v6)] → W p l e { frames := 7, cells := 0, slots := 0, locals := 172 } s m args below meth c H locs 0 0 Q (F0 m 164 ls []) := by
  intro v1 v2 v3 v4 v6 σ H locs ls h hW hl
  unfold fMo_bettered_164 at h
  refine lv_iconst (v := 1) S.1 S.2.1 dX7_bettered_164 (by decide) ?_
  refine lv_goto (tgt := 169) S.1 S.2.1 dX7_bettered_165 (by decide) ?_
  exact wMo_bettered_169 S hK hA hQ hk_91 v1 v2 v3 v4 v6 (1 : Int32) σ _ _ _ h hW (lv_sub hl [0, 1, 2, 3, 4, 5] rfl)
set_option maxHeartbeats 4000000 in
set_option maxRecDepth 100000 in
theorem wMo_bettered_132 {p : Program} {l : Launch} {e : Env} {s : State} {m : MethodId} {args : Array Value} {below : List Frame} {meth : Method} {c : Code} {A : Nat → Prop} {Q : State → Prop} {D : va_G} {cs : Nat → ClassId} {a : Nat → Nat} {Λ : Nat → Int64} {r : Int32} {σ' : St} {N : Nat} (S : Fx p m c cX7_bettered 7 s args RX7) (hK : va_K D vwCl (tyL cs) s) (hA : ∀ x, s.heap.size ≤ x → A x) (hQ : ∀ (H : Heap) (locs : List Loc) (pc : Nat) (ls : Array Slot), decode cX7_bettered pc = .ok (.ireturn, 1) → narrow .int (.int r) = .int r → Wd D A s.heap (wMo cs a σ' Λ) H locs → W p l e { frames := 7, cells := 0, slots := 0, locals := 172 } s m args below meth c H locs 0 0 Q (F0 m pc ls [.int r])) {k_91 : Int32 → Int32 → Int32 → Int32 → Int32 → Int32 → St → Option (Int32 × St)} (hk_91 : ∀ (v1 : Int32) (v2 : Int32) (v3 : Int32) (v4 : Int32) (v5 : Int32) (v6 : Int32) (σ : St) (H : Heap) (locs : List Loc) (ls : Array Slot), k_91 v1 v2 v3 v4 v5 v6 σ = some (r, σ') → Wd D A s.heap (wMo cs a σ Λ) H locs → lv_has ls 7 [(0, .ref (a 0)), (1, .int v1), (2, .int v2), (3, .int v3), (4, .int v4), (5, .int v5), (6, .int v6)] → W p l e { frames := 7, cells := 0, slots := 0, locals := 172 } s m args below meth c H locs 0 0 Q (F0 m 91 ls [])) : ∀ (v1 : Int32) (v2 : Int32) (v3 : Int32) (v5 : Int32) (v6 : Int32) (k0 : Int32) (σ : St) (H : Heap) (locs : List Loc) (ls : Array Slot), fMo_bettered_132 k_91 N v1 v2 v3 v5 v6 k0 σ = some (r, σ') → Wd D A s.heap (wMo cs a σ Λ) H locs → lv_has ls 7 [(0, .ref (a 0)), (1, .int v1), (2, .int v2), (3, .int v3), (5, .int v5), (6, .int v6)] → W p l e { frames := 7, cells := 0, slots := 0, locals := 172 } s m args below meth c H locs 0 0 Q (F0 m 132 ls [.int k0]) := by
  intro v1 v2 v3 v5 v6 k0 σ H locs ls h hW hl
  unfold fMo_bettered_132 at h
  refine lv_istore (lv' := [(4, .int k0), (0, .ref (a 0)), (1, .int v1), (2, .int v2), (3, .int v3), (5, .int v5), (6, .int v6)]) S.1 S.2.1 dX7_bettered_132 hl (by decide) rfl (fun ls hl => ?_)
  refine lv_iload S.1 S.2.1 dX7_bettered_134 (lv_at hl 5 rfl) ?_
  refine lv_if_ne (tgt := 164) S.1 S.2.1 dX7_bettered_136 (by decide) (fun c_2 => ?_) (fun c_2 => ?_)
  · have h := ite_f c_2 h
    exact wMo_bettered_164 S hK hA hQ hk_91 v1 v2 v3 k0 v6 σ _ _ _ h hW (lv_sub hl [1, 2, 3, 4, 0, 6] rfl)
  · have h := ite_t c_2 h
    refine lv_aload_n S.1 S.2.1 dX7_bettered_139 rfl (lv_at hl 1 rfl) ?_
    refine gMo_ruled S hK hW dX7_bettered_140 ?_
    refine lv_iconst (v := 3) S.1 S.2.1 dX7_bettered_143 (by decide) ?_
    refine lv_iload_n S.1 S.2.1 dX7_bettered_144 rfl (lv_at hl 4 rfl) ?_
    refine lv_imul S.1 S.2.1 dX7_bettered_145 ?_
    refine lv_iload S.1 S.2.1 dX7_bettered_146 (lv_at hl 6 rfl) ?_
    refine lv_iadd S.1 S.2.1 dX7_bettered_148 ?_
    obtain ⟨hi_3, h⟩ := gI_some h
    refine lMo_ruled S hK hW hi_3 dX7_bettered_149 ?_
    refine lv_aload_n S.1 S.2.1 dX7_bettered_150 rfl (lv_at hl 1 rfl) ?_
    refine gMo_ruled S hK hW dX7_bettered_151 ?_
    refine lv_iconst (v := 3) S.1 S.2.1 dX7_bettered_154 (by decide) ?_
    refine lv_iload_n S.1 S.2.1 dX7_bettered_155 rfl (lv_at hl 3 rfl) ?_
    refine lv_imul S.1 S.2.1 dX7_bettered_156 ?_
    refine lv_iload S.1 S.2.1 dX7_bettered_157 (lv_at hl 6 rfl) ?_
    refine lv_iadd S.1 S.2.1 dX7_bettered_159 ?_
    obtain ⟨hi_4, h⟩ := gI_some h
    refine lMo_ruled S hK hW hi_4 dX7_bettered_160 ?_
    refine lv_icmp_le (tgt := 168) S.1 S.2.1 dX7_bettered_161 (by decide) (fun c_5 => ?_) (fun c_5 => ?_)
    · have h := ite_t c_5 h
      refine lv_iconst (v := 0) S.1 S.2.1 dX7_bettered_168 (by decide) ?_
      exact wMo_bettered_169 S hK hA hQ hk_91 v1 v2 v3 k0 v6 (0 : Int32) σ _ _ _ h hW (lv_sub hl [1, 2, 3, 4, 0, 6] rfl)
    · have h := ite_f c_5 h
      exact wMo_bettered_164 S hK hA hQ hk_91 v1 v2 v3 k0 v6 σ _ _ _ h hW (lv_sub hl [1, 2, 3, 4, 0, 6] rfl)
set_option maxHeartbeats 4000000 in
set_option maxRecDepth 100000 in
theorem wMo_bettered_131 {p : Program} {l : Launch} {e : Env} {s : State} {m : MethodId} {args : Array Value} {below : List Frame} {meth : Method} {c : Code} {A : Nat → Prop} {Q : State → Prop} {D : va_G} {cs : Nat → ClassId} {a : Nat → Nat} {Λ : Nat → Int64} {r : Int32} {σ' : St} {N : Nat} (S : Fx p m c cX7_bettered 7 s args RX7) (hK : va_K D vwCl (tyL cs) s) (hA : ∀ x, s.heap.size ≤ x → A x) (hQ : ∀ (H : Heap) (locs : List Loc) (pc : Nat) (ls : Array Slot), decode cX7_bettered pc = .ok (.ireturn, 1) → narrow .int (.int r) = .int r → Wd D A s.heap (wMo cs a σ' Λ) H locs → W p l e { frames := 7, cells := 0, slots := 0, locals := 172 } s m args below meth c H locs 0 0 Q (F0 m pc ls [.int r])) {k_91 : Int32 → Int32 → Int32 → Int32 → Int32 → Int32 → St → Option (Int32 × St)} (hk_91 : ∀ (v1 : Int32) (v2 : Int32) (v3 : Int32) (v4 : Int32) (v5 : Int32) (v6 : Int32) (σ : St) (H : Heap) (locs : List Loc) (ls : Array Slot), k_91 v1 v2 v3 v4 v5 v6 σ = some (r, σ') → Wd D A s.heap (wMo cs a σ Λ) H locs → lv_has ls 7 [(0, .ref (a 0)), (1, .int v1), (2, .int v2), (3, .int v3), (4, .int v4), (5, .int v5), (6, .int v6)] → W p l e { frames := 7, cells := 0, slots := 0, locals := 172 } s m args below meth c H locs 0 0 Q (F0 m 91 ls [])) : ∀ (v1 : Int32) (v2 : Int32) (v3 : Int32) (v5 : Int32) (v6 : Int32) (σ : St) (H : Heap) (locs : List Loc) (ls : Array Slot), fMo_bettered_131 k_91 N v1 v2 v3 v5 v6 σ = some (r, σ') → Wd D A s.heap (wMo cs a σ Λ) H locs → lv_has ls 7 [(0, .ref (a 0)), (1, .int v1), (2, .int v2), (3, .int v3), (5, .int v5), (6, .int v6)] → W p l e { frames := 7, cells := 0, slots := 0, locals := 172 } s m args below meth c H locs 0 0 Q (F0 m 131 ls []) := by
  intro v1 v2 v3 v5 v6 σ H locs ls h hW hl
  unfold fMo_bettered_131 at h
  refine lv_iconst (v := 0) S.1 S.2.1 dX7_bettered_131 (by decide) ?_
  exact wMo_bettered_132 S hK hA hQ hk_91 v1 v2 v3 v5 v6 (0 : Int32) σ _ _ _ h hW (lv_sub hl [0, 1, 2, 3, 4, 5] rfl)
set_option maxHeartbeats 4000000 in
set_option maxRecDepth 100000 in
theorem wMo_bettered_195 {p : Program} {l : Launch} {e : Env} {s : State} {m : MethodId} {args : Array Value} {below : List Frame} {meth : Method} {c : Code} {A : Nat → Prop} {Q : State → Prop} {D : va_G} {cs : Nat → ClassId} {a : Nat → Nat} {Λ : Nat → Int64} {r : Int32} {σ' : St} {N : Nat} (S : Fx p m c cX7_bettered 7 s args RX7) (hK : va_K D vwCl (tyL cs) s) (hA : ∀ x, s.heap.size ≤ x → A x) (hQ : ∀ (H : Heap) (locs : List Loc) (pc : Nat) (ls : Array Slot), decode cX7_bettered pc = .ok (.ireturn, 1) → narrow .int (.int r) = .int r → Wd D A s.heap (wMo cs a σ' Λ) H locs → W p l e { frames := 7, cells := 0, slots := 0, locals := 172 } s m args below meth c H locs 0 0 Q (F0 m pc ls [.int r])) {k_77 : Int32 → Int32 → Int32 → St → Option (Int32 × St)} (hk_77 : ∀ (v1 : Int32) (v2 : Int32) (v3 : Int32) (σ : St) (H : Heap) (locs : List Loc) (ls : Array Slot), k_77 v1 v2 v3 σ = some (r, σ') → Wd D A s.heap (wMo cs a σ Λ) H locs → lv_has ls 7 [(0, .ref (a 0)), (1, .int v1), (2, .int v2), (3, .int v3)] → W p l e { frames := 7, cells := 0, slots := 0, locals := 172 } s m args below meth c H locs 0 0 Q (F0 m 77 ls [])) : ∀ (v2 : Int32) (v3 : Int32) (k0 : Int32) (k1 : Int32) (σ : St) (H : Heap) (locs : List Loc) (ls : Array Slot), fMo_bettered_195 k_77 N v2 v3 k0 k1 σ = some (r, σ') → Wd D A s.heap (wMo cs a σ Λ) H locs → lv_has ls 7 [(0, .ref (a 0)), (2, .int v2), (3, .int v3)] → W p l e { frames := 7, cells := 0, slots := 0, locals := 172 } s m args below meth c H locs 0 0 Q (F0 m 195 ls [.int k1, .int k0]) := by
  intro v2 v3 k0 k1 σ H locs ls h hW hl
  unfold fMo_bettered_195 at h
  refine lv_ior S.1 S.2.1 dX7_bettered_195 ?_
  refine lv_topi (fun x1_6 ex1_6 => ?_)
  have h := nm_to ex1_6 h
  refine lv_istore_n (lv' := [(1, .int x1_6), (0, .ref (a 0)), (2, .int v2), (3, .int v3)]) S.1 S.2.1 dX7_bettered_196 rfl hl (by decide) rfl (fun ls hl => ?_)
  obtain ⟨x3_7, ex3_7, h⟩ := nm_some h
  refine lv_iinc (v := x3_7) (lv' := [(3, .int x3_7), (1, .int x1_6), (0, .ref (a 0)), (2, .int v2)]) S.1 S.2.1 dX7_bettered_197 hl (k := 3) rfl (by rw [ex3_7]; rfl) (by decide) rfl (fun ls hl => ?_)
  refine lv_goto (tgt := 77) S.1 S.2.1 dX7_bettered_200 (by decide) ?_
  exact hk_77 x1_6 v2 x3_7 σ _ _ _ h hW (lv_sub hl [2, 1, 3, 0] rfl)
set_option maxHeartbeats 4000000 in
set_option maxRecDepth 100000 in
theorem wMo_bettered_194 {p : Program} {l : Launch} {e : Env} {s : State} {m : MethodId} {args : Array Value} {below : List Frame} {meth : Method} {c : Code} {A : Nat → Prop} {Q : State → Prop} {D : va_G} {cs : Nat → ClassId} {a : Nat → Nat} {Λ : Nat → Int64} {r : Int32} {σ' : St} {N : Nat} (S : Fx p m c cX7_bettered 7 s args RX7) (hK : va_K D vwCl (tyL cs) s) (hA : ∀ x, s.heap.size ≤ x → A x) (hQ : ∀ (H : Heap) (locs : List Loc) (pc : Nat) (ls : Array Slot), decode cX7_bettered pc = .ok (.ireturn, 1) → narrow .int (.int r) = .int r → Wd D A s.heap (wMo cs a σ' Λ) H locs → W p l e { frames := 7, cells := 0, slots := 0, locals := 172 } s m args below meth c H locs 0 0 Q (F0 m pc ls [.int r])) {k_77 : Int32 → Int32 → Int32 → St → Option (Int32 × St)} (hk_77 : ∀ (v1 : Int32) (v2 : Int32) (v3 : Int32) (σ : St) (H : Heap) (locs : List Loc) (ls : Array Slot), k_77 v1 v2 v3 σ = some (r, σ') → Wd D A s.heap (wMo cs a σ Λ) H locs → lv_has ls 7 [(0, .ref (a 0)), (1, .int v1), (2, .int v2), (3, .int v3)] → W p l e { frames := 7, cells := 0, slots := 0, locals := 172 } s m args below meth c H locs 0 0 Q (F0 m 77 ls [])) : ∀ (v2 : Int32) (v3 : Int32) (k0 : Int32) (σ : St) (H : Heap) (locs : List Loc) (ls : Array Slot), fMo_bettered_194 k_77 N v2 v3 k0 σ = some (r, σ') → Wd D A s.heap (wMo cs a σ Λ) H locs → lv_has ls 7 [(0, .ref (a 0)), (2, .int v2), (3, .int v3)] → W p l e { frames := 7, cells := 0, slots := 0, locals := 172 } s m args below meth c H locs 0 0 Q (F0 m 194 ls [.int k0]) := by
  intro v2 v3 k0 σ H locs ls h hW hl
  unfold fMo_bettered_194 at h
  refine lv_iconst (v := 0) S.1 S.2.1 dX7_bettered_194 (by decide) ?_
  exact wMo_bettered_195 S hK hA hQ hk_77 v2 v3 k0 (0 : Int32) σ _ _ _ h hW (lv_sub hl [0, 1, 2] rfl)
set_option maxHeartbeats 4000000 in
set_option maxRecDepth 100000 in
theorem wMo_bettered_91 {p : Program} {l : Launch} {e : Env} {s : State} {m : MethodId} {args : Array Value} {below : List Frame} {meth : Method} {c : Code} {A : Nat → Prop} {Q : State → Prop} {D : va_G} {cs : Nat → ClassId} {a : Nat → Nat} {Λ : Nat → Int64} {r : Int32} {σ' : St} {N : Nat} (S : Fx p m c cX7_bettered 7 s args RX7) (hK : va_K D vwCl (tyL cs) s) (hA : ∀ x, s.heap.size ≤ x → A x) (hQ : ∀ (H : Heap) (locs : List Loc) (pc : Nat) (ls : Array Slot), decode cX7_bettered pc = .ok (.ireturn, 1) → narrow .int (.int r) = .int r → Wd D A s.heap (wMo cs a σ' Λ) H locs → W p l e { frames := 7, cells := 0, slots := 0, locals := 172 } s m args below meth c H locs 0 0 Q (F0 m pc ls [.int r])) {k_77 : Int32 → Int32 → Int32 → St → Option (Int32 × St)} (hk_77 : ∀ (v1 : Int32) (v2 : Int32) (v3 : Int32) (σ : St) (H : Heap) (locs : List Loc) (ls : Array Slot), k_77 v1 v2 v3 σ = some (r, σ') → Wd D A s.heap (wMo cs a σ Λ) H locs → lv_has ls 7 [(0, .ref (a 0)), (1, .int v1), (2, .int v2), (3, .int v3)] → W p l e { frames := 7, cells := 0, slots := 0, locals := 172 } s m args below meth c H locs 0 0 Q (F0 m 77 ls [])) : ∀ (n_91 : Nat) (v1 : Int32) (v2 : Int32) (v3 : Int32) (v4 : Int32) (v5 : Int32) (v6 : Int32) (σ : St) (H : Heap) (locs : List Loc) (ls : Array Slot), fMo_bettered_91 k_77 N n_91 v1 v2 v3 v4 v5 v6 σ = some (r, σ') → Wd D A s.heap (wMo cs a σ Λ) H locs → lv_has ls 7 [(0, .ref (a 0)), (1, .int v1), (2, .int v2), (3, .int v3), (4, .int v4), (5, .int v5), (6, .int v6)] → W p l e { frames := 7, cells := 0, slots := 0, locals := 172 } s m args below meth c H locs 0 0 Q (F0 m 91 ls []) := by
  intro n_91
  induction n_91 with
  | zero =>
    intro v1 v2 v3 v4 v5 v6 σ H locs ls h
    cases h
  | succ n_91 ih =>
    intro v1 v2 v3 v4 v5 v6 σ H locs ls h hW hl
    unfold fMo_bettered_91 at h
    refine lv_iload S.1 S.2.1 dX7_bettered_91 (lv_at hl 6 rfl) ?_
    refine lv_iconst (v := 3) S.1 S.2.1 dX7_bettered_93 (by decide) ?_
    refine lv_icmp_ge (tgt := 177) S.1 S.2.1 dX7_bettered_94 (by decide) (fun c_8 => ?_) (fun c_8 => ?_)
    · have h := ite_t c_8 h
      refine lv_iload_n S.1 S.2.1 dX7_bettered_177 rfl (lv_at hl 1 rfl) ?_
      refine lv_iload S.1 S.2.1 dX7_bettered_178 (lv_at hl 4 rfl) ?_
      refine lv_if_eq (tgt := 194) S.1 S.2.1 dX7_bettered_180 (by decide) (fun c_9 => ?_) (fun c_9 => ?_)
      · have h := ite_t c_9 h
        exact wMo_bettered_194 S hK hA hQ hk_77 v2 v3 v1 σ _ _ _ h hW (lv_sub hl [0, 2, 3] rfl)
      · have h := ite_f c_9 h
        refine lv_iload S.1 S.2.1 dX7_bettered_183 (lv_at hl 5 rfl) ?_
        refine lv_if_eq (tgt := 194) S.1 S.2.1 dX7_bettered_185 (by decide) (fun c_10 => ?_) (fun c_10 => ?_)
        · have h := ite_t c_10 h
          exact wMo_bettered_194 S hK hA hQ hk_77 v2 v3 v1 σ _ _ _ h hW (lv_sub hl [0, 2, 3] rfl)
        · have h := ite_f c_10 h
          refine lv_iconst (v := 1) S.1 S.2.1 dX7_bettered_188 (by decide) ?_
          refine lv_iload_n S.1 S.2.1 dX7_bettered_189 rfl (lv_at hl 2 rfl) ?_
          refine lv_ishl S.1 S.2.1 dX7_bettered_190 ?_
          refine lv_goto (tgt := 195) S.1 S.2.1 dX7_bettered_191 (by decide) ?_
          exact wMo_bettered_195 S hK hA hQ hk_77 v2 v3 v1 ((1 : Int32) <<< (v2 &&& 31)) σ _ _ _ h hW (lv_sub hl [0, 2, 3] rfl)
    · have h := ite_f c_8 h
      refine lv_iload S.1 S.2.1 dX7_bettered_97 (lv_at hl 4 rfl) ?_
      refine lv_if_eq (tgt := 131) S.1 S.2.1 dX7_bettered_99 (by decide) (fun c_11 => ?_) (fun c_11 => ?_)
      · have h := ite_t c_11 h
        exact wMo_bettered_131 S hK hA hQ ih v1 v2 v3 v5 v6 σ _ _ _ h hW (lv_sub hl [0, 1, 2, 3, 5, 6] rfl)
      · have h := ite_f c_11 h
        refine lv_aload_n S.1 S.2.1 dX7_bettered_102 rfl (lv_at hl 0 rfl) ?_
        refine gMo_ruled S hK hW dX7_bettered_103 ?_
        refine lv_iconst (v := 3) S.1 S.2.1 dX7_bettered_106 (by decide) ?_
        refine lv_iload_n S.1 S.2.1 dX7_bettered_107 rfl (lv_at hl 3 rfl) ?_
        refine lv_imul S.1 S.2.1 dX7_bettered_108 ?_
        refine lv_iload S.1 S.2.1 dX7_bettered_109 (lv_at hl 6 rfl) ?_
        refine lv_iadd S.1 S.2.1 dX7_bettered_111 ?_
        obtain ⟨hi_12, h⟩ := gI_some h
        refine lMo_ruled S hK hW hi_12 dX7_bettered_112 ?_
        refine lv_aload_n S.1 S.2.1 dX7_bettered_113 rfl (lv_at hl 0 rfl) ?_
        refine gMo_ruled S hK hW dX7_bettered_114 ?_
        refine lv_iconst (v := 3) S.1 S.2.1 dX7_bettered_117 (by decide) ?_
        refine lv_iload_n S.1 S.2.1 dX7_bettered_118 rfl (lv_at hl 2 rfl) ?_
        refine lv_imul S.1 S.2.1 dX7_bettered_119 ?_
        refine lv_iload S.1 S.2.1 dX7_bettered_120 (lv_at hl 6 rfl) ?_
        refine lv_iadd S.1 S.2.1 dX7_bettered_122 ?_
        obtain ⟨hi_13, h⟩ := gI_some h
        refine lMo_ruled S hK hW hi_13 dX7_bettered_123 ?_
        refine lv_icmp_lt (tgt := 131) S.1 S.2.1 dX7_bettered_124 (by decide) (fun c_14 => ?_) (fun c_14 => ?_)
        · have h := ite_t c_14 h
          exact wMo_bettered_131 S hK hA hQ ih v1 v2 v3 v5 v6 σ _ _ _ h hW (lv_sub hl [0, 1, 2, 3, 5, 6] rfl)
        · have h := ite_f c_14 h
          refine lv_iconst (v := 1) S.1 S.2.1 dX7_bettered_127 (by decide) ?_
          refine lv_goto (tgt := 132) S.1 S.2.1 dX7_bettered_128 (by decide) ?_
          exact wMo_bettered_132 S hK hA hQ ih v1 v2 v3 v5 v6 (1 : Int32) σ _ _ _ h hW (lv_sub hl [0, 1, 2, 3, 5, 6] rfl)
set_option maxHeartbeats 4000000 in
set_option maxRecDepth 100000 in
theorem wMo_bettered_77 {p : Program} {l : Launch} {e : Env} {s : State} {m : MethodId} {args : Array Value} {below : List Frame} {meth : Method} {c : Code} {A : Nat → Prop} {Q : State → Prop} {D : va_G} {cs : Nat → ClassId} {a : Nat → Nat} {Λ : Nat → Int64} {r : Int32} {σ' : St} {N : Nat} (S : Fx p m c cX7_bettered 7 s args RX7) (hK : va_K D vwCl (tyL cs) s) (hA : ∀ x, s.heap.size ≤ x → A x) (hQ : ∀ (H : Heap) (locs : List Loc) (pc : Nat) (ls : Array Slot), decode cX7_bettered pc = .ok (.ireturn, 1) → narrow .int (.int r) = .int r → Wd D A s.heap (wMo cs a σ' Λ) H locs → W p l e { frames := 7, cells := 0, slots := 0, locals := 172 } s m args below meth c H locs 0 0 Q (F0 m pc ls [.int r])) {k_70 : Int32 → Int32 → St → Option (Int32 × St)} (hk_70 : ∀ (v1 : Int32) (v2 : Int32) (σ : St) (H : Heap) (locs : List Loc) (ls : Array Slot), k_70 v1 v2 σ = some (r, σ') → Wd D A s.heap (wMo cs a σ Λ) H locs → lv_has ls 7 [(0, .ref (a 0)), (1, .int v1), (2, .int v2)] → W p l e { frames := 7, cells := 0, slots := 0, locals := 172 } s m args below meth c H locs 0 0 Q (F0 m 70 ls [])) : ∀ (n_77 : Nat) (v1 : Int32) (v2 : Int32) (v3 : Int32) (σ : St) (H : Heap) (locs : List Loc) (ls : Array Slot), fMo_bettered_77 k_70 N n_77 v1 v2 v3 σ = some (r, σ') → Wd D A s.heap (wMo cs a σ Λ) H locs → lv_has ls 7 [(0, .ref (a 0)), (1, .int v1), (2, .int v2), (3, .int v3)] → W p l e { frames := 7, cells := 0, slots := 0, locals := 172 } s m args below meth c H locs 0 0 Q (F0 m 77 ls []) := by
  intro n_77
  induction n_77 with
  | zero =>
    intro v1 v2 v3 σ H locs ls h
    cases h
  | succ n_77 ih =>
    intro v1 v2 v3 σ H locs ls h hW hl
    unfold fMo_bettered_77 at h
    refine lv_iload_n S.1 S.2.1 dX7_bettered_77 rfl (lv_at hl 3 rfl) ?_
    refine lv_iconst (v := 5) S.1 S.2.1 dX7_bettered_78 (by decide) ?_
    refine lv_icmp_ge (tgt := 203) S.1 S.2.1 dX7_bettered_79 (by decide) (fun c_15 => ?_) (fun c_15 => ?_)
    · have h := ite_t c_15 h
      obtain ⟨x2_16, ex2_16, h⟩ := nm_some h
      refine lv_iinc (v := x2_16) (lv' := [(2, .int x2_16), (0, .ref (a 0)), (1, .int v1), (3, .int v3)]) S.1 S.2.1 dX7_bettered_203 hl (k := 2) rfl (by rw [ex2_16]; rfl) (by decide) rfl (fun ls hl => ?_)
      refine lv_goto (tgt := 70) S.1 S.2.1 dX7_bettered_206 (by decide) ?_
      exact hk_70 v1 x2_16 σ _ _ _ h hW (lv_sub hl [1, 2, 0] rfl)
    · have h := ite_f c_15 h
      refine lv_iconst (v := 1) S.1 S.2.1 dX7_bettered_82 (by decide) ?_
      refine lv_istore (lv' := [(4, .int (1 : Int32)), (0, .ref (a 0)), (1, .int v1), (2, .int v2), (3, .int v3)]) S.1 S.2.1 dX7_bettered_83 hl (by decide) rfl (fun ls hl => ?_)
      refine lv_iconst (v := 0) S.1 S.2.1 dX7_bettered_85 (by decide) ?_
      refine lv_istore (lv' := [(5, .int (0 : Int32)), (4, .int (1 : Int32)), (0, .ref (a 0)), (1, .int v1), (2, .int v2), (3, .int v3)]) S.1 S.2.1 dX7_bettered_86 hl (by decide) rfl (fun ls hl => ?_)
      refine lv_iconst (v := 0) S.1 S.2.1 dX7_bettered_88 (by decide) ?_
      refine lv_istore (lv' := [(6, .int (0 : Int32)), (5, .int (0 : Int32)), (4, .int (1 : Int32)), (0, .ref (a 0)), (1, .int v1), (2, .int v2), (3, .int v3)]) S.1 S.2.1 dX7_bettered_89 hl (by decide) rfl (fun ls hl => ?_)
      exact wMo_bettered_91 S hK hA hQ ih N v1 v2 v3 (1 : Int32) (0 : Int32) (0 : Int32) σ _ _ _ h hW (lv_sub hl [3, 4, 5, 6, 2, 1, 0] rfl)
set_option maxHeartbeats 4000000 in
set_option maxRecDepth 100000 in
theorem wMo_bettered_70 {p : Program} {l : Launch} {e : Env} {s : State} {m : MethodId} {args : Array Value} {below : List Frame} {meth : Method} {c : Code} {A : Nat → Prop} {Q : State → Prop} {D : va_G} {cs : Nat → ClassId} {a : Nat → Nat} {Λ : Nat → Int64} {r : Int32} {σ' : St} {N : Nat} (S : Fx p m c cX7_bettered 7 s args RX7) (hK : va_K D vwCl (tyL cs) s) (hA : ∀ x, s.heap.size ≤ x → A x) (hQ : ∀ (H : Heap) (locs : List Loc) (pc : Nat) (ls : Array Slot), decode cX7_bettered pc = .ok (.ireturn, 1) → narrow .int (.int r) = .int r → Wd D A s.heap (wMo cs a σ' Λ) H locs → W p l e { frames := 7, cells := 0, slots := 0, locals := 172 } s m args below meth c H locs 0 0 Q (F0 m pc ls [.int r])) : ∀ (n_70 : Nat) (v1 : Int32) (v2 : Int32) (σ : St) (H : Heap) (locs : List Loc) (ls : Array Slot), fMo_bettered_70 N n_70 v1 v2 σ = some (r, σ') → Wd D A s.heap (wMo cs a σ Λ) H locs → lv_has ls 7 [(0, .ref (a 0)), (1, .int v1), (2, .int v2)] → W p l e { frames := 7, cells := 0, slots := 0, locals := 172 } s m args below meth c H locs 0 0 Q (F0 m 70 ls []) := by
  intro n_70
  induction n_70 with
  | zero =>
    intro v1 v2 σ H locs ls h
    cases h
  | succ n_70 ih =>
    intro v1 v2 σ H locs ls h hW hl
    unfold fMo_bettered_70 at h
    refine lv_iload_n S.1 S.2.1 dX7_bettered_70 rfl (lv_at hl 2 rfl) ?_
    refine lv_iconst (v := 5) S.1 S.2.1 dX7_bettered_71 (by decide) ?_
    refine lv_icmp_ge (tgt := 209) S.1 S.2.1 dX7_bettered_72 (by decide) (fun c_17 => ?_) (fun c_17 => ?_)
    · have h := ite_t c_17 h
      refine lv_iload_n S.1 S.2.1 dX7_bettered_209 rfl (lv_at hl 1 rfl) ?_
      obtain ⟨rfl, rfl⟩ := pr2 h
      exact hQ _ _ _ _ dX7_bettered_210 rfl hW
    · have h := ite_f c_17 h
      refine lv_iconst (v := 0) S.1 S.2.1 dX7_bettered_75 (by decide) ?_
      refine lv_istore_n (lv' := [(3, .int (0 : Int32)), (0, .ref (a 0)), (1, .int v1), (2, .int v2)]) S.1 S.2.1 dX7_bettered_76 rfl hl (by decide) rfl (fun ls hl => ?_)
      exact wMo_bettered_77 S hK hA hQ ih N v1 v2 (0 : Int32) σ _ _ _ h hW (lv_sub hl [1, 2, 3, 0] rfl)
set_option maxHeartbeats 4000000 in
set_option maxRecDepth 100000 in
theorem wMo_bettered_2 {p : Program} {l : Launch} {e : Env} {s : State} {m : MethodId} {args : Array Value} {below : List Frame} {meth : Method} {c : Code} {A : Nat → Prop} {Q : State → Prop} {D : va_G} {cs : Nat → ClassId} {a : Nat → Nat} {Λ : Nat → Int64} {r : Int32} {σ' : St} {N : Nat} (S : Fx p m c cX7_bettered 7 s args RX7) (hK : va_K D vwCl (tyL cs) s) (hA : ∀ x, s.heap.size ≤ x → A x) (hQ : ∀ (H : Heap) (locs : List Loc) (pc : Nat) (ls : Array Slot), decode cX7_bettered pc = .ok (.ireturn, 1) → narrow .int (.int r) = .int r → Wd D A s.heap (wMo cs a σ' Λ) H locs → W p l e { frames := 7, cells := 0, slots := 0, locals := 172 } s m args below meth c H locs 0 0 Q (F0 m pc ls [.int r])) : ∀ (n_2 : Nat) (v1 : Int32) (σ : St) (H : Heap) (locs : List Loc) (ls : Array Slot), fMo_bettered_2 N n_2 v1 σ = some (r, σ') → Wd D A s.heap (wMo cs a σ Λ) H locs → lv_has ls 7 [(0, .ref (a 0)), (1, .int v1)] → W p l e { frames := 7, cells := 0, slots := 0, locals := 172 } s m args below meth c H locs 0 0 Q (F0 m 2 ls []) := by
  intro n_2
  induction n_2 with
  | zero =>
    intro v1 σ H locs ls h
    cases h
  | succ n_2 ih =>
    intro v1 σ H locs ls h hW hl
    unfold fMo_bettered_2 at h
    refine lv_iload_n S.1 S.2.1 dX7_bettered_2 rfl (lv_at hl 1 rfl) ?_
    refine lv_iconst (v := 5) S.1 S.2.1 dX7_bettered_3 (by decide) ?_
    refine lv_icmp_ge (tgt := 66) S.1 S.2.1 dX7_bettered_4 (by decide) (fun c_18 => ?_) (fun c_18 => ?_)
    · have h := ite_t c_18 h
      refine lv_iconst (v := 0) S.1 S.2.1 dX7_bettered_66 (by decide) ?_
      refine lv_istore_n (lv' := [(1, .int (0 : Int32)), (0, .ref (a 0))]) S.1 S.2.1 dX7_bettered_67 rfl hl (by decide) rfl (fun ls hl => ?_)
      refine lv_iconst (v := 0) S.1 S.2.1 dX7_bettered_68 (by decide) ?_
      refine lv_istore_n (lv' := [(2, .int (0 : Int32)), (1, .int (0 : Int32)), (0, .ref (a 0))]) S.1 S.2.1 dX7_bettered_69 rfl hl (by decide) rfl (fun ls hl => ?_)
      exact wMo_bettered_70 S hK hA hQ N (0 : Int32) (0 : Int32) σ _ _ _ h hW (lv_sub hl [2, 1, 0] rfl)
    · have h := ite_f c_18 h
      refine lv_aload_n S.1 S.2.1 dX7_bettered_7 rfl (lv_at hl 0 rfl) ?_
      refine lv_iload_n S.1 S.2.1 dX7_bettered_8 rfl (lv_at hl 1 rfl) ?_
      obtain ⟨σ_19, hc_20, h⟩ := cl1_some h
      have hW := kw_same hW
      refine kV_v (As := [.int v1]) (rest := []) S hK hA (z := none) trivial [] [] hW (cMo_whole l D cs a σ Λ v1 N hc_20) (ci := 6) rfl rfl lk_X7_191 q893 q35 ⟨Nat.le_of_ble_eq_true rfl, Nat.le_of_ble_eq_true rfl⟩ rfl (Nat.le_of_ble_eq_true rfl) hl.1 dX7_bettered_9 ⟨Nat.zero_le _, Nat.zero_le _⟩ (fun H locs hW => ?_)
      have hW : Wd D A s.heap (wMo cs a σ_19 Λ) H locs := kw_back hW
      refine lv_aload_n S.1 S.2.1 dX7_bettered_12 rfl (lv_at hl 0 rfl) ?_
      refine gMo_ruled S hK hW dX7_bettered_13 ?_
      refine lv_iconst (v := 3) S.1 S.2.1 dX7_bettered_16 (by decide) ?_
      refine lv_iload_n S.1 S.2.1 dX7_bettered_17 rfl (lv_at hl 1 rfl) ?_
      refine lv_imul S.1 S.2.1 dX7_bettered_18 ?_
      refine lv_aload_n S.1 S.2.1 dX7_bettered_19 rfl (lv_at hl 0 rfl) ?_
      refine gMo_used S hK hW dX7_bettered_20 ?_
      obtain ⟨hi_21, h⟩ := gI_some h
      refine sMo_ruled S hK hW hi_21 dX7_bettered_23 (fun H locs σ_22 eσ_22 hW => ?_)
      have h := nm_to eσ_22 h
      refine lv_aload_n S.1 S.2.1 dX7_bettered_24 rfl (lv_at hl 0 rfl) ?_
      refine gMo_ruled S hK hW dX7_bettered_25 ?_
      refine lv_iconst (v := 3) S.1 S.2.1 dX7_bettered_28 (by decide) ?_
      refine lv_iload_n S.1 S.2.1 dX7_bettered_29 rfl (lv_at hl 1 rfl) ?_
      refine lv_imul S.1 S.2.1 dX7_bettered_30 ?_
      refine lv_iconst (v := 1) S.1 S.2.1 dX7_bettered_31 (by decide) ?_
      refine lv_iadd S.1 S.2.1 dX7_bettered_32 ?_
      refine lv_aload_n S.1 S.2.1 dX7_bettered_33 rfl (lv_at hl 0 rfl) ?_
      refine gMo_shut S hK hW dX7_bettered_34 ?_
      obtain ⟨r_23, hc_24, h⟩ := cl1_some h
      refine kS_i (As := [.int (σ_22 0 22)]) (rest := [.int (((3 : Int32) * v1) + (1 : Int32)), .ref (a 27)]) S hK hA (z := none) trivial [] (wMo cs a σ_22 Λ) hW (cMo_many l D cs (σ_22 0 22) N hc_24) lk_X7_195 q896 ⟨Nat.le_of_ble_eq_true rfl, Nat.le_of_ble_eq_true rfl⟩ rfl (Nat.le_of_ble_eq_true rfl) hl.1 dX7_bettered_37 ⟨Nat.zero_le _, Nat.zero_le _⟩ (fun H locs hW => ?_)
      have hW : Wd D A s.heap (wMo cs a σ_22 Λ) H locs := hW
      refine lv_ineg S.1 S.2.1 dX7_bettered_40 ?_
      obtain ⟨hi_25, h⟩ := gI_some h
      refine sMo_ruled S hK hW hi_25 dX7_bettered_41 (fun H locs σ_26 eσ_26 hW => ?_)
      have h := nm_to eσ_26 h
      refine lv_aload_n S.1 S.2.1 dX7_bettered_42 rfl (lv_at hl 0 rfl) ?_
      refine gMo_ruled S hK hW dX7_bettered_43 ?_
      refine lv_iconst (v := 3) S.1 S.2.1 dX7_bettered_46 (by decide) ?_
      refine lv_iload_n S.1 S.2.1 dX7_bettered_47 rfl (lv_at hl 1 rfl) ?_
      refine lv_imul S.1 S.2.1 dX7_bettered_48 ?_
      refine lv_iconst (v := 2) S.1 S.2.1 dX7_bettered_49 (by decide) ?_
      refine lv_iadd S.1 S.2.1 dX7_bettered_50 ?_
      refine lv_aload_n S.1 S.2.1 dX7_bettered_51 rfl (lv_at hl 0 rfl) ?_
      refine gMo_thrown S hK hW dX7_bettered_52 ?_
      obtain ⟨r_27, hc_28, h⟩ := cl1_some h
      refine kS_i (As := [.int (σ_26 0 23)]) (rest := [.int (((3 : Int32) * v1) + (2 : Int32)), .ref (a 27)]) S hK hA (z := none) trivial [] (wMo cs a σ_26 Λ) hW (cMo_many l D cs (σ_26 0 23) N hc_28) lk_X7_195 q896 ⟨Nat.le_of_ble_eq_true rfl, Nat.le_of_ble_eq_true rfl⟩ rfl (Nat.le_of_ble_eq_true rfl) hl.1 dX7_bettered_55 ⟨Nat.zero_le _, Nat.zero_le _⟩ (fun H locs hW => ?_)
      have hW : Wd D A s.heap (wMo cs a σ_26 Λ) H locs := hW
      refine lv_ineg S.1 S.2.1 dX7_bettered_58 ?_
      obtain ⟨hi_29, h⟩ := gI_some h
      refine sMo_ruled S hK hW hi_29 dX7_bettered_59 (fun H locs σ_30 eσ_30 hW => ?_)
      have h := nm_to eσ_30 h
      obtain ⟨x1_31, ex1_31, h⟩ := nm_some h
      refine lv_iinc (v := x1_31) (lv' := [(1, .int x1_31), (0, .ref (a 0))]) S.1 S.2.1 dX7_bettered_60 hl (k := 1) rfl (by rw [ex1_31]; rfl) (by decide) rfl (fun ls hl => ?_)
      refine lv_goto (tgt := 2) S.1 S.2.1 dX7_bettered_63 (by decide) ?_
      exact ih x1_31 σ_30 _ _ _ h hW (lv_sub hl [1, 0] rfl)
set_option maxHeartbeats 4000000 in
set_option maxRecDepth 100000 in
theorem cMo_bettered (l : Launch) (D : va_G) (cs : Nat → ClassId) (a : Nat → Nat) (σ : St) (Λ : Nat → Int64) (N : Nat) {r : Int32} {σ' : St} (h : fMo_bettered N σ = some (r, σ')) : Ki l D cs none yX7_bettered cX7_bettered 7 (some .int) 7 172 (wMo cs a σ Λ) [.ref (a 0)] r (wMo cs a σ' Λ) := by
  refine Ki_of (by decide +kernel) (Nat.le_of_ble_eq_true rfl) (fun p e s m below meth c A S hK hA hZ Q hQ ls hl hW => ?_)
  have hl : lv_has ls 7 [(0, .ref (a 0))] := hl
  unfold fMo_bettered at h
  refine lv_iconst (v := 0) S.1 S.2.1 dX7_bettered_0 (by decide) ?_
  refine lv_istore_n (lv' := [(1, .int (0 : Int32)), (0, .ref (a 0))]) S.1 S.2.1 dX7_bettered_1 rfl hl (by decide) rfl (fun ls hl => ?_)
  exact wMo_bettered_2 S hK hA hQ N (0 : Int32) σ _ _ _ h hW (lv_sub hl [1, 0] rfl)
set_option maxHeartbeats 4000000 in
set_option maxRecDepth 100000 in
theorem wMo_rest_27 {p : Program} {l : Launch} {e : Env} {s : State} {m : MethodId} {args : Array Value} {below : List Frame} {meth : Method} {c : Code} {A : Nat → Prop} {Q : State → Prop} {D : va_G} {cs : Nat → ClassId} {a : Nat → Nat} {Λ : Nat → Int64} {r : Int32} {σ' : St} {N : Nat} (S : Fx p m c cX7_rest 4 s args RX7) (hK : va_K D vwCl (tyL cs) s) (hA : ∀ x, s.heap.size ≤ x → A x) (hQ : ∀ (H : Heap) (locs : List Loc) (pc : Nat) (ls : Array Slot), decode cX7_rest pc = .ok (.ireturn, 1) → narrow .int (.int r) = .int r → Wd D A s.heap (wMo cs a σ' Λ) H locs → W p l e { frames := 6, cells := 0, slots := 0, locals := 151 } s m args below meth c H locs 0 0 Q (F0 m pc ls [.int r])) : ∀ (σ : St) (H : Heap) (locs : List Loc) (ls : Array Slot), fMo_rest_27 N σ = some (r, σ') → Wd D A s.heap (wMo cs a σ Λ) H locs → lv_has ls 4 [] → W p l e { frames := 6, cells := 0, slots := 0, locals := 151 } s m args below meth c H locs 0 0 Q (F0 m 27 ls []) := by
  intro σ H locs ls h hW hl
  unfold fMo_rest_27 at h
  refine lv_iconst (v := -1) S.1 S.2.1 dX7_rest_27 (by decide) ?_
  obtain ⟨rfl, rfl⟩ := pr2 h
  exact hQ _ _ _ _ dX7_rest_28 rfl hW
set_option maxHeartbeats 4000000 in
set_option maxRecDepth 100000 in
theorem wMo_rest_78 {p : Program} {l : Launch} {e : Env} {s : State} {m : MethodId} {args : Array Value} {below : List Frame} {meth : Method} {c : Code} {A : Nat → Prop} {Q : State → Prop} {D : va_G} {cs : Nat → ClassId} {a : Nat → Nat} {Λ : Nat → Int64} {r : Int32} {σ' : St} {N : Nat} (S : Fx p m c cX7_rest 4 s args RX7) (hK : va_K D vwCl (tyL cs) s) (hA : ∀ x, s.heap.size ≤ x → A x) (hQ : ∀ (H : Heap) (locs : List Loc) (pc : Nat) (ls : Array Slot), decode cX7_rest pc = .ok (.ireturn, 1) → narrow .int (.int r) = .int r → Wd D A s.heap (wMo cs a σ' Λ) H locs → W p l e { frames := 6, cells := 0, slots := 0, locals := 151 } s m args below meth c H locs 0 0 Q (F0 m pc ls [.int r])) : ∀ (n_78 : Nat) (v1 : Int32) (v2 : Int32) (v3 : Int32) (σ : St) (H : Heap) (locs : List Loc) (ls : Array Slot), fMo_rest_78 N n_78 v1 v2 v3 σ = some (r, σ') → Wd D A s.heap (wMo cs a σ Λ) H locs → lv_has ls 4 [(0, .ref (a 0)), (1, .int v1), (2, .int v2), (3, .int v3)] → W p l e { frames := 6, cells := 0, slots := 0, locals := 151 } s m args below meth c H locs 0 0 Q (F0 m 78 ls []) := by
  intro n_78
  induction n_78 with
  | zero =>
    intro v1 v2 v3 σ H locs ls h
    cases h
  | succ n_78 ih =>
    intro v1 v2 v3 σ H locs ls h hW hl
    unfold fMo_rest_78 at h
    refine lv_iload_n S.1 S.2.1 dX7_rest_78 rfl (lv_at hl 3 rfl) ?_
    refine lv_aload_n S.1 S.2.1 dX7_rest_79 rfl (lv_at hl 0 rfl) ?_
    refine gMo_readers S hK hW dX7_rest_80 ?_
    refine lv_iconst (v := 0) S.1 S.2.1 dX7_rest_83 (by decide) ?_
    obtain ⟨hi_1, h⟩ := gI_some h
    refine lMo_readers S hK hW hi_1 dX7_rest_84 ?_
    refine lv_icmp_ge (tgt := 136) S.1 S.2.1 dX7_rest_85 (by decide) (fun c_2 => ?_) (fun c_2 => ?_)
    · have h := ite_t c_2 h
      refine lv_iconst (v := 1) S.1 S.2.1 dX7_rest_136 (by decide) ?_
      obtain ⟨rfl, rfl⟩ := pr2 h
      exact hQ _ _ _ _ dX7_rest_137 rfl hW
    · have h := ite_f c_2 h
      refine lv_aload_n S.1 S.2.1 dX7_rest_88 rfl (lv_at hl 0 rfl) ?_
      refine lv_iload_n S.1 S.2.1 dX7_rest_89 rfl (lv_at hl 1 rfl) ?_
      refine lv_iload_n S.1 S.2.1 dX7_rest_90 rfl (lv_at hl 2 rfl) ?_
      refine lv_iconst (v := 1) S.1 S.2.1 dX7_rest_91 (by decide) ?_
      refine lv_iload_n S.1 S.2.1 dX7_rest_92 rfl (lv_at hl 3 rfl) ?_
      refine lv_ishl S.1 S.2.1 dX7_rest_93 ?_
      refine lv_ixor S.1 S.2.1 dX7_rest_94 ?_
      refine lv_sipush (v := 399) S.1 S.2.1 dX7_rest_95 (by decide) ?_
      refine lv_aload_n S.1 S.2.1 dX7_rest_98 rfl (lv_at hl 0 rfl) ?_
      refine gMo_told S hK hW dX7_rest_99 ?_
      refine lv_iconst (v := 0) S.1 S.2.1 dX7_rest_102 (by decide) ?_
      obtain ⟨hi_3, h⟩ := gI_some h
      refine lMo_told S hK hW hi_3 dX7_rest_103 ?_
      refine lv_aload_n S.1 S.2.1 dX7_rest_104 rfl (lv_at hl 0 rfl) ?_
      refine gMo_told S hK hW dX7_rest_105 ?_
      refine lv_iconst (v := 1) S.1 S.2.1 dX7_rest_108 (by decide) ?_
      obtain ⟨hi_4, h⟩ := gI_some h
      refine lMo_told S hK hW hi_4 dX7_rest_109 ?_
      obtain ⟨σ_5, hc_6, h⟩ := cl1_some h
      have hW := kw_same hW
      refine kV_v (As := [.int v1, .int (v2 ^^^ ((1 : Int32) <<< (v3 &&& 31))), .int (399 : Int32), .int (σ 8 (0 : Int32).toNatClampNeg), .int (σ 8 (1 : Int32).toNatClampNeg)]) (rest := []) S hK hA (z := none) trivial [] [] hW (cMo_goes l D cs a σ Λ v1 (v2 ^^^ ((1 : Int32) <<< (v3 &&& 31))) (399 : Int32) (σ 8 (0 : Int32).toNatClampNeg) (σ 8 (1 : Int32).toNatClampNeg) N hc_6) (ci := 6) rfl rfl lk_X7_180 q849 q27 ⟨Nat.le_of_ble_eq_true rfl, Nat.le_of_ble_eq_true rfl⟩ rfl (Nat.le_of_ble_eq_true rfl) hl.1 dX7_rest_110 ⟨Nat.zero_le _, Nat.zero_le _⟩ (fun H locs hW => ?_)
      have hW : Wd D A s.heap (wMo cs a σ_5 Λ) H locs := kw_back hW
      refine lv_aload_n S.1 S.2.1 dX7_rest_113 rfl (lv_at hl 0 rfl) ?_
      refine gMo_sat S hK hW dX7_rest_114 ?_
      refine lv_iload_n S.1 S.2.1 dX7_rest_117 rfl (lv_at hl 3 rfl) ?_
      obtain ⟨hi_7, h⟩ := gI_some h
      refine lMo_sat S hK hW hi_7 dX7_rest_118 ?_
      refine lv_aload_n S.1 S.2.1 dX7_rest_119 rfl (lv_at hl 0 rfl) ?_
      refine gMo_sets S hK hW dX7_rest_120 ?_
      refine lv_iload_n S.1 S.2.1 dX7_rest_123 rfl (lv_at hl 3 rfl) ?_
      obtain ⟨hi_8, h⟩ := gI_some h
      refine lMo_sets S hK hW hi_8 dX7_rest_124 ?_
      refine lv_icmp_le (tgt := 130) S.1 S.2.1 dX7_rest_125 (by decide) (fun c_9 => ?_) (fun c_9 => ?_)
      · have h := ite_t c_9 h
        obtain ⟨x3_10, ex3_10, h⟩ := nm_some h
        refine lv_iinc (v := x3_10) (lv' := [(3, .int x3_10), (0, .ref (a 0)), (1, .int v1), (2, .int v2)]) S.1 S.2.1 dX7_rest_130 hl (k := 3) rfl (by rw [ex3_10]; rfl) (by decide) rfl (fun ls hl => ?_)
        refine lv_goto (tgt := 78) S.1 S.2.1 dX7_rest_133 (by decide) ?_
        exact ih v1 v2 x3_10 σ_5 _ _ _ h hW (lv_sub hl [1, 2, 3, 0] rfl)
      · have h := ite_f c_9 h
        refine lv_iconst (v := 0) S.1 S.2.1 dX7_rest_128 (by decide) ?_
        obtain ⟨rfl, rfl⟩ := pr2 h
        exact hQ _ _ _ _ dX7_rest_129 rfl hW
set_option maxHeartbeats 4000000 in
set_option maxRecDepth 100000 in
theorem wMo_rest_52 {p : Program} {l : Launch} {e : Env} {s : State} {m : MethodId} {args : Array Value} {below : List Frame} {meth : Method} {c : Code} {A : Nat → Prop} {Q : State → Prop} {D : va_G} {cs : Nat → ClassId} {a : Nat → Nat} {Λ : Nat → Int64} {r : Int32} {σ' : St} {N : Nat} (S : Fx p m c cX7_rest 4 s args RX7) (hK : va_K D vwCl (tyL cs) s) (hA : ∀ x, s.heap.size ≤ x → A x) (hQ : ∀ (H : Heap) (locs : List Loc) (pc : Nat) (ls : Array Slot), decode cX7_rest pc = .ok (.ireturn, 1) → narrow .int (.int r) = .int r → Wd D A s.heap (wMo cs a σ' Λ) H locs → W p l e { frames := 6, cells := 0, slots := 0, locals := 151 } s m args below meth c H locs 0 0 Q (F0 m pc ls [.int r])) : ∀ (n_52 : Nat) (v1 : Int32) (v2 : Int32) (v3 : Int32) (σ : St) (H : Heap) (locs : List Loc) (ls : Array Slot), fMo_rest_52 N n_52 v1 v2 v3 σ = some (r, σ') → Wd D A s.heap (wMo cs a σ Λ) H locs → lv_has ls 4 [(0, .ref (a 0)), (1, .int v1), (2, .int v2), (3, .int v3)] → W p l e { frames := 6, cells := 0, slots := 0, locals := 151 } s m args below meth c H locs 0 0 Q (F0 m 52 ls []) := by
  intro n_52
  induction n_52 with
  | zero =>
    intro v1 v2 v3 σ H locs ls h
    cases h
  | succ n_52 ih =>
    intro v1 v2 v3 σ H locs ls h hW hl
    unfold fMo_rest_52 at h
    refine lv_iload_n S.1 S.2.1 dX7_rest_52 rfl (lv_at hl 3 rfl) ?_
    refine lv_bipush (v := 8) S.1 S.2.1 dX7_rest_53 (by decide) ?_
    refine lv_icmp_ge (tgt := 76) S.1 S.2.1 dX7_rest_55 (by decide) (fun c_11 => ?_) (fun c_11 => ?_)
    · have h := ite_t c_11 h
      refine lv_iconst (v := 0) S.1 S.2.1 dX7_rest_76 (by decide) ?_
      refine lv_istore_n (lv' := [(3, .int (0 : Int32)), (0, .ref (a 0)), (1, .int v1), (2, .int v2)]) S.1 S.2.1 dX7_rest_77 rfl hl (by decide) rfl (fun ls hl => ?_)
      exact wMo_rest_78 S hK hA hQ N v1 v2 (0 : Int32) σ _ _ _ h hW (lv_sub hl [1, 2, 3, 0] rfl)
    · have h := ite_f c_11 h
      refine lv_aload_n S.1 S.2.1 dX7_rest_58 rfl (lv_at hl 0 rfl) ?_
      refine gMo_sets S hK hW dX7_rest_59 ?_
      refine lv_iload_n S.1 S.2.1 dX7_rest_62 rfl (lv_at hl 3 rfl) ?_
      refine lv_aload_n S.1 S.2.1 dX7_rest_63 rfl (lv_at hl 0 rfl) ?_
      refine gMo_sat S hK hW dX7_rest_64 ?_
      refine lv_iload_n S.1 S.2.1 dX7_rest_67 rfl (lv_at hl 3 rfl) ?_
      obtain ⟨hi_12, h⟩ := gI_some h
      refine lMo_sat S hK hW hi_12 dX7_rest_68 ?_
      obtain ⟨hi_13, h⟩ := gI_some h
      refine sMo_sets S hK hW hi_13 dX7_rest_69 (fun H locs σ_14 eσ_14 hW => ?_)
      have h := nm_to eσ_14 h
      obtain ⟨x3_15, ex3_15, h⟩ := nm_some h
      refine lv_iinc (v := x3_15) (lv' := [(3, .int x3_15), (0, .ref (a 0)), (1, .int v1), (2, .int v2)]) S.1 S.2.1 dX7_rest_70 hl (k := 3) rfl (by rw [ex3_15]; rfl) (by decide) rfl (fun ls hl => ?_)
      refine lv_goto (tgt := 52) S.1 S.2.1 dX7_rest_73 (by decide) ?_
      exact ih v1 v2 x3_15 σ_14 _ _ _ h hW (lv_sub hl [1, 2, 3, 0] rfl)
set_option maxHeartbeats 4000000 in
set_option maxRecDepth 100000 in
theorem cMo_rest (l : Launch) (D : va_G) (cs : Nat → ClassId) (a : Nat → Nat) (σ : St) (Λ : Nat → Int64) (p0 : Int32) (p1 : Int32) (N : Nat) {r : Int32} {σ' : St} (h : fMo_rest N p0 p1 σ = some (r, σ')) : Ki l D cs none yX7_rest cX7_rest 4 (some .int) 6 151 (wMo cs a σ Λ) [.ref (a 0), .int p0, .int p1] r (wMo cs a σ' Λ) := by
  refine Ki_of (by decide +kernel) (Nat.le_of_ble_eq_true rfl) (fun p e s m below meth c A S hK hA hZ Q hQ ls hl hW => ?_)
  have hl : lv_has ls 4 [(0, .ref (a 0)), (1, .int p0), (2, .int p1)] := hl
  unfold fMo_rest at h
  refine lv_iload_n S.1 S.2.1 dX7_rest_0 rfl (lv_at hl 1 rfl) ?_
  obtain ⟨r_16, hc_17, h⟩ := cl1_some h
  refine kS_i (As := [.int p0]) (rest := []) S hK hA (z := none) trivial [] (wMo cs a σ Λ) hW (cMo_isRule l D cs p0 N hc_17) lk_X7_183 q840 ⟨Nat.le_of_ble_eq_true rfl, Nat.le_of_ble_eq_true rfl⟩ rfl (Nat.le_of_ble_eq_true rfl) hl.1 dX7_rest_1 ⟨Nat.zero_le _, Nat.zero_le _⟩ (fun H locs hW => ?_)
  have hW : Wd D A s.heap (wMo cs a σ Λ) H locs := hW
  refine lv_if_eq (tgt := 27) S.1 S.2.1 dX7_rest_4 (by decide) (fun c_18 => ?_) (fun c_18 => ?_)
  · have h := ite_t c_18 h
    exact wMo_rest_27 S hK hA hQ σ _ _ _ h hW (lv_sub hl [] rfl)
  · have h := ite_f c_18 h
    refine lv_iload_n S.1 S.2.1 dX7_rest_7 rfl (lv_at hl 2 rfl) ?_
    refine lv_i2l S.1 S.2.1 dX7_rest_8 rfl ?_
    refine lv_lconst (v := 0) S.1 S.2.1 dX7_rest_9 (by decide) ?_
    refine lv_iconst (v := 1) S.1 S.2.1 dX7_rest_10 (by decide) ?_
    refine lv_aload_n S.1 S.2.1 dX7_rest_11 rfl (lv_at hl 0 rfl) ?_
    refine gMo_readers S hK hW dX7_rest_12 ?_
    refine lv_iconst (v := 0) S.1 S.2.1 dX7_rest_15 (by decide) ?_
    obtain ⟨hi_19, h⟩ := gI_some h
    refine lMo_readers S hK hW hi_19 dX7_rest_16 ?_
    refine lv_ishl S.1 S.2.1 dX7_rest_17 ?_
    refine lv_iconst (v := 1) S.1 S.2.1 dX7_rest_18 (by decide) ?_
    refine lv_isub S.1 S.2.1 dX7_rest_19 ?_
    refine lv_i2l S.1 S.2.1 dX7_rest_20 rfl ?_
    obtain ⟨r_20, hc_21, h⟩ := cl1_some h
    refine kS_i (As := [.long (p1.toInt64), .long (0 : Int64), .long ((((1 : Int32) <<< ((σ 5 (0 : Int32).toNatClampNeg) &&& 31)) - (1 : Int32)).toInt64)]) (rest := []) S hK hA (z := none) trivial [] (wMo cs a σ Λ) hW (cMo_in l D cs (p1.toInt64) (0 : Int64) ((((1 : Int32) <<< ((σ 5 (0 : Int32).toNatClampNeg) &&& 31)) - (1 : Int32)).toInt64) N hc_21) lk_X7_80 q777 ⟨Nat.le_of_ble_eq_true rfl, Nat.le_of_ble_eq_true rfl⟩ rfl (Nat.le_of_ble_eq_true rfl) hl.1 dX7_rest_21 ⟨Nat.zero_le _, Nat.zero_le _⟩ (fun H locs hW => ?_)
    have hW : Wd D A s.heap (wMo cs a σ Λ) H locs := hW
    refine lv_if_ne (tgt := 29) S.1 S.2.1 dX7_rest_24 (by decide) (fun c_22 => ?_) (fun c_22 => ?_)
    · have h := ite_f c_22 h
      refine lv_aload_n S.1 S.2.1 dX7_rest_29 rfl (lv_at hl 0 rfl) ?_
      refine lv_iload_n S.1 S.2.1 dX7_rest_30 rfl (lv_at hl 1 rfl) ?_
      refine lv_iload_n S.1 S.2.1 dX7_rest_31 rfl (lv_at hl 2 rfl) ?_
      refine lv_sipush (v := 399) S.1 S.2.1 dX7_rest_32 (by decide) ?_
      refine lv_aload_n S.1 S.2.1 dX7_rest_35 rfl (lv_at hl 0 rfl) ?_
      refine gMo_told S hK hW dX7_rest_36 ?_
      refine lv_iconst (v := 0) S.1 S.2.1 dX7_rest_39 (by decide) ?_
      obtain ⟨hi_23, h⟩ := gI_some h
      refine lMo_told S hK hW hi_23 dX7_rest_40 ?_
      refine lv_aload_n S.1 S.2.1 dX7_rest_41 rfl (lv_at hl 0 rfl) ?_
      refine gMo_told S hK hW dX7_rest_42 ?_
      refine lv_iconst (v := 1) S.1 S.2.1 dX7_rest_45 (by decide) ?_
      obtain ⟨hi_24, h⟩ := gI_some h
      refine lMo_told S hK hW hi_24 dX7_rest_46 ?_
      obtain ⟨σ_25, hc_26, h⟩ := cl1_some h
      have hW := kw_same hW
      refine kV_v (As := [.int p0, .int p1, .int (399 : Int32), .int (σ 8 (0 : Int32).toNatClampNeg), .int (σ 8 (1 : Int32).toNatClampNeg)]) (rest := []) S hK hA (z := none) trivial [] [] hW (cMo_goes l D cs a σ Λ p0 p1 (399 : Int32) (σ 8 (0 : Int32).toNatClampNeg) (σ 8 (1 : Int32).toNatClampNeg) N hc_26) (ci := 6) rfl rfl lk_X7_180 q849 q27 ⟨Nat.le_of_ble_eq_true rfl, Nat.le_of_ble_eq_true rfl⟩ rfl (Nat.le_of_ble_eq_true rfl) hl.1 dX7_rest_47 ⟨Nat.zero_le _, Nat.zero_le _⟩ (fun H locs hW => ?_)
      have hW : Wd D A s.heap (wMo cs a σ_25 Λ) H locs := kw_back hW
      refine lv_iconst (v := 0) S.1 S.2.1 dX7_rest_50 (by decide) ?_
      refine lv_istore_n (lv' := [(3, .int (0 : Int32)), (0, .ref (a 0)), (1, .int p0), (2, .int p1)]) S.1 S.2.1 dX7_rest_51 rfl hl (by decide) rfl (fun ls hl => ?_)
      exact wMo_rest_52 S hK hA hQ N p0 p1 (0 : Int32) σ_25 _ _ _ h hW (lv_sub hl [1, 2, 3, 0] rfl)
    · have h := ite_t c_22 h
      exact wMo_rest_27 S hK hA hQ σ _ _ _ h hW (lv_sub hl [] rfl)
set_option maxHeartbeats 4000000 in
set_option maxRecDepth 100000 in
theorem wMo_rests_19 {p : Program} {l : Launch} {e : Env} {s : State} {m : MethodId} {args : Array Value} {below : List Frame} {meth : Method} {c : Code} {A : Nat → Prop} {Q : State → Prop} {D : va_G} {cs : Nat → ClassId} {a : Nat → Nat} {Λ : Nat → Int64} {r : Int32} {σ' : St} {N : Nat} (S : Fx p m c cX7_rests 10 s args RX7) (hK : va_K D vwCl (tyL cs) s) (hA : ∀ x, s.heap.size ≤ x → A x) (hQ : ∀ (H : Heap) (locs : List Loc) (pc : Nat) (ls : Array Slot), decode cX7_rests pc = .ok (.ireturn, 1) → narrow .int (.int r) = .int r → Wd D A s.heap (wMo cs a σ' Λ) H locs → W p l e { frames := 6, cells := 0, slots := 0, locals := 151 } s m args below meth c H locs 0 0 Q (F0 m pc ls [.int r])) : ∀ (σ : St) (H : Heap) (locs : List Loc) (ls : Array Slot), fMo_rests_19 N σ = some (r, σ') → Wd D A s.heap (wMo cs a σ Λ) H locs → lv_has ls 10 [] → W p l e { frames := 6, cells := 0, slots := 0, locals := 151 } s m args below meth c H locs 0 0 Q (F0 m 19 ls []) := by
  intro σ H locs ls h hW hl
  unfold fMo_rests_19 at h
  refine lv_iconst (v := -1) S.1 S.2.1 dX7_rests_19 (by decide) ?_
  obtain ⟨rfl, rfl⟩ := pr2 h
  exact hQ _ _ _ _ dX7_rests_20 rfl hW
set_option maxHeartbeats 4000000 in
set_option maxRecDepth 100000 in
theorem wMo_rests_64 {p : Program} {l : Launch} {e : Env} {s : State} {m : MethodId} {args : Array Value} {below : List Frame} {meth : Method} {c : Code} {A : Nat → Prop} {Q : State → Prop} {D : va_G} {cs : Nat → ClassId} {a : Nat → Nat} {Λ : Nat → Int64} {r : Int32} {σ' : St} {N : Nat} (S : Fx p m c cX7_rests 10 s args RX7) (hK : va_K D vwCl (tyL cs) s) (hA : ∀ x, s.heap.size ≤ x → A x) (hQ : ∀ (H : Heap) (locs : List Loc) (pc : Nat) (ls : Array Slot), decode cX7_rests pc = .ok (.ireturn, 1) → narrow .int (.int r) = .int r → Wd D A s.heap (wMo cs a σ' Λ) H locs → W p l e { frames := 6, cells := 0, slots := 0, locals := 151 } s m args below meth c H locs 0 0 Q (F0 m pc ls [.int r])) {k_33 : Int32 → Int32 → Int32 → Int32 → St → Option (Int32 × St)} (hk_33 : ∀ (v1 : Int32) (v2 : Int32) (v3 : Int32) (v4 : Int32) (σ : St) (H : Heap) (locs : List Loc) (ls : Array Slot), k_33 v1 v2 v3 v4 σ = some (r, σ') → Wd D A s.heap (wMo cs a σ Λ) H locs → lv_has ls 10 [(0, .ref (a 0)), (1, .int v1), (2, .int v2), (3, .int v3), (4, .int v4)] → W p l e { frames := 6, cells := 0, slots := 0, locals := 151 } s m args below meth c H locs 0 0 Q (F0 m 33 ls [])) : ∀ (n_64 : Nat) (v1 : Int32) (v2 : Int32) (v3 : Int32) (v4 : Int32) (v5 : Int32) (σ : St) (H : Heap) (locs : List Loc) (ls : Array Slot), fMo_rests_64 k_33 N n_64 v1 v2 v3 v4 v5 σ = some (r, σ') → Wd D A s.heap (wMo cs a σ Λ) H locs → lv_has ls 10 [(0, .ref (a 0)), (1, .int v1), (2, .int v2), (3, .int v3), (4, .int v4), (5, .int v5)] → W p l e { frames := 6, cells := 0, slots := 0, locals := 151 } s m args below meth c H locs 0 0 Q (F0 m 64 ls []) := by
  intro n_64
  induction n_64 with
  | zero =>
    intro v1 v2 v3 v4 v5 σ H locs ls h
    cases h
  | succ n_64 ih =>
    intro v1 v2 v3 v4 v5 σ H locs ls h hW hl
    unfold fMo_rests_64 at h
    refine lv_iload S.1 S.2.1 dX7_rests_64 (lv_at hl 5 rfl) ?_
    refine lv_bipush (v := 8) S.1 S.2.1 dX7_rests_66 (by decide) ?_
    refine lv_icmp_ge (tgt := 97) S.1 S.2.1 dX7_rests_68 (by decide) (fun c_1 => ?_) (fun c_1 => ?_)
    · have h := ite_t c_1 h
      obtain ⟨x4_2, ex4_2, h⟩ := nm_some h
      refine lv_iinc (v := x4_2) (lv' := [(4, .int x4_2), (0, .ref (a 0)), (1, .int v1), (2, .int v2), (3, .int v3), (5, .int v5)]) S.1 S.2.1 dX7_rests_97 hl (k := 4) rfl (by rw [ex4_2]; rfl) (by decide) rfl (fun ls hl => ?_)
      refine lv_goto (tgt := 33) S.1 S.2.1 dX7_rests_100 (by decide) ?_
      exact hk_33 v1 v2 v3 x4_2 σ _ _ _ h hW (lv_sub hl [1, 2, 3, 4, 0] rfl)
    · have h := ite_f c_1 h
      refine lv_aload_n S.1 S.2.1 dX7_rests_71 rfl (lv_at hl 0 rfl) ?_
      refine gMo_sets S hK hW dX7_rests_72 ?_
      refine lv_bipush (v := 8) S.1 S.2.1 dX7_rests_75 (by decide) ?_
      refine lv_iload S.1 S.2.1 dX7_rests_77 (lv_at hl 4 rfl) ?_
      refine lv_imul S.1 S.2.1 dX7_rests_79 ?_
      refine lv_iload S.1 S.2.1 dX7_rests_80 (lv_at hl 5 rfl) ?_
      refine lv_iadd S.1 S.2.1 dX7_rests_82 ?_
      refine lv_aload_n S.1 S.2.1 dX7_rests_83 rfl (lv_at hl 0 rfl) ?_
      refine gMo_sat S hK hW dX7_rests_84 ?_
      refine lv_iload S.1 S.2.1 dX7_rests_87 (lv_at hl 5 rfl) ?_
      obtain ⟨hi_3, h⟩ := gI_some h
      refine lMo_sat S hK hW hi_3 dX7_rests_89 ?_
      obtain ⟨hi_4, h⟩ := gI_some h
      refine sMo_sets S hK hW hi_4 dX7_rests_90 (fun H locs σ_5 eσ_5 hW => ?_)
      have h := nm_to eσ_5 h
      obtain ⟨x5_6, ex5_6, h⟩ := nm_some h
      refine lv_iinc (v := x5_6) (lv' := [(5, .int x5_6), (0, .ref (a 0)), (1, .int v1), (2, .int v2), (3, .int v3), (4, .int v4)]) S.1 S.2.1 dX7_rests_91 hl (k := 5) rfl (by rw [ex5_6]; rfl) (by decide) rfl (fun ls hl => ?_)
      refine lv_goto (tgt := 64) S.1 S.2.1 dX7_rests_94 (by decide) ?_
      exact ih v1 v2 v3 v4 x5_6 σ_5 _ _ _ h hW (lv_sub hl [1, 2, 3, 4, 5, 0] rfl)
set_option maxHeartbeats 4000000 in
set_option maxRecDepth 100000 in
theorem wMo_rests_184 {p : Program} {l : Launch} {e : Env} {s : State} {m : MethodId} {args : Array Value} {below : List Frame} {meth : Method} {c : Code} {A : Nat → Prop} {Q : State → Prop} {D : va_G} {cs : Nat → ClassId} {a : Nat → Nat} {Λ : Nat → Int64} {r : Int32} {σ' : St} {N : Nat} (S : Fx p m c cX7_rests 10 s args RX7) (hK : va_K D vwCl (tyL cs) s) (hA : ∀ x, s.heap.size ≤ x → A x) (hQ : ∀ (H : Heap) (locs : List Loc) (pc : Nat) (ls : Array Slot), decode cX7_rests pc = .ok (.ireturn, 1) → narrow .int (.int r) = .int r → Wd D A s.heap (wMo cs a σ' Λ) H locs → W p l e { frames := 6, cells := 0, slots := 0, locals := 151 } s m args below meth c H locs 0 0 Q (F0 m pc ls [.int r])) {k_129 : Int32 → Int32 → Int32 → Int32 → Int32 → Int32 → Int32 → Int32 → St → Option (Int32 × St)} (hk_129 : ∀ (v2 : Int32) (v3 : Int32) (v4 : Int32) (v5 : Int32) (v6 : Int32) (v7 : Int32) (v8 : Int32) (v9 : Int32) (σ : St) (H : Heap) (locs : List Loc) (ls : Array Slot), k_129 v2 v3 v4 v5 v6 v7 v8 v9 σ = some (r, σ') → Wd D A s.heap (wMo cs a σ Λ) H locs → lv_has ls 10 [(0, .ref (a 0)), (2, .int v2), (3, .int v3), (4, .int v4), (5, .int v5), (6, .int v6), (7, .int v7), (8, .int v8), (9, .int v9)] → W p l e { frames := 6, cells := 0, slots := 0, locals := 151 } s m args below meth c H locs 0 0 Q (F0 m 129 ls [])) : ∀ (v2 : Int32) (v3 : Int32) (v4 : Int32) (v5 : Int32) (v6 : Int32) (v7 : Int32) (v9 : Int32) (k0 : Int32) (σ : St) (H : Heap) (locs : List Loc) (ls : Array Slot), fMo_rests_184 k_129 N v2 v3 v4 v5 v6 v7 v9 k0 σ = some (r, σ') → Wd D A s.heap (wMo cs a σ Λ) H locs → lv_has ls 10 [(0, .ref (a 0)), (2, .int v2), (3, .int v3), (4, .int v4), (5, .int v5), (6, .int v6), (7, .int v7), (9, .int v9)] → W p l e { frames := 6, cells := 0, slots := 0, locals := 151 } s m args below meth c H locs 0 0 Q (F0 m 184 ls [.int k0]) := by
  intro v2 v3 v4 v5 v6 v7 v9 k0 σ H locs ls h hW hl
  unfold fMo_rests_184 at h
  refine lv_istore (lv' := [(8, .int k0), (0, .ref (a 0)), (2, .int v2), (3, .int v3), (4, .int v4), (5, .int v5), (6, .int v6), (7, .int v7), (9, .int v9)]) S.1 S.2.1 dX7_rests_184 hl (by decide) rfl (fun ls hl => ?_)
  obtain ⟨x9_7, ex9_7, h⟩ := nm_some h
  refine lv_iinc (v := x9_7) (lv' := [(9, .int x9_7), (8, .int k0), (0, .ref (a 0)), (2, .int v2), (3, .int v3), (4, .int v4), (5, .int v5), (6, .int v6), (7, .int v7)]) S.1 S.2.1 dX7_rests_186 hl (k := 8) rfl (by rw [ex9_7]; rfl) (by decide) rfl (fun ls hl => ?_)
  refine lv_goto (tgt := 129) S.1 S.2.1 dX7_rests_189 (by decide) ?_
  exact hk_129 v2 v3 v4 v5 v6 v7 k0 x9_7 σ _ _ _ h hW (lv_sub hl [2, 3, 4, 5, 6, 7, 8, 1, 0] rfl)
set_option maxHeartbeats 4000000 in
set_option maxRecDepth 100000 in
theorem wMo_rests_183 {p : Program} {l : Launch} {e : Env} {s : State} {m : MethodId} {args : Array Value} {below : List Frame} {meth : Method} {c : Code} {A : Nat → Prop} {Q : State → Prop} {D : va_G} {cs : Nat → ClassId} {a : Nat → Nat} {Λ : Nat → Int64} {r : Int32} {σ' : St} {N : Nat} (S : Fx p m c cX7_rests 10 s args RX7) (hK : va_K D vwCl (tyL cs) s) (hA : ∀ x, s.heap.size ≤ x → A x) (hQ : ∀ (H : Heap) (locs : List Loc) (pc : Nat) (ls : Array Slot), decode cX7_rests pc = .ok (.ireturn, 1) → narrow .int (.int r) = .int r → Wd D A s.heap (wMo cs a σ' Λ) H locs → W p l e { frames := 6, cells := 0, slots := 0, locals := 151 } s m args below meth c H locs 0 0 Q (F0 m pc ls [.int r])) {k_129 : Int32 → Int32 → Int32 → Int32 → Int32 → Int32 → Int32 → Int32 → St → Option (Int32 × St)} (hk_129 : ∀ (v2 : Int32) (v3 : Int32) (v4 : Int32) (v5 : Int32) (v6 : Int32) (v7 : Int32) (v8 : Int32) (v9 : Int32) (σ : St) (H : Heap) (locs : List Loc) (ls : Array Slot), k_129 v2 v3 v4 v5 v6 v7 v8 v9 σ = some (r, σ') → Wd D A s.heap (wMo cs a σ Λ) H locs → lv_has ls 10 [(0, .ref (a 0)), (2, .int v2), (3, .int v3), (4, .int v4), (5, .int v5), (6, .int v6), (7, .int v7), (8, .int v8), (9, .int v9)] → W p l e { frames := 6, cells := 0, slots := 0, locals := 151 } s m args below meth c H locs 0 0 Q (F0 m 129 ls [])) : ∀ (v2 : Int32) (v3 : Int32) (v4 : Int32) (v5 : Int32) (v6 : Int32) (v7 : Int32) (v9 : Int32) (σ : St) (H : Heap) (locs : List Loc) (ls : Array Slot), fMo_rests_183 k_129 N v2 v3 v4 v5 v6 v7 v9 σ = some (r, σ') → Wd D A s.heap (wMo cs a σ Λ) H locs → lv_has ls 10 [(0, .ref (a 0)), (2, .int v2), (3, .int v3), (4, .int v4), (5, .int v5), (6, .int v6), (7, .int v7), (9, .int v9)] → W p l e { frames := 6, cells := 0, slots := 0, locals := 151 } s m args below meth c H locs 0 0 Q (F0 m 183 ls []) := by
  intro v2 v3 v4 v5 v6 v7 v9 σ H locs ls h hW hl
  unfold fMo_rests_183 at h
  refine lv_iconst (v := 0) S.1 S.2.1 dX7_rests_183 (by decide) ?_
  exact wMo_rests_184 S hK hA hQ hk_129 v2 v3 v4 v5 v6 v7 v9 (0 : Int32) σ _ _ _ h hW (lv_sub hl [0, 1, 2, 3, 4, 5, 6, 7] rfl)
set_option maxHeartbeats 4000000 in
set_option maxRecDepth 100000 in
theorem wMo_rests_238 {p : Program} {l : Launch} {e : Env} {s : State} {m : MethodId} {args : Array Value} {below : List Frame} {meth : Method} {c : Code} {A : Nat → Prop} {Q : State → Prop} {D : va_G} {cs : Nat → ClassId} {a : Nat → Nat} {Λ : Nat → Int64} {r : Int32} {σ' : St} {N : Nat} (S : Fx p m c cX7_rests 10 s args RX7) (hK : va_K D vwCl (tyL cs) s) (hA : ∀ x, s.heap.size ≤ x → A x) (hQ : ∀ (H : Heap) (locs : List Loc) (pc : Nat) (ls : Array Slot), decode cX7_rests pc = .ok (.ireturn, 1) → narrow .int (.int r) = .int r → Wd D A s.heap (wMo cs a σ' Λ) H locs → W p l e { frames := 6, cells := 0, slots := 0, locals := 151 } s m args below meth c H locs 0 0 Q (F0 m pc ls [.int r])) {k_117 : Int32 → Int32 → Int32 → Int32 → Int32 → Int32 → St → Option (Int32 × St)} (hk_117 : ∀ (v2 : Int32) (v3 : Int32) (v4 : Int32) (v5 : Int32) (v6 : Int32) (v7 : Int32) (σ : St) (H : Heap) (locs : List Loc) (ls : Array Slot), k_117 v2 v3 v4 v5 v6 v7 σ = some (r, σ') → Wd D A s.heap (wMo cs a σ Λ) H locs → lv_has ls 10 [(0, .ref (a 0)), (2, .int v2), (3, .int v3), (4, .int v4), (5, .int v5), (6, .int v6), (7, .int v7)] → W p l e { frames := 6, cells := 0, slots := 0, locals := 151 } s m args below meth c H locs 0 0 Q (F0 m 117 ls [])) : ∀ (v2 : Int32) (v3 : Int32) (v4 : Int32) (v5 : Int32) (v7 : Int32) (k0 : Int32) (σ : St) (H : Heap) (locs : List Loc) (ls : Array Slot), fMo_rests_238 k_117 N v2 v3 v4 v5 v7 k0 σ = some (r, σ') → Wd D A s.heap (wMo cs a σ Λ) H locs → lv_has ls 10 [(0, .ref (a 0)), (2, .int v2), (3, .int v3), (4, .int v4), (5, .int v5), (7, .int v7)] → W p l e { frames := 6, cells := 0, slots := 0, locals := 151 } s m args below meth c H locs 0 0 Q (F0 m 238 ls [.int k0]) := by
  intro v2 v3 v4 v5 v7 k0 σ H locs ls h hW hl
  unfold fMo_rests_238 at h
  refine lv_istore (lv' := [(6, .int k0), (0, .ref (a 0)), (2, .int v2), (3, .int v3), (4, .int v4), (5, .int v5), (7, .int v7)]) S.1 S.2.1 dX7_rests_238 hl (by decide) rfl (fun ls hl => ?_)
  obtain ⟨x7_8, ex7_8, h⟩ := nm_some h
  refine lv_iinc (v := x7_8) (lv' := [(7, .int x7_8), (6, .int k0), (0, .ref (a 0)), (2, .int v2), (3, .int v3), (4, .int v4), (5, .int v5)]) S.1 S.2.1 dX7_rests_240 hl (k := 6) rfl (by rw [ex7_8]; rfl) (by decide) rfl (fun ls hl => ?_)
  refine lv_goto (tgt := 117) S.1 S.2.1 dX7_rests_243 (by decide) ?_
  exact hk_117 v2 v3 v4 v5 k0 x7_8 σ _ _ _ h hW (lv_sub hl [2, 3, 4, 5, 6, 1, 0] rfl)
set_option maxHeartbeats 4000000 in
set_option maxRecDepth 100000 in
theorem wMo_rests_224 {p : Program} {l : Launch} {e : Env} {s : State} {m : MethodId} {args : Array Value} {below : List Frame} {meth : Method} {c : Code} {A : Nat → Prop} {Q : State → Prop} {D : va_G} {cs : Nat → ClassId} {a : Nat → Nat} {Λ : Nat → Int64} {r : Int32} {σ' : St} {N : Nat} (S : Fx p m c cX7_rests 10 s args RX7) (hK : va_K D vwCl (tyL cs) s) (hA : ∀ x, s.heap.size ≤ x → A x) (hQ : ∀ (H : Heap) (locs : List Loc) (pc : Nat) (ls : Array Slot), decode cX7_rests pc = .ok (.ireturn, 1) → narrow .int (.int r) = .int r → Wd D A s.heap (wMo cs a σ' Λ) H locs → W p l e { frames := 6, cells := 0, slots := 0, locals := 151 } s m args below meth c H locs 0 0 Q (F0 m pc ls [.int r])) {k_117 : Int32 → Int32 → Int32 → Int32 → Int32 → Int32 → St → Option (Int32 × St)} (hk_117 : ∀ (v2 : Int32) (v3 : Int32) (v4 : Int32) (v5 : Int32) (v6 : Int32) (v7 : Int32) (σ : St) (H : Heap) (locs : List Loc) (ls : Array Slot), k_117 v2 v3 v4 v5 v6 v7 σ = some (r, σ') → Wd D A s.heap (wMo cs a σ Λ) H locs → lv_has ls 10 [(0, .ref (a 0)), (2, .int v2), (3, .int v3), (4, .int v4), (5, .int v5), (6, .int v6), (7, .int v7)] → W p l e { frames := 6, cells := 0, slots := 0, locals := 151 } s m args below meth c H locs 0 0 Q (F0 m 117 ls [])) : ∀ (v2 : Int32) (v3 : Int32) (v4 : Int32) (v6 : Int32) (v7 : Int32) (v8 : Int32) (k0 : Int32) (σ : St) (H : Heap) (locs : List Loc) (ls : Array Slot), fMo_rests_224 k_117 N v2 v3 v4 v6 v7 v8 k0 σ = some (r, σ') → Wd D A s.heap (wMo cs a σ Λ) H locs → lv_has ls 10 [(0, .ref (a 0)), (2, .int v2), (3, .int v3), (4, .int v4), (6, .int v6), (7, .int v7), (8, .int v8)] → W p l e { frames := 6, cells := 0, slots := 0, locals := 151 } s m args below meth c H locs 0 0 Q (F0 m 224 ls [.int k0]) := by
  intro v2 v3 v4 v6 v7 v8 k0 σ H locs ls h hW hl
  unfold fMo_rests_224 at h
  refine lv_istore (lv' := [(5, .int k0), (0, .ref (a 0)), (2, .int v2), (3, .int v3), (4, .int v4), (6, .int v6), (7, .int v7), (8, .int v8)]) S.1 S.2.1 dX7_rests_224 hl (by decide) rfl (fun ls hl => ?_)
  refine lv_iload S.1 S.2.1 dX7_rests_226 (lv_at hl 7 rfl) ?_
  refine lv_if_eq (tgt := 236) S.1 S.2.1 dX7_rests_228 (by decide) (fun c_9 => ?_) (fun c_9 => ?_)
  · have h := ite_t c_9 h
    refine lv_iload S.1 S.2.1 dX7_rests_236 (lv_at hl 5 rfl) ?_
    exact wMo_rests_238 S hK hA hQ hk_117 v2 v3 v4 k0 v7 v6 σ _ _ _ h hW (lv_sub hl [1, 2, 3, 4, 0, 6] rfl)
  · have h := ite_f c_9 h
    refine lv_iload S.1 S.2.1 dX7_rests_231 (lv_at hl 6 rfl) ?_
    refine lv_goto (tgt := 238) S.1 S.2.1 dX7_rests_233 (by decide) ?_
    exact wMo_rests_238 S hK hA hQ hk_117 v2 v3 v4 k0 v7 v7 σ _ _ _ h hW (lv_sub hl [1, 2, 3, 4, 0, 6] rfl)
set_option maxHeartbeats 4000000 in
set_option maxRecDepth 100000 in
theorem wMo_rests_222 {p : Program} {l : Launch} {e : Env} {s : State} {m : MethodId} {args : Array Value} {below : List Frame} {meth : Method} {c : Code} {A : Nat → Prop} {Q : State → Prop} {D : va_G} {cs : Nat → ClassId} {a : Nat → Nat} {Λ : Nat → Int64} {r : Int32} {σ' : St} {N : Nat} (S : Fx p m c cX7_rests 10 s args RX7) (hK : va_K D vwCl (tyL cs) s) (hA : ∀ x, s.heap.size ≤ x → A x) (hQ : ∀ (H : Heap) (locs : List Loc) (pc : Nat) (ls : Array Slot), decode cX7_rests pc = .ok (.ireturn, 1) → narrow .int (.int r) = .int r → Wd D A s.heap (wMo cs a σ' Λ) H locs → W p l e { frames := 6, cells := 0, slots := 0, locals := 151 } s m args below meth c H locs 0 0 Q (F0 m pc ls [.int r])) {k_117 : Int32 → Int32 → Int32 → Int32 → Int32 → Int32 → St → Option (Int32 × St)} (hk_117 : ∀ (v2 : Int32) (v3 : Int32) (v4 : Int32) (v5 : Int32) (v6 : Int32) (v7 : Int32) (σ : St) (H : Heap) (locs : List Loc) (ls : Array Slot), k_117 v2 v3 v4 v5 v6 v7 σ = some (r, σ') → Wd D A s.heap (wMo cs a σ Λ) H locs → lv_has ls 10 [(0, .ref (a 0)), (2, .int v2), (3, .int v3), (4, .int v4), (5, .int v5), (6, .int v6), (7, .int v7)] → W p l e { frames := 6, cells := 0, slots := 0, locals := 151 } s m args below meth c H locs 0 0 Q (F0 m 117 ls [])) : ∀ (v2 : Int32) (v3 : Int32) (v4 : Int32) (v5 : Int32) (v6 : Int32) (v7 : Int32) (v8 : Int32) (σ : St) (H : Heap) (locs : List Loc) (ls : Array Slot), fMo_rests_222 k_117 N v2 v3 v4 v5 v6 v7 v8 σ = some (r, σ') → Wd D A s.heap (wMo cs a σ Λ) H locs → lv_has ls 10 [(0, .ref (a 0)), (2, .int v2), (3, .int v3), (4, .int v4), (5, .int v5), (6, .int v6), (7, .int v7), (8, .int v8)] → W p l e { frames := 6, cells := 0, slots := 0, locals := 151 } s m args below meth c H locs 0 0 Q (F0 m 222 ls []) := by
  intro v2 v3 v4 v5 v6 v7 v8 σ H locs ls h hW hl
  unfold fMo_rests_222 at h
  refine lv_iload S.1 S.2.1 dX7_rests_222 (lv_at hl 4 rfl) ?_
  exact wMo_rests_224 S hK hA hQ hk_117 v2 v3 v4 v6 v7 v8 v5 σ _ _ _ h hW (lv_sub hl [0, 1, 2, 3, 5, 6, 7] rfl)
set_option maxHeartbeats 4000000 in
set_option maxRecDepth 100000 in
theorem wMo_rests_204 {p : Program} {l : Launch} {e : Env} {s : State} {m : MethodId} {args : Array Value} {below : List Frame} {meth : Method} {c : Code} {A : Nat → Prop} {Q : State → Prop} {D : va_G} {cs : Nat → ClassId} {a : Nat → Nat} {Λ : Nat → Int64} {r : Int32} {σ' : St} {N : Nat} (S : Fx p m c cX7_rests 10 s args RX7) (hK : va_K D vwCl (tyL cs) s) (hA : ∀ x, s.heap.size ≤ x → A x) (hQ : ∀ (H : Heap) (locs : List Loc) (pc : Nat) (ls : Array Slot), decode cX7_rests pc = .ok (.ireturn, 1) → narrow .int (.int r) = .int r → Wd D A s.heap (wMo cs a σ' Λ) H locs → W p l e { frames := 6, cells := 0, slots := 0, locals := 151 } s m args below meth c H locs 0 0 Q (F0 m pc ls [.int r])) {k_117 : Int32 → Int32 → Int32 → Int32 → Int32 → Int32 → St → Option (Int32 × St)} (hk_117 : ∀ (v2 : Int32) (v3 : Int32) (v4 : Int32) (v5 : Int32) (v6 : Int32) (v7 : Int32) (σ : St) (H : Heap) (locs : List Loc) (ls : Array Slot), k_117 v2 v3 v4 v5 v6 v7 σ = some (r, σ') → Wd D A s.heap (wMo cs a σ Λ) H locs → lv_has ls 10 [(0, .ref (a 0)), (2, .int v2), (3, .int v3), (4, .int v4), (5, .int v5), (6, .int v6), (7, .int v7)] → W p l e { frames := 6, cells := 0, slots := 0, locals := 151 } s m args below meth c H locs 0 0 Q (F0 m 117 ls [])) : ∀ (v2 : Int32) (v3 : Int32) (v5 : Int32) (v6 : Int32) (v7 : Int32) (v8 : Int32) (k0 : Int32) (k1 : Int32) (σ : St) (H : Heap) (locs : List Loc) (ls : Array Slot), fMo_rests_204 k_117 N v2 v3 v5 v6 v7 v8 k0 k1 σ = some (r, σ') → Wd D A s.heap (wMo cs a σ Λ) H locs → lv_has ls 10 [(0, .ref (a 0)), (2, .int v2), (3, .int v3), (5, .int v5), (6, .int v6), (7, .int v7), (8, .int v8)] → W p l e { frames := 6, cells := 0, slots := 0, locals := 151 } s m args below meth c H locs 0 0 Q (F0 m 204 ls [.int k1, .int k0]) := by
  intro v2 v3 v5 v6 v7 v8 k0 k1 σ H locs ls h hW hl
  unfold fMo_rests_204 at h
  refine lv_iadd S.1 S.2.1 dX7_rests_204 ?_
  refine lv_topi (fun x4_10 ex4_10 => ?_)
  have h := nm_to ex4_10 h
  refine lv_istore (lv' := [(4, .int x4_10), (0, .ref (a 0)), (2, .int v2), (3, .int v3), (5, .int v5), (6, .int v6), (7, .int v7), (8, .int v8)]) S.1 S.2.1 dX7_rests_205 hl (by decide) rfl (fun ls hl => ?_)
  refine lv_iload S.1 S.2.1 dX7_rests_207 (lv_at hl 7 rfl) ?_
  refine lv_if_eq (tgt := 222) S.1 S.2.1 dX7_rests_209 (by decide) (fun c_11 => ?_) (fun c_11 => ?_)
  · have h := ite_t c_11 h
    exact wMo_rests_222 S hK hA hQ hk_117 v2 v3 x4_10 v5 v6 v7 v8 σ _ _ _ h hW (lv_sub hl [1, 2, 3, 0, 4, 5, 6, 7] rfl)
  · have h := ite_f c_11 h
    refine lv_iload S.1 S.2.1 dX7_rests_212 (lv_at hl 4 rfl) ?_
    refine lv_if_ge (tgt := 222) S.1 S.2.1 dX7_rests_214 (by decide) (fun c_12 => ?_) (fun c_12 => ?_)
    · have h := ite_t c_12 h
      exact wMo_rests_222 S hK hA hQ hk_117 v2 v3 x4_10 v5 v6 v7 v8 σ _ _ _ h hW (lv_sub hl [1, 2, 3, 0, 4, 5, 6, 7] rfl)
    · have h := ite_f c_12 h
      refine lv_iload S.1 S.2.1 dX7_rests_217 (lv_at hl 6 rfl) ?_
      refine lv_goto (tgt := 224) S.1 S.2.1 dX7_rests_219 (by decide) ?_
      exact wMo_rests_224 S hK hA hQ hk_117 v2 v3 x4_10 v6 v7 v8 v7 σ _ _ _ h hW (lv_sub hl [1, 2, 3, 0, 5, 6, 7] rfl)
set_option maxHeartbeats 4000000 in
set_option maxRecDepth 100000 in
theorem wMo_rests_129 {p : Program} {l : Launch} {e : Env} {s : State} {m : MethodId} {args : Array Value} {below : List Frame} {meth : Method} {c : Code} {A : Nat → Prop} {Q : State → Prop} {D : va_G} {cs : Nat → ClassId} {a : Nat → Nat} {Λ : Nat → Int64} {r : Int32} {σ' : St} {N : Nat} (S : Fx p m c cX7_rests 10 s args RX7) (hK : va_K D vwCl (tyL cs) s) (hA : ∀ x, s.heap.size ≤ x → A x) (hQ : ∀ (H : Heap) (locs : List Loc) (pc : Nat) (ls : Array Slot), decode cX7_rests pc = .ok (.ireturn, 1) → narrow .int (.int r) = .int r → Wd D A s.heap (wMo cs a σ' Λ) H locs → W p l e { frames := 6, cells := 0, slots := 0, locals := 151 } s m args below meth c H locs 0 0 Q (F0 m pc ls [.int r])) {k_117 : Int32 → Int32 → Int32 → Int32 → Int32 → Int32 → St → Option (Int32 × St)} (hk_117 : ∀ (v2 : Int32) (v3 : Int32) (v4 : Int32) (v5 : Int32) (v6 : Int32) (v7 : Int32) (σ : St) (H : Heap) (locs : List Loc) (ls : Array Slot), k_117 v2 v3 v4 v5 v6 v7 σ = some (r, σ') → Wd D A s.heap (wMo cs a σ Λ) H locs → lv_has ls 10 [(0, .ref (a 0)), (2, .int v2), (3, .int v3), (4, .int v4), (5, .int v5), (6, .int v6), (7, .int v7)] → W p l e { frames := 6, cells := 0, slots := 0, locals := 151 } s m args below meth c H locs 0 0 Q (F0 m 117 ls [])) : ∀ (n_129 : Nat) (v2 : Int32) (v3 : Int32) (v4 : Int32) (v5 : Int32) (v6 : Int32) (v7 : Int32) (v8 : Int32) (v9 : Int32) (σ : St) (H : Heap) (locs : List Loc) (ls : Array Slot), fMo_rests_129 k_117 N n_129 v2 v3 v4 v5 v6 v7 v8 v9 σ = some (r, σ') → Wd D A s.heap (wMo cs a σ Λ) H locs → lv_has ls 10 [(0, .ref (a 0)), (2, .int v2), (3, .int v3), (4, .int v4), (5, .int v5), (6, .int v6), (7, .int v7), (8, .int v8), (9, .int v9)] → W p l e { frames := 6, cells := 0, slots := 0, locals := 151 } s m args below meth c H locs 0 0 Q (F0 m 129 ls []) := by
  intro n_129
  induction n_129 with
  | zero =>
    intro v2 v3 v4 v5 v6 v7 v8 v9 σ H locs ls h
    cases h
  | succ n_129 ih =>
    intro v2 v3 v4 v5 v6 v7 v8 v9 σ H locs ls h hW hl
    unfold fMo_rests_129 at h
    refine lv_iload S.1 S.2.1 dX7_rests_129 (lv_at hl 8 rfl) ?_
    refine lv_aload_n S.1 S.2.1 dX7_rests_131 rfl (lv_at hl 0 rfl) ?_
    refine gMo_readers S hK hW dX7_rests_132 ?_
    refine lv_iconst (v := 0) S.1 S.2.1 dX7_rests_135 (by decide) ?_
    obtain ⟨hi_13, h⟩ := gI_some h
    refine lMo_readers S hK hW hi_13 dX7_rests_136 ?_
    refine lv_icmp_ge (tgt := 192) S.1 S.2.1 dX7_rests_137 (by decide) (fun c_14 => ?_) (fun c_14 => ?_)
    · have h := ite_t c_14 h
      refine lv_iload S.1 S.2.1 dX7_rests_192 (lv_at hl 3 rfl) ?_
      refine lv_iload S.1 S.2.1 dX7_rests_194 (lv_at hl 7 rfl) ?_
      refine lv_if_eq (tgt := 203) S.1 S.2.1 dX7_rests_196 (by decide) (fun c_15 => ?_) (fun c_15 => ?_)
      · have h := ite_t c_15 h
        refine lv_iconst (v := 0) S.1 S.2.1 dX7_rests_203 (by decide) ?_
        exact wMo_rests_204 S hK hA hQ hk_117 v2 v3 v5 v6 v7 v8 v4 (0 : Int32) σ _ _ _ h hW (lv_sub hl [0, 1, 2, 4, 5, 6, 7] rfl)
      · have h := ite_f c_15 h
        refine lv_iconst (v := 1) S.1 S.2.1 dX7_rests_199 (by decide) ?_
        refine lv_goto (tgt := 204) S.1 S.2.1 dX7_rests_200 (by decide) ?_
        exact wMo_rests_204 S hK hA hQ hk_117 v2 v3 v5 v6 v7 v8 v4 (1 : Int32) σ _ _ _ h hW (lv_sub hl [0, 1, 2, 4, 5, 6, 7] rfl)
    · have h := ite_f c_14 h
      refine lv_iload S.1 S.2.1 dX7_rests_140 (lv_at hl 7 rfl) ?_
      refine lv_if_eq (tgt := 183) S.1 S.2.1 dX7_rests_142 (by decide) (fun c_16 => ?_) (fun c_16 => ?_)
      · have h := ite_t c_16 h
        exact wMo_rests_183 S hK hA hQ ih v2 v3 v4 v5 v6 v7 v9 σ _ _ _ h hW (lv_sub hl [0, 1, 2, 3, 4, 5, 6, 8] rfl)
      · have h := ite_f c_16 h
        refine lv_aload_n S.1 S.2.1 dX7_rests_145 rfl (lv_at hl 0 rfl) ?_
        refine gMo_sets S hK hW dX7_rests_146 ?_
        refine lv_bipush (v := 8) S.1 S.2.1 dX7_rests_149 (by decide) ?_
        refine lv_iload S.1 S.2.1 dX7_rests_151 (lv_at hl 6 rfl) ?_
        refine lv_iconst (v := 1) S.1 S.2.1 dX7_rests_153 (by decide) ?_
        refine lv_iload S.1 S.2.1 dX7_rests_154 (lv_at hl 8 rfl) ?_
        refine lv_ishl S.1 S.2.1 dX7_rests_156 ?_
        refine lv_ixor S.1 S.2.1 dX7_rests_157 ?_
        refine lv_imul S.1 S.2.1 dX7_rests_158 ?_
        refine lv_iload S.1 S.2.1 dX7_rests_159 (lv_at hl 8 rfl) ?_
        refine lv_iadd S.1 S.2.1 dX7_rests_161 ?_
        obtain ⟨hi_17, h⟩ := gI_some h
        refine lMo_sets S hK hW hi_17 dX7_rests_162 ?_
        refine lv_aload_n S.1 S.2.1 dX7_rests_163 rfl (lv_at hl 0 rfl) ?_
        refine gMo_sets S hK hW dX7_rests_164 ?_
        refine lv_bipush (v := 8) S.1 S.2.1 dX7_rests_167 (by decide) ?_
        refine lv_iload S.1 S.2.1 dX7_rests_169 (lv_at hl 6 rfl) ?_
        refine lv_imul S.1 S.2.1 dX7_rests_171 ?_
        refine lv_iload S.1 S.2.1 dX7_rests_172 (lv_at hl 8 rfl) ?_
        refine lv_iadd S.1 S.2.1 dX7_rests_174 ?_
        obtain ⟨hi_18, h⟩ := gI_some h
        refine lMo_sets S hK hW hi_18 dX7_rests_175 ?_
        refine lv_icmp_gt (tgt := 183) S.1 S.2.1 dX7_rests_176 (by decide) (fun c_19 => ?_) (fun c_19 => ?_)
        · have h := ite_t c_19 h
          exact wMo_rests_183 S hK hA hQ ih v2 v3 v4 v5 v6 v7 v9 σ _ _ _ h hW (lv_sub hl [0, 1, 2, 3, 4, 5, 6, 8] rfl)
        · have h := ite_f c_19 h
          refine lv_iconst (v := 1) S.1 S.2.1 dX7_rests_179 (by decide) ?_
          refine lv_goto (tgt := 184) S.1 S.2.1 dX7_rests_180 (by decide) ?_
          exact wMo_rests_184 S hK hA hQ ih v2 v3 v4 v5 v6 v7 v9 (1 : Int32) σ _ _ _ h hW (lv_sub hl [0, 1, 2, 3, 4, 5, 6, 8] rfl)
set_option maxHeartbeats 4000000 in
set_option maxRecDepth 100000 in
theorem wMo_rests_267 {p : Program} {l : Launch} {e : Env} {s : State} {m : MethodId} {args : Array Value} {below : List Frame} {meth : Method} {c : Code} {A : Nat → Prop} {Q : State → Prop} {D : va_G} {cs : Nat → ClassId} {a : Nat → Nat} {Λ : Nat → Int64} {r : Int32} {σ' : St} {N : Nat} (S : Fx p m c cX7_rests 10 s args RX7) (hK : va_K D vwCl (tyL cs) s) (hA : ∀ x, s.heap.size ≤ x → A x) (hQ : ∀ (H : Heap) (locs : List Loc) (pc : Nat) (ls : Array Slot), decode cX7_rests pc = .ok (.ireturn, 1) → narrow .int (.int r) = .int r → Wd D A s.heap (wMo cs a σ' Λ) H locs → W p l e { frames := 6, cells := 0, slots := 0, locals := 151 } s m args below meth c H locs 0 0 Q (F0 m pc ls [.int r])) : ∀ (k0 : Int32) (σ : St) (H : Heap) (locs : List Loc) (ls : Array Slot), fMo_rests_267 N k0 σ = some (r, σ') → Wd D A s.heap (wMo cs a σ Λ) H locs → lv_has ls 10 [] → W p l e { frames := 6, cells := 0, slots := 0, locals := 151 } s m args below meth c H locs 0 0 Q (F0 m 267 ls [.int k0]) := by
  intro k0 σ H locs ls h hW hl
  unfold fMo_rests_267 at h
  obtain ⟨rfl, rfl⟩ := pr2 h
  exact hQ _ _ _ _ dX7_rests_267 rfl hW
set_option maxHeartbeats 4000000 in
set_option maxRecDepth 100000 in
theorem wMo_rests_117 {p : Program} {l : Launch} {e : Env} {s : State} {m : MethodId} {args : Array Value} {below : List Frame} {meth : Method} {c : Code} {A : Nat → Prop} {Q : State → Prop} {D : va_G} {cs : Nat → ClassId} {a : Nat → Nat} {Λ : Nat → Int64} {r : Int32} {σ' : St} {N : Nat} (S : Fx p m c cX7_rests 10 s args RX7) (hK : va_K D vwCl (tyL cs) s) (hA : ∀ x, s.heap.size ≤ x → A x) (hQ : ∀ (H : Heap) (locs : List Loc) (pc : Nat) (ls : Array Slot), decode cX7_rests pc = .ok (.ireturn, 1) → narrow .int (.int r) = .int r → Wd D A s.heap (wMo cs a σ' Λ) H locs → W p l e { frames := 6, cells := 0, slots := 0, locals := 151 } s m args below meth c H locs 0 0 Q (F0 m pc ls [.int r])) : ∀ (n_117 : Nat) (v2 : Int32) (v3 : Int32) (v4 : Int32) (v5 : Int32) (v6 : Int32) (v7 : Int32) (σ : St) (H : Heap) (locs : List Loc) (ls : Array Slot), fMo_rests_117 N n_117 v2 v3 v4 v5 v6 v7 σ = some (r, σ') → Wd D A s.heap (wMo cs a σ Λ) H locs → lv_has ls 10 [(0, .ref (a 0)), (2, .int v2), (3, .int v3), (4, .int v4), (5, .int v5), (6, .int v6), (7, .int v7)] → W p l e { frames := 6, cells := 0, slots := 0, locals := 151 } s m args below meth c H locs 0 0 Q (F0 m 117 ls []) := by
  intro n_117
  induction n_117 with
  | zero =>
    intro v2 v3 v4 v5 v6 v7 σ H locs ls h
    cases h
  | succ n_117 ih =>
    intro v2 v3 v4 v5 v6 v7 σ H locs ls h hW hl
    unfold fMo_rests_117 at h
    refine lv_iload S.1 S.2.1 dX7_rests_117 (lv_at hl 6 rfl) ?_
    refine lv_iload_n S.1 S.2.1 dX7_rests_119 rfl (lv_at hl 2 rfl) ?_
    refine lv_icmp_ge (tgt := 246) S.1 S.2.1 dX7_rests_120 (by decide) (fun c_20 => ?_) (fun c_20 => ?_)
    · have h := ite_t c_20 h
      refine lv_iload_n S.1 S.2.1 dX7_rests_246 rfl (lv_at hl 1 rfl) ?_
      refine lv_if_ne (tgt := 255) S.1 S.2.1 dX7_rests_247 (by decide) (fun c_21 => ?_) (fun c_21 => ?_)
      · have h := ite_f c_21 h
        refine lv_iload_n S.1 S.2.1 dX7_rests_255 rfl (lv_at hl 1 rfl) ?_
        refine lv_iconst (v := 1) S.1 S.2.1 dX7_rests_256 (by decide) ?_
        refine lv_icmp_ne (tgt := 265) S.1 S.2.1 dX7_rests_257 (by decide) (fun c_22 => ?_) (fun c_22 => ?_)
        · have h := ite_f c_22 h
          refine lv_iload S.1 S.2.1 dX7_rests_265 (lv_at hl 5 rfl) ?_
          exact wMo_rests_267 S hK hA hQ v6 σ _ _ _ h hW (lv_sub hl [] rfl)
        · have h := ite_t c_22 h
          refine lv_iload S.1 S.2.1 dX7_rests_260 (lv_at hl 4 rfl) ?_
          refine lv_goto (tgt := 267) S.1 S.2.1 dX7_rests_262 (by decide) ?_
          exact wMo_rests_267 S hK hA hQ v5 σ _ _ _ h hW (lv_sub hl [] rfl)
      · have h := ite_t c_21 h
        refine lv_iload S.1 S.2.1 dX7_rests_250 (lv_at hl 3 rfl) ?_
        refine lv_goto (tgt := 267) S.1 S.2.1 dX7_rests_252 (by decide) ?_
        exact wMo_rests_267 S hK hA hQ v4 σ _ _ _ h hW (lv_sub hl [] rfl)
    · have h := ite_f c_20 h
      refine lv_iconst (v := 1) S.1 S.2.1 dX7_rests_123 (by decide) ?_
      refine lv_istore (lv' := [(8, .int (1 : Int32)), (0, .ref (a 0)), (2, .int v2), (3, .int v3), (4, .int v4), (5, .int v5), (6, .int v6), (7, .int v7)]) S.1 S.2.1 dX7_rests_124 hl (by decide) rfl (fun ls hl => ?_)
      refine lv_iconst (v := 0) S.1 S.2.1 dX7_rests_126 (by decide) ?_
      refine lv_istore (lv' := [(9, .int (0 : Int32)), (8, .int (1 : Int32)), (0, .ref (a 0)), (2, .int v2), (3, .int v3), (4, .int v4), (5, .int v5), (6, .int v6), (7, .int v7)]) S.1 S.2.1 dX7_rests_127 hl (by decide) rfl (fun ls hl => ?_)
      exact wMo_rests_129 S hK hA hQ ih N v2 v3 v4 v5 v6 v7 (1 : Int32) (0 : Int32) σ _ _ _ h hW (lv_sub hl [2, 3, 4, 5, 6, 7, 8, 1, 0] rfl)
set_option maxHeartbeats 4000000 in
set_option maxRecDepth 100000 in
theorem wMo_rests_33 {p : Program} {l : Launch} {e : Env} {s : State} {m : MethodId} {args : Array Value} {below : List Frame} {meth : Method} {c : Code} {A : Nat → Prop} {Q : State → Prop} {D : va_G} {cs : Nat → ClassId} {a : Nat → Nat} {Λ : Nat → Int64} {r : Int32} {σ' : St} {N : Nat} (S : Fx p m c cX7_rests 10 s args RX7) (hK : va_K D vwCl (tyL cs) s) (hA : ∀ x, s.heap.size ≤ x → A x) (hQ : ∀ (H : Heap) (locs : List Loc) (pc : Nat) (ls : Array Slot), decode cX7_rests pc = .ok (.ireturn, 1) → narrow .int (.int r) = .int r → Wd D A s.heap (wMo cs a σ' Λ) H locs → W p l e { frames := 6, cells := 0, slots := 0, locals := 151 } s m args below meth c H locs 0 0 Q (F0 m pc ls [.int r])) : ∀ (n_33 : Nat) (v1 : Int32) (v2 : Int32) (v3 : Int32) (v4 : Int32) (σ : St) (H : Heap) (locs : List Loc) (ls : Array Slot), fMo_rests_33 N n_33 v1 v2 v3 v4 σ = some (r, σ') → Wd D A s.heap (wMo cs a σ Λ) H locs → lv_has ls 10 [(0, .ref (a 0)), (1, .int v1), (2, .int v2), (3, .int v3), (4, .int v4)] → W p l e { frames := 6, cells := 0, slots := 0, locals := 151 } s m args below meth c H locs 0 0 Q (F0 m 33 ls []) := by
  intro n_33
  induction n_33 with
  | zero =>
    intro v1 v2 v3 v4 σ H locs ls h
    cases h
  | succ n_33 ih =>
    intro v1 v2 v3 v4 σ H locs ls h hW hl
    unfold fMo_rests_33 at h
    refine lv_iload S.1 S.2.1 dX7_rests_33 (lv_at hl 4 rfl) ?_
    refine lv_iload_n S.1 S.2.1 dX7_rests_35 rfl (lv_at hl 3 rfl) ?_
    refine lv_icmp_ge (tgt := 103) S.1 S.2.1 dX7_rests_36 (by decide) (fun c_23 => ?_) (fun c_23 => ?_)
    · have h := ite_t c_23 h
      refine lv_iconst (v := 0) S.1 S.2.1 dX7_rests_103 (by decide) ?_
      refine lv_istore (lv' := [(4, .int (0 : Int32)), (0, .ref (a 0)), (1, .int v1), (2, .int v2), (3, .int v3)]) S.1 S.2.1 dX7_rests_104 hl (by decide) rfl (fun ls hl => ?_)
      refine lv_bipush (v := -4) S.1 S.2.1 dX7_rests_106 (by decide) ?_
      refine lv_istore (lv' := [(5, .int (-4 : Int32)), (4, .int (0 : Int32)), (0, .ref (a 0)), (1, .int v1), (2, .int v2), (3, .int v3)]) S.1 S.2.1 dX7_rests_108 hl (by decide) rfl (fun ls hl => ?_)
      refine lv_bipush (v := -4) S.1 S.2.1 dX7_rests_110 (by decide) ?_
      refine lv_istore (lv' := [(6, .int (-4 : Int32)), (5, .int (-4 : Int32)), (4, .int (0 : Int32)), (0, .ref (a 0)), (1, .int v1), (2, .int v2), (3, .int v3)]) S.1 S.2.1 dX7_rests_112 hl (by decide) rfl (fun ls hl => ?_)
      refine lv_iconst (v := 0) S.1 S.2.1 dX7_rests_114 (by decide) ?_
      refine lv_istore (lv' := [(7, .int (0 : Int32)), (6, .int (-4 : Int32)), (5, .int (-4 : Int32)), (4, .int (0 : Int32)), (0, .ref (a 0)), (1, .int v1), (2, .int v2), (3, .int v3)]) S.1 S.2.1 dX7_rests_115 hl (by decide) rfl (fun ls hl => ?_)
      exact wMo_rests_117 S hK hA hQ N v2 v3 (0 : Int32) (-4 : Int32) (-4 : Int32) (0 : Int32) σ _ _ _ h hW (lv_sub hl [4, 6, 7, 3, 2, 1, 0] rfl)
    · have h := ite_f c_23 h
      refine lv_aload_n S.1 S.2.1 dX7_rests_39 rfl (lv_at hl 0 rfl) ?_
      refine lv_iload_n S.1 S.2.1 dX7_rests_40 rfl (lv_at hl 1 rfl) ?_
      refine lv_iload S.1 S.2.1 dX7_rests_41 (lv_at hl 4 rfl) ?_
      refine lv_sipush (v := 399) S.1 S.2.1 dX7_rests_43 (by decide) ?_
      refine lv_aload_n S.1 S.2.1 dX7_rests_46 rfl (lv_at hl 0 rfl) ?_
      refine gMo_told S hK hW dX7_rests_47 ?_
      refine lv_iconst (v := 0) S.1 S.2.1 dX7_rests_50 (by decide) ?_
      obtain ⟨hi_24, h⟩ := gI_some h
      refine lMo_told S hK hW hi_24 dX7_rests_51 ?_
      refine lv_aload_n S.1 S.2.1 dX7_rests_52 rfl (lv_at hl 0 rfl) ?_
      refine gMo_told S hK hW dX7_rests_53 ?_
      refine lv_iconst (v := 1) S.1 S.2.1 dX7_rests_56 (by decide) ?_
      obtain ⟨hi_25, h⟩ := gI_some h
      refine lMo_told S hK hW hi_25 dX7_rests_57 ?_
      obtain ⟨σ_26, hc_27, h⟩ := cl1_some h
      have hW := kw_same hW
      refine kV_v (As := [.int v1, .int v4, .int (399 : Int32), .int (σ 8 (0 : Int32).toNatClampNeg), .int (σ 8 (1 : Int32).toNatClampNeg)]) (rest := []) S hK hA (z := none) trivial [] [] hW (cMo_goes l D cs a σ Λ v1 v4 (399 : Int32) (σ 8 (0 : Int32).toNatClampNeg) (σ 8 (1 : Int32).toNatClampNeg) N hc_27) (ci := 6) rfl rfl lk_X7_180 q849 q27 ⟨Nat.le_of_ble_eq_true rfl, Nat.le_of_ble_eq_true rfl⟩ rfl (Nat.le_of_ble_eq_true rfl) hl.1 dX7_rests_58 ⟨Nat.zero_le _, Nat.zero_le _⟩ (fun H locs hW => ?_)
      have hW : Wd D A s.heap (wMo cs a σ_26 Λ) H locs := kw_back hW
      refine lv_iconst (v := 0) S.1 S.2.1 dX7_rests_61 (by decide) ?_
      refine lv_istore (lv' := [(5, .int (0 : Int32)), (0, .ref (a 0)), (1, .int v1), (2, .int v2), (3, .int v3), (4, .int v4)]) S.1 S.2.1 dX7_rests_62 hl (by decide) rfl (fun ls hl => ?_)
      exact wMo_rests_64 S hK hA hQ ih N v1 v2 v3 v4 (0 : Int32) σ_26 _ _ _ h hW (lv_sub hl [1, 2, 3, 4, 5, 0] rfl)
set_option maxHeartbeats 4000000 in
set_option maxRecDepth 100000 in
theorem cMo_rests (l : Launch) (D : va_G) (cs : Nat → ClassId) (a : Nat → Nat) (σ : St) (Λ : Nat → Int64) (p0 : Int32) (p1 : Int32) (N : Nat) {r : Int32} {σ' : St} (h : fMo_rests N p0 p1 σ = some (r, σ')) : Ki l D cs none yX7_rests cX7_rests 10 (some .int) 6 151 (wMo cs a σ Λ) [.ref (a 0), .int p0, .int p1] r (wMo cs a σ' Λ) := by
  refine Ki_of (by decide +kernel) (Nat.le_of_ble_eq_true rfl) (fun p e s m below meth c A S hK hA hZ Q hQ ls hl hW => ?_)
  have hl : lv_has ls 10 [(0, .ref (a 0)), (1, .int p0), (2, .int p1)] := hl
  unfold fMo_rests at h
  refine lv_iload_n S.1 S.2.1 dX7_rests_0 rfl (lv_at hl 1 rfl) ?_
  obtain ⟨r_28, hc_29, h⟩ := cl1_some h
  refine kS_i (As := [.int p0]) (rest := []) S hK hA (z := none) trivial [] (wMo cs a σ Λ) hW (cMo_isRule l D cs p0 N hc_29) lk_X7_183 q840 ⟨Nat.le_of_ble_eq_true rfl, Nat.le_of_ble_eq_true rfl⟩ rfl (Nat.le_of_ble_eq_true rfl) hl.1 dX7_rests_1 ⟨Nat.zero_le _, Nat.zero_le _⟩ (fun H locs hW => ?_)
  have hW : Wd D A s.heap (wMo cs a σ Λ) H locs := hW
  refine lv_if_eq (tgt := 19) S.1 S.2.1 dX7_rests_4 (by decide) (fun c_30 => ?_) (fun c_30 => ?_)
  · have h := ite_t c_30 h
    exact wMo_rests_19 S hK hA hQ σ _ _ _ h hW (lv_sub hl [] rfl)
  · have h := ite_f c_30 h
    refine lv_iload_n S.1 S.2.1 dX7_rests_7 rfl (lv_at hl 2 rfl) ?_
    refine lv_i2l S.1 S.2.1 dX7_rests_8 rfl ?_
    refine lv_lconst (v := 0) S.1 S.2.1 dX7_rests_9 (by decide) ?_
    refine lv_ldc2 (v := 2) S.1 S.2.1 S.2.2.2.1 (S.2.2.2.2 _ q914) dX7_rests_10 ?_
    obtain ⟨r_31, hc_32, h⟩ := cl1_some h
    refine kS_i (As := [.long (p1.toInt64), .long (0 : Int64), .long (2 : Int64)]) (rest := []) S hK hA (z := none) trivial [] (wMo cs a σ Λ) hW (cMo_in l D cs (p1.toInt64) (0 : Int64) (2 : Int64) N hc_32) lk_X7_80 q777 ⟨Nat.le_of_ble_eq_true rfl, Nat.le_of_ble_eq_true rfl⟩ rfl (Nat.le_of_ble_eq_true rfl) hl.1 dX7_rests_13 ⟨Nat.zero_le _, Nat.zero_le _⟩ (fun H locs hW => ?_)
    have hW : Wd D A s.heap (wMo cs a σ Λ) H locs := hW
    refine lv_if_ne (tgt := 21) S.1 S.2.1 dX7_rests_16 (by decide) (fun c_33 => ?_) (fun c_33 => ?_)
    · have h := ite_f c_33 h
      refine lv_iconst (v := 1) S.1 S.2.1 dX7_rests_21 (by decide) ?_
      refine lv_aload_n S.1 S.2.1 dX7_rests_22 rfl (lv_at hl 0 rfl) ?_
      refine gMo_readers S hK hW dX7_rests_23 ?_
      refine lv_iconst (v := 0) S.1 S.2.1 dX7_rests_26 (by decide) ?_
      obtain ⟨hi_34, h⟩ := gI_some h
      refine lMo_readers S hK hW hi_34 dX7_rests_27 ?_
      refine lv_ishl S.1 S.2.1 dX7_rests_28 ?_
      refine lv_topi (fun x3_35 ex3_35 => ?_)
      have h := nm_to ex3_35 h
      refine lv_istore_n (lv' := [(3, .int x3_35), (0, .ref (a 0)), (1, .int p0), (2, .int p1)]) S.1 S.2.1 dX7_rests_29 rfl hl (by decide) rfl (fun ls hl => ?_)
      refine lv_iconst (v := 0) S.1 S.2.1 dX7_rests_30 (by decide) ?_
      refine lv_istore (lv' := [(4, .int (0 : Int32)), (3, .int x3_35), (0, .ref (a 0)), (1, .int p0), (2, .int p1)]) S.1 S.2.1 dX7_rests_31 hl (by decide) rfl (fun ls hl => ?_)
      exact wMo_rests_33 S hK hA hQ N p0 p1 x3_35 (0 : Int32) σ _ _ _ h hW (lv_sub hl [2, 3, 4, 1, 0] rfl)
    · have h := ite_t c_33 h
      exact wMo_rests_19 S hK hA hQ σ _ _ _ h hW (lv_sub hl [] rfl)
