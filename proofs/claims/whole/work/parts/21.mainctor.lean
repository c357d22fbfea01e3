theorem k_toldZ {D : va_G} {cs : Nat → ClassId} {A : Nat → Prop} {s : State} {H : Heap} {locs : List Loc} {pre mid post : va_W} {fs : Nat → Nat} (hK : va_K D vwCl (tyL cs) s) (hA : ∀ x, s.heap.size ≤ x → A x) (hZ : Zf fs A s s.heap) (hW : Wd D A s.heap (pre ++ (mid ++ post)) H locs) :
    ∀ U : State, U.heap = H → s.WarmedH U.vm → va_T .int (fs 3) 7 (fun j => .int (zReader j)) (va_A mid H.size) U U.heap := by
  intro U hU hWm
  obtain ⟨-, -, -, h4⟩ := k_pre (z := some fs) hK hA hZ hW
  obtain ⟨-, -, -, -, g⟩ := h4 U hU hWm
  have g4 : Zo "CoatsOnChairs" "FIRST_READER" 7 zReader (fs 3) (va_A mid H.size) U U.heap := g.2.2.2
  exact g4.2
def fMa_initS (N : Nat) (ρ : St) (μ : St) : Option St :=
  nm (sA μ 0 (upd (μ 0) 8 (0 : Int32))) fun μ_1 =>
  cl1 (fRo_everybody N ρ) fun r_2 =>
  nm (sA μ_1 0 (upd (μ_1 0) 9 r_2)) fun μ_4 =>
  some μ_4
def fMa_init (N : Nat) : Option (St × St × St × St × St × St) :=
  cl1 (fTe_init N) fun τ =>
  cl1 (fSc_init N) fun ς =>
  cl1 (fRo_init N) fun ρ_1 =>
  cl2 (fRo_addSeat N (0 : Int32) ρ_1) fun r_2 ρ_2 =>
  cl2 (fRo_addReader N zReader ρ_2) fun r_3 ρ_3 =>
  cl1 (fRo_init N) fun ε =>
  cl1 (fGa_init N) fun γ =>
  cl1 (fMa_initS N ρ_3 z0) fun μ =>
  some (μ, ς, τ, ε, γ, ρ_3)
set_option maxHeartbeats 4000000 in
set_option maxRecDepth 100000 in
theorem wMa_initS {p : Program} {l : Launch} {e : Env} {s : State} {m : MethodId} {args : Array Value} {below : List Frame} {meth : Method} {c : Code} {A : Nat → Prop} {Q : State → Prop} {D : va_G} {cs : Nat → ClassId} {a aS aT aE aG aD aR : Nat → Nat} {ς τ ε γ : St} {Γ : Nat → Int64} {δ ρ μ' : St} {dr N : Nat} (S : Fx p m c cX6_init 1 s args RX6) (hK : va_K D vwCl (tyL cs) s) (hA : ∀ x, s.heap.size ≤ x → A x) (hQ : ∀ (H : Heap) (locs : List Loc) (pc : Nat) (ls : Array Slot), decode cX6_init pc = .ok (.return_, 1) → Wd D A s.heap (wMa cs a (aT 0) (aS 0) (aD 0) (aG 0) (aR 0) (aE 0) μ' ++ (wSc cs aS (aT 0) ς ++ (wTe cs aT τ ++ (wRo cs aE ε ++ (wGa cs aG (aD 0) (aR 0) γ Γ ++ (wDa cs aD dr δ ++ (wRo cs aR ρ))))))) H locs → W p l e { frames := 2, cells := 25, slots := 1320, locals := 81 } s m args below meth c H locs 25 1320 Q (F0 m pc ls [])) : ∀ (μ : St) (H : Heap) (locs : List Loc) (ls : Array Slot), fMa_initS N ρ μ = some μ' → Wd D A s.heap (wMa cs a (aT 0) (aS 0) (aD 0) (aG 0) (aR 0) (aE 0) μ ++ (wSc cs aS (aT 0) ς ++ (wTe cs aT τ ++ (wRo cs aE ε ++ (wGa cs aG (aD 0) (aR 0) γ Γ ++ (wDa cs aD dr δ ++ (wRo cs aR ρ))))))) H locs → lv_has ls 1 [(0, .ref (a 0))] → W p l e { frames := 2, cells := 25, slots := 1320, locals := 81 } s m args below meth c H locs 25 1320 Q (F0 m 134 ls []) := by
  intro μ H locs ls h hW hl
  unfold fMa_initS at h
  refine lv_aload_n S.1 S.2.1 dX6_init_134 rfl (lv_at hl 0 rfl) ?_
  refine lv_iconst (v := 0) S.1 S.2.1 dX6_init_135 (by decide) ?_
  refine pMa_keptCount S hK hW dX6_init_136 (fun H locs μ_1 eμ_1 hW => ?_)
  have h := nm_to eμ_1 h
  refine lv_aload_n S.1 S.2.1 dX6_init_139 rfl (lv_at hl 0 rfl) ?_
  refine lv_aload_n S.1 S.2.1 dX6_init_140 rfl (lv_at hl 0 rfl) ?_
  refine gMa_laid S hK hW dX6_init_141 ?_
  obtain ⟨r_2, hc_3, h⟩ := cl1_some h
  have hW := kw (w' := (wMa cs a (aT 0) (aS 0) (aD 0) (aG 0) (aR 0) (aE 0) μ_1 ++ (wSc cs aS (aT 0) ς ++ (wTe cs aT τ ++ (wRo cs aE ε ++ (wGa cs aG (aD 0) (aR 0) γ Γ ++ (wDa cs aD dr δ)))))) ++ ((wRo cs aR ρ) ++ [])) (by simp only [List.append_assoc, List.nil_append, List.append_nil]) hW
  refine kV_i (As := []) (rest := [.ref (a 0)]) S hK hA (z := none) trivial (wMa cs a (aT 0) (aS 0) (aD 0) (aG 0) (aR 0) (aE 0) μ_1 ++ (wSc cs aS (aT 0) ς ++ (wTe cs aT τ ++ (wRo cs aE ε ++ (wGa cs aG (aD 0) (aR 0) γ Γ ++ (wDa cs aD dr δ)))))) [] hW (cRo_everybody l D cs aR ρ N hc_3) (ci := 2) rfl rfl lk_X6_81 q233 q234 ⟨Nat.le_of_ble_eq_true rfl, Nat.le_of_ble_eq_true rfl⟩ rfl (Nat.le_of_ble_eq_true rfl) hl.1 dX6_init_144 ⟨Nat.le_of_ble_eq_true rfl, Nat.le_of_ble_eq_true rfl⟩ (fun H locs hW => ?_)
  have hW : Wd D A s.heap (wMa cs a (aT 0) (aS 0) (aD 0) (aG 0) (aR 0) (aE 0) μ_1 ++ (wSc cs aS (aT 0) ς ++ (wTe cs aT τ ++ (wRo cs aE ε ++ (wGa cs aG (aD 0) (aR 0) γ Γ ++ (wDa cs aD dr δ ++ (wRo cs aR ρ))))))) H locs := kw (by simp only [List.append_assoc, List.nil_append, List.append_nil]) hW
  refine pMa_holders S hK hW dX6_init_147 (fun H locs μ_4 eμ_4 hW => ?_)
  have h := nm_to eμ_4 h
  obtain rfl := pr1 h
  exact hQ _ _ _ _ dX6_init_150 hW
set_option maxHeartbeats 4000000 in
set_option maxRecDepth 100000 in
theorem cMa_init (l : Launch) (D : va_G) (cs : Nat → ClassId) (fs : Nat → Nat) (h0 : Nat) (N : Nat) {μ' ς' τ' ε' γ' ρ' : St} (h : fMa_init N = some (μ', ς', τ', ε', γ', ρ')) : Kn l D cs (some fs) yX6_init cX6_init 1 2 81 25 1320 [(h0, .inr (5, [.null, .null, .null, .null, .null, .null, .null, .null, .int 0, .int 0, .null, .null]))] [.ref h0] (fun (u : (Nat → Nat) × (Nat → Nat → Nat)) => u.1 0 = h0 ∧ True) (fun (u : (Nat → Nat) × (Nat → Nat → Nat)) => (wMa cs u.1 ((u.2 1) 0) ((u.2 0) 0) ((u.2 4) 0) ((u.2 3) 0) ((u.2 5) 0) ((u.2 2) 0) μ' ++ (wSc cs (u.2 0) ((u.2 1) 0) ς' ++ (wTe cs (u.2 1) τ' ++ (wRo cs (u.2 2) ε' ++ (wGa cs (u.2 3) ((u.2 4) 0) ((u.2 5) 0) γ' (fun _ => (0 : Int64)) ++ (wDa cs (u.2 4) (u.2 5 0) z0 ++ (wRo cs (u.2 5) ρ')))))))) := by
  refine Kn_of (by decide +kernel) rfl (Nat.le_of_ble_eq_true rfl) (fun p e s m below meth c A S hin hK hA hZ Q hQ ls hl hW => ?_)
  have hl : lv_has ls 1 [(0, .ref h0)] := hl
  unfold fMa_init at h
  obtain ⟨τ, hτ, h⟩ := cl1_some h
  obtain ⟨ς, hς, h⟩ := cl1_some h
  obtain ⟨ρ_1, hρ1, h⟩ := cl1_some h
  obtain ⟨r_2, ρ_2, hρ2, h⟩ := cl2_some h
  obtain ⟨r_3, ρ_3, hρ3, h⟩ := cl2_some h
  obtain ⟨ε, hε, h⟩ := cl1_some h
  obtain ⟨γ, hγ, h⟩ := cl1_some h
  obtain ⟨μ, hμ, h⟩ := cl1_some h
  simp only [Option.some.injEq, Prod.mk.injEq] at h
  obtain ⟨rfl, rfl, rfl, rfl, rfl, rfl⟩ := h
  refine lv_aload_n S.1 S.2.1 dX6_init_0 rfl (lv_at hl 0 rfl) ?_
  refine W.objInit S.1 S.2.1 S.2.2.2.1 (S.2.2.2.2 _ q57) (S.2.2.2.2 _ q58) (S.2.2.2.2 _ q59) rfl (by rw [S.2.2.1]; exact hl.1) rfl dX6_init_1 (Nat.le_of_ble_eq_true rfl) (Nat.le_of_ble_eq_true rfl) ?_
  refine W.eq (g2 := F0 m 4 ls []) rfl ?_
  refine lv_aload_n S.1 S.2.1 dX6_init_4 rfl (lv_at hl 0 rfl) ?_
  refine va_new (ci := 4) (fs := [.null, .int 0]) (C := RX5) (T := TX5) (N := 2) S.1 S.2.1 S.2.2.2.2 inTe tyX5 tyX5_ok S.2.2.2.1 (S.2.2.2.2 _ q60) (S.2.2.2.2 _ q61) (S.2.2.2.2 _ q41) hK hW.1 hW.2.1 hW.2.2 hA rfl (by decide +kernel) (Nat.le_of_ble_eq_true rfl) (Nat.le_of_ble_eq_true rfl) dX6_init_5 (fun q_5 H hP hD hS => ?_)
  have hW : Wd D A s.heap (([(h0, .inr (5, [.null, .null, .null, .null, .null, .null, .null, .null, .int 0, .int 0, .null, .null]))]) ++ ([(q_5, .inr (4, [.null, .int 0]))] ++ [])) H _ := ⟨hP, hD, hS⟩
  refine W.widen (k := 1) (n := 2) (by decide) (by decide) ?_
  refine lv_dup S.1 S.2.1 dX6_init_8 rfl ?_
  refine kI_n (As := []) (rest := [.ref q_5, .ref h0]) S hK hA (z := none) trivial ([(h0, .inr (5, [.null, .null, .null, .null, .null, .null, .null, .null, .int 0, .int 0, .null, .null]))]) [] hW (cTe_init l D cs q_5 N hτ) lk_X6_9 q63 rfl ⟨Nat.le_of_ble_eq_true rfl, Nat.le_of_ble_eq_true rfl⟩ rfl (Nat.le_of_ble_eq_true rfl) hl.1 dX6_init_9 ⟨Nat.le_of_ble_eq_true rfl, Nat.le_of_ble_eq_true rfl⟩ (fun u_9 H9 locs9 hu hW9 => ?_)
  subst hu
  have hW : Wd D A s.heap ([(h0, .inr (5, [.null, .null, .null, .null, .null, .null, .null, .null, .int 0, .int 0, .null, .null]))] ++ (wTe cs u_9 τ)) H9 locs9 := kw (by simp only [List.append_assoc, List.nil_append, List.append_nil]) hW9
  clear hW9
  generalize H9 = H at hW ⊢
  generalize locs9 = locs at hW ⊢
  refine W.widen (k := 2) (n := 402) (by decide) (by decide) ?_
  refine va_putF (ci := 5) (v := .ref (u_9 0)) (ty := .object "CoatsOnChairs$Text") (C := RX6) (T := TX6) (N := 12) S.1 S.2.1 S.2.2.2.2 inMa tyX6 tyX6_ok nmX6 S.2.2.2.1 hK hW.1 hW.2.1 hW.2.2 0 rfl rfl 0 (by decide) (S.2.2.2.2 _ q236) (fun _ h => h) rfl hin rfl (by decide +kernel) rfl rfl (Nat.le_of_ble_eq_true rfl) dX6_init_12 (fun H locs hP hD hS => ?_)
  have hW : Wd D A s.heap ([(h0, .inr (5, [.ref (u_9 0), .null, .null, .null, .null, .null, .null, .null, .int 0, .int 0, .null, .null]))] ++ (wTe cs u_9 τ)) H locs := ⟨hP, hD, hS⟩
  refine lv_aload_n S.1 S.2.1 dX6_init_15 rfl (lv_at hl 0 rfl) ?_
  refine va_new (ci := 3) (fs := [.null, .null, .int 0]) (C := RX4) (T := TX4) (N := 3) S.1 S.2.1 S.2.2.2.2 inSc tyX4 tyX4_ok S.2.2.2.1 (S.2.2.2.2 _ q74) (S.2.2.2.2 _ q75) (S.2.2.2.2 _ q42) hK hW.1 hW.2.1 hW.2.2 hA rfl (by decide +kernel) (Nat.le_of_ble_eq_true rfl) (Nat.le_of_ble_eq_true rfl) dX6_init_16 (fun q_16 H hP hD hS => ?_)
  have hW : Wd D A s.heap (([(h0, .inr (5, [.ref (u_9 0), .null, .null, .null, .null, .null, .null, .null, .int 0, .int 0, .null, .null]))] ++ (wTe cs u_9 τ)) ++ ([(q_16, .inr (3, [.null, .null, .int 0]))] ++ [])) H _ := ⟨hP, hD, hS⟩
  refine W.widen (k := 3) (n := 405) (by decide) (by decide) ?_
  refine lv_dup S.1 S.2.1 dX6_init_19 rfl ?_
  refine lv_aload_n S.1 S.2.1 dX6_init_20 rfl (lv_at hl 0 rfl) ?_
  refine va_get (ci := 5) (C := RX6) (T := TX6) (N := 12) (v := .ref (u_9 0)) S.1 S.2.1 S.2.2.2.2 inMa S.2.2.2.1 hK hW.1 0 rfl rfl 0 (by decide) (S.2.2.2.2 _ q236) (fun _ h => h) rfl dX6_init_21 ?_
  refine kI_n (As := [.ref (u_9 0)]) (rest := [.ref q_16, .ref h0]) S hK hA (z := none) trivial ([(h0, .inr (5, [.ref (u_9 0), .null, .null, .null, .null, .null, .null, .null, .int 0, .int 0, .null, .null]))] ++ (wTe cs u_9 τ)) [] hW (cSc_init l D cs q_16 (u_9 0) N hς) lk_X6_18 q77 rfl ⟨Nat.le_of_ble_eq_true rfl, Nat.le_of_ble_eq_true rfl⟩ rfl (Nat.le_of_ble_eq_true rfl) hl.1 dX6_init_24 ⟨Nat.le_of_ble_eq_true rfl, Nat.le_of_ble_eq_true rfl⟩ (fun u_24 H9 locs9 hu hW9 => ?_)
  subst hu
  have hW : Wd D A s.heap ([(h0, .inr (5, [.ref (u_9 0), .null, .null, .null, .null, .null, .null, .null, .int 0, .int 0, .null, .null]))] ++ (wTe cs u_9 τ ++ (wSc cs u_24 (u_9 0) ς))) H9 locs9 := kw (by simp only [List.append_assoc, List.nil_append, List.append_nil]) hW9
  clear hW9
  generalize H9 = H at hW ⊢
  generalize locs9 = locs at hW ⊢
  refine W.widen (k := 4) (n := 412) (by decide) (by decide) ?_
  refine va_putF (ci := 5) (v := .ref (u_24 0)) (ty := .object "CoatsOnChairs$Scan") (C := RX6) (T := TX6) (N := 12) S.1 S.2.1 S.2.2.2.2 inMa tyX6 tyX6_ok nmX6 S.2.2.2.1 hK hW.1 hW.2.1 hW.2.2 0 rfl rfl 1 (by decide) (S.2.2.2.2 _ q237) (fun _ h => h) rfl hin rfl (by decide +kernel) rfl rfl (Nat.le_of_ble_eq_true rfl) dX6_init_27 (fun H locs hP hD hS => ?_)
  have hW : Wd D A s.heap ([(h0, .inr (5, [.ref (u_9 0), .ref (u_24 0), .null, .null, .null, .null, .null, .null, .int 0, .int 0, .null, .null]))] ++ (wTe cs u_9 τ ++ (wSc cs u_24 (u_9 0) ς))) H locs := ⟨hP, hD, hS⟩
  refine lv_aload_n S.1 S.2.1 dX6_init_30 rfl (lv_at hl 0 rfl) ?_
  refine va_new (ci := 2) (fs := [.null, .null, .int 0, .int 0, .int 0, .int 0, .int 0, .int 0, .int 0]) (C := RX3) (T := TX3) (N := 9) S.1 S.2.1 S.2.2.2.2 inRo tyX3 tyX3_ok S.2.2.2.1 (S.2.2.2.2 _ q91) (S.2.2.2.2 _ q92) (S.2.2.2.2 _ q43) hK hW.1 hW.2.1 hW.2.2 hA rfl (by decide +kernel) (Nat.le_of_ble_eq_true rfl) (Nat.le_of_ble_eq_true rfl) dX6_init_31 (fun q_31 H hP hD hS => ?_)
  have hW : Wd D A s.heap (([(h0, .inr (5, [.ref (u_9 0), .ref (u_24 0), .null, .null, .null, .null, .null, .null, .int 0, .int 0, .null, .null]))] ++ (wTe cs u_9 τ ++ (wSc cs u_24 (u_9 0) ς))) ++ ([(q_31, .inr (2, [.null, .null, .int 0, .int 0, .int 0, .int 0, .int 0, .int 0, .int 0]))] ++ [])) H _ := ⟨hP, hD, hS⟩
  refine W.widen (k := 5) (n := 421) (by decide) (by decide) ?_
  refine lv_dup S.1 S.2.1 dX6_init_34 rfl ?_
  refine kI_n (As := []) (rest := [.ref q_31, .ref h0]) S hK hA (z := none) trivial ([(h0, .inr (5, [.ref (u_9 0), .ref (u_24 0), .null, .null, .null, .null, .null, .null, .int 0, .int 0, .null, .null]))] ++ (wTe cs u_9 τ ++ (wSc cs u_24 (u_9 0) ς))) [] hW (cRo_init l D cs q_31 N hρ1) lk_X6_27 q94 rfl ⟨Nat.le_of_ble_eq_true rfl, Nat.le_of_ble_eq_true rfl⟩ rfl (Nat.le_of_ble_eq_true rfl) hl.1 dX6_init_35 ⟨Nat.le_of_ble_eq_true rfl, Nat.le_of_ble_eq_true rfl⟩ (fun u_35 H9 locs9 hu hW9 => ?_)
  subst hu
  have hW : Wd D A s.heap ([(h0, .inr (5, [.ref (u_9 0), .ref (u_24 0), .null, .null, .null, .null, .null, .null, .int 0, .int 0, .null, .null]))] ++ (wTe cs u_9 τ ++ (wSc cs u_24 (u_9 0) ς ++ (wRo cs u_35 ρ_1)))) H9 locs9 := kw (by simp only [List.append_assoc, List.nil_append, List.append_nil]) hW9
  clear hW9
  generalize H9 = H at hW ⊢
  generalize locs9 = locs at hW ⊢
  refine W.widen (k := 7) (n := 487) (by decide) (by decide) ?_
  refine va_put (ci := 5) (v := .ref (u_35 0)) (ty := .object "CoatsOnChairs$Room") (C := RX6) (T := TX6) (N := 12) S.1 S.2.1 S.2.2.2.2 inMa tyX6 tyX6_ok nmX6 S.2.2.2.1 hK hW.1 hW.2.1 hW.2.2 0 rfl rfl 10 (by decide) (S.2.2.2.2 _ q246) (fun _ h => h) rfl (by decide +kernel) rfl rfl (Nat.le_of_ble_eq_true rfl) dX6_init_38 (fun H locs hP hD hS => ?_)
  have hW : Wd D A s.heap ([(h0, .inr (5, [.ref (u_9 0), .ref (u_24 0), .null, .null, .null, .null, .null, .null, .int 0, .int 0, .ref (u_35 0), .null]))] ++ (wTe cs u_9 τ ++ (wSc cs u_24 (u_9 0) ς ++ (wRo cs u_35 ρ_1)))) H locs := ⟨hP, hD, hS⟩
  refine lv_aload_n S.1 S.2.1 dX6_init_41 rfl (lv_at hl 0 rfl) ?_
  refine va_get (ci := 5) (C := RX6) (T := TX6) (N := 12) (v := .ref (u_35 0)) S.1 S.2.1 S.2.2.2.2 inMa S.2.2.2.1 hK hW.1 0 rfl rfl 10 (by decide) (S.2.2.2.2 _ q246) (fun _ h => h) rfl dX6_init_42 ?_
  refine lv_iconst (v := 0) S.1 S.2.1 dX6_init_45 (by decide) ?_
  have hW := kw (w' := ([(h0, .inr (5, [.ref (u_9 0), .ref (u_24 0), .null, .null, .null, .null, .null, .null, .int 0, .int 0, .ref (u_35 0), .null]))] ++ (wTe cs u_9 τ ++ (wSc cs u_24 (u_9 0) ς))) ++ ((wRo cs u_35 ρ_1) ++ [])) (by simp only [List.append_assoc, List.nil_append, List.append_nil]) hW
  refine kV_i (As := [.int 0]) (rest := []) S hK hA (z := none) trivial ([(h0, .inr (5, [.ref (u_9 0), .ref (u_24 0), .null, .null, .null, .null, .null, .null, .int 0, .int 0, .ref (u_35 0), .null]))] ++ (wTe cs u_9 τ ++ (wSc cs u_24 (u_9 0) ς))) [] hW (cRo_addSeat l D cs u_35 ρ_1 0 N hρ2) (ci := 2) rfl rfl lk_X6_32 q130 q131 ⟨Nat.le_of_ble_eq_true rfl, Nat.le_of_ble_eq_true rfl⟩ rfl (Nat.le_of_ble_eq_true rfl) hl.1 dX6_init_46 ⟨Nat.le_of_ble_eq_true rfl, Nat.le_of_ble_eq_true rfl⟩ (fun H locs hW => ?_)
  have hW : Wd D A s.heap ([(h0, .inr (5, [.ref (u_9 0), .ref (u_24 0), .null, .null, .null, .null, .null, .null, .int 0, .int 0, .ref (u_35 0), .null]))] ++ (wTe cs u_9 τ ++ (wSc cs u_24 (u_9 0) ς ++ (wRo cs u_35 ρ_2)))) H locs := kw (by simp only [List.append_assoc, List.nil_append, List.append_nil]) hW
  refine lv_pop S.1 S.2.1 dX6_init_49 rfl ?_
  refine lv_aload_n S.1 S.2.1 dX6_init_50 rfl (lv_at hl 0 rfl) ?_
  refine va_get (ci := 5) (C := RX6) (T := TX6) (N := 12) (v := .ref (u_35 0)) S.1 S.2.1 S.2.2.2.2 inMa S.2.2.2.1 hK hW.1 0 rfl rfl 10 (by decide) (S.2.2.2.2 _ q246) (fun _ h => h) rfl dX6_init_51 ?_
  refine va_gets S.1 S.2.1 hZ.2.2.2.1 hW.2.2 S.2.2.2.1 (S.2.2.2.2 _ q133) (fun _ h => h) dX6_init_54 ?_
  have hW := kw (w' := ([(h0, .inr (5, [.ref (u_9 0), .ref (u_24 0), .null, .null, .null, .null, .null, .null, .int 0, .int 0, .ref (u_35 0), .null]))] ++ (wTe cs u_9 τ ++ (wSc cs u_24 (u_9 0) ς))) ++ ((wRo cs u_35 ρ_2) ++ [])) (by simp only [List.append_assoc, List.nil_append, List.append_nil]) hW
  refine kVX_i (As := [.ref (fs 3)]) (rest := []) S hK hA ([(h0, .inr (5, [.ref (u_9 0), .ref (u_24 0), .null, .null, .null, .null, .null, .null, .int 0, .int 0, .ref (u_35 0), .null]))] ++ (wTe cs u_9 τ ++ (wSc cs u_24 (u_9 0) ς))) [] hW (c_Ro_addReader l D cs u_35 (fs 3) zReader ρ_2 N hρ3) (k_toldZ hK hA hZ hW) (ci := 2) rfl rfl lk_X6_40 q136 q137 ⟨Nat.le_of_ble_eq_true rfl, Nat.le_of_ble_eq_true rfl⟩ rfl (Nat.le_of_ble_eq_true rfl) hl.1 dX6_init_57 ⟨Nat.le_of_ble_eq_true rfl, Nat.le_of_ble_eq_true rfl⟩ (fun H locs hW => ?_)
  have hW : Wd D A s.heap ([(h0, .inr (5, [.ref (u_9 0), .ref (u_24 0), .null, .null, .null, .null, .null, .null, .int 0, .int 0, .ref (u_35 0), .null]))] ++ (wTe cs u_9 τ ++ (wSc cs u_24 (u_9 0) ς ++ (wRo cs u_35 ρ_3)))) H locs := kw (by simp only [List.append_assoc, List.nil_append, List.append_nil]) hW
  refine lv_pop S.1 S.2.1 dX6_init_60 rfl ?_
  refine lv_aload_n S.1 S.2.1 dX6_init_61 rfl (lv_at hl 0 rfl) ?_
  refine va_new (ci := 2) (fs := [.null, .null, .int 0, .int 0, .int 0, .int 0, .int 0, .int 0, .int 0]) (C := RX3) (T := TX3) (N := 9) S.1 S.2.1 S.2.2.2.2 inRo tyX3 tyX3_ok S.2.2.2.1 (S.2.2.2.2 _ q91) (S.2.2.2.2 _ q92) (S.2.2.2.2 _ q43) hK hW.1 hW.2.1 hW.2.2 hA rfl (by decide +kernel) (Nat.le_of_ble_eq_true rfl) (Nat.le_of_ble_eq_true rfl) dX6_init_62 (fun q_62 H hP hD hS => ?_)
  have hW : Wd D A s.heap (([(h0, .inr (5, [.ref (u_9 0), .ref (u_24 0), .null, .null, .null, .null, .null, .null, .int 0, .int 0, .ref (u_35 0), .null]))] ++ (wTe cs u_9 τ ++ (wSc cs u_24 (u_9 0) ς ++ (wRo cs u_35 ρ_3)))) ++ ([(q_62, .inr (2, [.null, .null, .int 0, .int 0, .int 0, .int 0, .int 0, .int 0, .int 0]))] ++ [])) H _ := ⟨hP, hD, hS⟩
  refine W.widen (k := 8) (n := 496) (by decide) (by decide) ?_
  refine lv_dup S.1 S.2.1 dX6_init_65 rfl ?_
  refine kI_n (As := []) (rest := [.ref q_62, .ref h0]) S hK hA (z := none) trivial ([(h0, .inr (5, [.ref (u_9 0), .ref (u_24 0), .null, .null, .null, .null, .null, .null, .int 0, .int 0, .ref (u_35 0), .null]))] ++ (wTe cs u_9 τ ++ (wSc cs u_24 (u_9 0) ς ++ (wRo cs u_35 ρ_3)))) [] hW (cRo_init l D cs q_62 N hε) lk_X6_27 q94 rfl ⟨Nat.le_of_ble_eq_true rfl, Nat.le_of_ble_eq_true rfl⟩ rfl (Nat.le_of_ble_eq_true rfl) hl.1 dX6_init_66 ⟨Nat.le_of_ble_eq_true rfl, Nat.le_of_ble_eq_true rfl⟩ (fun u_66 H9 locs9 hu hW9 => ?_)
  subst hu
  have hW : Wd D A s.heap ([(h0, .inr (5, [.ref (u_9 0), .ref (u_24 0), .null, .null, .null, .null, .null, .null, .int 0, .int 0, .ref (u_35 0), .null]))] ++ (wTe cs u_9 τ ++ (wSc cs u_24 (u_9 0) ς ++ (wRo cs u_35 ρ_3 ++ (wRo cs u_66 ε))))) H9 locs9 := kw (by simp only [List.append_assoc, List.nil_append, List.append_nil]) hW9
  clear hW9
  generalize H9 = H at hW ⊢
  generalize locs9 = locs at hW ⊢
  refine W.widen (k := 10) (n := 562) (by decide) (by decide) ?_
  refine va_put (ci := 5) (v := .ref (u_66 0)) (ty := .object "CoatsOnChairs$Room") (C := RX6) (T := TX6) (N := 12) S.1 S.2.1 S.2.2.2.2 inMa tyX6 tyX6_ok nmX6 S.2.2.2.1 hK hW.1 hW.2.1 hW.2.2 0 rfl rfl 11 (by decide) (S.2.2.2.2 _ q247) (fun _ h => h) rfl (by decide +kernel) rfl rfl (Nat.le_of_ble_eq_true rfl) dX6_init_69 (fun H locs hP hD hS => ?_)
  have hW : Wd D A s.heap ([(h0, .inr (5, [.ref (u_9 0), .ref (u_24 0), .null, .null, .null, .null, .null, .null, .int 0, .int 0, .ref (u_35 0), .ref (u_66 0)]))] ++ (wTe cs u_9 τ ++ (wSc cs u_24 (u_9 0) ς ++ (wRo cs u_35 ρ_3 ++ (wRo cs u_66 ε))))) H locs := ⟨hP, hD, hS⟩
  refine lv_aload_n S.1 S.2.1 dX6_init_72 rfl (lv_at hl 0 rfl) ?_
  refine va_new (ci := 0) (fs := [.null, .null, .null, .null, .null, .null, .null, .null, .null, .int 0, .int 0, .int 0, .int 0, .int 0, .int 0, .int 0, .int 0, .int 0, .int 0, .int 0]) (C := RX0) (T := TX0) (N := 20) S.1 S.2.1 S.2.2.2.2 inDa tyX0 tyX0_ok S.2.2.2.1 (S.2.2.2.2 _ q142) (S.2.2.2.2 _ q143) (S.2.2.2.2 _ q45) hK hW.1 hW.2.1 hW.2.2 hA rfl (by decide +kernel) (Nat.le_of_ble_eq_true rfl) (Nat.le_of_ble_eq_true rfl) dX6_init_73 (fun q_73 H hP hD hS => ?_)
  have hW : Wd D A s.heap (([(h0, .inr (5, [.ref (u_9 0), .ref (u_24 0), .null, .null, .null, .null, .null, .null, .int 0, .int 0, .ref (u_35 0), .ref (u_66 0)]))] ++ (wTe cs u_9 τ ++ (wSc cs u_24 (u_9 0) ς ++ (wRo cs u_35 ρ_3 ++ (wRo cs u_66 ε))))) ++ ([(q_73, .inr (0, [.null, .null, .null, .null, .null, .null, .null, .null, .null, .int 0, .int 0, .int 0, .int 0, .int 0, .int 0, .int 0, .int 0, .int 0, .int 0, .int 0]))] ++ [])) H _ := ⟨hP, hD, hS⟩
  refine W.widen (k := 11) (n := 582) (by decide) (by decide) ?_
  refine lv_dup S.1 S.2.1 dX6_init_76 rfl ?_
  refine lv_aload_n S.1 S.2.1 dX6_init_77 rfl (lv_at hl 0 rfl) ?_
  refine va_get (ci := 5) (C := RX6) (T := TX6) (N := 12) (v := .ref (u_35 0)) S.1 S.2.1 S.2.2.2.2 inMa S.2.2.2.1 hK hW.1 0 rfl rfl 10 (by decide) (S.2.2.2.2 _ q246) (fun _ h => h) rfl dX6_init_78 ?_
  refine kI_n (As := [.ref (u_35 0)]) (rest := [.ref q_73, .ref h0]) S hK hA (z := none) trivial ([(h0, .inr (5, [.ref (u_9 0), .ref (u_24 0), .null, .null, .null, .null, .null, .null, .int 0, .int 0, .ref (u_35 0), .ref (u_66 0)]))] ++ (wTe cs u_9 τ ++ (wSc cs u_24 (u_9 0) ς ++ (wRo cs u_35 ρ_3 ++ (wRo cs u_66 ε))))) [] hW (cDa_init l D cs q_73 (u_35 0) N) lk_X6_49 q145 rfl ⟨Nat.le_of_ble_eq_true rfl, Nat.le_of_ble_eq_true rfl⟩ rfl (Nat.le_of_ble_eq_true rfl) hl.1 dX6_init_81 ⟨Nat.le_of_ble_eq_true rfl, Nat.le_of_ble_eq_true rfl⟩ (fun u_81 H9 locs9 hu hW9 => ?_)
  subst hu
  have hW : Wd D A s.heap ([(h0, .inr (5, [.ref (u_9 0), .ref (u_24 0), .null, .null, .null, .null, .null, .null, .int 0, .int 0, .ref (u_35 0), .ref (u_66 0)]))] ++ (wTe cs u_9 τ ++ (wSc cs u_24 (u_9 0) ς ++ (wRo cs u_35 ρ_3 ++ (wRo cs u_66 ε ++ (wDa cs u_81 (u_35 0) z0)))))) H9 locs9 := kw (by simp only [List.append_assoc, List.nil_append, List.append_nil]) hW9
  clear hW9
  generalize H9 = H at hW ⊢
  generalize locs9 = locs at hW ⊢
  refine W.widen (k := 19) (n := 1042) (by decide) (by decide) ?_
  refine va_putF (ci := 5) (v := .ref (u_81 0)) (ty := .object "CoatsOnChairs$Day") (C := RX6) (T := TX6) (N := 12) S.1 S.2.1 S.2.2.2.2 inMa tyX6 tyX6_ok nmX6 S.2.2.2.1 hK hW.1 hW.2.1 hW.2.2 0 rfl rfl 2 (by decide) (S.2.2.2.2 _ q238) (fun _ h => h) rfl hin rfl (by decide +kernel) rfl rfl (Nat.le_of_ble_eq_true rfl) dX6_init_84 (fun H locs hP hD hS => ?_)
  have hW : Wd D A s.heap ([(h0, .inr (5, [.ref (u_9 0), .ref (u_24 0), .ref (u_81 0), .null, .null, .null, .null, .null, .int 0, .int 0, .ref (u_35 0), .ref (u_66 0)]))] ++ (wTe cs u_9 τ ++ (wSc cs u_24 (u_9 0) ς ++ (wRo cs u_35 ρ_3 ++ (wRo cs u_66 ε ++ (wDa cs u_81 (u_35 0) z0)))))) H locs := ⟨hP, hD, hS⟩
  refine lv_aload_n S.1 S.2.1 dX6_init_87 rfl (lv_at hl 0 rfl) ?_
  refine va_new (ci := 1) (fs := [.null, .null, .null, .int 0, .int 0]) (C := RX1) (T := TX1) (N := 5) S.1 S.2.1 S.2.2.2.2 inGa tyX1 tyX1_ok S.2.2.2.1 (S.2.2.2.2 _ q209) (S.2.2.2.2 _ q210) (S.2.2.2.2 _ q46) hK hW.1 hW.2.1 hW.2.2 hA rfl (by decide +kernel) (Nat.le_of_ble_eq_true rfl) (Nat.le_of_ble_eq_true rfl) dX6_init_88 (fun q_88 H hP hD hS => ?_)
  have hW : Wd D A s.heap (([(h0, .inr (5, [.ref (u_9 0), .ref (u_24 0), .ref (u_81 0), .null, .null, .null, .null, .null, .int 0, .int 0, .ref (u_35 0), .ref (u_66 0)]))] ++ (wTe cs u_9 τ ++ (wSc cs u_24 (u_9 0) ς ++ (wRo cs u_35 ρ_3 ++ (wRo cs u_66 ε ++ (wDa cs u_81 (u_35 0) z0)))))) ++ ([(q_88, .inr (1, [.null, .null, .null, .int 0, .int 0]))] ++ [])) H _ := ⟨hP, hD, hS⟩
  refine W.widen (k := 20) (n := 1047) (by decide) (by decide) ?_
  refine lv_dup S.1 S.2.1 dX6_init_91 rfl ?_
  refine lv_aload_n S.1 S.2.1 dX6_init_92 rfl (lv_at hl 0 rfl) ?_
  refine va_get (ci := 5) (C := RX6) (T := TX6) (N := 12) (v := .ref (u_81 0)) S.1 S.2.1 S.2.2.2.2 inMa S.2.2.2.1 hK hW.1 0 rfl rfl 2 (by decide) (S.2.2.2.2 _ q238) (fun _ h => h) rfl dX6_init_93 ?_
  refine lv_aload_n S.1 S.2.1 dX6_init_96 rfl (lv_at hl 0 rfl) ?_
  refine va_get (ci := 5) (C := RX6) (T := TX6) (N := 12) (v := .ref (u_35 0)) S.1 S.2.1 S.2.2.2.2 inMa S.2.2.2.1 hK hW.1 0 rfl rfl 10 (by decide) (S.2.2.2.2 _ q246) (fun _ h => h) rfl dX6_init_97 ?_
  refine kI_n (As := [.ref (u_81 0), .ref (u_35 0)]) (rest := [.ref q_88, .ref h0]) S hK hA (z := none) trivial ([(h0, .inr (5, [.ref (u_9 0), .ref (u_24 0), .ref (u_81 0), .null, .null, .null, .null, .null, .int 0, .int 0, .ref (u_35 0), .ref (u_66 0)]))] ++ (wTe cs u_9 τ ++ (wSc cs u_24 (u_9 0) ς ++ (wRo cs u_35 ρ_3 ++ (wRo cs u_66 ε ++ (wDa cs u_81 (u_35 0) z0)))))) [] hW (cGa_init l D cs q_88 (u_81 0) (u_35 0) N hγ) lk_X6_58 q212 rfl ⟨Nat.le_of_ble_eq_true rfl, Nat.le_of_ble_eq_true rfl⟩ rfl (Nat.le_of_ble_eq_true rfl) hl.1 dX6_init_100 ⟨Nat.le_of_ble_eq_true rfl, Nat.le_of_ble_eq_true rfl⟩ (fun u_100 H9 locs9 hu hW9 => ?_)
  subst hu
  have hW : Wd D A s.heap ([(h0, .inr (5, [.ref (u_9 0), .ref (u_24 0), .ref (u_81 0), .null, .null, .null, .null, .null, .int 0, .int 0, .ref (u_35 0), .ref (u_66 0)]))] ++ (wTe cs u_9 τ ++ (wSc cs u_24 (u_9 0) ς ++ (wRo cs u_35 ρ_3 ++ (wRo cs u_66 ε ++ (wDa cs u_81 (u_35 0) z0 ++ (wGa cs u_100 (u_81 0) (u_35 0) γ (fun _ => (0 : Int64))))))))) H9 locs9 := kw (by simp only [List.append_assoc, List.nil_append, List.append_nil]) hW9
  clear hW9
  generalize H9 = H at hW ⊢
  generalize locs9 = locs at hW ⊢
  refine W.widen (k := 21) (n := 1303) (by decide) (by decide) ?_
  refine va_putF (ci := 5) (v := .ref (u_100 0)) (ty := .object "CoatsOnChairs$Game") (C := RX6) (T := TX6) (N := 12) S.1 S.2.1 S.2.2.2.2 inMa tyX6 tyX6_ok nmX6 S.2.2.2.1 hK hW.1 hW.2.1 hW.2.2 0 rfl rfl 3 (by decide) (S.2.2.2.2 _ q239) (fun _ h => h) rfl hin rfl (by decide +kernel) rfl rfl (Nat.le_of_ble_eq_true rfl) dX6_init_103 (fun H locs hP hD hS => ?_)
  have hW : Wd D A s.heap ([(h0, .inr (5, [.ref (u_9 0), .ref (u_24 0), .ref (u_81 0), .ref (u_100 0), .null, .null, .null, .null, .int 0, .int 0, .ref (u_35 0), .ref (u_66 0)]))] ++ (wTe cs u_9 τ ++ (wSc cs u_24 (u_9 0) ς ++ (wRo cs u_35 ρ_3 ++ (wRo cs u_66 ε ++ (wDa cs u_81 (u_35 0) z0 ++ (wGa cs u_100 (u_81 0) (u_35 0) γ (fun _ => (0 : Int64))))))))) H locs := ⟨hP, hD, hS⟩
  refine lv_aload_n S.1 S.2.1 dX6_init_106 rfl (lv_at hl 0 rfl) ?_
  refine lv_iconst (v := 5) S.1 S.2.1 dX6_init_107 (by decide) ?_
  refine k_newI (N := 5) S q90 hK hA hW (by decide) (by decide) (Nat.le_of_ble_eq_true rfl) (Nat.le_of_ble_eq_true rfl) (Nat.le_of_ble_eq_true rfl) dX6_init_108 (fun q_108 H hW => ?_)
  have hW : Wd D A s.heap ([(h0, .inr (5, [.ref (u_9 0), .ref (u_24 0), .ref (u_81 0), .ref (u_100 0), .null, .null, .null, .null, .int 0, .int 0, .ref (u_35 0), .ref (u_66 0)]))] ++ (wTe cs u_9 τ ++ (wSc cs u_24 (u_9 0) ς ++ (wRo cs u_35 ρ_3 ++ (wRo cs u_66 ε ++ (wDa cs u_81 (u_35 0) z0 ++ (wGa cs u_100 (u_81 0) (u_35 0) γ (fun _ => (0 : Int64)) ++ ([(q_108, .inl (cs 0, 5, .inl (fun _ => 0)))])))))))) H _ := kw (by simp only [List.append_assoc]) hW
  refine W.widen (k := 22) (n := 1308) (by decide) (by decide) ?_
  refine va_putF (ci := 5) (v := .ref q_108) (ty := .array .int) (C := RX6) (T := TX6) (N := 12) S.1 S.2.1 S.2.2.2.2 inMa tyX6 tyX6_ok nmX6 S.2.2.2.1 hK hW.1 hW.2.1 hW.2.2 0 rfl rfl 4 (by decide) (S.2.2.2.2 _ q240) (fun _ h => h) rfl hin rfl (by decide +kernel) rfl rfl (Nat.le_of_ble_eq_true rfl) dX6_init_110 (fun H locs hP hD hS => ?_)
  have hW : Wd D A s.heap ([(h0, .inr (5, [.ref (u_9 0), .ref (u_24 0), .ref (u_81 0), .ref (u_100 0), .ref q_108, .null, .null, .null, .int 0, .int 0, .ref (u_35 0), .ref (u_66 0)]))] ++ (wTe cs u_9 τ ++ (wSc cs u_24 (u_9 0) ς ++ (wRo cs u_35 ρ_3 ++ (wRo cs u_66 ε ++ (wDa cs u_81 (u_35 0) z0 ++ (wGa cs u_100 (u_81 0) (u_35 0) γ (fun _ => (0 : Int64)) ++ ([(q_108, .inl (cs 0, 5, .inl (fun _ => 0)))])))))))) H locs := ⟨hP, hD, hS⟩
  refine lv_aload_n S.1 S.2.1 dX6_init_113 rfl (lv_at hl 0 rfl) ?_
  refine lv_iconst (v := 5) S.1 S.2.1 dX6_init_114 (by decide) ?_
  refine k_newI (N := 5) S q90 hK hA hW (by decide) (by decide) (Nat.le_of_ble_eq_true rfl) (Nat.le_of_ble_eq_true rfl) (Nat.le_of_ble_eq_true rfl) dX6_init_115 (fun q_115 H hW => ?_)
  have hW : Wd D A s.heap ([(h0, .inr (5, [.ref (u_9 0), .ref (u_24 0), .ref (u_81 0), .ref (u_100 0), .ref q_108, .null, .null, .null, .int 0, .int 0, .ref (u_35 0), .ref (u_66 0)]))] ++ (wTe cs u_9 τ ++ (wSc cs u_24 (u_9 0) ς ++ (wRo cs u_35 ρ_3 ++ (wRo cs u_66 ε ++ (wDa cs u_81 (u_35 0) z0 ++ (wGa cs u_100 (u_81 0) (u_35 0) γ (fun _ => (0 : Int64)) ++ ([(q_108, .inl (cs 0, 5, .inl (fun _ => 0)))] ++ ([(q_115, .inl (cs 0, 5, .inl (fun _ => 0)))]))))))))) H _ := kw (by simp only [List.append_assoc]) hW
  refine W.widen (k := 23) (n := 1313) (by decide) (by decide) ?_
  refine va_putF (ci := 5) (v := .ref q_115) (ty := .array .int) (C := RX6) (T := TX6) (N := 12) S.1 S.2.1 S.2.2.2.2 inMa tyX6 tyX6_ok nmX6 S.2.2.2.1 hK hW.1 hW.2.1 hW.2.2 0 rfl rfl 5 (by decide) (S.2.2.2.2 _ q241) (fun _ h => h) rfl hin rfl (by decide +kernel) rfl rfl (Nat.le_of_ble_eq_true rfl) dX6_init_117 (fun H locs hP hD hS => ?_)
  have hW : Wd D A s.heap ([(h0, .inr (5, [.ref (u_9 0), .ref (u_24 0), .ref (u_81 0), .ref (u_100 0), .ref q_108, .ref q_115, .null, .null, .int 0, .int 0, .ref (u_35 0), .ref (u_66 0)]))] ++ (wTe cs u_9 τ ++ (wSc cs u_24 (u_9 0) ς ++ (wRo cs u_35 ρ_3 ++ (wRo cs u_66 ε ++ (wDa cs u_81 (u_35 0) z0 ++ (wGa cs u_100 (u_81 0) (u_35 0) γ (fun _ => (0 : Int64)) ++ ([(q_108, .inl (cs 0, 5, .inl (fun _ => 0)))] ++ ([(q_115, .inl (cs 0, 5, .inl (fun _ => 0)))]))))))))) H locs := ⟨hP, hD, hS⟩
  refine lv_aload_n S.1 S.2.1 dX6_init_120 rfl (lv_at hl 0 rfl) ?_
  refine lv_iconst (v := 5) S.1 S.2.1 dX6_init_121 (by decide) ?_
  refine k_newI (N := 5) S q90 hK hA hW (by decide) (by decide) (Nat.le_of_ble_eq_true rfl) (Nat.le_of_ble_eq_true rfl) (Nat.le_of_ble_eq_true rfl) dX6_init_122 (fun q_122 H hW => ?_)
  have hW : Wd D A s.heap ([(h0, .inr (5, [.ref (u_9 0), .ref (u_24 0), .ref (u_81 0), .ref (u_100 0), .ref q_108, .ref q_115, .null, .null, .int 0, .int 0, .ref (u_35 0), .ref (u_66 0)]))] ++ (wTe cs u_9 τ ++ (wSc cs u_24 (u_9 0) ς ++ (wRo cs u_35 ρ_3 ++ (wRo cs u_66 ε ++ (wDa cs u_81 (u_35 0) z0 ++ (wGa cs u_100 (u_81 0) (u_35 0) γ (fun _ => (0 : Int64)) ++ ([(q_108, .inl (cs 0, 5, .inl (fun _ => 0)))] ++ ([(q_115, .inl (cs 0, 5, .inl (fun _ => 0)))] ++ ([(q_122, .inl (cs 0, 5, .inl (fun _ => 0)))])))))))))) H _ := kw (by simp only [List.append_assoc]) hW
  refine W.widen (k := 24) (n := 1318) (by decide) (by decide) ?_
  refine va_putF (ci := 5) (v := .ref q_122) (ty := .array .int) (C := RX6) (T := TX6) (N := 12) S.1 S.2.1 S.2.2.2.2 inMa tyX6 tyX6_ok nmX6 S.2.2.2.1 hK hW.1 hW.2.1 hW.2.2 0 rfl rfl 6 (by decide) (S.2.2.2.2 _ q242) (fun _ h => h) rfl hin rfl (by decide +kernel) rfl rfl (Nat.le_of_ble_eq_true rfl) dX6_init_124 (fun H locs hP hD hS => ?_)
  have hW : Wd D A s.heap ([(h0, .inr (5, [.ref (u_9 0), .ref (u_24 0), .ref (u_81 0), .ref (u_100 0), .ref q_108, .ref q_115, .ref q_122, .null, .int 0, .int 0, .ref (u_35 0), .ref (u_66 0)]))] ++ (wTe cs u_9 τ ++ (wSc cs u_24 (u_9 0) ς ++ (wRo cs u_35 ρ_3 ++ (wRo cs u_66 ε ++ (wDa cs u_81 (u_35 0) z0 ++ (wGa cs u_100 (u_81 0) (u_35 0) γ (fun _ => (0 : Int64)) ++ ([(q_108, .inl (cs 0, 5, .inl (fun _ => 0)))] ++ ([(q_115, .inl (cs 0, 5, .inl (fun _ => 0)))] ++ ([(q_122, .inl (cs 0, 5, .inl (fun _ => 0)))])))))))))) H locs := ⟨hP, hD, hS⟩
  refine lv_aload_n S.1 S.2.1 dX6_init_127 rfl (lv_at hl 0 rfl) ?_
  refine lv_iconst (v := 2) S.1 S.2.1 dX6_init_128 (by decide) ?_
  refine k_newI (N := 2) S q90 hK hA hW (by decide) (by decide) (Nat.le_of_ble_eq_true rfl) (Nat.le_of_ble_eq_true rfl) (Nat.le_of_ble_eq_true rfl) dX6_init_129 (fun q_129 H hW => ?_)
  have hW : Wd D A s.heap ([(h0, .inr (5, [.ref (u_9 0), .ref (u_24 0), .ref (u_81 0), .ref (u_100 0), .ref q_108, .ref q_115, .ref q_122, .null, .int 0, .int 0, .ref (u_35 0), .ref (u_66 0)]))] ++ (wTe cs u_9 τ ++ (wSc cs u_24 (u_9 0) ς ++ (wRo cs u_35 ρ_3 ++ (wRo cs u_66 ε ++ (wDa cs u_81 (u_35 0) z0 ++ (wGa cs u_100 (u_81 0) (u_35 0) γ (fun _ => (0 : Int64)) ++ ([(q_108, .inl (cs 0, 5, .inl (fun _ => 0)))] ++ ([(q_115, .inl (cs 0, 5, .inl (fun _ => 0)))] ++ ([(q_122, .inl (cs 0, 5, .inl (fun _ => 0)))] ++ ([(q_129, .inl (cs 0, 2, .inl (fun _ => 0)))]))))))))))) H _ := kw (by simp only [List.append_assoc]) hW
  refine W.widen (k := 25) (n := 1320) (by decide) (by decide) ?_
  refine va_putF (ci := 5) (v := .ref q_129) (ty := .array .int) (C := RX6) (T := TX6) (N := 12) S.1 S.2.1 S.2.2.2.2 inMa tyX6 tyX6_ok nmX6 S.2.2.2.1 hK hW.1 hW.2.1 hW.2.2 0 rfl rfl 7 (by decide) (S.2.2.2.2 _ q243) (fun _ h => h) rfl hin rfl (by decide +kernel) rfl rfl (Nat.le_of_ble_eq_true rfl) dX6_init_131 (fun H locs hP hD hS => ?_)
  have hW : Wd D A s.heap ([(h0, .inr (5, [.ref (u_9 0), .ref (u_24 0), .ref (u_81 0), .ref (u_100 0), .ref q_108, .ref q_115, .ref q_122, .ref q_129, .int 0, .int 0, .ref (u_35 0), .ref (u_66 0)]))] ++ (wTe cs u_9 τ ++ (wSc cs u_24 (u_9 0) ς ++ (wRo cs u_35 ρ_3 ++ (wRo cs u_66 ε ++ (wDa cs u_81 (u_35 0) z0 ++ (wGa cs u_100 (u_81 0) (u_35 0) γ (fun _ => (0 : Int64)) ++ ([(q_108, .inl (cs 0, 5, .inl (fun _ => 0)))] ++ ([(q_115, .inl (cs 0, 5, .inl (fun _ => 0)))] ++ ([(q_122, .inl (cs 0, 5, .inl (fun _ => 0)))] ++ ([(q_129, .inl (cs 0, 2, .inl (fun _ => 0)))]))))))))))) H locs := ⟨hP, hD, hS⟩
  have hW : Wd D A s.heap (wMa cs (fun k => ([h0, h0, h0, h0, h0, q_108, q_115, q_122, q_129] : List Nat).getD k 0) (u_9 0) (u_24 0) (u_81 0) (u_100 0) (u_35 0) (u_66 0) z0 ++ (wSc cs u_24 (u_9 0) ς ++ (wTe cs u_9 τ ++ (wRo cs u_66 ε ++ (wGa cs u_100 (u_81 0) (u_35 0) γ (fun _ => (0 : Int64)) ++ (wDa cs u_81 (u_35 0) z0 ++ (wRo cs u_35 ρ_3))))))) H locs := ⟨hW.1.sub (ws' := (wMa cs (fun k => ([h0, h0, h0, h0, h0, q_108, q_115, q_122, q_129] : List Nat).getD k 0) (u_9 0) (u_24 0) (u_81 0) (u_100 0) (u_35 0) (u_66 0) z0 ++ (wSc cs u_24 (u_9 0) ς ++ (wTe cs u_9 τ ++ (wRo cs u_66 ε ++ (wGa cs u_100 (u_81 0) (u_35 0) γ (fun _ => (0 : Int64)) ++ (wDa cs u_81 (u_35 0) z0 ++ (wRo cs u_35 ρ_3)))))))) [0, 22, 23, 24, 25, 3, 4, 1, 2, 8, 9, 10, 20, 21, 11, 12, 13, 14, 15, 16, 17, 18, 19, 5, 6, 7] rfl, hW.2.1.sub (ws' := (wMa cs (fun k => ([h0, h0, h0, h0, h0, q_108, q_115, q_122, q_129] : List Nat).getD k 0) (u_9 0) (u_24 0) (u_81 0) (u_100 0) (u_35 0) (u_66 0) z0 ++ (wSc cs u_24 (u_9 0) ς ++ (wTe cs u_9 τ ++ (wRo cs u_66 ε ++ (wGa cs u_100 (u_81 0) (u_35 0) γ (fun _ => (0 : Int64)) ++ (wDa cs u_81 (u_35 0) z0 ++ (wRo cs u_35 ρ_3)))))))) [0, 22, 23, 24, 25, 3, 4, 1, 2, 8, 9, 10, 20, 21, 11, 12, 13, 14, 15, 16, 17, 18, 19, 5, 6, 7] (by decide) rfl, hW.2.2⟩
  exact wMa_initS (N := N) (a := (fun k => ([h0, h0, h0, h0, h0, q_108, q_115, q_122, q_129] : List Nat).getD k 0)) S hK hA (hQ ((fun k => ([h0, h0, h0, h0, h0, q_108, q_115, q_122, q_129] : List Nat).getD k 0), fun k => ([u_24, u_9, u_66, u_100, u_81, u_35] : List (Nat → Nat)).getD k (fun _ => 0)) ⟨rfl, trivial⟩) z0 _ _ _ hμ hW hl
