theorem kw_swap {D : va_G} {A : Nat → Prop} {H0 H : Heap} {locs : List Loc} {p1 x p2 y : va_W} (hW : Wd D A H0 (p1 ++ (x ++ (p2 ++ y))) H locs) : Wd D A H0 (p1 ++ (y ++ (p2 ++ x))) H locs := by
  obtain ⟨hP, hD, hS⟩ := hW
  obtain ⟨d1, d2, x1⟩ := vaD_split hD
  obtain ⟨dx, d3, x2⟩ := vaD_split d2
  obtain ⟨dp, dy, x3⟩ := vaD_split d3
  refine ⟨vaP_mem.mpr fun q hq => vaP_mem.mp hP q ?_, vaD_app d1 (vaD_app dy (vaD_app dp dx ?_) ?_) ?_, hS⟩
  · simp only [List.mem_append] at hq ⊢
    rcases hq with h | h | h | h
    · exact Or.inl h
    · exact Or.inr (Or.inr (Or.inr h))
    · exact Or.inr (Or.inr (Or.inl h))
    · exact Or.inr (Or.inl h)
  · intro a ha b hb e
    exact x2 b hb a (List.mem_append_left _ ha) e.symm
  · intro a ha b hb e
    rcases List.mem_append.mp hb with h | h
    · exact x3 b h a ha e.symm
    · exact x2 b h a (List.mem_append_right _ ha) e.symm
  · intro a ha b hb e
    refine x1 a ha b ?_ e
    simp only [List.mem_append] at hb ⊢
    rcases hb with h | h | h
    · exact Or.inr (Or.inr h)
    · exact Or.inr (Or.inl h)
    · exact Or.inl h
def fMa_lay (N : Nat) (τ μ ς ε γ ρ : St) : Option (Int32 × Bool × St × St × St × St × St) :=
  cl3 (fSc_readInto N τ ς ε) fun r1 ς1 ε1 =>
  if r1 = (-4 : Int32) then
    cl1 (fRo_seatCount N ε1) fun r2 =>
    if r2 = 0 then
      some ((-2 : Int32), false, μ, ς1, ε1, γ, ρ)
    else
      cl1 (fRo_readerCount N ε1) fun r3 =>
      if r3 = 0 then
        some ((-2 : Int32), false, μ, ς1, ε1, γ, ρ)
      else
        nm (sA γ 0 (upd (γ 0) 3 (-1 : Int32))) fun γ1 =>
        cl1 (fRo_everybody N ε1) fun r4 =>
        nm (sA μ 0 (upd (μ 0) 9 r4)) fun μ1 =>
        nm (sA μ1 0 (upd (μ1 0) 8 (0 : Int32))) fun μ2 =>
        cl1 (fRo_readerCount N ε1) fun r5 =>
        some (r5, true, μ2, ς1, ρ, γ1, ε1)
  else
    some ((-2 : Int32), false, μ, ς1, ε1, γ, ρ)
set_option maxHeartbeats 4000000 in
set_option maxRecDepth 100000 in
theorem cGa_forget (l : Launch) (D : va_G) (cs : Nat → ClassId) (a : Nat → Nat) (xd xr x : Nat) (γ : St) (Γ : Nat → Int64) : Kv l D cs none yX1_forget cX1_forget 2 none 0 0 (wGa cs a xd xr γ Γ ++ []) [.ref (a 0), .ref x] (wGa cs a xd x (sA γ 0 (upd (γ 0) 3 (-1 : Int32))) Γ ++ []) := by
  refine Kv_of (by decide +kernel) (Nat.le_of_ble_eq_true rfl) (fun p e s m below meth c A S hK hA hZ Q hQ ls hl hW => ?_)
  have hl : lv_has ls 2 [(0, .ref (a 0)), (1, .ref x)] := hl
  refine lv_aload_n S.1 S.2.1 dX1_forget_0 rfl (lv_at hl 0 rfl) ?_
  refine lv_aload_n S.1 S.2.1 dX1_forget_1 rfl (lv_at hl 1 rfl) ?_
  refine pGa_room S hK hW dX1_forget_2 (fun H locs hW => ?_)
  refine lv_aload_n S.1 S.2.1 dX1_forget_5 rfl (lv_at hl 0 rfl) ?_
  refine lv_iconst (v := -1) S.1 S.2.1 dX1_forget_6 (by decide) ?_
  refine pGa_rule S hK hW dX1_forget_7 (fun H locs γ1 eγ1 hW => ?_)
  subst eγ1
  exact hQ _ _ _ _ dX1_forget_10 hW
set_option maxHeartbeats 4000000 in
set_option maxRecDepth 100000 in
theorem cMa_lay (l : Launch) (D : va_G) (cs : Nat → ClassId) (fs : Nat → Nat) (a aS aT aE aG aD aR : Nat → Nat) (μ ς τ ε γ : St) (Γ : Nat → Int64) (δ ρ : St) (dr : Nat) (N : Nat) {r : Int32} {b : Bool} {μ' ς' ε' γ' ρ' : St} (h : fMa_lay N τ μ ς ε γ ρ = some (r, b, μ', ς', ε', γ', ρ')) : Ki l D cs (some fs) yX6_lay cX6_lay 2 (some .int) 4 127 (wMa cs a (aT 0) (aS 0) (aD 0) (aG 0) (aR 0) (aE 0) μ ++ (wSc cs aS (aT 0) ς ++ (wTe cs aT τ ++ (wRo cs aE ε ++ (wGa cs aG (aD 0) (aR 0) γ Γ ++ (wDa cs aD dr δ ++ (wRo cs aR ρ))))))) [.ref (a 0)] r (wMa cs a (aT 0) (aS 0) (aD 0) (aG 0) ((cond b aE aR) 0) ((cond b aR aE) 0) μ' ++ (wSc cs aS (aT 0) ς' ++ (wTe cs aT τ ++ (wRo cs (cond b aR aE) ε' ++ (wGa cs aG (aD 0) ((cond b aE aR) 0) γ' Γ ++ (wDa cs aD dr δ ++ (wRo cs (cond b aE aR) ρ'))))))) := by
  refine Ki_of (by decide +kernel) (Nat.le_of_ble_eq_true rfl) (fun p e s m below meth c A S hK hA hZ Q hQ ls hl hW => ?_)
  have hl : lv_has ls 2 [(0, .ref (a 0))] := hl
  unfold fMa_lay at h
  refine lv_aload_n S.1 S.2.1 dX6_lay_0 rfl (lv_at hl 0 rfl) ?_
  refine gMa_scan S hK hW dX6_lay_1 ?_
  refine lv_aload_n S.1 S.2.1 dX6_lay_4 rfl (lv_at hl 0 rfl) ?_
  refine gMa_draft S hK hW dX6_lay_5 ?_
  obtain ⟨r1, ς1, ε1, hc1, h⟩ := cl3_some h
  have hW := kw (w' := (wMa cs a (aT 0) (aS 0) (aD 0) (aG 0) (aR 0) (aE 0) μ) ++ ((wSc cs aS (aT 0) ς ++ (wTe cs aT τ ++ (wRo cs aE ε))) ++ (wGa cs aG (aD 0) (aR 0) γ Γ ++ (wDa cs aD dr δ ++ (wRo cs aR ρ))))) (by simp only [List.append_assoc, List.nil_append, List.append_nil]) hW
  refine kV_i (As := [.ref (aE 0)]) (rest := []) S hK hA (z := (some fs)) hZ (wMa cs a (aT 0) (aS 0) (aD 0) (aG 0) (aR 0) (aE 0) μ) (wGa cs aG (aD 0) (aR 0) γ Γ ++ (wDa cs aD dr δ ++ (wRo cs aR ρ))) hW (cSc_readInto l D cs fs aS aT aE ς τ ε N hc1) (ci := 3) rfl rfl lk_X6_102 q301 q302 ⟨Nat.le_of_ble_eq_true rfl, Nat.le_of_ble_eq_true rfl⟩ rfl (Nat.le_of_ble_eq_true rfl) hl.1 dX6_lay_8 ⟨Nat.zero_le _, Nat.zero_le _⟩ (fun H locs hW => ?_)
  have hW : Wd D A s.heap (wMa cs a (aT 0) (aS 0) (aD 0) (aG 0) (aR 0) (aE 0) μ ++ (wSc cs aS (aT 0) ς1 ++ (wTe cs aT τ ++ (wRo cs aE ε1 ++ (wGa cs aG (aD 0) (aR 0) γ Γ ++ (wDa cs aD dr δ ++ (wRo cs aR ρ))))))) H locs := kw (by simp only [List.append_assoc, List.nil_append, List.append_nil]) hW
  refine lv_bipush (v := -4) S.1 S.2.1 dX6_lay_11 (by decide) ?_
  refine lv_icmp_ne (tgt := 36) S.1 S.2.1 dX6_lay_13 (by decide) (fun c1 => ?_) (fun c1 => ?_)
  · have h := ite_f c1 h
    refine lv_bipush (v := -2) S.1 S.2.1 dX6_lay_36 (by decide) ?_
    simp only [Option.some.injEq, Prod.mk.injEq] at h
    obtain ⟨rfl, rfl, rfl, rfl, rfl, rfl, rfl⟩ := h
    exact hQ _ _ _ _ dX6_lay_38 rfl hW
  · have h := ite_t c1 h
    refine lv_aload_n S.1 S.2.1 dX6_lay_16 rfl (lv_at hl 0 rfl) ?_
    refine gMa_draft S hK hW dX6_lay_17 ?_
    obtain ⟨r2, hc2, h⟩ := cl1_some h
    have hW := kw (w' := (wMa cs a (aT 0) (aS 0) (aD 0) (aG 0) (aR 0) (aE 0) μ ++ (wSc cs aS (aT 0) ς1 ++ (wTe cs aT τ))) ++ ((wRo cs aE ε1) ++ (wGa cs aG (aD 0) (aR 0) γ Γ ++ (wDa cs aD dr δ ++ (wRo cs aR ρ))))) (by simp only [List.append_assoc, List.nil_append, List.append_nil]) hW
    refine kV_i (As := []) (rest := []) S hK hA (z := none) trivial (wMa cs a (aT 0) (aS 0) (aD 0) (aG 0) (aR 0) (aE 0) μ ++ (wSc cs aS (aT 0) ς1 ++ (wTe cs aT τ))) (wGa cs aG (aD 0) (aR 0) γ Γ ++ (wDa cs aD dr δ ++ (wRo cs aR ρ))) hW (cRo_seatCount l D cs aE ε1 N hc2) (ci := 2) rfl rfl lk_X6_106 q354 q355 ⟨Nat.le_of_ble_eq_true rfl, Nat.le_of_ble_eq_true rfl⟩ rfl (Nat.le_of_ble_eq_true rfl) hl.1 dX6_lay_20 ⟨Nat.zero_le _, Nat.zero_le _⟩ (fun H locs hW => ?_)
    have hW : Wd D A s.heap (wMa cs a (aT 0) (aS 0) (aD 0) (aG 0) (aR 0) (aE 0) μ ++ (wSc cs aS (aT 0) ς1 ++ (wTe cs aT τ ++ (wRo cs aE ε1 ++ (wGa cs aG (aD 0) (aR 0) γ Γ ++ (wDa cs aD dr δ ++ (wRo cs aR ρ))))))) H locs := kw (by simp only [List.append_assoc, List.nil_append, List.append_nil]) hW
    refine lv_if_eq (tgt := 36) S.1 S.2.1 dX6_lay_23 (by decide) (fun c2 => ?_) (fun c2 => ?_)
    · have h := ite_t c2 h
      refine lv_bipush (v := -2) S.1 S.2.1 dX6_lay_36 (by decide) ?_
      simp only [Option.some.injEq, Prod.mk.injEq] at h
      obtain ⟨rfl, rfl, rfl, rfl, rfl, rfl, rfl⟩ := h
      exact hQ _ _ _ _ dX6_lay_38 rfl hW
    · have h := ite_f c2 h
      refine lv_aload_n S.1 S.2.1 dX6_lay_26 rfl (lv_at hl 0 rfl) ?_
      refine gMa_draft S hK hW dX6_lay_27 ?_
      obtain ⟨r3, hc3, h⟩ := cl1_some h
      have hW := kw (w' := (wMa cs a (aT 0) (aS 0) (aD 0) (aG 0) (aR 0) (aE 0) μ ++ (wSc cs aS (aT 0) ς1 ++ (wTe cs aT τ))) ++ ((wRo cs aE ε1) ++ (wGa cs aG (aD 0) (aR 0) γ Γ ++ (wDa cs aD dr δ ++ (wRo cs aR ρ))))) (by simp only [List.append_assoc, List.nil_append, List.append_nil]) hW
      refine kV_i (As := []) (rest := []) S hK hA (z := none) trivial (wMa cs a (aT 0) (aS 0) (aD 0) (aG 0) (aR 0) (aE 0) μ ++ (wSc cs aS (aT 0) ς1 ++ (wTe cs aT τ))) (wGa cs aG (aD 0) (aR 0) γ Γ ++ (wDa cs aD dr δ ++ (wRo cs aR ρ))) hW (cRo_readerCount l D cs aE ε1 N hc3) (ci := 2) rfl rfl lk_X6_109 q358 q359 ⟨Nat.le_of_ble_eq_true rfl, Nat.le_of_ble_eq_true rfl⟩ rfl (Nat.le_of_ble_eq_true rfl) hl.1 dX6_lay_30 ⟨Nat.zero_le _, Nat.zero_le _⟩ (fun H locs hW => ?_)
      have hW : Wd D A s.heap (wMa cs a (aT 0) (aS 0) (aD 0) (aG 0) (aR 0) (aE 0) μ ++ (wSc cs aS (aT 0) ς1 ++ (wTe cs aT τ ++ (wRo cs aE ε1 ++ (wGa cs aG (aD 0) (aR 0) γ Γ ++ (wDa cs aD dr δ ++ (wRo cs aR ρ))))))) H locs := kw (by simp only [List.append_assoc, List.nil_append, List.append_nil]) hW
      refine lv_if_ne (tgt := 39) S.1 S.2.1 dX6_lay_33 (by decide) (fun c3 => ?_) (fun c3 => ?_)
      · have h := ite_f c3 h
        refine lv_aload_n S.1 S.2.1 dX6_lay_39 rfl (lv_at hl 0 rfl) ?_
        refine gMa_laid S hK hW dX6_lay_40 ?_
        refine lv_astore_n (lv' := [(1, .ref (aR 0)), (0, .ref (a 0))]) S.1 S.2.1 dX6_lay_43 rfl hl (by decide) rfl (fun ls hl => ?_)
        refine lv_aload_n S.1 S.2.1 dX6_lay_44 rfl (lv_at hl 1 rfl) ?_
        refine lv_aload_n S.1 S.2.1 dX6_lay_45 rfl (lv_at hl 1 rfl) ?_
        refine gMa_draft S hK hW dX6_lay_46 ?_
        refine pMa_laid S hK hW dX6_lay_49 (fun H locs hW => ?_)
        refine lv_aload_n S.1 S.2.1 dX6_lay_52 rfl (lv_at hl 1 rfl) ?_
        refine lv_aload_n S.1 S.2.1 dX6_lay_53 rfl (lv_at hl 0 rfl) ?_
        refine pMa_draft S hK hW dX6_lay_54 (fun H locs hW => ?_)
        refine lv_aload_n S.1 S.2.1 dX6_lay_57 rfl (lv_at hl 1 rfl) ?_
        refine gMa_game S hK hW dX6_lay_58 ?_
        refine lv_aload_n S.1 S.2.1 dX6_lay_61 rfl (lv_at hl 1 rfl) ?_
        refine gMa_laid S hK hW dX6_lay_62 ?_
        have hW : Wd D A s.heap (wMa cs a (aT 0) (aS 0) (aD 0) (aG 0) (aE 0) (aR 0) μ ++ (wSc cs aS (aT 0) ς1 ++ (wTe cs aT τ ++ (wRo cs aE ε1 ++ (wGa cs aG (aD 0) (aR 0) γ Γ ++ (wDa cs aD dr δ ++ (wRo cs aR ρ))))))) H locs := hW
        obtain ⟨γ1, eγ1, h⟩ := nm_some h
        have hW := kw (w' := (wMa cs a (aT 0) (aS 0) (aD 0) (aG 0) (aE 0) (aR 0) μ ++ (wSc cs aS (aT 0) ς1 ++ (wTe cs aT τ ++ (wRo cs aE ε1)))) ++ ((wGa cs aG (aD 0) (aR 0) γ Γ ++ []) ++ (wDa cs aD dr δ ++ (wRo cs aR ρ)))) (by simp only [List.append_assoc, List.nil_append, List.append_nil]) hW
        refine kV_v (As := [.ref (aE 0)]) (rest := []) S hK hA (z := none) trivial (wMa cs a (aT 0) (aS 0) (aD 0) (aG 0) (aE 0) (aR 0) μ ++ (wSc cs aS (aT 0) ς1 ++ (wTe cs aT τ ++ (wRo cs aE ε1)))) (wDa cs aD dr δ ++ (wRo cs aR ρ)) hW (cGa_forget l D cs aG (aD 0) (aR 0) (aE 0) γ Γ) (ci := 1) rfl rfl lk_X6_112 q362 q363 ⟨Nat.le_of_ble_eq_true rfl, Nat.le_of_ble_eq_true rfl⟩ rfl (Nat.le_of_ble_eq_true rfl) hl.1 dX6_lay_65 ⟨Nat.zero_le _, Nat.zero_le _⟩ (fun H locs hW => ?_)
        rw [← eγ1] at hW
        have hW : Wd D A s.heap (wMa cs a (aT 0) (aS 0) (aD 0) (aG 0) (aE 0) (aR 0) μ ++ (wSc cs aS (aT 0) ς1 ++ (wTe cs aT τ ++ (wRo cs aE ε1 ++ (wGa cs aG (aD 0) (aE 0) γ1 Γ ++ (wDa cs aD dr δ ++ (wRo cs aR ρ))))))) H locs := kw (by simp only [List.append_assoc, List.nil_append, List.append_nil]) hW
        refine lv_aload_n S.1 S.2.1 dX6_lay_68 rfl (lv_at hl 1 rfl) ?_
        refine lv_aload_n S.1 S.2.1 dX6_lay_69 rfl (lv_at hl 1 rfl) ?_
        refine gMa_laid S hK hW dX6_lay_70 ?_
        obtain ⟨r4, hc4, h⟩ := cl1_some h
        have hW := kw (w' := (wMa cs a (aT 0) (aS 0) (aD 0) (aG 0) (aE 0) (aR 0) μ ++ (wSc cs aS (aT 0) ς1 ++ (wTe cs aT τ))) ++ ((wRo cs aE ε1) ++ (wGa cs aG (aD 0) (aE 0) γ1 Γ ++ (wDa cs aD dr δ ++ (wRo cs aR ρ))))) (by simp only [List.append_assoc, List.nil_append, List.append_nil]) hW
        refine kV_i (As := []) (rest := [.ref (a 0)]) S hK hA (z := none) trivial (wMa cs a (aT 0) (aS 0) (aD 0) (aG 0) (aE 0) (aR 0) μ ++ (wSc cs aS (aT 0) ς1 ++ (wTe cs aT τ))) (wGa cs aG (aD 0) (aE 0) γ1 Γ ++ (wDa cs aD dr δ ++ (wRo cs aR ρ))) hW (cRo_everybody l D cs aE ε1 N hc4) (ci := 2) rfl rfl lk_X6_81 q233 q234 ⟨Nat.le_of_ble_eq_true rfl, Nat.le_of_ble_eq_true rfl⟩ rfl (Nat.le_of_ble_eq_true rfl) hl.1 dX6_lay_73 ⟨Nat.zero_le _, Nat.zero_le _⟩ (fun H locs hW => ?_)
        have hW : Wd D A s.heap (wMa cs a (aT 0) (aS 0) (aD 0) (aG 0) (aE 0) (aR 0) μ ++ (wSc cs aS (aT 0) ς1 ++ (wTe cs aT τ ++ (wRo cs aE ε1 ++ (wGa cs aG (aD 0) (aE 0) γ1 Γ ++ (wDa cs aD dr δ ++ (wRo cs aR ρ))))))) H locs := kw (by simp only [List.append_assoc, List.nil_append, List.append_nil]) hW
        refine pMa_holders S hK hW dX6_lay_76 (fun H locs μ1 eμ1 hW => ?_)
        have h := nm_to eμ1 h
        refine lv_aload_n S.1 S.2.1 dX6_lay_79 rfl (lv_at hl 1 rfl) ?_
        refine lv_iconst (v := 0) S.1 S.2.1 dX6_lay_80 (by decide) ?_
        refine pMa_keptCount S hK hW dX6_lay_81 (fun H locs μ2 eμ2 hW => ?_)
        have h := nm_to eμ2 h
        refine lv_aload_n S.1 S.2.1 dX6_lay_84 rfl (lv_at hl 1 rfl) ?_
        refine gMa_laid S hK hW dX6_lay_85 ?_
        obtain ⟨r5, hc5, h⟩ := cl1_some h
        have hW := kw (w' := (wMa cs a (aT 0) (aS 0) (aD 0) (aG 0) (aE 0) (aR 0) μ2 ++ (wSc cs aS (aT 0) ς1 ++ (wTe cs aT τ))) ++ ((wRo cs aE ε1) ++ (wGa cs aG (aD 0) (aE 0) γ1 Γ ++ (wDa cs aD dr δ ++ (wRo cs aR ρ))))) (by simp only [List.append_assoc, List.nil_append, List.append_nil]) hW
        refine kV_i (As := []) (rest := []) S hK hA (z := none) trivial (wMa cs a (aT 0) (aS 0) (aD 0) (aG 0) (aE 0) (aR 0) μ2 ++ (wSc cs aS (aT 0) ς1 ++ (wTe cs aT τ))) (wGa cs aG (aD 0) (aE 0) γ1 Γ ++ (wDa cs aD dr δ ++ (wRo cs aR ρ))) hW (cRo_readerCount l D cs aE ε1 N hc5) (ci := 2) rfl rfl lk_X6_109 q358 q359 ⟨Nat.le_of_ble_eq_true rfl, Nat.le_of_ble_eq_true rfl⟩ rfl (Nat.le_of_ble_eq_true rfl) hl.1 dX6_lay_88 ⟨Nat.zero_le _, Nat.zero_le _⟩ (fun H locs hW => ?_)
        have hW : Wd D A s.heap (wMa cs a (aT 0) (aS 0) (aD 0) (aG 0) (aE 0) (aR 0) μ2 ++ (wSc cs aS (aT 0) ς1 ++ (wTe cs aT τ ++ (wRo cs aE ε1 ++ (wGa cs aG (aD 0) (aE 0) γ1 Γ ++ (wDa cs aD dr δ ++ (wRo cs aR ρ))))))) H locs := kw (by simp only [List.append_assoc, List.nil_append, List.append_nil]) hW
        simp only [Option.some.injEq, Prod.mk.injEq] at h
        obtain ⟨rfl, rfl, rfl, rfl, rfl, rfl, rfl⟩ := h
        have hW := kw_swap (kw (w' := (wMa cs a (aT 0) (aS 0) (aD 0) (aG 0) (aE 0) (aR 0) μ2 ++ (wSc cs aS (aT 0) ς1 ++ (wTe cs aT τ))) ++ ((wRo cs aE ε1) ++ ((wGa cs aG (aD 0) (aE 0) γ1 Γ ++ (wDa cs aD dr δ)) ++ (wRo cs aR ρ)))) (by simp only [List.append_assoc]) hW)
        have hW : Wd D A s.heap (wMa cs a (aT 0) (aS 0) (aD 0) (aG 0) (aE 0) (aR 0) μ2 ++ (wSc cs aS (aT 0) ς1 ++ (wTe cs aT τ ++ (wRo cs aR ρ ++ (wGa cs aG (aD 0) (aE 0) γ1 Γ ++ (wDa cs aD dr δ ++ (wRo cs aE ε1))))))) H locs := kw (by simp only [List.append_assoc]) hW
        exact hQ _ _ _ _ dX6_lay_91 rfl hW
      · have h := ite_t c3 h
        refine lv_bipush (v := -2) S.1 S.2.1 dX6_lay_36 (by decide) ?_
        simp only [Option.some.injEq, Prod.mk.injEq] at h
        obtain ⟨rfl, rfl, rfl, rfl, rfl, rfl, rfl⟩ := h
        exact hQ _ _ _ _ dX6_lay_38 rfl hW
