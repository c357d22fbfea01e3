section DAY
variable {rm : Nat → Nat → Nat} {ru hm hc ca po t : Nat} {lt : Nat → Nat} {σ0 : St} {rn us : Int32} {f8 f25 : Nat → Int32} {pend pend' : Nat → Bool} {δ σ ρ : St}
theorem nar_b : ∀ b, b < 2 → vp_nar .boolean (nI b) = nI b := by decide +kernel
theorem Mo_sitsOn_sat {N k p q M P : Nat} (hk : k < 8) (hp : p < 10) (v1 v2 v3 : Int32) (e3 : σ 13 k = nI p) (eq2 : σ 14 k = nI q) (hq : q < 1000) (hM' : M < 1000) (hP : P < 1000) (o1 : ∀ x, fMo_of N (nI k) (1 : Int32) (sA σ 14 x) = some (nI M)) (o2 : ∀ x, fMo_of N (nI k) (2 : Int32) (sA σ 14 x) = some (nI P)) :
    fMo_sitsOn N v1 v2 (nI k) v3 σ = if q + 1 = M then some (goneM σ k p) else if q + 1 = P then (if v1 = 1 then fMo_sitsOn_112 N (nI k) (nI p) (nI k) (sA (sA (sA (satM σ k) 12 (upd (σ 12) k 3)) 16 (upd (σ 16) k v3)) 19 (upd (σ 19) p (-1))) else if ((v2 >>> (nI k &&& 31)) &&& (1 : Int32)) = 1 then fMo_sitsOn_113 N (nI k) (nI p) (nI k) (1 : Int32) (sA (sA (sA (satM σ k) 12 (upd (σ 12) k 3)) 16 (upd (σ 16) k v3)) 19 (upd (σ 19) p (-1))) else fMo_sitsOn_112 N (nI k) (nI p) (nI k) (sA (sA (sA (satM σ k) 12 (upd (σ 12) k 3)) 16 (upd (σ 16) k v3)) 19 (upd (σ 19) p (-1)))) else some (satM σ k) := by
  have g8 : ∀ x : Option St, gI (nI k) 8 x = x := fun x => gI_ok hk (by decide) x
  have g10 : ∀ x : Option St, gI (nI p) 10 x = x := fun x => gI_ok hp (by decide) x
  have ck : (nI k).toNatClampNeg = k := cl_nI (by omega)
  have cp : (nI p).toNatClampNeg = p := cl_nI (by omega)
  have e4 : sA σ 14 (upd (σ 14) k (σ 14 k + 1)) 14 k = nI (q + 1) := by
    rw [sA_s, upd_s, eq2, nI_1]
  rw [fMo_sitsOn, g8, ck, nm_d, g8, g8, nm_d, g8, o1, cl1_s, e4, e3]
  by_cases c1 : q + 1 = M
  · rw [if_pos c1, if_pos (show nI (q + 1) = nI M by rw [c1]), g8, nm_d, g10, cp, nm_d, fMo_sitsOn_135]
    rfl
  · rw [if_neg c1, if_neg (nI_neq (by omega) (by omega) c1), g8, o2, cl1_s]
    by_cases c2 : q + 1 = P
    · rw [if_pos c2, if_pos (show nI (q + 1) = nI P by rw [c2]), g8, nm_d, g8, nm_d, g10, cp, nm_d]
      rfl
    · rw [if_neg c2, if_neg (nI_neq (by omega) (by omega) c2), fMo_sitsOn_135]
      rfl
theorem Mo_sitsOn_113 {N k p : Nat} (hk : k < 8) (hp : p < 10) {b : Nat} (hb2 : b < 2) (σ : St) : fMo_sitsOn_113 N (nI k) (nI p) (nI k) (nI b) σ = some (sA (sA σ 17 (upd (σ 17) k (nI b))) 20 (upd (σ 20) p (if b = 1 then nI k else -1))) := by
  have g8 : ∀ x : Option St, gI (nI k) 8 x = x := fun x => gI_ok hk (by decide) x
  have g10 : ∀ x : Option St, gI (nI p) 10 x = x := fun x => gI_ok hp (by decide) x
  have ck : (nI k).toNatClampNeg = k := cl_nI (by omega)
  have cp : (nI p).toNatClampNeg = p := cl_nI (by omega)
  rw [fMo_sitsOn_113, g8, nm_d, g8, ck, nar_b b hb2]
  have e : sA σ 17 (upd (σ 17) k (nI b)) 17 k = nI b := by rw [sA_s, upd_s]
  rw [e]
  rcases (show b = 0 ∨ b = 1 by omega) with rfl | rfl
  · rw [if_pos (by decide), if_neg (by decide), fMo_sitsOn_134, g10, cp, nm_d, fMo_sitsOn_135]
    rfl
  · rw [if_neg (by decide), if_pos rfl, fMo_sitsOn_134, g10, cp, nm_d, fMo_sitsOn_135]
    rfl
theorem ph4 (hN : rmN rm) (hC : RoomC rm ρ) (hM : RoomM rm 0 σ0) (hH : HCp rm ru hm hc) {N : Nat} (hNN : 100 ≤ N) (hru : ru < 5) (h : DR rm ru hm hc ca po t lt σ0 rn us f8 f25 (fun _ => false) δ σ) :
    ∃ δ' σ', DR rm ru hm hc ca po t lt σ0 rn us f8 f25 (fun _ => false) δ' σ' ∧ fDa_sitOn N (nI t) ρ δ = some δ' ∧ fMo_minute_174 N N (nI ru) (nI hm) (nI t) (0 : Int32) σ = fMo_minute_217 N N (nI t) (0 : Int32) (0 : Int32) σ' := by
  have h08 := hN.1
  have h10 := hN.2.1
  have g2 : ∀ x : Option St, gI (0 : Int32) 2 x = x := fun x => gI_ok (k := 0) (by decide) (by decide) x
  obtain ⟨δ', σ', h', q1, q2⟩ := lock (G := fun _ => DR rm ru hm hc ca po t lt σ0 rn us f8 f25 (fun _ => false)) (F1 := fun n k δ => fDa_sitOn_2 N ρ n (nI t) (nI k) δ) (F2 := fun n k σ => fMo_minute_174 N n (nI ru) (nI hm) (nI t) (nI k) σ) (rm 0 0) (fun k δ σ hk h => by
    have hM' := h.1.room hM
    have hk8 : k < 8 := by omega
    have dl : ¬ δ 0 9 ≤ nI k := by rw [h.2.1.1]; exact nI_ge hk (by omega)
    have ml : ¬ σ 5 0 ≤ nI k := by rw [hM'.2.1]; exact nI_ge hk (by omega)
    have g8 : ∀ x : Option St, gI (nI k) 8 x = x := fun x => gI_ok hk8 (by decide) x
    have ck : (nI k).toNatClampNeg = k := cl_nI (by omega)
    obtain ⟨e12, hRS⟩ := h.st hk rfl
    by_cases c1 : δ 1 k = 2
    · obtain ⟨p, hp, p1, p2⟩ := hRS.two c1
      have hp10 : p < 10 := by omega
      have g10 : ∀ x : Option St, gI (nI p) 10 x = x := fun x => gI_ok hp10 (by decide) x
      have cp : (nI p).toNatClampNeg = p := cl_nI (by omega)
      obtain ⟨⟨-, -, q, b3, b4, b5, b6, b7⟩, -⟩ := h.2.2.1 k hk
      have hqM : q < rm (k + 2) 1 := by
        rcases b6 with b6 | b6
        · rw [c1] at b6; cases b6
        · exact b6
      obtain ⟨-, ⟨m1, m2⟩, ⟨p3, p4⟩, -⟩ := hN.2.2.2.2.2.2.2.2 k hk
      have n1 : fRo_number N (nI k) (1 : Int32) ρ = some (nI (rm (k + 2) 1)) := Ro_number hN hC N hk (w := 1) (by decide)
      have n2 : fRo_number N (nI k) (2 : Int32) ρ = some (nI (rm (k + 2) 2)) := Ro_number hN hC N hk (w := 2) (by decide)
      have o1 : ∀ x, fMo_of N (nI k) (1 : Int32) (sA σ 14 x) = some (nI (rm (k + 2) 1)) := fun x => Mo_of hN ((h.1.arr 14 (by decide) (by decide)).room hM) N hk (w := 1) (by decide)
      have o2 : ∀ x, fMo_of N (nI k) (2 : Int32) (sA σ 14 x) = some (nI (rm (k + 2) 2)) := fun x => Mo_of hN ((h.1.arr 14 (by decide) (by decide)).room hM) N hk (w := 2) (by decide)
      have e4 : sA δ 4 (upd (δ 4) k (δ 4 k + 1)) 4 k = nI (q + 1) := by rw [sA_s, upd_s, b4, nI_1]
      have hMo := Mo_sitsOn_sat (N := N) hk8 hp10 (nI ru) (nI hm) (nI t) p2 b5 (by omega) (show rm (k + 2) 1 < 1000 by omega) (show rm (k + 2) 2 < 1000 by omega) o1 o2
      have hcls : ∀ n, fDa_sitOn_2 N ρ (n + 1) (nI t) (nI k) δ = if nI (q + 1) < nI (rm (k + 2) 1) then (if nI (q + 1) = nI (rm (k + 2) 2) then (if ((δ 0 12 >>> (nI k &&& 31)) &&& (1 : Int32)) = 1 then fDa_sitOn_145 (fDa_sitOn_2 N ρ n) N ρ (nI t) (nI k) (nI p) (nI k) (sA (satD δ k) 6 (upd (δ 6) p (-1))) else fDa_sitOn_145 (fDa_sitOn_2 N ρ n) N ρ (nI t) (nI k) (nI p) (-1 : Int32) (sA (satD δ k) 6 (upd (δ 6) p (-1)))) else fDa_sitOn_2 N ρ n (nI t) (nI (k + 1)) (satD δ k)) else fDa_sitOn_2 N ρ n (nI t) (nI (k + 1)) (goneD δ k p) := by
        intro n
        rw [fDa_sitOn_2, if_neg dl, g8, ck, nm_d, g8, if_pos c1, p1, if_neg (nI_pos (by omega)), if_pos (show nI p < (10 : Int32) from nI_lt (b := 10) hp10 (by omega)), g8, g8, nm_d, g8, n1, cl1_s, e4]
        by_cases d1 : nI (q + 1) < nI (rm (k + 2) 1)
        · rw [if_pos d1, if_pos d1, g8, n2, cl1_s]
          by_cases d2 : nI (q + 1) = nI (rm (k + 2) 2)
          · rw [if_pos d2, if_pos d2, g10, cp, nm_d]
            rfl
          · rw [if_neg d2, if_neg d2, fDa_sitOn_160, nm_d, nI_1]
            rfl
        · rw [if_neg d1, if_neg d1, g10, cp, nm_d, g8, nm_d, nm_d, fDa_sitOn_160, nm_d, nI_1]
          rfl
      have c1' : σ 12 k = 2 := e12 ▸ c1
      have hmod : ∀ n σ1, fMo_sitsOn N (nI ru) (nI hm) (nI k) (nI t) σ = some σ1 → fMo_minute_174 N (n + 1) (nI ru) (nI hm) (nI t) (nI k) σ = fMo_minute_174 N n (nI ru) (nI hm) (nI t) (nI (k + 1)) σ1 := by
        intro n σ1 e
        rw [fMo_minute_174, g2, sb_cl0, if_neg ml, g8, ck, if_pos c1', e, cl1_s, fMo_minute_205, nm_d, nI_1]
      by_cases d1 : q + 1 = rm (k + 2) 1
      · refine ⟨goneD δ k p, goneM σ k p, h.gone hN hk rfl c1 hp p1 b4 b5 d1, fun n => ?_, fun n => ?_⟩
        · rw [hcls n, if_neg (show ¬ nI (q + 1) < nI (rm (k + 2) 1) from nI_nlt (by omega) (by omega))]
        · rw [if_pos d1] at hMo
          exact hmod n _ hMo
      · have hlt : nI (q + 1) < nI (rm (k + 2) 1) := nI_lt (by omega) (by omega)
        by_cases d2 : q + 1 = rm (k + 2) 2
        · have hbit := hH.2.2 k hk (by omega)
          have hbl := hb_lt ru hm k
          have a4 := h.2.1.2.2.2.1
          refine ⟨offD δ k p t (if hb ru hm k = 1 then nI k else -1), offM σ k p t (nI (hb ru hm k)) (if hb ru hm k = 1 then nI k else -1), h.goff hN hk rfl c1 hp p1 p2 b4 b5 (by omega) d2 (by split; exact Or.inl rfl; exact Or.inr rfl) rfl, fun n => ?_, fun n => ?_⟩
          · have eb := b_get hc hH.2.1 k hk8
            rw [hcls n, if_pos hlt, if_pos (show nI (q + 1) = nI (rm (k + 2) 2) by rw [d2]), a4, eb, hbit]
            have t145 : ∀ x : Int32, fDa_sitOn_145 (fDa_sitOn_2 N ρ n) N ρ (nI t) (nI k) (nI p) x (sA (satD δ k) 6 (upd (δ 6) p (-1))) = fDa_sitOn_2 N ρ n (nI t) (nI (k + 1)) (offD δ k p t x) := by
              intro x
              rw [fDa_sitOn_145, g10, cp, nm_d, g8, ck, nm_d, g8, nm_d, fDa_sitOn_160, nm_d, nI_1]
              rfl
            rcases (show hb ru hm k = 0 ∨ hb ru hm k = 1 by omega) with z | z
            · rw [z, if_neg (by decide), if_neg (by decide)]; exact t145 _
            · rw [z, if_pos (by decide), if_pos (by decide)]; exact t145 _
          · rw [if_neg d1, if_pos d2] at hMo
            have t112 : ∀ σ1, fMo_sitsOn_112 N (nI k) (nI p) (nI k) σ1 = some (sA (sA σ1 17 (upd (σ1 17) k (nI 0))) 20 (upd (σ1 20) p (-1))) := fun σ1 => by
              rw [fMo_sitsOn_112]
              exact Mo_sitsOn_113 hk8 hp10 (b := 0) (by decide) σ1
            refine hmod n _ (hMo.trans ?_)
            by_cases r1 : ru = 1
            · have hz : hb ru hm k = 0 := by unfold hb; rw [if_pos r1]
              rw [if_pos (show nI ru = 1 by rw [r1]; rfl), t112, hz]
              rfl
            · have hz : hb ru hm k = hm / 2 ^ k % 2 := by unfold hb; rw [if_neg r1]
              rw [if_neg (show ¬ nI ru = 1 from nI_neq (b := 1) (by omega) (by decide) r1), b_get hm hH.1 k hk8, ← hz]
              rcases (show hb ru hm k = 0 ∨ hb ru hm k = 1 by omega) with z | z
              · rw [z, if_neg (by decide), t112]; rfl
              · rw [z, if_pos (by decide)]
                exact Mo_sitsOn_113 hk8 hp10 (b := 1) (by decide) _
        · refine ⟨satD δ k, satM σ k, h.sat hk c1 b4 b5 (by omega), fun n => ?_, fun n => ?_⟩
          · rw [hcls n, if_pos hlt, if_neg (nI_neq (by omega) (by omega) d2)]
          · rw [if_neg d1, if_neg d2] at hMo
            exact hmod n _ hMo
    · refine ⟨δ, σ, h, fun n => ?_, fun n => ?_⟩
      · rw [fDa_sitOn_2, if_neg dl, g8, ck, nm_d, g8, if_neg c1, fDa_sitOn_160, nm_d, nI_1]
      · rw [fMo_minute_174, g2, sb_cl0, if_neg ml, g8, ck, if_neg (show ¬ σ 12 k = 2 from e12 ▸ c1), fMo_minute_205, nm_d, nI_1]) (rm 0 0) 0 δ σ (by omega) h
  refine ⟨δ', σ', h', ?_, ?_⟩
  · have e := q1 (N - rm 0 0 - 1 + 1)
    rw [show N - rm 0 0 - 1 + 1 + rm 0 0 = N by omega] at e
    refine e.trans ?_
    have dl : δ' 0 9 ≤ nI (rm 0 0) := by rw [h'.2.1.1]; exact nI_le (Nat.le_refl _) (by omega)
    show fDa_sitOn_2 N ρ (N - rm 0 0 - 1 + 1) (nI t) (nI (rm 0 0)) δ' = _
    rw [fDa_sitOn_2, if_pos dl]
  · have e := q2 (N - rm 0 0 - 1 + 1)
    rw [show N - rm 0 0 - 1 + 1 + rm 0 0 = N by omega] at e
    refine e.trans ?_
    have ml : σ' 5 0 ≤ nI (rm 0 0) := by rw [(h'.1.room hM).2.1]; exact nI_le (Nat.le_refl _) (by omega)
    show fMo_minute_174 N (N - rm 0 0 - 1 + 1) (nI ru) (nI hm) (nI t) (nI (rm 0 0)) σ' = _
    rw [fMo_minute_174, g2, sb_cl0, if_pos ml]
end DAY
