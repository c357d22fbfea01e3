section
-- ===== PART A: goes FIRST, ahead of the names: the tables' words, and 'selects' of the private methods out of them =====
/-- a private method of a class that the tables say can be made, by its rows of tables_1 -/
def lw_okq (q : MethodName × Nat) : Prop := (q.1.cls ≠ "java/lang/invoke/MethodHandle" ∧ q.1.cls ≠ "java/lang/invoke/VarHandle") ∧ Cond.instantiable q.1.cls q.2 ∈ tables_1 ∧ Cond.privateMethod q.1 ∈ tables_1 ∧ Cond.instanceMethod q.1 ∈ tables_1
theorem lw_p0 : lw_okq (⟨"CoatsOnChairs$Scan", "readNumbers", "(I)Z"⟩, 3) := ⟨⟨by decide +kernel, by decide +kernel⟩, List.mem_of_getElem? (i := 36) (by decide +kernel), List.mem_of_getElem? (i := 275) (by decide +kernel), List.mem_of_getElem? (i := 276) (by decide +kernel)⟩
theorem lw_p1 : lw_okq (⟨"CoatsOnChairs$Scan", "readFigures", "()I"⟩, 3) := ⟨⟨by decide +kernel, by decide +kernel⟩, List.mem_of_getElem? (i := 36) (by decide +kernel), List.mem_of_getElem? (i := 281) (by decide +kernel), List.mem_of_getElem? (i := 282) (by decide +kernel)⟩
theorem lw_p2 : lw_okq (⟨"CoatsOnChairs$Scan", "put", "(ILCoatsOnChairs$Room;)Z"⟩, 3) := ⟨⟨by decide +kernel, by decide +kernel⟩, List.mem_of_getElem? (i := 36) (by decide +kernel), List.mem_of_getElem? (i := 289) (by decide +kernel), List.mem_of_getElem? (i := 290) (by decide +kernel)⟩
theorem lw_p3 : lw_okq (⟨"CoatsOnChairs", "isReader", "(I)Z"⟩, 12) := ⟨⟨by decide +kernel, by decide +kernel⟩, List.mem_of_getElem? (i := 14) (by decide +kernel), List.mem_of_getElem? (i := 331) (by decide +kernel), List.mem_of_getElem? (i := 332) (by decide +kernel)⟩
theorem lw_p4 : lw_okq (⟨"CoatsOnChairs", "isSeat", "(I)Z"⟩, 12) := ⟨⟨by decide +kernel, by decide +kernel⟩, List.mem_of_getElem? (i := 14) (by decide +kernel), List.mem_of_getElem? (i := 343) (by decide +kernel), List.mem_of_getElem? (i := 344) (by decide +kernel)⟩
theorem lw_p5 : lw_okq (⟨"CoatsOnChairs$Day", "comeBack", "(I)V"⟩, 20) := ⟨⟨by decide +kernel, by decide +kernel⟩, List.mem_of_getElem? (i := 104) (by decide +kernel), List.mem_of_getElem? (i := 391) (by decide +kernel), List.mem_of_getElem? (i := 392) (by decide +kernel)⟩
theorem lw_p6 : lw_okq (⟨"CoatsOnChairs$Day", "sitDown", "(II)V"⟩, 20) := ⟨⟨by decide +kernel, by decide +kernel⟩, List.mem_of_getElem? (i := 104) (by decide +kernel), List.mem_of_getElem? (i := 399) (by decide +kernel), List.mem_of_getElem? (i := 400) (by decide +kernel)⟩
theorem lw_p7 : lw_okq (⟨"CoatsOnChairs$Day", "freeHeld", "(I)V"⟩, 20) := ⟨⟨by decide +kernel, by decide +kernel⟩, List.mem_of_getElem? (i := 104) (by decide +kernel), List.mem_of_getElem? (i := 403) (by decide +kernel), List.mem_of_getElem? (i := 404) (by decide +kernel)⟩
theorem lw_p8 : lw_okq (⟨"CoatsOnChairs$Day", "offFor", "(II)I"⟩, 20) := ⟨⟨by decide +kernel, by decide +kernel⟩, List.mem_of_getElem? (i := 104) (by decide +kernel), List.mem_of_getElem? (i := 411) (by decide +kernel), List.mem_of_getElem? (i := 412) (by decide +kernel)⟩
theorem lw_p9 : lw_okq (⟨"CoatsOnChairs$Day", "seekSeats", "(I)V"⟩, 20) := ⟨⟨by decide +kernel, by decide +kernel⟩, List.mem_of_getElem? (i := 104) (by decide +kernel), List.mem_of_getElem? (i := 415) (by decide +kernel), List.mem_of_getElem? (i := 416) (by decide +kernel)⟩
theorem lw_p10 : lw_okq (⟨"CoatsOnChairs$Day", "freeSeatFor", "(I)I"⟩, 20) := ⟨⟨by decide +kernel, by decide +kernel⟩, List.mem_of_getElem? (i := 104) (by decide +kernel), List.mem_of_getElem? (i := 419) (by decide +kernel), List.mem_of_getElem? (i := 420) (by decide +kernel)⟩
theorem lw_p11 : lw_okq (⟨"CoatsOnChairs$Day", "daredSeatFor", "(II)I"⟩, 20) := ⟨⟨by decide +kernel, by decide +kernel⟩, List.mem_of_getElem? (i := 104) (by decide +kernel), List.mem_of_getElem? (i := 430) (by decide +kernel), List.mem_of_getElem? (i := 431) (by decide +kernel)⟩
theorem lw_p12 : lw_okq (⟨"CoatsOnChairs$Day", "sitOn", "(I)V"⟩, 20) := ⟨⟨by decide +kernel, by decide +kernel⟩, List.mem_of_getElem? (i := 104) (by decide +kernel), List.mem_of_getElem? (i := 438) (by decide +kernel), List.mem_of_getElem? (i := 439) (by decide +kernel)⟩
theorem lw_p13 : lw_okq (⟨"CoatsOnChairs$Day", "countSeats", "(I)V"⟩, 20) := ⟨⟨by decide +kernel, by decide +kernel⟩, List.mem_of_getElem? (i := 104) (by decide +kernel), List.mem_of_getElem? (i := 442) (by decide +kernel), List.mem_of_getElem? (i := 443) (by decide +kernel)⟩
theorem lw_p14 : lw_okq (⟨"CoatsOnChairs", "runWhole", "(I)V"⟩, 12) := ⟨⟨by decide +kernel, by decide +kernel⟩, List.mem_of_getElem? (i := 14) (by decide +kernel), List.mem_of_getElem? (i := 463) (by decide +kernel), List.mem_of_getElem? (i := 464) (by decide +kernel)⟩
theorem lw_p15 : lw_okq (⟨"CoatsOnChairs", "betters", "(II)Z"⟩, 12) := ⟨⟨by decide +kernel, by decide +kernel⟩, List.mem_of_getElem? (i := 14) (by decide +kernel), List.mem_of_getElem? (i := 500) (by decide +kernel), List.mem_of_getElem? (i := 501) (by decide +kernel)⟩
def lw_privs_1 : List (MethodName × Nat) := [(⟨"CoatsOnChairs$Scan", "readNumbers", "(I)Z"⟩, 3), (⟨"CoatsOnChairs$Scan", "readFigures", "()I"⟩, 3), (⟨"CoatsOnChairs$Scan", "put", "(ILCoatsOnChairs$Room;)Z"⟩, 3), (⟨"CoatsOnChairs", "isReader", "(I)Z"⟩, 12), (⟨"CoatsOnChairs", "isSeat", "(I)Z"⟩, 12), (⟨"CoatsOnChairs$Day", "comeBack", "(I)V"⟩, 20), (⟨"CoatsOnChairs$Day", "sitDown", "(II)V"⟩, 20), (⟨"CoatsOnChairs$Day", "freeHeld", "(I)V"⟩, 20), (⟨"CoatsOnChairs$Day", "offFor", "(II)I"⟩, 20), (⟨"CoatsOnChairs$Day", "seekSeats", "(I)V"⟩, 20), (⟨"CoatsOnChairs$Day", "freeSeatFor", "(I)I"⟩, 20), (⟨"CoatsOnChairs$Day", "daredSeatFor", "(II)I"⟩, 20), (⟨"CoatsOnChairs$Day", "sitOn", "(I)V"⟩, 20), (⟨"CoatsOnChairs$Day", "countSeats", "(I)V"⟩, 20), (⟨"CoatsOnChairs", "runWhole", "(I)V"⟩, 12), (⟨"CoatsOnChairs", "betters", "(II)Z"⟩, 12)]
theorem lw_r1 : ∀ q ∈ lw_privs_1, lw_okq q := List.forall_mem_cons.mpr ⟨lw_p0, List.forall_mem_cons.mpr ⟨lw_p1, List.forall_mem_cons.mpr ⟨lw_p2, List.forall_mem_cons.mpr ⟨lw_p3, List.forall_mem_cons.mpr ⟨lw_p4, List.forall_mem_cons.mpr ⟨lw_p5, List.forall_mem_cons.mpr ⟨lw_p6, List.forall_mem_cons.mpr ⟨lw_p7, List.forall_mem_cons.mpr ⟨lw_p8, List.forall_mem_cons.mpr ⟨lw_p9, List.forall_mem_cons.mpr ⟨lw_p10, List.forall_mem_cons.mpr ⟨lw_p11, List.forall_mem_cons.mpr ⟨lw_p12, List.forall_mem_cons.mpr ⟨lw_p13, List.forall_mem_cons.mpr ⟨lw_p14, List.forall_mem_cons.mpr ⟨lw_p15, fun _ h => absurd h List.not_mem_nil⟩⟩⟩⟩⟩⟩⟩⟩⟩⟩⟩⟩⟩⟩⟩⟩
theorem lw_p16 : lw_okq (⟨"CoatsOnChairs$Game", "minutesIn", "(II)I"⟩, 5) := ⟨⟨by decide +kernel, by decide +kernel⟩, List.mem_of_getElem? (i := 171) (by decide +kernel), List.mem_of_getElem? (i := 526) (by decide +kernel), List.mem_of_getElem? (i := 527) (by decide +kernel)⟩
theorem lw_p17 : lw_okq (⟨"CoatsOnChairs", "shutOutByCards", "(II)I"⟩, 12) := ⟨⟨by decide +kernel, by decide +kernel⟩, List.mem_of_getElem? (i := 14) (by decide +kernel), List.mem_of_getElem? (i := 557) (by decide +kernel), List.mem_of_getElem? (i := 558) (by decide +kernel)⟩
theorem lw_p18 : lw_okq (⟨"CoatsOnChairs", "shutOutByDraw", "(II)I"⟩, 12) := ⟨⟨by decide +kernel, by decide +kernel⟩, List.mem_of_getElem? (i := 14) (by decide +kernel), List.mem_of_getElem? (i := 596) (by decide +kernel), List.mem_of_getElem? (i := 597) (by decide +kernel)⟩
theorem lw_p19 : lw_okq (⟨"CoatsOnChairsModel", "begins", "()V"⟩, 30) := ⟨⟨by decide +kernel, by decide +kernel⟩, List.mem_of_getElem? (i := 627) (by decide +kernel), List.mem_of_getElem? (i := 633) (by decide +kernel), List.mem_of_getElem? (i := 634) (by decide +kernel)⟩
theorem lw_p20 : lw_okq (⟨"CoatsOnChairsModel", "takes", "()V"⟩, 30) := ⟨⟨by decide +kernel, by decide +kernel⟩, List.mem_of_getElem? (i := 627) (by decide +kernel), List.mem_of_getElem? (i := 637) (by decide +kernel), List.mem_of_getElem? (i := 638) (by decide +kernel)⟩
theorem lw_p21 : lw_okq (⟨"CoatsOnChairsModel", "isItem", "()Z"⟩, 30) := ⟨⟨by decide +kernel, by decide +kernel⟩, List.mem_of_getElem? (i := 627) (by decide +kernel), List.mem_of_getElem? (i := 749) (by decide +kernel), List.mem_of_getElem? (i := 750) (by decide +kernel)⟩
theorem lw_p22 : lw_okq (⟨"CoatsOnChairsModel", "number", "()I"⟩, 30) := ⟨⟨by decide +kernel, by decide +kernel⟩, List.mem_of_getElem? (i := 627) (by decide +kernel), List.mem_of_getElem? (i := 756) (by decide +kernel), List.mem_of_getElem? (i := 757) (by decide +kernel)⟩
theorem lw_p23 : lw_okq (⟨"CoatsOnChairsModel", "isGood", "(I)Z"⟩, 30) := ⟨⟨by decide +kernel, by decide +kernel⟩, List.mem_of_getElem? (i := 627) (by decide +kernel), List.mem_of_getElem? (i := 763) (by decide +kernel), List.mem_of_getElem? (i := 764) (by decide +kernel)⟩
theorem lw_p24 : lw_okq (⟨"CoatsOnChairsModel", "isIn", "(III)Z"⟩, 30) := ⟨⟨by decide +kernel, by decide +kernel⟩, List.mem_of_getElem? (i := 627) (by decide +kernel), List.mem_of_getElem? (i := 767) (by decide +kernel), List.mem_of_getElem? (i := 768) (by decide +kernel)⟩
theorem lw_p25 : lw_okq (⟨"CoatsOnChairsModel", "isReader", "(I)Z"⟩, 30) := ⟨⟨by decide +kernel, by decide +kernel⟩, List.mem_of_getElem? (i := 627) (by decide +kernel), List.mem_of_getElem? (i := 780) (by decide +kernel), List.mem_of_getElem? (i := 781) (by decide +kernel)⟩
theorem lw_p26 : lw_okq (⟨"CoatsOnChairsModel", "of", "(II)I"⟩, 30) := ⟨⟨by decide +kernel, by decide +kernel⟩, List.mem_of_getElem? (i := 627) (by decide +kernel), List.mem_of_getElem? (i := 785) (by decide +kernel), List.mem_of_getElem? (i := 786) (by decide +kernel)⟩
theorem lw_p27 : lw_okq (⟨"CoatsOnChairsModel", "goes", "(IIIII)V"⟩, 30) := ⟨⟨by decide +kernel, by decide +kernel⟩, List.mem_of_getElem? (i := 627) (by decide +kernel), List.mem_of_getElem? (i := 809) (by decide +kernel), List.mem_of_getElem? (i := 810) (by decide +kernel)⟩
theorem lw_p28 : lw_okq (⟨"CoatsOnChairsModel", "run", "(IIIII)V"⟩, 30) := ⟨⟨by decide +kernel, by decide +kernel⟩, List.mem_of_getElem? (i := 627) (by decide +kernel), List.mem_of_getElem? (i := 813) (by decide +kernel), List.mem_of_getElem? (i := 814) (by decide +kernel)⟩
theorem lw_p29 : lw_okq (⟨"CoatsOnChairsModel", "minute", "(IIIII)V"⟩, 30) := ⟨⟨by decide +kernel, by decide +kernel⟩, List.mem_of_getElem? (i := 627) (by decide +kernel), List.mem_of_getElem? (i := 817) (by decide +kernel), List.mem_of_getElem? (i := 818) (by decide +kernel)⟩
theorem lw_p30 : lw_okq (⟨"CoatsOnChairsModel", "comesBack", "(II)V"⟩, 30) := ⟨⟨by decide +kernel, by decide +kernel⟩, List.mem_of_getElem? (i := 627) (by decide +kernel), List.mem_of_getElem? (i := 821) (by decide +kernel), List.mem_of_getElem? (i := 822) (by decide +kernel)⟩
theorem lw_p31 : lw_okq (⟨"CoatsOnChairsModel", "frees", "(IIII)V"⟩, 30) := ⟨⟨by decide +kernel, by decide +kernel⟩, List.mem_of_getElem? (i := 627) (by decide +kernel), List.mem_of_getElem? (i := 825) (by decide +kernel), List.mem_of_getElem? (i := 826) (by decide +kernel)⟩
def lw_privs_2 : List (MethodName × Nat) := [(⟨"CoatsOnChairs$Game", "minutesIn", "(II)I"⟩, 5), (⟨"CoatsOnChairs", "shutOutByCards", "(II)I"⟩, 12), (⟨"CoatsOnChairs", "shutOutByDraw", "(II)I"⟩, 12), (⟨"CoatsOnChairsModel", "begins", "()V"⟩, 30), (⟨"CoatsOnChairsModel", "takes", "()V"⟩, 30), (⟨"CoatsOnChairsModel", "isItem", "()Z"⟩, 30), (⟨"CoatsOnChairsModel", "number", "()I"⟩, 30), (⟨"CoatsOnChairsModel", "isGood", "(I)Z"⟩, 30), (⟨"CoatsOnChairsModel", "isIn", "(III)Z"⟩, 30), (⟨"CoatsOnChairsModel", "isReader", "(I)Z"⟩, 30), (⟨"CoatsOnChairsModel", "of", "(II)I"⟩, 30), (⟨"CoatsOnChairsModel", "goes", "(IIIII)V"⟩, 30), (⟨"CoatsOnChairsModel", "run", "(IIIII)V"⟩, 30), (⟨"CoatsOnChairsModel", "minute", "(IIIII)V"⟩, 30), (⟨"CoatsOnChairsModel", "comesBack", "(II)V"⟩, 30), (⟨"CoatsOnChairsModel", "frees", "(IIII)V"⟩, 30)]
theorem lw_r2 : ∀ q ∈ lw_privs_2, lw_okq q := List.forall_mem_cons.mpr ⟨lw_p16, List.forall_mem_cons.mpr ⟨lw_p17, List.forall_mem_cons.mpr ⟨lw_p18, List.forall_mem_cons.mpr ⟨lw_p19, List.forall_mem_cons.mpr ⟨lw_p20, List.forall_mem_cons.mpr ⟨lw_p21, List.forall_mem_cons.mpr ⟨lw_p22, List.forall_mem_cons.mpr ⟨lw_p23, List.forall_mem_cons.mpr ⟨lw_p24, List.forall_mem_cons.mpr ⟨lw_p25, List.forall_mem_cons.mpr ⟨lw_p26, List.forall_mem_cons.mpr ⟨lw_p27, List.forall_mem_cons.mpr ⟨lw_p28, List.forall_mem_cons.mpr ⟨lw_p29, List.forall_mem_cons.mpr ⟨lw_p30, List.forall_mem_cons.mpr ⟨lw_p31, fun _ h => absurd h List.not_mem_nil⟩⟩⟩⟩⟩⟩⟩⟩⟩⟩⟩⟩⟩⟩⟩⟩
theorem lw_p32 : lw_okq (⟨"CoatsOnChairsModel", "seeks", "(III)V"⟩, 30) := ⟨⟨by decide +kernel, by decide +kernel⟩, List.mem_of_getElem? (i := 627) (by decide +kernel), List.mem_of_getElem? (i := 829) (by decide +kernel), List.mem_of_getElem? (i := 830) (by decide +kernel)⟩
theorem lw_p33 : lw_okq (⟨"CoatsOnChairsModel", "takesSeat", "(III)I"⟩, 30) := ⟨⟨by decide +kernel, by decide +kernel⟩, List.mem_of_getElem? (i := 627) (by decide +kernel), List.mem_of_getElem? (i := 833) (by decide +kernel), List.mem_of_getElem? (i := 834) (by decide +kernel)⟩
theorem lw_p34 : lw_okq (⟨"CoatsOnChairsModel", "sitsOn", "(IIII)V"⟩, 30) := ⟨⟨by decide +kernel, by decide +kernel⟩, List.mem_of_getElem? (i := 627) (by decide +kernel), List.mem_of_getElem? (i := 840) (by decide +kernel), List.mem_of_getElem? (i := 841) (by decide +kernel)⟩
theorem lw_p35 : lw_okq (⟨"CoatsOnChairsModel", "whole", "(I)V"⟩, 30) := ⟨⟨by decide +kernel, by decide +kernel⟩, List.mem_of_getElem? (i := 627) (by decide +kernel), List.mem_of_getElem? (i := 853) (by decide +kernel), List.mem_of_getElem? (i := 854) (by decide +kernel)⟩
theorem lw_p36 : lw_okq (⟨"CoatsOnChairsModel", "counted", "(I)I"⟩, 30) := ⟨⟨by decide +kernel, by decide +kernel⟩, List.mem_of_getElem? (i := 627) (by decide +kernel), List.mem_of_getElem? (i := 882) (by decide +kernel), List.mem_of_getElem? (i := 883) (by decide +kernel)⟩
theorem lw_p37 : lw_okq (⟨"CoatsOnChairsModel", "lowest", "(JJ)V"⟩, 30) := ⟨⟨by decide +kernel, by decide +kernel⟩, List.mem_of_getElem? (i := 627) (by decide +kernel), List.mem_of_getElem? (i := 912) (by decide +kernel), List.mem_of_getElem? (i := 913) (by decide +kernel)⟩
theorem lw_p38 : lw_okq (⟨"CoatsOnChairsModel", "drawnDay", "(II)I"⟩, 30) := ⟨⟨by decide +kernel, by decide +kernel⟩, List.mem_of_getElem? (i := 627) (by decide +kernel), List.mem_of_getElem? (i := 933) (by decide +kernel), List.mem_of_getElem? (i := 934) (by decide +kernel)⟩
def lw_privs_3 : List (MethodName × Nat) := [(⟨"CoatsOnChairsModel", "seeks", "(III)V"⟩, 30), (⟨"CoatsOnChairsModel", "takesSeat", "(III)I"⟩, 30), (⟨"CoatsOnChairsModel", "sitsOn", "(IIII)V"⟩, 30), (⟨"CoatsOnChairsModel", "whole", "(I)V"⟩, 30), (⟨"CoatsOnChairsModel", "counted", "(I)I"⟩, 30), (⟨"CoatsOnChairsModel", "lowest", "(JJ)V"⟩, 30), (⟨"CoatsOnChairsModel", "drawnDay", "(II)I"⟩, 30)]
theorem lw_r3 : ∀ q ∈ lw_privs_3, lw_okq q := List.forall_mem_cons.mpr ⟨lw_p32, List.forall_mem_cons.mpr ⟨lw_p33, List.forall_mem_cons.mpr ⟨lw_p34, List.forall_mem_cons.mpr ⟨lw_p35, List.forall_mem_cons.mpr ⟨lw_p36, List.forall_mem_cons.mpr ⟨lw_p37, List.forall_mem_cons.mpr ⟨lw_p38, fun _ h => absurd h List.not_mem_nil⟩⟩⟩⟩⟩⟩⟩
def lw_privs : List (MethodName × Nat) := lw_privs_1 ++ (lw_privs_2 ++ (lw_privs_3))
def lw_tbl : List Cond := k2_sels lw_privs ++ tables_1
theorem lw_privs_ok : ∀ q ∈ lw_privs, lw_okq q := by
  show ∀ q ∈ lw_privs_1 ++ (lw_privs_2 ++ (lw_privs_3)), lw_okq q
  exact List.forall_mem_append.mpr ⟨lw_r1, List.forall_mem_append.mpr ⟨lw_r2, lw_r3⟩⟩

theorem goodIn_r {big : List Cond} (ws : List Cond) (ps : List Nat) (hp : ws = ps.filterMap (fun i => big[i]?)) (h : ws.all goodWord = true) : GoodIn big ws := by
  intro w hw
  have h1 := List.all_eq_true.mp h w hw
  rw [hp] at hw
  obtain ⟨i, -, hi⟩ := List.mem_filterMap.mp hw
  have hm : w ∈ big := by first | exact List.mem_of_getElem? hi | exact List.getElem?_mem hi
  exact ⟨hm, good_of_word h1⟩
theorem goodIn_app {big a b : List Cond} (ha : GoodIn big a) (hb : GoodIn big b) : GoodIn big (a ++ b) := fun w h => (List.mem_append.mp h).elim (ha w) (hb w)
theorem goodIn_ca {big a b : List Cond} {c : Cond} (ha : GoodIn big (c :: a)) (hb : GoodIn big b) : GoodIn big (c :: (a ++ b)) := fun w h => (List.mem_cons.mp h).elim (fun e => ha w (List.mem_cons.mpr (Or.inl e))) (fun h => (List.mem_append.mp h).elim (fun h => ha w (List.mem_cons.mpr (Or.inr h))) (hb w))
theorem goodIn_sub {big ws : List Cond} (hm : ∀ w ∈ ws, w ∈ big) (h : ws.all goodWord = true) : GoodIn big ws := fun w hw => ⟨hm w hw, good_of_word (List.all_eq_true.mp h w hw)⟩
def RX0 : String := "CoatsOnChairs$Day"
def TX0 : u_T := fun k => match k with
  | 0 => ("CoatsOnChairs$Day", "states", "[I", true)
  | 1 => ("CoatsOnChairs$Day", "places", "[I", true)
  | 2 => ("CoatsOnChairs$Day", "since", "[I", true)
  | 3 => ("CoatsOnChairs$Day", "minutesSat", "[I", true)
  | 4 => ("CoatsOnChairs$Day", "arrivals", "[I", true)
  | 5 => ("CoatsOnChairs$Day", "sitters", "[I", true)
  | 6 => ("CoatsOnChairs$Day", "seatHolders", "[I", true)
  | 7 => ("CoatsOnChairs$Day", "sitting", "[I", true)
  | 8 => ("CoatsOnChairs$Day", "room", "LCoatsOnChairs$Room;", false)
  | 9 => ("CoatsOnChairs$Day", "readers", "I", false)
  | 10 => ("CoatsOnChairs$Day", "seats", "I", false)
  | 11 => ("CoatsOnChairs$Day", "rule", "I", false)
  | 12 => ("CoatsOnChairs$Day", "holders", "I", false)
  | 13 => ("CoatsOnChairs$Day", "cardMinutes", "I", false)
  | 14 => ("CoatsOnChairs$Day", "porterMinutes", "I", false)
  | 15 => ("CoatsOnChairs$Day", "ran", "I", false)
  | 16 => ("CoatsOnChairs$Day", "left", "I", false)
  | 17 => ("CoatsOnChairs$Day", "empty", "I", false)
  | 18 => ("CoatsOnChairs$Day", "shutOut", "I", false)
  | _ => ("CoatsOnChairs$Day", "thrownOut", "I", false)
def tyX0 : Nat → FieldType := fun k => match k with
  | 0 => .array .int
  | 1 => .array .int
  | 2 => .array .int
  | 3 => .array .int
  | 4 => .array .int
  | 5 => .array .int
  | 6 => .array .int
  | 7 => .array .int
  | 8 => .object "CoatsOnChairs$Room"
  | 9 => .int
  | 10 => .int
  | 11 => .int
  | 12 => .int
  | 13 => .int
  | 14 => .int
  | 15 => .int
  | 16 => .int
  | 17 => .int
  | 18 => .int
  | _ => .int
theorem nmX0 : ∀ a, a < 20 → ∀ b, b < 20 → a ≠ b → (TX0 a).2.1 ≠ (TX0 b).2.1 := by decide +kernel
theorem tyX0_ok : ∀ k, k < 20 → parseFieldDescriptor (TX0 k).2.2.1 = some (tyX0 k) := by decide +kernel
abbrev cX0_init : ByteArray := prog_2_method_1_code
def yX0_init : MethodName := ⟨RX0, "<init>", "(LCoatsOnChairs$Room;)V"⟩
abbrev cX0_open : ByteArray := prog_2_method_2_code
def yX0_open : MethodName := ⟨RX0, "open", "(LCoatsOnChairs$Room;II)V"⟩
abbrev cX0_useCards : ByteArray := prog_2_method_3_code
def yX0_useCards : MethodName := ⟨RX0, "useCards", "(II)V"⟩
abbrev cX0_comeLater : ByteArray := prog_2_method_4_code
def yX0_comeLater : MethodName := ⟨RX0, "comeLater", "(I)V"⟩
abbrev cX0_runTo : ByteArray := prog_2_method_5_code
def yX0_runTo : MethodName := ⟨RX0, "runTo", "(I)V"⟩
abbrev cX0_comeBack : ByteArray := prog_2_method_6_code
def yX0_comeBack : MethodName := ⟨RX0, "comeBack", "(I)V"⟩
abbrev cX0_freeHeld : ByteArray := prog_2_method_7_code
def yX0_freeHeld : MethodName := ⟨RX0, "freeHeld", "(I)V"⟩
abbrev cX0_seekSeats : ByteArray := prog_2_method_8_code
def yX0_seekSeats : MethodName := ⟨RX0, "seekSeats", "(I)V"⟩
abbrev cX0_freeSeatFor : ByteArray := prog_2_method_9_code
def yX0_freeSeatFor : MethodName := ⟨RX0, "freeSeatFor", "(I)I"⟩
abbrev cX0_daredSeatFor : ByteArray := prog_2_method_10_code
def yX0_daredSeatFor : MethodName := ⟨RX0, "daredSeatFor", "(II)I"⟩
abbrev cX0_sitDown : ByteArray := prog_2_method_11_code
def yX0_sitDown : MethodName := ⟨RX0, "sitDown", "(II)V"⟩
abbrev cX0_sitOn : ByteArray := prog_2_method_12_code
def yX0_sitOn : MethodName := ⟨RX0, "sitOn", "(I)V"⟩
abbrev cX0_countSeats : ByteArray := prog_2_method_13_code
def yX0_countSeats : MethodName := ⟨RX0, "countSeats", "(I)V"⟩
abbrev cX0_offFor : ByteArray := prog_2_method_14_code
def yX0_offFor : MethodName := ⟨RX0, "offFor", "(II)I"⟩
abbrev cX0_sitterOf : ByteArray := prog_2_method_15_code
def yX0_sitterOf : MethodName := ⟨RX0, "sitterOf", "(I)I"⟩
abbrev cX0_holderOf : ByteArray := prog_2_method_16_code
def yX0_holderOf : MethodName := ⟨RX0, "holderOf", "(I)I"⟩
abbrev cX0_stateOf : ByteArray := prog_2_method_17_code
def yX0_stateOf : MethodName := ⟨RX0, "stateOf", "(I)I"⟩
abbrev cX0_minutesOf : ByteArray := prog_2_method_18_code
def yX0_minutesOf : MethodName := ⟨RX0, "minutesOf", "(I)I"⟩
abbrev cX0_used : ByteArray := prog_2_method_19_code
def yX0_used : MethodName := ⟨RX0, "used", "()I"⟩
abbrev cX0_empty : ByteArray := prog_2_method_20_code
def yX0_empty : MethodName := ⟨RX0, "empty", "()I"⟩
abbrev cX0_shutOut : ByteArray := prog_2_method_21_code
def yX0_shutOut : MethodName := ⟨RX0, "shutOut", "()I"⟩
abbrev cX0_thrownOut : ByteArray := prog_2_method_22_code
def yX0_thrownOut : MethodName := ⟨RX0, "thrownOut", "()I"⟩
abbrev cX0_seenEvery : ByteArray := prog_2_method_23_code
def yX0_seenEvery : MethodName := ⟨RX0, "seenEvery", "(I)I"⟩
abbrev cX0_packedMinutes : ByteArray := prog_2_method_24_code
def yX0_packedMinutes : MethodName := ⟨RX0, "packedMinutes", "()J"⟩
def RX1 : String := "CoatsOnChairs$Game"
def TX1 : u_T := fun k => match k with
  | 0 => ("CoatsOnChairs$Game", "day", "LCoatsOnChairs$Day;", true)
  | 1 => ("CoatsOnChairs$Game", "minutes", "[J", true)
  | 2 => ("CoatsOnChairs$Game", "room", "LCoatsOnChairs$Room;", false)
  | 3 => ("CoatsOnChairs$Game", "rule", "I", false)
  | _ => ("CoatsOnChairs$Game", "mattering", "I", false)
def tyX1 : Nat → FieldType := fun k => match k with
  | 0 => .object "CoatsOnChairs$Day"
  | 1 => .array .long
  | 2 => .object "CoatsOnChairs$Room"
  | 3 => .int
  | _ => .int
theorem nmX1 : ∀ a, a < 5 → ∀ b, b < 5 → a ≠ b → (TX1 a).2.1 ≠ (TX1 b).2.1 := by decide +kernel
theorem tyX1_ok : ∀ k, k < 5 → parseFieldDescriptor (TX1 k).2.2.1 = some (tyX1 k) := by decide +kernel
abbrev cX1_init : ByteArray := prog_3_method_1_code
def yX1_init : MethodName := ⟨RX1, "<init>", "(LCoatsOnChairs$Day;LCoatsOnChairs$Room;)V"⟩
abbrev cX1_forget : ByteArray := prog_3_method_2_code
def yX1_forget : MethodName := ⟨RX1, "forget", "(LCoatsOnChairs$Room;)V"⟩
abbrev cX1_playBy : ByteArray := prog_3_method_3_code
def yX1_playBy : MethodName := ⟨RX1, "playBy", "(I)V"⟩
abbrev cX1_isRest : ByteArray := prog_3_method_4_code
def yX1_isRest : MethodName := ⟨RX1, "isRest", "(I)Z"⟩
abbrev cX1_minutesIn : ByteArray := prog_3_method_5_code
def yX1_minutesIn : MethodName := ⟨RX1, "minutesIn", "(II)I"⟩
def RX2 : String := "CoatsOnChairs$Odds"
def TX2 : u_T := fun k => match k with
  | _ => ("", "", "", false)
def tyX2 : Nat → FieldType := fun k => match k with
  | _ => .int
theorem nmX2 : ∀ a, a < 0 → ∀ b, b < 0 → a ≠ b → (TX2 a).2.1 ≠ (TX2 b).2.1 := by decide +kernel
theorem tyX2_ok : ∀ k, k < 0 → parseFieldDescriptor (TX2 k).2.2.1 = some (tyX2 k) := by decide +kernel
abbrev cX2_noMoreThan : ByteArray := prog_4_method_2_code
def yX2_noMoreThan : MethodName := ⟨RX2, "noMoreThan", "(III)J"⟩
abbrev cX2_power : ByteArray := prog_4_method_3_code
def yX2_power : MethodName := ⟨RX2, "power", "(II)J"⟩
abbrev cX2_commonDivisor : ByteArray := prog_4_method_4_code
def yX2_commonDivisor : MethodName := ⟨RX2, "commonDivisor", "(JJ)J"⟩
def RX3 : String := "CoatsOnChairs$Room"
def TX3 : u_T := fun k => match k with
  | 0 => ("CoatsOnChairs$Room", "kinds", "[I", true)
  | 1 => ("CoatsOnChairs$Room", "numbers", "[I", true)
  | 2 => ("CoatsOnChairs$Room", "seats", "I", false)
  | 3 => ("CoatsOnChairs$Room", "readers", "I", false)
  | 4 => ("CoatsOnChairs$Room", "cardMinutes", "I", false)
  | 5 => ("CoatsOnChairs$Room", "porterMinutes", "I", false)
  | 6 => ("CoatsOnChairs$Room", "lampMinutes", "I", false)
  | 7 => ("CoatsOnChairs$Room", "seekMinutes", "I", false)
  | _ => ("CoatsOnChairs$Room", "laterMinutes", "I", false)
def tyX3 : Nat → FieldType := fun k => match k with
  | 0 => .array .int
  | 1 => .array .int
  | 2 => .int
  | 3 => .int
  | 4 => .int
  | 5 => .int
  | 6 => .int
  | 7 => .int
  | _ => .int
theorem nmX3 : ∀ a, a < 9 → ∀ b, b < 9 → a ≠ b → (TX3 a).2.1 ≠ (TX3 b).2.1 := by decide +kernel
theorem tyX3_ok : ∀ k, k < 9 → parseFieldDescriptor (TX3 k).2.2.1 = some (tyX3 k) := by decide +kernel
abbrev cX3_init : ByteArray := prog_5_method_1_code
def yX3_init : MethodName := ⟨RX3, "<init>", "()V"⟩
abbrev cX3_clear : ByteArray := prog_5_method_2_code
def yX3_clear : MethodName := ⟨RX3, "clear", "()V"⟩
abbrev cX3_addSeat : ByteArray := prog_5_method_3_code
def yX3_addSeat : MethodName := ⟨RX3, "addSeat", "(I)Z"⟩
abbrev cX3_addReader : ByteArray := prog_5_method_4_code
def yX3_addReader : MethodName := ⟨RX3, "addReader", "([I)Z"⟩
abbrev cX3_setCards : ByteArray := prog_5_method_5_code
def yX3_setCards : MethodName := ⟨RX3, "setCards", "(II)Z"⟩
abbrev cX3_setLamps : ByteArray := prog_5_method_6_code
def yX3_setLamps : MethodName := ⟨RX3, "setLamps", "(I)Z"⟩
abbrev cX3_setSeeking : ByteArray := prog_5_method_7_code
def yX3_setSeeking : MethodName := ⟨RX3, "setSeeking", "(I)Z"⟩
abbrev cX3_setLater : ByteArray := prog_5_method_8_code
def yX3_setLater : MethodName := ⟨RX3, "setLater", "(I)Z"⟩
abbrev cX3_seatCount : ByteArray := prog_5_method_9_code
def yX3_seatCount : MethodName := ⟨RX3, "seatCount", "()I"⟩
abbrev cX3_readerCount : ByteArray := prog_5_method_10_code
def yX3_readerCount : MethodName := ⟨RX3, "readerCount", "()I"⟩
abbrev cX3_cardMinutes : ByteArray := prog_5_method_11_code
def yX3_cardMinutes : MethodName := ⟨RX3, "cardMinutes", "()I"⟩
abbrev cX3_porterMinutes : ByteArray := prog_5_method_12_code
def yX3_porterMinutes : MethodName := ⟨RX3, "porterMinutes", "()I"⟩
abbrev cX3_lampMinutes : ByteArray := prog_5_method_13_code
def yX3_lampMinutes : MethodName := ⟨RX3, "lampMinutes", "()I"⟩
abbrev cX3_seekMinutes : ByteArray := prog_5_method_14_code
def yX3_seekMinutes : MethodName := ⟨RX3, "seekMinutes", "()I"⟩
abbrev cX3_laterMinutes : ByteArray := prog_5_method_15_code
def yX3_laterMinutes : MethodName := ⟨RX3, "laterMinutes", "()I"⟩
abbrev cX3_everybody : ByteArray := prog_5_method_16_code
def yX3_everybody : MethodName := ⟨RX3, "everybody", "()I"⟩
abbrev cX3_kindOf : ByteArray := prog_5_method_17_code
def yX3_kindOf : MethodName := ⟨RX3, "kindOf", "(I)I"⟩
abbrev cX3_number : ByteArray := prog_5_method_18_code
def yX3_number : MethodName := ⟨RX3, "number", "(II)I"⟩
abbrev cX3_goesOff : ByteArray := prog_5_method_19_code
def yX3_goesOff : MethodName := ⟨RX3, "goesOff", "(I)Z"⟩
def RX4 : String := "CoatsOnChairs$Scan"
def TX4 : u_T := fun k => match k with
  | 0 => ("CoatsOnChairs$Scan", "text", "LCoatsOnChairs$Text;", true)
  | 1 => ("CoatsOnChairs$Scan", "numbers", "[I", true)
  | _ => ("CoatsOnChairs$Scan", "at", "I", false)
def tyX4 : Nat → FieldType := fun k => match k with
  | 0 => .object "CoatsOnChairs$Text"
  | 1 => .array .int
  | _ => .int
theorem nmX4 : ∀ a, a < 3 → ∀ b, b < 3 → a ≠ b → (TX4 a).2.1 ≠ (TX4 b).2.1 := by decide +kernel
theorem tyX4_ok : ∀ k, k < 3 → parseFieldDescriptor (TX4 k).2.2.1 = some (tyX4 k) := by decide +kernel
abbrev cX4_init : ByteArray := prog_6_method_1_code
def yX4_init : MethodName := ⟨RX4, "<init>", "(LCoatsOnChairs$Text;)V"⟩
abbrev cX4_readInto : ByteArray := prog_6_method_2_code
def yX4_readInto : MethodName := ⟨RX4, "readInto", "(LCoatsOnChairs$Room;)I"⟩
abbrev cX4_itemOf : ByteArray := prog_6_method_3_code
def yX4_itemOf : MethodName := ⟨RX4, "itemOf", "(I)I"⟩
abbrev cX4_readNumbers : ByteArray := prog_6_method_4_code
def yX4_readNumbers : MethodName := ⟨RX4, "readNumbers", "(I)Z"⟩
abbrev cX4_readFigures : ByteArray := prog_6_method_5_code
def yX4_readFigures : MethodName := ⟨RX4, "readFigures", "()I"⟩
abbrev cX4_put : ByteArray := prog_6_method_6_code
def yX4_put : MethodName := ⟨RX4, "put", "(ILCoatsOnChairs$Room;)Z"⟩
def RX5 : String := "CoatsOnChairs$Text"
def TX5 : u_T := fun k => match k with
  | 0 => ("CoatsOnChairs$Text", "bytes", "[B", true)
  | _ => ("CoatsOnChairs$Text", "length", "I", false)
def tyX5 : Nat → FieldType := fun k => match k with
  | 0 => .array .byte
  | _ => .int
theorem nmX5 : ∀ a, a < 2 → ∀ b, b < 2 → a ≠ b → (TX5 a).2.1 ≠ (TX5 b).2.1 := by decide +kernel
theorem tyX5_ok : ∀ k, k < 2 → parseFieldDescriptor (TX5 k).2.2.1 = some (tyX5 k) := by decide +kernel
abbrev cX5_init : ByteArray := prog_7_method_1_code
def yX5_init : MethodName := ⟨RX5, "<init>", "()V"⟩
abbrev cX5_length : ByteArray := prog_7_method_2_code
def yX5_length : MethodName := ⟨RX5, "length", "()I"⟩
abbrev cX5_clear : ByteArray := prog_7_method_3_code
def yX5_clear : MethodName := ⟨RX5, "clear", "()V"⟩
abbrev cX5_append : ByteArray := prog_7_method_4_code
def yX5_append : MethodName := ⟨RX5, "append", "(IJ)Z"⟩
abbrev cX5_byteAt : ByteArray := prog_7_method_5_code
def yX5_byteAt : MethodName := ⟨RX5, "byteAt", "(I)I"⟩
def RX6 : String := "CoatsOnChairs"
def TX6 : u_T := fun k => match k with
  | 0 => ("CoatsOnChairs", "text", "LCoatsOnChairs$Text;", true)
  | 1 => ("CoatsOnChairs", "scan", "LCoatsOnChairs$Scan;", true)
  | 2 => ("CoatsOnChairs", "today", "LCoatsOnChairs$Day;", true)
  | 3 => ("CoatsOnChairs", "game", "LCoatsOnChairs$Game;", true)
  | 4 => ("CoatsOnChairs", "usedBy", "[I", true)
  | 5 => ("CoatsOnChairs", "shutOutBy", "[I", true)
  | 6 => ("CoatsOnChairs", "thrownOutBy", "[I", true)
  | 7 => ("CoatsOnChairs", "kept", "[I", true)
  | 8 => ("CoatsOnChairs", "keptCount", "I", false)
  | 9 => ("CoatsOnChairs", "holders", "I", false)
  | 10 => ("CoatsOnChairs", "laid", "LCoatsOnChairs$Room;", false)
  | _ => ("CoatsOnChairs", "draft", "LCoatsOnChairs$Room;", false)
def tyX6 : Nat → FieldType := fun k => match k with
  | 0 => .object "CoatsOnChairs$Text"
  | 1 => .object "CoatsOnChairs$Scan"
  | 2 => .object "CoatsOnChairs$Day"
  | 3 => .object "CoatsOnChairs$Game"
  | 4 => .array .int
  | 5 => .array .int
  | 6 => .array .int
  | 7 => .array .int
  | 8 => .int
  | 9 => .int
  | 10 => .object "CoatsOnChairs$Room"
  | _ => .object "CoatsOnChairs$Room"
theorem nmX6 : ∀ a, a < 12 → ∀ b, b < 12 → a ≠ b → (TX6 a).2.1 ≠ (TX6 b).2.1 := by decide +kernel
theorem tyX6_ok : ∀ k, k < 12 → parseFieldDescriptor (TX6 k).2.2.1 = some (tyX6 k) := by decide +kernel
abbrev cX6_init : ByteArray := prog_1_method_1_code
def yX6_init : MethodName := ⟨RX6, "<init>", "()V"⟩
abbrev cX6_write : ByteArray := prog_1_method_2_code
def yX6_write : MethodName := ⟨RX6, "write", "(IJ)I"⟩
abbrev cX6_wipe : ByteArray := prog_1_method_3_code
def yX6_wipe : MethodName := ⟨RX6, "wipe", "()I"⟩
abbrev cX6_fault : ByteArray := prog_1_method_4_code
def yX6_fault : MethodName := ⟨RX6, "fault", "()I"⟩
abbrev cX6_lay : ByteArray := prog_1_method_5_code
def yX6_lay : MethodName := ⟨RX6, "lay", "()I"⟩
abbrev cX6_reader : ByteArray := prog_1_method_6_code
def yX6_reader : MethodName := ⟨RX6, "reader", "(II)I"⟩
abbrev cX6_kind : ByteArray := prog_1_method_7_code
def yX6_kind : MethodName := ⟨RX6, "kind", "(I)I"⟩
abbrev cX6_hold : ByteArray := prog_1_method_8_code
def yX6_hold : MethodName := ⟨RX6, "hold", "(IZ)I"⟩
abbrev cX6_seat : ByteArray := prog_1_method_9_code
def yX6_seat : MethodName := ⟨RX6, "seat", "(IIII)I"⟩
abbrev cX6_does : ByteArray := prog_1_method_10_code
def yX6_does : MethodName := ⟨RX6, "does", "(III)I"⟩
abbrev cX6_day : ByteArray := prog_1_method_11_code
def yX6_day : MethodName := ⟨RX6, "day", "(II)I"⟩
abbrev cX6_sat : ByteArray := prog_1_method_12_code
def yX6_sat : MethodName := ⟨RX6, "sat", "(II)I"⟩
abbrev cX6_bettered : ByteArray := prog_1_method_13_code
def yX6_bettered : MethodName := ⟨RX6, "bettered", "()I"⟩
abbrev cX6_rest : ByteArray := prog_1_method_14_code
def yX6_rest : MethodName := ⟨RX6, "rest", "(II)I"⟩
abbrev cX6_rests : ByteArray := prog_1_method_15_code
def yX6_rests : MethodName := ⟨RX6, "rests", "(II)I"⟩
abbrev cX6_rounds : ByteArray := prog_1_method_16_code
def yX6_rounds : MethodName := ⟨RX6, "rounds", "(II)I"⟩
abbrev cX6_often : ByteArray := prog_1_method_17_code
def yX6_often : MethodName := ⟨RX6, "often", "(II)I"⟩
abbrev cX6_porter : ByteArray := prog_1_method_18_code
def yX6_porter : MethodName := ⟨RX6, "porter", "(I)I"⟩
abbrev cX6_card : ByteArray := prog_1_method_19_code
def yX6_card : MethodName := ⟨RX6, "card", "(I)I"⟩
abbrev cX6_booked : ByteArray := prog_1_method_20_code
def yX6_booked : MethodName := ⟨RX6, "booked", "(IIII)J"⟩
abbrev cX6_over : ByteArray := prog_1_method_21_code
def yX6_over : MethodName := ⟨RX6, "over", "(III)I"⟩
abbrev cX6_dare : ByteArray := prog_1_method_22_code
def yX6_dare : MethodName := ⟨RX6, "dare", "(III)I"⟩
abbrev cX6_drawn : ByteArray := prog_1_method_23_code
def yX6_drawn : MethodName := ⟨RX6, "drawn", "(II)I"⟩
abbrev cX6_ten : ByteArray := prog_1_method_24_code
def yX6_ten : MethodName := ⟨RX6, "ten", "(II)I"⟩
abbrev cX6_keep : ByteArray := prog_1_method_25_code
def yX6_keep : MethodName := ⟨RX6, "keep", "()I"⟩
abbrev cX6_back : ByteArray := prog_1_method_26_code
def yX6_back : MethodName := ⟨RX6, "back", "()I"⟩
abbrev cX6_count : ByteArray := prog_1_method_27_code
def yX6_count : MethodName := ⟨RX6, "count", "(I)I"⟩
abbrev cX6_betters : ByteArray := prog_1_method_28_code
def yX6_betters : MethodName := ⟨RX6, "betters", "(II)Z"⟩
abbrev cX6_runWhole : ByteArray := prog_1_method_29_code
def yX6_runWhole : MethodName := ⟨RX6, "runWhole", "(I)V"⟩
abbrev cX6_shutOutByCards : ByteArray := prog_1_method_30_code
def yX6_shutOutByCards : MethodName := ⟨RX6, "shutOutByCards", "(II)I"⟩
abbrev cX6_shutOutByDraw : ByteArray := prog_1_method_31_code
def yX6_shutOutByDraw : MethodName := ⟨RX6, "shutOutByDraw", "(II)I"⟩
abbrev cX6_isReader : ByteArray := prog_1_method_32_code
def yX6_isReader : MethodName := ⟨RX6, "isReader", "(I)Z"⟩
abbrev cX6_isSeat : ByteArray := prog_1_method_33_code
def yX6_isSeat : MethodName := ⟨RX6, "isSeat", "(I)Z"⟩
abbrev cX6_isRule : ByteArray := prog_1_method_34_code
def yX6_isRule : MethodName := ⟨RX6, "isRule", "(I)Z"⟩
abbrev cX6_within : ByteArray := prog_1_method_35_code
def yX6_within : MethodName := ⟨RX6, "within", "(III)Z"⟩
def RX7 : String := "CoatsOnChairsModel"
def TX7 : u_T := fun k => match k with
  | 0 => ("CoatsOnChairsModel", "length", "I", false)
  | 1 => ("CoatsOnChairsModel", "text", "[B", true)
  | 2 => ("CoatsOnChairsModel", "at", "I", false)
  | 3 => ("CoatsOnChairsModel", "seats", "[I", true)
  | 4 => ("CoatsOnChairsModel", "readers", "[I", true)
  | 5 => ("CoatsOnChairsModel", "kind", "[I", true)
  | 6 => ("CoatsOnChairsModel", "reader", "[I", true)
  | 7 => ("CoatsOnChairsModel", "told", "[I", true)
  | 8 => ("CoatsOnChairsModel", "holders", "I", false)
  | 9 => ("CoatsOnChairsModel", "kept", "I", false)
  | 10 => ("CoatsOnChairsModel", "keptHolders", "[I", true)
  | 11 => ("CoatsOnChairsModel", "does", "[I", true)
  | 12 => ("CoatsOnChairsModel", "place", "[I", true)
  | 13 => ("CoatsOnChairsModel", "sat", "[I", true)
  | 14 => ("CoatsOnChairsModel", "since", "[I", true)
  | 15 => ("CoatsOnChairsModel", "went", "[I", true)
  | 16 => ("CoatsOnChairsModel", "held", "[Z", true)
  | 17 => ("CoatsOnChairsModel", "late", "[I", true)
  | 18 => ("CoatsOnChairsModel", "sits", "[I", true)
  | 19 => ("CoatsOnChairsModel", "holds", "[I", true)
  | 20 => ("CoatsOnChairsModel", "used", "I", false)
  | 21 => ("CoatsOnChairsModel", "empty", "I", false)
  | 22 => ("CoatsOnChairsModel", "shut", "I", false)
  | 23 => ("CoatsOnChairsModel", "thrown", "I", false)
  | 24 => ("CoatsOnChairsModel", "seen", "[I", true)
  | 25 => ("CoatsOnChairsModel", "sets", "[I", true)
  | 26 => ("CoatsOnChairsModel", "ruled", "[I", true)
  | 27 => ("CoatsOnChairsModel", "above", "J", false)
  | 28 => ("CoatsOnChairsModel", "below", "J", false)
  | _ => ("CoatsOnChairsModel", "got", "[I", true)
def tyX7 : Nat → FieldType := fun k => match k with
  | 0 => .int
  | 1 => .array .byte
  | 2 => .int
  | 3 => .array .int
  | 4 => .array .int
  | 5 => .array .int
  | 6 => .array .int
  | 7 => .array .int
  | 8 => .int
  | 9 => .int
  | 10 => .array .int
  | 11 => .array .int
  | 12 => .array .int
  | 13 => .array .int
  | 14 => .array .int
  | 15 => .array .int
  | 16 => .array .boolean
  | 17 => .array .int
  | 18 => .array .int
  | 19 => .array .int
  | 20 => .int
  | 21 => .int
  | 22 => .int
  | 23 => .int
  | 24 => .array .int
  | 25 => .array .int
  | 26 => .array .int
  | 27 => .long
  | 28 => .long
  | _ => .array .int
theorem nmX7 : ∀ a, a < 30 → ∀ b, b < 30 → a ≠ b → (TX7 a).2.1 ≠ (TX7 b).2.1 := by decide +kernel
theorem tyX7_ok : ∀ k, k < 30 → parseFieldDescriptor (TX7 k).2.2.1 = some (tyX7 k) := by decide +kernel
abbrev cX7_init : ByteArray := prog_9_method_1_code
def yX7_init : MethodName := ⟨RX7, "<init>", "()V"⟩
abbrev cX7_in : ByteArray := prog_9_method_2_code
def yX7_in : MethodName := ⟨RX7, "in", "(JJJ)Z"⟩
abbrev cX7_write : ByteArray := prog_9_method_3_code
def yX7_write : MethodName := ⟨RX7, "write", "(IJ)I"⟩
abbrev cX7_wipe : ByteArray := prog_9_method_4_code
def yX7_wipe : MethodName := ⟨RX7, "wipe", "()I"⟩
abbrev cX7_number : ByteArray := prog_9_method_5_code
def yX7_number : MethodName := ⟨RX7, "number", "()I"⟩
abbrev cX7_parts : ByteArray := prog_9_method_6_code
def yX7_parts : MethodName := ⟨RX7, "parts", "(I)I"⟩
abbrev cX7_isItem : ByteArray := prog_9_method_7_code
def yX7_isItem : MethodName := ⟨RX7, "isItem", "()Z"⟩
abbrev cX7_isIn : ByteArray := prog_9_method_8_code
def yX7_isIn : MethodName := ⟨RX7, "isIn", "(III)Z"⟩
abbrev cX7_isGood : ByteArray := prog_9_method_9_code
def yX7_isGood : MethodName := ⟨RX7, "isGood", "(I)Z"⟩
abbrev cX7_begins : ByteArray := prog_9_method_10_code
def yX7_begins : MethodName := ⟨RX7, "begins", "()V"⟩
abbrev cX7_takes : ByteArray := prog_9_method_11_code
def yX7_takes : MethodName := ⟨RX7, "takes", "()V"⟩
abbrev cX7_fault : ByteArray := prog_9_method_12_code
def yX7_fault : MethodName := ⟨RX7, "fault", "()I"⟩
abbrev cX7_lay : ByteArray := prog_9_method_13_code
def yX7_lay : MethodName := ⟨RX7, "lay", "()I"⟩
abbrev cX7_isReader : ByteArray := prog_9_method_14_code
def yX7_isReader : MethodName := ⟨RX7, "isReader", "(I)Z"⟩
abbrev cX7_isRule : ByteArray := prog_9_method_15_code
def yX7_isRule : MethodName := ⟨RX7, "isRule", "(I)Z"⟩
abbrev cX7_isMinute : ByteArray := prog_9_method_16_code
def yX7_isMinute : MethodName := ⟨RX7, "isMinute", "(I)Z"⟩
abbrev cX7_of : ByteArray := prog_9_method_17_code
def yX7_of : MethodName := ⟨RX7, "of", "(II)I"⟩
abbrev cX7_reader : ByteArray := prog_9_method_18_code
def yX7_reader : MethodName := ⟨RX7, "reader", "(II)I"⟩
abbrev cX7_kind : ByteArray := prog_9_method_19_code
def yX7_kind : MethodName := ⟨RX7, "kind", "(I)I"⟩
abbrev cX7_hold : ByteArray := prog_9_method_20_code
def yX7_hold : MethodName := ⟨RX7, "hold", "(IZ)I"⟩
abbrev cX7_comesBack : ByteArray := prog_9_method_21_code
def yX7_comesBack : MethodName := ⟨RX7, "comesBack", "(II)V"⟩
abbrev cX7_frees : ByteArray := prog_9_method_22_code
def yX7_frees : MethodName := ⟨RX7, "frees", "(IIII)V"⟩
abbrev cX7_bits : ByteArray := prog_9_method_23_code
def yX7_bits : MethodName := ⟨RX7, "bits", "(I)I"⟩
abbrev cX7_takesSeat : ByteArray := prog_9_method_24_code
def yX7_takesSeat : MethodName := ⟨RX7, "takesSeat", "(III)I"⟩
abbrev cX7_seeks : ByteArray := prog_9_method_25_code
def yX7_seeks : MethodName := ⟨RX7, "seeks", "(III)V"⟩
abbrev cX7_sitsOn : ByteArray := prog_9_method_26_code
def yX7_sitsOn : MethodName := ⟨RX7, "sitsOn", "(IIII)V"⟩
abbrev cX7_minute : ByteArray := prog_9_method_27_code
def yX7_minute : MethodName := ⟨RX7, "minute", "(IIIII)V"⟩
abbrev cX7_goes : ByteArray := prog_9_method_28_code
def yX7_goes : MethodName := ⟨RX7, "goes", "(IIIII)V"⟩
abbrev cX7_run : ByteArray := prog_9_method_29_code
def yX7_run : MethodName := ⟨RX7, "run", "(IIIII)V"⟩
abbrev cX7_whole : ByteArray := prog_9_method_30_code
def yX7_whole : MethodName := ⟨RX7, "whole", "(I)V"⟩
abbrev cX7_seat : ByteArray := prog_9_method_31_code
def yX7_seat : MethodName := ⟨RX7, "seat", "(IIII)I"⟩
abbrev cX7_does : ByteArray := prog_9_method_32_code
def yX7_does : MethodName := ⟨RX7, "does", "(III)I"⟩
abbrev cX7_many : ByteArray := prog_9_method_33_code
def yX7_many : MethodName := ⟨RX7, "many", "(I)I"⟩
abbrev cX7_day : ByteArray := prog_9_method_34_code
def yX7_day : MethodName := ⟨RX7, "day", "(II)I"⟩
abbrev cX7_sat : ByteArray := prog_9_method_35_code
def yX7_sat : MethodName := ⟨RX7, "sat", "(II)I"⟩
abbrev cX7_bettered : ByteArray := prog_9_method_36_code
def yX7_bettered : MethodName := ⟨RX7, "bettered", "()I"⟩
abbrev cX7_rest : ByteArray := prog_9_method_37_code
def yX7_rest : MethodName := ⟨RX7, "rest", "(II)I"⟩
abbrev cX7_rests : ByteArray := prog_9_method_38_code
def yX7_rests : MethodName := ⟨RX7, "rests", "(II)I"⟩
abbrev cX7_counted : ByteArray := prog_9_method_39_code
def yX7_counted : MethodName := ⟨RX7, "counted", "(I)I"⟩
abbrev cX7_rounds : ByteArray := prog_9_method_40_code
def yX7_rounds : MethodName := ⟨RX7, "rounds", "(II)I"⟩
abbrev cX7_often : ByteArray := prog_9_method_41_code
def yX7_often : MethodName := ⟨RX7, "often", "(II)I"⟩
abbrev cX7_porter : ByteArray := prog_9_method_42_code
def yX7_porter : MethodName := ⟨RX7, "porter", "(I)I"⟩
abbrev cX7_card : ByteArray := prog_9_method_43_code
def yX7_card : MethodName := ⟨RX7, "card", "(I)I"⟩
abbrev cX7_power : ByteArray := prog_9_method_44_code
def yX7_power : MethodName := ⟨RX7, "power", "(II)J"⟩
abbrev cX7_come : ByteArray := prog_9_method_45_code
def yX7_come : MethodName := ⟨RX7, "come", "(III)J"⟩
abbrev cX7_lowest : ByteArray := prog_9_method_46_code
def yX7_lowest : MethodName := ⟨RX7, "lowest", "(JJ)V"⟩
abbrev cX7_booked : ByteArray := prog_9_method_47_code
def yX7_booked : MethodName := ⟨RX7, "booked", "(IIII)J"⟩
abbrev cX7_over : ByteArray := prog_9_method_48_code
def yX7_over : MethodName := ⟨RX7, "over", "(III)I"⟩
abbrev cX7_dare : ByteArray := prog_9_method_49_code
def yX7_dare : MethodName := ⟨RX7, "dare", "(III)I"⟩
abbrev cX7_drawnDay : ByteArray := prog_9_method_50_code
def yX7_drawnDay : MethodName := ⟨RX7, "drawnDay", "(II)I"⟩
abbrev cX7_isSeed : ByteArray := prog_9_method_51_code
def yX7_isSeed : MethodName := ⟨RX7, "isSeed", "(I)Z"⟩
abbrev cX7_drawn : ByteArray := prog_9_method_52_code
def yX7_drawn : MethodName := ⟨RX7, "drawn", "(II)I"⟩
abbrev cX7_ten : ByteArray := prog_9_method_53_code
def yX7_ten : MethodName := ⟨RX7, "ten", "(II)I"⟩
abbrev cX7_keep : ByteArray := prog_9_method_54_code
def yX7_keep : MethodName := ⟨RX7, "keep", "()I"⟩
abbrev cX7_back : ByteArray := prog_9_method_55_code
def yX7_back : MethodName := ⟨RX7, "back", "()I"⟩
abbrev cX7_count : ByteArray := prog_9_method_56_code
def yX7_count : MethodName := ⟨RX7, "count", "(I)I"⟩
def RJ6 : String := "java/lang/Integer"
def TJ6 : u_T := fun k => match k with
  | _ => ("", "", "", false)
def tyJ6 : Nat → FieldType := fun k => match k with
  | _ => .int
theorem nmJ6 : ∀ a, a < 0 → ∀ b, b < 0 → a ≠ b → (TJ6 a).2.1 ≠ (TJ6 b).2.1 := by decide +kernel
theorem tyJ6_ok : ∀ k, k < 0 → parseFieldDescriptor (TJ6 k).2.2.1 = some (tyJ6 k) := by decide +kernel
abbrev cJ6_bitCount_0f7a4 : ByteArray := prog_10_method_49_code
def yJ6_bitCount_0f7a4 : MethodName := ⟨RJ6, "bitCount", "(I)I"⟩
def RJ9 : String := "java/lang/Math"
def TJ9 : u_T := fun k => match k with
  | _ => ("", "", "", false)
def tyJ9 : Nat → FieldType := fun k => match k with
  | _ => .int
theorem nmJ9 : ∀ a, a < 0 → ∀ b, b < 0 → a ≠ b → (TJ9 a).2.1 ≠ (TJ9 b).2.1 := by decide +kernel
theorem tyJ9_ok : ∀ k, k < 0 → parseFieldDescriptor (TJ9 k).2.2.1 = some (tyJ9 k) := by decide +kernel
abbrev cJ9_abs_0f7a4 : ByteArray := prog_11_method_59_code
def yJ9_abs_0f7a4 : MethodName := ⟨RJ9, "abs", "(I)I"⟩
abbrev cJ9_min_7cf53 : ByteArray := prog_11_method_69_code
def yJ9_min_7cf53 : MethodName := ⟨RJ9, "min", "(II)I"⟩
def RJ10 : String := "java/lang/System"
def TJ10 : u_T := fun k => match k with
  | _ => ("", "", "", false)
def tyJ10 : Nat → FieldType := fun k => match k with
  | _ => .int
theorem nmJ10 : ∀ a, a < 0 → ∀ b, b < 0 → a ≠ b → (TJ10 a).2.1 ≠ (TJ10 b).2.1 := by decide +kernel
theorem tyJ10_ok : ∀ k, k < 0 → parseFieldDescriptor (TJ10 k).2.2.1 = some (tyJ10 k) := by decide +kernel
def RJ7 : String := "java/util/Arrays"
def TJ7 : u_T := fun k => match k with
  | _ => ("", "", "", false)
def tyJ7 : Nat → FieldType := fun k => match k with
  | _ => .int
theorem nmJ7 : ∀ a, a < 0 → ∀ b, b < 0 → a ≠ b → (TJ7 a).2.1 ≠ (TJ7 b).2.1 := by decide +kernel
theorem tyJ7_ok : ∀ k, k < 0 → parseFieldDescriptor (TJ7 k).2.2.1 = some (tyJ7 k) := by decide +kernel
abbrev cJ7_fill_d0a16 : ByteArray := prog_13_method_101_code
def yJ7_fill_d0a16 : MethodName := ⟨RJ7, "fill", "([JJ)V"⟩
abbrev cJ7_fill_53178 : ByteArray := prog_13_method_103_code
def yJ7_fill_53178 : MethodName := ⟨RJ7, "fill", "([II)V"⟩
def RL : String := "CoatsOnChairsLaw"
abbrev cL_law : ByteArray := code
def yL_law : MethodName := ⟨RL, "law", "([I)Z"⟩
abbrev vwCl : List vw_C := [(RX0, TX0, 20), (RX1, TX1, 5), (RX3, TX3, 9), (RX4, TX4, 3), (RX5, TX5, 2), (RX6, TX6, 12), (RX7, TX7, 30)]
def gT : List Cond := lw_tbl.filter goodWord
theorem gT_lw {args : Array Value} {s : State} (h : ∀ w ∈ lw_tbl, w.before args s = true) : ∀ w ∈ gT, w.before args s = true := fun w hw => h w (List.mem_filter.mp hw).1
theorem gT_mem {w : Cond} (i : Nat) (h : lw_tbl[i]? = some w) (g : goodWord w = true) : w ∈ gT := List.mem_filter.mpr ⟨List.mem_of_getElem? h, g⟩
theorem gT_good {y : MethodName} {b : ByteArray} {n : Nat} {r : Option FieldType} {big : List Cond} (hb : ∀ w ∈ gT, w ∈ big) (h : Cond.code y b n r ∈ gT) : GoodIn big (Cond.code y b n r :: gT) := by
  intro w hw
  rcases List.mem_cons.mp hw with rfl | hw
  · exact ⟨hb _ h, Or.inl rfl⟩
  · exact ⟨hb _ hw, good_of_word (List.mem_filter.mp hw).2⟩
theorem q0 : Cond.selects "CoatsOnChairs$Scan" ⟨"CoatsOnChairs$Scan", "readNumbers", "(I)Z"⟩ ⟨"CoatsOnChairs$Scan", "readNumbers", "(I)Z"⟩ ∈ gT := gT_mem 0 rfl rfl
theorem q1 : Cond.selects "CoatsOnChairs$Scan" ⟨"CoatsOnChairs$Scan", "readFigures", "()I"⟩ ⟨"CoatsOnChairs$Scan", "readFigures", "()I"⟩ ∈ gT := gT_mem 1 rfl rfl
theorem q2 : Cond.selects "CoatsOnChairs$Scan" ⟨"CoatsOnChairs$Scan", "put", "(ILCoatsOnChairs$Room;)Z"⟩ ⟨"CoatsOnChairs$Scan", "put", "(ILCoatsOnChairs$Room;)Z"⟩ ∈ gT := gT_mem 2 rfl rfl
theorem q3 : Cond.selects "CoatsOnChairs" ⟨"CoatsOnChairs", "isReader", "(I)Z"⟩ ⟨"CoatsOnChairs", "isReader", "(I)Z"⟩ ∈ gT := gT_mem 3 rfl rfl
theorem q4 : Cond.selects "CoatsOnChairs" ⟨"CoatsOnChairs", "isSeat", "(I)Z"⟩ ⟨"CoatsOnChairs", "isSeat", "(I)Z"⟩ ∈ gT := gT_mem 4 rfl rfl
theorem q5 : Cond.selects "CoatsOnChairs$Day" ⟨"CoatsOnChairs$Day", "comeBack", "(I)V"⟩ ⟨"CoatsOnChairs$Day", "comeBack", "(I)V"⟩ ∈ gT := gT_mem 5 rfl rfl
theorem q6 : Cond.selects "CoatsOnChairs$Day" ⟨"CoatsOnChairs$Day", "sitDown", "(II)V"⟩ ⟨"CoatsOnChairs$Day", "sitDown", "(II)V"⟩ ∈ gT := gT_mem 6 rfl rfl
theorem q7 : Cond.selects "CoatsOnChairs$Day" ⟨"CoatsOnChairs$Day", "freeHeld", "(I)V"⟩ ⟨"CoatsOnChairs$Day", "freeHeld", "(I)V"⟩ ∈ gT := gT_mem 7 rfl rfl
theorem q8 : Cond.selects "CoatsOnChairs$Day" ⟨"CoatsOnChairs$Day", "offFor", "(II)I"⟩ ⟨"CoatsOnChairs$Day", "offFor", "(II)I"⟩ ∈ gT := gT_mem 8 rfl rfl
theorem q9 : Cond.selects "CoatsOnChairs$Day" ⟨"CoatsOnChairs$Day", "seekSeats", "(I)V"⟩ ⟨"CoatsOnChairs$Day", "seekSeats", "(I)V"⟩ ∈ gT := gT_mem 9 rfl rfl
theorem q10 : Cond.selects "CoatsOnChairs$Day" ⟨"CoatsOnChairs$Day", "freeSeatFor", "(I)I"⟩ ⟨"CoatsOnChairs$Day", "freeSeatFor", "(I)I"⟩ ∈ gT := gT_mem 10 rfl rfl
theorem q11 : Cond.selects "CoatsOnChairs$Day" ⟨"CoatsOnChairs$Day", "daredSeatFor", "(II)I"⟩ ⟨"CoatsOnChairs$Day", "daredSeatFor", "(II)I"⟩ ∈ gT := gT_mem 11 rfl rfl
theorem q12 : Cond.selects "CoatsOnChairs$Day" ⟨"CoatsOnChairs$Day", "sitOn", "(I)V"⟩ ⟨"CoatsOnChairs$Day", "sitOn", "(I)V"⟩ ∈ gT := gT_mem 12 rfl rfl
theorem q13 : Cond.selects "CoatsOnChairs$Day" ⟨"CoatsOnChairs$Day", "countSeats", "(I)V"⟩ ⟨"CoatsOnChairs$Day", "countSeats", "(I)V"⟩ ∈ gT := gT_mem 13 rfl rfl
theorem q14 : Cond.selects "CoatsOnChairs" ⟨"CoatsOnChairs", "runWhole", "(I)V"⟩ ⟨"CoatsOnChairs", "runWhole", "(I)V"⟩ ∈ gT := gT_mem 14 rfl rfl
theorem q15 : Cond.selects "CoatsOnChairs" ⟨"CoatsOnChairs", "betters", "(II)Z"⟩ ⟨"CoatsOnChairs", "betters", "(II)Z"⟩ ∈ gT := gT_mem 15 rfl rfl
theorem q16 : Cond.selects "CoatsOnChairs$Game" ⟨"CoatsOnChairs$Game", "minutesIn", "(II)I"⟩ ⟨"CoatsOnChairs$Game", "minutesIn", "(II)I"⟩ ∈ gT := gT_mem 16 rfl rfl
theorem q17 : Cond.selects "CoatsOnChairs" ⟨"CoatsOnChairs", "shutOutByCards", "(II)I"⟩ ⟨"CoatsOnChairs", "shutOutByCards", "(II)I"⟩ ∈ gT := gT_mem 17 rfl rfl
theorem q18 : Cond.selects "CoatsOnChairs" ⟨"CoatsOnChairs", "shutOutByDraw", "(II)I"⟩ ⟨"CoatsOnChairs", "shutOutByDraw", "(II)I"⟩ ∈ gT := gT_mem 18 rfl rfl
theorem q19 : Cond.selects "CoatsOnChairsModel" ⟨"CoatsOnChairsModel", "begins", "()V"⟩ ⟨"CoatsOnChairsModel", "begins", "()V"⟩ ∈ gT := gT_mem 19 rfl rfl
theorem q20 : Cond.selects "CoatsOnChairsModel" ⟨"CoatsOnChairsModel", "takes", "()V"⟩ ⟨"CoatsOnChairsModel", "takes", "()V"⟩ ∈ gT := gT_mem 20 rfl rfl
theorem q21 : Cond.selects "CoatsOnChairsModel" ⟨"CoatsOnChairsModel", "isItem", "()Z"⟩ ⟨"CoatsOnChairsModel", "isItem", "()Z"⟩ ∈ gT := gT_mem 21 rfl rfl
theorem q22 : Cond.selects "CoatsOnChairsModel" ⟨"CoatsOnChairsModel", "number", "()I"⟩ ⟨"CoatsOnChairsModel", "number", "()I"⟩ ∈ gT := gT_mem 22 rfl rfl
theorem q23 : Cond.selects "CoatsOnChairsModel" ⟨"CoatsOnChairsModel", "isGood", "(I)Z"⟩ ⟨"CoatsOnChairsModel", "isGood", "(I)Z"⟩ ∈ gT := gT_mem 23 rfl rfl
theorem q24 : Cond.selects "CoatsOnChairsModel" ⟨"CoatsOnChairsModel", "isIn", "(III)Z"⟩ ⟨"CoatsOnChairsModel", "isIn", "(III)Z"⟩ ∈ gT := gT_mem 24 rfl rfl
theorem q25 : Cond.selects "CoatsOnChairsModel" ⟨"CoatsOnChairsModel", "isReader", "(I)Z"⟩ ⟨"CoatsOnChairsModel", "isReader", "(I)Z"⟩ ∈ gT := gT_mem 25 rfl rfl
theorem q26 : Cond.selects "CoatsOnChairsModel" ⟨"CoatsOnChairsModel", "of", "(II)I"⟩ ⟨"CoatsOnChairsModel", "of", "(II)I"⟩ ∈ gT := gT_mem 26 rfl rfl
theorem q27 : Cond.selects "CoatsOnChairsModel" ⟨"CoatsOnChairsModel", "goes", "(IIIII)V"⟩ ⟨"CoatsOnChairsModel", "goes", "(IIIII)V"⟩ ∈ gT := gT_mem 27 rfl rfl
theorem q28 : Cond.selects "CoatsOnChairsModel" ⟨"CoatsOnChairsModel", "run", "(IIIII)V"⟩ ⟨"CoatsOnChairsModel", "run", "(IIIII)V"⟩ ∈ gT := gT_mem 28 rfl rfl
theorem q29 : Cond.selects "CoatsOnChairsModel" ⟨"CoatsOnChairsModel", "minute", "(IIIII)V"⟩ ⟨"CoatsOnChairsModel", "minute", "(IIIII)V"⟩ ∈ gT := gT_mem 29 rfl rfl
theorem q30 : Cond.selects "CoatsOnChairsModel" ⟨"CoatsOnChairsModel", "comesBack", "(II)V"⟩ ⟨"CoatsOnChairsModel", "comesBack", "(II)V"⟩ ∈ gT := gT_mem 30 rfl rfl
theorem q31 : Cond.selects "CoatsOnChairsModel" ⟨"CoatsOnChairsModel", "frees", "(IIII)V"⟩ ⟨"CoatsOnChairsModel", "frees", "(IIII)V"⟩ ∈ gT := gT_mem 31 rfl rfl
theorem q32 : Cond.selects "CoatsOnChairsModel" ⟨"CoatsOnChairsModel", "seeks", "(III)V"⟩ ⟨"CoatsOnChairsModel", "seeks", "(III)V"⟩ ∈ gT := gT_mem 32 rfl rfl
theorem q33 : Cond.selects "CoatsOnChairsModel" ⟨"CoatsOnChairsModel", "takesSeat", "(III)I"⟩ ⟨"CoatsOnChairsModel", "takesSeat", "(III)I"⟩ ∈ gT := gT_mem 33 rfl rfl
theorem q34 : Cond.selects "CoatsOnChairsModel" ⟨"CoatsOnChairsModel", "sitsOn", "(IIII)V"⟩ ⟨"CoatsOnChairsModel", "sitsOn", "(IIII)V"⟩ ∈ gT := gT_mem 34 rfl rfl
theorem q35 : Cond.selects "CoatsOnChairsModel" ⟨"CoatsOnChairsModel", "whole", "(I)V"⟩ ⟨"CoatsOnChairsModel", "whole", "(I)V"⟩ ∈ gT := gT_mem 35 rfl rfl
theorem q36 : Cond.selects "CoatsOnChairsModel" ⟨"CoatsOnChairsModel", "counted", "(I)I"⟩ ⟨"CoatsOnChairsModel", "counted", "(I)I"⟩ ∈ gT := gT_mem 36 rfl rfl
theorem q37 : Cond.selects "CoatsOnChairsModel" ⟨"CoatsOnChairsModel", "lowest", "(JJ)V"⟩ ⟨"CoatsOnChairsModel", "lowest", "(JJ)V"⟩ ∈ gT := gT_mem 37 rfl rfl
theorem q38 : Cond.selects "CoatsOnChairsModel" ⟨"CoatsOnChairsModel", "drawnDay", "(II)I"⟩ ⟨"CoatsOnChairsModel", "drawnDay", "(II)I"⟩ ∈ gT := gT_mem 38 rfl rfl
set_option maxRecDepth 100000 in
theorem q39 : (Jvm.Cond.initialized "CoatsOnChairsLaw") ∈ gT := gT_mem 39 rfl rfl
set_option maxRecDepth 100000 in
theorem q40 : (Jvm.Cond.initialized "CoatsOnChairs") ∈ gT := gT_mem 40 rfl rfl
set_option maxRecDepth 100000 in
theorem q41 : (Jvm.Cond.initialized "CoatsOnChairs$Text") ∈ gT := gT_mem 41 rfl rfl
set_option maxRecDepth 100000 in
theorem q42 : (Jvm.Cond.initialized "CoatsOnChairs$Scan") ∈ gT := gT_mem 42 rfl rfl
set_option maxRecDepth 100000 in
theorem q43 : (Jvm.Cond.initialized "CoatsOnChairs$Room") ∈ gT := gT_mem 43 rfl rfl
set_option maxRecDepth 100000 in
theorem q44 : (Jvm.Cond.initialized "java/lang/System") ∈ gT := gT_mem 44 rfl rfl
set_option maxRecDepth 100000 in
theorem q45 : (Jvm.Cond.initialized "CoatsOnChairs$Day") ∈ gT := gT_mem 45 rfl rfl
set_option maxRecDepth 100000 in
theorem q46 : (Jvm.Cond.initialized "CoatsOnChairs$Game") ∈ gT := gT_mem 46 rfl rfl
set_option maxRecDepth 100000 in
theorem q47 : (Jvm.Cond.initialized "CoatsOnChairsModel") ∈ gT := gT_mem 47 rfl rfl
set_option maxRecDepth 100000 in
theorem q48 : (Jvm.Cond.initialized "java/lang/Math") ∈ gT := gT_mem 48 rfl rfl
set_option maxRecDepth 100000 in
theorem q49 : (Jvm.Cond.initialized "java/util/Arrays") ∈ gT := gT_mem 49 rfl rfl
set_option maxRecDepth 100000 in
theorem q50 : (Jvm.Cond.initialized "java/lang/Integer") ∈ gT := gT_mem 50 rfl rfl
set_option maxRecDepth 100000 in
theorem q51 : (Jvm.Cond.initialized "CoatsOnChairs$Odds") ∈ gT := gT_mem 51 rfl rfl
set_option maxRecDepth 100000 in
theorem q52 : (Jvm.Cond.classLink "CoatsOnChairsLaw" (7 : Nat) "CoatsOnChairs") ∈ gT := gT_mem 52 rfl rfl
set_option maxRecDepth 100000 in
theorem q53 : (Jvm.Cond.instantiable "CoatsOnChairs" (12 : Nat)) ∈ gT := gT_mem 53 rfl rfl
set_option maxRecDepth 100000 in
theorem q54 : (Jvm.Cond.methodLink "CoatsOnChairsLaw" (9 : Nat) ({ cls := "CoatsOnChairs", name := "<init>", desc := "()V" } : Jvm.MethodName)) ∈ gT := gT_mem 54 rfl rfl
set_option maxRecDepth 100000 in
theorem q55 : (Jvm.Cond.instanceMethod ({ cls := "CoatsOnChairs", name := "<init>", desc := "()V" } : Jvm.MethodName)) ∈ gT := gT_mem 55 rfl rfl
set_option maxRecDepth 100000 in
theorem q56 : (Jvm.Cond.code ({ cls := "CoatsOnChairs", name := "<init>", desc := "()V" } : Jvm.MethodName) prog_1_method_1_code (1 : Nat) (Option.none : Option Jvm.ClassFile.FieldType)) ∈ gT := gT_mem 56 rfl rfl
set_option maxRecDepth 100000 in
theorem q57 : (Jvm.Cond.methodLink "CoatsOnChairs" (1 : Nat) ({ cls := "java/lang/Object", name := "<init>", desc := "()V" } : Jvm.MethodName)) ∈ gT := gT_mem 57 rfl rfl
set_option maxRecDepth 100000 in
theorem q58 : (Jvm.Cond.instanceMethod ({ cls := "java/lang/Object", name := "<init>", desc := "()V" } : Jvm.MethodName)) ∈ gT := gT_mem 58 rfl rfl
set_option maxRecDepth 100000 in
theorem q59 : (Jvm.Cond.code ({ cls := "java/lang/Object", name := "<init>", desc := "()V" } : Jvm.MethodName) object_method_1_code (1 : Nat) (Option.none : Option Jvm.ClassFile.FieldType)) ∈ gT := gT_mem 59 rfl rfl
set_option maxRecDepth 100000 in
theorem q60 : (Jvm.Cond.classLink "CoatsOnChairs" (7 : Nat) "CoatsOnChairs$Text") ∈ gT := gT_mem 60 rfl rfl
set_option maxRecDepth 100000 in
theorem q61 : (Jvm.Cond.instantiable "CoatsOnChairs$Text" (2 : Nat)) ∈ gT := gT_mem 61 rfl rfl
set_option maxRecDepth 100000 in
theorem q62 : (Jvm.Cond.methodLink "CoatsOnChairs" (9 : Nat) ({ cls := "CoatsOnChairs$Text", name := "<init>", desc := "()V" } : Jvm.MethodName)) ∈ gT := gT_mem 62 rfl rfl
set_option maxRecDepth 100000 in
theorem q63 : (Jvm.Cond.instanceMethod ({ cls := "CoatsOnChairs$Text", name := "<init>", desc := "()V" } : Jvm.MethodName)) ∈ gT := gT_mem 63 rfl rfl
set_option maxRecDepth 100000 in
theorem q64 : (Jvm.Cond.code ({ cls := "CoatsOnChairs$Text", name := "<init>", desc := "()V" } : Jvm.MethodName) prog_7_method_1_code (1 : Nat) (Option.none : Option Jvm.ClassFile.FieldType)) ∈ gT := gT_mem 64 rfl rfl
set_option maxRecDepth 100000 in
theorem q65 : (Jvm.Cond.methodLink "CoatsOnChairs$Text" (3 : Nat) ({ cls := "java/lang/Object", name := "<init>", desc := "()V" } : Jvm.MethodName)) ∈ gT := gT_mem 65 rfl rfl
set_option maxRecDepth 100000 in
theorem q66 : (Jvm.Cond.fieldLink "CoatsOnChairs$Text" (9 : Nat) "CoatsOnChairs$Text" "bytes" "[B") ∈ gT := gT_mem 66 rfl rfl
set_option maxRecDepth 100000 in
theorem q67 : (Jvm.Cond.fieldLink "CoatsOnChairs$Text" (15 : Nat) "CoatsOnChairs$Text" "length" "I") ∈ gT := gT_mem 67 rfl rfl
set_option maxRecDepth 100000 in
theorem q68 : (Jvm.Cond.laysFinal "CoatsOnChairs$Text" "CoatsOnChairs$Text" "bytes" "[B") ∈ gT := gT_mem 68 rfl rfl
set_option maxRecDepth 100000 in
theorem q69 : (Jvm.Cond.soleField "CoatsOnChairs$Text" "bytes") ∈ gT := gT_mem 69 rfl rfl
set_option maxRecDepth 100000 in
theorem q70 : (Jvm.Cond.lays "CoatsOnChairs$Text" "CoatsOnChairs$Text" "length" "I") ∈ gT := gT_mem 70 rfl rfl
set_option maxRecDepth 100000 in
theorem q71 : (Jvm.Cond.soleField "CoatsOnChairs$Text" "length") ∈ gT := gT_mem 71 rfl rfl
set_option maxRecDepth 100000 in
theorem q72 : (Jvm.Cond.superclass "CoatsOnChairs$Text" "java/lang/Object") ∈ gT := gT_mem 72 rfl rfl
set_option maxRecDepth 100000 in
theorem q73 : (Jvm.Cond.arrayClass Jvm.ClassFile.FieldType.byte) ∈ gT := gT_mem 73 rfl rfl
set_option maxRecDepth 100000 in
theorem q74 : (Jvm.Cond.classLink "CoatsOnChairs" (16 : Nat) "CoatsOnChairs$Scan") ∈ gT := gT_mem 74 rfl rfl
set_option maxRecDepth 100000 in
theorem q75 : (Jvm.Cond.instantiable "CoatsOnChairs$Scan" (3 : Nat)) ∈ gT := gT_mem 75 rfl rfl
set_option maxRecDepth 100000 in
theorem q76 : (Jvm.Cond.methodLink "CoatsOnChairs" (18 : Nat) ({ cls := "CoatsOnChairs$Scan", name := "<init>", desc := "(LCoatsOnChairs$Text;)V" } : Jvm.MethodName)) ∈ gT := gT_mem 76 rfl rfl
set_option maxRecDepth 100000 in
theorem q77 : (Jvm.Cond.instanceMethod ({ cls := "CoatsOnChairs$Scan", name := "<init>", desc := "(LCoatsOnChairs$Text;)V" } : Jvm.MethodName)) ∈ gT := gT_mem 77 rfl rfl
set_option maxRecDepth 100000 in
theorem q78 : (Jvm.Cond.code ({ cls := "CoatsOnChairs$Scan", name := "<init>", desc := "(LCoatsOnChairs$Text;)V" } : Jvm.MethodName) prog_6_method_1_code (2 : Nat) (Option.none : Option Jvm.ClassFile.FieldType)) ∈ gT := gT_mem 78 rfl rfl
set_option maxRecDepth 100000 in
theorem q79 : (Jvm.Cond.methodLink "CoatsOnChairs$Scan" (3 : Nat) ({ cls := "java/lang/Object", name := "<init>", desc := "()V" } : Jvm.MethodName)) ∈ gT := gT_mem 79 rfl rfl
set_option maxRecDepth 100000 in
theorem q80 : (Jvm.Cond.fieldLink "CoatsOnChairs$Scan" (9 : Nat) "CoatsOnChairs$Scan" "text" "LCoatsOnChairs$Text;") ∈ gT := gT_mem 80 rfl rfl
set_option maxRecDepth 100000 in
theorem q81 : (Jvm.Cond.fieldLink "CoatsOnChairs$Scan" (15 : Nat) "CoatsOnChairs$Scan" "numbers" "[I") ∈ gT := gT_mem 81 rfl rfl
set_option maxRecDepth 100000 in
theorem q82 : (Jvm.Cond.fieldLink "CoatsOnChairs$Scan" (19 : Nat) "CoatsOnChairs$Scan" "at" "I") ∈ gT := gT_mem 82 rfl rfl
set_option maxRecDepth 100000 in
theorem q83 : (Jvm.Cond.laysFinal "CoatsOnChairs$Scan" "CoatsOnChairs$Scan" "text" "LCoatsOnChairs$Text;") ∈ gT := gT_mem 83 rfl rfl
set_option maxRecDepth 100000 in
theorem q84 : (Jvm.Cond.soleField "CoatsOnChairs$Scan" "text") ∈ gT := gT_mem 84 rfl rfl
set_option maxRecDepth 100000 in
theorem q85 : (Jvm.Cond.laysFinal "CoatsOnChairs$Scan" "CoatsOnChairs$Scan" "numbers" "[I") ∈ gT := gT_mem 85 rfl rfl
set_option maxRecDepth 100000 in
theorem q86 : (Jvm.Cond.soleField "CoatsOnChairs$Scan" "numbers") ∈ gT := gT_mem 86 rfl rfl
set_option maxRecDepth 100000 in
theorem q87 : (Jvm.Cond.lays "CoatsOnChairs$Scan" "CoatsOnChairs$Scan" "at" "I") ∈ gT := gT_mem 87 rfl rfl
set_option maxRecDepth 100000 in
theorem q88 : (Jvm.Cond.soleField "CoatsOnChairs$Scan" "at") ∈ gT := gT_mem 88 rfl rfl
set_option maxRecDepth 100000 in
theorem q89 : (Jvm.Cond.superclass "CoatsOnChairs$Scan" "java/lang/Object") ∈ gT := gT_mem 89 rfl rfl
set_option maxRecDepth 100000 in
theorem q90 : (Jvm.Cond.arrayClass Jvm.ClassFile.FieldType.int) ∈ gT := gT_mem 90 rfl rfl
set_option maxRecDepth 100000 in
theorem q91 : (Jvm.Cond.classLink "CoatsOnChairs" (25 : Nat) "CoatsOnChairs$Room") ∈ gT := gT_mem 91 rfl rfl
set_option maxRecDepth 100000 in
theorem q92 : (Jvm.Cond.instantiable "CoatsOnChairs$Room" (9 : Nat)) ∈ gT := gT_mem 92 rfl rfl
set_option maxRecDepth 100000 in
theorem q93 : (Jvm.Cond.methodLink "CoatsOnChairs" (27 : Nat) ({ cls := "CoatsOnChairs$Room", name := "<init>", desc := "()V" } : Jvm.MethodName)) ∈ gT := gT_mem 93 rfl rfl
set_option maxRecDepth 100000 in
theorem q94 : (Jvm.Cond.instanceMethod ({ cls := "CoatsOnChairs$Room", name := "<init>", desc := "()V" } : Jvm.MethodName)) ∈ gT := gT_mem 94 rfl rfl
set_option maxRecDepth 100000 in
theorem q95 : (Jvm.Cond.code ({ cls := "CoatsOnChairs$Room", name := "<init>", desc := "()V" } : Jvm.MethodName) prog_5_method_1_code (1 : Nat) (Option.none : Option Jvm.ClassFile.FieldType)) ∈ gT := gT_mem 95 rfl rfl
set_option maxRecDepth 100000 in
theorem q96 : (Jvm.Cond.methodLink "CoatsOnChairs$Room" (3 : Nat) ({ cls := "java/lang/Object", name := "<init>", desc := "()V" } : Jvm.MethodName)) ∈ gT := gT_mem 96 rfl rfl
set_option maxRecDepth 100000 in
theorem q97 : (Jvm.Cond.methodLink "CoatsOnChairs$Room" (18 : Nat) ({ cls := "CoatsOnChairs$Room", name := "clear", desc := "()V" } : Jvm.MethodName)) ∈ gT := gT_mem 97 rfl rfl
set_option maxRecDepth 100000 in
theorem q98 : (Jvm.Cond.instanceMethod ({ cls := "CoatsOnChairs$Room", name := "clear", desc := "()V" } : Jvm.MethodName)) ∈ gT := gT_mem 98 rfl rfl
set_option maxRecDepth 100000 in
theorem q99 : (Jvm.Cond.selects "CoatsOnChairs$Room" ({ cls := "CoatsOnChairs$Room", name := "clear", desc := "()V" } : Jvm.MethodName) ({ cls := "CoatsOnChairs$Room", name := "clear", desc := "()V" } : Jvm.MethodName)) ∈ gT := gT_mem 99 rfl rfl
set_option maxRecDepth 100000 in
theorem q100 : (Jvm.Cond.code ({ cls := "CoatsOnChairs$Room", name := "clear", desc := "()V" } : Jvm.MethodName) prog_5_method_2_code (1 : Nat) (Option.none : Option Jvm.ClassFile.FieldType)) ∈ gT := gT_mem 100 rfl rfl
set_option maxRecDepth 100000 in
theorem q101 : (Jvm.Cond.fieldLink "CoatsOnChairs$Room" (9 : Nat) "CoatsOnChairs$Room" "kinds" "[I") ∈ gT := gT_mem 101 rfl rfl
set_option maxRecDepth 100000 in
theorem q102 : (Jvm.Cond.fieldLink "CoatsOnChairs$Room" (15 : Nat) "CoatsOnChairs$Room" "numbers" "[I") ∈ gT := gT_mem 102 rfl rfl
set_option maxRecDepth 100000 in
theorem q103 : (Jvm.Cond.fieldLink "CoatsOnChairs$Room" (21 : Nat) "CoatsOnChairs$Room" "seats" "I") ∈ gT := gT_mem 103 rfl rfl
set_option maxRecDepth 100000 in
theorem q104 : (Jvm.Cond.fieldLink "CoatsOnChairs$Room" (25 : Nat) "CoatsOnChairs$Room" "readers" "I") ∈ gT := gT_mem 104 rfl rfl
set_option maxRecDepth 100000 in
theorem q105 : (Jvm.Cond.fieldLink "CoatsOnChairs$Room" (28 : Nat) "CoatsOnChairs$Room" "cardMinutes" "I") ∈ gT := gT_mem 105 rfl rfl
set_option maxRecDepth 100000 in
theorem q106 : (Jvm.Cond.fieldLink "CoatsOnChairs$Room" (31 : Nat) "CoatsOnChairs$Room" "porterMinutes" "I") ∈ gT := gT_mem 106 rfl rfl
set_option maxRecDepth 100000 in
theorem q107 : (Jvm.Cond.fieldLink "CoatsOnChairs$Room" (34 : Nat) "CoatsOnChairs$Room" "lampMinutes" "I") ∈ gT := gT_mem 107 rfl rfl
set_option maxRecDepth 100000 in
theorem q108 : (Jvm.Cond.fieldLink "CoatsOnChairs$Room" (37 : Nat) "CoatsOnChairs$Room" "seekMinutes" "I") ∈ gT := gT_mem 108 rfl rfl
set_option maxRecDepth 100000 in
theorem q109 : (Jvm.Cond.fieldLink "CoatsOnChairs$Room" (40 : Nat) "CoatsOnChairs$Room" "laterMinutes" "I") ∈ gT := gT_mem 109 rfl rfl
set_option maxRecDepth 100000 in
theorem q110 : (Jvm.Cond.laysFinal "CoatsOnChairs$Room" "CoatsOnChairs$Room" "kinds" "[I") ∈ gT := gT_mem 110 rfl rfl
set_option maxRecDepth 100000 in
theorem q111 : (Jvm.Cond.soleField "CoatsOnChairs$Room" "kinds") ∈ gT := gT_mem 111 rfl rfl
set_option maxRecDepth 100000 in
theorem q112 : (Jvm.Cond.laysFinal "CoatsOnChairs$Room" "CoatsOnChairs$Room" "numbers" "[I") ∈ gT := gT_mem 112 rfl rfl
set_option maxRecDepth 100000 in
theorem q113 : (Jvm.Cond.soleField "CoatsOnChairs$Room" "numbers") ∈ gT := gT_mem 113 rfl rfl
set_option maxRecDepth 100000 in
theorem q114 : (Jvm.Cond.lays "CoatsOnChairs$Room" "CoatsOnChairs$Room" "seats" "I") ∈ gT := gT_mem 114 rfl rfl
set_option maxRecDepth 100000 in
theorem q115 : (Jvm.Cond.soleField "CoatsOnChairs$Room" "seats") ∈ gT := gT_mem 115 rfl rfl
set_option maxRecDepth 100000 in
theorem q116 : (Jvm.Cond.lays "CoatsOnChairs$Room" "CoatsOnChairs$Room" "readers" "I") ∈ gT := gT_mem 116 rfl rfl
set_option maxRecDepth 100000 in
theorem q117 : (Jvm.Cond.soleField "CoatsOnChairs$Room" "readers") ∈ gT := gT_mem 117 rfl rfl
set_option maxRecDepth 100000 in
theorem q118 : (Jvm.Cond.lays "CoatsOnChairs$Room" "CoatsOnChairs$Room" "cardMinutes" "I") ∈ gT := gT_mem 118 rfl rfl
set_option maxRecDepth 100000 in
theorem q119 : (Jvm.Cond.soleField "CoatsOnChairs$Room" "cardMinutes") ∈ gT := gT_mem 119 rfl rfl
set_option maxRecDepth 100000 in
theorem q120 : (Jvm.Cond.lays "CoatsOnChairs$Room" "CoatsOnChairs$Room" "porterMinutes" "I") ∈ gT := gT_mem 120 rfl rfl
set_option maxRecDepth 100000 in
theorem q121 : (Jvm.Cond.soleField "CoatsOnChairs$Room" "porterMinutes") ∈ gT := gT_mem 121 rfl rfl
set_option maxRecDepth 100000 in
theorem q122 : (Jvm.Cond.lays "CoatsOnChairs$Room" "CoatsOnChairs$Room" "lampMinutes" "I") ∈ gT := gT_mem 122 rfl rfl
set_option maxRecDepth 100000 in
theorem q123 : (Jvm.Cond.soleField "CoatsOnChairs$Room" "lampMinutes") ∈ gT := gT_mem 123 rfl rfl
set_option maxRecDepth 100000 in
theorem q124 : (Jvm.Cond.lays "CoatsOnChairs$Room" "CoatsOnChairs$Room" "seekMinutes" "I") ∈ gT := gT_mem 124 rfl rfl
set_option maxRecDepth 100000 in
theorem q125 : (Jvm.Cond.soleField "CoatsOnChairs$Room" "seekMinutes") ∈ gT := gT_mem 125 rfl rfl
set_option maxRecDepth 100000 in
theorem q126 : (Jvm.Cond.lays "CoatsOnChairs$Room" "CoatsOnChairs$Room" "laterMinutes" "I") ∈ gT := gT_mem 126 rfl rfl
set_option maxRecDepth 100000 in
theorem q127 : (Jvm.Cond.soleField "CoatsOnChairs$Room" "laterMinutes") ∈ gT := gT_mem 127 rfl rfl
set_option maxRecDepth 100000 in
theorem q128 : (Jvm.Cond.superclass "CoatsOnChairs$Room" "java/lang/Object") ∈ gT := gT_mem 128 rfl rfl
set_option maxRecDepth 100000 in
theorem q129 : (Jvm.Cond.methodLink "CoatsOnChairs" (32 : Nat) ({ cls := "CoatsOnChairs$Room", name := "addSeat", desc := "(I)Z" } : Jvm.MethodName)) ∈ gT := gT_mem 129 rfl rfl
set_option maxRecDepth 100000 in
theorem q130 : (Jvm.Cond.instanceMethod ({ cls := "CoatsOnChairs$Room", name := "addSeat", desc := "(I)Z" } : Jvm.MethodName)) ∈ gT := gT_mem 130 rfl rfl
set_option maxRecDepth 100000 in
theorem q131 : (Jvm.Cond.selects "CoatsOnChairs$Room" ({ cls := "CoatsOnChairs$Room", name := "addSeat", desc := "(I)Z" } : Jvm.MethodName) ({ cls := "CoatsOnChairs$Room", name := "addSeat", desc := "(I)Z" } : Jvm.MethodName)) ∈ gT := gT_mem 131 rfl rfl
set_option maxRecDepth 100000 in
theorem q132 : (Jvm.Cond.code ({ cls := "CoatsOnChairs$Room", name := "addSeat", desc := "(I)Z" } : Jvm.MethodName) prog_5_method_3_code (2 : Nat) (Option.some Jvm.ClassFile.FieldType.boolean)) ∈ gT := gT_mem 132 rfl rfl
set_option maxRecDepth 100000 in
theorem q133 : (Jvm.Cond.fieldLink "CoatsOnChairs" (36 : Nat) "CoatsOnChairs" "FIRST_READER" "[I") ∈ gT := gT_mem 133 rfl rfl
set_option maxRecDepth 100000 in
theorem q135 : (Jvm.Cond.methodLink "CoatsOnChairs" (40 : Nat) ({ cls := "CoatsOnChairs$Room", name := "addReader", desc := "([I)Z" } : Jvm.MethodName)) ∈ gT := gT_mem 135 rfl rfl
set_option maxRecDepth 100000 in
theorem q136 : (Jvm.Cond.instanceMethod ({ cls := "CoatsOnChairs$Room", name := "addReader", desc := "([I)Z" } : Jvm.MethodName)) ∈ gT := gT_mem 136 rfl rfl
set_option maxRecDepth 100000 in
theorem q137 : (Jvm.Cond.selects "CoatsOnChairs$Room" ({ cls := "CoatsOnChairs$Room", name := "addReader", desc := "([I)Z" } : Jvm.MethodName) ({ cls := "CoatsOnChairs$Room", name := "addReader", desc := "([I)Z" } : Jvm.MethodName)) ∈ gT := gT_mem 137 rfl rfl
set_option maxRecDepth 100000 in
theorem q138 : (Jvm.Cond.code ({ cls := "CoatsOnChairs$Room", name := "addReader", desc := "([I)Z" } : Jvm.MethodName) prog_5_method_4_code (2 : Nat) (Option.some Jvm.ClassFile.FieldType.boolean)) ∈ gT := gT_mem 138 rfl rfl
set_option maxRecDepth 100000 in
theorem q139 : (Jvm.Cond.methodLink "CoatsOnChairs$Room" (43 : Nat) ({ cls := "java/lang/System", name := "arraycopy", desc := "(Ljava/lang/Object;ILjava/lang/Object;II)V" } : Jvm.MethodName)) ∈ gT := gT_mem 139 rfl rfl
set_option maxRecDepth 100000 in
theorem q140 : (Jvm.Cond.static ({ cls := "java/lang/System", name := "arraycopy", desc := "(Ljava/lang/Object;ILjava/lang/Object;II)V" } : Jvm.MethodName)) ∈ gT := gT_mem 140 rfl rfl
set_option maxRecDepth 100000 in
theorem q141 : (Jvm.Cond.native ({ cls := "java/lang/System", name := "arraycopy", desc := "(Ljava/lang/Object;ILjava/lang/Object;II)V" } : Jvm.MethodName)) ∈ gT := gT_mem 141 rfl rfl
set_option maxRecDepth 100000 in
theorem q142 : (Jvm.Cond.classLink "CoatsOnChairs" (47 : Nat) "CoatsOnChairs$Day") ∈ gT := gT_mem 142 rfl rfl
set_option maxRecDepth 100000 in
theorem q143 : (Jvm.Cond.instantiable "CoatsOnChairs$Day" (20 : Nat)) ∈ gT := gT_mem 143 rfl rfl
set_option maxRecDepth 100000 in
theorem q144 : (Jvm.Cond.methodLink "CoatsOnChairs" (49 : Nat) ({ cls := "CoatsOnChairs$Day", name := "<init>", desc := "(LCoatsOnChairs$Room;)V" } : Jvm.MethodName)) ∈ gT := gT_mem 144 rfl rfl
set_option maxRecDepth 100000 in
theorem q145 : (Jvm.Cond.instanceMethod ({ cls := "CoatsOnChairs$Day", name := "<init>", desc := "(LCoatsOnChairs$Room;)V" } : Jvm.MethodName)) ∈ gT := gT_mem 145 rfl rfl
set_option maxRecDepth 100000 in
theorem q146 : (Jvm.Cond.code ({ cls := "CoatsOnChairs$Day", name := "<init>", desc := "(LCoatsOnChairs$Room;)V" } : Jvm.MethodName) prog_2_method_1_code (2 : Nat) (Option.none : Option Jvm.ClassFile.FieldType)) ∈ gT := gT_mem 146 rfl rfl
set_option maxRecDepth 100000 in
theorem q147 : (Jvm.Cond.methodLink "CoatsOnChairs$Day" (3 : Nat) ({ cls := "java/lang/Object", name := "<init>", desc := "()V" } : Jvm.MethodName)) ∈ gT := gT_mem 147 rfl rfl
set_option maxRecDepth 100000 in
theorem q148 : (Jvm.Cond.fieldLink "CoatsOnChairs$Day" (9 : Nat) "CoatsOnChairs$Day" "states" "[I") ∈ gT := gT_mem 148 rfl rfl
set_option maxRecDepth 100000 in
theorem q149 : (Jvm.Cond.fieldLink "CoatsOnChairs$Day" (15 : Nat) "CoatsOnChairs$Day" "places" "[I") ∈ gT := gT_mem 149 rfl rfl
set_option maxRecDepth 100000 in
theorem q150 : (Jvm.Cond.fieldLink "CoatsOnChairs$Day" (18 : Nat) "CoatsOnChairs$Day" "since" "[I") ∈ gT := gT_mem 150 rfl rfl
set_option maxRecDepth 100000 in
theorem q151 : (Jvm.Cond.fieldLink "CoatsOnChairs$Day" (21 : Nat) "CoatsOnChairs$Day" "minutesSat" "[I") ∈ gT := gT_mem 151 rfl rfl
set_option maxRecDepth 100000 in
theorem q152 : (Jvm.Cond.fieldLink "CoatsOnChairs$Day" (24 : Nat) "CoatsOnChairs$Day" "arrivals" "[I") ∈ gT := gT_mem 152 rfl rfl
set_option maxRecDepth 100000 in
theorem q153 : (Jvm.Cond.fieldLink "CoatsOnChairs$Day" (27 : Nat) "CoatsOnChairs$Day" "sitters" "[I") ∈ gT := gT_mem 153 rfl rfl
set_option maxRecDepth 100000 in
theorem q154 : (Jvm.Cond.fieldLink "CoatsOnChairs$Day" (30 : Nat) "CoatsOnChairs$Day" "seatHolders" "[I") ∈ gT := gT_mem 154 rfl rfl
set_option maxRecDepth 100000 in
theorem q155 : (Jvm.Cond.fieldLink "CoatsOnChairs$Day" (33 : Nat) "CoatsOnChairs$Day" "sitting" "[I") ∈ gT := gT_mem 155 rfl rfl
set_option maxRecDepth 100000 in
theorem q156 : (Jvm.Cond.fieldLink "CoatsOnChairs$Day" (36 : Nat) "CoatsOnChairs$Day" "room" "LCoatsOnChairs$Room;") ∈ gT := gT_mem 156 rfl rfl
set_option maxRecDepth 100000 in
theorem q157 : (Jvm.Cond.fieldLink "CoatsOnChairs$Day" (52 : Nat) "CoatsOnChairs$Day" "readers" "I") ∈ gT := gT_mem 157 rfl rfl
set_option maxRecDepth 100000 in
theorem q158 : (Jvm.Cond.fieldLink "CoatsOnChairs$Day" (59 : Nat) "CoatsOnChairs$Day" "seats" "I") ∈ gT := gT_mem 158 rfl rfl
set_option maxRecDepth 100000 in
theorem q159 : (Jvm.Cond.fieldLink "CoatsOnChairs$Day" (62 : Nat) "CoatsOnChairs$Day" "rule" "I") ∈ gT := gT_mem 159 rfl rfl
set_option maxRecDepth 100000 in
theorem q160 : (Jvm.Cond.fieldLink "CoatsOnChairs$Day" (65 : Nat) "CoatsOnChairs$Day" "holders" "I") ∈ gT := gT_mem 160 rfl rfl
set_option maxRecDepth 100000 in
theorem q161 : (Jvm.Cond.fieldLink "CoatsOnChairs$Day" (102 : Nat) "CoatsOnChairs$Day" "cardMinutes" "I") ∈ gT := gT_mem 161 rfl rfl
set_option maxRecDepth 100000 in
theorem q162 : (Jvm.Cond.fieldLink "CoatsOnChairs$Day" (104 : Nat) "CoatsOnChairs$Day" "porterMinutes" "I") ∈ gT := gT_mem 162 rfl rfl
set_option maxRecDepth 100000 in
theorem q163 : (Jvm.Cond.fieldLink "CoatsOnChairs$Day" (87 : Nat) "CoatsOnChairs$Day" "ran" "I") ∈ gT := gT_mem 163 rfl rfl
set_option maxRecDepth 100000 in
theorem q164 : (Jvm.Cond.fieldLink "CoatsOnChairs$Day" (90 : Nat) "CoatsOnChairs$Day" "left" "I") ∈ gT := gT_mem 164 rfl rfl
set_option maxRecDepth 100000 in
theorem q165 : (Jvm.Cond.fieldLink "CoatsOnChairs$Day" (93 : Nat) "CoatsOnChairs$Day" "empty" "I") ∈ gT := gT_mem 165 rfl rfl
set_option maxRecDepth 100000 in
theorem q166 : (Jvm.Cond.fieldLink "CoatsOnChairs$Day" (96 : Nat) "CoatsOnChairs$Day" "shutOut" "I") ∈ gT := gT_mem 166 rfl rfl
set_option maxRecDepth 100000 in
theorem q167 : (Jvm.Cond.fieldLink "CoatsOnChairs$Day" (99 : Nat) "CoatsOnChairs$Day" "thrownOut" "I") ∈ gT := gT_mem 167 rfl rfl
set_option maxRecDepth 100000 in
theorem q168 : (Jvm.Cond.laysFinal "CoatsOnChairs$Day" "CoatsOnChairs$Day" "states" "[I") ∈ gT := gT_mem 168 rfl rfl
set_option maxRecDepth 100000 in
theorem q169 : (Jvm.Cond.soleField "CoatsOnChairs$Day" "states") ∈ gT := gT_mem 169 rfl rfl
set_option maxRecDepth 100000 in
theorem q170 : (Jvm.Cond.laysFinal "CoatsOnChairs$Day" "CoatsOnChairs$Day" "places" "[I") ∈ gT := gT_mem 170 rfl rfl
set_option maxRecDepth 100000 in
theorem q171 : (Jvm.Cond.soleField "CoatsOnChairs$Day" "places") ∈ gT := gT_mem 171 rfl rfl
set_option maxRecDepth 100000 in
theorem q172 : (Jvm.Cond.laysFinal "CoatsOnChairs$Day" "CoatsOnChairs$Day" "since" "[I") ∈ gT := gT_mem 172 rfl rfl
set_option maxRecDepth 100000 in
theorem q173 : (Jvm.Cond.soleField "CoatsOnChairs$Day" "since") ∈ gT := gT_mem 173 rfl rfl
set_option maxRecDepth 100000 in
theorem q174 : (Jvm.Cond.laysFinal "CoatsOnChairs$Day" "CoatsOnChairs$Day" "minutesSat" "[I") ∈ gT := gT_mem 174 rfl rfl
set_option maxRecDepth 100000 in
theorem q175 : (Jvm.Cond.soleField "CoatsOnChairs$Day" "minutesSat") ∈ gT := gT_mem 175 rfl rfl
set_option maxRecDepth 100000 in
theorem q176 : (Jvm.Cond.laysFinal "CoatsOnChairs$Day" "CoatsOnChairs$Day" "arrivals" "[I") ∈ gT := gT_mem 176 rfl rfl
set_option maxRecDepth 100000 in
theorem q177 : (Jvm.Cond.soleField "CoatsOnChairs$Day" "arrivals") ∈ gT := gT_mem 177 rfl rfl
set_option maxRecDepth 100000 in
theorem q178 : (Jvm.Cond.laysFinal "CoatsOnChairs$Day" "CoatsOnChairs$Day" "sitters" "[I") ∈ gT := gT_mem 178 rfl rfl
set_option maxRecDepth 100000 in
theorem q179 : (Jvm.Cond.soleField "CoatsOnChairs$Day" "sitters") ∈ gT := gT_mem 179 rfl rfl
set_option maxRecDepth 100000 in
theorem q180 : (Jvm.Cond.laysFinal "CoatsOnChairs$Day" "CoatsOnChairs$Day" "seatHolders" "[I") ∈ gT := gT_mem 180 rfl rfl
set_option maxRecDepth 100000 in
theorem q181 : (Jvm.Cond.soleField "CoatsOnChairs$Day" "seatHolders") ∈ gT := gT_mem 181 rfl rfl
set_option maxRecDepth 100000 in
theorem q182 : (Jvm.Cond.laysFinal "CoatsOnChairs$Day" "CoatsOnChairs$Day" "sitting" "[I") ∈ gT := gT_mem 182 rfl rfl
set_option maxRecDepth 100000 in
theorem q183 : (Jvm.Cond.soleField "CoatsOnChairs$Day" "sitting") ∈ gT := gT_mem 183 rfl rfl
set_option maxRecDepth 100000 in
theorem q184 : (Jvm.Cond.lays "CoatsOnChairs$Day" "CoatsOnChairs$Day" "room" "LCoatsOnChairs$Room;") ∈ gT := gT_mem 184 rfl rfl
set_option maxRecDepth 100000 in
theorem q185 : (Jvm.Cond.soleField "CoatsOnChairs$Day" "room") ∈ gT := gT_mem 185 rfl rfl
set_option maxRecDepth 100000 in
theorem q186 : (Jvm.Cond.lays "CoatsOnChairs$Day" "CoatsOnChairs$Day" "readers" "I") ∈ gT := gT_mem 186 rfl rfl
set_option maxRecDepth 100000 in
theorem q187 : (Jvm.Cond.soleField "CoatsOnChairs$Day" "readers") ∈ gT := gT_mem 187 rfl rfl
set_option maxRecDepth 100000 in
theorem q188 : (Jvm.Cond.lays "CoatsOnChairs$Day" "CoatsOnChairs$Day" "seats" "I") ∈ gT := gT_mem 188 rfl rfl
set_option maxRecDepth 100000 in
theorem q189 : (Jvm.Cond.soleField "CoatsOnChairs$Day" "seats") ∈ gT := gT_mem 189 rfl rfl
set_option maxRecDepth 100000 in
theorem q190 : (Jvm.Cond.lays "CoatsOnChairs$Day" "CoatsOnChairs$Day" "rule" "I") ∈ gT := gT_mem 190 rfl rfl
set_option maxRecDepth 100000 in
theorem q191 : (Jvm.Cond.soleField "CoatsOnChairs$Day" "rule") ∈ gT := gT_mem 191 rfl rfl
set_option maxRecDepth 100000 in
theorem q192 : (Jvm.Cond.lays "CoatsOnChairs$Day" "CoatsOnChairs$Day" "holders" "I") ∈ gT := gT_mem 192 rfl rfl
set_option maxRecDepth 100000 in
theorem q193 : (Jvm.Cond.soleField "CoatsOnChairs$Day" "holders") ∈ gT := gT_mem 193 rfl rfl
set_option maxRecDepth 100000 in
theorem q194 : (Jvm.Cond.lays "CoatsOnChairs$Day" "CoatsOnChairs$Day" "cardMinutes" "I") ∈ gT := gT_mem 194 rfl rfl
set_option maxRecDepth 100000 in
theorem q195 : (Jvm.Cond.soleField "CoatsOnChairs$Day" "cardMinutes") ∈ gT := gT_mem 195 rfl rfl
set_option maxRecDepth 100000 in
theorem q196 : (Jvm.Cond.lays "CoatsOnChairs$Day" "CoatsOnChairs$Day" "porterMinutes" "I") ∈ gT := gT_mem 196 rfl rfl
set_option maxRecDepth 100000 in
theorem q197 : (Jvm.Cond.soleField "CoatsOnChairs$Day" "porterMinutes") ∈ gT := gT_mem 197 rfl rfl
set_option maxRecDepth 100000 in
theorem q198 : (Jvm.Cond.lays "CoatsOnChairs$Day" "CoatsOnChairs$Day" "ran" "I") ∈ gT := gT_mem 198 rfl rfl
set_option maxRecDepth 100000 in
theorem q199 : (Jvm.Cond.soleField "CoatsOnChairs$Day" "ran") ∈ gT := gT_mem 199 rfl rfl
set_option maxRecDepth 100000 in
theorem q200 : (Jvm.Cond.lays "CoatsOnChairs$Day" "CoatsOnChairs$Day" "left" "I") ∈ gT := gT_mem 200 rfl rfl
set_option maxRecDepth 100000 in
theorem q201 : (Jvm.Cond.soleField "CoatsOnChairs$Day" "left") ∈ gT := gT_mem 201 rfl rfl
set_option maxRecDepth 100000 in
theorem q202 : (Jvm.Cond.lays "CoatsOnChairs$Day" "CoatsOnChairs$Day" "empty" "I") ∈ gT := gT_mem 202 rfl rfl
set_option maxRecDepth 100000 in
theorem q203 : (Jvm.Cond.soleField "CoatsOnChairs$Day" "empty") ∈ gT := gT_mem 203 rfl rfl
set_option maxRecDepth 100000 in
theorem q204 : (Jvm.Cond.lays "CoatsOnChairs$Day" "CoatsOnChairs$Day" "shutOut" "I") ∈ gT := gT_mem 204 rfl rfl
set_option maxRecDepth 100000 in
theorem q205 : (Jvm.Cond.soleField "CoatsOnChairs$Day" "shutOut") ∈ gT := gT_mem 205 rfl rfl
set_option maxRecDepth 100000 in
theorem q206 : (Jvm.Cond.lays "CoatsOnChairs$Day" "CoatsOnChairs$Day" "thrownOut" "I") ∈ gT := gT_mem 206 rfl rfl
set_option maxRecDepth 100000 in
theorem q207 : (Jvm.Cond.soleField "CoatsOnChairs$Day" "thrownOut") ∈ gT := gT_mem 207 rfl rfl
set_option maxRecDepth 100000 in
theorem q208 : (Jvm.Cond.superclass "CoatsOnChairs$Day" "java/lang/Object") ∈ gT := gT_mem 208 rfl rfl
set_option maxRecDepth 100000 in
theorem q209 : (Jvm.Cond.classLink "CoatsOnChairs" (56 : Nat) "CoatsOnChairs$Game") ∈ gT := gT_mem 209 rfl rfl
set_option maxRecDepth 100000 in
theorem q210 : (Jvm.Cond.instantiable "CoatsOnChairs$Game" (5 : Nat)) ∈ gT := gT_mem 210 rfl rfl
set_option maxRecDepth 100000 in
theorem q211 : (Jvm.Cond.methodLink "CoatsOnChairs" (58 : Nat) ({ cls := "CoatsOnChairs$Game", name := "<init>", desc := "(LCoatsOnChairs$Day;LCoatsOnChairs$Room;)V" } : Jvm.MethodName)) ∈ gT := gT_mem 211 rfl rfl
set_option maxRecDepth 100000 in
theorem q212 : (Jvm.Cond.instanceMethod ({ cls := "CoatsOnChairs$Game", name := "<init>", desc := "(LCoatsOnChairs$Day;LCoatsOnChairs$Room;)V" } : Jvm.MethodName)) ∈ gT := gT_mem 212 rfl rfl
set_option maxRecDepth 100000 in
theorem q213 : (Jvm.Cond.code ({ cls := "CoatsOnChairs$Game", name := "<init>", desc := "(LCoatsOnChairs$Day;LCoatsOnChairs$Room;)V" } : Jvm.MethodName) prog_3_method_1_code (3 : Nat) (Option.none : Option Jvm.ClassFile.FieldType)) ∈ gT := gT_mem 213 rfl rfl
set_option maxRecDepth 100000 in
theorem q214 : (Jvm.Cond.methodLink "CoatsOnChairs$Game" (3 : Nat) ({ cls := "java/lang/Object", name := "<init>", desc := "()V" } : Jvm.MethodName)) ∈ gT := gT_mem 214 rfl rfl
set_option maxRecDepth 100000 in
theorem q215 : (Jvm.Cond.fieldLink "CoatsOnChairs$Game" (9 : Nat) "CoatsOnChairs$Game" "day" "LCoatsOnChairs$Day;") ∈ gT := gT_mem 215 rfl rfl
set_option maxRecDepth 100000 in
theorem q216 : (Jvm.Cond.fieldLink "CoatsOnChairs$Game" (15 : Nat) "CoatsOnChairs$Game" "minutes" "[J") ∈ gT := gT_mem 216 rfl rfl
set_option maxRecDepth 100000 in
theorem q217 : (Jvm.Cond.fieldLink "CoatsOnChairs$Game" (19 : Nat) "CoatsOnChairs$Game" "room" "LCoatsOnChairs$Room;") ∈ gT := gT_mem 217 rfl rfl
set_option maxRecDepth 100000 in
theorem q218 : (Jvm.Cond.fieldLink "CoatsOnChairs$Game" (23 : Nat) "CoatsOnChairs$Game" "rule" "I") ∈ gT := gT_mem 218 rfl rfl
set_option maxRecDepth 100000 in
theorem q219 : (Jvm.Cond.fieldLink "CoatsOnChairs$Game" (27 : Nat) "CoatsOnChairs$Game" "mattering" "I") ∈ gT := gT_mem 219 rfl rfl
set_option maxRecDepth 100000 in
theorem q220 : (Jvm.Cond.laysFinal "CoatsOnChairs$Game" "CoatsOnChairs$Game" "day" "LCoatsOnChairs$Day;") ∈ gT := gT_mem 220 rfl rfl
set_option maxRecDepth 100000 in
theorem q221 : (Jvm.Cond.soleField "CoatsOnChairs$Game" "day") ∈ gT := gT_mem 221 rfl rfl
set_option maxRecDepth 100000 in
theorem q222 : (Jvm.Cond.laysFinal "CoatsOnChairs$Game" "CoatsOnChairs$Game" "minutes" "[J") ∈ gT := gT_mem 222 rfl rfl
set_option maxRecDepth 100000 in
theorem q223 : (Jvm.Cond.soleField "CoatsOnChairs$Game" "minutes") ∈ gT := gT_mem 223 rfl rfl
set_option maxRecDepth 100000 in
theorem q224 : (Jvm.Cond.lays "CoatsOnChairs$Game" "CoatsOnChairs$Game" "room" "LCoatsOnChairs$Room;") ∈ gT := gT_mem 224 rfl rfl
set_option maxRecDepth 100000 in
theorem q225 : (Jvm.Cond.soleField "CoatsOnChairs$Game" "room") ∈ gT := gT_mem 225 rfl rfl
set_option maxRecDepth 100000 in
theorem q226 : (Jvm.Cond.lays "CoatsOnChairs$Game" "CoatsOnChairs$Game" "rule" "I") ∈ gT := gT_mem 226 rfl rfl
set_option maxRecDepth 100000 in
theorem q227 : (Jvm.Cond.soleField "CoatsOnChairs$Game" "rule") ∈ gT := gT_mem 227 rfl rfl
set_option maxRecDepth 100000 in
theorem q228 : (Jvm.Cond.lays "CoatsOnChairs$Game" "CoatsOnChairs$Game" "mattering" "I") ∈ gT := gT_mem 228 rfl rfl
set_option maxRecDepth 100000 in
theorem q229 : (Jvm.Cond.soleField "CoatsOnChairs$Game" "mattering") ∈ gT := gT_mem 229 rfl rfl
set_option maxRecDepth 100000 in
theorem q230 : (Jvm.Cond.superclass "CoatsOnChairs$Game" "java/lang/Object") ∈ gT := gT_mem 230 rfl rfl
set_option maxRecDepth 100000 in
theorem q231 : (Jvm.Cond.arrayClass Jvm.ClassFile.FieldType.long) ∈ gT := gT_mem 231 rfl rfl
set_option maxRecDepth 100000 in
theorem q232 : (Jvm.Cond.methodLink "CoatsOnChairs" (81 : Nat) ({ cls := "CoatsOnChairs$Room", name := "everybody", desc := "()I" } : Jvm.MethodName)) ∈ gT := gT_mem 232 rfl rfl
set_option maxRecDepth 100000 in
theorem q233 : (Jvm.Cond.instanceMethod ({ cls := "CoatsOnChairs$Room", name := "everybody", desc := "()I" } : Jvm.MethodName)) ∈ gT := gT_mem 233 rfl rfl
set_option maxRecDepth 100000 in
theorem q234 : (Jvm.Cond.selects "CoatsOnChairs$Room" ({ cls := "CoatsOnChairs$Room", name := "everybody", desc := "()I" } : Jvm.MethodName) ({ cls := "CoatsOnChairs$Room", name := "everybody", desc := "()I" } : Jvm.MethodName)) ∈ gT := gT_mem 234 rfl rfl
set_option maxRecDepth 100000 in
theorem q235 : (Jvm.Cond.code ({ cls := "CoatsOnChairs$Room", name := "everybody", desc := "()I" } : Jvm.MethodName) prog_5_method_16_code (1 : Nat) (Option.some Jvm.ClassFile.FieldType.int)) ∈ gT := gT_mem 235 rfl rfl
set_option maxRecDepth 100000 in
theorem q236 : (Jvm.Cond.fieldLink "CoatsOnChairs" (10 : Nat) "CoatsOnChairs" "text" "LCoatsOnChairs$Text;") ∈ gT := gT_mem 236 rfl rfl
set_option maxRecDepth 100000 in
theorem q237 : (Jvm.Cond.fieldLink "CoatsOnChairs" (21 : Nat) "CoatsOnChairs" "scan" "LCoatsOnChairs$Scan;") ∈ gT := gT_mem 237 rfl rfl
set_option maxRecDepth 100000 in
theorem q238 : (Jvm.Cond.fieldLink "CoatsOnChairs" (52 : Nat) "CoatsOnChairs" "today" "LCoatsOnChairs$Day;") ∈ gT := gT_mem 238 rfl rfl
set_option maxRecDepth 100000 in
theorem q239 : (Jvm.Cond.fieldLink "CoatsOnChairs" (61 : Nat) "CoatsOnChairs" "game" "LCoatsOnChairs$Game;") ∈ gT := gT_mem 239 rfl rfl
set_option maxRecDepth 100000 in
theorem q240 : (Jvm.Cond.fieldLink "CoatsOnChairs" (65 : Nat) "CoatsOnChairs" "usedBy" "[I") ∈ gT := gT_mem 240 rfl rfl
set_option maxRecDepth 100000 in
theorem q241 : (Jvm.Cond.fieldLink "CoatsOnChairs" (68 : Nat) "CoatsOnChairs" "shutOutBy" "[I") ∈ gT := gT_mem 241 rfl rfl
set_option maxRecDepth 100000 in
theorem q242 : (Jvm.Cond.fieldLink "CoatsOnChairs" (71 : Nat) "CoatsOnChairs" "thrownOutBy" "[I") ∈ gT := gT_mem 242 rfl rfl
set_option maxRecDepth 100000 in
theorem q243 : (Jvm.Cond.fieldLink "CoatsOnChairs" (74 : Nat) "CoatsOnChairs" "kept" "[I") ∈ gT := gT_mem 243 rfl rfl
set_option maxRecDepth 100000 in
theorem q244 : (Jvm.Cond.fieldLink "CoatsOnChairs" (77 : Nat) "CoatsOnChairs" "keptCount" "I") ∈ gT := gT_mem 244 rfl rfl
set_option maxRecDepth 100000 in
theorem q245 : (Jvm.Cond.fieldLink "CoatsOnChairs" (85 : Nat) "CoatsOnChairs" "holders" "I") ∈ gT := gT_mem 245 rfl rfl
set_option maxRecDepth 100000 in
theorem q246 : (Jvm.Cond.fieldLink "CoatsOnChairs" (28 : Nat) "CoatsOnChairs" "laid" "LCoatsOnChairs$Room;") ∈ gT := gT_mem 246 rfl rfl
set_option maxRecDepth 100000 in
theorem q247 : (Jvm.Cond.fieldLink "CoatsOnChairs" (44 : Nat) "CoatsOnChairs" "draft" "LCoatsOnChairs$Room;") ∈ gT := gT_mem 247 rfl rfl
set_option maxRecDepth 100000 in
theorem q248 : (Jvm.Cond.laysFinal "CoatsOnChairs" "CoatsOnChairs" "text" "LCoatsOnChairs$Text;") ∈ gT := gT_mem 248 rfl rfl
set_option maxRecDepth 100000 in
theorem q249 : (Jvm.Cond.soleField "CoatsOnChairs" "text") ∈ gT := gT_mem 249 rfl rfl
set_option maxRecDepth 100000 in
theorem q250 : (Jvm.Cond.laysFinal "CoatsOnChairs" "CoatsOnChairs" "scan" "LCoatsOnChairs$Scan;") ∈ gT := gT_mem 250 rfl rfl
set_option maxRecDepth 100000 in
theorem q251 : (Jvm.Cond.soleField "CoatsOnChairs" "scan") ∈ gT := gT_mem 251 rfl rfl
set_option maxRecDepth 100000 in
theorem q252 : (Jvm.Cond.laysFinal "CoatsOnChairs" "CoatsOnChairs" "today" "LCoatsOnChairs$Day;") ∈ gT := gT_mem 252 rfl rfl
set_option maxRecDepth 100000 in
theorem q253 : (Jvm.Cond.soleField "CoatsOnChairs" "today") ∈ gT := gT_mem 253 rfl rfl
set_option maxRecDepth 100000 in
theorem q254 : (Jvm.Cond.laysFinal "CoatsOnChairs" "CoatsOnChairs" "game" "LCoatsOnChairs$Game;") ∈ gT := gT_mem 254 rfl rfl
set_option maxRecDepth 100000 in
theorem q255 : (Jvm.Cond.soleField "CoatsOnChairs" "game") ∈ gT := gT_mem 255 rfl rfl
set_option maxRecDepth 100000 in
theorem q256 : (Jvm.Cond.laysFinal "CoatsOnChairs" "CoatsOnChairs" "usedBy" "[I") ∈ gT := gT_mem 256 rfl rfl
set_option maxRecDepth 100000 in
theorem q257 : (Jvm.Cond.soleField "CoatsOnChairs" "usedBy") ∈ gT := gT_mem 257 rfl rfl
set_option maxRecDepth 100000 in
theorem q258 : (Jvm.Cond.laysFinal "CoatsOnChairs" "CoatsOnChairs" "shutOutBy" "[I") ∈ gT := gT_mem 258 rfl rfl
set_option maxRecDepth 100000 in
theorem q259 : (Jvm.Cond.soleField "CoatsOnChairs" "shutOutBy") ∈ gT := gT_mem 259 rfl rfl
set_option maxRecDepth 100000 in
theorem q260 : (Jvm.Cond.laysFinal "CoatsOnChairs" "CoatsOnChairs" "thrownOutBy" "[I") ∈ gT := gT_mem 260 rfl rfl
set_option maxRecDepth 100000 in
theorem q261 : (Jvm.Cond.soleField "CoatsOnChairs" "thrownOutBy") ∈ gT := gT_mem 261 rfl rfl
set_option maxRecDepth 100000 in
theorem q262 : (Jvm.Cond.laysFinal "CoatsOnChairs" "CoatsOnChairs" "kept" "[I") ∈ gT := gT_mem 262 rfl rfl
set_option maxRecDepth 100000 in
theorem q263 : (Jvm.Cond.soleField "CoatsOnChairs" "kept") ∈ gT := gT_mem 263 rfl rfl
set_option maxRecDepth 100000 in
theorem q264 : (Jvm.Cond.lays "CoatsOnChairs" "CoatsOnChairs" "keptCount" "I") ∈ gT := gT_mem 264 rfl rfl
set_option maxRecDepth 100000 in
theorem q265 : (Jvm.Cond.soleField "CoatsOnChairs" "keptCount") ∈ gT := gT_mem 265 rfl rfl
set_option maxRecDepth 100000 in
theorem q266 : (Jvm.Cond.lays "CoatsOnChairs" "CoatsOnChairs" "holders" "I") ∈ gT := gT_mem 266 rfl rfl
set_option maxRecDepth 100000 in
theorem q267 : (Jvm.Cond.soleField "CoatsOnChairs" "holders") ∈ gT := gT_mem 267 rfl rfl
set_option maxRecDepth 100000 in
theorem q268 : (Jvm.Cond.lays "CoatsOnChairs" "CoatsOnChairs" "laid" "LCoatsOnChairs$Room;") ∈ gT := gT_mem 268 rfl rfl
set_option maxRecDepth 100000 in
theorem q269 : (Jvm.Cond.soleField "CoatsOnChairs" "laid") ∈ gT := gT_mem 269 rfl rfl
set_option maxRecDepth 100000 in
theorem q270 : (Jvm.Cond.lays "CoatsOnChairs" "CoatsOnChairs" "draft" "LCoatsOnChairs$Room;") ∈ gT := gT_mem 270 rfl rfl
set_option maxRecDepth 100000 in
theorem q271 : (Jvm.Cond.soleField "CoatsOnChairs" "draft") ∈ gT := gT_mem 271 rfl rfl
set_option maxRecDepth 100000 in
theorem q272 : (Jvm.Cond.superclass "CoatsOnChairs" "java/lang/Object") ∈ gT := gT_mem 272 rfl rfl
set_option maxRecDepth 100000 in
theorem q273 : (Jvm.Cond.methodLink "CoatsOnChairsLaw" (15 : Nat) ({ cls := "CoatsOnChairs", name := "write", desc := "(IJ)I" } : Jvm.MethodName)) ∈ gT := gT_mem 273 rfl rfl
set_option maxRecDepth 100000 in
theorem q274 : (Jvm.Cond.instanceMethod ({ cls := "CoatsOnChairs", name := "write", desc := "(IJ)I" } : Jvm.MethodName)) ∈ gT := gT_mem 274 rfl rfl
set_option maxRecDepth 100000 in
theorem q275 : (Jvm.Cond.selects "CoatsOnChairs" ({ cls := "CoatsOnChairs", name := "write", desc := "(IJ)I" } : Jvm.MethodName) ({ cls := "CoatsOnChairs", name := "write", desc := "(IJ)I" } : Jvm.MethodName)) ∈ gT := gT_mem 275 rfl rfl
set_option maxRecDepth 100000 in
theorem q276 : (Jvm.Cond.code ({ cls := "CoatsOnChairs", name := "write", desc := "(IJ)I" } : Jvm.MethodName) prog_1_method_2_code (4 : Nat) (Option.some Jvm.ClassFile.FieldType.int)) ∈ gT := gT_mem 276 rfl rfl
set_option maxRecDepth 100000 in
theorem q277 : (Jvm.Cond.methodLink "CoatsOnChairs" (88 : Nat) ({ cls := "CoatsOnChairs", name := "within", desc := "(III)Z" } : Jvm.MethodName)) ∈ gT := gT_mem 277 rfl rfl
set_option maxRecDepth 100000 in
theorem q278 : (Jvm.Cond.static ({ cls := "CoatsOnChairs", name := "within", desc := "(III)Z" } : Jvm.MethodName)) ∈ gT := gT_mem 278 rfl rfl
set_option maxRecDepth 100000 in
theorem q279 : (Jvm.Cond.code ({ cls := "CoatsOnChairs", name := "within", desc := "(III)Z" } : Jvm.MethodName) prog_1_method_35_code (3 : Nat) (Option.some Jvm.ClassFile.FieldType.boolean)) ∈ gT := gT_mem 279 rfl rfl
set_option maxRecDepth 100000 in
theorem q280 : (Jvm.Cond.methodLink "CoatsOnChairs" (92 : Nat) ({ cls := "CoatsOnChairs$Text", name := "append", desc := "(IJ)Z" } : Jvm.MethodName)) ∈ gT := gT_mem 280 rfl rfl
set_option maxRecDepth 100000 in
theorem q281 : (Jvm.Cond.instanceMethod ({ cls := "CoatsOnChairs$Text", name := "append", desc := "(IJ)Z" } : Jvm.MethodName)) ∈ gT := gT_mem 281 rfl rfl
set_option maxRecDepth 100000 in
theorem q282 : (Jvm.Cond.selects "CoatsOnChairs$Text" ({ cls := "CoatsOnChairs$Text", name := "append", desc := "(IJ)Z" } : Jvm.MethodName) ({ cls := "CoatsOnChairs$Text", name := "append", desc := "(IJ)Z" } : Jvm.MethodName)) ∈ gT := gT_mem 282 rfl rfl
set_option maxRecDepth 100000 in
theorem q283 : (Jvm.Cond.code ({ cls := "CoatsOnChairs$Text", name := "append", desc := "(IJ)Z" } : Jvm.MethodName) prog_7_method_4_code (5 : Nat) (Option.some Jvm.ClassFile.FieldType.boolean)) ∈ gT := gT_mem 283 rfl rfl
set_option maxRecDepth 100000 in
theorem q284 : (Jvm.Cond.methodLink "CoatsOnChairs" (96 : Nat) ({ cls := "CoatsOnChairs$Text", name := "length", desc := "()I" } : Jvm.MethodName)) ∈ gT := gT_mem 284 rfl rfl
set_option maxRecDepth 100000 in
theorem q285 : (Jvm.Cond.instanceMethod ({ cls := "CoatsOnChairs$Text", name := "length", desc := "()I" } : Jvm.MethodName)) ∈ gT := gT_mem 285 rfl rfl
set_option maxRecDepth 100000 in
theorem q286 : (Jvm.Cond.selects "CoatsOnChairs$Text" ({ cls := "CoatsOnChairs$Text", name := "length", desc := "()I" } : Jvm.MethodName) ({ cls := "CoatsOnChairs$Text", name := "length", desc := "()I" } : Jvm.MethodName)) ∈ gT := gT_mem 286 rfl rfl
set_option maxRecDepth 100000 in
theorem q287 : (Jvm.Cond.code ({ cls := "CoatsOnChairs$Text", name := "length", desc := "()I" } : Jvm.MethodName) prog_7_method_2_code (1 : Nat) (Option.some Jvm.ClassFile.FieldType.int)) ∈ gT := gT_mem 287 rfl rfl
set_option maxRecDepth 100000 in
theorem q288 : (Jvm.Cond.methodLink "CoatsOnChairsLaw" (20 : Nat) ({ cls := "CoatsOnChairs", name := "wipe", desc := "()I" } : Jvm.MethodName)) ∈ gT := gT_mem 288 rfl rfl
set_option maxRecDepth 100000 in
theorem q289 : (Jvm.Cond.instanceMethod ({ cls := "CoatsOnChairs", name := "wipe", desc := "()I" } : Jvm.MethodName)) ∈ gT := gT_mem 289 rfl rfl
set_option maxRecDepth 100000 in
theorem q290 : (Jvm.Cond.selects "CoatsOnChairs" ({ cls := "CoatsOnChairs", name := "wipe", desc := "()I" } : Jvm.MethodName) ({ cls := "CoatsOnChairs", name := "wipe", desc := "()I" } : Jvm.MethodName)) ∈ gT := gT_mem 290 rfl rfl
set_option maxRecDepth 100000 in
theorem q291 : (Jvm.Cond.code ({ cls := "CoatsOnChairs", name := "wipe", desc := "()I" } : Jvm.MethodName) prog_1_method_3_code (2 : Nat) (Option.some Jvm.ClassFile.FieldType.int)) ∈ gT := gT_mem 291 rfl rfl
set_option maxRecDepth 100000 in
theorem q292 : (Jvm.Cond.methodLink "CoatsOnChairs" (99 : Nat) ({ cls := "CoatsOnChairs$Text", name := "clear", desc := "()V" } : Jvm.MethodName)) ∈ gT := gT_mem 292 rfl rfl
set_option maxRecDepth 100000 in
theorem q293 : (Jvm.Cond.instanceMethod ({ cls := "CoatsOnChairs$Text", name := "clear", desc := "()V" } : Jvm.MethodName)) ∈ gT := gT_mem 293 rfl rfl
set_option maxRecDepth 100000 in
theorem q294 : (Jvm.Cond.selects "CoatsOnChairs$Text" ({ cls := "CoatsOnChairs$Text", name := "clear", desc := "()V" } : Jvm.MethodName) ({ cls := "CoatsOnChairs$Text", name := "clear", desc := "()V" } : Jvm.MethodName)) ∈ gT := gT_mem 294 rfl rfl
set_option maxRecDepth 100000 in
theorem q295 : (Jvm.Cond.code ({ cls := "CoatsOnChairs$Text", name := "clear", desc := "()V" } : Jvm.MethodName) prog_7_method_3_code (1 : Nat) (Option.none : Option Jvm.ClassFile.FieldType)) ∈ gT := gT_mem 295 rfl rfl
set_option maxRecDepth 100000 in
theorem q296 : (Jvm.Cond.methodLink "CoatsOnChairsLaw" (25 : Nat) ({ cls := "CoatsOnChairs", name := "fault", desc := "()I" } : Jvm.MethodName)) ∈ gT := gT_mem 296 rfl rfl
set_option maxRecDepth 100000 in
theorem q297 : (Jvm.Cond.instanceMethod ({ cls := "CoatsOnChairs", name := "fault", desc := "()I" } : Jvm.MethodName)) ∈ gT := gT_mem 297 rfl rfl
set_option maxRecDepth 100000 in
theorem q298 : (Jvm.Cond.selects "CoatsOnChairs" ({ cls := "CoatsOnChairs", name := "fault", desc := "()I" } : Jvm.MethodName) ({ cls := "CoatsOnChairs", name := "fault", desc := "()I" } : Jvm.MethodName)) ∈ gT := gT_mem 298 rfl rfl
set_option maxRecDepth 100000 in
theorem q299 : (Jvm.Cond.code ({ cls := "CoatsOnChairs", name := "fault", desc := "()I" } : Jvm.MethodName) prog_1_method_4_code (1 : Nat) (Option.some Jvm.ClassFile.FieldType.int)) ∈ gT := gT_mem 299 rfl rfl
set_option maxRecDepth 100000 in
theorem q300 : (Jvm.Cond.methodLink "CoatsOnChairs" (102 : Nat) ({ cls := "CoatsOnChairs$Scan", name := "readInto", desc := "(LCoatsOnChairs$Room;)I" } : Jvm.MethodName)) ∈ gT := gT_mem 300 rfl rfl
set_option maxRecDepth 100000 in
theorem q301 : (Jvm.Cond.instanceMethod ({ cls := "CoatsOnChairs$Scan", name := "readInto", desc := "(LCoatsOnChairs$Room;)I" } : Jvm.MethodName)) ∈ gT := gT_mem 301 rfl rfl
set_option maxRecDepth 100000 in
theorem q302 : (Jvm.Cond.selects "CoatsOnChairs$Scan" ({ cls := "CoatsOnChairs$Scan", name := "readInto", desc := "(LCoatsOnChairs$Room;)I" } : Jvm.MethodName) ({ cls := "CoatsOnChairs$Scan", name := "readInto", desc := "(LCoatsOnChairs$Room;)I" } : Jvm.MethodName)) ∈ gT := gT_mem 302 rfl rfl
set_option maxRecDepth 100000 in
theorem q303 : (Jvm.Cond.code ({ cls := "CoatsOnChairs$Scan", name := "readInto", desc := "(LCoatsOnChairs$Room;)I" } : Jvm.MethodName) prog_6_method_2_code (5 : Nat) (Option.some Jvm.ClassFile.FieldType.int)) ∈ gT := gT_mem 303 rfl rfl
set_option maxRecDepth 100000 in
theorem q304 : (Jvm.Cond.methodLink "CoatsOnChairs$Scan" (23 : Nat) ({ cls := "CoatsOnChairs$Room", name := "clear", desc := "()V" } : Jvm.MethodName)) ∈ gT := gT_mem 304 rfl rfl
set_option maxRecDepth 100000 in
theorem q305 : (Jvm.Cond.methodLink "CoatsOnChairs$Scan" (28 : Nat) ({ cls := "CoatsOnChairs$Text", name := "length", desc := "()I" } : Jvm.MethodName)) ∈ gT := gT_mem 305 rfl rfl
set_option maxRecDepth 100000 in
theorem q306 : (Jvm.Cond.methodLink "CoatsOnChairs$Scan" (34 : Nat) ({ cls := "CoatsOnChairs$Text", name := "byteAt", desc := "(I)I" } : Jvm.MethodName)) ∈ gT := gT_mem 306 rfl rfl
set_option maxRecDepth 100000 in
theorem q307 : (Jvm.Cond.instanceMethod ({ cls := "CoatsOnChairs$Text", name := "byteAt", desc := "(I)I" } : Jvm.MethodName)) ∈ gT := gT_mem 307 rfl rfl
set_option maxRecDepth 100000 in
theorem q308 : (Jvm.Cond.selects "CoatsOnChairs$Text" ({ cls := "CoatsOnChairs$Text", name := "byteAt", desc := "(I)I" } : Jvm.MethodName) ({ cls := "CoatsOnChairs$Text", name := "byteAt", desc := "(I)I" } : Jvm.MethodName)) ∈ gT := gT_mem 308 rfl rfl
set_option maxRecDepth 100000 in
theorem q309 : (Jvm.Cond.code ({ cls := "CoatsOnChairs$Text", name := "byteAt", desc := "(I)I" } : Jvm.MethodName) prog_7_method_5_code (2 : Nat) (Option.some Jvm.ClassFile.FieldType.int)) ∈ gT := gT_mem 309 rfl rfl
set_option maxRecDepth 100000 in
theorem q310 : (Jvm.Cond.methodLink "CoatsOnChairs$Scan" (38 : Nat) ({ cls := "CoatsOnChairs$Scan", name := "itemOf", desc := "(I)I" } : Jvm.MethodName)) ∈ gT := gT_mem 310 rfl rfl
set_option maxRecDepth 100000 in
theorem q311 : (Jvm.Cond.static ({ cls := "CoatsOnChairs$Scan", name := "itemOf", desc := "(I)I" } : Jvm.MethodName)) ∈ gT := gT_mem 311 rfl rfl
set_option maxRecDepth 100000 in
theorem q312 : (Jvm.Cond.code ({ cls := "CoatsOnChairs$Scan", name := "itemOf", desc := "(I)I" } : Jvm.MethodName) prog_6_method_3_code (1 : Nat) (Option.some Jvm.ClassFile.FieldType.int)) ∈ gT := gT_mem 312 rfl rfl
set_option maxRecDepth 100000 in
theorem q313 : (Jvm.Cond.methodLink "CoatsOnChairs$Scan" (41 : Nat) ({ cls := "CoatsOnChairs$Scan", name := "readNumbers", desc := "(I)Z" } : Jvm.MethodName)) ∈ gT := gT_mem 313 rfl rfl
set_option maxRecDepth 100000 in
theorem q315 : (Jvm.Cond.instanceMethod ({ cls := "CoatsOnChairs$Scan", name := "readNumbers", desc := "(I)Z" } : Jvm.MethodName)) ∈ gT := gT_mem 315 rfl rfl
set_option maxRecDepth 100000 in
theorem q316 : (Jvm.Cond.code ({ cls := "CoatsOnChairs$Scan", name := "readNumbers", desc := "(I)Z" } : Jvm.MethodName) prog_6_method_4_code (6 : Nat) (Option.some Jvm.ClassFile.FieldType.boolean)) ∈ gT := gT_mem 316 rfl rfl
set_option maxRecDepth 100000 in
theorem q317 : (Jvm.Cond.fieldLink "CoatsOnChairs$Scan" (49 : Nat) "CoatsOnChairs$Scan" "FIRST" "[I") ∈ gT := gT_mem 317 rfl rfl
set_option maxRecDepth 100000 in
theorem q319 : (Jvm.Cond.methodLink "CoatsOnChairs$Scan" (52 : Nat) ({ cls := "CoatsOnChairs$Scan", name := "readFigures", desc := "()I" } : Jvm.MethodName)) ∈ gT := gT_mem 319 rfl rfl
set_option maxRecDepth 100000 in
theorem q321 : (Jvm.Cond.instanceMethod ({ cls := "CoatsOnChairs$Scan", name := "readFigures", desc := "()I" } : Jvm.MethodName)) ∈ gT := gT_mem 321 rfl rfl
set_option maxRecDepth 100000 in
theorem q322 : (Jvm.Cond.code ({ cls := "CoatsOnChairs$Scan", name := "readFigures", desc := "()I" } : Jvm.MethodName) prog_6_method_5_code (4 : Nat) (Option.some Jvm.ClassFile.FieldType.int)) ∈ gT := gT_mem 322 rfl rfl
set_option maxRecDepth 100000 in
theorem q323 : (Jvm.Cond.fieldLink "CoatsOnChairs$Scan" (55 : Nat) "CoatsOnChairs$Scan" "LEAST" "[I") ∈ gT := gT_mem 323 rfl rfl
set_option maxRecDepth 100000 in
theorem q325 : (Jvm.Cond.fieldLink "CoatsOnChairs$Scan" (58 : Nat) "CoatsOnChairs$Scan" "MOST" "[I") ∈ gT := gT_mem 325 rfl rfl
set_option maxRecDepth 100000 in
theorem q327 : (Jvm.Cond.methodLink "CoatsOnChairs$Scan" (45 : Nat) ({ cls := "CoatsOnChairs$Scan", name := "put", desc := "(ILCoatsOnChairs$Room;)Z" } : Jvm.MethodName)) ∈ gT := gT_mem 327 rfl rfl
set_option maxRecDepth 100000 in
theorem q329 : (Jvm.Cond.instanceMethod ({ cls := "CoatsOnChairs$Scan", name := "put", desc := "(ILCoatsOnChairs$Room;)Z" } : Jvm.MethodName)) ∈ gT := gT_mem 329 rfl rfl
set_option maxRecDepth 100000 in
theorem q330 : (Jvm.Cond.code ({ cls := "CoatsOnChairs$Scan", name := "put", desc := "(ILCoatsOnChairs$Room;)Z" } : Jvm.MethodName) prog_6_method_6_code (3 : Nat) (Option.some Jvm.ClassFile.FieldType.boolean)) ∈ gT := gT_mem 330 rfl rfl
set_option maxRecDepth 100000 in
theorem q331 : (Jvm.Cond.methodLink "CoatsOnChairs$Scan" (61 : Nat) ({ cls := "CoatsOnChairs$Room", name := "addSeat", desc := "(I)Z" } : Jvm.MethodName)) ∈ gT := gT_mem 331 rfl rfl
set_option maxRecDepth 100000 in
theorem q332 : (Jvm.Cond.methodLink "CoatsOnChairs$Scan" (64 : Nat) ({ cls := "CoatsOnChairs$Room", name := "addReader", desc := "([I)Z" } : Jvm.MethodName)) ∈ gT := gT_mem 332 rfl rfl
set_option maxRecDepth 100000 in
theorem q333 : (Jvm.Cond.methodLink "CoatsOnChairs$Scan" (68 : Nat) ({ cls := "CoatsOnChairs$Room", name := "setCards", desc := "(II)Z" } : Jvm.MethodName)) ∈ gT := gT_mem 333 rfl rfl
set_option maxRecDepth 100000 in
theorem q334 : (Jvm.Cond.instanceMethod ({ cls := "CoatsOnChairs$Room", name := "setCards", desc := "(II)Z" } : Jvm.MethodName)) ∈ gT := gT_mem 334 rfl rfl
set_option maxRecDepth 100000 in
theorem q335 : (Jvm.Cond.selects "CoatsOnChairs$Room" ({ cls := "CoatsOnChairs$Room", name := "setCards", desc := "(II)Z" } : Jvm.MethodName) ({ cls := "CoatsOnChairs$Room", name := "setCards", desc := "(II)Z" } : Jvm.MethodName)) ∈ gT := gT_mem 335 rfl rfl
set_option maxRecDepth 100000 in
theorem q336 : (Jvm.Cond.code ({ cls := "CoatsOnChairs$Room", name := "setCards", desc := "(II)Z" } : Jvm.MethodName) prog_5_method_5_code (3 : Nat) (Option.some Jvm.ClassFile.FieldType.boolean)) ∈ gT := gT_mem 336 rfl rfl
set_option maxRecDepth 100000 in
theorem q337 : (Jvm.Cond.methodLink "CoatsOnChairs$Scan" (72 : Nat) ({ cls := "CoatsOnChairs$Room", name := "setLamps", desc := "(I)Z" } : Jvm.MethodName)) ∈ gT := gT_mem 337 rfl rfl
set_option maxRecDepth 100000 in
theorem q338 : (Jvm.Cond.instanceMethod ({ cls := "CoatsOnChairs$Room", name := "setLamps", desc := "(I)Z" } : Jvm.MethodName)) ∈ gT := gT_mem 338 rfl rfl
set_option maxRecDepth 100000 in
theorem q339 : (Jvm.Cond.selects "CoatsOnChairs$Room" ({ cls := "CoatsOnChairs$Room", name := "setLamps", desc := "(I)Z" } : Jvm.MethodName) ({ cls := "CoatsOnChairs$Room", name := "setLamps", desc := "(I)Z" } : Jvm.MethodName)) ∈ gT := gT_mem 339 rfl rfl
set_option maxRecDepth 100000 in
theorem q340 : (Jvm.Cond.code ({ cls := "CoatsOnChairs$Room", name := "setLamps", desc := "(I)Z" } : Jvm.MethodName) prog_5_method_6_code (2 : Nat) (Option.some Jvm.ClassFile.FieldType.boolean)) ∈ gT := gT_mem 340 rfl rfl
set_option maxRecDepth 100000 in
theorem q341 : (Jvm.Cond.methodLink "CoatsOnChairs$Scan" (75 : Nat) ({ cls := "CoatsOnChairs$Room", name := "setSeeking", desc := "(I)Z" } : Jvm.MethodName)) ∈ gT := gT_mem 341 rfl rfl
set_option maxRecDepth 100000 in
theorem q342 : (Jvm.Cond.instanceMethod ({ cls := "CoatsOnChairs$Room", name := "setSeeking", desc := "(I)Z" } : Jvm.MethodName)) ∈ gT := gT_mem 342 rfl rfl
set_option maxRecDepth 100000 in
theorem q343 : (Jvm.Cond.selects "CoatsOnChairs$Room" ({ cls := "CoatsOnChairs$Room", name := "setSeeking", desc := "(I)Z" } : Jvm.MethodName) ({ cls := "CoatsOnChairs$Room", name := "setSeeking", desc := "(I)Z" } : Jvm.MethodName)) ∈ gT := gT_mem 343 rfl rfl
set_option maxRecDepth 100000 in
theorem q344 : (Jvm.Cond.code ({ cls := "CoatsOnChairs$Room", name := "setSeeking", desc := "(I)Z" } : Jvm.MethodName) prog_5_method_7_code (2 : Nat) (Option.some Jvm.ClassFile.FieldType.boolean)) ∈ gT := gT_mem 344 rfl rfl
set_option maxRecDepth 100000 in
theorem q345 : (Jvm.Cond.methodLink "CoatsOnChairs$Scan" (78 : Nat) ({ cls := "CoatsOnChairs$Room", name := "setLater", desc := "(I)Z" } : Jvm.MethodName)) ∈ gT := gT_mem 345 rfl rfl
set_option maxRecDepth 100000 in
theorem q346 : (Jvm.Cond.instanceMethod ({ cls := "CoatsOnChairs$Room", name := "setLater", desc := "(I)Z" } : Jvm.MethodName)) ∈ gT := gT_mem 346 rfl rfl
set_option maxRecDepth 100000 in
theorem q347 : (Jvm.Cond.selects "CoatsOnChairs$Room" ({ cls := "CoatsOnChairs$Room", name := "setLater", desc := "(I)Z" } : Jvm.MethodName) ({ cls := "CoatsOnChairs$Room", name := "setLater", desc := "(I)Z" } : Jvm.MethodName)) ∈ gT := gT_mem 347 rfl rfl
set_option maxRecDepth 100000 in
theorem q348 : (Jvm.Cond.code ({ cls := "CoatsOnChairs$Room", name := "setLater", desc := "(I)Z" } : Jvm.MethodName) prog_5_method_8_code (2 : Nat) (Option.some Jvm.ClassFile.FieldType.boolean)) ∈ gT := gT_mem 348 rfl rfl
set_option maxRecDepth 100000 in
theorem q349 : (Jvm.Cond.methodLink "CoatsOnChairsLaw" (29 : Nat) ({ cls := "CoatsOnChairs", name := "lay", desc := "()I" } : Jvm.MethodName)) ∈ gT := gT_mem 349 rfl rfl
set_option maxRecDepth 100000 in
theorem q350 : (Jvm.Cond.instanceMethod ({ cls := "CoatsOnChairs", name := "lay", desc := "()I" } : Jvm.MethodName)) ∈ gT := gT_mem 350 rfl rfl
set_option maxRecDepth 100000 in
theorem q351 : (Jvm.Cond.selects "CoatsOnChairs" ({ cls := "CoatsOnChairs", name := "lay", desc := "()I" } : Jvm.MethodName) ({ cls := "CoatsOnChairs", name := "lay", desc := "()I" } : Jvm.MethodName)) ∈ gT := gT_mem 351 rfl rfl
set_option maxRecDepth 100000 in
theorem q352 : (Jvm.Cond.code ({ cls := "CoatsOnChairs", name := "lay", desc := "()I" } : Jvm.MethodName) prog_1_method_5_code (2 : Nat) (Option.some Jvm.ClassFile.FieldType.int)) ∈ gT := gT_mem 352 rfl rfl
set_option maxRecDepth 100000 in
theorem q353 : (Jvm.Cond.methodLink "CoatsOnChairs" (106 : Nat) ({ cls := "CoatsOnChairs$Room", name := "seatCount", desc := "()I" } : Jvm.MethodName)) ∈ gT := gT_mem 353 rfl rfl
set_option maxRecDepth 100000 in
theorem q354 : (Jvm.Cond.instanceMethod ({ cls := "CoatsOnChairs$Room", name := "seatCount", desc := "()I" } : Jvm.MethodName)) ∈ gT := gT_mem 354 rfl rfl
set_option maxRecDepth 100000 in
theorem q355 : (Jvm.Cond.selects "CoatsOnChairs$Room" ({ cls := "CoatsOnChairs$Room", name := "seatCount", desc := "()I" } : Jvm.MethodName) ({ cls := "CoatsOnChairs$Room", name := "seatCount", desc := "()I" } : Jvm.MethodName)) ∈ gT := gT_mem 355 rfl rfl
set_option maxRecDepth 100000 in
theorem q356 : (Jvm.Cond.code ({ cls := "CoatsOnChairs$Room", name := "seatCount", desc := "()I" } : Jvm.MethodName) prog_5_method_9_code (1 : Nat) (Option.some Jvm.ClassFile.FieldType.int)) ∈ gT := gT_mem 356 rfl rfl
set_option maxRecDepth 100000 in
theorem q357 : (Jvm.Cond.methodLink "CoatsOnChairs" (109 : Nat) ({ cls := "CoatsOnChairs$Room", name := "readerCount", desc := "()I" } : Jvm.MethodName)) ∈ gT := gT_mem 357 rfl rfl
set_option maxRecDepth 100000 in
theorem q358 : (Jvm.Cond.instanceMethod ({ cls := "CoatsOnChairs$Room", name := "readerCount", desc := "()I" } : Jvm.MethodName)) ∈ gT := gT_mem 358 rfl rfl
set_option maxRecDepth 100000 in
theorem q359 : (Jvm.Cond.selects "CoatsOnChairs$Room" ({ cls := "CoatsOnChairs$Room", name := "readerCount", desc := "()I" } : Jvm.MethodName) ({ cls := "CoatsOnChairs$Room", name := "readerCount", desc := "()I" } : Jvm.MethodName)) ∈ gT := gT_mem 359 rfl rfl
set_option maxRecDepth 100000 in
theorem q360 : (Jvm.Cond.code ({ cls := "CoatsOnChairs$Room", name := "readerCount", desc := "()I" } : Jvm.MethodName) prog_5_method_10_code (1 : Nat) (Option.some Jvm.ClassFile.FieldType.int)) ∈ gT := gT_mem 360 rfl rfl
set_option maxRecDepth 100000 in
theorem q361 : (Jvm.Cond.methodLink "CoatsOnChairs" (112 : Nat) ({ cls := "CoatsOnChairs$Game", name := "forget", desc := "(LCoatsOnChairs$Room;)V" } : Jvm.MethodName)) ∈ gT := gT_mem 361 rfl rfl
set_option maxRecDepth 100000 in
theorem q362 : (Jvm.Cond.instanceMethod ({ cls := "CoatsOnChairs$Game", name := "forget", desc := "(LCoatsOnChairs$Room;)V" } : Jvm.MethodName)) ∈ gT := gT_mem 362 rfl rfl
set_option maxRecDepth 100000 in
theorem q363 : (Jvm.Cond.selects "CoatsOnChairs$Game" ({ cls := "CoatsOnChairs$Game", name := "forget", desc := "(LCoatsOnChairs$Room;)V" } : Jvm.MethodName) ({ cls := "CoatsOnChairs$Game", name := "forget", desc := "(LCoatsOnChairs$Room;)V" } : Jvm.MethodName)) ∈ gT := gT_mem 363 rfl rfl
set_option maxRecDepth 100000 in
theorem q364 : (Jvm.Cond.code ({ cls := "CoatsOnChairs$Game", name := "forget", desc := "(LCoatsOnChairs$Room;)V" } : Jvm.MethodName) prog_3_method_2_code (2 : Nat) (Option.none : Option Jvm.ClassFile.FieldType)) ∈ gT := gT_mem 364 rfl rfl
set_option maxRecDepth 100000 in
theorem q365 : (Jvm.Cond.methodLink "CoatsOnChairsLaw" (33 : Nat) ({ cls := "CoatsOnChairs", name := "reader", desc := "(II)I" } : Jvm.MethodName)) ∈ gT := gT_mem 365 rfl rfl
set_option maxRecDepth 100000 in
theorem q366 : (Jvm.Cond.instanceMethod ({ cls := "CoatsOnChairs", name := "reader", desc := "(II)I" } : Jvm.MethodName)) ∈ gT := gT_mem 366 rfl rfl
set_option maxRecDepth 100000 in
theorem q367 : (Jvm.Cond.selects "CoatsOnChairs" ({ cls := "CoatsOnChairs", name := "reader", desc := "(II)I" } : Jvm.MethodName) ({ cls := "CoatsOnChairs", name := "reader", desc := "(II)I" } : Jvm.MethodName)) ∈ gT := gT_mem 367 rfl rfl
set_option maxRecDepth 100000 in
theorem q368 : (Jvm.Cond.code ({ cls := "CoatsOnChairs", name := "reader", desc := "(II)I" } : Jvm.MethodName) prog_1_method_6_code (3 : Nat) (Option.some Jvm.ClassFile.FieldType.int)) ∈ gT := gT_mem 368 rfl rfl
set_option maxRecDepth 100000 in
theorem q369 : (Jvm.Cond.methodLink "CoatsOnChairs" (115 : Nat) ({ cls := "CoatsOnChairs", name := "isReader", desc := "(I)Z" } : Jvm.MethodName)) ∈ gT := gT_mem 369 rfl rfl
set_option maxRecDepth 100000 in
theorem q371 : (Jvm.Cond.instanceMethod ({ cls := "CoatsOnChairs", name := "isReader", desc := "(I)Z" } : Jvm.MethodName)) ∈ gT := gT_mem 371 rfl rfl
set_option maxRecDepth 100000 in
theorem q372 : (Jvm.Cond.code ({ cls := "CoatsOnChairs", name := "isReader", desc := "(I)Z" } : Jvm.MethodName) prog_1_method_32_code (2 : Nat) (Option.some Jvm.ClassFile.FieldType.boolean)) ∈ gT := gT_mem 372 rfl rfl
set_option maxRecDepth 100000 in
theorem q373 : (Jvm.Cond.methodLink "CoatsOnChairs" (118 : Nat) ({ cls := "CoatsOnChairs$Room", name := "number", desc := "(II)I" } : Jvm.MethodName)) ∈ gT := gT_mem 373 rfl rfl
set_option maxRecDepth 100000 in
theorem q374 : (Jvm.Cond.instanceMethod ({ cls := "CoatsOnChairs$Room", name := "number", desc := "(II)I" } : Jvm.MethodName)) ∈ gT := gT_mem 374 rfl rfl
set_option maxRecDepth 100000 in
theorem q375 : (Jvm.Cond.selects "CoatsOnChairs$Room" ({ cls := "CoatsOnChairs$Room", name := "number", desc := "(II)I" } : Jvm.MethodName) ({ cls := "CoatsOnChairs$Room", name := "number", desc := "(II)I" } : Jvm.MethodName)) ∈ gT := gT_mem 375 rfl rfl
set_option maxRecDepth 100000 in
theorem q376 : (Jvm.Cond.code ({ cls := "CoatsOnChairs$Room", name := "number", desc := "(II)I" } : Jvm.MethodName) prog_5_method_18_code (4 : Nat) (Option.some Jvm.ClassFile.FieldType.int)) ∈ gT := gT_mem 376 rfl rfl
set_option maxRecDepth 100000 in
theorem q377 : (Jvm.Cond.methodLink "CoatsOnChairsLaw" (38 : Nat) ({ cls := "CoatsOnChairs", name := "kind", desc := "(I)I" } : Jvm.MethodName)) ∈ gT := gT_mem 377 rfl rfl
set_option maxRecDepth 100000 in
theorem q378 : (Jvm.Cond.instanceMethod ({ cls := "CoatsOnChairs", name := "kind", desc := "(I)I" } : Jvm.MethodName)) ∈ gT := gT_mem 378 rfl rfl
set_option maxRecDepth 100000 in
theorem q379 : (Jvm.Cond.selects "CoatsOnChairs" ({ cls := "CoatsOnChairs", name := "kind", desc := "(I)I" } : Jvm.MethodName) ({ cls := "CoatsOnChairs", name := "kind", desc := "(I)I" } : Jvm.MethodName)) ∈ gT := gT_mem 379 rfl rfl
set_option maxRecDepth 100000 in
theorem q380 : (Jvm.Cond.code ({ cls := "CoatsOnChairs", name := "kind", desc := "(I)I" } : Jvm.MethodName) prog_1_method_7_code (2 : Nat) (Option.some Jvm.ClassFile.FieldType.int)) ∈ gT := gT_mem 380 rfl rfl
set_option maxRecDepth 100000 in
theorem q381 : (Jvm.Cond.methodLink "CoatsOnChairs" (122 : Nat) ({ cls := "CoatsOnChairs", name := "isSeat", desc := "(I)Z" } : Jvm.MethodName)) ∈ gT := gT_mem 381 rfl rfl
set_option maxRecDepth 100000 in
theorem q383 : (Jvm.Cond.instanceMethod ({ cls := "CoatsOnChairs", name := "isSeat", desc := "(I)Z" } : Jvm.MethodName)) ∈ gT := gT_mem 383 rfl rfl
set_option maxRecDepth 100000 in
theorem q384 : (Jvm.Cond.code ({ cls := "CoatsOnChairs", name := "isSeat", desc := "(I)Z" } : Jvm.MethodName) prog_1_method_33_code (2 : Nat) (Option.some Jvm.ClassFile.FieldType.boolean)) ∈ gT := gT_mem 384 rfl rfl
set_option maxRecDepth 100000 in
theorem q385 : (Jvm.Cond.methodLink "CoatsOnChairs" (125 : Nat) ({ cls := "CoatsOnChairs$Room", name := "kindOf", desc := "(I)I" } : Jvm.MethodName)) ∈ gT := gT_mem 385 rfl rfl
set_option maxRecDepth 100000 in
theorem q386 : (Jvm.Cond.instanceMethod ({ cls := "CoatsOnChairs$Room", name := "kindOf", desc := "(I)I" } : Jvm.MethodName)) ∈ gT := gT_mem 386 rfl rfl
set_option maxRecDepth 100000 in
theorem q387 : (Jvm.Cond.selects "CoatsOnChairs$Room" ({ cls := "CoatsOnChairs$Room", name := "kindOf", desc := "(I)I" } : Jvm.MethodName) ({ cls := "CoatsOnChairs$Room", name := "kindOf", desc := "(I)I" } : Jvm.MethodName)) ∈ gT := gT_mem 387 rfl rfl
set_option maxRecDepth 100000 in
theorem q388 : (Jvm.Cond.code ({ cls := "CoatsOnChairs$Room", name := "kindOf", desc := "(I)I" } : Jvm.MethodName) prog_5_method_17_code (2 : Nat) (Option.some Jvm.ClassFile.FieldType.int)) ∈ gT := gT_mem 388 rfl rfl
set_option maxRecDepth 100000 in
theorem q389 : (Jvm.Cond.methodLink "CoatsOnChairsLaw" (43 : Nat) ({ cls := "CoatsOnChairs", name := "hold", desc := "(IZ)I" } : Jvm.MethodName)) ∈ gT := gT_mem 389 rfl rfl
set_option maxRecDepth 100000 in
theorem q390 : (Jvm.Cond.instanceMethod ({ cls := "CoatsOnChairs", name := "hold", desc := "(IZ)I" } : Jvm.MethodName)) ∈ gT := gT_mem 390 rfl rfl
set_option maxRecDepth 100000 in
theorem q391 : (Jvm.Cond.selects "CoatsOnChairs" ({ cls := "CoatsOnChairs", name := "hold", desc := "(IZ)I" } : Jvm.MethodName) ({ cls := "CoatsOnChairs", name := "hold", desc := "(IZ)I" } : Jvm.MethodName)) ∈ gT := gT_mem 391 rfl rfl
set_option maxRecDepth 100000 in
theorem q392 : (Jvm.Cond.code ({ cls := "CoatsOnChairs", name := "hold", desc := "(IZ)I" } : Jvm.MethodName) prog_1_method_8_code (4 : Nat) (Option.some Jvm.ClassFile.FieldType.int)) ∈ gT := gT_mem 392 rfl rfl
set_option maxRecDepth 100000 in
theorem q393 : (Jvm.Cond.methodLink "CoatsOnChairsLaw" (48 : Nat) ({ cls := "CoatsOnChairs", name := "seat", desc := "(IIII)I" } : Jvm.MethodName)) ∈ gT := gT_mem 393 rfl rfl
set_option maxRecDepth 100000 in
theorem q394 : (Jvm.Cond.instanceMethod ({ cls := "CoatsOnChairs", name := "seat", desc := "(IIII)I" } : Jvm.MethodName)) ∈ gT := gT_mem 394 rfl rfl
set_option maxRecDepth 100000 in
theorem q395 : (Jvm.Cond.selects "CoatsOnChairs" ({ cls := "CoatsOnChairs", name := "seat", desc := "(IIII)I" } : Jvm.MethodName) ({ cls := "CoatsOnChairs", name := "seat", desc := "(IIII)I" } : Jvm.MethodName)) ∈ gT := gT_mem 395 rfl rfl
set_option maxRecDepth 100000 in
theorem q396 : (Jvm.Cond.code ({ cls := "CoatsOnChairs", name := "seat", desc := "(IIII)I" } : Jvm.MethodName) prog_1_method_9_code (6 : Nat) (Option.some Jvm.ClassFile.FieldType.int)) ∈ gT := gT_mem 396 rfl rfl
set_option maxRecDepth 100000 in
theorem q397 : (Jvm.Cond.methodLink "CoatsOnChairs" (129 : Nat) ({ cls := "CoatsOnChairs", name := "isRule", desc := "(I)Z" } : Jvm.MethodName)) ∈ gT := gT_mem 397 rfl rfl
set_option maxRecDepth 100000 in
theorem q398 : (Jvm.Cond.static ({ cls := "CoatsOnChairs", name := "isRule", desc := "(I)Z" } : Jvm.MethodName)) ∈ gT := gT_mem 398 rfl rfl
set_option maxRecDepth 100000 in
theorem q399 : (Jvm.Cond.code ({ cls := "CoatsOnChairs", name := "isRule", desc := "(I)Z" } : Jvm.MethodName) prog_1_method_34_code (1 : Nat) (Option.some Jvm.ClassFile.FieldType.boolean)) ∈ gT := gT_mem 399 rfl rfl
set_option maxRecDepth 100000 in
theorem q400 : (Jvm.Cond.methodLink "CoatsOnChairs" (132 : Nat) ({ cls := "CoatsOnChairs$Day", name := "open", desc := "(LCoatsOnChairs$Room;II)V" } : Jvm.MethodName)) ∈ gT := gT_mem 400 rfl rfl
set_option maxRecDepth 100000 in
theorem q401 : (Jvm.Cond.instanceMethod ({ cls := "CoatsOnChairs$Day", name := "open", desc := "(LCoatsOnChairs$Room;II)V" } : Jvm.MethodName)) ∈ gT := gT_mem 401 rfl rfl
set_option maxRecDepth 100000 in
theorem q402 : (Jvm.Cond.selects "CoatsOnChairs$Day" ({ cls := "CoatsOnChairs$Day", name := "open", desc := "(LCoatsOnChairs$Room;II)V" } : Jvm.MethodName) ({ cls := "CoatsOnChairs$Day", name := "open", desc := "(LCoatsOnChairs$Room;II)V" } : Jvm.MethodName)) ∈ gT := gT_mem 402 rfl rfl
set_option maxRecDepth 100000 in
theorem q403 : (Jvm.Cond.code ({ cls := "CoatsOnChairs$Day", name := "open", desc := "(LCoatsOnChairs$Room;II)V" } : Jvm.MethodName) prog_2_method_2_code (5 : Nat) (Option.none : Option Jvm.ClassFile.FieldType)) ∈ gT := gT_mem 403 rfl rfl
set_option maxRecDepth 100000 in
theorem q404 : (Jvm.Cond.methodLink "CoatsOnChairs$Day" (40 : Nat) ({ cls := "CoatsOnChairs$Room", name := "readerCount", desc := "()I" } : Jvm.MethodName)) ∈ gT := gT_mem 404 rfl rfl
set_option maxRecDepth 100000 in
theorem q405 : (Jvm.Cond.methodLink "CoatsOnChairs$Day" (46 : Nat) ({ cls := "java/lang/Math", name := "min", desc := "(II)I" } : Jvm.MethodName)) ∈ gT := gT_mem 405 rfl rfl
set_option maxRecDepth 100000 in
theorem q406 : (Jvm.Cond.static ({ cls := "java/lang/Math", name := "min", desc := "(II)I" } : Jvm.MethodName)) ∈ gT := gT_mem 406 rfl rfl
set_option maxRecDepth 100000 in
theorem q407 : (Jvm.Cond.code ({ cls := "java/lang/Math", name := "min", desc := "(II)I" } : Jvm.MethodName) prog_11_method_69_code (2 : Nat) (Option.some Jvm.ClassFile.FieldType.int)) ∈ gT := gT_mem 407 rfl rfl
set_option maxRecDepth 100000 in
theorem q408 : (Jvm.Cond.methodLink "CoatsOnChairs$Day" (56 : Nat) ({ cls := "CoatsOnChairs$Room", name := "seatCount", desc := "()I" } : Jvm.MethodName)) ∈ gT := gT_mem 408 rfl rfl
set_option maxRecDepth 100000 in
theorem q409 : (Jvm.Cond.methodLink "CoatsOnChairs$Day" (68 : Nat) ({ cls := "CoatsOnChairs$Room", name := "cardMinutes", desc := "()I" } : Jvm.MethodName)) ∈ gT := gT_mem 409 rfl rfl
set_option maxRecDepth 100000 in
theorem q410 : (Jvm.Cond.instanceMethod ({ cls := "CoatsOnChairs$Room", name := "cardMinutes", desc := "()I" } : Jvm.MethodName)) ∈ gT := gT_mem 410 rfl rfl
set_option maxRecDepth 100000 in
theorem q411 : (Jvm.Cond.selects "CoatsOnChairs$Room" ({ cls := "CoatsOnChairs$Room", name := "cardMinutes", desc := "()I" } : Jvm.MethodName) ({ cls := "CoatsOnChairs$Room", name := "cardMinutes", desc := "()I" } : Jvm.MethodName)) ∈ gT := gT_mem 411 rfl rfl
set_option maxRecDepth 100000 in
theorem q412 : (Jvm.Cond.code ({ cls := "CoatsOnChairs$Room", name := "cardMinutes", desc := "()I" } : Jvm.MethodName) prog_5_method_11_code (1 : Nat) (Option.some Jvm.ClassFile.FieldType.int)) ∈ gT := gT_mem 412 rfl rfl
set_option maxRecDepth 100000 in
theorem q413 : (Jvm.Cond.methodLink "CoatsOnChairs$Day" (71 : Nat) ({ cls := "CoatsOnChairs$Room", name := "porterMinutes", desc := "()I" } : Jvm.MethodName)) ∈ gT := gT_mem 413 rfl rfl
set_option maxRecDepth 100000 in
theorem q414 : (Jvm.Cond.instanceMethod ({ cls := "CoatsOnChairs$Room", name := "porterMinutes", desc := "()I" } : Jvm.MethodName)) ∈ gT := gT_mem 414 rfl rfl
set_option maxRecDepth 100000 in
theorem q415 : (Jvm.Cond.selects "CoatsOnChairs$Room" ({ cls := "CoatsOnChairs$Room", name := "porterMinutes", desc := "()I" } : Jvm.MethodName) ({ cls := "CoatsOnChairs$Room", name := "porterMinutes", desc := "()I" } : Jvm.MethodName)) ∈ gT := gT_mem 415 rfl rfl
set_option maxRecDepth 100000 in
theorem q416 : (Jvm.Cond.code ({ cls := "CoatsOnChairs$Room", name := "porterMinutes", desc := "()I" } : Jvm.MethodName) prog_5_method_12_code (1 : Nat) (Option.some Jvm.ClassFile.FieldType.int)) ∈ gT := gT_mem 416 rfl rfl
set_option maxRecDepth 100000 in
theorem q417 : (Jvm.Cond.methodLink "CoatsOnChairs$Day" (74 : Nat) ({ cls := "CoatsOnChairs$Day", name := "useCards", desc := "(II)V" } : Jvm.MethodName)) ∈ gT := gT_mem 417 rfl rfl
set_option maxRecDepth 100000 in
theorem q418 : (Jvm.Cond.instanceMethod ({ cls := "CoatsOnChairs$Day", name := "useCards", desc := "(II)V" } : Jvm.MethodName)) ∈ gT := gT_mem 418 rfl rfl
set_option maxRecDepth 100000 in
theorem q419 : (Jvm.Cond.selects "CoatsOnChairs$Day" ({ cls := "CoatsOnChairs$Day", name := "useCards", desc := "(II)V" } : Jvm.MethodName) ({ cls := "CoatsOnChairs$Day", name := "useCards", desc := "(II)V" } : Jvm.MethodName)) ∈ gT := gT_mem 419 rfl rfl
set_option maxRecDepth 100000 in
theorem q420 : (Jvm.Cond.code ({ cls := "CoatsOnChairs$Day", name := "useCards", desc := "(II)V" } : Jvm.MethodName) prog_2_method_3_code (3 : Nat) (Option.none : Option Jvm.ClassFile.FieldType)) ∈ gT := gT_mem 420 rfl rfl
set_option maxRecDepth 100000 in
theorem q421 : (Jvm.Cond.methodLink "CoatsOnChairs$Day" (78 : Nat) ({ cls := "CoatsOnChairs$Room", name := "number", desc := "(II)I" } : Jvm.MethodName)) ∈ gT := gT_mem 421 rfl rfl
set_option maxRecDepth 100000 in
theorem q422 : (Jvm.Cond.methodLink "CoatsOnChairs$Day" (81 : Nat) ({ cls := "java/util/Arrays", name := "fill", desc := "([II)V" } : Jvm.MethodName)) ∈ gT := gT_mem 422 rfl rfl
set_option maxRecDepth 100000 in
theorem q423 : (Jvm.Cond.static ({ cls := "java/util/Arrays", name := "fill", desc := "([II)V" } : Jvm.MethodName)) ∈ gT := gT_mem 423 rfl rfl
set_option maxRecDepth 100000 in
theorem q424 : (Jvm.Cond.code ({ cls := "java/util/Arrays", name := "fill", desc := "([II)V" } : Jvm.MethodName) prog_13_method_103_code (4 : Nat) (Option.none : Option Jvm.ClassFile.FieldType)) ∈ gT := gT_mem 424 rfl rfl
set_option maxRecDepth 100000 in
theorem q425 : (Jvm.Cond.methodLink "CoatsOnChairs" (136 : Nat) ({ cls := "CoatsOnChairs$Day", name := "runTo", desc := "(I)V" } : Jvm.MethodName)) ∈ gT := gT_mem 425 rfl rfl
set_option maxRecDepth 100000 in
theorem q426 : (Jvm.Cond.instanceMethod ({ cls := "CoatsOnChairs$Day", name := "runTo", desc := "(I)V" } : Jvm.MethodName)) ∈ gT := gT_mem 426 rfl rfl
set_option maxRecDepth 100000 in
theorem q427 : (Jvm.Cond.selects "CoatsOnChairs$Day" ({ cls := "CoatsOnChairs$Day", name := "runTo", desc := "(I)V" } : Jvm.MethodName) ({ cls := "CoatsOnChairs$Day", name := "runTo", desc := "(I)V" } : Jvm.MethodName)) ∈ gT := gT_mem 427 rfl rfl
set_option maxRecDepth 100000 in
theorem q428 : (Jvm.Cond.code ({ cls := "CoatsOnChairs$Day", name := "runTo", desc := "(I)V" } : Jvm.MethodName) prog_2_method_5_code (3 : Nat) (Option.none : Option Jvm.ClassFile.FieldType)) ∈ gT := gT_mem 428 rfl rfl
set_option maxRecDepth 100000 in
theorem q429 : (Jvm.Cond.methodLink "CoatsOnChairs$Day" (115 : Nat) ({ cls := "CoatsOnChairs$Day", name := "comeBack", desc := "(I)V" } : Jvm.MethodName)) ∈ gT := gT_mem 429 rfl rfl
set_option maxRecDepth 100000 in
theorem q431 : (Jvm.Cond.instanceMethod ({ cls := "CoatsOnChairs$Day", name := "comeBack", desc := "(I)V" } : Jvm.MethodName)) ∈ gT := gT_mem 431 rfl rfl
set_option maxRecDepth 100000 in
theorem q432 : (Jvm.Cond.code ({ cls := "CoatsOnChairs$Day", name := "comeBack", desc := "(I)V" } : Jvm.MethodName) prog_2_method_6_code (4 : Nat) (Option.none : Option Jvm.ClassFile.FieldType)) ∈ gT := gT_mem 432 rfl rfl
set_option maxRecDepth 100000 in
theorem q433 : (Jvm.Cond.methodLink "CoatsOnChairs$Day" (131 : Nat) ({ cls := "CoatsOnChairs$Day", name := "holderOf", desc := "(I)I" } : Jvm.MethodName)) ∈ gT := gT_mem 433 rfl rfl
set_option maxRecDepth 100000 in
theorem q434 : (Jvm.Cond.instanceMethod ({ cls := "CoatsOnChairs$Day", name := "holderOf", desc := "(I)I" } : Jvm.MethodName)) ∈ gT := gT_mem 434 rfl rfl
set_option maxRecDepth 100000 in
theorem q435 : (Jvm.Cond.selects "CoatsOnChairs$Day" ({ cls := "CoatsOnChairs$Day", name := "holderOf", desc := "(I)I" } : Jvm.MethodName) ({ cls := "CoatsOnChairs$Day", name := "holderOf", desc := "(I)I" } : Jvm.MethodName)) ∈ gT := gT_mem 435 rfl rfl
set_option maxRecDepth 100000 in
theorem q436 : (Jvm.Cond.code ({ cls := "CoatsOnChairs$Day", name := "holderOf", desc := "(I)I" } : Jvm.MethodName) prog_2_method_16_code (2 : Nat) (Option.some Jvm.ClassFile.FieldType.int)) ∈ gT := gT_mem 436 rfl rfl
set_option maxRecDepth 100000 in
theorem q437 : (Jvm.Cond.methodLink "CoatsOnChairs$Day" (135 : Nat) ({ cls := "CoatsOnChairs$Day", name := "sitDown", desc := "(II)V" } : Jvm.MethodName)) ∈ gT := gT_mem 437 rfl rfl
set_option maxRecDepth 100000 in
theorem q439 : (Jvm.Cond.instanceMethod ({ cls := "CoatsOnChairs$Day", name := "sitDown", desc := "(II)V" } : Jvm.MethodName)) ∈ gT := gT_mem 439 rfl rfl
set_option maxRecDepth 100000 in
theorem q440 : (Jvm.Cond.code ({ cls := "CoatsOnChairs$Day", name := "sitDown", desc := "(II)V" } : Jvm.MethodName) prog_2_method_11_code (3 : Nat) (Option.none : Option Jvm.ClassFile.FieldType)) ∈ gT := gT_mem 440 rfl rfl
set_option maxRecDepth 100000 in
theorem q441 : (Jvm.Cond.methodLink "CoatsOnChairs$Day" (119 : Nat) ({ cls := "CoatsOnChairs$Day", name := "freeHeld", desc := "(I)V" } : Jvm.MethodName)) ∈ gT := gT_mem 441 rfl rfl
set_option maxRecDepth 100000 in
theorem q443 : (Jvm.Cond.instanceMethod ({ cls := "CoatsOnChairs$Day", name := "freeHeld", desc := "(I)V" } : Jvm.MethodName)) ∈ gT := gT_mem 443 rfl rfl
set_option maxRecDepth 100000 in
theorem q444 : (Jvm.Cond.code ({ cls := "CoatsOnChairs$Day", name := "freeHeld", desc := "(I)V" } : Jvm.MethodName) prog_2_method_7_code (6 : Nat) (Option.none : Option Jvm.ClassFile.FieldType)) ∈ gT := gT_mem 444 rfl rfl
set_option maxRecDepth 100000 in
theorem q445 : (Jvm.Cond.methodLink "CoatsOnChairs$Day" (138 : Nat) ({ cls := "CoatsOnChairs$Room", name := "lampMinutes", desc := "()I" } : Jvm.MethodName)) ∈ gT := gT_mem 445 rfl rfl
set_option maxRecDepth 100000 in
theorem q446 : (Jvm.Cond.instanceMethod ({ cls := "CoatsOnChairs$Room", name := "lampMinutes", desc := "()I" } : Jvm.MethodName)) ∈ gT := gT_mem 446 rfl rfl
set_option maxRecDepth 100000 in
theorem q447 : (Jvm.Cond.selects "CoatsOnChairs$Room" ({ cls := "CoatsOnChairs$Room", name := "lampMinutes", desc := "()I" } : Jvm.MethodName) ({ cls := "CoatsOnChairs$Room", name := "lampMinutes", desc := "()I" } : Jvm.MethodName)) ∈ gT := gT_mem 447 rfl rfl
set_option maxRecDepth 100000 in
theorem q448 : (Jvm.Cond.code ({ cls := "CoatsOnChairs$Room", name := "lampMinutes", desc := "()I" } : Jvm.MethodName) prog_5_method_13_code (1 : Nat) (Option.some Jvm.ClassFile.FieldType.int)) ∈ gT := gT_mem 448 rfl rfl
set_option maxRecDepth 100000 in
theorem q449 : (Jvm.Cond.methodLink "CoatsOnChairs$Day" (141 : Nat) ({ cls := "CoatsOnChairs$Day", name := "offFor", desc := "(II)I" } : Jvm.MethodName)) ∈ gT := gT_mem 449 rfl rfl
set_option maxRecDepth 100000 in
theorem q451 : (Jvm.Cond.instanceMethod ({ cls := "CoatsOnChairs$Day", name := "offFor", desc := "(II)I" } : Jvm.MethodName)) ∈ gT := gT_mem 451 rfl rfl
set_option maxRecDepth 100000 in
theorem q452 : (Jvm.Cond.code ({ cls := "CoatsOnChairs$Day", name := "offFor", desc := "(II)I" } : Jvm.MethodName) prog_2_method_14_code (3 : Nat) (Option.some Jvm.ClassFile.FieldType.int)) ∈ gT := gT_mem 452 rfl rfl
set_option maxRecDepth 100000 in
theorem q453 : (Jvm.Cond.methodLink "CoatsOnChairs$Day" (122 : Nat) ({ cls := "CoatsOnChairs$Day", name := "seekSeats", desc := "(I)V" } : Jvm.MethodName)) ∈ gT := gT_mem 453 rfl rfl
set_option maxRecDepth 100000 in
theorem q455 : (Jvm.Cond.instanceMethod ({ cls := "CoatsOnChairs$Day", name := "seekSeats", desc := "(I)V" } : Jvm.MethodName)) ∈ gT := gT_mem 455 rfl rfl
set_option maxRecDepth 100000 in
theorem q456 : (Jvm.Cond.code ({ cls := "CoatsOnChairs$Day", name := "seekSeats", desc := "(I)V" } : Jvm.MethodName) prog_2_method_8_code (4 : Nat) (Option.none : Option Jvm.ClassFile.FieldType)) ∈ gT := gT_mem 456 rfl rfl
set_option maxRecDepth 100000 in
theorem q457 : (Jvm.Cond.methodLink "CoatsOnChairs$Day" (144 : Nat) ({ cls := "CoatsOnChairs$Day", name := "freeSeatFor", desc := "(I)I" } : Jvm.MethodName)) ∈ gT := gT_mem 457 rfl rfl
set_option maxRecDepth 100000 in
theorem q459 : (Jvm.Cond.instanceMethod ({ cls := "CoatsOnChairs$Day", name := "freeSeatFor", desc := "(I)I" } : Jvm.MethodName)) ∈ gT := gT_mem 459 rfl rfl
set_option maxRecDepth 100000 in
theorem q460 : (Jvm.Cond.code ({ cls := "CoatsOnChairs$Day", name := "freeSeatFor", desc := "(I)I" } : Jvm.MethodName) prog_2_method_9_code (7 : Nat) (Option.some Jvm.ClassFile.FieldType.int)) ∈ gT := gT_mem 460 rfl rfl
set_option maxRecDepth 100000 in
theorem q461 : (Jvm.Cond.methodLink "CoatsOnChairs$Day" (153 : Nat) ({ cls := "CoatsOnChairs$Room", name := "kindOf", desc := "(I)I" } : Jvm.MethodName)) ∈ gT := gT_mem 461 rfl rfl
set_option maxRecDepth 100000 in
theorem q462 : (Jvm.Cond.methodLink "CoatsOnChairs$Day" (156 : Nat) ({ cls := "java/lang/Integer", name := "bitCount", desc := "(I)I" } : Jvm.MethodName)) ∈ gT := gT_mem 462 rfl rfl
set_option maxRecDepth 100000 in
theorem q463 : (Jvm.Cond.static ({ cls := "java/lang/Integer", name := "bitCount", desc := "(I)I" } : Jvm.MethodName)) ∈ gT := gT_mem 463 rfl rfl
set_option maxRecDepth 100000 in
theorem q464 : (Jvm.Cond.code ({ cls := "java/lang/Integer", name := "bitCount", desc := "(I)I" } : Jvm.MethodName) prog_10_method_49_code (1 : Nat) (Option.some Jvm.ClassFile.FieldType.int)) ∈ gT := gT_mem 464 rfl rfl
set_option maxRecDepth 100000 in
theorem q465 : (Jvm.Cond.constant "java/lang/Integer" (265 : Nat) (1431655765 : Int32)) ∈ gT := gT_mem 465 rfl rfl
set_option maxRecDepth 100000 in
theorem q466 : (Jvm.Cond.constant "java/lang/Integer" (266 : Nat) (858993459 : Int32)) ∈ gT := gT_mem 466 rfl rfl
set_option maxRecDepth 100000 in
theorem q467 : (Jvm.Cond.constant "java/lang/Integer" (267 : Nat) (252645135 : Int32)) ∈ gT := gT_mem 467 rfl rfl
set_option maxRecDepth 100000 in
theorem q468 : (Jvm.Cond.methodLink "CoatsOnChairs$Day" (147 : Nat) ({ cls := "CoatsOnChairs$Day", name := "daredSeatFor", desc := "(II)I" } : Jvm.MethodName)) ∈ gT := gT_mem 468 rfl rfl
set_option maxRecDepth 100000 in
theorem q470 : (Jvm.Cond.instanceMethod ({ cls := "CoatsOnChairs$Day", name := "daredSeatFor", desc := "(II)I" } : Jvm.MethodName)) ∈ gT := gT_mem 470 rfl rfl
set_option maxRecDepth 100000 in
theorem q471 : (Jvm.Cond.code ({ cls := "CoatsOnChairs$Day", name := "daredSeatFor", desc := "(II)I" } : Jvm.MethodName) prog_2_method_10_code (5 : Nat) (Option.some Jvm.ClassFile.FieldType.int)) ∈ gT := gT_mem 471 rfl rfl
set_option maxRecDepth 100000 in
theorem q472 : (Jvm.Cond.methodLink "CoatsOnChairs$Day" (150 : Nat) ({ cls := "CoatsOnChairs$Room", name := "seekMinutes", desc := "()I" } : Jvm.MethodName)) ∈ gT := gT_mem 472 rfl rfl
set_option maxRecDepth 100000 in
theorem q473 : (Jvm.Cond.instanceMethod ({ cls := "CoatsOnChairs$Room", name := "seekMinutes", desc := "()I" } : Jvm.MethodName)) ∈ gT := gT_mem 473 rfl rfl
set_option maxRecDepth 100000 in
theorem q474 : (Jvm.Cond.selects "CoatsOnChairs$Room" ({ cls := "CoatsOnChairs$Room", name := "seekMinutes", desc := "()I" } : Jvm.MethodName) ({ cls := "CoatsOnChairs$Room", name := "seekMinutes", desc := "()I" } : Jvm.MethodName)) ∈ gT := gT_mem 474 rfl rfl
set_option maxRecDepth 100000 in
theorem q475 : (Jvm.Cond.code ({ cls := "CoatsOnChairs$Room", name := "seekMinutes", desc := "()I" } : Jvm.MethodName) prog_5_method_14_code (1 : Nat) (Option.some Jvm.ClassFile.FieldType.int)) ∈ gT := gT_mem 475 rfl rfl
set_option maxRecDepth 100000 in
theorem q476 : (Jvm.Cond.methodLink "CoatsOnChairs$Day" (125 : Nat) ({ cls := "CoatsOnChairs$Day", name := "sitOn", desc := "(I)V" } : Jvm.MethodName)) ∈ gT := gT_mem 476 rfl rfl
set_option maxRecDepth 100000 in
theorem q478 : (Jvm.Cond.instanceMethod ({ cls := "CoatsOnChairs$Day", name := "sitOn", desc := "(I)V" } : Jvm.MethodName)) ∈ gT := gT_mem 478 rfl rfl
set_option maxRecDepth 100000 in
theorem q479 : (Jvm.Cond.code ({ cls := "CoatsOnChairs$Day", name := "sitOn", desc := "(I)V" } : Jvm.MethodName) prog_2_method_12_code (4 : Nat) (Option.none : Option Jvm.ClassFile.FieldType)) ∈ gT := gT_mem 479 rfl rfl
set_option maxRecDepth 100000 in
theorem q480 : (Jvm.Cond.methodLink "CoatsOnChairs$Day" (128 : Nat) ({ cls := "CoatsOnChairs$Day", name := "countSeats", desc := "(I)V" } : Jvm.MethodName)) ∈ gT := gT_mem 480 rfl rfl
set_option maxRecDepth 100000 in
theorem q482 : (Jvm.Cond.instanceMethod ({ cls := "CoatsOnChairs$Day", name := "countSeats", desc := "(I)V" } : Jvm.MethodName)) ∈ gT := gT_mem 482 rfl rfl
set_option maxRecDepth 100000 in
theorem q483 : (Jvm.Cond.code ({ cls := "CoatsOnChairs$Day", name := "countSeats", desc := "(I)V" } : Jvm.MethodName) prog_2_method_13_code (4 : Nat) (Option.none : Option Jvm.ClassFile.FieldType)) ∈ gT := gT_mem 483 rfl rfl
set_option maxRecDepth 100000 in
theorem q484 : (Jvm.Cond.methodLink "CoatsOnChairs" (140 : Nat) ({ cls := "CoatsOnChairs$Day", name := "sitterOf", desc := "(I)I" } : Jvm.MethodName)) ∈ gT := gT_mem 484 rfl rfl
set_option maxRecDepth 100000 in
theorem q485 : (Jvm.Cond.instanceMethod ({ cls := "CoatsOnChairs$Day", name := "sitterOf", desc := "(I)I" } : Jvm.MethodName)) ∈ gT := gT_mem 485 rfl rfl
set_option maxRecDepth 100000 in
theorem q486 : (Jvm.Cond.selects "CoatsOnChairs$Day" ({ cls := "CoatsOnChairs$Day", name := "sitterOf", desc := "(I)I" } : Jvm.MethodName) ({ cls := "CoatsOnChairs$Day", name := "sitterOf", desc := "(I)I" } : Jvm.MethodName)) ∈ gT := gT_mem 486 rfl rfl
set_option maxRecDepth 100000 in
theorem q487 : (Jvm.Cond.code ({ cls := "CoatsOnChairs$Day", name := "sitterOf", desc := "(I)I" } : Jvm.MethodName) prog_2_method_15_code (2 : Nat) (Option.some Jvm.ClassFile.FieldType.int)) ∈ gT := gT_mem 487 rfl rfl
set_option maxRecDepth 100000 in
theorem q488 : (Jvm.Cond.methodLink "CoatsOnChairs" (143 : Nat) ({ cls := "CoatsOnChairs$Day", name := "holderOf", desc := "(I)I" } : Jvm.MethodName)) ∈ gT := gT_mem 488 rfl rfl
set_option maxRecDepth 100000 in
theorem q489 : (Jvm.Cond.methodLink "CoatsOnChairsLaw" (53 : Nat) ({ cls := "CoatsOnChairs", name := "does", desc := "(III)I" } : Jvm.MethodName)) ∈ gT := gT_mem 489 rfl rfl
set_option maxRecDepth 100000 in
theorem q490 : (Jvm.Cond.instanceMethod ({ cls := "CoatsOnChairs", name := "does", desc := "(III)I" } : Jvm.MethodName)) ∈ gT := gT_mem 490 rfl rfl
set_option maxRecDepth 100000 in
theorem q491 : (Jvm.Cond.selects "CoatsOnChairs" ({ cls := "CoatsOnChairs", name := "does", desc := "(III)I" } : Jvm.MethodName) ({ cls := "CoatsOnChairs", name := "does", desc := "(III)I" } : Jvm.MethodName)) ∈ gT := gT_mem 491 rfl rfl
set_option maxRecDepth 100000 in
theorem q492 : (Jvm.Cond.code ({ cls := "CoatsOnChairs", name := "does", desc := "(III)I" } : Jvm.MethodName) prog_1_method_10_code (4 : Nat) (Option.some Jvm.ClassFile.FieldType.int)) ∈ gT := gT_mem 492 rfl rfl
set_option maxRecDepth 100000 in
theorem q493 : (Jvm.Cond.methodLink "CoatsOnChairs" (146 : Nat) ({ cls := "CoatsOnChairs$Day", name := "stateOf", desc := "(I)I" } : Jvm.MethodName)) ∈ gT := gT_mem 493 rfl rfl
set_option maxRecDepth 100000 in
theorem q494 : (Jvm.Cond.instanceMethod ({ cls := "CoatsOnChairs$Day", name := "stateOf", desc := "(I)I" } : Jvm.MethodName)) ∈ gT := gT_mem 494 rfl rfl
set_option maxRecDepth 100000 in
theorem q495 : (Jvm.Cond.selects "CoatsOnChairs$Day" ({ cls := "CoatsOnChairs$Day", name := "stateOf", desc := "(I)I" } : Jvm.MethodName) ({ cls := "CoatsOnChairs$Day", name := "stateOf", desc := "(I)I" } : Jvm.MethodName)) ∈ gT := gT_mem 495 rfl rfl
set_option maxRecDepth 100000 in
theorem q496 : (Jvm.Cond.code ({ cls := "CoatsOnChairs$Day", name := "stateOf", desc := "(I)I" } : Jvm.MethodName) prog_2_method_17_code (2 : Nat) (Option.some Jvm.ClassFile.FieldType.int)) ∈ gT := gT_mem 496 rfl rfl
set_option maxRecDepth 100000 in
theorem q497 : (Jvm.Cond.methodLink "CoatsOnChairsLaw" (58 : Nat) ({ cls := "CoatsOnChairs", name := "day", desc := "(II)I" } : Jvm.MethodName)) ∈ gT := gT_mem 497 rfl rfl
set_option maxRecDepth 100000 in
theorem q498 : (Jvm.Cond.instanceMethod ({ cls := "CoatsOnChairs", name := "day", desc := "(II)I" } : Jvm.MethodName)) ∈ gT := gT_mem 498 rfl rfl
set_option maxRecDepth 100000 in
theorem q499 : (Jvm.Cond.selects "CoatsOnChairs" ({ cls := "CoatsOnChairs", name := "day", desc := "(II)I" } : Jvm.MethodName) ({ cls := "CoatsOnChairs", name := "day", desc := "(II)I" } : Jvm.MethodName)) ∈ gT := gT_mem 499 rfl rfl
set_option maxRecDepth 100000 in
theorem q500 : (Jvm.Cond.code ({ cls := "CoatsOnChairs", name := "day", desc := "(II)I" } : Jvm.MethodName) prog_1_method_11_code (3 : Nat) (Option.some Jvm.ClassFile.FieldType.int)) ∈ gT := gT_mem 500 rfl rfl
set_option maxRecDepth 100000 in
theorem q501 : (Jvm.Cond.methodLink "CoatsOnChairs" (149 : Nat) ({ cls := "CoatsOnChairs", name := "runWhole", desc := "(I)V" } : Jvm.MethodName)) ∈ gT := gT_mem 501 rfl rfl
set_option maxRecDepth 100000 in
theorem q503 : (Jvm.Cond.instanceMethod ({ cls := "CoatsOnChairs", name := "runWhole", desc := "(I)V" } : Jvm.MethodName)) ∈ gT := gT_mem 503 rfl rfl
set_option maxRecDepth 100000 in
theorem q504 : (Jvm.Cond.code ({ cls := "CoatsOnChairs", name := "runWhole", desc := "(I)V" } : Jvm.MethodName) prog_1_method_29_code (2 : Nat) (Option.none : Option Jvm.ClassFile.FieldType)) ∈ gT := gT_mem 504 rfl rfl
set_option maxRecDepth 100000 in
theorem q505 : (Jvm.Cond.methodLink "CoatsOnChairs" (152 : Nat) ({ cls := "CoatsOnChairs$Day", name := "used", desc := "()I" } : Jvm.MethodName)) ∈ gT := gT_mem 505 rfl rfl
set_option maxRecDepth 100000 in
theorem q506 : (Jvm.Cond.instanceMethod ({ cls := "CoatsOnChairs$Day", name := "used", desc := "()I" } : Jvm.MethodName)) ∈ gT := gT_mem 506 rfl rfl
set_option maxRecDepth 100000 in
theorem q507 : (Jvm.Cond.selects "CoatsOnChairs$Day" ({ cls := "CoatsOnChairs$Day", name := "used", desc := "()I" } : Jvm.MethodName) ({ cls := "CoatsOnChairs$Day", name := "used", desc := "()I" } : Jvm.MethodName)) ∈ gT := gT_mem 507 rfl rfl
set_option maxRecDepth 100000 in
theorem q508 : (Jvm.Cond.code ({ cls := "CoatsOnChairs$Day", name := "used", desc := "()I" } : Jvm.MethodName) prog_2_method_19_code (1 : Nat) (Option.some Jvm.ClassFile.FieldType.int)) ∈ gT := gT_mem 508 rfl rfl
set_option maxRecDepth 100000 in
theorem q509 : (Jvm.Cond.methodLink "CoatsOnChairs$Day" (161 : Nat) ({ cls := "CoatsOnChairs$Day", name := "seenEvery", desc := "(I)I" } : Jvm.MethodName)) ∈ gT := gT_mem 509 rfl rfl
set_option maxRecDepth 100000 in
theorem q510 : (Jvm.Cond.instanceMethod ({ cls := "CoatsOnChairs$Day", name := "seenEvery", desc := "(I)I" } : Jvm.MethodName)) ∈ gT := gT_mem 510 rfl rfl
set_option maxRecDepth 100000 in
theorem q511 : (Jvm.Cond.selects "CoatsOnChairs$Day" ({ cls := "CoatsOnChairs$Day", name := "seenEvery", desc := "(I)I" } : Jvm.MethodName) ({ cls := "CoatsOnChairs$Day", name := "seenEvery", desc := "(I)I" } : Jvm.MethodName)) ∈ gT := gT_mem 511 rfl rfl
set_option maxRecDepth 100000 in
theorem q512 : (Jvm.Cond.code ({ cls := "CoatsOnChairs$Day", name := "seenEvery", desc := "(I)I" } : Jvm.MethodName) prog_2_method_23_code (4 : Nat) (Option.some Jvm.ClassFile.FieldType.int)) ∈ gT := gT_mem 512 rfl rfl
set_option maxRecDepth 100000 in
theorem q513 : (Jvm.Cond.methodLink "CoatsOnChairs" (155 : Nat) ({ cls := "CoatsOnChairs$Day", name := "empty", desc := "()I" } : Jvm.MethodName)) ∈ gT := gT_mem 513 rfl rfl
set_option maxRecDepth 100000 in
theorem q514 : (Jvm.Cond.instanceMethod ({ cls := "CoatsOnChairs$Day", name := "empty", desc := "()I" } : Jvm.MethodName)) ∈ gT := gT_mem 514 rfl rfl
set_option maxRecDepth 100000 in
theorem q515 : (Jvm.Cond.selects "CoatsOnChairs$Day" ({ cls := "CoatsOnChairs$Day", name := "empty", desc := "()I" } : Jvm.MethodName) ({ cls := "CoatsOnChairs$Day", name := "empty", desc := "()I" } : Jvm.MethodName)) ∈ gT := gT_mem 515 rfl rfl
set_option maxRecDepth 100000 in
theorem q516 : (Jvm.Cond.code ({ cls := "CoatsOnChairs$Day", name := "empty", desc := "()I" } : Jvm.MethodName) prog_2_method_20_code (1 : Nat) (Option.some Jvm.ClassFile.FieldType.int)) ∈ gT := gT_mem 516 rfl rfl
set_option maxRecDepth 100000 in
theorem q517 : (Jvm.Cond.methodLink "CoatsOnChairs" (158 : Nat) ({ cls := "CoatsOnChairs$Day", name := "shutOut", desc := "()I" } : Jvm.MethodName)) ∈ gT := gT_mem 517 rfl rfl
set_option maxRecDepth 100000 in
theorem q518 : (Jvm.Cond.instanceMethod ({ cls := "CoatsOnChairs$Day", name := "shutOut", desc := "()I" } : Jvm.MethodName)) ∈ gT := gT_mem 518 rfl rfl
set_option maxRecDepth 100000 in
theorem q519 : (Jvm.Cond.selects "CoatsOnChairs$Day" ({ cls := "CoatsOnChairs$Day", name := "shutOut", desc := "()I" } : Jvm.MethodName) ({ cls := "CoatsOnChairs$Day", name := "shutOut", desc := "()I" } : Jvm.MethodName)) ∈ gT := gT_mem 519 rfl rfl
set_option maxRecDepth 100000 in
theorem q520 : (Jvm.Cond.code ({ cls := "CoatsOnChairs$Day", name := "shutOut", desc := "()I" } : Jvm.MethodName) prog_2_method_21_code (1 : Nat) (Option.some Jvm.ClassFile.FieldType.int)) ∈ gT := gT_mem 520 rfl rfl
set_option maxRecDepth 100000 in
theorem q521 : (Jvm.Cond.methodLink "CoatsOnChairs" (161 : Nat) ({ cls := "java/lang/Integer", name := "bitCount", desc := "(I)I" } : Jvm.MethodName)) ∈ gT := gT_mem 521 rfl rfl
set_option maxRecDepth 100000 in
theorem q522 : (Jvm.Cond.methodLink "CoatsOnChairs" (166 : Nat) ({ cls := "CoatsOnChairs$Day", name := "thrownOut", desc := "()I" } : Jvm.MethodName)) ∈ gT := gT_mem 522 rfl rfl
set_option maxRecDepth 100000 in
theorem q523 : (Jvm.Cond.instanceMethod ({ cls := "CoatsOnChairs$Day", name := "thrownOut", desc := "()I" } : Jvm.MethodName)) ∈ gT := gT_mem 523 rfl rfl
set_option maxRecDepth 100000 in
theorem q524 : (Jvm.Cond.selects "CoatsOnChairs$Day" ({ cls := "CoatsOnChairs$Day", name := "thrownOut", desc := "()I" } : Jvm.MethodName) ({ cls := "CoatsOnChairs$Day", name := "thrownOut", desc := "()I" } : Jvm.MethodName)) ∈ gT := gT_mem 524 rfl rfl
set_option maxRecDepth 100000 in
theorem q525 : (Jvm.Cond.code ({ cls := "CoatsOnChairs$Day", name := "thrownOut", desc := "()I" } : Jvm.MethodName) prog_2_method_22_code (1 : Nat) (Option.some Jvm.ClassFile.FieldType.int)) ∈ gT := gT_mem 525 rfl rfl
set_option maxRecDepth 100000 in
theorem q526 : (Jvm.Cond.methodLink "CoatsOnChairsLaw" (62 : Nat) ({ cls := "CoatsOnChairs", name := "sat", desc := "(II)I" } : Jvm.MethodName)) ∈ gT := gT_mem 526 rfl rfl
set_option maxRecDepth 100000 in
theorem q527 : (Jvm.Cond.instanceMethod ({ cls := "CoatsOnChairs", name := "sat", desc := "(II)I" } : Jvm.MethodName)) ∈ gT := gT_mem 527 rfl rfl
set_option maxRecDepth 100000 in
theorem q528 : (Jvm.Cond.selects "CoatsOnChairs" ({ cls := "CoatsOnChairs", name := "sat", desc := "(II)I" } : Jvm.MethodName) ({ cls := "CoatsOnChairs", name := "sat", desc := "(II)I" } : Jvm.MethodName)) ∈ gT := gT_mem 528 rfl rfl
set_option maxRecDepth 100000 in
theorem q529 : (Jvm.Cond.code ({ cls := "CoatsOnChairs", name := "sat", desc := "(II)I" } : Jvm.MethodName) prog_1_method_12_code (3 : Nat) (Option.some Jvm.ClassFile.FieldType.int)) ∈ gT := gT_mem 529 rfl rfl
set_option maxRecDepth 100000 in
theorem q530 : (Jvm.Cond.methodLink "CoatsOnChairs" (169 : Nat) ({ cls := "CoatsOnChairs$Day", name := "minutesOf", desc := "(I)I" } : Jvm.MethodName)) ∈ gT := gT_mem 530 rfl rfl
set_option maxRecDepth 100000 in
theorem q531 : (Jvm.Cond.instanceMethod ({ cls := "CoatsOnChairs$Day", name := "minutesOf", desc := "(I)I" } : Jvm.MethodName)) ∈ gT := gT_mem 531 rfl rfl
set_option maxRecDepth 100000 in
theorem q532 : (Jvm.Cond.selects "CoatsOnChairs$Day" ({ cls := "CoatsOnChairs$Day", name := "minutesOf", desc := "(I)I" } : Jvm.MethodName) ({ cls := "CoatsOnChairs$Day", name := "minutesOf", desc := "(I)I" } : Jvm.MethodName)) ∈ gT := gT_mem 532 rfl rfl
set_option maxRecDepth 100000 in
theorem q533 : (Jvm.Cond.code ({ cls := "CoatsOnChairs$Day", name := "minutesOf", desc := "(I)I" } : Jvm.MethodName) prog_2_method_18_code (2 : Nat) (Option.some Jvm.ClassFile.FieldType.int)) ∈ gT := gT_mem 533 rfl rfl
set_option maxRecDepth 100000 in
theorem q534 : (Jvm.Cond.methodLink "CoatsOnChairsLaw" (66 : Nat) ({ cls := "CoatsOnChairs", name := "bettered", desc := "()I" } : Jvm.MethodName)) ∈ gT := gT_mem 534 rfl rfl
set_option maxRecDepth 100000 in
theorem q535 : (Jvm.Cond.instanceMethod ({ cls := "CoatsOnChairs", name := "bettered", desc := "()I" } : Jvm.MethodName)) ∈ gT := gT_mem 535 rfl rfl
set_option maxRecDepth 100000 in
theorem q536 : (Jvm.Cond.selects "CoatsOnChairs" ({ cls := "CoatsOnChairs", name := "bettered", desc := "()I" } : Jvm.MethodName) ({ cls := "CoatsOnChairs", name := "bettered", desc := "()I" } : Jvm.MethodName)) ∈ gT := gT_mem 536 rfl rfl
set_option maxRecDepth 100000 in
theorem q537 : (Jvm.Cond.code ({ cls := "CoatsOnChairs", name := "bettered", desc := "()I" } : Jvm.MethodName) prog_1_method_13_code (4 : Nat) (Option.some Jvm.ClassFile.FieldType.int)) ∈ gT := gT_mem 537 rfl rfl
set_option maxRecDepth 100000 in
theorem q538 : (Jvm.Cond.methodLink "CoatsOnChairs" (172 : Nat) ({ cls := "CoatsOnChairs", name := "betters", desc := "(II)Z" } : Jvm.MethodName)) ∈ gT := gT_mem 538 rfl rfl
set_option maxRecDepth 100000 in
theorem q540 : (Jvm.Cond.instanceMethod ({ cls := "CoatsOnChairs", name := "betters", desc := "(II)Z" } : Jvm.MethodName)) ∈ gT := gT_mem 540 rfl rfl
set_option maxRecDepth 100000 in
theorem q541 : (Jvm.Cond.code ({ cls := "CoatsOnChairs", name := "betters", desc := "(II)Z" } : Jvm.MethodName) prog_1_method_28_code (6 : Nat) (Option.some Jvm.ClassFile.FieldType.boolean)) ∈ gT := gT_mem 541 rfl rfl
set_option maxRecDepth 100000 in
theorem q542 : (Jvm.Cond.methodLink "CoatsOnChairsLaw" (70 : Nat) ({ cls := "CoatsOnChairs", name := "rest", desc := "(II)I" } : Jvm.MethodName)) ∈ gT := gT_mem 542 rfl rfl
set_option maxRecDepth 100000 in
theorem q543 : (Jvm.Cond.instanceMethod ({ cls := "CoatsOnChairs", name := "rest", desc := "(II)I" } : Jvm.MethodName)) ∈ gT := gT_mem 543 rfl rfl
set_option maxRecDepth 100000 in
theorem q544 : (Jvm.Cond.selects "CoatsOnChairs" ({ cls := "CoatsOnChairs", name := "rest", desc := "(II)I" } : Jvm.MethodName) ({ cls := "CoatsOnChairs", name := "rest", desc := "(II)I" } : Jvm.MethodName)) ∈ gT := gT_mem 544 rfl rfl
set_option maxRecDepth 100000 in
theorem q545 : (Jvm.Cond.code ({ cls := "CoatsOnChairs", name := "rest", desc := "(II)I" } : Jvm.MethodName) prog_1_method_14_code (3 : Nat) (Option.some Jvm.ClassFile.FieldType.int)) ∈ gT := gT_mem 545 rfl rfl
set_option maxRecDepth 100000 in
theorem q546 : (Jvm.Cond.methodLink "CoatsOnChairs" (176 : Nat) ({ cls := "CoatsOnChairs$Game", name := "playBy", desc := "(I)V" } : Jvm.MethodName)) ∈ gT := gT_mem 546 rfl rfl
set_option maxRecDepth 100000 in
theorem q547 : (Jvm.Cond.instanceMethod ({ cls := "CoatsOnChairs$Game", name := "playBy", desc := "(I)V" } : Jvm.MethodName)) ∈ gT := gT_mem 547 rfl rfl
set_option maxRecDepth 100000 in
theorem q548 : (Jvm.Cond.selects "CoatsOnChairs$Game" ({ cls := "CoatsOnChairs$Game", name := "playBy", desc := "(I)V" } : Jvm.MethodName) ({ cls := "CoatsOnChairs$Game", name := "playBy", desc := "(I)V" } : Jvm.MethodName)) ∈ gT := gT_mem 548 rfl rfl
set_option maxRecDepth 100000 in
theorem q549 : (Jvm.Cond.code ({ cls := "CoatsOnChairs$Game", name := "playBy", desc := "(I)V" } : Jvm.MethodName) prog_3_method_3_code (3 : Nat) (Option.none : Option Jvm.ClassFile.FieldType)) ∈ gT := gT_mem 549 rfl rfl
set_option maxRecDepth 100000 in
theorem q550 : (Jvm.Cond.constantLong "CoatsOnChairs$Game" (30 : Nat) (-1 : Int64)) ∈ gT := gT_mem 550 rfl rfl
set_option maxRecDepth 100000 in
theorem q551 : (Jvm.Cond.methodLink "CoatsOnChairs$Game" (32 : Nat) ({ cls := "java/util/Arrays", name := "fill", desc := "([JJ)V" } : Jvm.MethodName)) ∈ gT := gT_mem 551 rfl rfl
set_option maxRecDepth 100000 in
theorem q552 : (Jvm.Cond.static ({ cls := "java/util/Arrays", name := "fill", desc := "([JJ)V" } : Jvm.MethodName)) ∈ gT := gT_mem 552 rfl rfl
set_option maxRecDepth 100000 in
theorem q553 : (Jvm.Cond.code ({ cls := "java/util/Arrays", name := "fill", desc := "([JJ)V" } : Jvm.MethodName) prog_13_method_101_code (5 : Nat) (Option.none : Option Jvm.ClassFile.FieldType)) ∈ gT := gT_mem 553 rfl rfl
set_option maxRecDepth 100000 in
theorem q554 : (Jvm.Cond.methodLink "CoatsOnChairs$Game" (38 : Nat) ({ cls := "CoatsOnChairs$Room", name := "readerCount", desc := "()I" } : Jvm.MethodName)) ∈ gT := gT_mem 554 rfl rfl
set_option maxRecDepth 100000 in
theorem q555 : (Jvm.Cond.methodLink "CoatsOnChairs$Game" (44 : Nat) ({ cls := "CoatsOnChairs$Room", name := "goesOff", desc := "(I)Z" } : Jvm.MethodName)) ∈ gT := gT_mem 555 rfl rfl
set_option maxRecDepth 100000 in
theorem q556 : (Jvm.Cond.instanceMethod ({ cls := "CoatsOnChairs$Room", name := "goesOff", desc := "(I)Z" } : Jvm.MethodName)) ∈ gT := gT_mem 556 rfl rfl
set_option maxRecDepth 100000 in
theorem q557 : (Jvm.Cond.selects "CoatsOnChairs$Room" ({ cls := "CoatsOnChairs$Room", name := "goesOff", desc := "(I)Z" } : Jvm.MethodName) ({ cls := "CoatsOnChairs$Room", name := "goesOff", desc := "(I)Z" } : Jvm.MethodName)) ∈ gT := gT_mem 557 rfl rfl
set_option maxRecDepth 100000 in
theorem q558 : (Jvm.Cond.code ({ cls := "CoatsOnChairs$Room", name := "goesOff", desc := "(I)Z" } : Jvm.MethodName) prog_5_method_19_code (2 : Nat) (Option.some Jvm.ClassFile.FieldType.boolean)) ∈ gT := gT_mem 558 rfl rfl
set_option maxRecDepth 100000 in
theorem q559 : (Jvm.Cond.methodLink "CoatsOnChairs$Room" (49 : Nat) ({ cls := "CoatsOnChairs$Room", name := "number", desc := "(II)I" } : Jvm.MethodName)) ∈ gT := gT_mem 559 rfl rfl
set_option maxRecDepth 100000 in
theorem q560 : (Jvm.Cond.methodLink "CoatsOnChairs" (179 : Nat) ({ cls := "CoatsOnChairs$Game", name := "isRest", desc := "(I)Z" } : Jvm.MethodName)) ∈ gT := gT_mem 560 rfl rfl
set_option maxRecDepth 100000 in
theorem q561 : (Jvm.Cond.instanceMethod ({ cls := "CoatsOnChairs$Game", name := "isRest", desc := "(I)Z" } : Jvm.MethodName)) ∈ gT := gT_mem 561 rfl rfl
set_option maxRecDepth 100000 in
theorem q562 : (Jvm.Cond.selects "CoatsOnChairs$Game" ({ cls := "CoatsOnChairs$Game", name := "isRest", desc := "(I)Z" } : Jvm.MethodName) ({ cls := "CoatsOnChairs$Game", name := "isRest", desc := "(I)Z" } : Jvm.MethodName)) ∈ gT := gT_mem 562 rfl rfl
set_option maxRecDepth 100000 in
theorem q563 : (Jvm.Cond.code ({ cls := "CoatsOnChairs$Game", name := "isRest", desc := "(I)Z" } : Jvm.MethodName) prog_3_method_4_code (3 : Nat) (Option.some Jvm.ClassFile.FieldType.boolean)) ∈ gT := gT_mem 563 rfl rfl
set_option maxRecDepth 100000 in
theorem q564 : (Jvm.Cond.methodLink "CoatsOnChairs$Game" (48 : Nat) ({ cls := "CoatsOnChairs$Game", name := "minutesIn", desc := "(II)I" } : Jvm.MethodName)) ∈ gT := gT_mem 564 rfl rfl
set_option maxRecDepth 100000 in
theorem q566 : (Jvm.Cond.instanceMethod ({ cls := "CoatsOnChairs$Game", name := "minutesIn", desc := "(II)I" } : Jvm.MethodName)) ∈ gT := gT_mem 566 rfl rfl
set_option maxRecDepth 100000 in
theorem q567 : (Jvm.Cond.code ({ cls := "CoatsOnChairs$Game", name := "minutesIn", desc := "(II)I" } : Jvm.MethodName) prog_3_method_5_code (4 : Nat) (Option.some Jvm.ClassFile.FieldType.int)) ∈ gT := gT_mem 567 rfl rfl
set_option maxRecDepth 100000 in
theorem q568 : (Jvm.Cond.methodLink "CoatsOnChairs$Game" (52 : Nat) ({ cls := "CoatsOnChairs$Day", name := "open", desc := "(LCoatsOnChairs$Room;II)V" } : Jvm.MethodName)) ∈ gT := gT_mem 568 rfl rfl
set_option maxRecDepth 100000 in
theorem q569 : (Jvm.Cond.methodLink "CoatsOnChairs$Game" (58 : Nat) ({ cls := "CoatsOnChairs$Day", name := "runTo", desc := "(I)V" } : Jvm.MethodName)) ∈ gT := gT_mem 569 rfl rfl
set_option maxRecDepth 100000 in
theorem q570 : (Jvm.Cond.methodLink "CoatsOnChairs$Game" (62 : Nat) ({ cls := "CoatsOnChairs$Day", name := "packedMinutes", desc := "()J" } : Jvm.MethodName)) ∈ gT := gT_mem 570 rfl rfl
set_option maxRecDepth 100000 in
theorem q571 : (Jvm.Cond.instanceMethod ({ cls := "CoatsOnChairs$Day", name := "packedMinutes", desc := "()J" } : Jvm.MethodName)) ∈ gT := gT_mem 571 rfl rfl
set_option maxRecDepth 100000 in
theorem q572 : (Jvm.Cond.selects "CoatsOnChairs$Day" ({ cls := "CoatsOnChairs$Day", name := "packedMinutes", desc := "()J" } : Jvm.MethodName) ({ cls := "CoatsOnChairs$Day", name := "packedMinutes", desc := "()J" } : Jvm.MethodName)) ∈ gT := gT_mem 572 rfl rfl
set_option maxRecDepth 100000 in
theorem q573 : (Jvm.Cond.code ({ cls := "CoatsOnChairs$Day", name := "packedMinutes", desc := "()J" } : Jvm.MethodName) prog_2_method_24_code (4 : Nat) (Option.some Jvm.ClassFile.FieldType.long)) ∈ gT := gT_mem 573 rfl rfl
set_option maxRecDepth 100000 in
theorem q574 : (Jvm.Cond.methodLink "CoatsOnChairsLaw" (74 : Nat) ({ cls := "CoatsOnChairs", name := "rests", desc := "(II)I" } : Jvm.MethodName)) ∈ gT := gT_mem 574 rfl rfl
set_option maxRecDepth 100000 in
theorem q575 : (Jvm.Cond.instanceMethod ({ cls := "CoatsOnChairs", name := "rests", desc := "(II)I" } : Jvm.MethodName)) ∈ gT := gT_mem 575 rfl rfl
set_option maxRecDepth 100000 in
theorem q576 : (Jvm.Cond.selects "CoatsOnChairs" ({ cls := "CoatsOnChairs", name := "rests", desc := "(II)I" } : Jvm.MethodName) ({ cls := "CoatsOnChairs", name := "rests", desc := "(II)I" } : Jvm.MethodName)) ∈ gT := gT_mem 576 rfl rfl
set_option maxRecDepth 100000 in
theorem q577 : (Jvm.Cond.code ({ cls := "CoatsOnChairs", name := "rests", desc := "(II)I" } : Jvm.MethodName) prog_1_method_15_code (7 : Nat) (Option.some Jvm.ClassFile.FieldType.int)) ∈ gT := gT_mem 577 rfl rfl
set_option maxRecDepth 100000 in
theorem q578 : (Jvm.Cond.methodLink "CoatsOnChairsLaw" (78 : Nat) ({ cls := "CoatsOnChairs", name := "rounds", desc := "(II)I" } : Jvm.MethodName)) ∈ gT := gT_mem 578 rfl rfl
set_option maxRecDepth 100000 in
theorem q579 : (Jvm.Cond.instanceMethod ({ cls := "CoatsOnChairs", name := "rounds", desc := "(II)I" } : Jvm.MethodName)) ∈ gT := gT_mem 579 rfl rfl
set_option maxRecDepth 100000 in
theorem q580 : (Jvm.Cond.selects "CoatsOnChairs" ({ cls := "CoatsOnChairs", name := "rounds", desc := "(II)I" } : Jvm.MethodName) ({ cls := "CoatsOnChairs", name := "rounds", desc := "(II)I" } : Jvm.MethodName)) ∈ gT := gT_mem 580 rfl rfl
set_option maxRecDepth 100000 in
theorem q581 : (Jvm.Cond.code ({ cls := "CoatsOnChairs", name := "rounds", desc := "(II)I" } : Jvm.MethodName) prog_1_method_16_code (3 : Nat) (Option.some Jvm.ClassFile.FieldType.int)) ∈ gT := gT_mem 581 rfl rfl
set_option maxRecDepth 100000 in
theorem q582 : (Jvm.Cond.methodLink "CoatsOnChairs" (182 : Nat) ({ cls := "CoatsOnChairs$Day", name := "seenEvery", desc := "(I)I" } : Jvm.MethodName)) ∈ gT := gT_mem 582 rfl rfl
set_option maxRecDepth 100000 in
theorem q583 : (Jvm.Cond.methodLink "CoatsOnChairsLaw" (82 : Nat) ({ cls := "CoatsOnChairs", name := "often", desc := "(II)I" } : Jvm.MethodName)) ∈ gT := gT_mem 583 rfl rfl
set_option maxRecDepth 100000 in
theorem q584 : (Jvm.Cond.instanceMethod ({ cls := "CoatsOnChairs", name := "often", desc := "(II)I" } : Jvm.MethodName)) ∈ gT := gT_mem 584 rfl rfl
set_option maxRecDepth 100000 in
theorem q585 : (Jvm.Cond.selects "CoatsOnChairs" ({ cls := "CoatsOnChairs", name := "often", desc := "(II)I" } : Jvm.MethodName) ({ cls := "CoatsOnChairs", name := "often", desc := "(II)I" } : Jvm.MethodName)) ∈ gT := gT_mem 585 rfl rfl
set_option maxRecDepth 100000 in
theorem q586 : (Jvm.Cond.code ({ cls := "CoatsOnChairs", name := "often", desc := "(II)I" } : Jvm.MethodName) prog_1_method_17_code (5 : Nat) (Option.some Jvm.ClassFile.FieldType.int)) ∈ gT := gT_mem 586 rfl rfl
set_option maxRecDepth 100000 in
theorem q587 : (Jvm.Cond.methodLink "CoatsOnChairs" (185 : Nat) ({ cls := "java/lang/Math", name := "abs", desc := "(I)I" } : Jvm.MethodName)) ∈ gT := gT_mem 587 rfl rfl
set_option maxRecDepth 100000 in
theorem q588 : (Jvm.Cond.static ({ cls := "java/lang/Math", name := "abs", desc := "(I)I" } : Jvm.MethodName)) ∈ gT := gT_mem 588 rfl rfl
set_option maxRecDepth 100000 in
theorem q589 : (Jvm.Cond.code ({ cls := "java/lang/Math", name := "abs", desc := "(I)I" } : Jvm.MethodName) prog_11_method_59_code (1 : Nat) (Option.some Jvm.ClassFile.FieldType.int)) ∈ gT := gT_mem 589 rfl rfl
set_option maxRecDepth 100000 in
theorem q590 : (Jvm.Cond.methodLink "CoatsOnChairsLaw" (86 : Nat) ({ cls := "CoatsOnChairs", name := "porter", desc := "(I)I" } : Jvm.MethodName)) ∈ gT := gT_mem 590 rfl rfl
set_option maxRecDepth 100000 in
theorem q591 : (Jvm.Cond.instanceMethod ({ cls := "CoatsOnChairs", name := "porter", desc := "(I)I" } : Jvm.MethodName)) ∈ gT := gT_mem 591 rfl rfl
set_option maxRecDepth 100000 in
theorem q592 : (Jvm.Cond.selects "CoatsOnChairs" ({ cls := "CoatsOnChairs", name := "porter", desc := "(I)I" } : Jvm.MethodName) ({ cls := "CoatsOnChairs", name := "porter", desc := "(I)I" } : Jvm.MethodName)) ∈ gT := gT_mem 592 rfl rfl
set_option maxRecDepth 100000 in
theorem q593 : (Jvm.Cond.code ({ cls := "CoatsOnChairs", name := "porter", desc := "(I)I" } : Jvm.MethodName) prog_1_method_18_code (3 : Nat) (Option.some Jvm.ClassFile.FieldType.int)) ∈ gT := gT_mem 593 rfl rfl
set_option maxRecDepth 100000 in
theorem q594 : (Jvm.Cond.methodLink "CoatsOnChairs" (190 : Nat) ({ cls := "CoatsOnChairs$Room", name := "cardMinutes", desc := "()I" } : Jvm.MethodName)) ∈ gT := gT_mem 594 rfl rfl
set_option maxRecDepth 100000 in
theorem q595 : (Jvm.Cond.methodLink "CoatsOnChairs" (193 : Nat) ({ cls := "CoatsOnChairs", name := "shutOutByCards", desc := "(II)I" } : Jvm.MethodName)) ∈ gT := gT_mem 595 rfl rfl
set_option maxRecDepth 100000 in
theorem q597 : (Jvm.Cond.instanceMethod ({ cls := "CoatsOnChairs", name := "shutOutByCards", desc := "(II)I" } : Jvm.MethodName)) ∈ gT := gT_mem 597 rfl rfl
set_option maxRecDepth 100000 in
theorem q598 : (Jvm.Cond.code ({ cls := "CoatsOnChairs", name := "shutOutByCards", desc := "(II)I" } : Jvm.MethodName) prog_1_method_30_code (3 : Nat) (Option.some Jvm.ClassFile.FieldType.int)) ∈ gT := gT_mem 598 rfl rfl
set_option maxRecDepth 100000 in
theorem q599 : (Jvm.Cond.methodLink "CoatsOnChairs" (223 : Nat) ({ cls := "CoatsOnChairs$Day", name := "useCards", desc := "(II)V" } : Jvm.MethodName)) ∈ gT := gT_mem 599 rfl rfl
set_option maxRecDepth 100000 in
theorem q600 : (Jvm.Cond.methodLink "CoatsOnChairsLaw" (90 : Nat) ({ cls := "CoatsOnChairs", name := "card", desc := "(I)I" } : Jvm.MethodName)) ∈ gT := gT_mem 600 rfl rfl
set_option maxRecDepth 100000 in
theorem q601 : (Jvm.Cond.instanceMethod ({ cls := "CoatsOnChairs", name := "card", desc := "(I)I" } : Jvm.MethodName)) ∈ gT := gT_mem 601 rfl rfl
set_option maxRecDepth 100000 in
theorem q602 : (Jvm.Cond.selects "CoatsOnChairs" ({ cls := "CoatsOnChairs", name := "card", desc := "(I)I" } : Jvm.MethodName) ({ cls := "CoatsOnChairs", name := "card", desc := "(I)I" } : Jvm.MethodName)) ∈ gT := gT_mem 602 rfl rfl
set_option maxRecDepth 100000 in
theorem q603 : (Jvm.Cond.code ({ cls := "CoatsOnChairs", name := "card", desc := "(I)I" } : Jvm.MethodName) prog_1_method_19_code (3 : Nat) (Option.some Jvm.ClassFile.FieldType.int)) ∈ gT := gT_mem 603 rfl rfl
set_option maxRecDepth 100000 in
theorem q604 : (Jvm.Cond.methodLink "CoatsOnChairs" (196 : Nat) ({ cls := "CoatsOnChairs$Room", name := "porterMinutes", desc := "()I" } : Jvm.MethodName)) ∈ gT := gT_mem 604 rfl rfl
set_option maxRecDepth 100000 in
theorem q605 : (Jvm.Cond.methodLink "CoatsOnChairsLaw" (94 : Nat) ({ cls := "CoatsOnChairs", name := "booked", desc := "(IIII)J" } : Jvm.MethodName)) ∈ gT := gT_mem 605 rfl rfl
set_option maxRecDepth 100000 in
theorem q606 : (Jvm.Cond.instanceMethod ({ cls := "CoatsOnChairs", name := "booked", desc := "(IIII)J" } : Jvm.MethodName)) ∈ gT := gT_mem 606 rfl rfl
set_option maxRecDepth 100000 in
theorem q607 : (Jvm.Cond.selects "CoatsOnChairs" ({ cls := "CoatsOnChairs", name := "booked", desc := "(IIII)J" } : Jvm.MethodName) ({ cls := "CoatsOnChairs", name := "booked", desc := "(IIII)J" } : Jvm.MethodName)) ∈ gT := gT_mem 607 rfl rfl
set_option maxRecDepth 100000 in
theorem q608 : (Jvm.Cond.code ({ cls := "CoatsOnChairs", name := "booked", desc := "(IIII)J" } : Jvm.MethodName) prog_1_method_20_code (11 : Nat) (Option.some Jvm.ClassFile.FieldType.long)) ∈ gT := gT_mem 608 rfl rfl
set_option maxRecDepth 100000 in
theorem q609 : (Jvm.Cond.constantLong "CoatsOnChairs" (199 : Nat) (-1 : Int64)) ∈ gT := gT_mem 609 rfl rfl
set_option maxRecDepth 100000 in
theorem q610 : (Jvm.Cond.methodLink "CoatsOnChairs" (201 : Nat) ({ cls := "CoatsOnChairs$Odds", name := "noMoreThan", desc := "(III)J" } : Jvm.MethodName)) ∈ gT := gT_mem 610 rfl rfl
set_option maxRecDepth 100000 in
theorem q611 : (Jvm.Cond.static ({ cls := "CoatsOnChairs$Odds", name := "noMoreThan", desc := "(III)J" } : Jvm.MethodName)) ∈ gT := gT_mem 611 rfl rfl
set_option maxRecDepth 100000 in
theorem q612 : (Jvm.Cond.code ({ cls := "CoatsOnChairs$Odds", name := "noMoreThan", desc := "(III)J" } : Jvm.MethodName) prog_4_method_2_code (8 : Nat) (Option.some Jvm.ClassFile.FieldType.long)) ∈ gT := gT_mem 612 rfl rfl
set_option maxRecDepth 100000 in
theorem q613 : (Jvm.Cond.methodLink "CoatsOnChairs$Odds" (7 : Nat) ({ cls := "CoatsOnChairs$Odds", name := "power", desc := "(II)J" } : Jvm.MethodName)) ∈ gT := gT_mem 613 rfl rfl
set_option maxRecDepth 100000 in
theorem q614 : (Jvm.Cond.static ({ cls := "CoatsOnChairs$Odds", name := "power", desc := "(II)J" } : Jvm.MethodName)) ∈ gT := gT_mem 614 rfl rfl
set_option maxRecDepth 100000 in
theorem q615 : (Jvm.Cond.code ({ cls := "CoatsOnChairs$Odds", name := "power", desc := "(II)J" } : Jvm.MethodName) prog_4_method_3_code (5 : Nat) (Option.some Jvm.ClassFile.FieldType.long)) ∈ gT := gT_mem 615 rfl rfl
set_option maxRecDepth 100000 in
theorem q616 : (Jvm.Cond.methodLink "CoatsOnChairs" (207 : Nat) ({ cls := "CoatsOnChairs$Odds", name := "power", desc := "(II)J" } : Jvm.MethodName)) ∈ gT := gT_mem 616 rfl rfl
set_option maxRecDepth 100000 in
theorem q617 : (Jvm.Cond.methodLink "CoatsOnChairs" (211 : Nat) ({ cls := "CoatsOnChairs$Odds", name := "commonDivisor", desc := "(JJ)J" } : Jvm.MethodName)) ∈ gT := gT_mem 617 rfl rfl
set_option maxRecDepth 100000 in
theorem q618 : (Jvm.Cond.static ({ cls := "CoatsOnChairs$Odds", name := "commonDivisor", desc := "(JJ)J" } : Jvm.MethodName)) ∈ gT := gT_mem 618 rfl rfl
set_option maxRecDepth 100000 in
theorem q619 : (Jvm.Cond.code ({ cls := "CoatsOnChairs$Odds", name := "commonDivisor", desc := "(JJ)J" } : Jvm.MethodName) prog_4_method_4_code (11 : Nat) (Option.some Jvm.ClassFile.FieldType.long)) ∈ gT := gT_mem 619 rfl rfl
set_option maxRecDepth 100000 in
theorem q620 : (Jvm.Cond.methodLink "CoatsOnChairsLaw" (99 : Nat) ({ cls := "CoatsOnChairs", name := "over", desc := "(III)I" } : Jvm.MethodName)) ∈ gT := gT_mem 620 rfl rfl
set_option maxRecDepth 100000 in
theorem q621 : (Jvm.Cond.instanceMethod ({ cls := "CoatsOnChairs", name := "over", desc := "(III)I" } : Jvm.MethodName)) ∈ gT := gT_mem 621 rfl rfl
set_option maxRecDepth 100000 in
theorem q622 : (Jvm.Cond.selects "CoatsOnChairs" ({ cls := "CoatsOnChairs", name := "over", desc := "(III)I" } : Jvm.MethodName) ({ cls := "CoatsOnChairs", name := "over", desc := "(III)I" } : Jvm.MethodName)) ∈ gT := gT_mem 622 rfl rfl
set_option maxRecDepth 100000 in
theorem q623 : (Jvm.Cond.code ({ cls := "CoatsOnChairs", name := "over", desc := "(III)I" } : Jvm.MethodName) prog_1_method_21_code (5 : Nat) (Option.some Jvm.ClassFile.FieldType.int)) ∈ gT := gT_mem 623 rfl rfl
set_option maxRecDepth 100000 in
theorem q624 : (Jvm.Cond.constantLong "CoatsOnChairs" (215 : Nat) (100 : Int64)) ∈ gT := gT_mem 624 rfl rfl
set_option maxRecDepth 100000 in
theorem q625 : (Jvm.Cond.methodLink "CoatsOnChairsLaw" (103 : Nat) ({ cls := "CoatsOnChairs", name := "dare", desc := "(III)I" } : Jvm.MethodName)) ∈ gT := gT_mem 625 rfl rfl
set_option maxRecDepth 100000 in
theorem q626 : (Jvm.Cond.instanceMethod ({ cls := "CoatsOnChairs", name := "dare", desc := "(III)I" } : Jvm.MethodName)) ∈ gT := gT_mem 626 rfl rfl
set_option maxRecDepth 100000 in
theorem q627 : (Jvm.Cond.selects "CoatsOnChairs" ({ cls := "CoatsOnChairs", name := "dare", desc := "(III)I" } : Jvm.MethodName) ({ cls := "CoatsOnChairs", name := "dare", desc := "(III)I" } : Jvm.MethodName)) ∈ gT := gT_mem 627 rfl rfl
set_option maxRecDepth 100000 in
theorem q628 : (Jvm.Cond.code ({ cls := "CoatsOnChairs", name := "dare", desc := "(III)I" } : Jvm.MethodName) prog_1_method_22_code (8 : Nat) (Option.some Jvm.ClassFile.FieldType.int)) ∈ gT := gT_mem 628 rfl rfl
set_option maxRecDepth 100000 in
theorem q629 : (Jvm.Cond.methodLink "CoatsOnChairs" (217 : Nat) ({ cls := "CoatsOnChairs$Room", name := "goesOff", desc := "(I)Z" } : Jvm.MethodName)) ∈ gT := gT_mem 629 rfl rfl
set_option maxRecDepth 100000 in
theorem q630 : (Jvm.Cond.methodLink "CoatsOnChairsLaw" (107 : Nat) ({ cls := "CoatsOnChairs", name := "drawn", desc := "(II)I" } : Jvm.MethodName)) ∈ gT := gT_mem 630 rfl rfl
set_option maxRecDepth 100000 in
theorem q631 : (Jvm.Cond.instanceMethod ({ cls := "CoatsOnChairs", name := "drawn", desc := "(II)I" } : Jvm.MethodName)) ∈ gT := gT_mem 631 rfl rfl
set_option maxRecDepth 100000 in
theorem q632 : (Jvm.Cond.selects "CoatsOnChairs" ({ cls := "CoatsOnChairs", name := "drawn", desc := "(II)I" } : Jvm.MethodName) ({ cls := "CoatsOnChairs", name := "drawn", desc := "(II)I" } : Jvm.MethodName)) ∈ gT := gT_mem 632 rfl rfl
set_option maxRecDepth 100000 in
theorem q633 : (Jvm.Cond.code ({ cls := "CoatsOnChairs", name := "drawn", desc := "(II)I" } : Jvm.MethodName) prog_1_method_23_code (3 : Nat) (Option.some Jvm.ClassFile.FieldType.int)) ∈ gT := gT_mem 633 rfl rfl
set_option maxRecDepth 100000 in
theorem q634 : (Jvm.Cond.methodLink "CoatsOnChairs" (220 : Nat) ({ cls := "CoatsOnChairs", name := "shutOutByDraw", desc := "(II)I" } : Jvm.MethodName)) ∈ gT := gT_mem 634 rfl rfl
set_option maxRecDepth 100000 in
theorem q636 : (Jvm.Cond.instanceMethod ({ cls := "CoatsOnChairs", name := "shutOutByDraw", desc := "(II)I" } : Jvm.MethodName)) ∈ gT := gT_mem 636 rfl rfl
set_option maxRecDepth 100000 in
theorem q637 : (Jvm.Cond.code ({ cls := "CoatsOnChairs", name := "shutOutByDraw", desc := "(II)I" } : Jvm.MethodName) prog_1_method_31_code (3 : Nat) (Option.some Jvm.ClassFile.FieldType.int)) ∈ gT := gT_mem 637 rfl rfl
set_option maxRecDepth 100000 in
theorem q638 : (Jvm.Cond.methodLink "CoatsOnChairs" (227 : Nat) ({ cls := "CoatsOnChairs$Day", name := "comeLater", desc := "(I)V" } : Jvm.MethodName)) ∈ gT := gT_mem 638 rfl rfl
set_option maxRecDepth 100000 in
theorem q639 : (Jvm.Cond.instanceMethod ({ cls := "CoatsOnChairs$Day", name := "comeLater", desc := "(I)V" } : Jvm.MethodName)) ∈ gT := gT_mem 639 rfl rfl
set_option maxRecDepth 100000 in
theorem q640 : (Jvm.Cond.selects "CoatsOnChairs$Day" ({ cls := "CoatsOnChairs$Day", name := "comeLater", desc := "(I)V" } : Jvm.MethodName) ({ cls := "CoatsOnChairs$Day", name := "comeLater", desc := "(I)V" } : Jvm.MethodName)) ∈ gT := gT_mem 640 rfl rfl
set_option maxRecDepth 100000 in
theorem q641 : (Jvm.Cond.code ({ cls := "CoatsOnChairs$Day", name := "comeLater", desc := "(I)V" } : Jvm.MethodName) prog_2_method_4_code (6 : Nat) (Option.none : Option Jvm.ClassFile.FieldType)) ∈ gT := gT_mem 641 rfl rfl
set_option maxRecDepth 100000 in
theorem q642 : (Jvm.Cond.methodLink "CoatsOnChairs$Day" (106 : Nat) ({ cls := "CoatsOnChairs$Room", name := "laterMinutes", desc := "()I" } : Jvm.MethodName)) ∈ gT := gT_mem 642 rfl rfl
set_option maxRecDepth 100000 in
theorem q643 : (Jvm.Cond.instanceMethod ({ cls := "CoatsOnChairs$Room", name := "laterMinutes", desc := "()I" } : Jvm.MethodName)) ∈ gT := gT_mem 643 rfl rfl
set_option maxRecDepth 100000 in
theorem q644 : (Jvm.Cond.selects "CoatsOnChairs$Room" ({ cls := "CoatsOnChairs$Room", name := "laterMinutes", desc := "()I" } : Jvm.MethodName) ({ cls := "CoatsOnChairs$Room", name := "laterMinutes", desc := "()I" } : Jvm.MethodName)) ∈ gT := gT_mem 644 rfl rfl
set_option maxRecDepth 100000 in
theorem q645 : (Jvm.Cond.code ({ cls := "CoatsOnChairs$Room", name := "laterMinutes", desc := "()I" } : Jvm.MethodName) prog_5_method_15_code (1 : Nat) (Option.some Jvm.ClassFile.FieldType.int)) ∈ gT := gT_mem 645 rfl rfl
set_option maxRecDepth 100000 in
theorem q646 : (Jvm.Cond.constantLong "CoatsOnChairs$Day" (109 : Nat) (7919 : Int64)) ∈ gT := gT_mem 646 rfl rfl
set_option maxRecDepth 100000 in
theorem q647 : (Jvm.Cond.constantLong "CoatsOnChairs$Day" (111 : Nat) (6151 : Int64)) ∈ gT := gT_mem 647 rfl rfl
set_option maxRecDepth 100000 in
theorem q648 : (Jvm.Cond.constantLong "CoatsOnChairs$Day" (113 : Nat) (65521 : Int64)) ∈ gT := gT_mem 648 rfl rfl
set_option maxRecDepth 100000 in
theorem q649 : (Jvm.Cond.methodLink "CoatsOnChairsLaw" (111 : Nat) ({ cls := "CoatsOnChairs", name := "ten", desc := "(II)I" } : Jvm.MethodName)) ∈ gT := gT_mem 649 rfl rfl
set_option maxRecDepth 100000 in
theorem q650 : (Jvm.Cond.instanceMethod ({ cls := "CoatsOnChairs", name := "ten", desc := "(II)I" } : Jvm.MethodName)) ∈ gT := gT_mem 650 rfl rfl
set_option maxRecDepth 100000 in
theorem q651 : (Jvm.Cond.selects "CoatsOnChairs" ({ cls := "CoatsOnChairs", name := "ten", desc := "(II)I" } : Jvm.MethodName) ({ cls := "CoatsOnChairs", name := "ten", desc := "(II)I" } : Jvm.MethodName)) ∈ gT := gT_mem 651 rfl rfl
set_option maxRecDepth 100000 in
theorem q652 : (Jvm.Cond.code ({ cls := "CoatsOnChairs", name := "ten", desc := "(II)I" } : Jvm.MethodName) prog_1_method_24_code (5 : Nat) (Option.some Jvm.ClassFile.FieldType.int)) ∈ gT := gT_mem 652 rfl rfl
set_option maxRecDepth 100000 in
theorem q653 : (Jvm.Cond.methodLink "CoatsOnChairsLaw" (115 : Nat) ({ cls := "CoatsOnChairs", name := "keep", desc := "()I" } : Jvm.MethodName)) ∈ gT := gT_mem 653 rfl rfl
set_option maxRecDepth 100000 in
theorem q654 : (Jvm.Cond.instanceMethod ({ cls := "CoatsOnChairs", name := "keep", desc := "()I" } : Jvm.MethodName)) ∈ gT := gT_mem 654 rfl rfl
set_option maxRecDepth 100000 in
theorem q655 : (Jvm.Cond.selects "CoatsOnChairs" ({ cls := "CoatsOnChairs", name := "keep", desc := "()I" } : Jvm.MethodName) ({ cls := "CoatsOnChairs", name := "keep", desc := "()I" } : Jvm.MethodName)) ∈ gT := gT_mem 655 rfl rfl
set_option maxRecDepth 100000 in
theorem q656 : (Jvm.Cond.code ({ cls := "CoatsOnChairs", name := "keep", desc := "()I" } : Jvm.MethodName) prog_1_method_25_code (1 : Nat) (Option.some Jvm.ClassFile.FieldType.int)) ∈ gT := gT_mem 656 rfl rfl
set_option maxRecDepth 100000 in
theorem q657 : (Jvm.Cond.methodLink "CoatsOnChairsLaw" (119 : Nat) ({ cls := "CoatsOnChairs", name := "back", desc := "()I" } : Jvm.MethodName)) ∈ gT := gT_mem 657 rfl rfl
set_option maxRecDepth 100000 in
theorem q658 : (Jvm.Cond.instanceMethod ({ cls := "CoatsOnChairs", name := "back", desc := "()I" } : Jvm.MethodName)) ∈ gT := gT_mem 658 rfl rfl
set_option maxRecDepth 100000 in
theorem q659 : (Jvm.Cond.selects "CoatsOnChairs" ({ cls := "CoatsOnChairs", name := "back", desc := "()I" } : Jvm.MethodName) ({ cls := "CoatsOnChairs", name := "back", desc := "()I" } : Jvm.MethodName)) ∈ gT := gT_mem 659 rfl rfl
set_option maxRecDepth 100000 in
theorem q660 : (Jvm.Cond.code ({ cls := "CoatsOnChairs", name := "back", desc := "()I" } : Jvm.MethodName) prog_1_method_26_code (1 : Nat) (Option.some Jvm.ClassFile.FieldType.int)) ∈ gT := gT_mem 660 rfl rfl
set_option maxRecDepth 100000 in
theorem q661 : (Jvm.Cond.methodLink "CoatsOnChairsLaw" (123 : Nat) ({ cls := "CoatsOnChairs", name := "count", desc := "(I)I" } : Jvm.MethodName)) ∈ gT := gT_mem 661 rfl rfl
set_option maxRecDepth 100000 in
theorem q662 : (Jvm.Cond.instanceMethod ({ cls := "CoatsOnChairs", name := "count", desc := "(I)I" } : Jvm.MethodName)) ∈ gT := gT_mem 662 rfl rfl
set_option maxRecDepth 100000 in
theorem q663 : (Jvm.Cond.selects "CoatsOnChairs" ({ cls := "CoatsOnChairs", name := "count", desc := "(I)I" } : Jvm.MethodName) ({ cls := "CoatsOnChairs", name := "count", desc := "(I)I" } : Jvm.MethodName)) ∈ gT := gT_mem 663 rfl rfl
set_option maxRecDepth 100000 in
theorem q664 : (Jvm.Cond.code ({ cls := "CoatsOnChairs", name := "count", desc := "(I)I" } : Jvm.MethodName) prog_1_method_27_code (2 : Nat) (Option.some Jvm.ClassFile.FieldType.int)) ∈ gT := gT_mem 664 rfl rfl
set_option maxRecDepth 100000 in
theorem q665 : (Jvm.Cond.classLink "CoatsOnChairsLaw" (10 : Nat) "CoatsOnChairsModel") ∈ gT := gT_mem 665 rfl rfl
set_option maxRecDepth 100000 in
theorem q666 : (Jvm.Cond.instantiable "CoatsOnChairsModel" (30 : Nat)) ∈ gT := gT_mem 666 rfl rfl
set_option maxRecDepth 100000 in
theorem q667 : (Jvm.Cond.methodLink "CoatsOnChairsLaw" (12 : Nat) ({ cls := "CoatsOnChairsModel", name := "<init>", desc := "()V" } : Jvm.MethodName)) ∈ gT := gT_mem 667 rfl rfl
set_option maxRecDepth 100000 in
theorem q668 : (Jvm.Cond.instanceMethod ({ cls := "CoatsOnChairsModel", name := "<init>", desc := "()V" } : Jvm.MethodName)) ∈ gT := gT_mem 668 rfl rfl
set_option maxRecDepth 100000 in
theorem q669 : (Jvm.Cond.code ({ cls := "CoatsOnChairsModel", name := "<init>", desc := "()V" } : Jvm.MethodName) prog_9_method_1_code (1 : Nat) (Option.none : Option Jvm.ClassFile.FieldType)) ∈ gT := gT_mem 669 rfl rfl
set_option maxRecDepth 100000 in
theorem q670 : (Jvm.Cond.methodLink "CoatsOnChairsModel" (1 : Nat) ({ cls := "java/lang/Object", name := "<init>", desc := "()V" } : Jvm.MethodName)) ∈ gT := gT_mem 670 rfl rfl
set_option maxRecDepth 100000 in
theorem q671 : (Jvm.Cond.methodLink "CoatsOnChairsModel" (72 : Nat) ({ cls := "CoatsOnChairsModel", name := "begins", desc := "()V" } : Jvm.MethodName)) ∈ gT := gT_mem 671 rfl rfl
set_option maxRecDepth 100000 in
theorem q673 : (Jvm.Cond.instanceMethod ({ cls := "CoatsOnChairsModel", name := "begins", desc := "()V" } : Jvm.MethodName)) ∈ gT := gT_mem 673 rfl rfl
set_option maxRecDepth 100000 in
theorem q674 : (Jvm.Cond.code ({ cls := "CoatsOnChairsModel", name := "begins", desc := "()V" } : Jvm.MethodName) prog_9_method_10_code (1 : Nat) (Option.none : Option Jvm.ClassFile.FieldType)) ∈ gT := gT_mem 674 rfl rfl
set_option maxRecDepth 100000 in
theorem q675 : (Jvm.Cond.methodLink "CoatsOnChairsModel" (75 : Nat) ({ cls := "CoatsOnChairsModel", name := "takes", desc := "()V" } : Jvm.MethodName)) ∈ gT := gT_mem 675 rfl rfl
set_option maxRecDepth 100000 in
theorem q677 : (Jvm.Cond.instanceMethod ({ cls := "CoatsOnChairsModel", name := "takes", desc := "()V" } : Jvm.MethodName)) ∈ gT := gT_mem 677 rfl rfl
set_option maxRecDepth 100000 in
theorem q678 : (Jvm.Cond.code ({ cls := "CoatsOnChairsModel", name := "takes", desc := "()V" } : Jvm.MethodName) prog_9_method_11_code (2 : Nat) (Option.none : Option Jvm.ClassFile.FieldType)) ∈ gT := gT_mem 678 rfl rfl
set_option maxRecDepth 100000 in
theorem q679 : (Jvm.Cond.fieldLink "CoatsOnChairsModel" (84 : Nat) "CoatsOnChairsModel" "length" "I") ∈ gT := gT_mem 679 rfl rfl
set_option maxRecDepth 100000 in
theorem q680 : (Jvm.Cond.fieldLink "CoatsOnChairsModel" (7 : Nat) "CoatsOnChairsModel" "text" "[B") ∈ gT := gT_mem 680 rfl rfl
set_option maxRecDepth 100000 in
theorem q681 : (Jvm.Cond.fieldLink "CoatsOnChairsModel" (88 : Nat) "CoatsOnChairsModel" "at" "I") ∈ gT := gT_mem 681 rfl rfl
set_option maxRecDepth 100000 in
theorem q682 : (Jvm.Cond.fieldLink "CoatsOnChairsModel" (13 : Nat) "CoatsOnChairsModel" "seats" "[I") ∈ gT := gT_mem 682 rfl rfl
set_option maxRecDepth 100000 in
theorem q683 : (Jvm.Cond.fieldLink "CoatsOnChairsModel" (17 : Nat) "CoatsOnChairsModel" "readers" "[I") ∈ gT := gT_mem 683 rfl rfl
set_option maxRecDepth 100000 in
theorem q684 : (Jvm.Cond.fieldLink "CoatsOnChairsModel" (20 : Nat) "CoatsOnChairsModel" "kind" "[I") ∈ gT := gT_mem 684 rfl rfl
set_option maxRecDepth 100000 in
theorem q685 : (Jvm.Cond.fieldLink "CoatsOnChairsModel" (23 : Nat) "CoatsOnChairsModel" "reader" "[I") ∈ gT := gT_mem 685 rfl rfl
set_option maxRecDepth 100000 in
theorem q686 : (Jvm.Cond.fieldLink "CoatsOnChairsModel" (26 : Nat) "CoatsOnChairsModel" "told" "[I") ∈ gT := gT_mem 686 rfl rfl
set_option maxRecDepth 100000 in
theorem q687 : (Jvm.Cond.fieldLink "CoatsOnChairsModel" (113 : Nat) "CoatsOnChairsModel" "holders" "I") ∈ gT := gT_mem 687 rfl rfl
set_option maxRecDepth 100000 in
theorem q688 : (Jvm.Cond.fieldLink "CoatsOnChairsModel" (116 : Nat) "CoatsOnChairsModel" "kept" "I") ∈ gT := gT_mem 688 rfl rfl
set_option maxRecDepth 100000 in
theorem q689 : (Jvm.Cond.fieldLink "CoatsOnChairsModel" (29 : Nat) "CoatsOnChairsModel" "keptHolders" "[I") ∈ gT := gT_mem 689 rfl rfl
set_option maxRecDepth 100000 in
theorem q690 : (Jvm.Cond.fieldLink "CoatsOnChairsModel" (32 : Nat) "CoatsOnChairsModel" "does" "[I") ∈ gT := gT_mem 690 rfl rfl
set_option maxRecDepth 100000 in
theorem q691 : (Jvm.Cond.fieldLink "CoatsOnChairsModel" (35 : Nat) "CoatsOnChairsModel" "place" "[I") ∈ gT := gT_mem 691 rfl rfl
set_option maxRecDepth 100000 in
theorem q692 : (Jvm.Cond.fieldLink "CoatsOnChairsModel" (38 : Nat) "CoatsOnChairsModel" "sat" "[I") ∈ gT := gT_mem 692 rfl rfl
set_option maxRecDepth 100000 in
theorem q693 : (Jvm.Cond.fieldLink "CoatsOnChairsModel" (41 : Nat) "CoatsOnChairsModel" "since" "[I") ∈ gT := gT_mem 693 rfl rfl
set_option maxRecDepth 100000 in
theorem q694 : (Jvm.Cond.fieldLink "CoatsOnChairsModel" (44 : Nat) "CoatsOnChairsModel" "went" "[I") ∈ gT := gT_mem 694 rfl rfl
set_option maxRecDepth 100000 in
theorem q695 : (Jvm.Cond.fieldLink "CoatsOnChairsModel" (47 : Nat) "CoatsOnChairsModel" "held" "[Z") ∈ gT := gT_mem 695 rfl rfl
set_option maxRecDepth 100000 in
theorem q696 : (Jvm.Cond.fieldLink "CoatsOnChairsModel" (51 : Nat) "CoatsOnChairsModel" "late" "[I") ∈ gT := gT_mem 696 rfl rfl
set_option maxRecDepth 100000 in
theorem q697 : (Jvm.Cond.fieldLink "CoatsOnChairsModel" (54 : Nat) "CoatsOnChairsModel" "sits" "[I") ∈ gT := gT_mem 697 rfl rfl
set_option maxRecDepth 100000 in
theorem q698 : (Jvm.Cond.fieldLink "CoatsOnChairsModel" (57 : Nat) "CoatsOnChairsModel" "holds" "[I") ∈ gT := gT_mem 698 rfl rfl
set_option maxRecDepth 100000 in
theorem q699 : (Jvm.Cond.fieldLink "CoatsOnChairsModel" (170 : Nat) "CoatsOnChairsModel" "used" "I") ∈ gT := gT_mem 699 rfl rfl
set_option maxRecDepth 100000 in
theorem q700 : (Jvm.Cond.fieldLink "CoatsOnChairsModel" (167 : Nat) "CoatsOnChairsModel" "empty" "I") ∈ gT := gT_mem 700 rfl rfl
set_option maxRecDepth 100000 in
theorem q701 : (Jvm.Cond.fieldLink "CoatsOnChairsModel" (149 : Nat) "CoatsOnChairsModel" "shut" "I") ∈ gT := gT_mem 701 rfl rfl
set_option maxRecDepth 100000 in
theorem q702 : (Jvm.Cond.fieldLink "CoatsOnChairsModel" (139 : Nat) "CoatsOnChairsModel" "thrown" "I") ∈ gT := gT_mem 702 rfl rfl
set_option maxRecDepth 100000 in
theorem q703 : (Jvm.Cond.fieldLink "CoatsOnChairsModel" (60 : Nat) "CoatsOnChairsModel" "seen" "[I") ∈ gT := gT_mem 703 rfl rfl
set_option maxRecDepth 100000 in
theorem q704 : (Jvm.Cond.fieldLink "CoatsOnChairsModel" (63 : Nat) "CoatsOnChairsModel" "sets" "[I") ∈ gT := gT_mem 704 rfl rfl
set_option maxRecDepth 100000 in
theorem q705 : (Jvm.Cond.fieldLink "CoatsOnChairsModel" (66 : Nat) "CoatsOnChairsModel" "ruled" "[I") ∈ gT := gT_mem 705 rfl rfl
set_option maxRecDepth 100000 in
theorem q706 : (Jvm.Cond.fieldLink "CoatsOnChairsModel" (211 : Nat) "CoatsOnChairsModel" "above" "J") ∈ gT := gT_mem 706 rfl rfl
set_option maxRecDepth 100000 in
theorem q707 : (Jvm.Cond.fieldLink "CoatsOnChairsModel" (215 : Nat) "CoatsOnChairsModel" "below" "J") ∈ gT := gT_mem 707 rfl rfl
set_option maxRecDepth 100000 in
theorem q708 : (Jvm.Cond.fieldLink "CoatsOnChairsModel" (69 : Nat) "CoatsOnChairsModel" "got" "[I") ∈ gT := gT_mem 708 rfl rfl
set_option maxRecDepth 100000 in
theorem q709 : (Jvm.Cond.lays "CoatsOnChairsModel" "CoatsOnChairsModel" "length" "I") ∈ gT := gT_mem 709 rfl rfl
set_option maxRecDepth 100000 in
theorem q710 : (Jvm.Cond.soleField "CoatsOnChairsModel" "length") ∈ gT := gT_mem 710 rfl rfl
set_option maxRecDepth 100000 in
theorem q711 : (Jvm.Cond.laysFinal "CoatsOnChairsModel" "CoatsOnChairsModel" "text" "[B") ∈ gT := gT_mem 711 rfl rfl
set_option maxRecDepth 100000 in
theorem q712 : (Jvm.Cond.soleField "CoatsOnChairsModel" "text") ∈ gT := gT_mem 712 rfl rfl
set_option maxRecDepth 100000 in
theorem q713 : (Jvm.Cond.lays "CoatsOnChairsModel" "CoatsOnChairsModel" "at" "I") ∈ gT := gT_mem 713 rfl rfl
set_option maxRecDepth 100000 in
theorem q714 : (Jvm.Cond.soleField "CoatsOnChairsModel" "at") ∈ gT := gT_mem 714 rfl rfl
set_option maxRecDepth 100000 in
theorem q715 : (Jvm.Cond.laysFinal "CoatsOnChairsModel" "CoatsOnChairsModel" "seats" "[I") ∈ gT := gT_mem 715 rfl rfl
set_option maxRecDepth 100000 in
theorem q716 : (Jvm.Cond.soleField "CoatsOnChairsModel" "seats") ∈ gT := gT_mem 716 rfl rfl
set_option maxRecDepth 100000 in
theorem q717 : (Jvm.Cond.laysFinal "CoatsOnChairsModel" "CoatsOnChairsModel" "readers" "[I") ∈ gT := gT_mem 717 rfl rfl
set_option maxRecDepth 100000 in
theorem q718 : (Jvm.Cond.soleField "CoatsOnChairsModel" "readers") ∈ gT := gT_mem 718 rfl rfl
set_option maxRecDepth 100000 in
theorem q719 : (Jvm.Cond.laysFinal "CoatsOnChairsModel" "CoatsOnChairsModel" "kind" "[I") ∈ gT := gT_mem 719 rfl rfl
set_option maxRecDepth 100000 in
theorem q720 : (Jvm.Cond.soleField "CoatsOnChairsModel" "kind") ∈ gT := gT_mem 720 rfl rfl
set_option maxRecDepth 100000 in
theorem q721 : (Jvm.Cond.laysFinal "CoatsOnChairsModel" "CoatsOnChairsModel" "reader" "[I") ∈ gT := gT_mem 721 rfl rfl
set_option maxRecDepth 100000 in
theorem q722 : (Jvm.Cond.soleField "CoatsOnChairsModel" "reader") ∈ gT := gT_mem 722 rfl rfl
set_option maxRecDepth 100000 in
theorem q723 : (Jvm.Cond.laysFinal "CoatsOnChairsModel" "CoatsOnChairsModel" "told" "[I") ∈ gT := gT_mem 723 rfl rfl
set_option maxRecDepth 100000 in
theorem q724 : (Jvm.Cond.soleField "CoatsOnChairsModel" "told") ∈ gT := gT_mem 724 rfl rfl
set_option maxRecDepth 100000 in
theorem q725 : (Jvm.Cond.lays "CoatsOnChairsModel" "CoatsOnChairsModel" "holders" "I") ∈ gT := gT_mem 725 rfl rfl
set_option maxRecDepth 100000 in
theorem q726 : (Jvm.Cond.soleField "CoatsOnChairsModel" "holders") ∈ gT := gT_mem 726 rfl rfl
set_option maxRecDepth 100000 in
theorem q727 : (Jvm.Cond.lays "CoatsOnChairsModel" "CoatsOnChairsModel" "kept" "I") ∈ gT := gT_mem 727 rfl rfl
set_option maxRecDepth 100000 in
theorem q728 : (Jvm.Cond.soleField "CoatsOnChairsModel" "kept") ∈ gT := gT_mem 728 rfl rfl
set_option maxRecDepth 100000 in
theorem q729 : (Jvm.Cond.laysFinal "CoatsOnChairsModel" "CoatsOnChairsModel" "keptHolders" "[I") ∈ gT := gT_mem 729 rfl rfl
set_option maxRecDepth 100000 in
theorem q730 : (Jvm.Cond.soleField "CoatsOnChairsModel" "keptHolders") ∈ gT := gT_mem 730 rfl rfl
set_option maxRecDepth 100000 in
theorem q731 : (Jvm.Cond.laysFinal "CoatsOnChairsModel" "CoatsOnChairsModel" "does" "[I") ∈ gT := gT_mem 731 rfl rfl
set_option maxRecDepth 100000 in
theorem q732 : (Jvm.Cond.soleField "CoatsOnChairsModel" "does") ∈ gT := gT_mem 732 rfl rfl
set_option maxRecDepth 100000 in
theorem q733 : (Jvm.Cond.laysFinal "CoatsOnChairsModel" "CoatsOnChairsModel" "place" "[I") ∈ gT := gT_mem 733 rfl rfl
set_option maxRecDepth 100000 in
theorem q734 : (Jvm.Cond.soleField "CoatsOnChairsModel" "place") ∈ gT := gT_mem 734 rfl rfl
set_option maxRecDepth 100000 in
theorem q735 : (Jvm.Cond.laysFinal "CoatsOnChairsModel" "CoatsOnChairsModel" "sat" "[I") ∈ gT := gT_mem 735 rfl rfl
set_option maxRecDepth 100000 in
theorem q736 : (Jvm.Cond.soleField "CoatsOnChairsModel" "sat") ∈ gT := gT_mem 736 rfl rfl
set_option maxRecDepth 100000 in
theorem q737 : (Jvm.Cond.laysFinal "CoatsOnChairsModel" "CoatsOnChairsModel" "since" "[I") ∈ gT := gT_mem 737 rfl rfl
set_option maxRecDepth 100000 in
theorem q738 : (Jvm.Cond.soleField "CoatsOnChairsModel" "since") ∈ gT := gT_mem 738 rfl rfl
set_option maxRecDepth 100000 in
theorem q739 : (Jvm.Cond.laysFinal "CoatsOnChairsModel" "CoatsOnChairsModel" "went" "[I") ∈ gT := gT_mem 739 rfl rfl
set_option maxRecDepth 100000 in
theorem q740 : (Jvm.Cond.soleField "CoatsOnChairsModel" "went") ∈ gT := gT_mem 740 rfl rfl
set_option maxRecDepth 100000 in
theorem q741 : (Jvm.Cond.laysFinal "CoatsOnChairsModel" "CoatsOnChairsModel" "held" "[Z") ∈ gT := gT_mem 741 rfl rfl
set_option maxRecDepth 100000 in
theorem q742 : (Jvm.Cond.soleField "CoatsOnChairsModel" "held") ∈ gT := gT_mem 742 rfl rfl
set_option maxRecDepth 100000 in
theorem q743 : (Jvm.Cond.laysFinal "CoatsOnChairsModel" "CoatsOnChairsModel" "late" "[I") ∈ gT := gT_mem 743 rfl rfl
set_option maxRecDepth 100000 in
theorem q744 : (Jvm.Cond.soleField "CoatsOnChairsModel" "late") ∈ gT := gT_mem 744 rfl rfl
set_option maxRecDepth 100000 in
theorem q745 : (Jvm.Cond.laysFinal "CoatsOnChairsModel" "CoatsOnChairsModel" "sits" "[I") ∈ gT := gT_mem 745 rfl rfl
set_option maxRecDepth 100000 in
theorem q746 : (Jvm.Cond.soleField "CoatsOnChairsModel" "sits") ∈ gT := gT_mem 746 rfl rfl
set_option maxRecDepth 100000 in
theorem q747 : (Jvm.Cond.laysFinal "CoatsOnChairsModel" "CoatsOnChairsModel" "holds" "[I") ∈ gT := gT_mem 747 rfl rfl
set_option maxRecDepth 100000 in
theorem q748 : (Jvm.Cond.soleField "CoatsOnChairsModel" "holds") ∈ gT := gT_mem 748 rfl rfl
set_option maxRecDepth 100000 in
theorem q749 : (Jvm.Cond.lays "CoatsOnChairsModel" "CoatsOnChairsModel" "used" "I") ∈ gT := gT_mem 749 rfl rfl
set_option maxRecDepth 100000 in
theorem q750 : (Jvm.Cond.soleField "CoatsOnChairsModel" "used") ∈ gT := gT_mem 750 rfl rfl
set_option maxRecDepth 100000 in
theorem q751 : (Jvm.Cond.lays "CoatsOnChairsModel" "CoatsOnChairsModel" "empty" "I") ∈ gT := gT_mem 751 rfl rfl
set_option maxRecDepth 100000 in
theorem q752 : (Jvm.Cond.soleField "CoatsOnChairsModel" "empty") ∈ gT := gT_mem 752 rfl rfl
set_option maxRecDepth 100000 in
theorem q753 : (Jvm.Cond.lays "CoatsOnChairsModel" "CoatsOnChairsModel" "shut" "I") ∈ gT := gT_mem 753 rfl rfl
set_option maxRecDepth 100000 in
theorem q754 : (Jvm.Cond.soleField "CoatsOnChairsModel" "shut") ∈ gT := gT_mem 754 rfl rfl
set_option maxRecDepth 100000 in
theorem q755 : (Jvm.Cond.lays "CoatsOnChairsModel" "CoatsOnChairsModel" "thrown" "I") ∈ gT := gT_mem 755 rfl rfl
set_option maxRecDepth 100000 in
theorem q756 : (Jvm.Cond.soleField "CoatsOnChairsModel" "thrown") ∈ gT := gT_mem 756 rfl rfl
set_option maxRecDepth 100000 in
theorem q757 : (Jvm.Cond.laysFinal "CoatsOnChairsModel" "CoatsOnChairsModel" "seen" "[I") ∈ gT := gT_mem 757 rfl rfl
set_option maxRecDepth 100000 in
theorem q758 : (Jvm.Cond.soleField "CoatsOnChairsModel" "seen") ∈ gT := gT_mem 758 rfl rfl
set_option maxRecDepth 100000 in
theorem q759 : (Jvm.Cond.laysFinal "CoatsOnChairsModel" "CoatsOnChairsModel" "sets" "[I") ∈ gT := gT_mem 759 rfl rfl
set_option maxRecDepth 100000 in
theorem q760 : (Jvm.Cond.soleField "CoatsOnChairsModel" "sets") ∈ gT := gT_mem 760 rfl rfl
set_option maxRecDepth 100000 in
theorem q761 : (Jvm.Cond.laysFinal "CoatsOnChairsModel" "CoatsOnChairsModel" "ruled" "[I") ∈ gT := gT_mem 761 rfl rfl
set_option maxRecDepth 100000 in
theorem q762 : (Jvm.Cond.soleField "CoatsOnChairsModel" "ruled") ∈ gT := gT_mem 762 rfl rfl
set_option maxRecDepth 100000 in
theorem q763 : (Jvm.Cond.lays "CoatsOnChairsModel" "CoatsOnChairsModel" "above" "J") ∈ gT := gT_mem 763 rfl rfl
set_option maxRecDepth 100000 in
theorem q764 : (Jvm.Cond.soleField "CoatsOnChairsModel" "above") ∈ gT := gT_mem 764 rfl rfl
set_option maxRecDepth 100000 in
theorem q765 : (Jvm.Cond.lays "CoatsOnChairsModel" "CoatsOnChairsModel" "below" "J") ∈ gT := gT_mem 765 rfl rfl
set_option maxRecDepth 100000 in
theorem q766 : (Jvm.Cond.soleField "CoatsOnChairsModel" "below") ∈ gT := gT_mem 766 rfl rfl
set_option maxRecDepth 100000 in
theorem q767 : (Jvm.Cond.laysFinal "CoatsOnChairsModel" "CoatsOnChairsModel" "got" "[I") ∈ gT := gT_mem 767 rfl rfl
set_option maxRecDepth 100000 in
theorem q768 : (Jvm.Cond.soleField "CoatsOnChairsModel" "got") ∈ gT := gT_mem 768 rfl rfl
set_option maxRecDepth 100000 in
theorem q769 : (Jvm.Cond.superclass "CoatsOnChairsModel" "java/lang/Object") ∈ gT := gT_mem 769 rfl rfl
set_option maxRecDepth 100000 in
theorem q770 : (Jvm.Cond.arrayClass Jvm.ClassFile.FieldType.boolean) ∈ gT := gT_mem 770 rfl rfl
set_option maxRecDepth 100000 in
theorem q771 : (Jvm.Cond.methodLink "CoatsOnChairsLaw" (19 : Nat) ({ cls := "CoatsOnChairsModel", name := "write", desc := "(IJ)I" } : Jvm.MethodName)) ∈ gT := gT_mem 771 rfl rfl
set_option maxRecDepth 100000 in
theorem q772 : (Jvm.Cond.instanceMethod ({ cls := "CoatsOnChairsModel", name := "write", desc := "(IJ)I" } : Jvm.MethodName)) ∈ gT := gT_mem 772 rfl rfl
set_option maxRecDepth 100000 in
theorem q773 : (Jvm.Cond.selects "CoatsOnChairsModel" ({ cls := "CoatsOnChairsModel", name := "write", desc := "(IJ)I" } : Jvm.MethodName) ({ cls := "CoatsOnChairsModel", name := "write", desc := "(IJ)I" } : Jvm.MethodName)) ∈ gT := gT_mem 773 rfl rfl
set_option maxRecDepth 100000 in
theorem q774 : (Jvm.Cond.code ({ cls := "CoatsOnChairsModel", name := "write", desc := "(IJ)I" } : Jvm.MethodName) prog_9_method_3_code (5 : Nat) (Option.some Jvm.ClassFile.FieldType.int)) ∈ gT := gT_mem 774 rfl rfl
set_option maxRecDepth 100000 in
theorem q775 : (Jvm.Cond.constantLong "CoatsOnChairsModel" (78 : Nat) (8 : Int64)) ∈ gT := gT_mem 775 rfl rfl
set_option maxRecDepth 100000 in
theorem q776 : (Jvm.Cond.methodLink "CoatsOnChairsModel" (80 : Nat) ({ cls := "CoatsOnChairsModel", name := "in", desc := "(JJJ)Z" } : Jvm.MethodName)) ∈ gT := gT_mem 776 rfl rfl
set_option maxRecDepth 100000 in
theorem q777 : (Jvm.Cond.static ({ cls := "CoatsOnChairsModel", name := "in", desc := "(JJJ)Z" } : Jvm.MethodName)) ∈ gT := gT_mem 777 rfl rfl
set_option maxRecDepth 100000 in
theorem q778 : (Jvm.Cond.code ({ cls := "CoatsOnChairsModel", name := "in", desc := "(JJJ)Z" } : Jvm.MethodName) prog_9_method_2_code (6 : Nat) (Option.some Jvm.ClassFile.FieldType.boolean)) ∈ gT := gT_mem 778 rfl rfl
set_option maxRecDepth 100000 in
theorem q779 : (Jvm.Cond.methodLink "CoatsOnChairsLaw" (24 : Nat) ({ cls := "CoatsOnChairsModel", name := "wipe", desc := "()I" } : Jvm.MethodName)) ∈ gT := gT_mem 779 rfl rfl
set_option maxRecDepth 100000 in
theorem q780 : (Jvm.Cond.instanceMethod ({ cls := "CoatsOnChairsModel", name := "wipe", desc := "()I" } : Jvm.MethodName)) ∈ gT := gT_mem 780 rfl rfl
set_option maxRecDepth 100000 in
theorem q781 : (Jvm.Cond.selects "CoatsOnChairsModel" ({ cls := "CoatsOnChairsModel", name := "wipe", desc := "()I" } : Jvm.MethodName) ({ cls := "CoatsOnChairsModel", name := "wipe", desc := "()I" } : Jvm.MethodName)) ∈ gT := gT_mem 781 rfl rfl
set_option maxRecDepth 100000 in
theorem q782 : (Jvm.Cond.code ({ cls := "CoatsOnChairsModel", name := "wipe", desc := "()I" } : Jvm.MethodName) prog_9_method_4_code (2 : Nat) (Option.some Jvm.ClassFile.FieldType.int)) ∈ gT := gT_mem 782 rfl rfl
set_option maxRecDepth 100000 in
theorem q783 : (Jvm.Cond.methodLink "CoatsOnChairsLaw" (28 : Nat) ({ cls := "CoatsOnChairsModel", name := "fault", desc := "()I" } : Jvm.MethodName)) ∈ gT := gT_mem 783 rfl rfl
set_option maxRecDepth 100000 in
theorem q784 : (Jvm.Cond.instanceMethod ({ cls := "CoatsOnChairsModel", name := "fault", desc := "()I" } : Jvm.MethodName)) ∈ gT := gT_mem 784 rfl rfl
set_option maxRecDepth 100000 in
theorem q785 : (Jvm.Cond.selects "CoatsOnChairsModel" ({ cls := "CoatsOnChairsModel", name := "fault", desc := "()I" } : Jvm.MethodName) ({ cls := "CoatsOnChairsModel", name := "fault", desc := "()I" } : Jvm.MethodName)) ∈ gT := gT_mem 785 rfl rfl
set_option maxRecDepth 100000 in
theorem q786 : (Jvm.Cond.code ({ cls := "CoatsOnChairsModel", name := "fault", desc := "()I" } : Jvm.MethodName) prog_9_method_12_code (2 : Nat) (Option.some Jvm.ClassFile.FieldType.int)) ∈ gT := gT_mem 786 rfl rfl
set_option maxRecDepth 100000 in
theorem q787 : (Jvm.Cond.methodLink "CoatsOnChairsModel" (119 : Nat) ({ cls := "CoatsOnChairsModel", name := "isItem", desc := "()Z" } : Jvm.MethodName)) ∈ gT := gT_mem 787 rfl rfl
set_option maxRecDepth 100000 in
theorem q789 : (Jvm.Cond.instanceMethod ({ cls := "CoatsOnChairsModel", name := "isItem", desc := "()Z" } : Jvm.MethodName)) ∈ gT := gT_mem 789 rfl rfl
set_option maxRecDepth 100000 in
theorem q790 : (Jvm.Cond.code ({ cls := "CoatsOnChairsModel", name := "isItem", desc := "()Z" } : Jvm.MethodName) prog_9_method_7_code (5 : Nat) (Option.some Jvm.ClassFile.FieldType.boolean)) ∈ gT := gT_mem 790 rfl rfl
set_option maxRecDepth 100000 in
theorem q791 : (Jvm.Cond.methodLink "CoatsOnChairsModel" (97 : Nat) ({ cls := "CoatsOnChairsModel", name := "parts", desc := "(I)I" } : Jvm.MethodName)) ∈ gT := gT_mem 791 rfl rfl
set_option maxRecDepth 100000 in
theorem q792 : (Jvm.Cond.static ({ cls := "CoatsOnChairsModel", name := "parts", desc := "(I)I" } : Jvm.MethodName)) ∈ gT := gT_mem 792 rfl rfl
set_option maxRecDepth 100000 in
theorem q793 : (Jvm.Cond.code ({ cls := "CoatsOnChairsModel", name := "parts", desc := "(I)I" } : Jvm.MethodName) prog_9_method_6_code (1 : Nat) (Option.some Jvm.ClassFile.FieldType.int)) ∈ gT := gT_mem 793 rfl rfl
set_option maxRecDepth 100000 in
theorem q794 : (Jvm.Cond.methodLink "CoatsOnChairsModel" (101 : Nat) ({ cls := "CoatsOnChairsModel", name := "number", desc := "()I" } : Jvm.MethodName)) ∈ gT := gT_mem 794 rfl rfl
set_option maxRecDepth 100000 in
theorem q796 : (Jvm.Cond.instanceMethod ({ cls := "CoatsOnChairsModel", name := "number", desc := "()I" } : Jvm.MethodName)) ∈ gT := gT_mem 796 rfl rfl
set_option maxRecDepth 100000 in
theorem q797 : (Jvm.Cond.code ({ cls := "CoatsOnChairsModel", name := "number", desc := "()I" } : Jvm.MethodName) prog_9_method_5_code (3 : Nat) (Option.some Jvm.ClassFile.FieldType.int)) ∈ gT := gT_mem 797 rfl rfl
set_option maxRecDepth 100000 in
theorem q798 : (Jvm.Cond.constantLong "CoatsOnChairsModel" (91 : Nat) (48 : Int64)) ∈ gT := gT_mem 798 rfl rfl
set_option maxRecDepth 100000 in
theorem q799 : (Jvm.Cond.constantLong "CoatsOnChairsModel" (93 : Nat) (57 : Int64)) ∈ gT := gT_mem 799 rfl rfl
set_option maxRecDepth 100000 in
theorem q800 : (Jvm.Cond.constantLong "CoatsOnChairsModel" (95 : Nat) (3 : Int64)) ∈ gT := gT_mem 800 rfl rfl
set_option maxRecDepth 100000 in
theorem q801 : (Jvm.Cond.methodLink "CoatsOnChairsModel" (105 : Nat) ({ cls := "CoatsOnChairsModel", name := "isGood", desc := "(I)Z" } : Jvm.MethodName)) ∈ gT := gT_mem 801 rfl rfl
set_option maxRecDepth 100000 in
theorem q803 : (Jvm.Cond.instanceMethod ({ cls := "CoatsOnChairsModel", name := "isGood", desc := "(I)Z" } : Jvm.MethodName)) ∈ gT := gT_mem 803 rfl rfl
set_option maxRecDepth 100000 in
theorem q804 : (Jvm.Cond.code ({ cls := "CoatsOnChairsModel", name := "isGood", desc := "(I)Z" } : Jvm.MethodName) prog_9_method_9_code (3 : Nat) (Option.some Jvm.ClassFile.FieldType.boolean)) ∈ gT := gT_mem 804 rfl rfl
set_option maxRecDepth 100000 in
theorem q805 : (Jvm.Cond.methodLink "CoatsOnChairsModel" (109 : Nat) ({ cls := "CoatsOnChairsModel", name := "isIn", desc := "(III)Z" } : Jvm.MethodName)) ∈ gT := gT_mem 805 rfl rfl
set_option maxRecDepth 100000 in
theorem q807 : (Jvm.Cond.instanceMethod ({ cls := "CoatsOnChairsModel", name := "isIn", desc := "(III)Z" } : Jvm.MethodName)) ∈ gT := gT_mem 807 rfl rfl
set_option maxRecDepth 100000 in
theorem q808 : (Jvm.Cond.code ({ cls := "CoatsOnChairsModel", name := "isIn", desc := "(III)Z" } : Jvm.MethodName) prog_9_method_8_code (4 : Nat) (Option.some Jvm.ClassFile.FieldType.boolean)) ∈ gT := gT_mem 808 rfl rfl
set_option maxRecDepth 100000 in
theorem q809 : (Jvm.Cond.methodLink "CoatsOnChairsLaw" (32 : Nat) ({ cls := "CoatsOnChairsModel", name := "lay", desc := "()I" } : Jvm.MethodName)) ∈ gT := gT_mem 809 rfl rfl
set_option maxRecDepth 100000 in
theorem q810 : (Jvm.Cond.instanceMethod ({ cls := "CoatsOnChairsModel", name := "lay", desc := "()I" } : Jvm.MethodName)) ∈ gT := gT_mem 810 rfl rfl
set_option maxRecDepth 100000 in
theorem q811 : (Jvm.Cond.selects "CoatsOnChairsModel" ({ cls := "CoatsOnChairsModel", name := "lay", desc := "()I" } : Jvm.MethodName) ({ cls := "CoatsOnChairsModel", name := "lay", desc := "()I" } : Jvm.MethodName)) ∈ gT := gT_mem 811 rfl rfl
set_option maxRecDepth 100000 in
theorem q812 : (Jvm.Cond.code ({ cls := "CoatsOnChairsModel", name := "lay", desc := "()I" } : Jvm.MethodName) prog_9_method_13_code (1 : Nat) (Option.some Jvm.ClassFile.FieldType.int)) ∈ gT := gT_mem 812 rfl rfl
set_option maxRecDepth 100000 in
theorem q813 : (Jvm.Cond.methodLink "CoatsOnChairsModel" (123 : Nat) ({ cls := "CoatsOnChairsModel", name := "fault", desc := "()I" } : Jvm.MethodName)) ∈ gT := gT_mem 813 rfl rfl
set_option maxRecDepth 100000 in
theorem q814 : (Jvm.Cond.methodLink "CoatsOnChairsLaw" (37 : Nat) ({ cls := "CoatsOnChairsModel", name := "reader", desc := "(II)I" } : Jvm.MethodName)) ∈ gT := gT_mem 814 rfl rfl
set_option maxRecDepth 100000 in
theorem q815 : (Jvm.Cond.instanceMethod ({ cls := "CoatsOnChairsModel", name := "reader", desc := "(II)I" } : Jvm.MethodName)) ∈ gT := gT_mem 815 rfl rfl
set_option maxRecDepth 100000 in
theorem q816 : (Jvm.Cond.selects "CoatsOnChairsModel" ({ cls := "CoatsOnChairsModel", name := "reader", desc := "(II)I" } : Jvm.MethodName) ({ cls := "CoatsOnChairsModel", name := "reader", desc := "(II)I" } : Jvm.MethodName)) ∈ gT := gT_mem 816 rfl rfl
set_option maxRecDepth 100000 in
theorem q817 : (Jvm.Cond.code ({ cls := "CoatsOnChairsModel", name := "reader", desc := "(II)I" } : Jvm.MethodName) prog_9_method_18_code (3 : Nat) (Option.some Jvm.ClassFile.FieldType.int)) ∈ gT := gT_mem 817 rfl rfl
set_option maxRecDepth 100000 in
theorem q818 : (Jvm.Cond.methodLink "CoatsOnChairsModel" (130 : Nat) ({ cls := "CoatsOnChairsModel", name := "isReader", desc := "(I)Z" } : Jvm.MethodName)) ∈ gT := gT_mem 818 rfl rfl
set_option maxRecDepth 100000 in
theorem q820 : (Jvm.Cond.instanceMethod ({ cls := "CoatsOnChairsModel", name := "isReader", desc := "(I)Z" } : Jvm.MethodName)) ∈ gT := gT_mem 820 rfl rfl
set_option maxRecDepth 100000 in
theorem q821 : (Jvm.Cond.code ({ cls := "CoatsOnChairsModel", name := "isReader", desc := "(I)Z" } : Jvm.MethodName) prog_9_method_14_code (2 : Nat) (Option.some Jvm.ClassFile.FieldType.boolean)) ∈ gT := gT_mem 821 rfl rfl
set_option maxRecDepth 100000 in
theorem q822 : (Jvm.Cond.constantLong "CoatsOnChairsModel" (133 : Nat) (7 : Int64)) ∈ gT := gT_mem 822 rfl rfl
set_option maxRecDepth 100000 in
theorem q823 : (Jvm.Cond.methodLink "CoatsOnChairsModel" (135 : Nat) ({ cls := "CoatsOnChairsModel", name := "of", desc := "(II)I" } : Jvm.MethodName)) ∈ gT := gT_mem 823 rfl rfl
set_option maxRecDepth 100000 in
theorem q825 : (Jvm.Cond.instanceMethod ({ cls := "CoatsOnChairsModel", name := "of", desc := "(II)I" } : Jvm.MethodName)) ∈ gT := gT_mem 825 rfl rfl
set_option maxRecDepth 100000 in
theorem q826 : (Jvm.Cond.code ({ cls := "CoatsOnChairsModel", name := "of", desc := "(II)I" } : Jvm.MethodName) prog_9_method_17_code (3 : Nat) (Option.some Jvm.ClassFile.FieldType.int)) ∈ gT := gT_mem 826 rfl rfl
set_option maxRecDepth 100000 in
theorem q827 : (Jvm.Cond.methodLink "CoatsOnChairsLaw" (42 : Nat) ({ cls := "CoatsOnChairsModel", name := "kind", desc := "(I)I" } : Jvm.MethodName)) ∈ gT := gT_mem 827 rfl rfl
set_option maxRecDepth 100000 in
theorem q828 : (Jvm.Cond.instanceMethod ({ cls := "CoatsOnChairsModel", name := "kind", desc := "(I)I" } : Jvm.MethodName)) ∈ gT := gT_mem 828 rfl rfl
set_option maxRecDepth 100000 in
theorem q829 : (Jvm.Cond.selects "CoatsOnChairsModel" ({ cls := "CoatsOnChairsModel", name := "kind", desc := "(I)I" } : Jvm.MethodName) ({ cls := "CoatsOnChairsModel", name := "kind", desc := "(I)I" } : Jvm.MethodName)) ∈ gT := gT_mem 829 rfl rfl
set_option maxRecDepth 100000 in
theorem q830 : (Jvm.Cond.code ({ cls := "CoatsOnChairsModel", name := "kind", desc := "(I)I" } : Jvm.MethodName) prog_9_method_19_code (2 : Nat) (Option.some Jvm.ClassFile.FieldType.int)) ∈ gT := gT_mem 830 rfl rfl
set_option maxRecDepth 100000 in
theorem q831 : (Jvm.Cond.methodLink "CoatsOnChairsLaw" (47 : Nat) ({ cls := "CoatsOnChairsModel", name := "hold", desc := "(IZ)I" } : Jvm.MethodName)) ∈ gT := gT_mem 831 rfl rfl
set_option maxRecDepth 100000 in
theorem q832 : (Jvm.Cond.instanceMethod ({ cls := "CoatsOnChairsModel", name := "hold", desc := "(IZ)I" } : Jvm.MethodName)) ∈ gT := gT_mem 832 rfl rfl
set_option maxRecDepth 100000 in
theorem q833 : (Jvm.Cond.selects "CoatsOnChairsModel" ({ cls := "CoatsOnChairsModel", name := "hold", desc := "(IZ)I" } : Jvm.MethodName) ({ cls := "CoatsOnChairsModel", name := "hold", desc := "(IZ)I" } : Jvm.MethodName)) ∈ gT := gT_mem 833 rfl rfl
set_option maxRecDepth 100000 in
theorem q834 : (Jvm.Cond.code ({ cls := "CoatsOnChairsModel", name := "hold", desc := "(IZ)I" } : Jvm.MethodName) prog_9_method_20_code (4 : Nat) (Option.some Jvm.ClassFile.FieldType.int)) ∈ gT := gT_mem 834 rfl rfl
set_option maxRecDepth 100000 in
theorem q835 : (Jvm.Cond.methodLink "CoatsOnChairsLaw" (52 : Nat) ({ cls := "CoatsOnChairsModel", name := "seat", desc := "(IIII)I" } : Jvm.MethodName)) ∈ gT := gT_mem 835 rfl rfl
set_option maxRecDepth 100000 in
theorem q836 : (Jvm.Cond.instanceMethod ({ cls := "CoatsOnChairsModel", name := "seat", desc := "(IIII)I" } : Jvm.MethodName)) ∈ gT := gT_mem 836 rfl rfl
set_option maxRecDepth 100000 in
theorem q837 : (Jvm.Cond.selects "CoatsOnChairsModel" ({ cls := "CoatsOnChairsModel", name := "seat", desc := "(IIII)I" } : Jvm.MethodName) ({ cls := "CoatsOnChairsModel", name := "seat", desc := "(IIII)I" } : Jvm.MethodName)) ∈ gT := gT_mem 837 rfl rfl
set_option maxRecDepth 100000 in
theorem q838 : (Jvm.Cond.code ({ cls := "CoatsOnChairsModel", name := "seat", desc := "(IIII)I" } : Jvm.MethodName) prog_9_method_31_code (6 : Nat) (Option.some Jvm.ClassFile.FieldType.int)) ∈ gT := gT_mem 838 rfl rfl
set_option maxRecDepth 100000 in
theorem q839 : (Jvm.Cond.methodLink "CoatsOnChairsModel" (183 : Nat) ({ cls := "CoatsOnChairsModel", name := "isRule", desc := "(I)Z" } : Jvm.MethodName)) ∈ gT := gT_mem 839 rfl rfl
set_option maxRecDepth 100000 in
theorem q840 : (Jvm.Cond.static ({ cls := "CoatsOnChairsModel", name := "isRule", desc := "(I)Z" } : Jvm.MethodName)) ∈ gT := gT_mem 840 rfl rfl
set_option maxRecDepth 100000 in
theorem q841 : (Jvm.Cond.code ({ cls := "CoatsOnChairsModel", name := "isRule", desc := "(I)Z" } : Jvm.MethodName) prog_9_method_15_code (1 : Nat) (Option.some Jvm.ClassFile.FieldType.boolean)) ∈ gT := gT_mem 841 rfl rfl
set_option maxRecDepth 100000 in
theorem q842 : (Jvm.Cond.constantLong "CoatsOnChairsModel" (126 : Nat) (4 : Int64)) ∈ gT := gT_mem 842 rfl rfl
set_option maxRecDepth 100000 in
theorem q843 : (Jvm.Cond.methodLink "CoatsOnChairsModel" (186 : Nat) ({ cls := "CoatsOnChairsModel", name := "isMinute", desc := "(I)Z" } : Jvm.MethodName)) ∈ gT := gT_mem 843 rfl rfl
set_option maxRecDepth 100000 in
theorem q844 : (Jvm.Cond.static ({ cls := "CoatsOnChairsModel", name := "isMinute", desc := "(I)Z" } : Jvm.MethodName)) ∈ gT := gT_mem 844 rfl rfl
set_option maxRecDepth 100000 in
theorem q845 : (Jvm.Cond.code ({ cls := "CoatsOnChairsModel", name := "isMinute", desc := "(I)Z" } : Jvm.MethodName) prog_9_method_16_code (1 : Nat) (Option.some Jvm.ClassFile.FieldType.boolean)) ∈ gT := gT_mem 845 rfl rfl
set_option maxRecDepth 100000 in
theorem q846 : (Jvm.Cond.constantLong "CoatsOnChairsModel" (128 : Nat) (399 : Int64)) ∈ gT := gT_mem 846 rfl rfl
set_option maxRecDepth 100000 in
theorem q847 : (Jvm.Cond.methodLink "CoatsOnChairsModel" (180 : Nat) ({ cls := "CoatsOnChairsModel", name := "goes", desc := "(IIIII)V" } : Jvm.MethodName)) ∈ gT := gT_mem 847 rfl rfl
set_option maxRecDepth 100000 in
theorem q849 : (Jvm.Cond.instanceMethod ({ cls := "CoatsOnChairsModel", name := "goes", desc := "(IIIII)V" } : Jvm.MethodName)) ∈ gT := gT_mem 849 rfl rfl
set_option maxRecDepth 100000 in
theorem q850 : (Jvm.Cond.code ({ cls := "CoatsOnChairsModel", name := "goes", desc := "(IIIII)V" } : Jvm.MethodName) prog_9_method_28_code (7 : Nat) (Option.none : Option Jvm.ClassFile.FieldType)) ∈ gT := gT_mem 850 rfl rfl
set_option maxRecDepth 100000 in
theorem q851 : (Jvm.Cond.methodLink "CoatsOnChairsModel" (173 : Nat) ({ cls := "CoatsOnChairsModel", name := "run", desc := "(IIIII)V" } : Jvm.MethodName)) ∈ gT := gT_mem 851 rfl rfl
set_option maxRecDepth 100000 in
theorem q853 : (Jvm.Cond.instanceMethod ({ cls := "CoatsOnChairsModel", name := "run", desc := "(IIIII)V" } : Jvm.MethodName)) ∈ gT := gT_mem 853 rfl rfl
set_option maxRecDepth 100000 in
theorem q854 : (Jvm.Cond.code ({ cls := "CoatsOnChairsModel", name := "run", desc := "(IIIII)V" } : Jvm.MethodName) prog_9_method_29_code (7 : Nat) (Option.none : Option Jvm.ClassFile.FieldType)) ∈ gT := gT_mem 854 rfl rfl
set_option maxRecDepth 100000 in
theorem q855 : (Jvm.Cond.methodLink "CoatsOnChairsModel" (177 : Nat) ({ cls := "CoatsOnChairsModel", name := "minute", desc := "(IIIII)V" } : Jvm.MethodName)) ∈ gT := gT_mem 855 rfl rfl
set_option maxRecDepth 100000 in
theorem q857 : (Jvm.Cond.instanceMethod ({ cls := "CoatsOnChairsModel", name := "minute", desc := "(IIIII)V" } : Jvm.MethodName)) ∈ gT := gT_mem 857 rfl rfl
set_option maxRecDepth 100000 in
theorem q858 : (Jvm.Cond.code ({ cls := "CoatsOnChairsModel", name := "minute", desc := "(IIIII)V" } : Jvm.MethodName) prog_9_method_27_code (8 : Nat) (Option.none : Option Jvm.ClassFile.FieldType)) ∈ gT := gT_mem 858 rfl rfl
set_option maxRecDepth 100000 in
theorem q859 : (Jvm.Cond.methodLink "CoatsOnChairsModel" (152 : Nat) ({ cls := "CoatsOnChairsModel", name := "comesBack", desc := "(II)V" } : Jvm.MethodName)) ∈ gT := gT_mem 859 rfl rfl
set_option maxRecDepth 100000 in
theorem q861 : (Jvm.Cond.instanceMethod ({ cls := "CoatsOnChairsModel", name := "comesBack", desc := "(II)V" } : Jvm.MethodName)) ∈ gT := gT_mem 861 rfl rfl
set_option maxRecDepth 100000 in
theorem q862 : (Jvm.Cond.code ({ cls := "CoatsOnChairsModel", name := "comesBack", desc := "(II)V" } : Jvm.MethodName) prog_9_method_21_code (4 : Nat) (Option.none : Option Jvm.ClassFile.FieldType)) ∈ gT := gT_mem 862 rfl rfl
set_option maxRecDepth 100000 in
theorem q863 : (Jvm.Cond.methodLink "CoatsOnChairsModel" (156 : Nat) ({ cls := "CoatsOnChairsModel", name := "frees", desc := "(IIII)V" } : Jvm.MethodName)) ∈ gT := gT_mem 863 rfl rfl
set_option maxRecDepth 100000 in
theorem q865 : (Jvm.Cond.instanceMethod ({ cls := "CoatsOnChairsModel", name := "frees", desc := "(IIII)V" } : Jvm.MethodName)) ∈ gT := gT_mem 865 rfl rfl
set_option maxRecDepth 100000 in
theorem q866 : (Jvm.Cond.code ({ cls := "CoatsOnChairsModel", name := "frees", desc := "(IIII)V" } : Jvm.MethodName) prog_9_method_22_code (8 : Nat) (Option.none : Option Jvm.ClassFile.FieldType)) ∈ gT := gT_mem 866 rfl rfl
set_option maxRecDepth 100000 in
theorem q867 : (Jvm.Cond.methodLink "CoatsOnChairsModel" (160 : Nat) ({ cls := "CoatsOnChairsModel", name := "seeks", desc := "(III)V" } : Jvm.MethodName)) ∈ gT := gT_mem 867 rfl rfl
set_option maxRecDepth 100000 in
theorem q869 : (Jvm.Cond.instanceMethod ({ cls := "CoatsOnChairsModel", name := "seeks", desc := "(III)V" } : Jvm.MethodName)) ∈ gT := gT_mem 869 rfl rfl
set_option maxRecDepth 100000 in
theorem q870 : (Jvm.Cond.code ({ cls := "CoatsOnChairsModel", name := "seeks", desc := "(III)V" } : Jvm.MethodName) prog_9_method_25_code (5 : Nat) (Option.none : Option Jvm.ClassFile.FieldType)) ∈ gT := gT_mem 870 rfl rfl
set_option maxRecDepth 100000 in
theorem q871 : (Jvm.Cond.methodLink "CoatsOnChairsModel" (145 : Nat) ({ cls := "CoatsOnChairsModel", name := "takesSeat", desc := "(III)I" } : Jvm.MethodName)) ∈ gT := gT_mem 871 rfl rfl
set_option maxRecDepth 100000 in
theorem q873 : (Jvm.Cond.instanceMethod ({ cls := "CoatsOnChairsModel", name := "takesSeat", desc := "(III)I" } : Jvm.MethodName)) ∈ gT := gT_mem 873 rfl rfl
set_option maxRecDepth 100000 in
theorem q874 : (Jvm.Cond.code ({ cls := "CoatsOnChairsModel", name := "takesSeat", desc := "(III)I" } : Jvm.MethodName) prog_9_method_24_code (7 : Nat) (Option.some Jvm.ClassFile.FieldType.int)) ∈ gT := gT_mem 874 rfl rfl
set_option maxRecDepth 100000 in
theorem q875 : (Jvm.Cond.methodLink "CoatsOnChairsModel" (142 : Nat) ({ cls := "CoatsOnChairsModel", name := "bits", desc := "(I)I" } : Jvm.MethodName)) ∈ gT := gT_mem 875 rfl rfl
set_option maxRecDepth 100000 in
theorem q876 : (Jvm.Cond.static ({ cls := "CoatsOnChairsModel", name := "bits", desc := "(I)I" } : Jvm.MethodName)) ∈ gT := gT_mem 876 rfl rfl
set_option maxRecDepth 100000 in
theorem q877 : (Jvm.Cond.code ({ cls := "CoatsOnChairsModel", name := "bits", desc := "(I)I" } : Jvm.MethodName) prog_9_method_23_code (1 : Nat) (Option.some Jvm.ClassFile.FieldType.int)) ∈ gT := gT_mem 877 rfl rfl
set_option maxRecDepth 100000 in
theorem q878 : (Jvm.Cond.methodLink "CoatsOnChairsModel" (164 : Nat) ({ cls := "CoatsOnChairsModel", name := "sitsOn", desc := "(IIII)V" } : Jvm.MethodName)) ∈ gT := gT_mem 878 rfl rfl
set_option maxRecDepth 100000 in
theorem q880 : (Jvm.Cond.instanceMethod ({ cls := "CoatsOnChairsModel", name := "sitsOn", desc := "(IIII)V" } : Jvm.MethodName)) ∈ gT := gT_mem 880 rfl rfl
set_option maxRecDepth 100000 in
theorem q881 : (Jvm.Cond.code ({ cls := "CoatsOnChairsModel", name := "sitsOn", desc := "(IIII)V" } : Jvm.MethodName) prog_9_method_26_code (6 : Nat) (Option.none : Option Jvm.ClassFile.FieldType)) ∈ gT := gT_mem 881 rfl rfl
set_option maxRecDepth 100000 in
theorem q882 : (Jvm.Cond.methodLink "CoatsOnChairsLaw" (57 : Nat) ({ cls := "CoatsOnChairsModel", name := "does", desc := "(III)I" } : Jvm.MethodName)) ∈ gT := gT_mem 882 rfl rfl
set_option maxRecDepth 100000 in
theorem q883 : (Jvm.Cond.instanceMethod ({ cls := "CoatsOnChairsModel", name := "does", desc := "(III)I" } : Jvm.MethodName)) ∈ gT := gT_mem 883 rfl rfl
set_option maxRecDepth 100000 in
theorem q884 : (Jvm.Cond.selects "CoatsOnChairsModel" ({ cls := "CoatsOnChairsModel", name := "does", desc := "(III)I" } : Jvm.MethodName) ({ cls := "CoatsOnChairsModel", name := "does", desc := "(III)I" } : Jvm.MethodName)) ∈ gT := gT_mem 884 rfl rfl
set_option maxRecDepth 100000 in
theorem q885 : (Jvm.Cond.code ({ cls := "CoatsOnChairsModel", name := "does", desc := "(III)I" } : Jvm.MethodName) prog_9_method_32_code (4 : Nat) (Option.some Jvm.ClassFile.FieldType.int)) ∈ gT := gT_mem 885 rfl rfl
set_option maxRecDepth 100000 in
theorem q886 : (Jvm.Cond.methodLink "CoatsOnChairsLaw" (61 : Nat) ({ cls := "CoatsOnChairsModel", name := "day", desc := "(II)I" } : Jvm.MethodName)) ∈ gT := gT_mem 886 rfl rfl
set_option maxRecDepth 100000 in
theorem q887 : (Jvm.Cond.instanceMethod ({ cls := "CoatsOnChairsModel", name := "day", desc := "(II)I" } : Jvm.MethodName)) ∈ gT := gT_mem 887 rfl rfl
set_option maxRecDepth 100000 in
theorem q888 : (Jvm.Cond.selects "CoatsOnChairsModel" ({ cls := "CoatsOnChairsModel", name := "day", desc := "(II)I" } : Jvm.MethodName) ({ cls := "CoatsOnChairsModel", name := "day", desc := "(II)I" } : Jvm.MethodName)) ∈ gT := gT_mem 888 rfl rfl
set_option maxRecDepth 100000 in
theorem q889 : (Jvm.Cond.code ({ cls := "CoatsOnChairsModel", name := "day", desc := "(II)I" } : Jvm.MethodName) prog_9_method_34_code (3 : Nat) (Option.some Jvm.ClassFile.FieldType.int)) ∈ gT := gT_mem 889 rfl rfl
set_option maxRecDepth 100000 in
theorem q890 : (Jvm.Cond.constantLong "CoatsOnChairsModel" (189 : Nat) (5 : Int64)) ∈ gT := gT_mem 890 rfl rfl
set_option maxRecDepth 100000 in
theorem q891 : (Jvm.Cond.methodLink "CoatsOnChairsModel" (191 : Nat) ({ cls := "CoatsOnChairsModel", name := "whole", desc := "(I)V" } : Jvm.MethodName)) ∈ gT := gT_mem 891 rfl rfl
set_option maxRecDepth 100000 in
theorem q893 : (Jvm.Cond.instanceMethod ({ cls := "CoatsOnChairsModel", name := "whole", desc := "(I)V" } : Jvm.MethodName)) ∈ gT := gT_mem 893 rfl rfl
set_option maxRecDepth 100000 in
theorem q894 : (Jvm.Cond.code ({ cls := "CoatsOnChairsModel", name := "whole", desc := "(I)V" } : Jvm.MethodName) prog_9_method_30_code (2 : Nat) (Option.none : Option Jvm.ClassFile.FieldType)) ∈ gT := gT_mem 894 rfl rfl
set_option maxRecDepth 100000 in
theorem q895 : (Jvm.Cond.methodLink "CoatsOnChairsModel" (195 : Nat) ({ cls := "CoatsOnChairsModel", name := "many", desc := "(I)I" } : Jvm.MethodName)) ∈ gT := gT_mem 895 rfl rfl
set_option maxRecDepth 100000 in
theorem q896 : (Jvm.Cond.static ({ cls := "CoatsOnChairsModel", name := "many", desc := "(I)I" } : Jvm.MethodName)) ∈ gT := gT_mem 896 rfl rfl
set_option maxRecDepth 100000 in
theorem q897 : (Jvm.Cond.code ({ cls := "CoatsOnChairsModel", name := "many", desc := "(I)I" } : Jvm.MethodName) prog_9_method_33_code (3 : Nat) (Option.some Jvm.ClassFile.FieldType.int)) ∈ gT := gT_mem 897 rfl rfl
set_option maxRecDepth 100000 in
theorem q898 : (Jvm.Cond.methodLink "CoatsOnChairsLaw" (65 : Nat) ({ cls := "CoatsOnChairsModel", name := "sat", desc := "(II)I" } : Jvm.MethodName)) ∈ gT := gT_mem 898 rfl rfl
set_option maxRecDepth 100000 in
theorem q899 : (Jvm.Cond.instanceMethod ({ cls := "CoatsOnChairsModel", name := "sat", desc := "(II)I" } : Jvm.MethodName)) ∈ gT := gT_mem 899 rfl rfl
set_option maxRecDepth 100000 in
theorem q900 : (Jvm.Cond.selects "CoatsOnChairsModel" ({ cls := "CoatsOnChairsModel", name := "sat", desc := "(II)I" } : Jvm.MethodName) ({ cls := "CoatsOnChairsModel", name := "sat", desc := "(II)I" } : Jvm.MethodName)) ∈ gT := gT_mem 900 rfl rfl
set_option maxRecDepth 100000 in
theorem q901 : (Jvm.Cond.code ({ cls := "CoatsOnChairsModel", name := "sat", desc := "(II)I" } : Jvm.MethodName) prog_9_method_35_code (3 : Nat) (Option.some Jvm.ClassFile.FieldType.int)) ∈ gT := gT_mem 901 rfl rfl
set_option maxRecDepth 100000 in
theorem q902 : (Jvm.Cond.methodLink "CoatsOnChairsLaw" (69 : Nat) ({ cls := "CoatsOnChairsModel", name := "bettered", desc := "()I" } : Jvm.MethodName)) ∈ gT := gT_mem 902 rfl rfl
set_option maxRecDepth 100000 in
theorem q903 : (Jvm.Cond.instanceMethod ({ cls := "CoatsOnChairsModel", name := "bettered", desc := "()I" } : Jvm.MethodName)) ∈ gT := gT_mem 903 rfl rfl
set_option maxRecDepth 100000 in
theorem q904 : (Jvm.Cond.selects "CoatsOnChairsModel" ({ cls := "CoatsOnChairsModel", name := "bettered", desc := "()I" } : Jvm.MethodName) ({ cls := "CoatsOnChairsModel", name := "bettered", desc := "()I" } : Jvm.MethodName)) ∈ gT := gT_mem 904 rfl rfl
set_option maxRecDepth 100000 in
theorem q905 : (Jvm.Cond.code ({ cls := "CoatsOnChairsModel", name := "bettered", desc := "()I" } : Jvm.MethodName) prog_9_method_36_code (7 : Nat) (Option.some Jvm.ClassFile.FieldType.int)) ∈ gT := gT_mem 905 rfl rfl
set_option maxRecDepth 100000 in
theorem q906 : (Jvm.Cond.methodLink "CoatsOnChairsLaw" (73 : Nat) ({ cls := "CoatsOnChairsModel", name := "rest", desc := "(II)I" } : Jvm.MethodName)) ∈ gT := gT_mem 906 rfl rfl
set_option maxRecDepth 100000 in
theorem q907 : (Jvm.Cond.instanceMethod ({ cls := "CoatsOnChairsModel", name := "rest", desc := "(II)I" } : Jvm.MethodName)) ∈ gT := gT_mem 907 rfl rfl
set_option maxRecDepth 100000 in
theorem q908 : (Jvm.Cond.selects "CoatsOnChairsModel" ({ cls := "CoatsOnChairsModel", name := "rest", desc := "(II)I" } : Jvm.MethodName) ({ cls := "CoatsOnChairsModel", name := "rest", desc := "(II)I" } : Jvm.MethodName)) ∈ gT := gT_mem 908 rfl rfl
set_option maxRecDepth 100000 in
theorem q909 : (Jvm.Cond.code ({ cls := "CoatsOnChairsModel", name := "rest", desc := "(II)I" } : Jvm.MethodName) prog_9_method_37_code (4 : Nat) (Option.some Jvm.ClassFile.FieldType.int)) ∈ gT := gT_mem 909 rfl rfl
set_option maxRecDepth 100000 in
theorem q910 : (Jvm.Cond.methodLink "CoatsOnChairsLaw" (77 : Nat) ({ cls := "CoatsOnChairsModel", name := "rests", desc := "(II)I" } : Jvm.MethodName)) ∈ gT := gT_mem 910 rfl rfl
set_option maxRecDepth 100000 in
theorem q911 : (Jvm.Cond.instanceMethod ({ cls := "CoatsOnChairsModel", name := "rests", desc := "(II)I" } : Jvm.MethodName)) ∈ gT := gT_mem 911 rfl rfl
set_option maxRecDepth 100000 in
theorem q912 : (Jvm.Cond.selects "CoatsOnChairsModel" ({ cls := "CoatsOnChairsModel", name := "rests", desc := "(II)I" } : Jvm.MethodName) ({ cls := "CoatsOnChairsModel", name := "rests", desc := "(II)I" } : Jvm.MethodName)) ∈ gT := gT_mem 912 rfl rfl
set_option maxRecDepth 100000 in
theorem q913 : (Jvm.Cond.code ({ cls := "CoatsOnChairsModel", name := "rests", desc := "(II)I" } : Jvm.MethodName) prog_9_method_38_code (10 : Nat) (Option.some Jvm.ClassFile.FieldType.int)) ∈ gT := gT_mem 913 rfl rfl
set_option maxRecDepth 100000 in
theorem q914 : (Jvm.Cond.constantLong "CoatsOnChairsModel" (198 : Nat) (2 : Int64)) ∈ gT := gT_mem 914 rfl rfl
set_option maxRecDepth 100000 in
theorem q915 : (Jvm.Cond.methodLink "CoatsOnChairsLaw" (81 : Nat) ({ cls := "CoatsOnChairsModel", name := "rounds", desc := "(II)I" } : Jvm.MethodName)) ∈ gT := gT_mem 915 rfl rfl
set_option maxRecDepth 100000 in
theorem q916 : (Jvm.Cond.instanceMethod ({ cls := "CoatsOnChairsModel", name := "rounds", desc := "(II)I" } : Jvm.MethodName)) ∈ gT := gT_mem 916 rfl rfl
set_option maxRecDepth 100000 in
theorem q917 : (Jvm.Cond.selects "CoatsOnChairsModel" ({ cls := "CoatsOnChairsModel", name := "rounds", desc := "(II)I" } : Jvm.MethodName) ({ cls := "CoatsOnChairsModel", name := "rounds", desc := "(II)I" } : Jvm.MethodName)) ∈ gT := gT_mem 917 rfl rfl
set_option maxRecDepth 100000 in
theorem q918 : (Jvm.Cond.code ({ cls := "CoatsOnChairsModel", name := "rounds", desc := "(II)I" } : Jvm.MethodName) prog_9_method_40_code (3 : Nat) (Option.some Jvm.ClassFile.FieldType.int)) ∈ gT := gT_mem 918 rfl rfl
set_option maxRecDepth 100000 in
theorem q919 : (Jvm.Cond.constantLong "CoatsOnChairsModel" (200 : Nat) (99 : Int64)) ∈ gT := gT_mem 919 rfl rfl
set_option maxRecDepth 100000 in
theorem q920 : (Jvm.Cond.methodLink "CoatsOnChairsModel" (202 : Nat) ({ cls := "CoatsOnChairsModel", name := "counted", desc := "(I)I" } : Jvm.MethodName)) ∈ gT := gT_mem 920 rfl rfl
set_option maxRecDepth 100000 in
theorem q922 : (Jvm.Cond.instanceMethod ({ cls := "CoatsOnChairsModel", name := "counted", desc := "(I)I" } : Jvm.MethodName)) ∈ gT := gT_mem 922 rfl rfl
set_option maxRecDepth 100000 in
theorem q923 : (Jvm.Cond.code ({ cls := "CoatsOnChairsModel", name := "counted", desc := "(I)I" } : Jvm.MethodName) prog_9_method_39_code (4 : Nat) (Option.some Jvm.ClassFile.FieldType.int)) ∈ gT := gT_mem 923 rfl rfl
set_option maxRecDepth 100000 in
theorem q924 : (Jvm.Cond.methodLink "CoatsOnChairsLaw" (85 : Nat) ({ cls := "CoatsOnChairsModel", name := "often", desc := "(II)I" } : Jvm.MethodName)) ∈ gT := gT_mem 924 rfl rfl
set_option maxRecDepth 100000 in
theorem q925 : (Jvm.Cond.instanceMethod ({ cls := "CoatsOnChairsModel", name := "often", desc := "(II)I" } : Jvm.MethodName)) ∈ gT := gT_mem 925 rfl rfl
set_option maxRecDepth 100000 in
theorem q926 : (Jvm.Cond.selects "CoatsOnChairsModel" ({ cls := "CoatsOnChairsModel", name := "often", desc := "(II)I" } : Jvm.MethodName) ({ cls := "CoatsOnChairsModel", name := "often", desc := "(II)I" } : Jvm.MethodName)) ∈ gT := gT_mem 926 rfl rfl
set_option maxRecDepth 100000 in
theorem q927 : (Jvm.Cond.code ({ cls := "CoatsOnChairsModel", name := "often", desc := "(II)I" } : Jvm.MethodName) prog_9_method_41_code (5 : Nat) (Option.some Jvm.ClassFile.FieldType.int)) ∈ gT := gT_mem 927 rfl rfl
set_option maxRecDepth 100000 in
theorem q928 : (Jvm.Cond.constantLong "CoatsOnChairsModel" (205 : Nat) (9999 : Int64)) ∈ gT := gT_mem 928 rfl rfl
set_option maxRecDepth 100000 in
theorem q929 : (Jvm.Cond.methodLink "CoatsOnChairsLaw" (89 : Nat) ({ cls := "CoatsOnChairsModel", name := "porter", desc := "(I)I" } : Jvm.MethodName)) ∈ gT := gT_mem 929 rfl rfl
set_option maxRecDepth 100000 in
theorem q930 : (Jvm.Cond.instanceMethod ({ cls := "CoatsOnChairsModel", name := "porter", desc := "(I)I" } : Jvm.MethodName)) ∈ gT := gT_mem 930 rfl rfl
set_option maxRecDepth 100000 in
theorem q931 : (Jvm.Cond.selects "CoatsOnChairsModel" ({ cls := "CoatsOnChairsModel", name := "porter", desc := "(I)I" } : Jvm.MethodName) ({ cls := "CoatsOnChairsModel", name := "porter", desc := "(I)I" } : Jvm.MethodName)) ∈ gT := gT_mem 931 rfl rfl
set_option maxRecDepth 100000 in
theorem q932 : (Jvm.Cond.code ({ cls := "CoatsOnChairsModel", name := "porter", desc := "(I)I" } : Jvm.MethodName) prog_9_method_42_code (3 : Nat) (Option.some Jvm.ClassFile.FieldType.int)) ∈ gT := gT_mem 932 rfl rfl
set_option maxRecDepth 100000 in
theorem q933 : (Jvm.Cond.methodLink "CoatsOnChairsLaw" (93 : Nat) ({ cls := "CoatsOnChairsModel", name := "card", desc := "(I)I" } : Jvm.MethodName)) ∈ gT := gT_mem 933 rfl rfl
set_option maxRecDepth 100000 in
theorem q934 : (Jvm.Cond.instanceMethod ({ cls := "CoatsOnChairsModel", name := "card", desc := "(I)I" } : Jvm.MethodName)) ∈ gT := gT_mem 934 rfl rfl
set_option maxRecDepth 100000 in
theorem q935 : (Jvm.Cond.selects "CoatsOnChairsModel" ({ cls := "CoatsOnChairsModel", name := "card", desc := "(I)I" } : Jvm.MethodName) ({ cls := "CoatsOnChairsModel", name := "card", desc := "(I)I" } : Jvm.MethodName)) ∈ gT := gT_mem 935 rfl rfl
set_option maxRecDepth 100000 in
theorem q936 : (Jvm.Cond.code ({ cls := "CoatsOnChairsModel", name := "card", desc := "(I)I" } : Jvm.MethodName) prog_9_method_43_code (3 : Nat) (Option.some Jvm.ClassFile.FieldType.int)) ∈ gT := gT_mem 936 rfl rfl
set_option maxRecDepth 100000 in
theorem q937 : (Jvm.Cond.methodLink "CoatsOnChairsLaw" (98 : Nat) ({ cls := "CoatsOnChairsModel", name := "booked", desc := "(IIII)J" } : Jvm.MethodName)) ∈ gT := gT_mem 937 rfl rfl
set_option maxRecDepth 100000 in
theorem q938 : (Jvm.Cond.instanceMethod ({ cls := "CoatsOnChairsModel", name := "booked", desc := "(IIII)J" } : Jvm.MethodName)) ∈ gT := gT_mem 938 rfl rfl
set_option maxRecDepth 100000 in
theorem q939 : (Jvm.Cond.selects "CoatsOnChairsModel" ({ cls := "CoatsOnChairsModel", name := "booked", desc := "(IIII)J" } : Jvm.MethodName) ({ cls := "CoatsOnChairsModel", name := "booked", desc := "(IIII)J" } : Jvm.MethodName)) ∈ gT := gT_mem 939 rfl rfl
set_option maxRecDepth 100000 in
theorem q940 : (Jvm.Cond.code ({ cls := "CoatsOnChairsModel", name := "booked", desc := "(IIII)J" } : Jvm.MethodName) prog_9_method_47_code (5 : Nat) (Option.some Jvm.ClassFile.FieldType.long)) ∈ gT := gT_mem 940 rfl rfl
set_option maxRecDepth 100000 in
theorem q941 : (Jvm.Cond.constantLong "CoatsOnChairsModel" (218 : Nat) (14 : Int64)) ∈ gT := gT_mem 941 rfl rfl
set_option maxRecDepth 100000 in
theorem q942 : (Jvm.Cond.constantLong "CoatsOnChairsModel" (220 : Nat) (10 : Int64)) ∈ gT := gT_mem 942 rfl rfl
set_option maxRecDepth 100000 in
theorem q943 : (Jvm.Cond.constantLong "CoatsOnChairsModel" (222 : Nat) (-1 : Int64)) ∈ gT := gT_mem 943 rfl rfl
set_option maxRecDepth 100000 in
theorem q944 : (Jvm.Cond.methodLink "CoatsOnChairsModel" (224 : Nat) ({ cls := "CoatsOnChairsModel", name := "come", desc := "(III)J" } : Jvm.MethodName)) ∈ gT := gT_mem 944 rfl rfl
set_option maxRecDepth 100000 in
theorem q945 : (Jvm.Cond.static ({ cls := "CoatsOnChairsModel", name := "come", desc := "(III)J" } : Jvm.MethodName)) ∈ gT := gT_mem 945 rfl rfl
set_option maxRecDepth 100000 in
theorem q946 : (Jvm.Cond.code ({ cls := "CoatsOnChairsModel", name := "come", desc := "(III)J" } : Jvm.MethodName) prog_9_method_45_code (8 : Nat) (Option.some Jvm.ClassFile.FieldType.long)) ∈ gT := gT_mem 946 rfl rfl
set_option maxRecDepth 100000 in
theorem q947 : (Jvm.Cond.methodLink "CoatsOnChairsModel" (207 : Nat) ({ cls := "CoatsOnChairsModel", name := "power", desc := "(II)J" } : Jvm.MethodName)) ∈ gT := gT_mem 947 rfl rfl
set_option maxRecDepth 100000 in
theorem q948 : (Jvm.Cond.static ({ cls := "CoatsOnChairsModel", name := "power", desc := "(II)J" } : Jvm.MethodName)) ∈ gT := gT_mem 948 rfl rfl
set_option maxRecDepth 100000 in
theorem q949 : (Jvm.Cond.code ({ cls := "CoatsOnChairsModel", name := "power", desc := "(II)J" } : Jvm.MethodName) prog_9_method_44_code (5 : Nat) (Option.some Jvm.ClassFile.FieldType.long)) ∈ gT := gT_mem 949 rfl rfl
set_option maxRecDepth 100000 in
theorem q950 : (Jvm.Cond.methodLink "CoatsOnChairsModel" (228 : Nat) ({ cls := "CoatsOnChairsModel", name := "lowest", desc := "(JJ)V" } : Jvm.MethodName)) ∈ gT := gT_mem 950 rfl rfl
set_option maxRecDepth 100000 in
theorem q952 : (Jvm.Cond.instanceMethod ({ cls := "CoatsOnChairsModel", name := "lowest", desc := "(JJ)V" } : Jvm.MethodName)) ∈ gT := gT_mem 952 rfl rfl
set_option maxRecDepth 100000 in
theorem q953 : (Jvm.Cond.code ({ cls := "CoatsOnChairsModel", name := "lowest", desc := "(JJ)V" } : Jvm.MethodName) prog_9_method_46_code (11 : Nat) (Option.none : Option Jvm.ClassFile.FieldType)) ∈ gT := gT_mem 953 rfl rfl
set_option maxRecDepth 100000 in
theorem q954 : (Jvm.Cond.methodLink "CoatsOnChairsLaw" (102 : Nat) ({ cls := "CoatsOnChairsModel", name := "over", desc := "(III)I" } : Jvm.MethodName)) ∈ gT := gT_mem 954 rfl rfl
set_option maxRecDepth 100000 in
theorem q955 : (Jvm.Cond.instanceMethod ({ cls := "CoatsOnChairsModel", name := "over", desc := "(III)I" } : Jvm.MethodName)) ∈ gT := gT_mem 955 rfl rfl
set_option maxRecDepth 100000 in
theorem q956 : (Jvm.Cond.selects "CoatsOnChairsModel" ({ cls := "CoatsOnChairsModel", name := "over", desc := "(III)I" } : Jvm.MethodName) ({ cls := "CoatsOnChairsModel", name := "over", desc := "(III)I" } : Jvm.MethodName)) ∈ gT := gT_mem 956 rfl rfl
set_option maxRecDepth 100000 in
theorem q957 : (Jvm.Cond.code ({ cls := "CoatsOnChairsModel", name := "over", desc := "(III)I" } : Jvm.MethodName) prog_9_method_48_code (6 : Nat) (Option.some Jvm.ClassFile.FieldType.int)) ∈ gT := gT_mem 957 rfl rfl
set_option maxRecDepth 100000 in
theorem q958 : (Jvm.Cond.constantLong "CoatsOnChairsModel" (232 : Nat) (100 : Int64)) ∈ gT := gT_mem 958 rfl rfl
set_option maxRecDepth 100000 in
theorem q959 : (Jvm.Cond.methodLink "CoatsOnChairsLaw" (106 : Nat) ({ cls := "CoatsOnChairsModel", name := "dare", desc := "(III)I" } : Jvm.MethodName)) ∈ gT := gT_mem 959 rfl rfl
set_option maxRecDepth 100000 in
theorem q960 : (Jvm.Cond.instanceMethod ({ cls := "CoatsOnChairsModel", name := "dare", desc := "(III)I" } : Jvm.MethodName)) ∈ gT := gT_mem 960 rfl rfl
set_option maxRecDepth 100000 in
theorem q961 : (Jvm.Cond.selects "CoatsOnChairsModel" ({ cls := "CoatsOnChairsModel", name := "dare", desc := "(III)I" } : Jvm.MethodName) ({ cls := "CoatsOnChairsModel", name := "dare", desc := "(III)I" } : Jvm.MethodName)) ∈ gT := gT_mem 961 rfl rfl
set_option maxRecDepth 100000 in
theorem q962 : (Jvm.Cond.code ({ cls := "CoatsOnChairsModel", name := "dare", desc := "(III)I" } : Jvm.MethodName) prog_9_method_49_code (8 : Nat) (Option.some Jvm.ClassFile.FieldType.int)) ∈ gT := gT_mem 962 rfl rfl
set_option maxRecDepth 100000 in
theorem q963 : (Jvm.Cond.constantLong "CoatsOnChairsModel" (234 : Nat) (98 : Int64)) ∈ gT := gT_mem 963 rfl rfl
set_option maxRecDepth 100000 in
theorem q964 : (Jvm.Cond.methodLink "CoatsOnChairsLaw" (110 : Nat) ({ cls := "CoatsOnChairsModel", name := "drawn", desc := "(II)I" } : Jvm.MethodName)) ∈ gT := gT_mem 964 rfl rfl
set_option maxRecDepth 100000 in
theorem q965 : (Jvm.Cond.instanceMethod ({ cls := "CoatsOnChairsModel", name := "drawn", desc := "(II)I" } : Jvm.MethodName)) ∈ gT := gT_mem 965 rfl rfl
set_option maxRecDepth 100000 in
theorem q966 : (Jvm.Cond.selects "CoatsOnChairsModel" ({ cls := "CoatsOnChairsModel", name := "drawn", desc := "(II)I" } : Jvm.MethodName) ({ cls := "CoatsOnChairsModel", name := "drawn", desc := "(II)I" } : Jvm.MethodName)) ∈ gT := gT_mem 966 rfl rfl
set_option maxRecDepth 100000 in
theorem q967 : (Jvm.Cond.code ({ cls := "CoatsOnChairsModel", name := "drawn", desc := "(II)I" } : Jvm.MethodName) prog_9_method_52_code (3 : Nat) (Option.some Jvm.ClassFile.FieldType.int)) ∈ gT := gT_mem 967 rfl rfl
set_option maxRecDepth 100000 in
theorem q968 : (Jvm.Cond.methodLink "CoatsOnChairsModel" (242 : Nat) ({ cls := "CoatsOnChairsModel", name := "isSeed", desc := "(I)Z" } : Jvm.MethodName)) ∈ gT := gT_mem 968 rfl rfl
set_option maxRecDepth 100000 in
theorem q969 : (Jvm.Cond.static ({ cls := "CoatsOnChairsModel", name := "isSeed", desc := "(I)Z" } : Jvm.MethodName)) ∈ gT := gT_mem 969 rfl rfl
set_option maxRecDepth 100000 in
theorem q970 : (Jvm.Cond.code ({ cls := "CoatsOnChairsModel", name := "isSeed", desc := "(I)Z" } : Jvm.MethodName) prog_9_method_51_code (1 : Nat) (Option.some Jvm.ClassFile.FieldType.boolean)) ∈ gT := gT_mem 970 rfl rfl
set_option maxRecDepth 100000 in
theorem q971 : (Jvm.Cond.methodLink "CoatsOnChairsModel" (245 : Nat) ({ cls := "CoatsOnChairsModel", name := "drawnDay", desc := "(II)I" } : Jvm.MethodName)) ∈ gT := gT_mem 971 rfl rfl
set_option maxRecDepth 100000 in
theorem q973 : (Jvm.Cond.instanceMethod ({ cls := "CoatsOnChairsModel", name := "drawnDay", desc := "(II)I" } : Jvm.MethodName)) ∈ gT := gT_mem 973 rfl rfl
set_option maxRecDepth 100000 in
theorem q974 : (Jvm.Cond.code ({ cls := "CoatsOnChairsModel", name := "drawnDay", desc := "(II)I" } : Jvm.MethodName) prog_9_method_50_code (6 : Nat) (Option.some Jvm.ClassFile.FieldType.int)) ∈ gT := gT_mem 974 rfl rfl
set_option maxRecDepth 100000 in
theorem q975 : (Jvm.Cond.constantLong "CoatsOnChairsModel" (236 : Nat) (7919 : Int64)) ∈ gT := gT_mem 975 rfl rfl
set_option maxRecDepth 100000 in
theorem q976 : (Jvm.Cond.constantLong "CoatsOnChairsModel" (238 : Nat) (6151 : Int64)) ∈ gT := gT_mem 976 rfl rfl
set_option maxRecDepth 100000 in
theorem q977 : (Jvm.Cond.constantLong "CoatsOnChairsModel" (240 : Nat) (65521 : Int64)) ∈ gT := gT_mem 977 rfl rfl
set_option maxRecDepth 100000 in
theorem q978 : (Jvm.Cond.methodLink "CoatsOnChairsLaw" (114 : Nat) ({ cls := "CoatsOnChairsModel", name := "ten", desc := "(II)I" } : Jvm.MethodName)) ∈ gT := gT_mem 978 rfl rfl
set_option maxRecDepth 100000 in
theorem q979 : (Jvm.Cond.instanceMethod ({ cls := "CoatsOnChairsModel", name := "ten", desc := "(II)I" } : Jvm.MethodName)) ∈ gT := gT_mem 979 rfl rfl
set_option maxRecDepth 100000 in
theorem q980 : (Jvm.Cond.selects "CoatsOnChairsModel" ({ cls := "CoatsOnChairsModel", name := "ten", desc := "(II)I" } : Jvm.MethodName) ({ cls := "CoatsOnChairsModel", name := "ten", desc := "(II)I" } : Jvm.MethodName)) ∈ gT := gT_mem 980 rfl rfl
set_option maxRecDepth 100000 in
theorem q981 : (Jvm.Cond.code ({ cls := "CoatsOnChairsModel", name := "ten", desc := "(II)I" } : Jvm.MethodName) prog_9_method_53_code (5 : Nat) (Option.some Jvm.ClassFile.FieldType.int)) ∈ gT := gT_mem 981 rfl rfl
set_option maxRecDepth 100000 in
theorem q982 : (Jvm.Cond.methodLink "CoatsOnChairsLaw" (118 : Nat) ({ cls := "CoatsOnChairsModel", name := "keep", desc := "()I" } : Jvm.MethodName)) ∈ gT := gT_mem 982 rfl rfl
set_option maxRecDepth 100000 in
theorem q983 : (Jvm.Cond.instanceMethod ({ cls := "CoatsOnChairsModel", name := "keep", desc := "()I" } : Jvm.MethodName)) ∈ gT := gT_mem 983 rfl rfl
set_option maxRecDepth 100000 in
theorem q984 : (Jvm.Cond.selects "CoatsOnChairsModel" ({ cls := "CoatsOnChairsModel", name := "keep", desc := "()I" } : Jvm.MethodName) ({ cls := "CoatsOnChairsModel", name := "keep", desc := "()I" } : Jvm.MethodName)) ∈ gT := gT_mem 984 rfl rfl
set_option maxRecDepth 100000 in
theorem q985 : (Jvm.Cond.code ({ cls := "CoatsOnChairsModel", name := "keep", desc := "()I" } : Jvm.MethodName) prog_9_method_54_code (1 : Nat) (Option.some Jvm.ClassFile.FieldType.int)) ∈ gT := gT_mem 985 rfl rfl
set_option maxRecDepth 100000 in
theorem q986 : (Jvm.Cond.methodLink "CoatsOnChairsLaw" (122 : Nat) ({ cls := "CoatsOnChairsModel", name := "back", desc := "()I" } : Jvm.MethodName)) ∈ gT := gT_mem 986 rfl rfl
set_option maxRecDepth 100000 in
theorem q987 : (Jvm.Cond.instanceMethod ({ cls := "CoatsOnChairsModel", name := "back", desc := "()I" } : Jvm.MethodName)) ∈ gT := gT_mem 987 rfl rfl
set_option maxRecDepth 100000 in
theorem q988 : (Jvm.Cond.selects "CoatsOnChairsModel" ({ cls := "CoatsOnChairsModel", name := "back", desc := "()I" } : Jvm.MethodName) ({ cls := "CoatsOnChairsModel", name := "back", desc := "()I" } : Jvm.MethodName)) ∈ gT := gT_mem 988 rfl rfl
set_option maxRecDepth 100000 in
theorem q989 : (Jvm.Cond.code ({ cls := "CoatsOnChairsModel", name := "back", desc := "()I" } : Jvm.MethodName) prog_9_method_55_code (1 : Nat) (Option.some Jvm.ClassFile.FieldType.int)) ∈ gT := gT_mem 989 rfl rfl
set_option maxRecDepth 100000 in
theorem q990 : (Jvm.Cond.methodLink "CoatsOnChairsLaw" (126 : Nat) ({ cls := "CoatsOnChairsModel", name := "count", desc := "(I)I" } : Jvm.MethodName)) ∈ gT := gT_mem 990 rfl rfl
set_option maxRecDepth 100000 in
theorem q991 : (Jvm.Cond.instanceMethod ({ cls := "CoatsOnChairsModel", name := "count", desc := "(I)I" } : Jvm.MethodName)) ∈ gT := gT_mem 991 rfl rfl
set_option maxRecDepth 100000 in
theorem q992 : (Jvm.Cond.selects "CoatsOnChairsModel" ({ cls := "CoatsOnChairsModel", name := "count", desc := "(I)I" } : Jvm.MethodName) ({ cls := "CoatsOnChairsModel", name := "count", desc := "(I)I" } : Jvm.MethodName)) ∈ gT := gT_mem 992 rfl rfl
set_option maxRecDepth 100000 in
theorem q993 : (Jvm.Cond.code ({ cls := "CoatsOnChairsModel", name := "count", desc := "(I)I" } : Jvm.MethodName) prog_9_method_56_code (2 : Nat) (Option.some Jvm.ClassFile.FieldType.int)) ∈ gT := gT_mem 993 rfl rfl
set_option maxRecDepth 100000 in
theorem q994 : (Jvm.Cond.constantLong "CoatsOnChairsLaw" (13 : Nat) (4294967295 : Int64)) ∈ gT := gT_mem 994 rfl rfl
end
