section
-- ===== PART A: goes FIRST, ahead of the names: the tables' words, and 'selects' of the private methods out of them =====
/-- a private method of a class that the tables say can be made, by its rows of tables_1 -/
def lw_okq (q : MethodName × Nat) : Prop := (q.1.cls ≠ "java/lang/invoke/MethodHandle" ∧ q.1.cls ≠ "java/lang/invoke/VarHandle") ∧ Cond.instantiable q.1.cls q.2 ∈ tables_1 ∧ Cond.privateMethod q.1 ∈ tables_1 ∧ Cond.instanceMethod q.1 ∈ tables_1
theorem lw_p0 : lw_okq (⟨"FormworkYard", "sumGains", "()V"⟩, 9) := ⟨⟨by decide +kernel, by decide +kernel⟩, List.mem_of_getElem? (i := 15) (by decide +kernel), List.mem_of_getElem? (i := 28) (by decide +kernel), List.mem_of_getElem? (i := 29) (by decide +kernel)⟩
theorem lw_p1 : lw_okq (⟨"FormworkYard", "sumNeeds", "()V"⟩, 9) := ⟨⟨by decide +kernel, by decide +kernel⟩, List.mem_of_getElem? (i := 15) (by decide +kernel), List.mem_of_getElem? (i := 72) (by decide +kernel), List.mem_of_getElem? (i := 73) (by decide +kernel)⟩
theorem lw_p2 : lw_okq (⟨"FormworkYard", "needIn", "(I)I"⟩, 9) := ⟨⟨by decide +kernel, by decide +kernel⟩, List.mem_of_getElem? (i := 15) (by decide +kernel), List.mem_of_getElem? (i := 76) (by decide +kernel), List.mem_of_getElem? (i := 77) (by decide +kernel)⟩
theorem lw_p3 : lw_okq (⟨"FormworkYard$Pour", "isBusy", "(I)Z"⟩, 13) := ⟨⟨by decide +kernel, by decide +kernel⟩, List.mem_of_getElem? (i := 82) (by decide +kernel), List.mem_of_getElem? (i := 80) (by decide +kernel), List.mem_of_getElem? (i := 81) (by decide +kernel)⟩
theorem lw_p4 : lw_okq (⟨"java/lang/Throwable", "fillInStackTrace", "(I)Ljava/lang/Throwable;"⟩, 6) := ⟨⟨by decide +kernel, by decide +kernel⟩, List.mem_of_getElem? (i := 147) (by decide +kernel), List.mem_of_getElem? (i := 145) (by decide +kernel), List.mem_of_getElem? (i := 146) (by decide +kernel)⟩
theorem lw_p5 : lw_okq (⟨"FormworkYard", "scheduleAll", "()V"⟩, 9) := ⟨⟨by decide +kernel, by decide +kernel⟩, List.mem_of_getElem? (i := 15) (by decide +kernel), List.mem_of_getElem? (i := 193) (by decide +kernel), List.mem_of_getElem? (i := 194) (by decide +kernel)⟩
theorem lw_p6 : lw_okq (⟨"FormworkYard", "schedule", "(LFormworkYard$Pour;)V"⟩, 9) := ⟨⟨by decide +kernel, by decide +kernel⟩, List.mem_of_getElem? (i := 15) (by decide +kernel), List.mem_of_getElem? (i := 197) (by decide +kernel), List.mem_of_getElem? (i := 198) (by decide +kernel)⟩
theorem lw_p7 : lw_okq (⟨"FormworkYard", "startedHours", "(I)I"⟩, 9) := ⟨⟨by decide +kernel, by decide +kernel⟩, List.mem_of_getElem? (i := 15) (by decide +kernel), List.mem_of_getElem? (i := 201) (by decide +kernel), List.mem_of_getElem? (i := 202) (by decide +kernel)⟩
theorem lw_p8 : lw_okq (⟨"FormworkYard", "fullHours", "(I)I"⟩, 9) := ⟨⟨by decide +kernel, by decide +kernel⟩, List.mem_of_getElem? (i := 15) (by decide +kernel), List.mem_of_getElem? (i := 205) (by decide +kernel), List.mem_of_getElem? (i := 206) (by decide +kernel)⟩
theorem lw_p9 : lw_okq (⟨"FormworkYard$Pour", "hoursOfBreaks", "()I"⟩, 13) := ⟨⟨by decide +kernel, by decide +kernel⟩, List.mem_of_getElem? (i := 82) (by decide +kernel), List.mem_of_getElem? (i := 209) (by decide +kernel), List.mem_of_getElem? (i := 210) (by decide +kernel)⟩
theorem lw_p10 : lw_okq (⟨"FormworkYard", "strikeHour", "(II)I"⟩, 9) := ⟨⟨by decide +kernel, by decide +kernel⟩, List.mem_of_getElem? (i := 15) (by decide +kernel), List.mem_of_getElem? (i := 213) (by decide +kernel), List.mem_of_getElem? (i := 214) (by decide +kernel)⟩
theorem lw_p11 : lw_okq (⟨"FormworkYard", "gainBetween", "(II)I"⟩, 9) := ⟨⟨by decide +kernel, by decide +kernel⟩, List.mem_of_getElem? (i := 15) (by decide +kernel), List.mem_of_getElem? (i := 217) (by decide +kernel), List.mem_of_getElem? (i := 218) (by decide +kernel)⟩
theorem lw_p12 : lw_okq (⟨"FormworkYard", "standHour", "(I)I"⟩, 9) := ⟨⟨by decide +kernel, by decide +kernel⟩, List.mem_of_getElem? (i := 15) (by decide +kernel), List.mem_of_getElem? (i := 229) (by decide +kernel), List.mem_of_getElem? (i := 230) (by decide +kernel)⟩
theorem lw_p13 : lw_okq (⟨"FormworkYard", "releaseHour", "(I)I"⟩, 9) := ⟨⟨by decide +kernel, by decide +kernel⟩, List.mem_of_getElem? (i := 15) (by decide +kernel), List.mem_of_getElem? (i := 233) (by decide +kernel), List.mem_of_getElem? (i := 234) (by decide +kernel)⟩
theorem lw_p14 : lw_okq (⟨"FormworkYard", "freeNumber", "()I"⟩, 9) := ⟨⟨by decide +kernel, by decide +kernel⟩, List.mem_of_getElem? (i := 15) (by decide +kernel), List.mem_of_getElem? (i := 291) (by decide +kernel), List.mem_of_getElem? (i := 292) (by decide +kernel)⟩
theorem lw_p15 : lw_okq (⟨"FormworkYard", "existing", "(I)LFormworkYard$Pour;"⟩, 9) := ⟨⟨by decide +kernel, by decide +kernel⟩, List.mem_of_getElem? (i := 15) (by decide +kernel), List.mem_of_getElem? (i := 374) (by decide +kernel), List.mem_of_getElem? (i := 375) (by decide +kernel)⟩
def lw_privs_1 : List (MethodName × Nat) := [(⟨"FormworkYard", "sumGains", "()V"⟩, 9), (⟨"FormworkYard", "sumNeeds", "()V"⟩, 9), (⟨"FormworkYard", "needIn", "(I)I"⟩, 9), (⟨"FormworkYard$Pour", "isBusy", "(I)Z"⟩, 13), (⟨"java/lang/Throwable", "fillInStackTrace", "(I)Ljava/lang/Throwable;"⟩, 6), (⟨"FormworkYard", "scheduleAll", "()V"⟩, 9), (⟨"FormworkYard", "schedule", "(LFormworkYard$Pour;)V"⟩, 9), (⟨"FormworkYard", "startedHours", "(I)I"⟩, 9), (⟨"FormworkYard", "fullHours", "(I)I"⟩, 9), (⟨"FormworkYard$Pour", "hoursOfBreaks", "()I"⟩, 13), (⟨"FormworkYard", "strikeHour", "(II)I"⟩, 9), (⟨"FormworkYard", "gainBetween", "(II)I"⟩, 9), (⟨"FormworkYard", "standHour", "(I)I"⟩, 9), (⟨"FormworkYard", "releaseHour", "(I)I"⟩, 9), (⟨"FormworkYard", "freeNumber", "()I"⟩, 9), (⟨"FormworkYard", "existing", "(I)LFormworkYard$Pour;"⟩, 9)]
theorem lw_r1 : ∀ q ∈ lw_privs_1, lw_okq q := List.forall_mem_cons.mpr ⟨lw_p0, List.forall_mem_cons.mpr ⟨lw_p1, List.forall_mem_cons.mpr ⟨lw_p2, List.forall_mem_cons.mpr ⟨lw_p3, List.forall_mem_cons.mpr ⟨lw_p4, List.forall_mem_cons.mpr ⟨lw_p5, List.forall_mem_cons.mpr ⟨lw_p6, List.forall_mem_cons.mpr ⟨lw_p7, List.forall_mem_cons.mpr ⟨lw_p8, List.forall_mem_cons.mpr ⟨lw_p9, List.forall_mem_cons.mpr ⟨lw_p10, List.forall_mem_cons.mpr ⟨lw_p11, List.forall_mem_cons.mpr ⟨lw_p12, List.forall_mem_cons.mpr ⟨lw_p13, List.forall_mem_cons.mpr ⟨lw_p14, List.forall_mem_cons.mpr ⟨lw_p15, fun _ h => absurd h List.not_mem_nil⟩⟩⟩⟩⟩⟩⟩⟩⟩⟩⟩⟩⟩⟩⟩⟩
theorem lw_p16 : lw_okq (⟨"FormworkYard$Pour", "addBreak", "(II)V"⟩, 13) := ⟨⟨by decide +kernel, by decide +kernel⟩, List.mem_of_getElem? (i := 82) (by decide +kernel), List.mem_of_getElem? (i := 407) (by decide +kernel), List.mem_of_getElem? (i := 408) (by decide +kernel)⟩
theorem lw_p17 : lw_okq (⟨"FormworkYard", "markFullHours", "(I)V"⟩, 9) := ⟨⟨by decide +kernel, by decide +kernel⟩, List.mem_of_getElem? (i := 15) (by decide +kernel), List.mem_of_getElem? (i := 453) (by decide +kernel), List.mem_of_getElem? (i := 454) (by decide +kernel)⟩
theorem lw_p18 : lw_okq (⟨"FormworkYard", "giveOutPanels", "()V"⟩, 9) := ⟨⟨by decide +kernel, by decide +kernel⟩, List.mem_of_getElem? (i := 15) (by decide +kernel), List.mem_of_getElem? (i := 464) (by decide +kernel), List.mem_of_getElem? (i := 465) (by decide +kernel)⟩
theorem lw_p19 : lw_okq (⟨"FormworkYard", "nextToServe", "()LFormworkYard$Pour;"⟩, 9) := ⟨⟨by decide +kernel, by decide +kernel⟩, List.mem_of_getElem? (i := 15) (by decide +kernel), List.mem_of_getElem? (i := 468) (by decide +kernel), List.mem_of_getElem? (i := 469) (by decide +kernel)⟩
theorem lw_p20 : lw_okq (⟨"FormworkYard", "panelsBusyIn", "(I)J"⟩, 9) := ⟨⟨by decide +kernel, by decide +kernel⟩, List.mem_of_getElem? (i := 15) (by decide +kernel), List.mem_of_getElem? (i := 472) (by decide +kernel), List.mem_of_getElem? (i := 473) (by decide +kernel)⟩
theorem lw_p21 : lw_okq (⟨"FormworkYard", "lowestPanels", "(JI)J"⟩, 9) := ⟨⟨by decide +kernel, by decide +kernel⟩, List.mem_of_getElem? (i := 15) (by decide +kernel), List.mem_of_getElem? (i := 476) (by decide +kernel), List.mem_of_getElem? (i := 477) (by decide +kernel)⟩
theorem lw_p22 : lw_okq (⟨"FormworkYardModel", "fails", "(I)I"⟩, 19) := ⟨⟨by decide +kernel, by decide +kernel⟩, List.mem_of_getElem? (i := 493) (by decide +kernel), List.mem_of_getElem? (i := 576) (by decide +kernel), List.mem_of_getElem? (i := 577) (by decide +kernel)⟩
theorem lw_p23 : lw_okq (⟨"FormworkYardModel", "sum", "(II)I"⟩, 19) := ⟨⟨by decide +kernel, by decide +kernel⟩, List.mem_of_getElem? (i := 493) (by decide +kernel), List.mem_of_getElem? (i := 584) (by decide +kernel), List.mem_of_getElem? (i := 585) (by decide +kernel)⟩
theorem lw_p24 : lw_okq (⟨"FormworkYardModel", "gain", "(I)I"⟩, 19) := ⟨⟨by decide +kernel, by decide +kernel⟩, List.mem_of_getElem? (i := 493) (by decide +kernel), List.mem_of_getElem? (i := 588) (by decide +kernel), List.mem_of_getElem? (i := 589) (by decide +kernel)⟩
theorem lw_p25 : lw_okq (⟨"FormworkYardModel", "rate", "()I"⟩, 19) := ⟨⟨by decide +kernel, by decide +kernel⟩, List.mem_of_getElem? (i := 493) (by decide +kernel), List.mem_of_getElem? (i := 611) (by decide +kernel), List.mem_of_getElem? (i := 612) (by decide +kernel)⟩
theorem lw_p26 : lw_okq (⟨"FormworkYardModel", "freeNumber", "()I"⟩, 19) := ⟨⟨by decide +kernel, by decide +kernel⟩, List.mem_of_getElem? (i := 493) (by decide +kernel), List.mem_of_getElem? (i := 623) (by decide +kernel), List.mem_of_getElem? (i := 624) (by decide +kernel)⟩
theorem lw_p27 : lw_okq (⟨"FormworkYardModel", "lays", "(IIIII)V"⟩, 19) := ⟨⟨by decide +kernel, by decide +kernel⟩, List.mem_of_getElem? (i := 493) (by decide +kernel), List.mem_of_getElem? (i := 630) (by decide +kernel), List.mem_of_getElem? (i := 631) (by decide +kernel)⟩
theorem lw_p28 : lw_okq (⟨"FormworkYardModel", "isPour", "(I)Z"⟩, 19) := ⟨⟨by decide +kernel, by decide +kernel⟩, List.mem_of_getElem? (i := 493) (by decide +kernel), List.mem_of_getElem? (i := 638) (by decide +kernel), List.mem_of_getElem? (i := 639) (by decide +kernel)⟩
theorem lw_p29 : lw_okq (⟨"FormworkYardModel", "isAsked", "(I)Z"⟩, 19) := ⟨⟨by decide +kernel, by decide +kernel⟩, List.mem_of_getElem? (i := 493) (by decide +kernel), List.mem_of_getElem? (i := 658) (by decide +kernel), List.mem_of_getElem? (i := 659) (by decide +kernel)⟩
theorem lw_p30 : lw_okq (⟨"FormworkYardModel", "works", "(I)V"⟩, 19) := ⟨⟨by decide +kernel, by decide +kernel⟩, List.mem_of_getElem? (i := 493) (by decide +kernel), List.mem_of_getElem? (i := 662) (by decide +kernel), List.mem_of_getElem? (i := 663) (by decide +kernel)⟩
theorem lw_p31 : lw_okq (⟨"FormworkYardModel", "end", "(I)I"⟩, 19) := ⟨⟨by decide +kernel, by decide +kernel⟩, List.mem_of_getElem? (i := 493) (by decide +kernel), List.mem_of_getElem? (i := 666) (by decide +kernel), List.mem_of_getElem? (i := 667) (by decide +kernel)⟩
def lw_privs_2 : List (MethodName × Nat) := [(⟨"FormworkYard$Pour", "addBreak", "(II)V"⟩, 13), (⟨"FormworkYard", "markFullHours", "(I)V"⟩, 9), (⟨"FormworkYard", "giveOutPanels", "()V"⟩, 9), (⟨"FormworkYard", "nextToServe", "()LFormworkYard$Pour;"⟩, 9), (⟨"FormworkYard", "panelsBusyIn", "(I)J"⟩, 9), (⟨"FormworkYard", "lowestPanels", "(JI)J"⟩, 9), (⟨"FormworkYardModel", "fails", "(I)I"⟩, 19), (⟨"FormworkYardModel", "sum", "(II)I"⟩, 19), (⟨"FormworkYardModel", "gain", "(I)I"⟩, 19), (⟨"FormworkYardModel", "rate", "()I"⟩, 19), (⟨"FormworkYardModel", "freeNumber", "()I"⟩, 19), (⟨"FormworkYardModel", "lays", "(IIIII)V"⟩, 19), (⟨"FormworkYardModel", "isPour", "(I)Z"⟩, 19), (⟨"FormworkYardModel", "isAsked", "(I)Z"⟩, 19), (⟨"FormworkYardModel", "works", "(I)V"⟩, 19), (⟨"FormworkYardModel", "end", "(I)I"⟩, 19)]
theorem lw_r2 : ∀ q ∈ lw_privs_2, lw_okq q := List.forall_mem_cons.mpr ⟨lw_p16, List.forall_mem_cons.mpr ⟨lw_p17, List.forall_mem_cons.mpr ⟨lw_p18, List.forall_mem_cons.mpr ⟨lw_p19, List.forall_mem_cons.mpr ⟨lw_p20, List.forall_mem_cons.mpr ⟨lw_p21, List.forall_mem_cons.mpr ⟨lw_p22, List.forall_mem_cons.mpr ⟨lw_p23, List.forall_mem_cons.mpr ⟨lw_p24, List.forall_mem_cons.mpr ⟨lw_p25, List.forall_mem_cons.mpr ⟨lw_p26, List.forall_mem_cons.mpr ⟨lw_p27, List.forall_mem_cons.mpr ⟨lw_p28, List.forall_mem_cons.mpr ⟨lw_p29, List.forall_mem_cons.mpr ⟨lw_p30, List.forall_mem_cons.mpr ⟨lw_p31, fun _ h => absurd h List.not_mem_nil⟩⟩⟩⟩⟩⟩⟩⟩⟩⟩⟩⟩⟩⟩⟩⟩
theorem lw_p32 : lw_okq (⟨"FormworkYardModel", "delays", "(I)I"⟩, 19) := ⟨⟨by decide +kernel, by decide +kernel⟩, List.mem_of_getElem? (i := 493) (by decide +kernel), List.mem_of_getElem? (i := 670) (by decide +kernel), List.mem_of_getElem? (i := 671) (by decide +kernel)⟩
theorem lw_p33 : lw_okq (⟨"FormworkYardModel", "worksAll", "()V"⟩, 19) := ⟨⟨by decide +kernel, by decide +kernel⟩, List.mem_of_getElem? (i := 493) (by decide +kernel), List.mem_of_getElem? (i := 690) (by decide +kernel), List.mem_of_getElem? (i := 691) (by decide +kernel)⟩
theorem lw_p34 : lw_okq (⟨"FormworkYardModel", "needOf", "(I)I"⟩, 19) := ⟨⟨by decide +kernel, by decide +kernel⟩, List.mem_of_getElem? (i := 493) (by decide +kernel), List.mem_of_getElem? (i := 694) (by decide +kernel), List.mem_of_getElem? (i := 695) (by decide +kernel)⟩
theorem lw_p35 : lw_okq (⟨"FormworkYardModel", "isBusy", "(II)Z"⟩, 19) := ⟨⟨by decide +kernel, by decide +kernel⟩, List.mem_of_getElem? (i := 493) (by decide +kernel), List.mem_of_getElem? (i := 698) (by decide +kernel), List.mem_of_getElem? (i := 699) (by decide +kernel)⟩
theorem lw_p36 : lw_okq (⟨"FormworkYardModel", "most", "()I"⟩, 19) := ⟨⟨by decide +kernel, by decide +kernel⟩, List.mem_of_getElem? (i := 493) (by decide +kernel), List.mem_of_getElem? (i := 706) (by decide +kernel), List.mem_of_getElem? (i := 707) (by decide +kernel)⟩
theorem lw_p37 : lw_okq (⟨"FormworkYardModel", "fits", "()Z"⟩, 19) := ⟨⟨by decide +kernel, by decide +kernel⟩, List.mem_of_getElem? (i := 493) (by decide +kernel), List.mem_of_getElem? (i := 722) (by decide +kernel), List.mem_of_getElem? (i := 723) (by decide +kernel)⟩
theorem lw_p38 : lw_okq (⟨"FormworkYardModel", "gives", "()V"⟩, 19) := ⟨⟨by decide +kernel, by decide +kernel⟩, List.mem_of_getElem? (i := 493) (by decide +kernel), List.mem_of_getElem? (i := 730) (by decide +kernel), List.mem_of_getElem? (i := 731) (by decide +kernel)⟩
theorem lw_p39 : lw_okq (⟨"FormworkYardModel", "isTaken", "(II)Z"⟩, 19) := ⟨⟨by decide +kernel, by decide +kernel⟩, List.mem_of_getElem? (i := 493) (by decide +kernel), List.mem_of_getElem? (i := 734) (by decide +kernel), List.mem_of_getElem? (i := 735) (by decide +kernel)⟩
def lw_privs_3 : List (MethodName × Nat) := [(⟨"FormworkYardModel", "delays", "(I)I"⟩, 19), (⟨"FormworkYardModel", "worksAll", "()V"⟩, 19), (⟨"FormworkYardModel", "needOf", "(I)I"⟩, 19), (⟨"FormworkYardModel", "isBusy", "(II)Z"⟩, 19), (⟨"FormworkYardModel", "most", "()I"⟩, 19), (⟨"FormworkYardModel", "fits", "()Z"⟩, 19), (⟨"FormworkYardModel", "gives", "()V"⟩, 19), (⟨"FormworkYardModel", "isTaken", "(II)Z"⟩, 19)]
theorem lw_r3 : ∀ q ∈ lw_privs_3, lw_okq q := List.forall_mem_cons.mpr ⟨lw_p32, List.forall_mem_cons.mpr ⟨lw_p33, List.forall_mem_cons.mpr ⟨lw_p34, List.forall_mem_cons.mpr ⟨lw_p35, List.forall_mem_cons.mpr ⟨lw_p36, List.forall_mem_cons.mpr ⟨lw_p37, List.forall_mem_cons.mpr ⟨lw_p38, List.forall_mem_cons.mpr ⟨lw_p39, fun _ h => absurd h List.not_mem_nil⟩⟩⟩⟩⟩⟩⟩⟩
def lw_privs : List (MethodName × Nat) := lw_privs_1 ++ (lw_privs_2 ++ (lw_privs_3))
def lw_tbl : List Cond := k2_sels lw_privs ++ tables_1
theorem lw_privs_ok : ∀ q ∈ lw_privs, lw_okq q := by
  show ∀ q ∈ lw_privs_1 ++ (lw_privs_2 ++ (lw_privs_3)), lw_okq q
  exact List.forall_mem_append.mpr ⟨lw_r1, List.forall_mem_append.mpr ⟨lw_r2, lw_r3⟩⟩
end
section
/-! ===== BEGIN words of one list among another's, by their places ===== -/
theorem goodIn_r {big : List Cond} (ws : List Cond) (ps : List Nat) (hp : ws = ps.filterMap (fun i => big[i]?)) (h : ws.all goodWord = true) : GoodIn big ws := by
  intro w hw
  have h1 := List.all_eq_true.mp h w hw
  rw [hp] at hw
  obtain ⟨i, -, hi⟩ := List.mem_filterMap.mp hw
  have hm : w ∈ big := by first | exact List.mem_of_getElem? hi | exact List.getElem?_mem hi
  exact ⟨hm, good_of_word h1⟩
theorem goodIn_app {big a b : List Cond} (ha : GoodIn big a) (hb : GoodIn big b) : GoodIn big (a ++ b) := fun w h => (List.mem_append.mp h).elim (ha w) (hb w)
theorem goodIn_ca {big a b : List Cond} {c : Cond} (ha : GoodIn big (c :: a)) (hb : GoodIn big b) : GoodIn big (c :: (a ++ b)) := fun w h => (List.mem_cons.mp h).elim (fun e => ha w (List.mem_cons.mpr (Or.inl e))) (fun h => (List.mem_append.mp h).elim (fun h => ha w (List.mem_cons.mpr (Or.inr h))) (hb w))
theorem goodIn_sub {big ws : List Cond} (hm : ∀ w ∈ ws, w ∈ big) (h : ws.all goodWord = true) : GoodIn big ws := fun w hw => ⟨hm w hw, good_of_word (List.all_eq_true.mp h w hw)⟩
/-! ===== END ===== -/

/-! ===== BEGIN exceptions that leave a method, and their catching by the caller (launches without stack traces) ===== -/
section VXA
/-! The laws vx_back, vx_callV, vx_callS, vx_callSW, vx_throw0, vx_throwS follow proofs of the library, with one case more: JvmDerived/Free/Laws.lean (Back.of_free), Shelf42/LK1.lean (callV, callS), Shelf/KitTraced.lean (throwNew0V, throwNewS). -/
/-- where a method has thrown q: the class by its name, the cell, what was written, the world -/
def vx_T (XC : String → State → State → Prop) (st : State) (q : Addr) (t : State) (mc ms : Nat) (free : Addr → Prop) : Prop :=
  ∃ (E : String) (ce : Cell) (L : List Loc), XC E st t ∧ t.heap[q]? = some ce ∧ ce.vm = .none ∧ st.vm.findClass E = some ce.cls ∧ st.WarmedH t.vm ∧ st.sameButNew ({ t with vm := st.vm } : State) L mc ms ∧ ∀ z ∈ L, free z.base
def vx_Q (Qc : Array Value → State → Outcome → State → Prop) (XC : String → State → State → Prop) (mc ms : Nat) (free : Addr → Prop) : Array Value → State → Outcome → State → Prop := fun a st o t =>
  (Qc a st o t ∧ ∃ L, FrameEnd st o t L mc ms ∧ ∀ q ∈ L, free q.base) ∨ ∃ q, o = .threw q ∧ vx_T XC st q t mc ms free
/-- a callee that returns or throws -/
def vx_Met (l : Launch) (y : MethodName) (ws : List Cond) (rm : Room) (Pc : Array Value → State → Prop) (Qc : Array Value → State → Outcome → State → Prop) (XC : String → State → State → Prop) (mc ms : Nat) (free : Addr → Prop) : Prop :=
  MetFree l y (headSpec ws rm) Pc (fun _ _ _ _ _ => True) (vx_Q Qc XC mc ms free)
def vx_Post (XC : String → State → State → Prop) (mc ms : Nat) (free : Addr → Prop) : Pt → Array Value → Addr → Pt → Prop := fun A a q B =>
  ∃ (g : JFrame) (mk : MethodId) (t : State) (L : List Loc) (E : String) (ce : Cell), B.U.heap = t.heap ∧ B.U.vm = t.vm ∧ XC E (A.U.calling g mk a) t ∧ t.heap[q]? = some ce ∧ ce.vm = .none ∧ A.U.vm.findClass E = some ce.cls ∧ B.locs = A.locs ++ L ∧ (∀ z ∈ L, free z.base) ∧ B.cells = A.cells + mc ∧ B.slots = A.slots + ms
def vx_Back (l : Launch) (R : Room) (p : Program) (e : Env) (below : List Frame) (s : State) (sargs : Array Value) (y : MethodName) (len W9 : Nat)
    (Pre : Pt → Array Value → Prop) (Post : Pt → Array Value → Option Value → Pt → Prop) (PostX : Pt → Array Value → Addr → Pt → Prop) : Prop :=
  ∀ (m : MethodId) (meth : Method) (c : Code) (A : Pt) (g : JFrame) (ig : Instr) (mk : MethodId) (a : Array Value),
    Stand p l e R s m sargs below meth c A.U A.locs A.cells A.slots → g.method = m → g.locals.size = c.maxLocals → decode c.code g.pc = .ok (ig, len) →
    2 * g.monitorRoom + (g.stack.map fun v => v.category).sum ≤ W9 → A.U.methodNamed? y = some mk → Pre A a →
    (∃ (v : Option Value) (B : Pt), Stand p l e R s m sargs below meth c B.U B.locs B.cells B.slots ∧ Post A a v B ∧
      Steps p.tables e below (doInvoke e (A.U.setTop g) [] mk a).1 (B.U.setTop { g with pc := g.pc + len, stack := v.toList ++ g.stack })) ∨
    (∃ (q : Addr) (B : Pt), Stand p l e R s m sargs below meth c B.U B.locs B.cells B.slots ∧ PostX A a q B ∧
      Steps p.tables e below (doInvoke e (A.U.setTop g) [] mk a).1 ((B.U.setTop g).pushFrame (.throwing q)))
section Payer
variable {l : Launch} {R : Room} {p : Program} {e : Env} {below : List Frame} {s : State} {sargs : Array Value} {y : MethodName} {len W9 : Nat}
theorem vx_back {ws : List Cond} {rm : Room} {Pc : Array Value → State → Prop} {Qc : Array Value → State → Outcome → State → Prop} {XC : String → State → State → Prop} {mc ms : Nat} {free : Addr → Prop} {bytes : ByteArray} {maxL : Nat} {ret : Option FieldType}
    (hM : vx_Met l y ws rm Pc Qc XC mc ms free) (hblind : FrameBlind Pc) (hrc : rm.cells = mc) (hrs : rm.slots = ms)
    (hframes : rm.frames + 1 ≤ R.frames) (hlocals : W9 + (maxL + 11) + rm.locals ≤ R.locals)
    (hws : ∀ w ∈ ws, ∀ a' U, s.WarmedH U.vm → w.before a' U = true) (hcode : Cond.code y bytes maxL ret ∈ ws) (hinit : ∀ a' U, s.WarmedH U.vm → (Cond.initialized y.cls).before a' U = true) :
    vx_Back l R p e below s sargs y len W9 (PreOf R mc ms Pc) (PostOf Qc mc ms free) (vx_Post XC mc ms free) := by
  intro m meth c A g ig mk a X hg hsize hdg hW hn hp
  have h1 : (headSpec ws rm).pre.before a A.U = true := atoms_intro fun w hw => hws w hw _ _ X.warmed
  have h2 : (Cond.code y bytes maxL ret).before a A.U = true := hws _ hcode _ _ X.warmed
  have h3 : (Cond.initialized y.cls).before a A.U = true := hinit _ _ X.warmed
  have h4 : A.cells + (headSpec ws rm).room.cells ≤ R.cells := by rw [show (headSpec ws rm).room.cells = mc from hrc]; exact hp.1
  have h5 : A.slots + (headSpec ws rm).room.slots ≤ R.slots := by rw [show (headSpec ws rm).room.slots = ms from hrs]; exact hp.2.1
  have hPc : Pc a (A.U.calling g mk a) := hblind _ _ _ _ hp.2.2
  obtain ⟨U, Ls, c0, s0⟩ := A
  dsimp only [Pt.U, Pt.locs, Pt.cells, Pt.slots] at h1 h2 h3 h4 h5 X hn hPc ⊢
  obtain ⟨methY, cY, hmY, hcY, -, hlY, -, -, -, -⟩ := Cond.code_spec hn h2
  obtain ⟨kY, hkY, -⟩ := className_of_methodNamed hn
  have hinitY : kY.init = .initialized := Cond.initialized_spec (findClass_of_methodNamed hn) hkY h3
  have h : At U g.method c below := by rw [hg]; exact X.here
  have hlocals9 : W9 + (maxL + 11) + (headSpec ws rm).room.locals ≤ R.locals := hlocals
  have happ : (headSpec ws rm).appliesLoose y e.platform (U.calling g mk a) = true :=
    Spec.appliesLoose_calling (g := g) h hdg hn hkY hinitY
      (X.room_calling (g := g) (R' := (headSpec ws rm).room) hsize hmY hcY hframes (by rw [hlY]; omega) h4 h5) h1
  obtain ⟨mid, hmid⟩ := h.above
  have hfr : (U.setTop g).frames = (.java g :: mid) ++ below := by rw [State.frames_setTop' g h.top, hmid]; rfl
  obtain ⟨o, s₂, hsteps, -, hend, hq⟩ := Steps.callFree hM p X.admits X.cas X.clock (acts := []) hfr happ hPc trivial
  have hq' : vx_Q Qc XC mc ms free a (U.calling g mk a) o s₂ := hq
  rw [State.frames_setTop' g h.top] at hend
  obtain ⟨g₀, hg0⟩ := Option.isSome_iff_exists.mp h.top
  obtain ⟨r, hr⟩ := State.topJava?_eq_some.mp hg0
  have hr' : (({ U with heap := s₂.heap, slotsUsed := s₂.slotsUsed } : State).setVm s₂.vm).frames = .java g₀ :: r := hr
  rcases hq' with ⟨hqc, L, hfe, hL⟩ | ⟨q, rfl, E, ce, L, hx, hce, hcv, hcl, hW₂, hsm, hL⟩
  · obtain ⟨⟨v, rfl⟩, hW₂, e2, q2, q3, q4, q5, q6⟩ := id hfe
    have e3 : s₂ = ({ (U.calling g mk a).setFrames s₂.frames with heap := s₂.heap, slotsUsed := s₂.slotsUsed } : State).setVm s₂.vm := by
      have : s₂ = ({ s₂ with vm := (U.calling g mk a).vm } : State).setVm s₂.vm := rfl
      rw [e2] at this
      exact this
    obtain ⟨c₂, i₂, len₂, hc₂, hd₂, hf₂⟩ := hend
    have hW' : U.WarmedH s₂.vm := hW₂
    have hcc : c₂ = c := by
      have h1 : s₂.code? g.method = U.code? g.method := by
        rw [State.code?_eq, State.code?_eq, hW'.alike.method?]
      exact Option.some.inj (hc₂.symm.trans (h1.trans h.code))
    subst hcc
    have hlen : len₂ = len := by rw [hdg] at hd₂; cases hd₂; rfl
    subst hlen
    have hs₂ : s₂ = (({ U with heap := s₂.heap, slotsUsed := s₂.slotsUsed } : State).setVm s₂.vm).setTop { g with pc := g.pc + len₂, stack := v.toList ++ g.stack } := by
      refine e3.trans ?_
      rw [hf₂, State.calling_eq h.top, State.setFrames_setFrames, State.setTop_of_frames _ hr', hr]
      rfl
    have hsame : U.sameButNew ({ U with heap := s₂.heap, slotsUsed := s₂.slotsUsed } : State) L mc ms := by
      refine ⟨?_, q2, q3, q4, q5, q6⟩
      obtain ⟨t, ht, -⟩ := State.frames_cons hr
      show ({ U with heap := s₂.heap, slotsUsed := s₂.slotsUsed } : State) = { U.setFrames U.frames with heap := s₂.heap, slotsUsed := s₂.slotsUsed }
      rw [State.setFrames_self ht]
    subst hg
    refine Or.inl ⟨v, ⟨(({ U with heap := s₂.heap, slotsUsed := s₂.slotsUsed } : State).setVm s₂.vm), Ls ++ L, c0 + mc, s0 + ms⟩,
      ⟨X.admits, X.cas, X.clock, X.frames, X.room, X.hears, X.method, X.code, (X.here.setHeapUsed s₂.heap s₂.slotsUsed).setVm hW'.alike, X.tail, State.WarmedH.trans X.warmed hW', X.limits, X.bytes, X.same.trans (hsame.setVm s.vm)⟩,
      ⟨g, mk, s₂, L, rfl, rfl, hqc, rfl, hL, rfl, rfl⟩, ?_⟩
    show Steps p.tables e below _ ((({ U with heap := s₂.heap, slotsUsed := s₂.slotsUsed } : State).setVm s₂.vm).setTop { g with pc := g.pc + len₂, stack := v.toList ++ g.stack })
    rw [← hs₂]
    exact hsteps
  · obtain ⟨e2, q2, q3, q4, q5, q6⟩ := id hsm
    have e3 : s₂ = ({ (U.calling g mk a).setFrames s₂.frames with heap := s₂.heap, slotsUsed := s₂.slotsUsed } : State).setVm s₂.vm := by
      have : s₂ = ({ s₂ with vm := (U.calling g mk a).vm } : State).setVm s₂.vm := rfl
      rw [e2] at this
      exact this
    have hf₂ : s₂.frames = .throwing q :: .java g :: U.frames.tail := hend
    have hW' : U.WarmedH s₂.vm := hW₂
    have hs₂ : s₂ = ((({ U with heap := s₂.heap, slotsUsed := s₂.slotsUsed } : State).setVm s₂.vm).setTop g).pushFrame (.throwing q) := by
      refine e3.trans ?_
      rw [hf₂, State.calling_eq h.top, State.setFrames_setFrames, State.pushFrame, State.frames_setTop _ hr', State.setTop_of_frames _ hr', State.setFrames_setFrames, hr]
      rfl
    have hsame : U.sameButNew ({ U with heap := s₂.heap, slotsUsed := s₂.slotsUsed } : State) L mc ms := by
      refine ⟨?_, q2, q3, q4, q5, q6⟩
      obtain ⟨t, ht, -⟩ := State.frames_cons hr
      show ({ U with heap := s₂.heap, slotsUsed := s₂.slotsUsed } : State) = { U.setFrames U.frames with heap := s₂.heap, slotsUsed := s₂.slotsUsed }
      rw [State.setFrames_self ht]
    subst hg
    refine Or.inr ⟨q, ⟨(({ U with heap := s₂.heap, slotsUsed := s₂.slotsUsed } : State).setVm s₂.vm), Ls ++ L, c0 + mc, s0 + ms⟩,
      ⟨X.admits, X.cas, X.clock, X.frames, X.room, X.hears, X.method, X.code, (X.here.setHeapUsed s₂.heap s₂.slotsUsed).setVm hW'.alike, X.tail, State.WarmedH.trans X.warmed hW', X.limits, X.bytes, X.same.trans (hsame.setVm s.vm)⟩,
      ⟨g, mk, s₂, L, E, ce, rfl, rfl, hx, hce, hcv, hcl, rfl, hL, rfl, rfl⟩, ?_⟩
    show Steps p.tables e below _ (((({ U with heap := s₂.heap, slotsUsed := s₂.slotsUsed } : State).setVm s₂.vm).setTop g).pushFrame (.throwing q))
    rw [← hs₂]
    exact hsteps
end Payer
section Calls
variable {p : Program} {l : Launch} {e : Env} {R : Room} {s : State} {m : MethodId} {args : Array Value} {below : List Frame} {meth : Method} {c : Code} {T : State} {locs : List Loc} {cells slots : Nat}
theorem vx_callV (X : Stand p l e R s m args below meth c T locs cells slots) (hexec : p.tables.exec = Jvm.exec) {own C : String} {index : Nat} {y : MethodName} {bytes : ByteArray} {maxL : Nat} {ret : Option FieldType}
    (hown : s.vm.findClass own = some m.cls) (hlink : (Cond.methodLink own index y).before args s = true) (hinst : (Cond.instanceMethod y).before args s = true) (hsel : (Cond.selects C y y).before args s = true)
    (hcode : (Cond.code y bytes maxL ret).before args s = true) (hy : y.cls ≠ "java/lang/invoke/MethodHandle" ∧ y.cls ≠ "java/lang/invoke/VarHandle")
    {W9 : Nat} {Pre : Pt → Array Value → Prop} {Post : Pt → Array Value → Option Value → Pt → Prop} {PostX : Pt → Array Value → Addr → Pt → Prop} (hK : vx_Back l R p e below s args y 3 W9 Pre Post PostX)
    {b : Addr} {cellB : Cell} (hcell : T.heap[b]? = some cellB) (hobj : cellB.vm.isStatics = false) (hcls : s.vm.findClass C = some cellB.cls)
    {g : JFrame} (hg : g.method = m) (hsize : g.locals.size = c.maxLocals) {argsL rest : List Value} (hlen : ∀ sig, parseMethodDescriptor y.desc = some sig → argsL.length = sig.parameters.length)
    (hstack : g.stack = argsL.reverse ++ .ref b :: rest) (hW : 2 * g.monitorRoom + (rest.map fun v => v.category).sum ≤ W9) (hdg : decode c.code g.pc = .ok (.invokevirtual index, 3))
    (hpre : ∀ vm₁, s.WarmedH vm₁ → Pre ⟨T.setVm vm₁, locs, cells, slots⟩ (Value.ref b :: argsL).toArray) :
    (∃ (v : Option Value) (vm₁ : Vm) (B : Pt), s.WarmedH vm₁ ∧ Stand p l e R s m args below meth c B.U B.locs B.cells B.slots ∧ Post ⟨T.setVm vm₁, locs, cells, slots⟩ (Value.ref b :: argsL).toArray v B ∧
      ∀ target, Steps p.tables e below (B.U.setTop { g with pc := g.pc + 3, stack := v.toList ++ rest }) target → Steps p.tables e below (T.setTop g) target) ∨
    (∃ (q : Addr) (vm₁ : Vm) (B : Pt), s.WarmedH vm₁ ∧ Stand p l e R s m args below meth c B.U B.locs B.cells B.slots ∧ PostX ⟨T.setVm vm₁, locs, cells, slots⟩ (Value.ref b :: argsL).toArray q B ∧
      Steps p.tables e below (T.setTop g) ((B.U.setTop { g with stack := rest }).pushFrame (.throwing q))) := by
  obtain ⟨mk, methM, hnamed, hmethM, hstM, habM⟩ := Cond.instanceMethod_spec hinst
  obtain ⟨methM', cM, hmethM', -, -, -, -, -, -, hsigM⟩ := Cond.code_spec hnamed hcode
  cases hmethM.symm.trans hmethM'
  obtain ⟨c2, r2, m2, q1, q2, q3, q4, kP, hkP, hkPi⟩ := Cond.selects_spec hsel
  cases hcls.symm.trans q1
  cases (State.methodFound?_of_named hnamed hy).symm.trans q2
  cases hnamed.symm.trans q3
  have hselP : selectMethod e.platform s.vm cellB.cls mk = .method mk := by rw [Launch.admits_selectMethod X.admits]; exact q4
  obtain ⟨vm₁, X₁, hstep₁⟩ := X.invokevirtual hexec hown hlink hnamed hmethM hstM hkP hkPi hy (a := b) (cell := cellB) hcell
    (fun z h => by rw [h] at hobj; cases hobj) hselP hmethM habM hkP hkPi (g := g) hg (argsL := argsL) (rest := rest) (hlen _ hsigM) hstack hdg
  rcases hK m meth c ⟨T.setVm vm₁, locs, cells, slots⟩ { g with stack := rest } (.invokevirtual index) mk (Value.ref b :: argsL).toArray X₁ hg hsize hdg hW (X₁.named hnamed) (hpre vm₁ X₁.warmed) with ⟨v, B, X', hpost, hsteps⟩ | ⟨q, B, X', hpost, hsteps⟩
  · exact Or.inl ⟨v, vm₁, B, X₁.warmed, X', hpost, fun target h => hstep₁ _ fun acts => by rw [doInvoke_state]; exact hsteps.trans h⟩
  · exact Or.inr ⟨q, vm₁, B, X₁.warmed, X', hpost, hstep₁ _ fun acts => by rw [doInvoke_state]; exact hsteps⟩
theorem vx_callS (X : Stand p l e R s m args below meth c T locs cells slots) (hexec : p.tables.exec = Jvm.exec) {own : String} {index : Nat} {y : MethodName} {bytes : ByteArray} {maxL : Nat} {ret : Option FieldType}
    (hown : s.vm.findClass own = some m.cls) (hlink : (Cond.methodLink own index y).before args s = true) (hstat : (Cond.static y).before args s = true) (hinit : (Cond.initialized y.cls).before args s = true)
    (hcode : (Cond.code y bytes maxL ret).before args s = true) (hy : y.cls ≠ "java/lang/invoke/MethodHandle" ∧ y.cls ≠ "java/lang/invoke/VarHandle")
    {W9 : Nat} {Pre : Pt → Array Value → Prop} {Post : Pt → Array Value → Option Value → Pt → Prop} {PostX : Pt → Array Value → Addr → Pt → Prop} (hK : vx_Back l R p e below s args y 3 W9 Pre Post PostX)
    {g : JFrame} (hg : g.method = m) (hsize : g.locals.size = c.maxLocals) {argsL rest : List Value} (hlen : ∀ sig, parseMethodDescriptor y.desc = some sig → argsL.length = sig.parameters.length)
    (hstack : g.stack = argsL.reverse ++ rest) (hW : 2 * g.monitorRoom + (rest.map fun v => v.category).sum ≤ W9) (hdg : decode c.code g.pc = .ok (.invokestatic index, 3))
    (hpre : ∀ vm₁, s.WarmedH vm₁ → Pre ⟨T.setVm vm₁, locs, cells, slots⟩ argsL.toArray) :
    (∃ (v : Option Value) (vm₁ : Vm) (B : Pt), s.WarmedH vm₁ ∧ Stand p l e R s m args below meth c B.U B.locs B.cells B.slots ∧ Post ⟨T.setVm vm₁, locs, cells, slots⟩ argsL.toArray v B ∧
      ∀ target, Steps p.tables e below (B.U.setTop { g with pc := g.pc + 3, stack := v.toList ++ rest }) target → Steps p.tables e below (T.setTop g) target) ∨
    (∃ (q : Addr) (vm₁ : Vm) (B : Pt), s.WarmedH vm₁ ∧ Stand p l e R s m args below meth c B.U B.locs B.cells B.slots ∧ PostX ⟨T.setVm vm₁, locs, cells, slots⟩ argsL.toArray q B ∧
      Steps p.tables e below (T.setTop g) ((B.U.setTop { g with stack := rest }).pushFrame (.throwing q))) := by
  obtain ⟨mk, hnamed⟩ := Cond.code_named hcode
  obtain ⟨methM, cM, hmethM, -, -, -, -, -, -, hsigM⟩ := Cond.code_spec hnamed hcode
  have hstatic : methM.isStatic = true := Cond.static_spec hnamed hmethM hstat
  obtain ⟨kP, hkP, -⟩ := className_of_methodNamed hnamed
  have hinitP : kP.init = .initialized := Cond.initialized_spec (findClass_of_methodNamed hnamed) hkP hinit
  obtain ⟨vm₁, X₁, hstep₁⟩ := X.invokestatic hexec hown hlink hnamed hmethM hstatic hkP hinitP hy (g := g) hg (argsL := argsL) (rest := rest) (hlen _ hsigM) hstack hdg
  rcases hK m meth c ⟨T.setVm vm₁, locs, cells, slots⟩ { g with stack := rest } (.invokestatic index) mk argsL.toArray X₁ hg hsize hdg hW (X₁.named hnamed) (hpre vm₁ X₁.warmed) with ⟨v, B, X', hpost, hsteps⟩ | ⟨q, B, X', hpost, hsteps⟩
  · exact Or.inl ⟨v, vm₁, B, X₁.warmed, X', hpost, fun target h => hstep₁ _ fun acts => by rw [doInvoke_state]; exact hsteps.trans h⟩
  · exact Or.inr ⟨q, vm₁, B, X₁.warmed, X', hpost, hstep₁ _ fun acts => by rw [doInvoke_state]; exact hsteps⟩
end Calls
theorem vx_cls {s : State} {T : State} {vm₁ : Vm} {E : String} {k : ClassId} (hW : s.WarmedH vm₁) (h : (T.setVm vm₁).vm.findClass E = some k) : s.vm.findClass E = some k := by
  have h1 : vm₁.findClass E = some k := h
  rw [hW.alike.findClass] at h1
  exact h1
/-- the method's frame g, with q thrown over it -/
def vx_W (p : Program) (l : Launch) (e : Env) (R : Room) (s : State) (m : MethodId) (args : Array Value) (below : List Frame) (meth : Method) (c : Code) (H : Heap) (locs : List Loc) (cells slots : Nat) (Q : State → Prop) (g : JFrame) (q : Addr) : Prop :=
  ∀ T : State, T.heap = H → Stand p l e R s m args below meth c T locs cells slots → ∃ t, Steps p.tables e below ((T.setTop g).pushFrame (.throwing q)) t ∧ Q t
def vx_Run (p : Program) (l : Launch) (e : Env) (R : Room) (s : State) (m : MethodId) (args : Array Value) (below : List Frame) (meth : Method) (c : Code) (H : Heap) (locs : List Loc) (cells slots mc ms : Nat) (g : JFrame) (rest : List Value) (Qa : State → Outcome → State → Prop) (XC : String → State → State → Prop) (free : Addr → Prop) : Prop :=
  ∀ T : State, T.heap = H → Stand p l e R s m args below meth c T locs cells slots →
    (∃ (v : Option Value) (st₀ t T' : State) (L : List Loc), st₀.heap = H ∧ Stand p l e R s m args below meth c T' (locs ++ L) (cells + mc) (slots + ms) ∧ (∀ q ∈ L, free q.base) ∧ T'.heap = t.heap ∧ T'.vm = t.vm ∧ Qa st₀ (.returned v) t ∧
      Goes p e below T g T' { g with pc := g.pc + 3, stack := v.toList ++ rest }) ∨
    (∃ (q : Addr) (st₀ t T' : State) (L : List Loc) (E : String) (ce : Cell), st₀.heap = H ∧ Stand p l e R s m args below meth c T' (locs ++ L) (cells + mc) (slots + ms) ∧ (∀ z ∈ L, free z.base) ∧ T'.heap = t.heap ∧ T'.vm = t.vm ∧ XC E st₀ t ∧ t.heap[q]? = some ce ∧ ce.vm = .none ∧ s.vm.findClass E = some ce.cls ∧
      Steps p.tables e below (T.setTop g) ((T'.setTop { g with stack := rest }).pushFrame (.throwing q)))
def vx_X {S : Type} (px : S → Prop) (B : String → S → State → Prop) (A : Nat → Prop) : String → State → State → Prop := fun E st t => ∃ u : S, px u ∧ B E u t ∧ va_F A st t
section Runs
variable {p : Program} {l : Launch} {e : Env} {R : Room} {s : State} {m : MethodId} {args : Array Value} {below : List Frame} {meth : Method} {c : Code} {H : Heap} {locs : List Loc} {cells slots : Nat}
variable {y : MethodName} {bytes cc : ByteArray} {maxL nL mc ms n index : Nat} {ret : Option FieldType} {ws : List Cond} {rm : Room} {Pc : Array Value → State → Prop} {Qc : Array Value → State → Outcome → State → Prop} {XC : String → State → State → Prop} {free : Addr → Prop} {Ts : List Cond} {own C : String} {b : Addr} {As rest : List Value} {g : JFrame}
theorem vx_callBack (cb : CallB R s args own index y bytes maxL ret ws rm mc ms n) (hM : vx_Met l y ws rm Pc Qc XC mc ms free) (hbl : FrameBlind Pc) : vx_Back l R p e below s args y 3 8 (PreOf R mc ms Pc) (PostOf Qc mc ms free) (vx_Post XC mc ms free) := by
  obtain ⟨hrc, hrs, hfr, hlo, hws, hcw, -, hini, -⟩ := cb
  exact vx_back (bytes := bytes) (maxL := maxL) (ret := ret) hM hbl hrc hrs hfr hlo hws hcw (fun a' U hW => word_at hW (Or.inl (by first | rfl | simp [Cond.onTables, Cond.keeps, Cond.steady])) hini)
theorem vx_runV (S : CallFix p m c cc nL s args Ts own) (hM : vx_Met l y ws rm Pc Qc XC mc ms free) (cw : CallW R s args own C index y bytes maxL ret ws rm mc ms n) (hp : PreV s H C b Pc As)
    (hg : g.method = m) (hn : As.length = n) (hsize : g.locals.size = nL) (hstack : g.stack = As.reverse ++ .ref b :: rest) (hW : 2 * g.monitorRoom + (rest.map fun v => v.category).sum ≤ 8) (hdg : decode cc g.pc = .ok (.invokevirtual index, 3)) (hf : cells + mc ≤ R.cells ∧ slots + ms ≤ R.slots) :
    vx_Run p l e R s m args below meth c H locs cells slots mc ms g rest (Qc (Value.ref b :: As).toArray) XC free := by
  have hK : vx_Back l R p e below s args y 3 8 (PreOf R mc ms Pc) (PostOf Qc mc ms free) (vx_Post XC mc ms free) := vx_callBack cw.1 hM hp.1
  obtain ⟨⟨-, -, -, -, -, -, hcode, -, hy, hlen, hl⟩, hin, hse⟩ := cw
  obtain ⟨hx, hb, hml, ho, -⟩ := S
  obtain ⟨-, ⟨cellB, hcB, hoB, hclB⟩, hPc⟩ := hp
  intro T hT X
  rcases vx_callV X hx (C := C) (bytes := bytes) (maxL := maxL) (ret := ret) ho hl hin hse hcode hy hK (by rw [hT]; exact hcB) hoB hclB hg (hsize.trans hml.symm) (argsL := As) (rest := rest) (fun sig h => hn.trans (hlen sig h)) hstack hW (by rw [hb]; exact hdg)
    (fun vm₁ hW₁ => ⟨hf.1, hf.2, hPc (T.setVm vm₁) hT hW₁⟩) with ⟨v, vm₁, ⟨U', l2, c2, s2⟩, hW₁, X', ⟨g', mk, t, L, e1, e2, hq, h1, hL, h2, h3⟩, st⟩ | ⟨q, vm₁, ⟨U', l2, c2, s2⟩, hW₁, X', ⟨g', mk, t, L, E, ce, e1, e2, hq, hce, hcv, hcl, h1, hL, h2, h3⟩, st⟩
  · dsimp only [Pt.U, Pt.locs, Pt.cells, Pt.slots] at X' e1 e2 h1 h2 h3 st
    subst h1; subst h2; subst h3
    exact Or.inl ⟨v, (T.setVm vm₁).calling g' mk (Value.ref b :: As).toArray, t, U', L, hT, X', hL, e1, e2, hq, st⟩
  · dsimp only [Pt.U, Pt.locs, Pt.cells, Pt.slots] at X' e1 e2 h1 h2 h3 st hcl
    subst h1; subst h2; subst h3
    exact Or.inr ⟨q, (T.setVm vm₁).calling g' mk (Value.ref b :: As).toArray, t, U', L, E, ce, hT, X', hL, e1, e2, hq, hce, hcv, vx_cls hW₁ hcl, st⟩
theorem vx_runS (S : CallFix p m c cc nL s args Ts own) (hM : vx_Met l y ws rm Pc Qc XC mc ms free) (cw : CallB R s args own index y bytes maxL ret ws rm mc ms n ∧ (Cond.static y).before args s = true) (hp : PreS s H Pc As)
    (hg : g.method = m) (hn : As.length = n) (hsize : g.locals.size = nL) (hstack : g.stack = As.reverse ++ rest) (hW : 2 * g.monitorRoom + (rest.map fun v => v.category).sum ≤ 8) (hdg : decode cc g.pc = .ok (.invokestatic index, 3)) (hf : cells + mc ≤ R.cells ∧ slots + ms ≤ R.slots) :
    vx_Run p l e R s m args below meth c H locs cells slots mc ms g rest (Qc As.toArray) XC free := by
  have hK : vx_Back l R p e below s args y 3 8 (PreOf R mc ms Pc) (PostOf Qc mc ms free) (vx_Post XC mc ms free) := vx_callBack cw.1 hM hp.1
  obtain ⟨⟨-, -, -, -, -, -, hcode, hini, hy, hlen, hl⟩, hstt⟩ := cw
  obtain ⟨hx, hb, hml, ho, -⟩ := S
  intro T hT X
  rcases vx_callS X hx (bytes := bytes) (maxL := maxL) (ret := ret) ho hl hstt hini hcode hy hK hg (hsize.trans hml.symm) (argsL := As) (rest := rest) (fun sig h => hn.trans (hlen sig h)) hstack hW (by rw [hb]; exact hdg)
    (fun vm₁ hW₁ => ⟨hf.1, hf.2, hp.2 (T.setVm vm₁) hT hW₁⟩) with ⟨v, vm₁, ⟨U', l2, c2, s2⟩, hW₁, X', ⟨g', mk, t, L, e1, e2, hq, h1, hL, h2, h3⟩, st⟩ | ⟨q, vm₁, ⟨U', l2, c2, s2⟩, hW₁, X', ⟨g', mk, t, L, E, ce, e1, e2, hq, hce, hcv, hcl, h1, hL, h2, h3⟩, st⟩
  · dsimp only [Pt.U, Pt.locs, Pt.cells, Pt.slots] at X' e1 e2 h1 h2 h3 st
    subst h1; subst h2; subst h3
    exact Or.inl ⟨v, (T.setVm vm₁).calling g' mk As.toArray, t, U', L, hT, X', hL, e1, e2, hq, st⟩
  · dsimp only [Pt.U, Pt.locs, Pt.cells, Pt.slots] at X' e1 e2 h1 h2 h3 st hcl
    subst h1; subst h2; subst h3
    exact Or.inr ⟨q, (T.setVm vm₁).calling g' mk As.toArray, t, U', L, E, ce, hT, X', hL, e1, e2, hq, hce, hcv, vx_cls hW₁ hcl, st⟩
end Runs
section Rows
variable {p : Program} {l : Launch} {e : Env} {R : Room} {s : State} {m : MethodId} {args : Array Value} {below : List Frame} {meth : Method} {c : Code} {H : Heap} {locs : List Loc} {cells slots : Nat} {Q : State → Prop}
variable {mc ms : Nat} {free : Addr → Prop} {A0 A1 : Nat → Prop} {H0 : Heap} {a : Array Value} {pc : Nat} {ls : Array Slot} {st0 rest : List Value}
theorem vx_keep {st₀ t T' : State} {L : List Loc} (h0 : st₀.heap = H) (e1 : T'.heap = t.heap) (hS : va_S A0 H0 H locs) (hA : ∀ q, q < H.size → A1 q → A0 q) (hf : ∀ q, free q → A0 q) (hL : ∀ q ∈ L, free q.base) (hF : va_F A1 st₀ t) :
    H.size ≤ T'.heap.size ∧ (∀ q : Nat, q < H.size → ¬ A1 q → T'.heap[q]? = H[q]?) ∧ va_S A0 H0 T'.heap (locs ++ L) := by
  obtain ⟨hz, hk⟩ := hF
  rw [h0] at hz hk
  exact ⟨by rw [e1]; exact hz, fun q h1 h2 => by rw [e1]; exact hk q h1 h2,
    ⟨Nat.le_trans hS.1 (by rw [e1]; exact hz), fun q h1 h2 => by rw [e1, hk q (Nat.lt_of_lt_of_le h1 hS.1) (fun z => h2 (hA q (Nat.lt_of_lt_of_le h1 hS.1) z))]; exact hS.2.1 q h1 h2, fun q hq => by
      rcases List.mem_append.mp hq with h | h
      · exact hS.2.2 q h
      · exact hf _ (hL q h)⟩⟩
theorem vx_calli {S SX : Type} {post : Int32 → S → Prop} {px : SX → Prop} {B : S → State → Prop} {BX : String → SX → State → Prop} {AX : Nat → Prop} (hr : vx_Run p l e R s m args below meth c H locs cells slots mc ms (F0 m pc ls st0) rest (va_Qi post B A1 a) (vx_X px BX AX) free) (hS : va_S A0 H0 H locs) (hA : ∀ q, q < H.size → A1 q → A0 q) (hf : ∀ q, free q → A0 q) (hAX : ∀ q, q < H.size → AX q → A0 q)
    (kx : ∀ (E : String) (ce : Cell) (q9 : Addr) (u : SX) (t : State) (H1 : Heap) (locs1 : List Loc), t.heap = H1 → s.vm.Alike t.vm → px u → BX E u t → H.size ≤ H1.size → (∀ q : Nat, q < H.size → ¬ AX q → H1[q]? = H[q]?) → va_S A0 H0 H1 locs1 → H1[q9]? = some ce → ce.vm = .none → s.vm.findClass E = some ce.cls → vx_W p l e R s m args below meth c H1 locs1 (cells + mc) (slots + ms) Q (F0 m pc ls rest) q9)
    (kk : ∀ (r : Int32) (u : S) (t : State) (H1 : Heap) (locs1 : List Loc), t.heap = H1 → s.vm.Alike t.vm → post r u → B u t → H.size ≤ H1.size → (∀ q : Nat, q < H.size → ¬ A1 q → H1[q]? = H[q]?) → va_S A0 H0 H1 locs1 → W p l e R s m args below meth c H1 locs1 (cells + mc) (slots + ms) Q (F0 m (pc + 3) ls (.int r :: rest))) : W p l e R s m args below meth c H locs cells slots Q (F0 m pc ls st0) := by
  intro T hT X
  rcases hr T hT X with ⟨v, st₀, t, T', L, h0, X', hL, e1, e2, ⟨⟨r, u, hv, hp, hb⟩, hF⟩, st⟩ | ⟨q, st₀, t, T', L, E, ce, h0, X', hL, e1, e2, ⟨u, hp, hb, hF⟩, hce, hcv, hcl, st⟩
  · cases hv
    obtain ⟨k1, k2, k3⟩ := vx_keep h0 e1 hS hA hf hL hF
    obtain ⟨t2, a1, b1⟩ := kk r u t T'.heap (locs ++ L) e1.symm (by rw [← e2]; exact X'.warmed.alike) hp hb k1 k2 k3 T' rfl X'
    exact ⟨t2, st t2 a1, b1⟩
  · obtain ⟨k1, k2, k3⟩ := vx_keep h0 e1 hS hAX hf hL hF
    obtain ⟨t2, a1, b1⟩ := kx E ce q u t T'.heap (locs ++ L) e1.symm (by rw [← e2]; exact X'.warmed.alike) hp hb k1 k2 k3 (by rw [e1]; exact hce) hcv hcl T' rfl X'
    exact ⟨t2, st.trans a1, b1⟩
theorem vx_calll {S SX : Type} {post : Int64 → S → Prop} {px : SX → Prop} {B : S → State → Prop} {BX : String → SX → State → Prop} {AX : Nat → Prop} (hr : vx_Run p l e R s m args below meth c H locs cells slots mc ms (F0 m pc ls st0) rest (va_Ql post B A1 a) (vx_X px BX AX) free) (hS : va_S A0 H0 H locs) (hA : ∀ q, q < H.size → A1 q → A0 q) (hf : ∀ q, free q → A0 q) (hAX : ∀ q, q < H.size → AX q → A0 q)
    (kx : ∀ (E : String) (ce : Cell) (q9 : Addr) (u : SX) (t : State) (H1 : Heap) (locs1 : List Loc), t.heap = H1 → s.vm.Alike t.vm → px u → BX E u t → H.size ≤ H1.size → (∀ q : Nat, q < H.size → ¬ AX q → H1[q]? = H[q]?) → va_S A0 H0 H1 locs1 → H1[q9]? = some ce → ce.vm = .none → s.vm.findClass E = some ce.cls → vx_W p l e R s m args below meth c H1 locs1 (cells + mc) (slots + ms) Q (F0 m pc ls rest) q9)
    (kk : ∀ (r : Int64) (u : S) (t : State) (H1 : Heap) (locs1 : List Loc), t.heap = H1 → s.vm.Alike t.vm → post r u → B u t → H.size ≤ H1.size → (∀ q : Nat, q < H.size → ¬ A1 q → H1[q]? = H[q]?) → va_S A0 H0 H1 locs1 → W p l e R s m args below meth c H1 locs1 (cells + mc) (slots + ms) Q (F0 m (pc + 3) ls (.long r :: rest))) : W p l e R s m args below meth c H locs cells slots Q (F0 m pc ls st0) := by
  intro T hT X
  rcases hr T hT X with ⟨v, st₀, t, T', L, h0, X', hL, e1, e2, ⟨⟨r, u, hv, hp, hb⟩, hF⟩, st⟩ | ⟨q, st₀, t, T', L, E, ce, h0, X', hL, e1, e2, ⟨u, hp, hb, hF⟩, hce, hcv, hcl, st⟩
  · cases hv
    obtain ⟨k1, k2, k3⟩ := vx_keep h0 e1 hS hA hf hL hF
    obtain ⟨t2, a1, b1⟩ := kk r u t T'.heap (locs ++ L) e1.symm (by rw [← e2]; exact X'.warmed.alike) hp hb k1 k2 k3 T' rfl X'
    exact ⟨t2, st t2 a1, b1⟩
  · obtain ⟨k1, k2, k3⟩ := vx_keep h0 e1 hS hAX hf hL hF
    obtain ⟨t2, a1, b1⟩ := kx E ce q u t T'.heap (locs ++ L) e1.symm (by rw [← e2]; exact X'.warmed.alike) hp hb k1 k2 k3 (by rw [e1]; exact hce) hcv hcl T' rfl X'
    exact ⟨t2, st.trans a1, b1⟩
theorem vx_callf {S SX : Type} {post : UInt32 → S → Prop} {px : SX → Prop} {B : S → State → Prop} {BX : String → SX → State → Prop} {AX : Nat → Prop} (hr : vx_Run p l e R s m args below meth c H locs cells slots mc ms (F0 m pc ls st0) rest (va_Qf post B A1 a) (vx_X px BX AX) free) (hS : va_S A0 H0 H locs) (hA : ∀ q, q < H.size → A1 q → A0 q) (hf : ∀ q, free q → A0 q) (hAX : ∀ q, q < H.size → AX q → A0 q)
    (kx : ∀ (E : String) (ce : Cell) (q9 : Addr) (u : SX) (t : State) (H1 : Heap) (locs1 : List Loc), t.heap = H1 → s.vm.Alike t.vm → px u → BX E u t → H.size ≤ H1.size → (∀ q : Nat, q < H.size → ¬ AX q → H1[q]? = H[q]?) → va_S A0 H0 H1 locs1 → H1[q9]? = some ce → ce.vm = .none → s.vm.findClass E = some ce.cls → vx_W p l e R s m args below meth c H1 locs1 (cells + mc) (slots + ms) Q (F0 m pc ls rest) q9)
    (kk : ∀ (r : UInt32) (u : S) (t : State) (H1 : Heap) (locs1 : List Loc), t.heap = H1 → s.vm.Alike t.vm → post r u → B u t → H.size ≤ H1.size → (∀ q : Nat, q < H.size → ¬ A1 q → H1[q]? = H[q]?) → va_S A0 H0 H1 locs1 → W p l e R s m args below meth c H1 locs1 (cells + mc) (slots + ms) Q (F0 m (pc + 3) ls (.float r :: rest))) : W p l e R s m args below meth c H locs cells slots Q (F0 m pc ls st0) := by
  intro T hT X
  rcases hr T hT X with ⟨v, st₀, t, T', L, h0, X', hL, e1, e2, ⟨⟨r, u, hv, hp, hb⟩, hF⟩, st⟩ | ⟨q, st₀, t, T', L, E, ce, h0, X', hL, e1, e2, ⟨u, hp, hb, hF⟩, hce, hcv, hcl, st⟩
  · cases hv
    obtain ⟨k1, k2, k3⟩ := vx_keep h0 e1 hS hA hf hL hF
    obtain ⟨t2, a1, b1⟩ := kk r u t T'.heap (locs ++ L) e1.symm (by rw [← e2]; exact X'.warmed.alike) hp hb k1 k2 k3 T' rfl X'
    exact ⟨t2, st t2 a1, b1⟩
  · obtain ⟨k1, k2, k3⟩ := vx_keep h0 e1 hS hAX hf hL hF
    obtain ⟨t2, a1, b1⟩ := kx E ce q u t T'.heap (locs ++ L) e1.symm (by rw [← e2]; exact X'.warmed.alike) hp hb k1 k2 k3 (by rw [e1]; exact hce) hcv hcl T' rfl X'
    exact ⟨t2, st.trans a1, b1⟩
theorem vx_calld {S SX : Type} {post : UInt64 → S → Prop} {px : SX → Prop} {B : S → State → Prop} {BX : String → SX → State → Prop} {AX : Nat → Prop} (hr : vx_Run p l e R s m args below meth c H locs cells slots mc ms (F0 m pc ls st0) rest (va_Qd post B A1 a) (vx_X px BX AX) free) (hS : va_S A0 H0 H locs) (hA : ∀ q, q < H.size → A1 q → A0 q) (hf : ∀ q, free q → A0 q) (hAX : ∀ q, q < H.size → AX q → A0 q)
    (kx : ∀ (E : String) (ce : Cell) (q9 : Addr) (u : SX) (t : State) (H1 : Heap) (locs1 : List Loc), t.heap = H1 → s.vm.Alike t.vm → px u → BX E u t → H.size ≤ H1.size → (∀ q : Nat, q < H.size → ¬ AX q → H1[q]? = H[q]?) → va_S A0 H0 H1 locs1 → H1[q9]? = some ce → ce.vm = .none → s.vm.findClass E = some ce.cls → vx_W p l e R s m args below meth c H1 locs1 (cells + mc) (slots + ms) Q (F0 m pc ls rest) q9)
    (kk : ∀ (r : UInt64) (u : S) (t : State) (H1 : Heap) (locs1 : List Loc), t.heap = H1 → s.vm.Alike t.vm → post r u → B u t → H.size ≤ H1.size → (∀ q : Nat, q < H.size → ¬ A1 q → H1[q]? = H[q]?) → va_S A0 H0 H1 locs1 → W p l e R s m args below meth c H1 locs1 (cells + mc) (slots + ms) Q (F0 m (pc + 3) ls (.double r :: rest))) : W p l e R s m args below meth c H locs cells slots Q (F0 m pc ls st0) := by
  intro T hT X
  rcases hr T hT X with ⟨v, st₀, t, T', L, h0, X', hL, e1, e2, ⟨⟨r, u, hv, hp, hb⟩, hF⟩, st⟩ | ⟨q, st₀, t, T', L, E, ce, h0, X', hL, e1, e2, ⟨u, hp, hb, hF⟩, hce, hcv, hcl, st⟩
  · cases hv
    obtain ⟨k1, k2, k3⟩ := vx_keep h0 e1 hS hA hf hL hF
    obtain ⟨t2, a1, b1⟩ := kk r u t T'.heap (locs ++ L) e1.symm (by rw [← e2]; exact X'.warmed.alike) hp hb k1 k2 k3 T' rfl X'
    exact ⟨t2, st t2 a1, b1⟩
  · obtain ⟨k1, k2, k3⟩ := vx_keep h0 e1 hS hAX hf hL hF
    obtain ⟨t2, a1, b1⟩ := kx E ce q u t T'.heap (locs ++ L) e1.symm (by rw [← e2]; exact X'.warmed.alike) hp hb k1 k2 k3 (by rw [e1]; exact hce) hcv hcl T' rfl X'
    exact ⟨t2, st.trans a1, b1⟩
theorem vx_callv {S SX : Type} {post : S → Prop} {px : SX → Prop} {B : S → State → Prop} {BX : String → SX → State → Prop} {AX : Nat → Prop} (hr : vx_Run p l e R s m args below meth c H locs cells slots mc ms (F0 m pc ls st0) rest (va_Qv post B A1 a) (vx_X px BX AX) free) (hS : va_S A0 H0 H locs) (hA : ∀ q, q < H.size → A1 q → A0 q) (hf : ∀ q, free q → A0 q) (hAX : ∀ q, q < H.size → AX q → A0 q)
    (kx : ∀ (E : String) (ce : Cell) (q9 : Addr) (u : SX) (t : State) (H1 : Heap) (locs1 : List Loc), t.heap = H1 → s.vm.Alike t.vm → px u → BX E u t → H.size ≤ H1.size → (∀ q : Nat, q < H.size → ¬ AX q → H1[q]? = H[q]?) → va_S A0 H0 H1 locs1 → H1[q9]? = some ce → ce.vm = .none → s.vm.findClass E = some ce.cls → vx_W p l e R s m args below meth c H1 locs1 (cells + mc) (slots + ms) Q (F0 m pc ls rest) q9)
    (kk : ∀ (u : S) (t : State) (H1 : Heap) (locs1 : List Loc), t.heap = H1 → s.vm.Alike t.vm → post u → B u t → H.size ≤ H1.size → (∀ q : Nat, q < H.size → ¬ A1 q → H1[q]? = H[q]?) → va_S A0 H0 H1 locs1 → W p l e R s m args below meth c H1 locs1 (cells + mc) (slots + ms) Q (F0 m (pc + 3) ls (rest))) : W p l e R s m args below meth c H locs cells slots Q (F0 m pc ls st0) := by
  intro T hT X
  rcases hr T hT X with ⟨v, st₀, t, T', L, h0, X', hL, e1, e2, ⟨⟨u, hv, hp, hb⟩, hF⟩, st⟩ | ⟨q, st₀, t, T', L, E, ce, h0, X', hL, e1, e2, ⟨u, hp, hb, hF⟩, hce, hcv, hcl, st⟩
  · cases hv
    obtain ⟨k1, k2, k3⟩ := vx_keep h0 e1 hS hA hf hL hF
    obtain ⟨t2, a1, b1⟩ := kk u t T'.heap (locs ++ L) e1.symm (by rw [← e2]; exact X'.warmed.alike) hp hb k1 k2 k3 T' rfl X'
    exact ⟨t2, st t2 a1, b1⟩
  · obtain ⟨k1, k2, k3⟩ := vx_keep h0 e1 hS hAX hf hL hF
    obtain ⟨t2, a1, b1⟩ := kx E ce q u t T'.heap (locs ++ L) e1.symm (by rw [← e2]; exact X'.warmed.alike) hp hb k1 k2 k3 (by rw [e1]; exact hce) hcv hcl T' rfl X'
    exact ⟨t2, st.trans a1, b1⟩
/-- caught by the row x of this method's table; the rows ahead don't take it -/
theorem vx_catch {own name : String} {E : String} {ce : Cell} {q : Addr} (hown : s.vm.findClass own = some m.cls) (pre : List ExceptionTableEntry) (x : ExceptionTableEntry) (suf : List ExceptionTableEntry) (hsplit : c.exceptionTable.toList = pre ++ x :: suf)
    (hpass : ∀ z ∈ pre, covers z pc = false ∨ (z.catchType ≠ 0 ∧ ∃ nm : String, (Cond.classLink own z.catchType nm).before args s = true ∧ va_Nc E nm s)) (hx : covers x pc = true) (h0 : x.catchType ≠ 0)
    (hlink : (Cond.classLink own x.catchType name).before args s = true) (hcast : (Cond.castable E name).before args s = true) (hcell : H[q]? = some ce) (hv : ce.vm = .none) (hcl : s.vm.findClass E = some ce.cls)
    (kk : W p l e R s m args below meth c H locs cells slots Q (F0 m x.handlerPc ls [.ref q])) : vx_W p l e R s m args below meth c H locs cells slots Q (F0 m pc ls rest) q := by
  intro T hT X
  have hpl : e.platform.magicAccessors = ({} : Platform).magicAccessors := by rw [X.admits.platform]
  obtain ⟨c3, c4, hc3, hc4, hasg⟩ := Cond.castable_spec hcast
  cases Option.some.inj (hc3.symm.trans hcl)
  obtain ⟨c5, hc5, hcl5⟩ := Cond.classLink_spec hown hlink e.platform hpl
  cases Option.some.inj (hc4.symm.trans hc5)
  obtain ⟨vm', X', st⟩ := X.thenCaughtThrough q (g := F0 m pc ls rest) rfl (Steps.refl _) (by rw [hT]; exact hcell) (by rw [hv]; rfl) (by obtain ⟨k9, h9, -⟩ := Vm.findClass_spec hcl; exact ⟨k9, h9⟩) pre x suf hsplit
    (fun z hz => by
      rcases hpass z hz with h | ⟨hz0, nm, hl1, hn1⟩
      · exact Or.inl h
      · obtain ⟨c6, hc6, hcl6⟩ := Cond.classLink_spec hown hl1 e.platform hpl
        obtain ⟨a8, b8, h1, h2, h3⟩ := hn1
        cases Option.some.inj (h1.symm.trans hcl)
        cases Option.some.inj (h2.symm.trans hc6)
        exact Or.inr ⟨hz0, _, hcl6, h3⟩) hx (Or.inr ⟨h0, c4, hcl5, hasg⟩)
  obtain ⟨t, a1, b1⟩ := kk (T.setVm vm') hT X'
  exact ⟨t, st.trans a1, b1⟩
end Rows
section Ends
variable {p : Program} {l : Launch} {e : Env} {R : Room} {s : State} {m : MethodId} {args : Array Value} {below : List Frame} {meth : Method} {c : Code} {H : Heap} {locs : List Loc} {cells slots : Nat} {Q : State → Prop}
variable {mc ms : Nat} {free : Addr → Prop} {A0 A1 : Nat → Prop} {H0 : Heap} {a : Array Value} {ls : Array Slot} {st0 rest : List Value}
variable {Qc : Array Value → State → Outcome → State → Prop} {XC : String → State → State → Prop}
/-- what a body that may throw owes at its end -/
def vx_MQ (below : List Frame) (Qc : Array Value → State → Outcome → State → Prop) (XC : String → State → State → Prop) (a : Array Value) (s : State) (mc ms : Nat) (free : Addr → Prop) : State → Prop := fun t =>
  ∃ o, t.status = .running ∧ Ended t below o ∧ vx_Q Qc XC mc ms free a s o t
theorem vx_ret {g : JFrame} {mc ms : Nat} (k : W p l e R s m args below meth c H locs cells slots (MQ below Qc args s mc ms free) g) : W p l e R s m args below meth c H locs cells slots (vx_MQ below Qc XC args s mc ms free) g := by
  intro T hT X
  obtain ⟨t, a1, o, b1, b2, b3, b4⟩ := k T hT X
  exact ⟨t, a1, o, b1, b2, Or.inl ⟨b3, b4⟩⟩
/-- not caught here: it goes on to the caller -/
theorem vx_widen {g : JFrame} {q : Addr} {k n : Nat} (h1 : cells ≤ k) (h2 : slots ≤ n) (kk : vx_W p l e R s m args below meth c H locs k n Q g q) : vx_W p l e R s m args below meth c H locs cells slots Q g q := fun T hT X => kk T hT (stand_widen X h1 h2)
theorem vx_out {pc : Nat} {E : String} {ce : Cell} {q : Addr} {mc ms : Nat} (hout : ∀ x ∈ c.exceptionTable.toList, covers x pc = false) (hlocks : meth.locks = false) (hcell : H[q]? = some ce) (hv : ce.vm = .none) (hcl : s.vm.findClass E = some ce.cls)
    (hx : ∀ t : State, t.heap = H → s.vm.Alike t.vm → XC E s t) (hf : ∀ z ∈ locs, free z.base) (hc : cells ≤ mc) (hs : slots ≤ ms) :
    vx_W p l e R s m args below meth c H locs cells slots (vx_MQ below Qc XC args s mc ms free) (F0 m pc ls rest) q := by
  intro T hT X
  obtain ⟨st1, hrun, hend, hW, hsm⟩ := X.leaveThrown q (g := F0 m pc ls rest) rfl rfl rfl hout hlocks
  have hcell9 : (T.setFrames (.throwing q :: below)).heap[q]? = some ce := by
    show T.heap[q]? = some ce
    rw [hT]; exact hcell
  exact ⟨_, st1, .threw q, hrun, hend, Or.inr ⟨q, rfl, E, ce, locs, hx _ hT hW.alike, hcell9, hv, hcl, hW, hsm.mono hc hs, hf⟩⟩
theorem vx_frame {U : State} {k n : Nat} (h : s.sameButNew ({ U with vm := s.vm } : State) locs k n) : s.heap.size ≤ U.heap.size ∧ ∀ q : Nat, q < s.heap.size → (∀ z ∈ locs, z.base ≠ q) → U.heap[q]? = s.heap[q]? := by
  obtain ⟨-, h2, -, -, -, h6⟩ := h
  refine ⟨h2, fun q hq hz => ?_⟩
  obtain ⟨c9, e1, e2, e3, e4⟩ := h6 q _ (Array.getElem?_eq_getElem hq)
  have hs : c9.slots = (s.heap[q]).slots := Array.ext_getElem? fun i => e4 i fun hm => hz _ hm rfl
  have h9 : c9 = s.heap[q] := by
    rw [hs] at e2
    exact e2
  have e5 : U.heap[q]? = some c9 := e1
  rw [e5, h9, Array.getElem?_eq_getElem hq]
/-- the words of a throw but the four that speak of the heap -/
def vx_no (w : Cond) : Bool := decide (w ≠ .isRef (.static Bundle.tN "UNASSIGNED_STACK" Bundle.steD)) && decide (w ≠ .isRef (.static Bundle.tN "SUPPRESSED_SENTINEL" Bundle.listD)) && decide (w ≠ .laysStatic Bundle.tN "UNASSIGNED_STACK" Bundle.steD) && decide (w ≠ .laysStatic Bundle.tN "SUPPRESSED_SENTINEL" Bundle.listD)
def vx_at0 (own : String) (ic : Nat) (X : String) (names : List String) : List Cond := (Bundle.ownAtoms0 own ic X names).filter vx_no
def vx_atS (own : String) (ic : Nat) (X : String) (names : List String) : List Cond := (Bundle.ownAtoms own ic X names).filter vx_no
/-- a word that the tables alone decide, or a good one -/
def vx_ot (w : Cond) : Bool := w.onTables || goodWord w
theorem vx_ot_at {args a' : Array Value} {s U : State} {w : Cond} (hW : s.WarmedH U.vm) (hvm : s.vm = U.vm) (hg : vx_ot w = true) (h : w.before args s = true) : w.before a' U = true := by
  simp only [vx_ot, Bool.or_eq_true] at hg
  rcases hg with hg | hg
  · exact va_tabs hg hvm h
  · exact word_at hW (good_of_word hg) h
/-- a list's words: the good ones out of the method's own list, the others by premises of their own -/
theorem vx_hat {args : Array Value} {s : State} {L B : List Cond} (h1 : ∀ w ∈ L.filter goodWord, w.before args s = true) (h2 : ∀ w ∈ L.filter (fun w => !goodWord w), w ∈ B) (h3 : ∀ w ∈ B, w.before args s = true) : ∀ w ∈ L, w.before args s = true := by
  intro w hw
  by_cases g : goodWord w = true
  · exact h1 w (List.mem_filter.mpr ⟨hw, g⟩)
  · refine h3 w (h2 w (List.mem_filter.mpr ⟨hw, ?_⟩))
    show (!goodWord w) = true
    cases hgw : goodWord w
    · rfl
    · exact absurd hgw g
theorem vx_c {args : Array Value} {s : State} {w : Cond} {B : List Cond} (h : w.before args s = true) (t : ∀ w ∈ B, w.before args s = true) : ∀ w' ∈ w :: B, w'.before args s = true := fun w' h' => (List.mem_cons.mp h').elim (fun e => by rw [e]; exact h) (t w')
theorem vx_n {args : Array Value} {s : State} : ∀ w ∈ ([] : List Cond), w.before args s = true := fun _ h => nomatch h
theorem vx_own {args : Array Value} {s : State} {L : List Cond} (h1 : ∀ w ∈ L.filter vx_no, w.before args s = true)
    (hU : (Cond.isRef (.static Bundle.tN "UNASSIGNED_STACK" Bundle.steD)).before args s = true) (hN : (Cond.isRef (.static Bundle.tN "SUPPRESSED_SENTINEL" Bundle.listD)).before args s = true)
    (lU : (Cond.laysStatic Bundle.tN "UNASSIGNED_STACK" Bundle.steD).before args s = true) (lN : (Cond.laysStatic Bundle.tN "SUPPRESSED_SENTINEL" Bundle.listD).before args s = true) : ∀ w ∈ L, w.before args s = true := by
  intro w hw
  by_cases e1 : w = .isRef (.static Bundle.tN "UNASSIGNED_STACK" Bundle.steD)
  · rw [e1]; exact hU
  · by_cases e2 : w = .isRef (.static Bundle.tN "SUPPRESSED_SENTINEL" Bundle.listD)
    · rw [e2]; exact hN
    · by_cases e3 : w = .laysStatic Bundle.tN "UNASSIGNED_STACK" Bundle.steD
      · rw [e3]; exact lU
      · by_cases e4 : w = .laysStatic Bundle.tN "SUPPRESSED_SENTINEL" Bundle.listD
        · rw [e4]; exact lN
        · exact h1 w (List.mem_filter.mpr ⟨hw, by unfold vx_no; rw [decide_eq_true e1, decide_eq_true e2, decide_eq_true e3, decide_eq_true e4]; rfl⟩)
/-- where a static field lies, its class's statics cell in H -/
def vx_L (C n d : String) (A : Nat → Prop) (U : State) (H : Heap) : Prop := ∃ (c : ClassId) (k : Class) (i : Nat) (f : Field) (a : Nat) (cell : Cell), U.vm.findClass C = some c ∧ U.fieldFound? C n d = some (c, k, i, f) ∧ f.isStatic = true ∧ k.statics = some a ∧ H[a]? = some cell ∧ cell.vm.isStatics = true ∧ cell.cls = c ∧ f.slot < cell.slots.size ∧ k.staticTypes[f.slot]? = some f.type ∧ ¬ A a
theorem vx_L.moved {C n d : String} {A : Nat → Prop} {u U : State} {H : Heap} (hvm : u.vm.Alike U.vm) (h : vx_L C n d A u H) : vx_L C n d A U H := by
  obtain ⟨c, k, i, f, a, cell, h1, h2, h3, h4, h5, h6, h7, h8, h9, h10⟩ := h
  obtain ⟨k', hi', he⟩ := State.fieldFound?_setVm hvm h2
  exact ⟨c, k', i, f, a, cell, by rw [hvm.findClass]; exact h1, hi', h3, by rw [he]; exact h4, h5, h6, h7, h8, by rw [he]; exact h9, h10⟩
theorem vx_L.kept {C n d : String} {A : Nat → Prop} {U : State} {H H1 : Heap} (h : vx_L C n d A U H) (hq : ∀ a : Nat, a < H.size → ¬ A a → H1[a]? = H[a]?) : vx_L C n d A U H1 := by
  obtain ⟨c, k, i, f, a, cell, h1, h2, h3, h4, h5, h6, h7, h8, h9, h10⟩ := h
  exact ⟨c, k, i, f, a, cell, h1, h2, h3, h4, by rw [hq a (Array.getElem?_eq_some_iff.mp h5).1 h10]; exact h5, h6, h7, h8, h9, h10⟩
theorem vx_L.narrow {C n d : String} {A B : Nat → Prop} {U : State} {H : Heap} (h : vx_L C n d A U H) (hAB : ∀ q, B q → A q) : vx_L C n d B U H := by
  obtain ⟨c, k, i, f, a, cell, h1, h2, h3, h4, h5, h6, h7, h8, h9, h10⟩ := h
  exact ⟨c, k, i, f, a, cell, h1, h2, h3, h4, h5, h6, h7, h8, h9, fun z => h10 (hAB _ z)⟩
theorem vx_L.word {C n d : String} {A : Nat → Prop} {s : State} {args : Array Value} (h : vx_L C n d A s s.heap) : (Cond.laysStatic C n d).before args s = true := by
  obtain ⟨c, k, i, f, a, cell, h1, h2, h3, h4, h5, h6, h7, h8, h9, -⟩ := h
  show (Cond.laysStatic C n d).holds args s none s [] = true
  exact Cond.laysStatic_of h1 h2 h3 h4 h5 h6 h7 h8 h9
/-- .. and what it holds: null or some reference -/
def vx_Zq (C n d : String) (A : Nat → Prop) (U : State) (H : Heap) : Prop := va_Zq C n d A U H ∧ vx_L C n d A U H
theorem vx_Zq.moved {C n d : String} {A : Nat → Prop} {u U : State} {H : Heap} (hvm : u.vm.Alike U.vm) (h : vx_Zq C n d A u H) : vx_Zq C n d A U H := ⟨va_Zq.moved hvm h.1, vx_L.moved hvm h.2⟩
theorem vx_Zq.kept {C n d : String} {A : Nat → Prop} {U : State} {H H1 : Heap} (h : vx_Zq C n d A U H) (hq : ∀ a : Nat, a < H.size → ¬ A a → H1[a]? = H[a]?) : vx_Zq C n d A U H1 := ⟨va_Zq.kept h.1 hq, vx_L.kept h.2 hq⟩
theorem vx_Zq.narrow {C n d : String} {A B : Nat → Prop} {U : State} {H : Heap} (h : vx_Zq C n d A U H) (hAB : ∀ q, B q → A q) : vx_Zq C n d B U H := ⟨va_Zq.narrow h.1 hAB, vx_L.narrow h.2 hAB⟩
theorem vx_Zqof {args : Array Value} {s : State} {C n d : String} {A : Nat → Prop} (hl : (Cond.laysStatic C n d).before args s = true) (hini : (Cond.initialized C).before args s = true) (h : (Cond.isRef (.static C n d)).before args s = true) (hA : ∀ a : Nat, a < s.heap.size → ¬ A a) : vx_Zq C n d A s s.heap := by
  refine ⟨va_Zqof hl hini h hA, ?_⟩
  obtain ⟨c, k, i, f, a, cell, h1, h2, h3, h4, h5, h6, h7, h8, h9⟩ := Cond.laysStatic_spec hl
  exact ⟨c, k, i, f, a, cell, h1, h2, h3, h4, h5, h6, h7, h8, h9, hA a (Array.getElem?_eq_some_iff.mp h5).1⟩
theorem vx_isRef {C n d : String} {v : Value} {A : Nat → Prop} {s : State} {args : Array Value} (h : va_Z C n d v A s s.heap) (hv : v.isRef = true) : (Cond.isRef (.static C n d)).before args s = true := by
  obtain ⟨cf, kf, fi, f, a, cell, h1, h2, h3, h4, h5, h6, h7, -⟩ := h
  have he : (Term.static C n d).eval args s none [] s = some v := by
    simp [Term.eval, State.fieldNamed?, h1, h2, h4, h5, h6, h7]
  simp only [Cond.before, Cond.holds, Cond.value, he]
  cases v <;> simp_all [Value.isRef]
theorem vx_isRefq {C n d : String} {A : Nat → Prop} {s : State} {args : Array Value} (h : va_Zq C n d A s s.heap) : (Cond.isRef (.static C n d)).before args s = true := by
  rcases h with h | ⟨t, h⟩
  · exact vx_isRef h rfl
  · exact vx_isRef h rfl
/-- the same frame, seen from here: as if the method were called anew in this heap -/
theorem vx_rebase {T : State} (X : Stand p l e R s m args below meth c T locs cells slots) {R' : Room} (hf : R'.frames ≤ R.frames) (hl : R'.locals ≤ R.locals) (hc : cells + R'.cells ≤ R.cells) (hs : slots + R'.slots ≤ R.slots) :
    Stand p l e R' ((T.setVm s.vm).setFrames (.invoking m args :: below)) m args below meth c T [] 0 0 := by
  have htop : (T.setVm s.vm).topJava?.isSome := X.here.top
  have hF : ((T.setVm s.vm).setFrames (.invoking m args :: below)).frames = .invoking m args :: below := State.frames_setFrames _ (State.cur_lt_of_top htop)
  obtain ⟨g₀, hg0⟩ := Option.isSome_iff_exists.mp htop
  obtain ⟨r, hr⟩ := State.topJava?_eq_some.mp hg0
  have hl9 : e.platform.stackLimits (T.setVm s.vm).me = e.platform.stackLimits s.me := X.limits
  have hb9 : (T.setVm s.vm).me.stackBytes = s.me.stackBytes := X.bytes
  refine ⟨X.admits, X.cas, X.clock, hF, ?_, X.hears, X.method, X.code, X.here, X.tail, X.warmed, ?_, ?_, ?_⟩
  · have h := X.room
    have hU : ((T.setVm s.vm).setFrames (.invoking m args :: below)).localsInUse = s.localsInUse := by
      rw [State.localsInUse_invoking hF (meth := meth) (c := c) X.method X.code, State.localsInUse_invoking X.frames X.method X.code]
    simp only [State.hasRoom, Bool.and_eq_true, decide_eq_true_eq] at h ⊢
    obtain ⟨⟨⟨⟨h1, h2, h3, h4, h5, h6⟩, h7⟩, h8⟩, h9⟩ := h
    rw [X.frames, List.length_cons] at h2 h3
    have q1 := X.heapSize
    have q2 := X.used
    simp only [hF, hU, List.length_cons, State.stackLimits_setFrames, State.stackBytes_setFrames, hl9, hb9]
    refine ⟨⟨⟨⟨by omega, by omega, by omega, by omega, by omega, h6⟩, ?_⟩, ?_⟩, X.book⟩
    · show T.heap.size + R'.cells ≤ e.platform.maxCells
      omega
    · show T.slotsUsed + R'.slots ≤ e.platform.maxSlots
      omega
  · rw [State.stackLimits_setFrames]; rfl
  · rw [State.stackBytes_setFrames]; rfl
  · refine ⟨?_, Nat.le_refl _, Nat.le_refl _, ?_, ?_, fun a c9 h9 => ⟨c9, h9, rfl, rfl, fun _ _ => rfl⟩⟩
    · obtain ⟨t, ht, -⟩ := State.frames_cons hr
      show T.setVm s.vm = { ((T.setVm s.vm).setFrames (.invoking m args :: below)).setFrames (T.setVm s.vm).frames with heap := T.heap, slotsUsed := T.slotsUsed }
      rw [State.setFrames_setFrames, State.setFrames_self ht]
      rfl
    · show T.slotsUsed = T.slotsUsed + ((T.heap.toList.drop T.heap.size).map (·.slots.size)).sum
      rw [List.drop_eq_nil_of_le (Nat.le_of_eq Array.length_toList)]
      rfl
    · show ((T.heap.toList.drop T.heap.size).map (·.slots.size)).sum ≤ 0
      rw [List.drop_eq_nil_of_le (Nat.le_of_eq Array.length_toList)]
      exact Nat.le_refl _
/-- 'throw new E()': new; dup; invokespecial; athrow -/
theorem vx_throw0 {cc : ByteArray} {pc : Nat} (hexec : p.tables.exec = Jvm.exec) (hb : c.code = cc) (hl : l.stackTraces = false) {own cls : String} {names : List String} {ik ic mc ms : Nat} {A : Nat → Prop}
    (hown : s.vm.findClass own = some m.cls) (hcls : Bundle.fit cls = true) (hnames : ∀ n ∈ names, Bundle.fit n = true)
    (hk : (Cond.classLink own ik cls).before args s = true) (hini : (Cond.initialized cls).before args s = true) (hat : ∀ w ∈ vx_at0 own ic cls names, w.before args s = true)
    (hgood : ∀ w ∈ Cond.classLink own ik cls :: Cond.initialized cls :: vx_at0 own ic cls names, vx_ot w = true)
    (hU : vx_Zq Bundle.tN "UNASSIGNED_STACK" Bundle.steD A s s.heap) (hN : vx_Zq Bundle.tN "SUPPRESSED_SENTINEL" Bundle.listD A s s.heap) (hS : va_S A s.heap H locs) (hsize : ls.size = c.maxLocals)
    (d0 : decode cc pc = .ok (.new ik, 3)) (d3 : decode cc (pc + 3) = .ok (.dup, 1)) (d4 : decode cc (pc + 4) = .ok (.invokespecial ic, 3)) (d7 : decode cc (pc + 7) = .ok (.athrow, 1))
    (hout : ∀ x ∈ c.exceptionTable.toList, covers x (pc + 7) = false)
    (hRframes : names.length + 3 < R.frames) (hRlocals : (rest.map fun v => v.category).sum + (13 * (names.length + 1) + 42) ≤ R.locals) (hRcells : cells + 1 ≤ R.cells) (hRslots : slots + 6 ≤ R.slots) (hlocks : meth.locks = false)
    (hx : ∀ t : State, s.vm.Alike t.vm → H.size ≤ t.heap.size → (∀ q : Nat, q < H.size → t.heap[q]? = H[q]?) → XC cls s t)
    (hf : ∀ z ∈ locs, free z.base) (hc : cells + 1 ≤ mc) (hs : slots + 6 ≤ ms) :
    W p l e R s m args below meth c H locs cells slots (vx_MQ below Qc XC args s mc ms free) (F0 m pc ls rest) := by
  intro T hT X
  have htr : e.platform.stackTraces = false := (show e.platform.stackTraces = l.stackTraces by rw [X.admits.platform]).trans hl
  have Y := vx_rebase X (R' := { frames := R.frames, locals := R.locals, cells := 1, slots := 6 }) (Nat.le_refl _) (Nat.le_refl _) hRcells hRslots
  obtain ⟨s', hA⟩ : ∃ z, z = (T.setVm s.vm).setFrames (.invoking m args :: below) := ⟨_, rfl⟩
  rw [← hA] at Y
  have hvm : s'.vm = s.vm := by rw [hA]; rfl
  have hhp : s'.heap = H := by rw [hA]; exact hT
  have hW0 : s.WarmedH s'.vm := by rw [hvm]; exact State.WarmedH.refl s
  have hat' : ∀ w ∈ vx_at0 own ic cls names, w.before args s' = true := fun w hw => vx_ot_at hW0 hvm.symm (hgood w (List.mem_cons_of_mem _ (List.mem_cons_of_mem _ hw))) (hat w hw)
  have hk' : (Cond.classLink own ik cls).before args s' = true := vx_ot_at hW0 hvm.symm (hgood _ List.mem_cons_self) hk
  have hini' : (Cond.initialized cls).before args s' = true := vx_ot_at hW0 hvm.symm (hgood _ (List.mem_cons_of_mem _ List.mem_cons_self)) hini
  have hU' : vx_Zq Bundle.tN "UNASSIGNED_STACK" Bundle.steD A s' s'.heap := by rw [hhp]; exact vx_Zq.moved hW0.alike (hU.kept hS.2.1)
  have hN' : vx_Zq Bundle.tN "SUPPRESSED_SENTINEL" Bundle.listD A s' s'.heap := by rw [hhp]; exact vx_Zq.moved hW0.alike (hN.kept hS.2.1)
  have h : ∀ w ∈ Bundle.ownAtoms0 own ic cls names, w.before args s' = true := vx_own hat' (vx_isRefq hU'.1) (vx_isRefq hN'.1) hU'.2.word hN'.2.word
  have hown' : s'.vm.findClass own = some m.cls := by rw [hvm]; exact hown
  have hins : (Cond.instantiable cls 6).before args s' = true := h _ (by simp [Bundle.ownAtoms0])
  obtain ⟨vm₁, cX, kX, hfX, hkX, -, -, X₁, st1⟩ := Y.newCold hexec (own := own) (C := cls) (index := ik) (n := 6) hown' hk' hins hini'
    (g := F0 m pc ls rest) rfl (by rw [hb]; exact d0) (Nat.le_refl _) (Nat.le_refl _)
  generalize hT1 : (T.setVm vm₁).pushCell { cls := cX, slots := kX.instanceTypes.map defaultValue, vm := .none } = T1 at X₁ st1
  have hcat : (Value.ref T.heap.size).category = 1 := rfl
  have hcellA : T1.heap[T.heap.size]? = some (freshCell cX kX) := by rw [← hT1]; exact State.heap_pushCell_size _ _
  have d3' : decode c.code (pc + 3) = .ok (.dup, 1) := by rw [hb]; exact d3
  obtain ⟨U, hsteps, hrun, hend, hW, hsame, ce, hce, hO⟩ := X₁.ctorThrow0 hexec htr (own := own) (cls := cls) (names := names) (ic := ic) hown' hcls hnames h (fun x hx => nomatch hx) hfX hkX hcellA (by rw [hhp, hT]; exact Nat.le_refl _)
    (g := { method := m, pc := pc + 4, locals := ls, stack := .ref T.heap.size :: .ref T.heap.size :: rest, locked := none }) rfl hsize rfl rfl (rest := rest) rfl
    (by rw [hb]; exact d4) (by rw [hb]; exact d7) hout hRframes (by simp only [List.map_cons, List.sum_cons, hcat]; omega) hlocks
  obtain ⟨f1, f2⟩ := vx_frame hsame
  rw [hhp] at f1 f2
  have hWs : s.WarmedH U.vm := State.WarmedH.trans hW0 hW
  have hcl : s.vm.findClass cls = some ce.cls := by
    have h9 := hO.cls
    rw [hvm] at h9
    exact h9
  have hall : s.sameButNew ({ U with vm := s.vm } : State) locs mc ms := by
    subst hA
    obtain ⟨e1, e2⟩ := hsame
    rw [State.setFrames_setFrames] at e1
    have h2 : (T.setVm s.vm).sameButNew ({ U with vm := s.vm } : State) [] (0 + 1) (0 + 6) := ⟨e1, e2⟩
    have h3 := X.same.trans h2
    rw [List.append_nil] at h3
    exact h3.mono hc hs
  refine ⟨U, ?_, .threw T.heap.size, hrun, hend, Or.inr ⟨T.heap.size, rfl, cls, ce, locs, hx U hWs.alike f1 (fun q hq => f2 q hq (fun z hz => nomatch hz)), hce, hO.vm, hcl, hWs, hall, hf⟩⟩
  refine st1 _ ?_
  show Steps p.tables e below (T1.setTop { method := m, pc := pc + 3, locals := ls, stack := .ref T.heap.size :: rest, locked := none }) _
  jvm_step X₁.here [X₁.here.top, hexec, d3', Value.category]
  exact hsteps
/-- 'throw new E("text")': new; dup; ldc; invokespecial; athrow -/
theorem vx_throwS {cc : ByteArray} {pc : Nat} (hexec : p.tables.exec = Jvm.exec) (hb : c.code = cc) (hl : l.stackTraces = false) {own cls text : String} {names : List String} {ik is ic mc ms sa : Nat} {A : Nat → Prop}
    (hown : s.vm.findClass own = some m.cls) (hcls : Bundle.fit cls = true) (hnames : ∀ n ∈ names, Bundle.fit n = true)
    (hk : (Cond.classLink own ik cls).before args s = true) (hini : (Cond.initialized cls).before args s = true) (hstr : vk_R own is text sa s) (hat : ∀ w ∈ vx_atS own ic cls names, w.before args s = true)
    (hgood : ∀ w ∈ Cond.classLink own ik cls :: Cond.initialized cls :: vx_atS own ic cls names, vx_ot w = true)
    (hU : vx_Zq Bundle.tN "UNASSIGNED_STACK" Bundle.steD A s s.heap) (hN : vx_Zq Bundle.tN "SUPPRESSED_SENTINEL" Bundle.listD A s s.heap) (hS : va_S A s.heap H locs) (hsize : ls.size = c.maxLocals)
    (d0 : decode cc pc = .ok (.new ik, 3)) (d3 : decode cc (pc + 3) = .ok (.dup, 1)) (d4 : decode cc (pc + 4) = .ok (.ldc is, 2)) (d6 : decode cc (pc + 6) = .ok (.invokespecial ic, 3)) (d9 : decode cc (pc + 9) = .ok (.athrow, 1))
    (hout : ∀ x ∈ c.exceptionTable.toList, covers x (pc + 9) = false)
    (hRframes : names.length + 3 < R.frames) (hRlocals : (rest.map fun v => v.category).sum + (13 * (names.length + 1) + 43) ≤ R.locals) (hRcells : cells + 1 ≤ R.cells) (hRslots : slots + 6 ≤ R.slots) (hlocks : meth.locks = false)
    (hx : ∀ t : State, s.vm.Alike t.vm → H.size ≤ t.heap.size → (∀ q : Nat, q < H.size → t.heap[q]? = H[q]?) → XC cls s t)
    (hf : ∀ z ∈ locs, free z.base) (hc : cells + 1 ≤ mc) (hs : slots + 6 ≤ ms) :
    W p l e R s m args below meth c H locs cells slots (vx_MQ below Qc XC args s mc ms free) (F0 m pc ls rest) := by
  intro T hT X
  have htr : e.platform.stackTraces = false := (show e.platform.stackTraces = l.stackTraces by rw [X.admits.platform]).trans hl
  have Y := vx_rebase X (R' := { frames := R.frames, locals := R.locals, cells := 1, slots := 6 }) (Nat.le_refl _) (Nat.le_refl _) hRcells hRslots
  obtain ⟨s', hA⟩ : ∃ z, z = (T.setVm s.vm).setFrames (.invoking m args :: below) := ⟨_, rfl⟩
  rw [← hA] at Y
  have hvm : s'.vm = s.vm := by rw [hA]; rfl
  have hhp : s'.heap = H := by rw [hA]; exact hT
  have hW0 : s.WarmedH s'.vm := by rw [hvm]; exact State.WarmedH.refl s
  have hat' : ∀ w ∈ vx_atS own ic cls names, w.before args s' = true := fun w hw => vx_ot_at hW0 hvm.symm (hgood w (List.mem_cons_of_mem _ (List.mem_cons_of_mem _ hw))) (hat w hw)
  have hk' : (Cond.classLink own ik cls).before args s' = true := vx_ot_at hW0 hvm.symm (hgood _ List.mem_cons_self) hk
  have hini' : (Cond.initialized cls).before args s' = true := vx_ot_at hW0 hvm.symm (hgood _ (List.mem_cons_of_mem _ List.mem_cons_self)) hini
  have hU' : vx_Zq Bundle.tN "UNASSIGNED_STACK" Bundle.steD A s' s'.heap := by rw [hhp]; exact vx_Zq.moved hW0.alike (hU.kept hS.2.1)
  have hN' : vx_Zq Bundle.tN "SUPPRESSED_SENTINEL" Bundle.listD A s' s'.heap := by rw [hhp]; exact vx_Zq.moved hW0.alike (hN.kept hS.2.1)
  have h : ∀ w ∈ Bundle.ownAtoms own ic cls names, w.before args s' = true := vx_own hat' (vx_isRefq hU'.1) (vx_isRefq hN'.1) hU'.2.word hN'.2.word
  have hown' : s'.vm.findClass own = some m.cls := by rw [hvm]; exact hown
  have hins : (Cond.instantiable cls 6).before args s' = true := h _ (by simp [Bundle.ownAtoms])
  obtain ⟨vm₁, cX, kX, hfX, hkX, -, -, X₁, st1⟩ := Y.newCold hexec (own := own) (C := cls) (index := ik) (n := 6) hown' hk' hins hini'
    (g := F0 m pc ls rest) rfl (by rw [hb]; exact d0) (Nat.le_refl _) (Nat.le_refl _)
  generalize hT1 : (T.setVm vm₁).pushCell { cls := cX, slots := kX.instanceTypes.map defaultValue, vm := .none } = T1 at X₁ st1
  have hcat : (Value.ref T.heap.size).category = 1 := rfl
  have hcellA : T1.heap[T.heap.size]? = some (freshCell cX kX) := by rw [← hT1]; exact State.heap_pushCell_size _ _
  have d3' : decode c.code (pc + 3) = .ok (.dup, 1) := by rw [hb]; exact d3
  have d4' : decode c.code (pc + 4) = .ok (.ldc is, 2) := by rw [hb]; exact d4
  have hstr' : vk_R own is text sa s' := vk_R.warm hW0 hstr
  obtain ⟨U, hsteps, hrun, hend, hW, hsame, ce, hce, hO⟩ := X₁.ctorThrowS hexec htr (own := own) (cls := cls) (names := names) (ic := ic) hown' hcls hnames h (fun x hx => nomatch hx) hfX hkX hcellA (by rw [hhp, hT]; exact Nat.le_refl _) (msg := .ref sa) rfl
    (g := { method := m, pc := pc + 6, locals := ls, stack := .ref sa :: .ref T.heap.size :: .ref T.heap.size :: rest, locked := none }) rfl hsize rfl rfl (rest := rest) rfl
    (by rw [hb]; exact d6) (by rw [hb]; exact d9) hout hRframes (by simp only [List.map_cons, List.sum_cons, hcat]; omega) hlocks
  obtain ⟨f1, f2⟩ := vx_frame hsame
  rw [hhp] at f1 f2
  have hWs : s.WarmedH U.vm := State.WarmedH.trans hW0 hW
  have hcl : s.vm.findClass cls = some ce.cls := by
    have h9 := hO.cls
    rw [hvm] at h9
    exact h9
  have hall : s.sameButNew ({ U with vm := s.vm } : State) locs mc ms := by
    subst hA
    obtain ⟨e1, e2⟩ := hsame
    rw [State.setFrames_setFrames] at e1
    have h2 : (T.setVm s.vm).sameButNew ({ U with vm := s.vm } : State) [] (0 + 1) (0 + 6) := ⟨e1, e2⟩
    have h3 := X.same.trans h2
    rw [List.append_nil] at h3
    exact h3.mono hc hs
  refine ⟨U, ?_, .threw T.heap.size, hrun, hend, Or.inr ⟨T.heap.size, rfl, cls, ce, locs, hx U hWs.alike f1 (fun q hq => f2 q hq (fun z hz => nomatch hz)), hce, hO.vm, hcl, hWs, hall, hf⟩⟩
  refine st1 _ ?_
  show Steps p.tables e below (T1.setTop { method := m, pc := pc + 3, locals := ls, stack := .ref T.heap.size :: rest, locked := none }) _
  jvm_step X₁.here [X₁.here.top, hexec, d3', Value.category]
  exact X₁.ldcString hexec (own := own) (text := text) (index := is) (a := sa) hown' hstr'.1 hstr'.2
    (g := { method := m, pc := pc + 4, locals := ls, stack := .ref T.heap.size :: .ref T.heap.size :: rest, locked := none }) rfl d4' _ hsteps
/-- 'throw new E("text")', the text by a wide index -/
theorem vx_throwSW {cc : ByteArray} {pc : Nat} (hexec : p.tables.exec = Jvm.exec) (hb : c.code = cc) (hl : l.stackTraces = false) {own cls text : String} {names : List String} {ik is ic mc ms sa : Nat} {A : Nat → Prop}
    (hown : s.vm.findClass own = some m.cls) (hcls : Bundle.fit cls = true) (hnames : ∀ n ∈ names, Bundle.fit n = true)
    (hk : (Cond.classLink own ik cls).before args s = true) (hini : (Cond.initialized cls).before args s = true) (hstr : vk_R own is text sa s) (hat : ∀ w ∈ vx_atS own ic cls names, w.before args s = true)
    (hgood : ∀ w ∈ Cond.classLink own ik cls :: Cond.initialized cls :: vx_atS own ic cls names, vx_ot w = true)
    (hU : vx_Zq Bundle.tN "UNASSIGNED_STACK" Bundle.steD A s s.heap) (hN : vx_Zq Bundle.tN "SUPPRESSED_SENTINEL" Bundle.listD A s s.heap) (hS : va_S A s.heap H locs) (hsize : ls.size = c.maxLocals)
    (d0 : decode cc pc = .ok (.new ik, 3)) (d3 : decode cc (pc + 3) = .ok (.dup, 1)) (d4 : decode cc (pc + 4) = .ok (.ldc_w is, 3)) (d7 : decode cc (pc + 7) = .ok (.invokespecial ic, 3)) (d10 : decode cc (pc + 10) = .ok (.athrow, 1))
    (hout : ∀ x ∈ c.exceptionTable.toList, covers x (pc + 10) = false)
    (hRframes : names.length + 3 < R.frames) (hRlocals : (rest.map fun v => v.category).sum + (13 * (names.length + 1) + 43) ≤ R.locals) (hRcells : cells + 1 ≤ R.cells) (hRslots : slots + 6 ≤ R.slots) (hlocks : meth.locks = false)
    (hx : ∀ t : State, s.vm.Alike t.vm → H.size ≤ t.heap.size → (∀ q : Nat, q < H.size → t.heap[q]? = H[q]?) → XC cls s t)
    (hf : ∀ z ∈ locs, free z.base) (hc : cells + 1 ≤ mc) (hs : slots + 6 ≤ ms) :
    W p l e R s m args below meth c H locs cells slots (vx_MQ below Qc XC args s mc ms free) (F0 m pc ls rest) := by
  intro T hT X
  have htr : e.platform.stackTraces = false := (show e.platform.stackTraces = l.stackTraces by rw [X.admits.platform]).trans hl
  have Y := vx_rebase X (R' := { frames := R.frames, locals := R.locals, cells := 1, slots := 6 }) (Nat.le_refl _) (Nat.le_refl _) hRcells hRslots
  obtain ⟨s', hA⟩ : ∃ z, z = (T.setVm s.vm).setFrames (.invoking m args :: below) := ⟨_, rfl⟩
  rw [← hA] at Y
  have hvm : s'.vm = s.vm := by rw [hA]; rfl
  have hhp : s'.heap = H := by rw [hA]; exact hT
  have hW0 : s.WarmedH s'.vm := by rw [hvm]; exact State.WarmedH.refl s
  have hat' : ∀ w ∈ vx_atS own ic cls names, w.before args s' = true := fun w hw => vx_ot_at hW0 hvm.symm (hgood w (List.mem_cons_of_mem _ (List.mem_cons_of_mem _ hw))) (hat w hw)
  have hk' : (Cond.classLink own ik cls).before args s' = true := vx_ot_at hW0 hvm.symm (hgood _ List.mem_cons_self) hk
  have hini' : (Cond.initialized cls).before args s' = true := vx_ot_at hW0 hvm.symm (hgood _ (List.mem_cons_of_mem _ List.mem_cons_self)) hini
  have hU' : vx_Zq Bundle.tN "UNASSIGNED_STACK" Bundle.steD A s' s'.heap := by rw [hhp]; exact vx_Zq.moved hW0.alike (hU.kept hS.2.1)
  have hN' : vx_Zq Bundle.tN "SUPPRESSED_SENTINEL" Bundle.listD A s' s'.heap := by rw [hhp]; exact vx_Zq.moved hW0.alike (hN.kept hS.2.1)
  have h : ∀ w ∈ Bundle.ownAtoms own ic cls names, w.before args s' = true := vx_own hat' (vx_isRefq hU'.1) (vx_isRefq hN'.1) hU'.2.word hN'.2.word
  have hown' : s'.vm.findClass own = some m.cls := by rw [hvm]; exact hown
  have hins : (Cond.instantiable cls 6).before args s' = true := h _ (by simp [Bundle.ownAtoms])
  obtain ⟨vm₁, cX, kX, hfX, hkX, -, -, X₁, st1⟩ := Y.newCold hexec (own := own) (C := cls) (index := ik) (n := 6) hown' hk' hins hini'
    (g := F0 m pc ls rest) rfl (by rw [hb]; exact d0) (Nat.le_refl _) (Nat.le_refl _)
  generalize hT1 : (T.setVm vm₁).pushCell { cls := cX, slots := kX.instanceTypes.map defaultValue, vm := .none } = T1 at X₁ st1
  have hcat : (Value.ref T.heap.size).category = 1 := rfl
  have hcellA : T1.heap[T.heap.size]? = some (freshCell cX kX) := by rw [← hT1]; exact State.heap_pushCell_size _ _
  have d3' : decode c.code (pc + 3) = .ok (.dup, 1) := by rw [hb]; exact d3
  have d4' : decode c.code (pc + 4) = .ok (.ldc_w is, 3) := by rw [hb]; exact d4
  have hstr' : vk_R own is text sa s' := vk_R.warm hW0 hstr
  obtain ⟨U, hsteps, hrun, hend, hW, hsame, ce, hce, hO⟩ := X₁.ctorThrowS hexec htr (own := own) (cls := cls) (names := names) (ic := ic) hown' hcls hnames h (fun x hx => nomatch hx) hfX hkX hcellA (by rw [hhp, hT]; exact Nat.le_refl _) (msg := .ref sa) rfl
    (g := { method := m, pc := pc + 7, locals := ls, stack := .ref sa :: .ref T.heap.size :: .ref T.heap.size :: rest, locked := none }) rfl hsize rfl rfl (rest := rest) rfl
    (by rw [hb]; exact d7) (by rw [hb]; exact d10) hout hRframes (by simp only [List.map_cons, List.sum_cons, hcat]; omega) hlocks
  obtain ⟨f1, f2⟩ := vx_frame hsame
  rw [hhp] at f1 f2
  have hWs : s.WarmedH U.vm := State.WarmedH.trans hW0 hW
  have hcl : s.vm.findClass cls = some ce.cls := by
    have h9 := hO.cls
    rw [hvm] at h9
    exact h9
  have hall : s.sameButNew ({ U with vm := s.vm } : State) locs mc ms := by
    subst hA
    obtain ⟨e1, e2⟩ := hsame
    rw [State.setFrames_setFrames] at e1
    have h2 : (T.setVm s.vm).sameButNew ({ U with vm := s.vm } : State) [] (0 + 1) (0 + 6) := ⟨e1, e2⟩
    have h3 := X.same.trans h2
    rw [List.append_nil] at h3
    exact h3.mono hc hs
  refine ⟨U, ?_, .threw T.heap.size, hrun, hend, Or.inr ⟨T.heap.size, rfl, cls, ce, locs, hx U hWs.alike f1 (fun q hq => f2 q hq (fun z hz => nomatch hz)), hce, hO.vm, hcl, hWs, hall, hf⟩⟩
  refine st1 _ ?_
  show Steps p.tables e below (T1.setTop { method := m, pc := pc + 3, locals := ls, stack := .ref T.heap.size :: rest, locked := none }) _
  jvm_step X₁.here [X₁.here.top, hexec, d3', Value.category]
  exact X₁.ldcStringW hexec (own := own) (text := text) (index := is) (a := sa) hown' hstr'.1 hstr'.2
    (g := { method := m, pc := pc + 4, locals := ls, stack := .ref T.heap.size :: .ref T.heap.size :: rest, locked := none }) rfl d4' _ hsteps
end Ends
section Bodies
variable {l : Launch}
theorem vx_ofW {y : MethodName} {ws ws' : List Cond} {rm : Room} {Pc : Array Value → State → Prop} {Qc : Array Value → State → Outcome → State → Prop} {XC : String → State → State → Prop} {mc ms : Nat} {free : Addr → Prop} {cc : ByteArray} {maxL : Nat} {ret : Option FieldType}
    (hy : plainName y.cls = true) (hw : ws = Cond.code y cc maxL ret :: ws')
    (body : ∀ p e s m args below meth c s₁, BodyLoose p l y (headSpec ws rm) cc maxL ret e s m args below meth c s₁ → c.maxLocals = maxL → (∀ x ∈ c.exceptionTable.toList, False) → Pc args s →
      W p l e (headSpec ws rm).room s m args below meth c s.heap [] 0 0 (vx_MQ below Qc XC args s mc ms free) (entryFrame m args maxL)) : vx_Met l y ws rm Pc Qc XC mc ms free := by
  refine MetFree.of_bodyS (code := cc) (maxLocals := maxL) (ret := ret) hy ?_ ?_
  · intro args s m h hn
    obtain ⟨meth, c, h1, h2, h3, h4, h5, h6, -, -⟩ := Cond.code_spec hn (atoms_spec (ws := ws) h _ (by rw [hw]; exact List.mem_cons_self))
    exact ⟨meth, c, h1, h2, h3, h4, h5, h6⟩
  · intro p e s m args below meth c s₁ B hml hP _
    have hh0 : s₁.heap = s.heap := by rw [B.state]; rfl
    have ht : ∀ x ∈ c.exceptionTable.toList, False := by
      obtain ⟨meth9, c9, h1, h2, -, -, -, -, h7, -⟩ := Cond.code_spec B.named (atoms_spec (ws := ws) B.pre _ (by rw [hw]; exact List.mem_cons_self))
      cases Option.some.inj (h1.symm.trans B.method)
      cases Option.some.inj (h2.symm.trans (Stand.of_body B).code)
      intro x hx
      rw [Array.isEmpty_iff.mp h7] at hx
      cases hx
    obtain ⟨t, a1, o, b1, b2, b3⟩ := body p e s m args below meth c s₁ B hml ht hP s₁ hh0 (Stand.of_body B)
    exact ⟨t, o, a1, b1, b2, b3⟩
/-- the table of a body with handlers -/
theorem vx_table {p : Program} {x y : MethodName} {S : Spec} {cc bytes : ByteArray} {maxL maxL' : Nat} {ret ret' : Option FieldType} {e : Env} {s s₁ : State} {m : MethodId} {args : Array Value} {below : List Frame} {meth : Method} {c : Code} {hh : List (Nat × Nat × Nat × Nat)}
    (B : BodyLoose p l y S cc maxL ret e s m args below meth c s₁) (h : (Cond.codeWith y bytes maxL' ret' hh).before args s = true) : c.exceptionTable.toList = tableOf hh := by
  obtain ⟨m9, meth9, c9, hn9, h1, h2, -, -, h6, -⟩ := Cond.codeWith_spec h
  cases Option.some.inj (hn9.symm.trans B.named)
  cases Option.some.inj (h1.symm.trans B.method)
  cases Option.some.inj (h2.symm.trans (Stand.of_body B).code)
  rw [← h6, table_eq]
end Bodies
end VXA
/-! ===== END ===== -/
/-! ===== BEGIN a static call of a method with an exception table ===== -/
section VXS
variable {p : Program} {l : Launch} {e : Env} {R : Room} {s : State} {m : MethodId} {args : Array Value} {below : List Frame} {meth : Method} {c : Code} {T : State} {H : Heap} {locs : List Loc} {cells slots : Nat}
abbrev vx_CSW (R : Room) (s : State) (args : Array Value) (own : String) (index : Nat) (y : MethodName) (bytes : ByteArray) (maxL : Nat) (ret : Option FieldType) (hh : List (Nat × Nat × Nat × Nat)) (ws : List Cond) (rm : Room) (mc ms n : Nat) : Prop :=
  (rm.cells = mc ∧ rm.slots = ms ∧ rm.frames + 1 ≤ R.frames ∧ 8 + (maxL + 11) + rm.locals ≤ R.locals ∧ (∀ w ∈ ws, ∀ (a' : Array Value) (U : State), s.WarmedH U.vm → w.before a' U = true) ∧ Cond.codeWith y bytes maxL ret hh ∈ ws) ∧
  (Cond.codeWith y bytes maxL ret hh).before args s = true ∧ (Cond.initialized y.cls).before args s = true ∧ (y.cls ≠ "java/lang/invoke/MethodHandle" ∧ y.cls ≠ "java/lang/invoke/VarHandle") ∧
  (∀ sig, parseMethodDescriptor y.desc = some sig → n = sig.parameters.length) ∧ (Cond.methodLink own index y).before args s = true ∧ (Cond.static y).before args s = true
theorem vx_cwSW {own : String} {index maxL mc ms : Nat} {y : MethodName} {bytes : ByteArray} {ret : Option FieldType} {hh : List (Nat × Nat × Nat × Nat)} {Ts ws ws' : List Cond} {rm : Room} (n : Nat) (ht : ∀ w ∈ Ts, w.before args s = true) (hT : GoodIn Ts (va_wsS own index y ws)) (hw : ws = Cond.codeWith y bytes maxL ret hh :: ws') (hrc : rm.cells = mc) (hrs : rm.slots = ms)
    (hd : y.cls ≠ "java/lang/invoke/MethodHandle" ∧ y.cls ≠ "java/lang/invoke/VarHandle" ∧ (parseMethodDescriptor y.desc).map (fun d => d.parameters.length) = some n) (hR : rm.frames + 1 ≤ R.frames ∧ 8 + (maxL + 11) + rm.locals ≤ R.locals) :
    vx_CSW R s args own index y bytes maxL ret hh ws rm mc ms n := by
  have ok : ∀ w ∈ va_wsS own index y ws, w.before args s = true := fun w h => ht w (hT w h).1
  have hG : GoodIn Ts ws := fun w h => hT w (by unfold va_wsS; exact List.mem_append_right _ h)
  have hc : Cond.codeWith y bytes maxL ret hh ∈ ws := by rw [hw]; exact List.mem_cons_self
  refine ⟨⟨hrc, hrs, hR.1, hR.2, pay_in ht hG, hc⟩, ht _ (hG _ hc).1, ok _ (by simp [va_wsS]), ⟨hd.1, hd.2.1⟩, fun sig h => ?_, ok _ (by simp [va_wsS]), ok _ (by simp [va_wsS])⟩
  have h2 := hd.2.2
  rw [h] at h2
  exact (Option.some.inj h2).symm
theorem vx_callSW (X : Stand p l e R s m args below meth c T locs cells slots) (hexec : p.tables.exec = Jvm.exec) {own : String} {index : Nat} {y : MethodName} {bytes : ByteArray} {maxL : Nat} {ret : Option FieldType} {hh : List (Nat × Nat × Nat × Nat)}
    (hown : s.vm.findClass own = some m.cls) (hlink : (Cond.methodLink own index y).before args s = true) (hstat : (Cond.static y).before args s = true) (hinit : (Cond.initialized y.cls).before args s = true)
    (hcode : (Cond.codeWith y bytes maxL ret hh).before args s = true) (hy : y.cls ≠ "java/lang/invoke/MethodHandle" ∧ y.cls ≠ "java/lang/invoke/VarHandle")
    {W9 : Nat} {Pre : Pt → Array Value → Prop} {Post : Pt → Array Value → Option Value → Pt → Prop} (hK : Back l R p e below s args y 3 W9 Pre Post)
    {g : JFrame} (hg : g.method = m) (hsize : g.locals.size = c.maxLocals) {argsL rest : List Value} (hlen : ∀ sig, parseMethodDescriptor y.desc = some sig → argsL.length = sig.parameters.length)
    (hstack : g.stack = argsL.reverse ++ rest) (hW : 2 * g.monitorRoom + (rest.map fun v => v.category).sum ≤ W9) (hdg : decode c.code g.pc = .ok (.invokestatic index, 3))
    (hpre : ∀ vm₁, s.WarmedH vm₁ → Pre ⟨T.setVm vm₁, locs, cells, slots⟩ argsL.toArray) :
    ∃ (v : Option Value) (vm₁ : Vm) (B : Pt), s.WarmedH vm₁ ∧ Stand p l e R s m args below meth c B.U B.locs B.cells B.slots ∧ Post ⟨T.setVm vm₁, locs, cells, slots⟩ argsL.toArray v B ∧
      ∀ target, Steps p.tables e below (B.U.setTop { g with pc := g.pc + 3, stack := v.toList ++ rest }) target → Steps p.tables e below (T.setTop g) target := by
  obtain ⟨mk, methM, cM, hnamed, hmethM, -, -, -, -, -, -, hsigM⟩ := Cond.codeWith_spec hcode
  have hstatic : methM.isStatic = true := Cond.static_spec hnamed hmethM hstat
  obtain ⟨kP, hkP, -⟩ := className_of_methodNamed hnamed
  have hinitP : kP.init = .initialized := Cond.initialized_spec (findClass_of_methodNamed hnamed) hkP hinit
  obtain ⟨vm₁, X₁, hstep₁⟩ := X.invokestatic hexec hown hlink hnamed hmethM hstatic hkP hinitP hy (g := g) hg (argsL := argsL) (rest := rest) (hlen _ hsigM) hstack hdg
  obtain ⟨v, B, X', hpost, hsteps⟩ := hK m meth c ⟨T.setVm vm₁, locs, cells, slots⟩ { g with stack := rest } (.invokestatic index) mk argsL.toArray X₁ hg hsize hdg hW (X₁.named hnamed) (hpre vm₁ X₁.warmed)
  exact ⟨v, vm₁, B, X₁.warmed, X', hpost, fun target h => hstep₁ _ fun acts => by rw [doInvoke_state]; exact hsteps.trans h⟩
theorem vx_runSW {y : MethodName} {bytes cc : ByteArray} {maxL nL mc ms n index : Nat} {ret : Option FieldType} {hh : List (Nat × Nat × Nat × Nat)} {ws : List Cond} {rm : Room} {Pc : Array Value → State → Prop} {Qc : Array Value → State → Outcome → State → Prop} {free : Addr → Prop} {Ts : List Cond} {own : String} {As rest : List Value} {g : JFrame}
    (S : CallFix p m c cc nL s args Ts own) (hM : Met l y ws rm Pc Qc mc ms free) (cw : vx_CSW R s args own index y bytes maxL ret hh ws rm mc ms n) (hp : PreS s H Pc As)
    (hg : g.method = m) (hn : As.length = n) (hsize : g.locals.size = nL) (hstack : g.stack = As.reverse ++ rest) (hW : 2 * g.monitorRoom + (rest.map fun v => v.category).sum ≤ 8) (hdg : decode cc g.pc = .ok (.invokestatic index, 3)) (hf : cells + mc ≤ R.cells ∧ slots + ms ≤ R.slots) :
    va_Run p l e R s m args below meth c H locs cells slots mc ms g rest (Qc As.toArray) (free) := by
  obtain ⟨⟨hrc, hrs, hfr, hlo, hws, hcw⟩, hcode, hini, hy, hlen, hl, hstt⟩ := cw
  have hK : Back l R p e below s args y 3 8 (PreOf R mc ms Pc) (PostOf Qc mc ms free) := va_backW (hh := hh) (bytes := bytes) (maxL := maxL) (ret := ret) hM hp.1 hrc hrs hfr hlo hws hcw (fun a' U hW => word_at hW (Or.inl (by first | rfl | simp [Cond.onTables, Cond.keeps, Cond.steady])) hini)
  obtain ⟨hx, hb, hml, ho, -⟩ := S
  intro T hT X
  obtain ⟨v, vm₁, ⟨U', l2, c2, s2⟩, hW₁, X', ⟨g', mk, t, L, e1, e2, hq, h1, hL, h2, h3⟩, st⟩ := vx_callSW X hx (hh := hh) (bytes := bytes) (maxL := maxL) (ret := ret) ho hl hstt hini hcode hy hK hg (hsize.trans hml.symm) (argsL := As) (rest := rest) (fun sig h => hn.trans (hlen sig h)) hstack hW (by rw [hb]; exact hdg)
    (fun vm₁ hW₁ => ⟨hf.1, hf.2, hp.2 (T.setVm vm₁) hT hW₁⟩)
  dsimp only [Pt.U, Pt.locs, Pt.cells, Pt.slots] at X' e1 e2 h1 h2 h3 st
  subst h1; subst h2; subst h3
  exact ⟨v, (T.setVm vm₁).calling g' mk As.toArray, t, U', L, hT, X', hL, e1, e2, hq, st⟩
/-- not caught here, past rows that name other classes: it goes on to the caller -/
theorem vx_outP {p : Program} {l : Launch} {e : Env} {R : Room} {s : State} {m : MethodId} {args : Array Value} {below : List Frame} {meth : Method} {c : Code} {H : Heap} {locs : List Loc} {cells slots : Nat} {free : Addr → Prop} {ls : Array Slot} {rest : List Value} {Qc : Array Value → State → Outcome → State → Prop} {XC : String → State → State → Prop}
    {pc : Nat} {own E : String} {ce : Cell} {q : Addr} {mc ms : Nat} (hown : s.vm.findClass own = some m.cls) (hlocks : meth.locks = false)
    (hpass : ∀ z ∈ c.exceptionTable.toList, covers z pc = false ∨ (z.catchType ≠ 0 ∧ ∃ nm : String, (Cond.classLink own z.catchType nm).before args s = true ∧ va_Nc E nm s)) (hcell : H[q]? = some ce) (hv : ce.vm = .none) (hcl : s.vm.findClass E = some ce.cls)
    (hx : ∀ t : State, t.heap = H → s.vm.Alike t.vm → XC E s t) (hf : ∀ z ∈ locs, free z.base) (hc : cells ≤ mc) (hs : slots ≤ ms) :
    vx_W p l e R s m args below meth c H locs cells slots (vx_MQ below Qc XC args s mc ms free) (F0 m pc ls rest) q := by
  intro T hT X
  have hpl : e.platform.magicAccessors = ({} : Platform).magicAccessors := by rw [X.admits.platform]
  obtain ⟨vm', hW', X', st⟩ := X.outThrough hlocks q (g := F0 m pc ls rest) rfl rfl rfl (cell := ce) (by rw [hT]; exact hcell) (by rw [hv]; rfl)
    (by obtain ⟨k9, h9, -⟩ := Vm.findClass_spec hcl; exact ⟨k9, h9⟩) (fun z hz => by
      rcases hpass z hz with h | ⟨hz0, nm, hl1, hn1⟩
      · exact Or.inl h
      · obtain ⟨c6, hc6, hcl6⟩ := Cond.classLink_spec hown hl1 e.platform hpl
        obtain ⟨a8, b8, h1, h2, h3⟩ := hn1
        cases Option.some.inj (h1.symm.trans hcl)
        cases Option.some.inj (h2.symm.trans hc6)
        exact Or.inr ⟨hz0, _, hcl6, h3⟩)
  obtain ⟨g₀, hfr⟩ := X'.frames_eq
  have hcell9 : ((T.setVm vm').setFrames (.throwing q :: below)).heap[q]? = some ce := by
    show T.heap[q]? = some ce
    rw [hT]; exact hcell
  have hend : Ended ((T.setVm vm').setFrames (.throwing q :: below)) below (.threw q) := State.frames_setFrames _ (State.cur_lt_of_frames hfr)
  refine ⟨(T.setVm vm').setFrames (.throwing q :: below), ?_, .threw q, X'.here.running, hend, Or.inr ⟨q, rfl, E, ce, locs, hx _ hT (X'.ends _).1.alike, hcell9, hv, hcl, (X'.ends _).1, (X'.ends _).2.mono hc hs, hf⟩⟩
  rw [X.pushThrowing_eq]
  exact st
/-- a thing of a world lies in the heap -/
theorem vx_lt {D : va_G} {cl : List vw_C} {ws : va_W} {H1 : Heap} (h : va_P D cl ws H1) {k : Nat} {q : Nat × va_E} (hk : ws[k]? = some q) : q.1 < H1.size := (h k q hk).lt
end VXS
/-! ===== END ===== -/
/-! ===== BEGIN methods with a table of their own: called by a name, returning or throwing ===== -/
section VXH
/-! vx_backW, vx_callVX, vx_callSX, vx_callVW, vx_runVW, vx_runVX, vx_runSX, vx_ofWH follow the same proofs as their sisters above (Free/Laws.lean, Shelf42/LK1.lean); vx_outP calls Shelf42/NT130.lean (outThrough). -/
section
variable {l : Launch} {R : Room} {p : Program} {e : Env} {below : List Frame} {s : State} {sargs : Array Value} {y : MethodName} {len W9 : Nat}
theorem vx_backW {ws : List Cond} {rm : Room} {Pc : Array Value → State → Prop} {Qc : Array Value → State → Outcome → State → Prop} {XC : String → State → State → Prop} {mc ms : Nat} {free : Addr → Prop} {bytes : ByteArray} {maxL : Nat} {ret : Option FieldType} {hh : List (Nat × Nat × Nat × Nat)}
    (hM : vx_Met l y ws rm Pc Qc XC mc ms free) (hblind : FrameBlind Pc) (hrc : rm.cells = mc) (hrs : rm.slots = ms)
    (hframes : rm.frames + 1 ≤ R.frames) (hlocals : W9 + (maxL + 11) + rm.locals ≤ R.locals)
    (hws : ∀ w ∈ ws, ∀ a' U, s.WarmedH U.vm → w.before a' U = true) (hcode : Cond.codeWith y bytes maxL ret hh ∈ ws) (hinit : ∀ a' U, s.WarmedH U.vm → (Cond.initialized y.cls).before a' U = true) :
    vx_Back l R p e below s sargs y len W9 (PreOf R mc ms Pc) (PostOf Qc mc ms free) (vx_Post XC mc ms free) := by
  intro m meth c A g ig mk a X hg hsize hdg hW hn hp
  have h1 : (headSpec ws rm).pre.before a A.U = true := atoms_intro fun w hw => hws w hw _ _ X.warmed
  have h2 : (Cond.codeWith y bytes maxL ret hh).before a A.U = true := hws _ hcode _ _ X.warmed
  have h3 : (Cond.initialized y.cls).before a A.U = true := hinit _ _ X.warmed
  have h4 : A.cells + (headSpec ws rm).room.cells ≤ R.cells := by rw [show (headSpec ws rm).room.cells = mc from hrc]; exact hp.1
  have h5 : A.slots + (headSpec ws rm).room.slots ≤ R.slots := by rw [show (headSpec ws rm).room.slots = ms from hrs]; exact hp.2.1
  have hPc : Pc a (A.U.calling g mk a) := hblind _ _ _ _ hp.2.2
  obtain ⟨U, Ls, c0, s0⟩ := A
  dsimp only [Pt.U, Pt.locs, Pt.cells, Pt.slots] at h1 h2 h3 h4 h5 X hn hPc ⊢
  obtain ⟨m9, methY, cY, hn9, hmY, hcY, -, hlY, -⟩ := Cond.codeWith_spec h2
  cases Option.some.inj (hn9.symm.trans hn)
  obtain ⟨kY, hkY, -⟩ := className_of_methodNamed hn
  have hinitY : kY.init = .initialized := Cond.initialized_spec (findClass_of_methodNamed hn) hkY h3
  have h : At U g.method c below := by rw [hg]; exact X.here
  have hlocals9 : W9 + (maxL + 11) + (headSpec ws rm).room.locals ≤ R.locals := hlocals
  have happ : (headSpec ws rm).appliesLoose y e.platform (U.calling g mk a) = true :=
    Spec.appliesLoose_calling (g := g) h hdg hn hkY hinitY
      (X.room_calling (g := g) (R' := (headSpec ws rm).room) hsize hmY hcY hframes (by rw [hlY]; omega) h4 h5) h1
  obtain ⟨mid, hmid⟩ := h.above
  have hfr : (U.setTop g).frames = (.java g :: mid) ++ below := by rw [State.frames_setTop' g h.top, hmid]; rfl
  obtain ⟨o, s₂, hsteps, -, hend, hq⟩ := Steps.callFree hM p X.admits X.cas X.clock (acts := []) hfr happ hPc trivial
  have hq' : vx_Q Qc XC mc ms free a (U.calling g mk a) o s₂ := hq
  rw [State.frames_setTop' g h.top] at hend
  obtain ⟨g₀, hg0⟩ := Option.isSome_iff_exists.mp h.top
  obtain ⟨r, hr⟩ := State.topJava?_eq_some.mp hg0
  have hr' : (({ U with heap := s₂.heap, slotsUsed := s₂.slotsUsed } : State).setVm s₂.vm).frames = .java g₀ :: r := hr
  rcases hq' with ⟨hqc, L, hfe, hL⟩ | ⟨q, rfl, E, ce, L, hx, hce, hcv, hcl, hW₂, hsm, hL⟩
  · obtain ⟨⟨v, rfl⟩, hW₂, e2, q2, q3, q4, q5, q6⟩ := id hfe
    have e3 : s₂ = ({ (U.calling g mk a).setFrames s₂.frames with heap := s₂.heap, slotsUsed := s₂.slotsUsed } : State).setVm s₂.vm := by
      have : s₂ = ({ s₂ with vm := (U.calling g mk a).vm } : State).setVm s₂.vm := rfl
      rw [e2] at this
      exact this
    obtain ⟨c₂, i₂, len₂, hc₂, hd₂, hf₂⟩ := hend
    have hW' : U.WarmedH s₂.vm := hW₂
    have hcc : c₂ = c := by
      have h1 : s₂.code? g.method = U.code? g.method := by
        rw [State.code?_eq, State.code?_eq, hW'.alike.method?]
      exact Option.some.inj (hc₂.symm.trans (h1.trans h.code))
    subst hcc
    have hlen : len₂ = len := by rw [hdg] at hd₂; cases hd₂; rfl
    subst hlen
    have hs₂ : s₂ = (({ U with heap := s₂.heap, slotsUsed := s₂.slotsUsed } : State).setVm s₂.vm).setTop { g with pc := g.pc + len₂, stack := v.toList ++ g.stack } := by
      refine e3.trans ?_
      rw [hf₂, State.calling_eq h.top, State.setFrames_setFrames, State.setTop_of_frames _ hr', hr]
      rfl
    have hsame : U.sameButNew ({ U with heap := s₂.heap, slotsUsed := s₂.slotsUsed } : State) L mc ms := by
      refine ⟨?_, q2, q3, q4, q5, q6⟩
      obtain ⟨t, ht, -⟩ := State.frames_cons hr
      show ({ U with heap := s₂.heap, slotsUsed := s₂.slotsUsed } : State) = { U.setFrames U.frames with heap := s₂.heap, slotsUsed := s₂.slotsUsed }
      rw [State.setFrames_self ht]
    subst hg
    refine Or.inl ⟨v, ⟨(({ U with heap := s₂.heap, slotsUsed := s₂.slotsUsed } : State).setVm s₂.vm), Ls ++ L, c0 + mc, s0 + ms⟩,
      ⟨X.admits, X.cas, X.clock, X.frames, X.room, X.hears, X.method, X.code, (X.here.setHeapUsed s₂.heap s₂.slotsUsed).setVm hW'.alike, X.tail, State.WarmedH.trans X.warmed hW', X.limits, X.bytes, X.same.trans (hsame.setVm s.vm)⟩,
      ⟨g, mk, s₂, L, rfl, rfl, hqc, rfl, hL, rfl, rfl⟩, ?_⟩
    show Steps p.tables e below _ ((({ U with heap := s₂.heap, slotsUsed := s₂.slotsUsed } : State).setVm s₂.vm).setTop { g with pc := g.pc + len₂, stack := v.toList ++ g.stack })
    rw [← hs₂]
    exact hsteps
  · obtain ⟨e2, q2, q3, q4, q5, q6⟩ := id hsm
    have e3 : s₂ = ({ (U.calling g mk a).setFrames s₂.frames with heap := s₂.heap, slotsUsed := s₂.slotsUsed } : State).setVm s₂.vm := by
      have : s₂ = ({ s₂ with vm := (U.calling g mk a).vm } : State).setVm s₂.vm := rfl
      rw [e2] at this
      exact this
    have hf₂ : s₂.frames = .throwing q :: .java g :: U.frames.tail := hend
    have hW' : U.WarmedH s₂.vm := hW₂
    have hs₂ : s₂ = ((({ U with heap := s₂.heap, slotsUsed := s₂.slotsUsed } : State).setVm s₂.vm).setTop g).pushFrame (.throwing q) := by
      refine e3.trans ?_
      rw [hf₂, State.calling_eq h.top, State.setFrames_setFrames, State.pushFrame, State.frames_setTop _ hr', State.setTop_of_frames _ hr', State.setFrames_setFrames, hr]
      rfl
    have hsame : U.sameButNew ({ U with heap := s₂.heap, slotsUsed := s₂.slotsUsed } : State) L mc ms := by
      refine ⟨?_, q2, q3, q4, q5, q6⟩
      obtain ⟨t, ht, -⟩ := State.frames_cons hr
      show ({ U with heap := s₂.heap, slotsUsed := s₂.slotsUsed } : State) = { U.setFrames U.frames with heap := s₂.heap, slotsUsed := s₂.slotsUsed }
      rw [State.setFrames_self ht]
    subst hg
    refine Or.inr ⟨q, ⟨(({ U with heap := s₂.heap, slotsUsed := s₂.slotsUsed } : State).setVm s₂.vm), Ls ++ L, c0 + mc, s0 + ms⟩,
      ⟨X.admits, X.cas, X.clock, X.frames, X.room, X.hears, X.method, X.code, (X.here.setHeapUsed s₂.heap s₂.slotsUsed).setVm hW'.alike, X.tail, State.WarmedH.trans X.warmed hW', X.limits, X.bytes, X.same.trans (hsame.setVm s.vm)⟩,
      ⟨g, mk, s₂, L, E, ce, rfl, rfl, hx, hce, hcv, hcl, rfl, hL, rfl, rfl⟩, ?_⟩
    show Steps p.tables e below _ (((({ U with heap := s₂.heap, slotsUsed := s₂.slotsUsed } : State).setVm s₂.vm).setTop g).pushFrame (.throwing q))
    rw [← hs₂]
    exact hsteps
end
variable {p : Program} {l : Launch} {e : Env} {R : Room} {s : State} {m : MethodId} {args : Array Value} {below : List Frame} {meth : Method} {c : Code} {T : State} {H : Heap} {locs : List Loc} {cells slots : Nat}
theorem vx_callVX (X : Stand p l e R s m args below meth c T locs cells slots) (hexec : p.tables.exec = Jvm.exec) {own C : String} {index : Nat} {y : MethodName} {bytes : ByteArray} {maxL : Nat} {ret : Option FieldType} {hh : List (Nat × Nat × Nat × Nat)}
    (hown : s.vm.findClass own = some m.cls) (hlink : (Cond.methodLink own index y).before args s = true) (hinst : (Cond.instanceMethod y).before args s = true) (hsel : (Cond.selects C y y).before args s = true)
    (hcode : (Cond.codeWith y bytes maxL ret hh).before args s = true) (hy : y.cls ≠ "java/lang/invoke/MethodHandle" ∧ y.cls ≠ "java/lang/invoke/VarHandle")
    {W9 : Nat} {Pre : Pt → Array Value → Prop} {Post : Pt → Array Value → Option Value → Pt → Prop} {PostX : Pt → Array Value → Addr → Pt → Prop} (hK : vx_Back l R p e below s args y 3 W9 Pre Post PostX)
    {b : Addr} {cellB : Cell} (hcell : T.heap[b]? = some cellB) (hobj : cellB.vm.isStatics = false) (hcls : s.vm.findClass C = some cellB.cls)
    {g : JFrame} (hg : g.method = m) (hsize : g.locals.size = c.maxLocals) {argsL rest : List Value} (hlen : ∀ sig, parseMethodDescriptor y.desc = some sig → argsL.length = sig.parameters.length)
    (hstack : g.stack = argsL.reverse ++ .ref b :: rest) (hW : 2 * g.monitorRoom + (rest.map fun v => v.category).sum ≤ W9) (hdg : decode c.code g.pc = .ok (.invokevirtual index, 3))
    (hpre : ∀ vm₁, s.WarmedH vm₁ → Pre ⟨T.setVm vm₁, locs, cells, slots⟩ (Value.ref b :: argsL).toArray) :
    (∃ (v : Option Value) (vm₁ : Vm) (B : Pt), s.WarmedH vm₁ ∧ Stand p l e R s m args below meth c B.U B.locs B.cells B.slots ∧ Post ⟨T.setVm vm₁, locs, cells, slots⟩ (Value.ref b :: argsL).toArray v B ∧
      ∀ target, Steps p.tables e below (B.U.setTop { g with pc := g.pc + 3, stack := v.toList ++ rest }) target → Steps p.tables e below (T.setTop g) target) ∨
    (∃ (q : Addr) (vm₁ : Vm) (B : Pt), s.WarmedH vm₁ ∧ Stand p l e R s m args below meth c B.U B.locs B.cells B.slots ∧ PostX ⟨T.setVm vm₁, locs, cells, slots⟩ (Value.ref b :: argsL).toArray q B ∧
      Steps p.tables e below (T.setTop g) ((B.U.setTop { g with stack := rest }).pushFrame (.throwing q))) := by
  obtain ⟨mk, methM, hnamed, hmethM, hstM, habM⟩ := Cond.instanceMethod_spec hinst
  obtain ⟨m8, methM', cM, hn8, hmethM', -, -, -, -, -, -, hsigM⟩ := Cond.codeWith_spec hcode
  cases Option.some.inj (hn8.symm.trans hnamed)
  cases hmethM.symm.trans hmethM'
  obtain ⟨c2, r2, m2, q1, q2, q3, q4, kP, hkP, hkPi⟩ := Cond.selects_spec hsel
  cases hcls.symm.trans q1
  cases (State.methodFound?_of_named hnamed hy).symm.trans q2
  cases hnamed.symm.trans q3
  have hselP : selectMethod e.platform s.vm cellB.cls mk = .method mk := by rw [Launch.admits_selectMethod X.admits]; exact q4
  obtain ⟨vm₁, X₁, hstep₁⟩ := X.invokevirtual hexec hown hlink hnamed hmethM hstM hkP hkPi hy (a := b) (cell := cellB) hcell
    (fun z h => by rw [h] at hobj; cases hobj) hselP hmethM habM hkP hkPi (g := g) hg (argsL := argsL) (rest := rest) (hlen _ hsigM) hstack hdg
  rcases hK m meth c ⟨T.setVm vm₁, locs, cells, slots⟩ { g with stack := rest } (.invokevirtual index) mk (Value.ref b :: argsL).toArray X₁ hg hsize hdg hW (X₁.named hnamed) (hpre vm₁ X₁.warmed) with ⟨v, B, X', hpost, hsteps⟩ | ⟨q, B, X', hpost, hsteps⟩
  · exact Or.inl ⟨v, vm₁, B, X₁.warmed, X', hpost, fun target h => hstep₁ _ fun acts => by rw [doInvoke_state]; exact hsteps.trans h⟩
  · exact Or.inr ⟨q, vm₁, B, X₁.warmed, X', hpost, hstep₁ _ fun acts => by rw [doInvoke_state]; exact hsteps⟩
theorem vx_callSX (X : Stand p l e R s m args below meth c T locs cells slots) (hexec : p.tables.exec = Jvm.exec) {own : String} {index : Nat} {y : MethodName} {bytes : ByteArray} {maxL : Nat} {ret : Option FieldType} {hh : List (Nat × Nat × Nat × Nat)}
    (hown : s.vm.findClass own = some m.cls) (hlink : (Cond.methodLink own index y).before args s = true) (hstat : (Cond.static y).before args s = true) (hinit : (Cond.initialized y.cls).before args s = true)
    (hcode : (Cond.codeWith y bytes maxL ret hh).before args s = true) (hy : y.cls ≠ "java/lang/invoke/MethodHandle" ∧ y.cls ≠ "java/lang/invoke/VarHandle")
    {W9 : Nat} {Pre : Pt → Array Value → Prop} {Post : Pt → Array Value → Option Value → Pt → Prop} {PostX : Pt → Array Value → Addr → Pt → Prop} (hK : vx_Back l R p e below s args y 3 W9 Pre Post PostX)
    {g : JFrame} (hg : g.method = m) (hsize : g.locals.size = c.maxLocals) {argsL rest : List Value} (hlen : ∀ sig, parseMethodDescriptor y.desc = some sig → argsL.length = sig.parameters.length)
    (hstack : g.stack = argsL.reverse ++ rest) (hW : 2 * g.monitorRoom + (rest.map fun v => v.category).sum ≤ W9) (hdg : decode c.code g.pc = .ok (.invokestatic index, 3))
    (hpre : ∀ vm₁, s.WarmedH vm₁ → Pre ⟨T.setVm vm₁, locs, cells, slots⟩ argsL.toArray) :
    (∃ (v : Option Value) (vm₁ : Vm) (B : Pt), s.WarmedH vm₁ ∧ Stand p l e R s m args below meth c B.U B.locs B.cells B.slots ∧ Post ⟨T.setVm vm₁, locs, cells, slots⟩ argsL.toArray v B ∧
      ∀ target, Steps p.tables e below (B.U.setTop { g with pc := g.pc + 3, stack := v.toList ++ rest }) target → Steps p.tables e below (T.setTop g) target) ∨
    (∃ (q : Addr) (vm₁ : Vm) (B : Pt), s.WarmedH vm₁ ∧ Stand p l e R s m args below meth c B.U B.locs B.cells B.slots ∧ PostX ⟨T.setVm vm₁, locs, cells, slots⟩ argsL.toArray q B ∧
      Steps p.tables e below (T.setTop g) ((B.U.setTop { g with stack := rest }).pushFrame (.throwing q))) := by
  obtain ⟨mk, methM, cM, hnamed, hmethM, -, -, -, -, -, -, hsigM⟩ := Cond.codeWith_spec hcode
  have hstatic : methM.isStatic = true := Cond.static_spec hnamed hmethM hstat
  obtain ⟨kP, hkP, -⟩ := className_of_methodNamed hnamed
  have hinitP : kP.init = .initialized := Cond.initialized_spec (findClass_of_methodNamed hnamed) hkP hinit
  obtain ⟨vm₁, X₁, hstep₁⟩ := X.invokestatic hexec hown hlink hnamed hmethM hstatic hkP hinitP hy (g := g) hg (argsL := argsL) (rest := rest) (hlen _ hsigM) hstack hdg
  rcases hK m meth c ⟨T.setVm vm₁, locs, cells, slots⟩ { g with stack := rest } (.invokestatic index) mk argsL.toArray X₁ hg hsize hdg hW (X₁.named hnamed) (hpre vm₁ X₁.warmed) with ⟨v, B, X', hpost, hsteps⟩ | ⟨q, B, X', hpost, hsteps⟩
  · exact Or.inl ⟨v, vm₁, B, X₁.warmed, X', hpost, fun target h => hstep₁ _ fun acts => by rw [doInvoke_state]; exact hsteps.trans h⟩
  · exact Or.inr ⟨q, vm₁, B, X₁.warmed, X', hpost, hstep₁ _ fun acts => by rw [doInvoke_state]; exact hsteps⟩
theorem vx_callVW (X : Stand p l e R s m args below meth c T locs cells slots) (hexec : p.tables.exec = Jvm.exec) {own C : String} {index : Nat} {y : MethodName} {bytes : ByteArray} {maxL : Nat} {ret : Option FieldType} {hh : List (Nat × Nat × Nat × Nat)}
    (hown : s.vm.findClass own = some m.cls) (hlink : (Cond.methodLink own index y).before args s = true) (hinst : (Cond.instanceMethod y).before args s = true) (hsel : (Cond.selects C y y).before args s = true)
    (hcode : (Cond.codeWith y bytes maxL ret hh).before args s = true) (hy : y.cls ≠ "java/lang/invoke/MethodHandle" ∧ y.cls ≠ "java/lang/invoke/VarHandle")
    {W9 : Nat} {Pre : Pt → Array Value → Prop} {Post : Pt → Array Value → Option Value → Pt → Prop} (hK : Back l R p e below s args y 3 W9 Pre Post)
    {b : Addr} {cellB : Cell} (hcell : T.heap[b]? = some cellB) (hobj : cellB.vm.isStatics = false) (hcls : s.vm.findClass C = some cellB.cls)
    {g : JFrame} (hg : g.method = m) (hsize : g.locals.size = c.maxLocals) {argsL rest : List Value} (hlen : ∀ sig, parseMethodDescriptor y.desc = some sig → argsL.length = sig.parameters.length)
    (hstack : g.stack = argsL.reverse ++ .ref b :: rest) (hW : 2 * g.monitorRoom + (rest.map fun v => v.category).sum ≤ W9) (hdg : decode c.code g.pc = .ok (.invokevirtual index, 3))
    (hpre : ∀ vm₁, s.WarmedH vm₁ → Pre ⟨T.setVm vm₁, locs, cells, slots⟩ (Value.ref b :: argsL).toArray) :
    ∃ (v : Option Value) (vm₁ : Vm) (B : Pt), s.WarmedH vm₁ ∧ Stand p l e R s m args below meth c B.U B.locs B.cells B.slots ∧ Post ⟨T.setVm vm₁, locs, cells, slots⟩ (Value.ref b :: argsL).toArray v B ∧
      ∀ target, Steps p.tables e below (B.U.setTop { g with pc := g.pc + 3, stack := v.toList ++ rest }) target → Steps p.tables e below (T.setTop g) target := by
  obtain ⟨mk, methM, hnamed, hmethM, hstM, habM⟩ := Cond.instanceMethod_spec hinst
  obtain ⟨m8, methM', cM, hn8, hmethM', -, -, -, -, -, -, hsigM⟩ := Cond.codeWith_spec hcode
  cases Option.some.inj (hn8.symm.trans hnamed)
  cases hmethM.symm.trans hmethM'
  obtain ⟨c2, r2, m2, q1, q2, q3, q4, kP, hkP, hkPi⟩ := Cond.selects_spec hsel
  cases hcls.symm.trans q1
  cases (State.methodFound?_of_named hnamed hy).symm.trans q2
  cases hnamed.symm.trans q3
  have hselP : selectMethod e.platform s.vm cellB.cls mk = .method mk := by rw [Launch.admits_selectMethod X.admits]; exact q4
  obtain ⟨vm₁, X₁, hstep₁⟩ := X.invokevirtual hexec hown hlink hnamed hmethM hstM hkP hkPi hy (a := b) (cell := cellB) hcell
    (fun z h => by rw [h] at hobj; cases hobj) hselP hmethM habM hkP hkPi (g := g) hg (argsL := argsL) (rest := rest) (hlen _ hsigM) hstack hdg
  obtain ⟨v, B, X', hpost, hsteps⟩ := hK m meth c ⟨T.setVm vm₁, locs, cells, slots⟩ { g with stack := rest } (.invokevirtual index) mk (Value.ref b :: argsL).toArray X₁ hg hsize hdg hW (X₁.named hnamed) (hpre vm₁ X₁.warmed)
  exact ⟨v, vm₁, B, X₁.warmed, X', hpost, fun target h => hstep₁ _ fun acts => by rw [doInvoke_state]; exact hsteps.trans h⟩
abbrev vx_CVW (R : Room) (s : State) (args : Array Value) (own C : String) (index : Nat) (y : MethodName) (bytes : ByteArray) (maxL : Nat) (ret : Option FieldType) (hh : List (Nat × Nat × Nat × Nat)) (ws : List Cond) (rm : Room) (mc ms n : Nat) : Prop :=
  (rm.cells = mc ∧ rm.slots = ms ∧ rm.frames + 1 ≤ R.frames ∧ 8 + (maxL + 11) + rm.locals ≤ R.locals ∧ (∀ w ∈ ws, ∀ (a' : Array Value) (U : State), s.WarmedH U.vm → w.before a' U = true) ∧ Cond.codeWith y bytes maxL ret hh ∈ ws) ∧
  (Cond.codeWith y bytes maxL ret hh).before args s = true ∧ (Cond.initialized y.cls).before args s = true ∧ (y.cls ≠ "java/lang/invoke/MethodHandle" ∧ y.cls ≠ "java/lang/invoke/VarHandle") ∧
  (∀ sig, parseMethodDescriptor y.desc = some sig → n = sig.parameters.length) ∧ (Cond.methodLink own index y).before args s = true ∧ (Cond.instanceMethod y).before args s = true ∧ (Cond.selects C y y).before args s = true
theorem vx_cwVW {own C : String} {index maxL mc ms : Nat} {y : MethodName} {bytes : ByteArray} {ret : Option FieldType} {hh : List (Nat × Nat × Nat × Nat)} {Ts ws ws' : List Cond} {rm : Room} (n : Nat) (ht : ∀ w ∈ Ts, w.before args s = true) (hT : GoodIn Ts (wsV own index C y ws)) (hw : ws = Cond.codeWith y bytes maxL ret hh :: ws') (hrc : rm.cells = mc) (hrs : rm.slots = ms)
    (hd : y.cls = C ∧ y.cls ≠ "java/lang/invoke/MethodHandle" ∧ y.cls ≠ "java/lang/invoke/VarHandle" ∧ (parseMethodDescriptor y.desc).map (fun d => d.parameters.length) = some n) (hR : rm.frames + 1 ≤ R.frames ∧ 8 + (maxL + 11) + rm.locals ≤ R.locals) :
    vx_CVW R s args own C index y bytes maxL ret hh ws rm mc ms n := by
  obtain ⟨hC, hd⟩ := hd
  subst hC
  have ok : ∀ w ∈ wsV own index y.cls y ws, w.before args s = true := fun w h => ht w (hT w h).1
  have hG : GoodIn Ts ws := fun w h => hT w (by unfold wsV; exact List.mem_append_right _ h)
  have hc : Cond.codeWith y bytes maxL ret hh ∈ ws := by rw [hw]; exact List.mem_cons_self
  refine ⟨⟨hrc, hrs, hR.1, hR.2, pay_in ht hG, hc⟩, ht _ (hG _ hc).1, ok _ (by simp [wsV]), ⟨hd.1, hd.2.1⟩, fun sig h => ?_, ok _ (by simp [wsV]), ok _ (by simp [wsV]), ok _ (by simp [wsV])⟩
  have h2 := hd.2.2
  rw [h] at h2
  exact (Option.some.inj h2).symm
theorem vx_runVW {y : MethodName} {bytes cc : ByteArray} {maxL nL mc ms n index : Nat} {ret : Option FieldType} {hh : List (Nat × Nat × Nat × Nat)} {ws : List Cond} {rm : Room} {Pc : Array Value → State → Prop} {Qc : Array Value → State → Outcome → State → Prop} {free : Addr → Prop} {Ts : List Cond} {own C : String} {b : Addr} {As rest : List Value} {g : JFrame}
    (S : CallFix p m c cc nL s args Ts own) (hM : Met l y ws rm Pc Qc mc ms free) (cw : vx_CVW R s args own C index y bytes maxL ret hh ws rm mc ms n) (hp : PreV s H C b Pc As)
    (hg : g.method = m) (hn : As.length = n) (hsize : g.locals.size = nL) (hstack : g.stack = As.reverse ++ .ref b :: rest) (hW : 2 * g.monitorRoom + (rest.map fun v => v.category).sum ≤ 8) (hdg : decode cc g.pc = .ok (.invokevirtual index, 3)) (hf : cells + mc ≤ R.cells ∧ slots + ms ≤ R.slots) :
    va_Run p l e R s m args below meth c H locs cells slots mc ms g rest (Qc (Value.ref b :: As).toArray) free := by
  obtain ⟨⟨hrc, hrs, hfr, hlo, hws, hcw⟩, hcode, hini, hy, hlen, hl, hin, hse⟩ := cw
  have hK : Back l R p e below s args y 3 8 (PreOf R mc ms Pc) (PostOf Qc mc ms free) := va_backW (hh := hh) (bytes := bytes) (maxL := maxL) (ret := ret) hM hp.1 hrc hrs hfr hlo hws hcw (fun a' U hW => word_at hW (Or.inl (by first | rfl | simp [Cond.onTables, Cond.keeps, Cond.steady])) hini)
  obtain ⟨hx, hb, hml, ho, -⟩ := S
  obtain ⟨-, ⟨cellB, hcB, hoB, hclB⟩, hPc⟩ := hp
  intro T hT X
  obtain ⟨v, vm₁, ⟨U', l2, c2, s2⟩, hW₁, X', ⟨g', mk, t, L, e1, e2, hq, h1, hL, h2, h3⟩, st⟩ := vx_callVW X hx (C := C) (hh := hh) (bytes := bytes) (maxL := maxL) (ret := ret) ho hl hin hse hcode hy hK (by rw [hT]; exact hcB) hoB hclB hg (hsize.trans hml.symm) (argsL := As) (rest := rest) (fun sig h => hn.trans (hlen sig h)) hstack hW (by rw [hb]; exact hdg)
    (fun vm₁ hW₁ => ⟨hf.1, hf.2, hPc (T.setVm vm₁) hT hW₁⟩)
  dsimp only [Pt.U, Pt.locs, Pt.cells, Pt.slots] at X' e1 e2 h1 h2 h3 st
  subst h1; subst h2; subst h3
  exact ⟨v, (T.setVm vm₁).calling g' mk (Value.ref b :: As).toArray, t, U', L, hT, X', hL, e1, e2, hq, st⟩
section
variable {y : MethodName} {bytes cc : ByteArray} {maxL nL mc ms n index : Nat} {ret : Option FieldType} {ws : List Cond} {rm : Room} {Pc : Array Value → State → Prop} {Qc : Array Value → State → Outcome → State → Prop} {XC : String → State → State → Prop} {free : Addr → Prop} {Ts : List Cond} {own C : String} {b : Addr} {As rest : List Value} {g : JFrame}
theorem vx_runVX {hh : List (Nat × Nat × Nat × Nat)} (S : CallFix p m c cc nL s args Ts own) (hM : vx_Met l y ws rm Pc Qc XC mc ms free) (cw : vx_CVW R s args own C index y bytes maxL ret hh ws rm mc ms n) (hp : PreV s H C b Pc As)
    (hg : g.method = m) (hn : As.length = n) (hsize : g.locals.size = nL) (hstack : g.stack = As.reverse ++ .ref b :: rest) (hW : 2 * g.monitorRoom + (rest.map fun v => v.category).sum ≤ 8) (hdg : decode cc g.pc = .ok (.invokevirtual index, 3)) (hf : cells + mc ≤ R.cells ∧ slots + ms ≤ R.slots) :
    vx_Run p l e R s m args below meth c H locs cells slots mc ms g rest (Qc (Value.ref b :: As).toArray) XC free := by
  obtain ⟨⟨hrc, hrs, hfr, hlo, hws, hcw⟩, hcode, hini, hy, hlen, hl, hin, hse⟩ := cw
  have hK : vx_Back l R p e below s args y 3 8 (PreOf R mc ms Pc) (PostOf Qc mc ms free) (vx_Post XC mc ms free) := vx_backW (hh := hh) (bytes := bytes) (maxL := maxL) (ret := ret) hM hp.1 hrc hrs hfr hlo hws hcw (fun a' U hW => word_at hW (Or.inl (by first | rfl | simp [Cond.onTables, Cond.keeps, Cond.steady])) hini)
  obtain ⟨hx, hb, hml, ho, -⟩ := S
  obtain ⟨-, ⟨cellB, hcB, hoB, hclB⟩, hPc⟩ := hp
  intro T hT X
  rcases vx_callVX X hx (C := C) (hh := hh) (bytes := bytes) (maxL := maxL) (ret := ret) ho hl hin hse hcode hy hK (by rw [hT]; exact hcB) hoB hclB hg (hsize.trans hml.symm) (argsL := As) (rest := rest) (fun sig h => hn.trans (hlen sig h)) hstack hW (by rw [hb]; exact hdg)
    (fun vm₁ hW₁ => ⟨hf.1, hf.2, hPc (T.setVm vm₁) hT hW₁⟩) with ⟨v, vm₁, ⟨U', l2, c2, s2⟩, hW₁, X', ⟨g', mk, t, L, e1, e2, hq, h1, hL, h2, h3⟩, st⟩ | ⟨q, vm₁, ⟨U', l2, c2, s2⟩, hW₁, X', ⟨g', mk, t, L, E, ce, e1, e2, hq, hce, hcv, hcl, h1, hL, h2, h3⟩, st⟩
  · dsimp only [Pt.U, Pt.locs, Pt.cells, Pt.slots] at X' e1 e2 h1 h2 h3 st
    subst h1; subst h2; subst h3
    exact Or.inl ⟨v, (T.setVm vm₁).calling g' mk (Value.ref b :: As).toArray, t, U', L, hT, X', hL, e1, e2, hq, st⟩
  · dsimp only [Pt.U, Pt.locs, Pt.cells, Pt.slots] at X' e1 e2 h1 h2 h3 st hcl
    subst h1; subst h2; subst h3
    exact Or.inr ⟨q, (T.setVm vm₁).calling g' mk (Value.ref b :: As).toArray, t, U', L, E, ce, hT, X', hL, e1, e2, hq, hce, hcv, vx_cls hW₁ hcl, st⟩
theorem vx_runSX {hh : List (Nat × Nat × Nat × Nat)} (S : CallFix p m c cc nL s args Ts own) (hM : vx_Met l y ws rm Pc Qc XC mc ms free) (cw : vx_CSW R s args own index y bytes maxL ret hh ws rm mc ms n) (hp : PreS s H Pc As)
    (hg : g.method = m) (hn : As.length = n) (hsize : g.locals.size = nL) (hstack : g.stack = As.reverse ++ rest) (hW : 2 * g.monitorRoom + (rest.map fun v => v.category).sum ≤ 8) (hdg : decode cc g.pc = .ok (.invokestatic index, 3)) (hf : cells + mc ≤ R.cells ∧ slots + ms ≤ R.slots) :
    vx_Run p l e R s m args below meth c H locs cells slots mc ms g rest (Qc As.toArray) XC free := by
  obtain ⟨⟨hrc, hrs, hfr, hlo, hws, hcw⟩, hcode, hini, hy, hlen, hl, hstt⟩ := cw
  have hK : vx_Back l R p e below s args y 3 8 (PreOf R mc ms Pc) (PostOf Qc mc ms free) (vx_Post XC mc ms free) := vx_backW (hh := hh) (bytes := bytes) (maxL := maxL) (ret := ret) hM hp.1 hrc hrs hfr hlo hws hcw (fun a' U hW => word_at hW (Or.inl (by first | rfl | simp [Cond.onTables, Cond.keeps, Cond.steady])) hini)
  obtain ⟨hx, hb, hml, ho, -⟩ := S
  intro T hT X
  rcases vx_callSX X hx (hh := hh) (bytes := bytes) (maxL := maxL) (ret := ret) ho hl hstt hini hcode hy hK hg (hsize.trans hml.symm) (argsL := As) (rest := rest) (fun sig h => hn.trans (hlen sig h)) hstack hW (by rw [hb]; exact hdg)
    (fun vm₁ hW₁ => ⟨hf.1, hf.2, hp.2 (T.setVm vm₁) hT hW₁⟩) with ⟨v, vm₁, ⟨U', l2, c2, s2⟩, hW₁, X', ⟨g', mk, t, L, e1, e2, hq, h1, hL, h2, h3⟩, st⟩ | ⟨q, vm₁, ⟨U', l2, c2, s2⟩, hW₁, X', ⟨g', mk, t, L, E, ce, e1, e2, hq, hce, hcv, hcl, h1, hL, h2, h3⟩, st⟩
  · dsimp only [Pt.U, Pt.locs, Pt.cells, Pt.slots] at X' e1 e2 h1 h2 h3 st
    subst h1; subst h2; subst h3
    exact Or.inl ⟨v, (T.setVm vm₁).calling g' mk As.toArray, t, U', L, hT, X', hL, e1, e2, hq, st⟩
  · dsimp only [Pt.U, Pt.locs, Pt.cells, Pt.slots] at X' e1 e2 h1 h2 h3 st hcl
    subst h1; subst h2; subst h3
    exact Or.inr ⟨q, (T.setVm vm₁).calling g' mk As.toArray, t, U', L, E, ce, hT, X', hL, e1, e2, hq, hce, hcv, vx_cls hW₁ hcl, st⟩
end
end VXH
theorem vx_ofWH {l : Launch} {y : MethodName} {ws ws' : List Cond} {rm : Room} {Pc : Array Value → State → Prop} {Qc : Array Value → State → Outcome → State → Prop} {XC : String → State → State → Prop} {mc ms : Nat} {free : Addr → Prop} {cc : ByteArray} {maxL : Nat} {ret : Option FieldType} {hh : List (Nat × Nat × Nat × Nat)}
    (hy : plainName y.cls = true) (hw : ws = Cond.codeWith y cc maxL ret hh :: ws')
    (body : ∀ p e s m args below meth c s₁, BodyLoose p l y (headSpec ws rm) cc maxL ret e s m args below meth c s₁ → c.maxLocals = maxL → Pc args s →
      W p l e (headSpec ws rm).room s m args below meth c s.heap [] 0 0 (vx_MQ below Qc XC args s mc ms free) (entryFrame m args maxL)) : vx_Met l y ws rm Pc Qc XC mc ms free := by
  refine MetFree.of_bodyS (code := cc) (maxLocals := maxL) (ret := ret) hy ?_ ?_
  · intro args s m h hn
    obtain ⟨m9, meth, c, hn9, h1, h2, h3, h4, -, h5, h6, -⟩ := Cond.codeWith_spec (atoms_spec (ws := ws) h _ (by rw [hw]; exact List.mem_cons_self))
    cases hn.symm.trans hn9
    exact ⟨meth, c, h1, h2, h3, h4, h5, h6⟩
  · intro p e s m args below meth c s₁ B hml hP _
    have hh0 : s₁.heap = s.heap := by rw [B.state]; rfl
    obtain ⟨t, a1, o, b1, b2, b3⟩ := body p e s m args below meth c s₁ B hml hP s₁ hh0 (Stand.of_body B)
    exact ⟨t, o, a1, b1, b2, b3⟩
/-! ===== END ===== -/
end
section
/-! ===== BEGIN printed: names, fields, word lists, decode rows ===== -/
def RX0 : String := "FormworkYard$Pour"
def TX0 : u_T := fun k => match k with
  | 0 => ("FormworkYard$Pour", "volume", "I", true)
  | 1 => ("FormworkYard$Pour", "panels", "I", true)
  | 2 => ("FormworkYard$Pour", "wanted", "I", true)
  | 3 => ("FormworkYard$Pour", "start", "I", false)
  | 4 => ("FormworkYard$Pour", "breaks", "I", false)
  | 5 => ("FormworkYard$Pour", "parts", "[I", true)
  | 6 => ("FormworkYard$Pour", "lengths", "[I", true)
  | 7 => ("FormworkYard$Pour", "end", "I", false)
  | 8 => ("FormworkYard$Pour", "strike", "I", false)
  | 9 => ("FormworkYard$Pour", "busyFrom", "I", false)
  | 10 => ("FormworkYard$Pour", "busyUntil", "I", false)
  | 11 => ("FormworkYard$Pour", "given", "J", false)
  | _ => ("FormworkYard$Pour", "served", "Z", false)
def tyX0 : Nat → FieldType := fun k => match k with
  | 0 => .int
  | 1 => .int
  | 2 => .int
  | 3 => .int
  | 4 => .int
  | 5 => .array .int
  | 6 => .array .int
  | 7 => .int
  | 8 => .int
  | 9 => .int
  | 10 => .int
  | 11 => .long
  | _ => .boolean
abbrev wsX00 : List Cond := u_ws RX0 TX0 13
theorem nmX0 : ∀ a, a < 13 → ∀ b, b < 13 → a ≠ b → (TX0 a).2.1 ≠ (TX0 b).2.1 := by decide +kernel
theorem tyX0_ok : ∀ k, k < 13 → parseFieldDescriptor (TX0 k).2.2.1 = some (tyX0 k) := by decide +kernel
abbrev cX0_init : ByteArray := prog_2_method_1_code
def yX0_init : MethodName := ⟨RX0, "<init>", "(IIII)V"⟩
abbrev cX0_addBreak : ByteArray := prog_2_method_2_code
def yX0_addBreak : MethodName := ⟨RX0, "addBreak", "(II)V"⟩
abbrev cX0_hoursOfBreaks : ByteArray := prog_2_method_3_code
def yX0_hoursOfBreaks : MethodName := ⟨RX0, "hoursOfBreaks", "()I"⟩
abbrev cX0_isBusy : ByteArray := prog_2_method_4_code
def yX0_isBusy : MethodName := ⟨RX0, "isBusy", "(I)Z"⟩
def RX1 : String := "FormworkYard"
def TX1 : u_T := fun k => match k with
  | 0 => ("FormworkYard", "temperatures", "[I", true)
  | 1 => ("FormworkYard", "gained", "[I", true)
  | 2 => ("FormworkYard", "needs", "[I", true)
  | 3 => ("FormworkYard", "nextFull", "[I", true)
  | 4 => ("FormworkYard", "pourList", "[LFormworkYard$Pour;", true)
  | 5 => ("FormworkYard", "yardPanels", "I", false)
  | 6 => ("FormworkYard", "rate", "I", false)
  | 7 => ("FormworkYard", "setUpHours", "I", false)
  | _ => ("FormworkYard", "cleaningHours", "I", false)
def tyX1 : Nat → FieldType := fun k => match k with
  | 0 => .array .int
  | 1 => .array .int
  | 2 => .array .int
  | 3 => .array .int
  | 4 => .array (.object "FormworkYard$Pour")
  | 5 => .int
  | 6 => .int
  | 7 => .int
  | _ => .int
abbrev wsX10 : List Cond := u_ws RX1 TX1 9
theorem nmX1 : ∀ a, a < 9 → ∀ b, b < 9 → a ≠ b → (TX1 a).2.1 ≠ (TX1 b).2.1 := by decide +kernel
theorem tyX1_ok : ∀ k, k < 9 → parseFieldDescriptor (TX1 k).2.2.1 = some (tyX1 k) := by decide +kernel
abbrev cX1_init : ByteArray := prog_1_method_1_code
def yX1_init : MethodName := ⟨RX1, "<init>", "()V"⟩
abbrev cX1_setTemperature : ByteArray := prog_1_method_2_code
def yX1_setTemperature : MethodName := ⟨RX1, "setTemperature", "(III)V"⟩
abbrev cX1_temperature : ByteArray := prog_1_method_3_code
def yX1_temperature : MethodName := ⟨RX1, "temperature", "(I)I"⟩
abbrev cX1_maturity : ByteArray := prog_1_method_4_code
def yX1_maturity : MethodName := ⟨RX1, "maturity", "(II)I"⟩
abbrev cX1_strength : ByteArray := prog_1_method_5_code
def yX1_strength : MethodName := ⟨RX1, "strength", "(I)I"⟩
abbrev cX1_setPanels : ByteArray := prog_1_method_6_code
def yX1_setPanels : MethodName := ⟨RX1, "setPanels", "(I)I"⟩
abbrev cX1_setRates : ByteArray := prog_1_method_7_code
def yX1_setRates : MethodName := ⟨RX1, "setRates", "(II)I"⟩
abbrev cX1_setCrew : ByteArray := prog_1_method_8_code
def yX1_setCrew : MethodName := ⟨RX1, "setCrew", "(II)V"⟩
abbrev cX1_plan : ByteArray := prog_1_method_9_code
def yX1_plan : MethodName := ⟨RX1, "plan", "(IIII)I"⟩
abbrev cX1_move : ByteArray := prog_1_method_10_code
def yX1_move : MethodName := ⟨RX1, "move", "(II)I"⟩
abbrev cX1_cancel : ByteArray := prog_1_method_11_code
def yX1_cancel : MethodName := ⟨RX1, "cancel", "(I)I"⟩
abbrev cX1_delay : ByteArray := prog_1_method_12_code
def yX1_delay : MethodName := ⟨RX1, "delay", "(III)I"⟩
abbrev cX1_pours : ByteArray := prog_1_method_13_code
def yX1_pours : MethodName := ⟨RX1, "pours", "()I"⟩
abbrev cX1_endOf : ByteArray := prog_1_method_14_code
def yX1_endOf : MethodName := ⟨RX1, "endOf", "(I)I"⟩
abbrev cX1_coldJoints : ByteArray := prog_1_method_15_code
def yX1_coldJoints : MethodName := ⟨RX1, "coldJoints", "(I)I"⟩
abbrev cX1_struck : ByteArray := prog_1_method_16_code
def yX1_struck : MethodName := ⟨RX1, "struck", "(I)I"⟩
abbrev cX1_freeFrom : ByteArray := prog_1_method_17_code
def yX1_freeFrom : MethodName := ⟨RX1, "freeFrom", "(I)I"⟩
abbrev cX1_need : ByteArray := prog_1_method_18_code
def yX1_need : MethodName := ⟨RX1, "need", "(I)I"⟩
abbrev cX1_peak : ByteArray := prog_1_method_19_code
def yX1_peak : MethodName := ⟨RX1, "peak", "()I"⟩
abbrev cX1_peakByOverlaps : ByteArray := prog_1_method_20_code
def yX1_peakByOverlaps : MethodName := ⟨RX1, "peakByOverlaps", "()I"⟩
abbrev cX1_firstShort : ByteArray := prog_1_method_21_code
def yX1_firstShort : MethodName := ⟨RX1, "firstShort", "()I"⟩
abbrev cX1_earliest : ByteArray := prog_1_method_22_code
def yX1_earliest : MethodName := ⟨RX1, "earliest", "(IIII)I"⟩
abbrev cX1_panelsOf : ByteArray := prog_1_method_23_code
def yX1_panelsOf : MethodName := ⟨RX1, "panelsOf", "(I)I"⟩
abbrev cX1_pourOf : ByteArray := prog_1_method_24_code
def yX1_pourOf : MethodName := ⟨RX1, "pourOf", "(II)I"⟩
abbrev cX1_isHour : ByteArray := prog_1_method_25_code
def yX1_isHour : MethodName := ⟨RX1, "isHour", "(I)Z"⟩
abbrev cX1_isNumber : ByteArray := prog_1_method_26_code
def yX1_isNumber : MethodName := ⟨RX1, "isNumber", "(I)Z"⟩
abbrev cX1_requireHour : ByteArray := prog_1_method_27_code
def yX1_requireHour : MethodName := ⟨RX1, "requireHour", "(I)V"⟩
abbrev cX1_require : ByteArray := prog_1_method_28_code
def yX1_require : MethodName := ⟨RX1, "require", "(Z)V"⟩
abbrev cX1_requireRange : ByteArray := prog_1_method_29_code
def yX1_requireRange : MethodName := ⟨RX1, "requireRange", "(III)V"⟩
abbrev cX1_requirePour : ByteArray := prog_1_method_30_code
def yX1_requirePour : MethodName := ⟨RX1, "requirePour", "(IIII)V"⟩
abbrev cX1_existing : ByteArray := prog_1_method_31_code
def yX1_existing : MethodName := ⟨RX1, "existing", "(I)LFormworkYard$Pour;"⟩
abbrev cX1_freeNumber : ByteArray := prog_1_method_32_code
def yX1_freeNumber : MethodName := ⟨RX1, "freeNumber", "()I"⟩
abbrev cX1_sumGains : ByteArray := prog_1_method_33_code
def yX1_sumGains : MethodName := ⟨RX1, "sumGains", "()V"⟩
abbrev cX1_gainBetween : ByteArray := prog_1_method_34_code
def yX1_gainBetween : MethodName := ⟨RX1, "gainBetween", "(II)I"⟩
abbrev cX1_strengthAt : ByteArray := prog_1_method_35_code
def yX1_strengthAt : MethodName := ⟨RX1, "strengthAt", "(I)I"⟩
abbrev cX1_fullHours : ByteArray := prog_1_method_36_code
def yX1_fullHours : MethodName := ⟨RX1, "fullHours", "(I)I"⟩
abbrev cX1_startedHours : ByteArray := prog_1_method_37_code
def yX1_startedHours : MethodName := ⟨RX1, "startedHours", "(I)I"⟩
abbrev cX1_standHour : ByteArray := prog_1_method_38_code
def yX1_standHour : MethodName := ⟨RX1, "standHour", "(I)I"⟩
abbrev cX1_strikeHour : ByteArray := prog_1_method_39_code
def yX1_strikeHour : MethodName := ⟨RX1, "strikeHour", "(II)I"⟩
abbrev cX1_releaseHour : ByteArray := prog_1_method_40_code
def yX1_releaseHour : MethodName := ⟨RX1, "releaseHour", "(I)I"⟩
abbrev cX1_schedule : ByteArray := prog_1_method_41_code
def yX1_schedule : MethodName := ⟨RX1, "schedule", "(LFormworkYard$Pour;)V"⟩
abbrev cX1_scheduleAll : ByteArray := prog_1_method_42_code
def yX1_scheduleAll : MethodName := ⟨RX1, "scheduleAll", "()V"⟩
abbrev cX1_needIn : ByteArray := prog_1_method_43_code
def yX1_needIn : MethodName := ⟨RX1, "needIn", "(I)I"⟩
abbrev cX1_sumNeeds : ByteArray := prog_1_method_44_code
def yX1_sumNeeds : MethodName := ⟨RX1, "sumNeeds", "()V"⟩
abbrev cX1_markFullHours : ByteArray := prog_1_method_45_code
def yX1_markFullHours : MethodName := ⟨RX1, "markFullHours", "(I)V"⟩
abbrev cX1_giveOutPanels : ByteArray := prog_1_method_46_code
def yX1_giveOutPanels : MethodName := ⟨RX1, "giveOutPanels", "()V"⟩
abbrev cX1_nextToServe : ByteArray := prog_1_method_47_code
def yX1_nextToServe : MethodName := ⟨RX1, "nextToServe", "()LFormworkYard$Pour;"⟩
abbrev cX1_panelsBusyIn : ByteArray := prog_1_method_48_code
def yX1_panelsBusyIn : MethodName := ⟨RX1, "panelsBusyIn", "(I)J"⟩
abbrev cX1_lowestPanels : ByteArray := prog_1_method_49_code
def yX1_lowestPanels : MethodName := ⟨RX1, "lowestPanels", "(JI)J"⟩
def RX2 : String := "FormworkYardModel"
def TX2 : u_T := fun k => match k with
  | 0 => ("FormworkYardModel", "thrown", "I", false)
  | 1 => ("FormworkYardModel", "temperatures", "[I", true)
  | 2 => ("FormworkYardModel", "panels", "I", false)
  | 3 => ("FormworkYardModel", "trucks", "I", false)
  | 4 => ("FormworkYardModel", "pump", "I", false)
  | 5 => ("FormworkYardModel", "setUp", "I", false)
  | 6 => ("FormworkYardModel", "cleaning", "I", false)
  | 7 => ("FormworkYardModel", "isThere", "[Z", true)
  | 8 => ("FormworkYardModel", "starts", "[I", true)
  | 9 => ("FormworkYardModel", "volumes", "[I", true)
  | 10 => ("FormworkYardModel", "needs", "[I", true)
  | 11 => ("FormworkYardModel", "wanted", "[I", true)
  | 12 => ("FormworkYardModel", "breakMany", "[I", true)
  | 13 => ("FormworkYardModel", "parts", "[I", true)
  | 14 => ("FormworkYardModel", "lasts", "[I", true)
  | 15 => ("FormworkYardModel", "stands", "[I", true)
  | 16 => ("FormworkYardModel", "strikes", "[I", true)
  | 17 => ("FormworkYardModel", "frees", "[I", true)
  | _ => ("FormworkYardModel", "has", "[Z", true)
def tyX2 : Nat → FieldType := fun k => match k with
  | 0 => .int
  | 1 => .array .int
  | 2 => .int
  | 3 => .int
  | 4 => .int
  | 5 => .int
  | 6 => .int
  | 7 => .array .boolean
  | 8 => .array .int
  | 9 => .array .int
  | 10 => .array .int
  | 11 => .array .int
  | 12 => .array .int
  | 13 => .array .int
  | 14 => .array .int
  | 15 => .array .int
  | 16 => .array .int
  | 17 => .array .int
  | _ => .array .boolean
abbrev wsX20 : List Cond := u_ws RX2 TX2 19
theorem nmX2 : ∀ a, a < 19 → ∀ b, b < 19 → a ≠ b → (TX2 a).2.1 ≠ (TX2 b).2.1 := by decide +kernel
theorem tyX2_ok : ∀ k, k < 19 → parseFieldDescriptor (TX2 k).2.2.1 = some (tyX2 k) := by decide +kernel
abbrev cX2_init : ByteArray := prog_4_method_1_code
def yX2_init : MethodName := ⟨RX2, "<init>", "()V"⟩
abbrev cX2_thrown : ByteArray := prog_4_method_2_code
def yX2_thrown : MethodName := ⟨RX2, "thrown", "()I"⟩
abbrev cX2_fails : ByteArray := prog_4_method_3_code
def yX2_fails : MethodName := ⟨RX2, "fails", "(I)I"⟩
abbrev cX2_in : ByteArray := prog_4_method_4_code
def yX2_in : MethodName := ⟨RX2, "in", "(III)Z"⟩
abbrev cX2_isHour : ByteArray := prog_4_method_5_code
def yX2_isHour : MethodName := ⟨RX2, "isHour", "(I)Z"⟩
abbrev cX2_isPour : ByteArray := prog_4_method_6_code
def yX2_isPour : MethodName := ⟨RX2, "isPour", "(I)Z"⟩
abbrev cX2_gain : ByteArray := prog_4_method_7_code
def yX2_gain : MethodName := ⟨RX2, "gain", "(I)I"⟩
abbrev cX2_sum : ByteArray := prog_4_method_8_code
def yX2_sum : MethodName := ⟨RX2, "sum", "(II)I"⟩
abbrev cX2_between : ByteArray := prog_4_method_9_code
def yX2_between : MethodName := ⟨RX2, "between", "(IIII)I"⟩
abbrev cX2_strong : ByteArray := prog_4_method_10_code
def yX2_strong : MethodName := ⟨RX2, "strong", "(I)I"⟩
abbrev cX2_rate : ByteArray := prog_4_method_11_code
def yX2_rate : MethodName := ⟨RX2, "rate", "()I"⟩
abbrev cX2_delays : ByteArray := prog_4_method_12_code
def yX2_delays : MethodName := ⟨RX2, "delays", "(I)I"⟩
abbrev cX2_end : ByteArray := prog_4_method_13_code
def yX2_end : MethodName := ⟨RX2, "end", "(I)I"⟩
abbrev cX2_works : ByteArray := prog_4_method_14_code
def yX2_works : MethodName := ⟨RX2, "works", "(I)V"⟩
abbrev cX2_isBusy : ByteArray := prog_4_method_15_code
def yX2_isBusy : MethodName := ⟨RX2, "isBusy", "(II)Z"⟩
abbrev cX2_worksAll : ByteArray := prog_4_method_16_code
def yX2_worksAll : MethodName := ⟨RX2, "worksAll", "()V"⟩
abbrev cX2_needOf : ByteArray := prog_4_method_17_code
def yX2_needOf : MethodName := ⟨RX2, "needOf", "(I)I"⟩
abbrev cX2_setTemperature : ByteArray := prog_4_method_18_code
def yX2_setTemperature : MethodName := ⟨RX2, "setTemperature", "(III)V"⟩
abbrev cX2_temperature : ByteArray := prog_4_method_19_code
def yX2_temperature : MethodName := ⟨RX2, "temperature", "(I)I"⟩
abbrev cX2_maturity : ByteArray := prog_4_method_20_code
def yX2_maturity : MethodName := ⟨RX2, "maturity", "(II)I"⟩
abbrev cX2_strength : ByteArray := prog_4_method_21_code
def yX2_strength : MethodName := ⟨RX2, "strength", "(I)I"⟩
abbrev cX2_setPanels : ByteArray := prog_4_method_22_code
def yX2_setPanels : MethodName := ⟨RX2, "setPanels", "(I)I"⟩
abbrev cX2_setRates : ByteArray := prog_4_method_23_code
def yX2_setRates : MethodName := ⟨RX2, "setRates", "(II)I"⟩
abbrev cX2_setCrew : ByteArray := prog_4_method_24_code
def yX2_setCrew : MethodName := ⟨RX2, "setCrew", "(II)V"⟩
abbrev cX2_isPlan : ByteArray := prog_4_method_25_code
def yX2_isPlan : MethodName := ⟨RX2, "isPlan", "(IIII)Z"⟩
abbrev cX2_freeNumber : ByteArray := prog_4_method_26_code
def yX2_freeNumber : MethodName := ⟨RX2, "freeNumber", "()I"⟩
abbrev cX2_lays : ByteArray := prog_4_method_27_code
def yX2_lays : MethodName := ⟨RX2, "lays", "(IIIII)V"⟩
abbrev cX2_plan : ByteArray := prog_4_method_28_code
def yX2_plan : MethodName := ⟨RX2, "plan", "(IIII)I"⟩
abbrev cX2_move : ByteArray := prog_4_method_29_code
def yX2_move : MethodName := ⟨RX2, "move", "(II)I"⟩
abbrev cX2_cancel : ByteArray := prog_4_method_30_code
def yX2_cancel : MethodName := ⟨RX2, "cancel", "(I)I"⟩
abbrev cX2_delay : ByteArray := prog_4_method_31_code
def yX2_delay : MethodName := ⟨RX2, "delay", "(III)I"⟩
abbrev cX2_pours : ByteArray := prog_4_method_32_code
def yX2_pours : MethodName := ⟨RX2, "pours", "()I"⟩
abbrev cX2_isAsked : ByteArray := prog_4_method_33_code
def yX2_isAsked : MethodName := ⟨RX2, "isAsked", "(I)Z"⟩
abbrev cX2_endOf : ByteArray := prog_4_method_34_code
def yX2_endOf : MethodName := ⟨RX2, "endOf", "(I)I"⟩
abbrev cX2_coldJoints : ByteArray := prog_4_method_35_code
def yX2_coldJoints : MethodName := ⟨RX2, "coldJoints", "(I)I"⟩
abbrev cX2_struck : ByteArray := prog_4_method_36_code
def yX2_struck : MethodName := ⟨RX2, "struck", "(I)I"⟩
abbrev cX2_freeFrom : ByteArray := prog_4_method_37_code
def yX2_freeFrom : MethodName := ⟨RX2, "freeFrom", "(I)I"⟩
abbrev cX2_need : ByteArray := prog_4_method_38_code
def yX2_need : MethodName := ⟨RX2, "need", "(I)I"⟩
abbrev cX2_most : ByteArray := prog_4_method_39_code
def yX2_most : MethodName := ⟨RX2, "most", "()I"⟩
abbrev cX2_peak : ByteArray := prog_4_method_40_code
def yX2_peak : MethodName := ⟨RX2, "peak", "()I"⟩
abbrev cX2_peakByOverlaps : ByteArray := prog_4_method_41_code
def yX2_peakByOverlaps : MethodName := ⟨RX2, "peakByOverlaps", "()I"⟩
abbrev cX2_firstShort : ByteArray := prog_4_method_42_code
def yX2_firstShort : MethodName := ⟨RX2, "firstShort", "()I"⟩
abbrev cX2_fits : ByteArray := prog_4_method_43_code
def yX2_fits : MethodName := ⟨RX2, "fits", "()Z"⟩
abbrev cX2_earliest : ByteArray := prog_4_method_44_code
def yX2_earliest : MethodName := ⟨RX2, "earliest", "(IIII)I"⟩
abbrev cX2_isTaken : ByteArray := prog_4_method_45_code
def yX2_isTaken : MethodName := ⟨RX2, "isTaken", "(II)Z"⟩
abbrev cX2_gives : ByteArray := prog_4_method_46_code
def yX2_gives : MethodName := ⟨RX2, "gives", "()V"⟩
abbrev cX2_panelsOf : ByteArray := prog_4_method_47_code
def yX2_panelsOf : MethodName := ⟨RX2, "panelsOf", "(I)I"⟩
abbrev cX2_pourOf : ByteArray := prog_4_method_48_code
def yX2_pourOf : MethodName := ⟨RX2, "pourOf", "(II)I"⟩
def RJx145de : String := "java/io/Serializable"
def TJx145de : u_T := fun k => match k with
  | _ => ("", "", "", false)
def tyJx145de : Nat → FieldType := fun k => match k with
  | _ => .int
abbrev wsJx145de0 : List Cond := u_ws RJx145de TJx145de 0
theorem nmJx145de : ∀ a, a < 0 → ∀ b, b < 0 → a ≠ b → (TJx145de a).2.1 ≠ (TJx145de b).2.1 := by decide +kernel
theorem tyJx145de_ok : ∀ k, k < 0 → parseFieldDescriptor (TJx145de k).2.2.1 = some (tyJx145de k) := by decide +kernel
def RJ13 : String := "java/lang/Long"
def TJ13 : u_T := fun k => match k with
  | _ => ("", "", "", false)
def tyJ13 : Nat → FieldType := fun k => match k with
  | _ => .int
abbrev wsJ130 : List Cond := u_ws RJ13 TJ13 0
theorem nmJ13 : ∀ a, a < 0 → ∀ b, b < 0 → a ≠ b → (TJ13 a).2.1 ≠ (TJ13 b).2.1 := by decide +kernel
theorem tyJ13_ok : ∀ k, k < 0 → parseFieldDescriptor (TJ13 k).2.2.1 = some (tyJ13 k) := by decide +kernel
abbrev cJ13_bitCount_95d88 : ByteArray := prog_10_method_50_code
def yJ13_bitCount_95d88 : MethodName := ⟨RJ13, "bitCount", "(J)I"⟩
def RJ9 : String := "java/lang/Math"
def TJ9 : u_T := fun k => match k with
  | _ => ("", "", "", false)
def tyJ9 : Nat → FieldType := fun k => match k with
  | _ => .int
abbrev wsJ90 : List Cond := u_ws RJ9 TJ9 0
theorem nmJ9 : ∀ a, a < 0 → ∀ b, b < 0 → a ≠ b → (TJ9 a).2.1 ≠ (TJ9 b).2.1 := by decide +kernel
theorem tyJ9_ok : ∀ k, k < 0 → parseFieldDescriptor (TJ9 k).2.2.1 = some (tyJ9 k) := by decide +kernel
abbrev cJ9_max_7cf53 : ByteArray := prog_11_method_65_code
def yJ9_max_7cf53 : MethodName := ⟨RJ9, "max", "(II)I"⟩
abbrev cJ9_min_7cf53 : ByteArray := prog_11_method_69_code
def yJ9_min_7cf53 : MethodName := ⟨RJ9, "min", "(II)I"⟩
def RJ7 : String := "java/util/Arrays"
def TJ7 : u_T := fun k => match k with
  | _ => ("", "", "", false)
def tyJ7 : Nat → FieldType := fun k => match k with
  | _ => .int
abbrev wsJ70 : List Cond := u_ws RJ7 TJ7 0
theorem nmJ7 : ∀ a, a < 0 → ∀ b, b < 0 → a ≠ b → (TJ7 a).2.1 ≠ (TJ7 b).2.1 := by decide +kernel
theorem tyJ7_ok : ∀ k, k < 0 → parseFieldDescriptor (TJ7 k).2.2.1 = some (tyJ7 k) := by decide +kernel
abbrev cJ7_fill_53178 : ByteArray := prog_14_method_103_code
def yJ7_fill_53178 : MethodName := ⟨RJ7, "fill", "([II)V"⟩
def RL : String := "FormworkYardLaw"
abbrev cL_setTemperature : ByteArray := method_3_code
def yL_setTemperature : MethodName := ⟨RL, "setTemperature", "(LFormworkYard;III)I"⟩
abbrev cL_temperature : ByteArray := method_4_code
def yL_temperature : MethodName := ⟨RL, "temperature", "(LFormworkYard;I[J)I"⟩
abbrev cL_maturity : ByteArray := method_5_code
def yL_maturity : MethodName := ⟨RL, "maturity", "(LFormworkYard;II[J)I"⟩
abbrev cL_strength : ByteArray := method_6_code
def yL_strength : MethodName := ⟨RL, "strength", "(LFormworkYard;I[J)I"⟩
abbrev cL_setPanels : ByteArray := method_7_code
def yL_setPanels : MethodName := ⟨RL, "setPanels", "(LFormworkYard;I[J)I"⟩
abbrev cL_setRates : ByteArray := method_8_code
def yL_setRates : MethodName := ⟨RL, "setRates", "(LFormworkYard;II[J)I"⟩
abbrev cL_setCrew : ByteArray := method_9_code
def yL_setCrew : MethodName := ⟨RL, "setCrew", "(LFormworkYard;II)I"⟩
abbrev cL_plan : ByteArray := method_10_code
def yL_plan : MethodName := ⟨RL, "plan", "(LFormworkYard;IIII[J)I"⟩
abbrev cL_move : ByteArray := method_11_code
def yL_move : MethodName := ⟨RL, "move", "(LFormworkYard;II[J)I"⟩
abbrev cL_cancel : ByteArray := method_12_code
def yL_cancel : MethodName := ⟨RL, "cancel", "(LFormworkYard;I[J)I"⟩
abbrev cL_delay : ByteArray := method_13_code
def yL_delay : MethodName := ⟨RL, "delay", "(LFormworkYard;III[J)I"⟩
abbrev cL_endOf : ByteArray := method_14_code
def yL_endOf : MethodName := ⟨RL, "endOf", "(LFormworkYard;I[J)I"⟩
abbrev cL_coldJoints : ByteArray := method_15_code
def yL_coldJoints : MethodName := ⟨RL, "coldJoints", "(LFormworkYard;I[J)I"⟩
abbrev cL_struck : ByteArray := method_16_code
def yL_struck : MethodName := ⟨RL, "struck", "(LFormworkYard;I[J)I"⟩
abbrev cL_freeFrom : ByteArray := method_17_code
def yL_freeFrom : MethodName := ⟨RL, "freeFrom", "(LFormworkYard;I[J)I"⟩
abbrev cL_need : ByteArray := method_18_code
def yL_need : MethodName := ⟨RL, "need", "(LFormworkYard;I[J)I"⟩
abbrev cL_earliest : ByteArray := method_19_code
def yL_earliest : MethodName := ⟨RL, "earliest", "(LFormworkYard;IIII[J)I"⟩
abbrev cL_panelsOf : ByteArray := method_20_code
def yL_panelsOf : MethodName := ⟨RL, "panelsOf", "(LFormworkYard;I[J)I"⟩
abbrev cL_pourOf : ByteArray := method_21_code
def yL_pourOf : MethodName := ⟨RL, "pourOf", "(LFormworkYard;II[J)I"⟩
abbrev cL_law : ByteArray := code
def yL_law : MethodName := ⟨RL, "law", "([I)Z"⟩
def wsX0_init : List Cond := .code yX0_init cX0_init 5 none :: ([.methodLink RX0 3 objectInit, .instanceMethod objectInit, .code objectInit ⟨#[0xb1]⟩ 1 none, .arrayClass .int, .fieldLink RX0 9 "FormworkYard$Pour" "parts" "[I", .fieldLink RX0 15 "FormworkYard$Pour" "lengths" "[I", .fieldLink RX0 18 "FormworkYard$Pour" "start" "I", .fieldLink RX0 22 "FormworkYard$Pour" "volume" "I", .fieldLink RX0 25 "FormworkYard$Pour" "panels" "I", .fieldLink RX0 28 "FormworkYard$Pour" "wanted" "I"] ++ wsX00)
def wsX0_addBreak : List Cond := .code yX0_addBreak cX0_addBreak 4 none :: ([.fieldLink RX0 31 "FormworkYard$Pour" "breaks" "I", .fieldLink RX0 9 "FormworkYard$Pour" "parts" "[I", .fieldLink RX0 15 "FormworkYard$Pour" "lengths" "[I"] ++ wsX00)
def wsX0_hoursOfBreaks : List Cond := .code yX0_hoursOfBreaks cX0_hoursOfBreaks 3 (some .int) :: ([.fieldLink RX0 31 "FormworkYard$Pour" "breaks" "I", .fieldLink RX0 15 "FormworkYard$Pour" "lengths" "[I"] ++ wsX00)
def wsX0_isBusy : List Cond := .code yX0_isBusy cX0_isBusy 2 (some .boolean) :: ([.fieldLink RX0 34 "FormworkYard$Pour" "busyFrom" "I", .fieldLink RX0 37 "FormworkYard$Pour" "busyUntil" "I"] ++ wsX00)
def wsJ7_fill_53178 : List Cond := .code yJ7_fill_53178 cJ7_fill_53178 4 none :: ([])
def wsX1_sumGains : List Cond := .code yX1_sumGains cX1_sumGains 2 none :: ([.fieldLink RX1 13 "FormworkYard" "gained" "[I", .fieldLink RX1 9 "FormworkYard" "temperatures" "[I", .methodLink RX1 144 Lib.Math.max.name, .static Lib.Math.max.name, .initialized "java/lang/Math", .code Lib.Math.max.name Lib.Math.max.code 2 (some .int)] ++ wsX10)
def wsX1_init_r1 : List Cond := [Cond.methodLink RX1 1 objectInit, Cond.instanceMethod objectInit, Cond.code objectInit ⟨#[0xb1]⟩ 1 none, Cond.arrayClass .int, Cond.fieldLink RX1 9 "FormworkYard" "temperatures" "[I", Cond.fieldLink RX1 13 "FormworkYard" "gained" "[I", Cond.fieldLink RX1 16 "FormworkYard" "needs" "[I", Cond.fieldLink RX1 19 "FormworkYard" "nextFull" "[I", Cond.classLink RX1 22 RX0, Cond.fieldLink RX1 24 "FormworkYard" "pourList" "[LFormworkYard$Pour;", Cond.fieldLink RX1 28 "FormworkYard" "yardPanels" "I", Cond.fieldLink RX1 32 "FormworkYard" "rate" "I", Cond.fieldLink RX1 35 "FormworkYard" "setUpHours" "I", Cond.fieldLink RX1 38 "FormworkYard" "cleaningHours" "I", Cond.methodLink RX1 41 yJ7_fill_53178, Cond.static yJ7_fill_53178, Cond.initialized RJ7, Cond.code yJ7_fill_53178 cJ7_fill_53178 4 none, Cond.methodLink RX1 47 yX1_sumGains, Cond.instanceMethod yX1_sumGains, Cond.selects RX1 yX1_sumGains yX1_sumGains, Cond.initialized RX1, Cond.code yX1_sumGains cX1_sumGains 2 none, Cond.methodLink RX1 144 Lib.Math.max.name]
def wsX1_init_r2 : List Cond := [Cond.static Lib.Math.max.name, Cond.initialized "java/lang/Math", Cond.code Lib.Math.max.name Lib.Math.max.code 2 (some .int)]
def wsX1_init : List Cond := .code yX1_init cX1_init 1 none :: ((wsX1_init_r1 ++ wsX1_init_r2) ++ wsX10)
def wsX1_isHour : List Cond := .code yX1_isHour cX1_isHour 1 (some .boolean) :: ([])
def wsX1_requireHour : List Cond := .code yX1_requireHour cX1_requireHour 1 none :: ([.classLink RX1 181 "java/lang/IndexOutOfBoundsException", .initialized "java/lang/IndexOutOfBoundsException", .methodLink RX1 165 yX1_isHour, .static yX1_isHour, .initialized RX1, .code yX1_isHour cX1_isHour 1 (some .boolean)] ++ (vx_at0 RX1 183 "java/lang/IndexOutOfBoundsException" ["java/lang/RuntimeException", "java/lang/Exception"]).filter goodWord)
def wsX1_require : List Cond := .code yX1_require cX1_require 1 none :: ([.classLink RX1 187 "java/lang/IllegalArgumentException", .initialized "java/lang/IllegalArgumentException"] ++ (vx_at0 RX1 189 "java/lang/IllegalArgumentException" ["java/lang/RuntimeException", "java/lang/Exception"]).filter goodWord)
def wsX1_requireRange : List Cond := .code yX1_requireRange cX1_requireRange 3 none :: ([.methodLink RX1 54 yX1_require, .static yX1_require, .initialized RX1, .code yX1_require cX1_require 1 none, .classLink RX1 187 "java/lang/IllegalArgumentException", .initialized "java/lang/IllegalArgumentException"] ++ (vx_at0 RX1 189 "java/lang/IllegalArgumentException" ["java/lang/RuntimeException", "java/lang/Exception"]).filter goodWord)
def wsX1_fullHours : List Cond := .code yX1_fullHours cX1_fullHours 2 (some .int) :: ([.fieldLink RX1 32 "FormworkYard" "rate" "I"] ++ wsX10)
def wsX1_startedHours : List Cond := .code yX1_startedHours cX1_startedHours 2 (some .int) :: ([.fieldLink RX1 32 "FormworkYard" "rate" "I", .methodLink RX1 126 yX1_fullHours, .instanceMethod yX1_fullHours, .selects RX1 yX1_fullHours yX1_fullHours, .initialized RX1, .code yX1_fullHours cX1_fullHours 2 (some .int)] ++ wsX10)
def wsX1_gainBetween : List Cond := .code yX1_gainBetween cX1_gainBetween 4 (some .int) :: ([.methodLink RX1 74 Lib.Math.min.name, .static Lib.Math.min.name, .initialized "java/lang/Math", .code Lib.Math.min.name Lib.Math.min.code 2 (some .int), .fieldLink RX1 13 "FormworkYard" "gained" "[I"] ++ wsX10)
def wsX1_strengthAt : List Cond := .code yX1_strengthAt cX1_strengthAt 4 (some .int) :: ([.fieldLink RX1 193 "FormworkYard" "STEPS" "[I"])
def wsX1_strikeHour : List Cond := .code yX1_strikeHour cX1_strikeHour 6 (some .int) :: ([.methodLink RX1 65 yX1_gainBetween, .instanceMethod yX1_gainBetween, .selects RX1 yX1_gainBetween yX1_gainBetween, .initialized RX1, .code yX1_gainBetween cX1_gainBetween 4 (some .int), .methodLink RX1 74 Lib.Math.min.name, .static Lib.Math.min.name, .initialized "java/lang/Math", .code Lib.Math.min.name Lib.Math.min.code 2 (some .int), .fieldLink RX1 13 "FormworkYard" "gained" "[I", .methodLink RX1 70 yX1_strengthAt, .static yX1_strengthAt, .code yX1_strengthAt cX1_strengthAt 4 (some .int), .fieldLink RX1 193 "FormworkYard" "STEPS" "[I"] ++ wsX10)
def wsX1_standHour : List Cond := .code yX1_standHour cX1_standHour 2 (some .int) :: ([.fieldLink RX1 35 "FormworkYard" "setUpHours" "I", .methodLink RX1 144 Lib.Math.max.name, .static Lib.Math.max.name, .initialized "java/lang/Math", .code Lib.Math.max.name Lib.Math.max.code 2 (some .int)] ++ wsX10)
def wsX1_releaseHour : List Cond := .code yX1_releaseHour cX1_releaseHour 2 (some .int) :: ([.fieldLink RX1 38 "FormworkYard" "cleaningHours" "I", .methodLink RX1 74 Lib.Math.min.name, .static Lib.Math.min.name, .initialized "java/lang/Math", .code Lib.Math.min.name Lib.Math.min.code 2 (some .int)] ++ wsX10)
def wsX1_schedule_r1 : List Cond := [Cond.methodLink RX1 153 yX1_startedHours, Cond.instanceMethod yX1_startedHours, Cond.selects RX1 yX1_startedHours yX1_startedHours, Cond.initialized RX1, Cond.code yX1_startedHours cX1_startedHours 2 (some .int), Cond.fieldLink RX1 32 "FormworkYard" "rate" "I", Cond.methodLink RX1 126 yX1_fullHours, Cond.instanceMethod yX1_fullHours, Cond.selects RX1 yX1_fullHours yX1_fullHours, Cond.code yX1_fullHours cX1_fullHours 2 (some .int), Cond.instanceMethod yX0_hoursOfBreaks, Cond.initialized RX0, Cond.selects RX0 yX0_hoursOfBreaks yX0_hoursOfBreaks, Cond.code yX0_hoursOfBreaks cX0_hoursOfBreaks 3 (some .int), Cond.fieldLink RX0 31 "FormworkYard$Pour" "breaks" "I", Cond.fieldLink RX0 15 "FormworkYard$Pour" "lengths" "[I", Cond.methodLink RX1 159 yX1_strikeHour, Cond.instanceMethod yX1_strikeHour, Cond.selects RX1 yX1_strikeHour yX1_strikeHour, Cond.code yX1_strikeHour cX1_strikeHour 6 (some .int), Cond.methodLink RX1 65 yX1_gainBetween, Cond.instanceMethod yX1_gainBetween, Cond.selects RX1 yX1_gainBetween yX1_gainBetween, Cond.code yX1_gainBetween cX1_gainBetween 4 (some .int)]
def wsX1_schedule_r2 : List Cond := [Cond.methodLink RX1 74 Lib.Math.min.name, Cond.static Lib.Math.min.name, Cond.initialized "java/lang/Math", Cond.code Lib.Math.min.name Lib.Math.min.code 2 (some .int), Cond.fieldLink RX1 13 "FormworkYard" "gained" "[I", Cond.methodLink RX1 70 yX1_strengthAt, Cond.static yX1_strengthAt, Cond.code yX1_strengthAt cX1_strengthAt 4 (some .int), Cond.fieldLink RX1 193 "FormworkYard" "STEPS" "[I", Cond.methodLink RX1 156 yX1_standHour, Cond.instanceMethod yX1_standHour, Cond.selects RX1 yX1_standHour yX1_standHour, Cond.code yX1_standHour cX1_standHour 2 (some .int), Cond.fieldLink RX1 35 "FormworkYard" "setUpHours" "I", Cond.methodLink RX1 144 Lib.Math.max.name, Cond.static Lib.Math.max.name, Cond.code Lib.Math.max.name Lib.Math.max.code 2 (some .int), Cond.methodLink RX1 162 yX1_releaseHour, Cond.instanceMethod yX1_releaseHour, Cond.selects RX1 yX1_releaseHour yX1_releaseHour, Cond.code yX1_releaseHour cX1_releaseHour 2 (some .int), Cond.fieldLink RX1 38 "FormworkYard" "cleaningHours" "I"]
def wsX1_schedule : List Cond := .code yX1_schedule cX1_schedule 2 none :: ((wsX1_schedule_r1 ++ wsX1_schedule_r2) ++ wsX00 ++ wsX10)
def wsX1_scheduleAll_r1 : List Cond := [Cond.fieldLink RX1 24 "FormworkYard" "pourList" "[LFormworkYard$Pour;", Cond.methodLink RX1 96 yX1_schedule, Cond.instanceMethod yX1_schedule, Cond.selects RX1 yX1_schedule yX1_schedule, Cond.initialized RX1, Cond.code yX1_schedule cX1_schedule 2 none, Cond.methodLink RX1 153 yX1_startedHours, Cond.instanceMethod yX1_startedHours, Cond.selects RX1 yX1_startedHours yX1_startedHours, Cond.code yX1_startedHours cX1_startedHours 2 (some .int), Cond.fieldLink RX1 32 "FormworkYard" "rate" "I", Cond.methodLink RX1 126 yX1_fullHours, Cond.instanceMethod yX1_fullHours, Cond.selects RX1 yX1_fullHours yX1_fullHours, Cond.code yX1_fullHours cX1_fullHours 2 (some .int), Cond.instanceMethod yX0_hoursOfBreaks, Cond.initialized RX0, Cond.selects RX0 yX0_hoursOfBreaks yX0_hoursOfBreaks, Cond.code yX0_hoursOfBreaks cX0_hoursOfBreaks 3 (some .int), Cond.fieldLink RX0 31 "FormworkYard$Pour" "breaks" "I", Cond.fieldLink RX0 15 "FormworkYard$Pour" "lengths" "[I", Cond.methodLink RX1 159 yX1_strikeHour, Cond.instanceMethod yX1_strikeHour, Cond.selects RX1 yX1_strikeHour yX1_strikeHour]
def wsX1_scheduleAll_r2 : List Cond := [Cond.code yX1_strikeHour cX1_strikeHour 6 (some .int), Cond.methodLink RX1 65 yX1_gainBetween, Cond.instanceMethod yX1_gainBetween, Cond.selects RX1 yX1_gainBetween yX1_gainBetween, Cond.code yX1_gainBetween cX1_gainBetween 4 (some .int), Cond.methodLink RX1 74 Lib.Math.min.name, Cond.static Lib.Math.min.name, Cond.initialized "java/lang/Math", Cond.code Lib.Math.min.name Lib.Math.min.code 2 (some .int), Cond.fieldLink RX1 13 "FormworkYard" "gained" "[I", Cond.methodLink RX1 70 yX1_strengthAt, Cond.static yX1_strengthAt, Cond.code yX1_strengthAt cX1_strengthAt 4 (some .int), Cond.fieldLink RX1 193 "FormworkYard" "STEPS" "[I", Cond.methodLink RX1 156 yX1_standHour, Cond.instanceMethod yX1_standHour, Cond.selects RX1 yX1_standHour yX1_standHour, Cond.code yX1_standHour cX1_standHour 2 (some .int), Cond.fieldLink RX1 35 "FormworkYard" "setUpHours" "I", Cond.methodLink RX1 144 Lib.Math.max.name, Cond.static Lib.Math.max.name, Cond.code Lib.Math.max.name Lib.Math.max.code 2 (some .int), Cond.methodLink RX1 162 yX1_releaseHour, Cond.instanceMethod yX1_releaseHour]
def wsX1_scheduleAll_r3 : List Cond := [Cond.selects RX1 yX1_releaseHour yX1_releaseHour, Cond.code yX1_releaseHour cX1_releaseHour 2 (some .int), Cond.fieldLink RX1 38 "FormworkYard" "cleaningHours" "I"]
def wsX1_scheduleAll : List Cond := .code yX1_scheduleAll cX1_scheduleAll 5 none :: ((wsX1_scheduleAll_r1 ++ (wsX1_scheduleAll_r2 ++ wsX1_scheduleAll_r3)) ++ wsX10 ++ wsX00)
def wsX1_setTemperature_r1 : List Cond := [Cond.fieldLink RX1 9 "FormworkYard" "temperatures" "[I", Cond.methodLink RX1 50 yX1_requireHour, Cond.static yX1_requireHour, Cond.initialized RX1, Cond.code yX1_requireHour cX1_requireHour 1 none, Cond.classLink RX1 181 "java/lang/IndexOutOfBoundsException", Cond.initialized "java/lang/IndexOutOfBoundsException", Cond.methodLink RX1 165 yX1_isHour, Cond.static yX1_isHour, Cond.code yX1_isHour cX1_isHour 1 (some .boolean), Cond.methodLink RX1 54 yX1_require, Cond.static yX1_require, Cond.code yX1_require cX1_require 1 none, Cond.classLink RX1 187 "java/lang/IllegalArgumentException", Cond.initialized "java/lang/IllegalArgumentException", Cond.methodLink RX1 58 yX1_requireRange, Cond.static yX1_requireRange, Cond.code yX1_requireRange cX1_requireRange 3 none, Cond.methodLink RX1 47 yX1_sumGains, Cond.instanceMethod yX1_sumGains, Cond.selects RX1 yX1_sumGains yX1_sumGains, Cond.code yX1_sumGains cX1_sumGains 2 none, Cond.fieldLink RX1 13 "FormworkYard" "gained" "[I", Cond.methodLink RX1 144 Lib.Math.max.name]
def wsX1_setTemperature_r2 : List Cond := [Cond.static Lib.Math.max.name, Cond.initialized "java/lang/Math", Cond.code Lib.Math.max.name Lib.Math.max.code 2 (some .int), Cond.methodLink RX1 62 yX1_scheduleAll, Cond.instanceMethod yX1_scheduleAll, Cond.selects RX1 yX1_scheduleAll yX1_scheduleAll, Cond.code yX1_scheduleAll cX1_scheduleAll 5 none, Cond.fieldLink RX1 24 "FormworkYard" "pourList" "[LFormworkYard$Pour;", Cond.methodLink RX1 96 yX1_schedule, Cond.instanceMethod yX1_schedule, Cond.selects RX1 yX1_schedule yX1_schedule, Cond.code yX1_schedule cX1_schedule 2 none, Cond.methodLink RX1 153 yX1_startedHours, Cond.instanceMethod yX1_startedHours, Cond.selects RX1 yX1_startedHours yX1_startedHours, Cond.code yX1_startedHours cX1_startedHours 2 (some .int), Cond.fieldLink RX1 32 "FormworkYard" "rate" "I", Cond.methodLink RX1 126 yX1_fullHours, Cond.instanceMethod yX1_fullHours, Cond.selects RX1 yX1_fullHours yX1_fullHours, Cond.code yX1_fullHours cX1_fullHours 2 (some .int), Cond.instanceMethod yX0_hoursOfBreaks, Cond.initialized RX0, Cond.selects RX0 yX0_hoursOfBreaks yX0_hoursOfBreaks]
def wsX1_setTemperature_r3 : List Cond := [Cond.code yX0_hoursOfBreaks cX0_hoursOfBreaks 3 (some .int), Cond.fieldLink RX0 31 "FormworkYard$Pour" "breaks" "I", Cond.fieldLink RX0 15 "FormworkYard$Pour" "lengths" "[I", Cond.methodLink RX1 159 yX1_strikeHour, Cond.instanceMethod yX1_strikeHour, Cond.selects RX1 yX1_strikeHour yX1_strikeHour, Cond.code yX1_strikeHour cX1_strikeHour 6 (some .int), Cond.methodLink RX1 65 yX1_gainBetween, Cond.instanceMethod yX1_gainBetween, Cond.selects RX1 yX1_gainBetween yX1_gainBetween, Cond.code yX1_gainBetween cX1_gainBetween 4 (some .int), Cond.methodLink RX1 74 Lib.Math.min.name, Cond.static Lib.Math.min.name, Cond.code Lib.Math.min.name Lib.Math.min.code 2 (some .int), Cond.methodLink RX1 70 yX1_strengthAt, Cond.static yX1_strengthAt, Cond.code yX1_strengthAt cX1_strengthAt 4 (some .int), Cond.fieldLink RX1 193 "FormworkYard" "STEPS" "[I", Cond.methodLink RX1 156 yX1_standHour, Cond.instanceMethod yX1_standHour, Cond.selects RX1 yX1_standHour yX1_standHour, Cond.code yX1_standHour cX1_standHour 2 (some .int), Cond.fieldLink RX1 35 "FormworkYard" "setUpHours" "I", Cond.methodLink RX1 162 yX1_releaseHour]
def wsX1_setTemperature_r4 : List Cond := [Cond.instanceMethod yX1_releaseHour, Cond.selects RX1 yX1_releaseHour yX1_releaseHour, Cond.code yX1_releaseHour cX1_releaseHour 2 (some .int), Cond.fieldLink RX1 38 "FormworkYard" "cleaningHours" "I"]
def wsX1_setTemperature : List Cond := .code yX1_setTemperature cX1_setTemperature 5 none :: ((wsX1_setTemperature_r1 ++ (wsX1_setTemperature_r2 ++ (wsX1_setTemperature_r3 ++ wsX1_setTemperature_r4))) ++ wsX10 ++ wsX00 ++ (vx_at0 RX1 183 "java/lang/IndexOutOfBoundsException" ["java/lang/RuntimeException", "java/lang/Exception"]).filter goodWord ++ (vx_at0 RX1 189 "java/lang/IllegalArgumentException" ["java/lang/RuntimeException", "java/lang/Exception"]).filter goodWord)
def wsX1_temperature : List Cond := .code yX1_temperature cX1_temperature 2 (some .int) :: ([.fieldLink RX1 9 "FormworkYard" "temperatures" "[I", .methodLink RX1 50 yX1_requireHour, .static yX1_requireHour, .initialized RX1, .code yX1_requireHour cX1_requireHour 1 none, .classLink RX1 181 "java/lang/IndexOutOfBoundsException", .initialized "java/lang/IndexOutOfBoundsException", .methodLink RX1 165 yX1_isHour, .static yX1_isHour, .code yX1_isHour cX1_isHour 1 (some .boolean)] ++ wsX10 ++ (vx_at0 RX1 183 "java/lang/IndexOutOfBoundsException" ["java/lang/RuntimeException", "java/lang/Exception"]).filter goodWord)
def wsX1_maturity : List Cond := .code yX1_maturity cX1_maturity 3 (some .int) :: ([.methodLink RX1 50 yX1_requireHour, .static yX1_requireHour, .initialized RX1, .code yX1_requireHour cX1_requireHour 1 none, .classLink RX1 181 "java/lang/IndexOutOfBoundsException", .initialized "java/lang/IndexOutOfBoundsException", .methodLink RX1 165 yX1_isHour, .static yX1_isHour, .code yX1_isHour cX1_isHour 1 (some .boolean), .methodLink RX1 65 yX1_gainBetween, .instanceMethod yX1_gainBetween, .selects RX1 yX1_gainBetween yX1_gainBetween, .code yX1_gainBetween cX1_gainBetween 4 (some .int), .methodLink RX1 74 Lib.Math.min.name, .static Lib.Math.min.name, .initialized "java/lang/Math", .code Lib.Math.min.name Lib.Math.min.code 2 (some .int), .fieldLink RX1 13 "FormworkYard" "gained" "[I"] ++ wsX10 ++ (vx_at0 RX1 183 "java/lang/IndexOutOfBoundsException" ["java/lang/RuntimeException", "java/lang/Exception"]).filter goodWord)
def wsX1_strength : List Cond := .code yX1_strength cX1_strength 2 (some .int) :: ([.constant RX1 69 (1000000), .methodLink RX1 58 yX1_requireRange, .static yX1_requireRange, .initialized RX1, .code yX1_requireRange cX1_requireRange 3 none, .methodLink RX1 54 yX1_require, .static yX1_require, .code yX1_require cX1_require 1 none, .classLink RX1 187 "java/lang/IllegalArgumentException", .initialized "java/lang/IllegalArgumentException", .methodLink RX1 70 yX1_strengthAt, .static yX1_strengthAt, .code yX1_strengthAt cX1_strengthAt 4 (some .int), .fieldLink RX1 193 "FormworkYard" "STEPS" "[I"] ++ (vx_at0 RX1 189 "java/lang/IllegalArgumentException" ["java/lang/RuntimeException", "java/lang/Exception"]).filter goodWord)
def wsX1_setPanels : List Cond := .code yX1_setPanels cX1_setPanels 3 (some .int) :: ([.fieldLink RX1 28 "FormworkYard" "yardPanels" "I", .methodLink RX1 58 yX1_requireRange, .static yX1_requireRange, .initialized RX1, .code yX1_requireRange cX1_requireRange 3 none, .methodLink RX1 54 yX1_require, .static yX1_require, .code yX1_require cX1_require 1 none, .classLink RX1 187 "java/lang/IllegalArgumentException", .initialized "java/lang/IllegalArgumentException"] ++ wsX10 ++ (vx_at0 RX1 189 "java/lang/IllegalArgumentException" ["java/lang/RuntimeException", "java/lang/Exception"]).filter goodWord)
def wsX1_setRates_r1 : List Cond := [Cond.methodLink RX1 74 Lib.Math.min.name, Cond.static Lib.Math.min.name, Cond.initialized "java/lang/Math", Cond.code Lib.Math.min.name Lib.Math.min.code 2 (some .int), Cond.fieldLink RX1 32 "FormworkYard" "rate" "I", Cond.methodLink RX1 58 yX1_requireRange, Cond.static yX1_requireRange, Cond.initialized RX1, Cond.code yX1_requireRange cX1_requireRange 3 none, Cond.methodLink RX1 54 yX1_require, Cond.static yX1_require, Cond.code yX1_require cX1_require 1 none, Cond.classLink RX1 187 "java/lang/IllegalArgumentException", Cond.initialized "java/lang/IllegalArgumentException", Cond.methodLink RX1 62 yX1_scheduleAll, Cond.instanceMethod yX1_scheduleAll, Cond.selects RX1 yX1_scheduleAll yX1_scheduleAll, Cond.code yX1_scheduleAll cX1_scheduleAll 5 none, Cond.fieldLink RX1 24 "FormworkYard" "pourList" "[LFormworkYard$Pour;", Cond.methodLink RX1 96 yX1_schedule, Cond.instanceMethod yX1_schedule, Cond.selects RX1 yX1_schedule yX1_schedule, Cond.code yX1_schedule cX1_schedule 2 none, Cond.methodLink RX1 153 yX1_startedHours]
def wsX1_setRates_r2 : List Cond := [Cond.instanceMethod yX1_startedHours, Cond.selects RX1 yX1_startedHours yX1_startedHours, Cond.code yX1_startedHours cX1_startedHours 2 (some .int), Cond.methodLink RX1 126 yX1_fullHours, Cond.instanceMethod yX1_fullHours, Cond.selects RX1 yX1_fullHours yX1_fullHours, Cond.code yX1_fullHours cX1_fullHours 2 (some .int), Cond.instanceMethod yX0_hoursOfBreaks, Cond.initialized RX0, Cond.selects RX0 yX0_hoursOfBreaks yX0_hoursOfBreaks, Cond.code yX0_hoursOfBreaks cX0_hoursOfBreaks 3 (some .int), Cond.fieldLink RX0 31 "FormworkYard$Pour" "breaks" "I", Cond.fieldLink RX0 15 "FormworkYard$Pour" "lengths" "[I", Cond.methodLink RX1 159 yX1_strikeHour, Cond.instanceMethod yX1_strikeHour, Cond.selects RX1 yX1_strikeHour yX1_strikeHour, Cond.code yX1_strikeHour cX1_strikeHour 6 (some .int), Cond.methodLink RX1 65 yX1_gainBetween, Cond.instanceMethod yX1_gainBetween, Cond.selects RX1 yX1_gainBetween yX1_gainBetween, Cond.code yX1_gainBetween cX1_gainBetween 4 (some .int), Cond.fieldLink RX1 13 "FormworkYard" "gained" "[I", Cond.methodLink RX1 70 yX1_strengthAt, Cond.static yX1_strengthAt]
def wsX1_setRates_r3 : List Cond := [Cond.code yX1_strengthAt cX1_strengthAt 4 (some .int), Cond.fieldLink RX1 193 "FormworkYard" "STEPS" "[I", Cond.methodLink RX1 156 yX1_standHour, Cond.instanceMethod yX1_standHour, Cond.selects RX1 yX1_standHour yX1_standHour, Cond.code yX1_standHour cX1_standHour 2 (some .int), Cond.fieldLink RX1 35 "FormworkYard" "setUpHours" "I", Cond.methodLink RX1 144 Lib.Math.max.name, Cond.static Lib.Math.max.name, Cond.code Lib.Math.max.name Lib.Math.max.code 2 (some .int), Cond.methodLink RX1 162 yX1_releaseHour, Cond.instanceMethod yX1_releaseHour, Cond.selects RX1 yX1_releaseHour yX1_releaseHour, Cond.code yX1_releaseHour cX1_releaseHour 2 (some .int), Cond.fieldLink RX1 38 "FormworkYard" "cleaningHours" "I"]
def wsX1_setRates : List Cond := .code yX1_setRates cX1_setRates 3 (some .int) :: ((wsX1_setRates_r1 ++ (wsX1_setRates_r2 ++ wsX1_setRates_r3)) ++ wsX10 ++ wsX00 ++ (vx_at0 RX1 189 "java/lang/IllegalArgumentException" ["java/lang/RuntimeException", "java/lang/Exception"]).filter goodWord)
def wsX1_setCrew_r1 : List Cond := [Cond.fieldLink RX1 35 "FormworkYard" "setUpHours" "I", Cond.fieldLink RX1 38 "FormworkYard" "cleaningHours" "I", Cond.methodLink RX1 58 yX1_requireRange, Cond.static yX1_requireRange, Cond.initialized RX1, Cond.code yX1_requireRange cX1_requireRange 3 none, Cond.methodLink RX1 54 yX1_require, Cond.static yX1_require, Cond.code yX1_require cX1_require 1 none, Cond.classLink RX1 187 "java/lang/IllegalArgumentException", Cond.initialized "java/lang/IllegalArgumentException", Cond.methodLink RX1 62 yX1_scheduleAll, Cond.instanceMethod yX1_scheduleAll, Cond.selects RX1 yX1_scheduleAll yX1_scheduleAll, Cond.code yX1_scheduleAll cX1_scheduleAll 5 none, Cond.fieldLink RX1 24 "FormworkYard" "pourList" "[LFormworkYard$Pour;", Cond.methodLink RX1 96 yX1_schedule, Cond.instanceMethod yX1_schedule, Cond.selects RX1 yX1_schedule yX1_schedule, Cond.code yX1_schedule cX1_schedule 2 none, Cond.methodLink RX1 153 yX1_startedHours, Cond.instanceMethod yX1_startedHours, Cond.selects RX1 yX1_startedHours yX1_startedHours, Cond.code yX1_startedHours cX1_startedHours 2 (some .int)]
def wsX1_setCrew_r2 : List Cond := [Cond.fieldLink RX1 32 "FormworkYard" "rate" "I", Cond.methodLink RX1 126 yX1_fullHours, Cond.instanceMethod yX1_fullHours, Cond.selects RX1 yX1_fullHours yX1_fullHours, Cond.code yX1_fullHours cX1_fullHours 2 (some .int), Cond.instanceMethod yX0_hoursOfBreaks, Cond.initialized RX0, Cond.selects RX0 yX0_hoursOfBreaks yX0_hoursOfBreaks, Cond.code yX0_hoursOfBreaks cX0_hoursOfBreaks 3 (some .int), Cond.fieldLink RX0 31 "FormworkYard$Pour" "breaks" "I", Cond.fieldLink RX0 15 "FormworkYard$Pour" "lengths" "[I", Cond.methodLink RX1 159 yX1_strikeHour, Cond.instanceMethod yX1_strikeHour, Cond.selects RX1 yX1_strikeHour yX1_strikeHour, Cond.code yX1_strikeHour cX1_strikeHour 6 (some .int), Cond.methodLink RX1 65 yX1_gainBetween, Cond.instanceMethod yX1_gainBetween, Cond.selects RX1 yX1_gainBetween yX1_gainBetween, Cond.code yX1_gainBetween cX1_gainBetween 4 (some .int), Cond.methodLink RX1 74 Lib.Math.min.name, Cond.static Lib.Math.min.name, Cond.initialized "java/lang/Math", Cond.code Lib.Math.min.name Lib.Math.min.code 2 (some .int), Cond.fieldLink RX1 13 "FormworkYard" "gained" "[I"]
def wsX1_setCrew_r3 : List Cond := [Cond.methodLink RX1 70 yX1_strengthAt, Cond.static yX1_strengthAt, Cond.code yX1_strengthAt cX1_strengthAt 4 (some .int), Cond.fieldLink RX1 193 "FormworkYard" "STEPS" "[I", Cond.methodLink RX1 156 yX1_standHour, Cond.instanceMethod yX1_standHour, Cond.selects RX1 yX1_standHour yX1_standHour, Cond.code yX1_standHour cX1_standHour 2 (some .int), Cond.methodLink RX1 144 Lib.Math.max.name, Cond.static Lib.Math.max.name, Cond.code Lib.Math.max.name Lib.Math.max.code 2 (some .int), Cond.methodLink RX1 162 yX1_releaseHour, Cond.instanceMethod yX1_releaseHour, Cond.selects RX1 yX1_releaseHour yX1_releaseHour, Cond.code yX1_releaseHour cX1_releaseHour 2 (some .int)]
def wsX1_setCrew : List Cond := .code yX1_setCrew cX1_setCrew 3 none :: ((wsX1_setCrew_r1 ++ (wsX1_setCrew_r2 ++ wsX1_setCrew_r3)) ++ wsX10 ++ wsX00 ++ (vx_at0 RX1 189 "java/lang/IllegalArgumentException" ["java/lang/RuntimeException", "java/lang/Exception"]).filter goodWord)
def wsX1_requirePour : List Cond := .code yX1_requirePour cX1_requirePour 4 none :: ([.methodLink RX1 58 yX1_requireRange, .static yX1_requireRange, .initialized RX1, .code yX1_requireRange cX1_requireRange 3 none, .methodLink RX1 54 yX1_require, .static yX1_require, .code yX1_require cX1_require 1 none, .classLink RX1 187 "java/lang/IllegalArgumentException", .initialized "java/lang/IllegalArgumentException"] ++ (vx_at0 RX1 189 "java/lang/IllegalArgumentException" ["java/lang/RuntimeException", "java/lang/Exception"]).filter goodWord)
def wsX1_freeNumber : List Cond := .code yX1_freeNumber cX1_freeNumber 2 (some .int) :: ([.fieldLink RX1 24 "FormworkYard" "pourList" "[LFormworkYard$Pour;"] ++ wsX10)
def wsX1_isNumber : List Cond := .code yX1_isNumber cX1_isNumber 1 (some .boolean) :: ([])
def wsX1_plan_r1 : List Cond := [Cond.classLink RX1 91 "java/lang/IllegalStateException", Cond.initialized "java/lang/IllegalStateException", Cond.classLink RX1 22 RX0, Cond.instantiable RX0 13, Cond.initialized RX0, Cond.fieldLink RX1 24 "FormworkYard" "pourList" "[LFormworkYard$Pour;", Cond.methodLink RX1 79 yX1_requirePour, Cond.static yX1_requirePour, Cond.initialized RX1, Cond.code yX1_requirePour cX1_requirePour 4 none, Cond.methodLink RX1 58 yX1_requireRange, Cond.static yX1_requireRange, Cond.code yX1_requireRange cX1_requireRange 3 none, Cond.methodLink RX1 54 yX1_require, Cond.static yX1_require, Cond.code yX1_require cX1_require 1 none, Cond.classLink RX1 187 "java/lang/IllegalArgumentException", Cond.initialized "java/lang/IllegalArgumentException", Cond.methodLink RX1 83 yX1_freeNumber, Cond.instanceMethod yX1_freeNumber, Cond.selects RX1 yX1_freeNumber yX1_freeNumber, Cond.code yX1_freeNumber cX1_freeNumber 2 (some .int), Cond.methodLink RX1 87 yX1_isNumber, Cond.static yX1_isNumber]
def wsX1_plan_r2 : List Cond := [Cond.code yX1_isNumber cX1_isNumber 1 (some .boolean), Cond.instanceMethod yX0_init, Cond.code yX0_init cX0_init 5 none, Cond.methodLink RX0 3 objectInit, Cond.instanceMethod objectInit, Cond.code objectInit ⟨#[0xb1]⟩ 1 none, Cond.arrayClass .int, Cond.fieldLink RX0 9 "FormworkYard$Pour" "parts" "[I", Cond.fieldLink RX0 15 "FormworkYard$Pour" "lengths" "[I", Cond.fieldLink RX0 18 "FormworkYard$Pour" "start" "I", Cond.fieldLink RX0 22 "FormworkYard$Pour" "volume" "I", Cond.fieldLink RX0 25 "FormworkYard$Pour" "panels" "I", Cond.fieldLink RX0 28 "FormworkYard$Pour" "wanted" "I", Cond.methodLink RX1 96 yX1_schedule, Cond.instanceMethod yX1_schedule, Cond.selects RX1 yX1_schedule yX1_schedule, Cond.code yX1_schedule cX1_schedule 2 none, Cond.methodLink RX1 153 yX1_startedHours, Cond.instanceMethod yX1_startedHours, Cond.selects RX1 yX1_startedHours yX1_startedHours, Cond.code yX1_startedHours cX1_startedHours 2 (some .int), Cond.fieldLink RX1 32 "FormworkYard" "rate" "I", Cond.methodLink RX1 126 yX1_fullHours, Cond.instanceMethod yX1_fullHours]
def wsX1_plan_r3 : List Cond := [Cond.selects RX1 yX1_fullHours yX1_fullHours, Cond.code yX1_fullHours cX1_fullHours 2 (some .int), Cond.instanceMethod yX0_hoursOfBreaks, Cond.selects RX0 yX0_hoursOfBreaks yX0_hoursOfBreaks, Cond.code yX0_hoursOfBreaks cX0_hoursOfBreaks 3 (some .int), Cond.fieldLink RX0 31 "FormworkYard$Pour" "breaks" "I", Cond.methodLink RX1 159 yX1_strikeHour, Cond.instanceMethod yX1_strikeHour, Cond.selects RX1 yX1_strikeHour yX1_strikeHour, Cond.code yX1_strikeHour cX1_strikeHour 6 (some .int), Cond.methodLink RX1 65 yX1_gainBetween, Cond.instanceMethod yX1_gainBetween, Cond.selects RX1 yX1_gainBetween yX1_gainBetween, Cond.code yX1_gainBetween cX1_gainBetween 4 (some .int), Cond.methodLink RX1 74 Lib.Math.min.name, Cond.static Lib.Math.min.name, Cond.initialized "java/lang/Math", Cond.code Lib.Math.min.name Lib.Math.min.code 2 (some .int), Cond.fieldLink RX1 13 "FormworkYard" "gained" "[I", Cond.methodLink RX1 70 yX1_strengthAt, Cond.static yX1_strengthAt, Cond.code yX1_strengthAt cX1_strengthAt 4 (some .int), Cond.fieldLink RX1 193 "FormworkYard" "STEPS" "[I", Cond.methodLink RX1 156 yX1_standHour]
def wsX1_plan_r4 : List Cond := [Cond.instanceMethod yX1_standHour, Cond.selects RX1 yX1_standHour yX1_standHour, Cond.code yX1_standHour cX1_standHour 2 (some .int), Cond.fieldLink RX1 35 "FormworkYard" "setUpHours" "I", Cond.methodLink RX1 144 Lib.Math.max.name, Cond.static Lib.Math.max.name, Cond.code Lib.Math.max.name Lib.Math.max.code 2 (some .int), Cond.methodLink RX1 162 yX1_releaseHour, Cond.instanceMethod yX1_releaseHour, Cond.selects RX1 yX1_releaseHour yX1_releaseHour, Cond.code yX1_releaseHour cX1_releaseHour 2 (some .int), Cond.fieldLink RX1 38 "FormworkYard" "cleaningHours" "I"]
def wsX1_plan : List Cond := .code yX1_plan cX1_plan 7 (some .int) :: ((wsX1_plan_r1 ++ (wsX1_plan_r2 ++ (wsX1_plan_r3 ++ wsX1_plan_r4))) ++ wsX00 ++ wsX10 ++ (vx_at0 RX1 93 "java/lang/IllegalStateException" ["java/lang/RuntimeException", "java/lang/Exception"]).filter goodWord ++ (vx_at0 RX1 189 "java/lang/IllegalArgumentException" ["java/lang/RuntimeException", "java/lang/Exception"]).filter goodWord)
def wsX1_existing : List Cond := .code yX1_existing cX1_existing 3 (some (.object "FormworkYard$Pour")) :: ([.classLink RX1 190 "java/util/NoSuchElementException", .initialized "java/util/NoSuchElementException", .fieldLink RX1 24 "FormworkYard" "pourList" "[LFormworkYard$Pour;", .methodLink RX1 87 yX1_isNumber, .static yX1_isNumber, .initialized RX1, .code yX1_isNumber cX1_isNumber 1 (some .boolean)] ++ wsX10 ++ (vx_at0 RX1 192 "java/util/NoSuchElementException" ["java/lang/RuntimeException", "java/lang/Exception"]).filter goodWord)
def wsX1_move_r1 : List Cond := [Cond.methodLink RX1 100 yX1_existing, Cond.instanceMethod yX1_existing, Cond.selects RX1 yX1_existing yX1_existing, Cond.initialized RX1, Cond.code yX1_existing cX1_existing 3 (some (.object "FormworkYard$Pour")), Cond.classLink RX1 190 "java/util/NoSuchElementException", Cond.initialized "java/util/NoSuchElementException", Cond.fieldLink RX1 24 "FormworkYard" "pourList" "[LFormworkYard$Pour;", Cond.methodLink RX1 87 yX1_isNumber, Cond.static yX1_isNumber, Cond.code yX1_isNumber cX1_isNumber 1 (some .boolean), Cond.methodLink RX1 58 yX1_requireRange, Cond.static yX1_requireRange, Cond.code yX1_requireRange cX1_requireRange 3 none, Cond.methodLink RX1 54 yX1_require, Cond.static yX1_require, Cond.code yX1_require cX1_require 1 none, Cond.classLink RX1 187 "java/lang/IllegalArgumentException", Cond.initialized "java/lang/IllegalArgumentException", Cond.methodLink RX1 96 yX1_schedule, Cond.instanceMethod yX1_schedule, Cond.selects RX1 yX1_schedule yX1_schedule, Cond.code yX1_schedule cX1_schedule 2 none, Cond.methodLink RX1 153 yX1_startedHours]
def wsX1_move_r2 : List Cond := [Cond.instanceMethod yX1_startedHours, Cond.selects RX1 yX1_startedHours yX1_startedHours, Cond.code yX1_startedHours cX1_startedHours 2 (some .int), Cond.fieldLink RX1 32 "FormworkYard" "rate" "I", Cond.methodLink RX1 126 yX1_fullHours, Cond.instanceMethod yX1_fullHours, Cond.selects RX1 yX1_fullHours yX1_fullHours, Cond.code yX1_fullHours cX1_fullHours 2 (some .int), Cond.instanceMethod yX0_hoursOfBreaks, Cond.initialized RX0, Cond.selects RX0 yX0_hoursOfBreaks yX0_hoursOfBreaks, Cond.code yX0_hoursOfBreaks cX0_hoursOfBreaks 3 (some .int), Cond.fieldLink RX0 31 "FormworkYard$Pour" "breaks" "I", Cond.fieldLink RX0 15 "FormworkYard$Pour" "lengths" "[I", Cond.methodLink RX1 159 yX1_strikeHour, Cond.instanceMethod yX1_strikeHour, Cond.selects RX1 yX1_strikeHour yX1_strikeHour, Cond.code yX1_strikeHour cX1_strikeHour 6 (some .int), Cond.methodLink RX1 65 yX1_gainBetween, Cond.instanceMethod yX1_gainBetween, Cond.selects RX1 yX1_gainBetween yX1_gainBetween, Cond.code yX1_gainBetween cX1_gainBetween 4 (some .int), Cond.methodLink RX1 74 Lib.Math.min.name, Cond.static Lib.Math.min.name]
def wsX1_move_r3 : List Cond := [Cond.initialized "java/lang/Math", Cond.code Lib.Math.min.name Lib.Math.min.code 2 (some .int), Cond.fieldLink RX1 13 "FormworkYard" "gained" "[I", Cond.methodLink RX1 70 yX1_strengthAt, Cond.static yX1_strengthAt, Cond.code yX1_strengthAt cX1_strengthAt 4 (some .int), Cond.fieldLink RX1 193 "FormworkYard" "STEPS" "[I", Cond.methodLink RX1 156 yX1_standHour, Cond.instanceMethod yX1_standHour, Cond.selects RX1 yX1_standHour yX1_standHour, Cond.code yX1_standHour cX1_standHour 2 (some .int), Cond.fieldLink RX1 35 "FormworkYard" "setUpHours" "I", Cond.methodLink RX1 144 Lib.Math.max.name, Cond.static Lib.Math.max.name, Cond.code Lib.Math.max.name Lib.Math.max.code 2 (some .int), Cond.methodLink RX1 162 yX1_releaseHour, Cond.instanceMethod yX1_releaseHour, Cond.selects RX1 yX1_releaseHour yX1_releaseHour, Cond.code yX1_releaseHour cX1_releaseHour 2 (some .int), Cond.fieldLink RX1 38 "FormworkYard" "cleaningHours" "I"]
def wsX1_move : List Cond := .code yX1_move cX1_move 5 (some .int) :: ((wsX1_move_r1 ++ (wsX1_move_r2 ++ wsX1_move_r3)) ++ wsX00 ++ wsX10 ++ (vx_at0 RX1 192 "java/util/NoSuchElementException" ["java/lang/RuntimeException", "java/lang/Exception"]).filter goodWord ++ (vx_at0 RX1 189 "java/lang/IllegalArgumentException" ["java/lang/RuntimeException", "java/lang/Exception"]).filter goodWord)
def wsX1_cancel : List Cond := .code yX1_cancel cX1_cancel 3 (some .int) :: ([.fieldLink RX1 24 "FormworkYard" "pourList" "[LFormworkYard$Pour;", .methodLink RX1 100 yX1_existing, .instanceMethod yX1_existing, .selects RX1 yX1_existing yX1_existing, .initialized RX1, .code yX1_existing cX1_existing 3 (some (.object "FormworkYard$Pour")), .classLink RX1 190 "java/util/NoSuchElementException", .initialized "java/util/NoSuchElementException", .methodLink RX1 87 yX1_isNumber, .static yX1_isNumber, .code yX1_isNumber cX1_isNumber 1 (some .boolean)] ++ wsX10 ++ wsX00 ++ (vx_at0 RX1 192 "java/util/NoSuchElementException" ["java/lang/RuntimeException", "java/lang/Exception"]).filter goodWord)
def wsX1_delay_r1 : List Cond := [Cond.classLink RX1 91 "java/lang/IllegalStateException", Cond.initialized "java/lang/IllegalStateException", Cond.methodLink RX1 100 yX1_existing, Cond.instanceMethod yX1_existing, Cond.selects RX1 yX1_existing yX1_existing, Cond.initialized RX1, Cond.code yX1_existing cX1_existing 3 (some (.object "FormworkYard$Pour")), Cond.classLink RX1 190 "java/util/NoSuchElementException", Cond.initialized "java/util/NoSuchElementException", Cond.fieldLink RX1 24 "FormworkYard" "pourList" "[LFormworkYard$Pour;", Cond.methodLink RX1 87 yX1_isNumber, Cond.static yX1_isNumber, Cond.code yX1_isNumber cX1_isNumber 1 (some .boolean), Cond.methodLink RX1 58 yX1_requireRange, Cond.static yX1_requireRange, Cond.code yX1_requireRange cX1_requireRange 3 none, Cond.methodLink RX1 54 yX1_require, Cond.static yX1_require, Cond.code yX1_require cX1_require 1 none, Cond.classLink RX1 187 "java/lang/IllegalArgumentException", Cond.initialized "java/lang/IllegalArgumentException", Cond.instanceMethod yX0_addBreak, Cond.initialized RX0, Cond.selects RX0 yX0_addBreak yX0_addBreak]
def wsX1_delay_r2 : List Cond := [Cond.code yX0_addBreak cX0_addBreak 4 none, Cond.fieldLink RX0 31 "FormworkYard$Pour" "breaks" "I", Cond.fieldLink RX0 9 "FormworkYard$Pour" "parts" "[I", Cond.fieldLink RX0 15 "FormworkYard$Pour" "lengths" "[I", Cond.methodLink RX1 96 yX1_schedule, Cond.instanceMethod yX1_schedule, Cond.selects RX1 yX1_schedule yX1_schedule, Cond.code yX1_schedule cX1_schedule 2 none, Cond.methodLink RX1 153 yX1_startedHours, Cond.instanceMethod yX1_startedHours, Cond.selects RX1 yX1_startedHours yX1_startedHours, Cond.code yX1_startedHours cX1_startedHours 2 (some .int), Cond.fieldLink RX1 32 "FormworkYard" "rate" "I", Cond.methodLink RX1 126 yX1_fullHours, Cond.instanceMethod yX1_fullHours, Cond.selects RX1 yX1_fullHours yX1_fullHours, Cond.code yX1_fullHours cX1_fullHours 2 (some .int), Cond.instanceMethod yX0_hoursOfBreaks, Cond.selects RX0 yX0_hoursOfBreaks yX0_hoursOfBreaks, Cond.code yX0_hoursOfBreaks cX0_hoursOfBreaks 3 (some .int), Cond.methodLink RX1 159 yX1_strikeHour, Cond.instanceMethod yX1_strikeHour, Cond.selects RX1 yX1_strikeHour yX1_strikeHour, Cond.code yX1_strikeHour cX1_strikeHour 6 (some .int)]
def wsX1_delay_r3 : List Cond := [Cond.methodLink RX1 65 yX1_gainBetween, Cond.instanceMethod yX1_gainBetween, Cond.selects RX1 yX1_gainBetween yX1_gainBetween, Cond.code yX1_gainBetween cX1_gainBetween 4 (some .int), Cond.methodLink RX1 74 Lib.Math.min.name, Cond.static Lib.Math.min.name, Cond.initialized "java/lang/Math", Cond.code Lib.Math.min.name Lib.Math.min.code 2 (some .int), Cond.fieldLink RX1 13 "FormworkYard" "gained" "[I", Cond.methodLink RX1 70 yX1_strengthAt, Cond.static yX1_strengthAt, Cond.code yX1_strengthAt cX1_strengthAt 4 (some .int), Cond.fieldLink RX1 193 "FormworkYard" "STEPS" "[I", Cond.methodLink RX1 156 yX1_standHour, Cond.instanceMethod yX1_standHour, Cond.selects RX1 yX1_standHour yX1_standHour, Cond.code yX1_standHour cX1_standHour 2 (some .int), Cond.fieldLink RX1 35 "FormworkYard" "setUpHours" "I", Cond.methodLink RX1 144 Lib.Math.max.name, Cond.static Lib.Math.max.name, Cond.code Lib.Math.max.name Lib.Math.max.code 2 (some .int), Cond.methodLink RX1 162 yX1_releaseHour, Cond.instanceMethod yX1_releaseHour, Cond.selects RX1 yX1_releaseHour yX1_releaseHour]
def wsX1_delay_r4 : List Cond := [Cond.code yX1_releaseHour cX1_releaseHour 2 (some .int), Cond.fieldLink RX1 38 "FormworkYard" "cleaningHours" "I"]
def wsX1_delay : List Cond := .code yX1_delay cX1_delay 5 (some .int) :: ((wsX1_delay_r1 ++ (wsX1_delay_r2 ++ (wsX1_delay_r3 ++ wsX1_delay_r4))) ++ wsX00 ++ wsX10 ++ (vx_at0 RX1 93 "java/lang/IllegalStateException" ["java/lang/RuntimeException", "java/lang/Exception"]).filter goodWord ++ (vx_at0 RX1 192 "java/util/NoSuchElementException" ["java/lang/RuntimeException", "java/lang/Exception"]).filter goodWord ++ (vx_at0 RX1 189 "java/lang/IllegalArgumentException" ["java/lang/RuntimeException", "java/lang/Exception"]).filter goodWord)
def wsX1_pours : List Cond := .code yX1_pours cX1_pours 6 (some .int) :: ([.fieldLink RX1 24 "FormworkYard" "pourList" "[LFormworkYard$Pour;"] ++ wsX10)
def wsX1_endOf : List Cond := .code yX1_endOf cX1_endOf 3 (some .int) :: ([.methodLink RX1 100 yX1_existing, .instanceMethod yX1_existing, .selects RX1 yX1_existing yX1_existing, .initialized RX1, .code yX1_existing cX1_existing 3 (some (.object "FormworkYard$Pour")), .classLink RX1 190 "java/util/NoSuchElementException", .initialized "java/util/NoSuchElementException", .fieldLink RX1 24 "FormworkYard" "pourList" "[LFormworkYard$Pour;", .methodLink RX1 87 yX1_isNumber, .static yX1_isNumber, .code yX1_isNumber cX1_isNumber 1 (some .boolean)] ++ wsX00 ++ wsX10 ++ (vx_at0 RX1 192 "java/util/NoSuchElementException" ["java/lang/RuntimeException", "java/lang/Exception"]).filter goodWord)
def wsX1_coldJoints_r1 : List Cond := [Cond.methodLink RX1 100 yX1_existing, Cond.instanceMethod yX1_existing, Cond.selects RX1 yX1_existing yX1_existing, Cond.initialized RX1, Cond.code yX1_existing cX1_existing 3 (some (.object "FormworkYard$Pour")), Cond.classLink RX1 190 "java/util/NoSuchElementException", Cond.initialized "java/util/NoSuchElementException", Cond.fieldLink RX1 24 "FormworkYard" "pourList" "[LFormworkYard$Pour;", Cond.methodLink RX1 87 yX1_isNumber, Cond.static yX1_isNumber, Cond.code yX1_isNumber cX1_isNumber 1 (some .boolean), Cond.methodLink RX1 126 yX1_fullHours, Cond.instanceMethod yX1_fullHours, Cond.selects RX1 yX1_fullHours yX1_fullHours, Cond.code yX1_fullHours cX1_fullHours 2 (some .int), Cond.fieldLink RX1 32 "FormworkYard" "rate" "I", Cond.methodLink RX1 65 yX1_gainBetween, Cond.instanceMethod yX1_gainBetween, Cond.selects RX1 yX1_gainBetween yX1_gainBetween, Cond.code yX1_gainBetween cX1_gainBetween 4 (some .int), Cond.methodLink RX1 74 Lib.Math.min.name, Cond.static Lib.Math.min.name, Cond.initialized "java/lang/Math", Cond.code Lib.Math.min.name Lib.Math.min.code 2 (some .int)]
def wsX1_coldJoints_r2 : List Cond := [Cond.fieldLink RX1 13 "FormworkYard" "gained" "[I"]
def wsX1_coldJoints : List Cond := .code yX1_coldJoints cX1_coldJoints 8 (some .int) :: ((wsX1_coldJoints_r1 ++ wsX1_coldJoints_r2) ++ wsX00 ++ wsX10 ++ (vx_at0 RX1 192 "java/util/NoSuchElementException" ["java/lang/RuntimeException", "java/lang/Exception"]).filter goodWord)
def wsX1_struck : List Cond := .code yX1_struck cX1_struck 3 (some .int) :: ([.methodLink RX1 100 yX1_existing, .instanceMethod yX1_existing, .selects RX1 yX1_existing yX1_existing, .initialized RX1, .code yX1_existing cX1_existing 3 (some (.object "FormworkYard$Pour")), .classLink RX1 190 "java/util/NoSuchElementException", .initialized "java/util/NoSuchElementException", .fieldLink RX1 24 "FormworkYard" "pourList" "[LFormworkYard$Pour;", .methodLink RX1 87 yX1_isNumber, .static yX1_isNumber, .code yX1_isNumber cX1_isNumber 1 (some .boolean)] ++ wsX00 ++ wsX10 ++ (vx_at0 RX1 192 "java/util/NoSuchElementException" ["java/lang/RuntimeException", "java/lang/Exception"]).filter goodWord)
def wsX1_freeFrom : List Cond := .code yX1_freeFrom cX1_freeFrom 3 (some .int) :: ([.methodLink RX1 100 yX1_existing, .instanceMethod yX1_existing, .selects RX1 yX1_existing yX1_existing, .initialized RX1, .code yX1_existing cX1_existing 3 (some (.object "FormworkYard$Pour")), .classLink RX1 190 "java/util/NoSuchElementException", .initialized "java/util/NoSuchElementException", .fieldLink RX1 24 "FormworkYard" "pourList" "[LFormworkYard$Pour;", .methodLink RX1 87 yX1_isNumber, .static yX1_isNumber, .code yX1_isNumber cX1_isNumber 1 (some .boolean)] ++ wsX00 ++ wsX10 ++ (vx_at0 RX1 192 "java/util/NoSuchElementException" ["java/lang/RuntimeException", "java/lang/Exception"]).filter goodWord)
def wsX1_needIn : List Cond := .code yX1_needIn cX1_needIn 7 (some .int) :: ([.fieldLink RX1 24 "FormworkYard" "pourList" "[LFormworkYard$Pour;", .instanceMethod yX0_isBusy, .initialized RX0, .selects RX0 yX0_isBusy yX0_isBusy, .code yX0_isBusy cX0_isBusy 2 (some .boolean), .fieldLink RX0 34 "FormworkYard$Pour" "busyFrom" "I", .fieldLink RX0 37 "FormworkYard$Pour" "busyUntil" "I"] ++ wsX10 ++ wsX00)
def wsX1_need : List Cond := .code yX1_need cX1_need 2 (some .int) :: ([.methodLink RX1 50 yX1_requireHour, .static yX1_requireHour, .initialized RX1, .code yX1_requireHour cX1_requireHour 1 none, .classLink RX1 181 "java/lang/IndexOutOfBoundsException", .initialized "java/lang/IndexOutOfBoundsException", .methodLink RX1 165 yX1_isHour, .static yX1_isHour, .code yX1_isHour cX1_isHour 1 (some .boolean), .methodLink RX1 138 yX1_needIn, .instanceMethod yX1_needIn, .selects RX1 yX1_needIn yX1_needIn, .code yX1_needIn cX1_needIn 7 (some .int), .fieldLink RX1 24 "FormworkYard" "pourList" "[LFormworkYard$Pour;", .instanceMethod yX0_isBusy, .initialized RX0, .selects RX0 yX0_isBusy yX0_isBusy, .code yX0_isBusy cX0_isBusy 2 (some .boolean), .fieldLink RX0 34 "FormworkYard$Pour" "busyFrom" "I", .fieldLink RX0 37 "FormworkYard$Pour" "busyUntil" "I"] ++ wsX10 ++ wsX00 ++ (vx_at0 RX1 183 "java/lang/IndexOutOfBoundsException" ["java/lang/RuntimeException", "java/lang/Exception"]).filter goodWord)
def wsX1_sumNeeds : List Cond := .code yX1_sumNeeds cX1_sumNeeds 2 none :: ([.fieldLink RX1 16 "FormworkYard" "needs" "[I", .methodLink RX1 138 yX1_needIn, .instanceMethod yX1_needIn, .selects RX1 yX1_needIn yX1_needIn, .initialized RX1, .code yX1_needIn cX1_needIn 7 (some .int), .fieldLink RX1 24 "FormworkYard" "pourList" "[LFormworkYard$Pour;", .instanceMethod yX0_isBusy, .initialized RX0, .selects RX0 yX0_isBusy yX0_isBusy, .code yX0_isBusy cX0_isBusy 2 (some .boolean), .fieldLink RX0 34 "FormworkYard$Pour" "busyFrom" "I", .fieldLink RX0 37 "FormworkYard$Pour" "busyUntil" "I"] ++ wsX10 ++ wsX00)
def wsX1_peak : List Cond := .code yX1_peak cX1_peak 6 (some .int) :: ([.fieldLink RX1 16 "FormworkYard" "needs" "[I", .methodLink RX1 144 Lib.Math.max.name, .static Lib.Math.max.name, .initialized "java/lang/Math", .code Lib.Math.max.name Lib.Math.max.code 2 (some .int), .methodLink RX1 141 yX1_sumNeeds, .instanceMethod yX1_sumNeeds, .selects RX1 yX1_sumNeeds yX1_sumNeeds, .initialized RX1, .code yX1_sumNeeds cX1_sumNeeds 2 none, .methodLink RX1 138 yX1_needIn, .instanceMethod yX1_needIn, .selects RX1 yX1_needIn yX1_needIn, .code yX1_needIn cX1_needIn 7 (some .int), .fieldLink RX1 24 "FormworkYard" "pourList" "[LFormworkYard$Pour;", .instanceMethod yX0_isBusy, .initialized RX0, .selects RX0 yX0_isBusy yX0_isBusy, .code yX0_isBusy cX0_isBusy 2 (some .boolean), .fieldLink RX0 34 "FormworkYard$Pour" "busyFrom" "I", .fieldLink RX0 37 "FormworkYard$Pour" "busyUntil" "I"] ++ wsX10 ++ wsX00)
def wsX1_peakByOverlaps : List Cond := .code yX1_peakByOverlaps cX1_peakByOverlaps 6 (some .int) :: ([.fieldLink RX1 24 "FormworkYard" "pourList" "[LFormworkYard$Pour;", .methodLink RX1 144 Lib.Math.max.name, .static Lib.Math.max.name, .initialized "java/lang/Math", .code Lib.Math.max.name Lib.Math.max.code 2 (some .int), .methodLink RX1 138 yX1_needIn, .instanceMethod yX1_needIn, .selects RX1 yX1_needIn yX1_needIn, .initialized RX1, .code yX1_needIn cX1_needIn 7 (some .int), .instanceMethod yX0_isBusy, .initialized RX0, .selects RX0 yX0_isBusy yX0_isBusy, .code yX0_isBusy cX0_isBusy 2 (some .boolean), .fieldLink RX0 34 "FormworkYard$Pour" "busyFrom" "I", .fieldLink RX0 37 "FormworkYard$Pour" "busyUntil" "I"] ++ wsX10 ++ wsX00)
def wsX1_firstShort : List Cond := .code yX1_firstShort cX1_firstShort 2 (some .int) :: ([.fieldLink RX1 16 "FormworkYard" "needs" "[I", .fieldLink RX1 28 "FormworkYard" "yardPanels" "I", .methodLink RX1 141 yX1_sumNeeds, .instanceMethod yX1_sumNeeds, .selects RX1 yX1_sumNeeds yX1_sumNeeds, .initialized RX1, .code yX1_sumNeeds cX1_sumNeeds 2 none, .methodLink RX1 138 yX1_needIn, .instanceMethod yX1_needIn, .selects RX1 yX1_needIn yX1_needIn, .code yX1_needIn cX1_needIn 7 (some .int), .fieldLink RX1 24 "FormworkYard" "pourList" "[LFormworkYard$Pour;", .instanceMethod yX0_isBusy, .initialized RX0, .selects RX0 yX0_isBusy yX0_isBusy, .code yX0_isBusy cX0_isBusy 2 (some .boolean), .fieldLink RX0 34 "FormworkYard$Pour" "busyFrom" "I", .fieldLink RX0 37 "FormworkYard$Pour" "busyUntil" "I"] ++ wsX10 ++ wsX00)
def wsX1_markFullHours : List Cond := .code yX1_markFullHours cX1_markFullHours 4 none :: ([.fieldLink RX1 19 "FormworkYard" "nextFull" "[I", .fieldLink RX1 16 "FormworkYard" "needs" "[I", .fieldLink RX1 28 "FormworkYard" "yardPanels" "I"] ++ wsX10)
def wsX1_earliest_r1 : List Cond := [Cond.fieldLink RX1 19 "FormworkYard" "nextFull" "[I", Cond.methodLink RX1 79 yX1_requirePour, Cond.static yX1_requirePour, Cond.initialized RX1, Cond.code yX1_requirePour cX1_requirePour 4 none, Cond.methodLink RX1 58 yX1_requireRange, Cond.static yX1_requireRange, Cond.code yX1_requireRange cX1_requireRange 3 none, Cond.methodLink RX1 54 yX1_require, Cond.static yX1_require, Cond.code yX1_require cX1_require 1 none, Cond.classLink RX1 187 "java/lang/IllegalArgumentException", Cond.initialized "java/lang/IllegalArgumentException", Cond.methodLink RX1 141 yX1_sumNeeds, Cond.instanceMethod yX1_sumNeeds, Cond.selects RX1 yX1_sumNeeds yX1_sumNeeds, Cond.code yX1_sumNeeds cX1_sumNeeds 2 none, Cond.fieldLink RX1 16 "FormworkYard" "needs" "[I", Cond.methodLink RX1 138 yX1_needIn, Cond.instanceMethod yX1_needIn, Cond.selects RX1 yX1_needIn yX1_needIn, Cond.code yX1_needIn cX1_needIn 7 (some .int), Cond.fieldLink RX1 24 "FormworkYard" "pourList" "[LFormworkYard$Pour;", Cond.instanceMethod yX0_isBusy]
def wsX1_earliest_r2 : List Cond := [Cond.initialized RX0, Cond.selects RX0 yX0_isBusy yX0_isBusy, Cond.code yX0_isBusy cX0_isBusy 2 (some .boolean), Cond.fieldLink RX0 34 "FormworkYard$Pour" "busyFrom" "I", Cond.fieldLink RX0 37 "FormworkYard$Pour" "busyUntil" "I", Cond.methodLink RX1 150 yX1_markFullHours, Cond.instanceMethod yX1_markFullHours, Cond.selects RX1 yX1_markFullHours yX1_markFullHours, Cond.code yX1_markFullHours cX1_markFullHours 4 none, Cond.fieldLink RX1 28 "FormworkYard" "yardPanels" "I", Cond.methodLink RX1 153 yX1_startedHours, Cond.instanceMethod yX1_startedHours, Cond.selects RX1 yX1_startedHours yX1_startedHours, Cond.code yX1_startedHours cX1_startedHours 2 (some .int), Cond.fieldLink RX1 32 "FormworkYard" "rate" "I", Cond.methodLink RX1 126 yX1_fullHours, Cond.instanceMethod yX1_fullHours, Cond.selects RX1 yX1_fullHours yX1_fullHours, Cond.code yX1_fullHours cX1_fullHours 2 (some .int), Cond.methodLink RX1 156 yX1_standHour, Cond.instanceMethod yX1_standHour, Cond.selects RX1 yX1_standHour yX1_standHour, Cond.code yX1_standHour cX1_standHour 2 (some .int), Cond.fieldLink RX1 35 "FormworkYard" "setUpHours" "I"]
def wsX1_earliest_r3 : List Cond := [Cond.methodLink RX1 144 Lib.Math.max.name, Cond.static Lib.Math.max.name, Cond.initialized "java/lang/Math", Cond.code Lib.Math.max.name Lib.Math.max.code 2 (some .int), Cond.methodLink RX1 159 yX1_strikeHour, Cond.instanceMethod yX1_strikeHour, Cond.selects RX1 yX1_strikeHour yX1_strikeHour, Cond.code yX1_strikeHour cX1_strikeHour 6 (some .int), Cond.methodLink RX1 65 yX1_gainBetween, Cond.instanceMethod yX1_gainBetween, Cond.selects RX1 yX1_gainBetween yX1_gainBetween, Cond.code yX1_gainBetween cX1_gainBetween 4 (some .int), Cond.methodLink RX1 74 Lib.Math.min.name, Cond.static Lib.Math.min.name, Cond.code Lib.Math.min.name Lib.Math.min.code 2 (some .int), Cond.fieldLink RX1 13 "FormworkYard" "gained" "[I", Cond.methodLink RX1 70 yX1_strengthAt, Cond.static yX1_strengthAt, Cond.code yX1_strengthAt cX1_strengthAt 4 (some .int), Cond.fieldLink RX1 193 "FormworkYard" "STEPS" "[I", Cond.methodLink RX1 162 yX1_releaseHour, Cond.instanceMethod yX1_releaseHour, Cond.selects RX1 yX1_releaseHour yX1_releaseHour, Cond.code yX1_releaseHour cX1_releaseHour 2 (some .int)]
def wsX1_earliest_r4 : List Cond := [Cond.fieldLink RX1 38 "FormworkYard" "cleaningHours" "I", Cond.methodLink RX1 165 yX1_isHour, Cond.static yX1_isHour, Cond.code yX1_isHour cX1_isHour 1 (some .boolean)]
def wsX1_earliest : List Cond := .code yX1_earliest cX1_earliest 9 (some .int) :: ((wsX1_earliest_r1 ++ (wsX1_earliest_r2 ++ (wsX1_earliest_r3 ++ wsX1_earliest_r4))) ++ wsX10 ++ wsX00 ++ (vx_at0 RX1 189 "java/lang/IllegalArgumentException" ["java/lang/RuntimeException", "java/lang/Exception"]).filter goodWord)
def wsX1_nextToServe : List Cond := .code yX1_nextToServe cX1_nextToServe 6 (some (.object "FormworkYard$Pour")) :: ([.fieldLink RX1 24 "FormworkYard" "pourList" "[LFormworkYard$Pour;"] ++ wsX10 ++ wsX00)
def wsX1_panelsBusyIn : List Cond := .code yX1_panelsBusyIn cX1_panelsBusyIn 8 (some .long) :: ([.fieldLink RX1 24 "FormworkYard" "pourList" "[LFormworkYard$Pour;", .instanceMethod yX0_isBusy, .initialized RX0, .selects RX0 yX0_isBusy yX0_isBusy, .code yX0_isBusy cX0_isBusy 2 (some .boolean), .fieldLink RX0 34 "FormworkYard$Pour" "busyFrom" "I", .fieldLink RX0 37 "FormworkYard$Pour" "busyUntil" "I"] ++ wsX10 ++ wsX00)
def wsX1_lowestPanels : List Cond := .code yX1_lowestPanels cX1_lowestPanels 10 (some .long) :: ([.fieldLink RX1 28 "FormworkYard" "yardPanels" "I"] ++ wsX10)
def wsX1_giveOutPanels : List Cond := .code yX1_giveOutPanels cX1_giveOutPanels 5 none :: ([.fieldLink RX1 24 "FormworkYard" "pourList" "[LFormworkYard$Pour;", .methodLink RX1 206 yX1_nextToServe, .instanceMethod yX1_nextToServe, .selects RX1 yX1_nextToServe yX1_nextToServe, .initialized RX1, .code yX1_nextToServe cX1_nextToServe 6 (some (.object "FormworkYard$Pour")), .methodLink RX1 210 yX1_panelsBusyIn, .instanceMethod yX1_panelsBusyIn, .selects RX1 yX1_panelsBusyIn yX1_panelsBusyIn, .code yX1_panelsBusyIn cX1_panelsBusyIn 8 (some .long), .instanceMethod yX0_isBusy, .initialized RX0, .selects RX0 yX0_isBusy yX0_isBusy, .code yX0_isBusy cX0_isBusy 2 (some .boolean), .fieldLink RX0 34 "FormworkYard$Pour" "busyFrom" "I", .fieldLink RX0 37 "FormworkYard$Pour" "busyUntil" "I", .methodLink RX1 214 yX1_lowestPanels, .instanceMethod yX1_lowestPanels, .selects RX1 yX1_lowestPanels yX1_lowestPanels, .code yX1_lowestPanels cX1_lowestPanels 10 (some .long), .fieldLink RX1 28 "FormworkYard" "yardPanels" "I"] ++ wsX10 ++ wsX00)
def wsJ13_bitCount_95d88 : List Cond := .code yJ13_bitCount_95d88 cJ13_bitCount_95d88 2 (some .int) :: ([.constantLong RJ13 314 (6148914691236517205), .constantLong RJ13 316 (3689348814741910323), .constantLong RJ13 318 (1085102592571150095)])
def wsX1_panelsOf_r1 : List Cond := [Cond.methodLink RX1 100 yX1_existing, Cond.instanceMethod yX1_existing, Cond.selects RX1 yX1_existing yX1_existing, Cond.initialized RX1, Cond.code yX1_existing cX1_existing 3 (some (.object "FormworkYard$Pour")), Cond.classLink RX1 190 "java/util/NoSuchElementException", Cond.initialized "java/util/NoSuchElementException", Cond.fieldLink RX1 24 "FormworkYard" "pourList" "[LFormworkYard$Pour;", Cond.methodLink RX1 87 yX1_isNumber, Cond.static yX1_isNumber, Cond.code yX1_isNumber cX1_isNumber 1 (some .boolean), Cond.methodLink RX1 168 yX1_giveOutPanels, Cond.instanceMethod yX1_giveOutPanels, Cond.selects RX1 yX1_giveOutPanels yX1_giveOutPanels, Cond.code yX1_giveOutPanels cX1_giveOutPanels 5 none, Cond.methodLink RX1 206 yX1_nextToServe, Cond.instanceMethod yX1_nextToServe, Cond.selects RX1 yX1_nextToServe yX1_nextToServe, Cond.code yX1_nextToServe cX1_nextToServe 6 (some (.object "FormworkYard$Pour")), Cond.methodLink RX1 210 yX1_panelsBusyIn, Cond.instanceMethod yX1_panelsBusyIn, Cond.selects RX1 yX1_panelsBusyIn yX1_panelsBusyIn, Cond.code yX1_panelsBusyIn cX1_panelsBusyIn 8 (some .long), Cond.instanceMethod yX0_isBusy]
def wsX1_panelsOf_r2 : List Cond := [Cond.initialized RX0, Cond.selects RX0 yX0_isBusy yX0_isBusy, Cond.code yX0_isBusy cX0_isBusy 2 (some .boolean), Cond.fieldLink RX0 34 "FormworkYard$Pour" "busyFrom" "I", Cond.fieldLink RX0 37 "FormworkYard$Pour" "busyUntil" "I", Cond.methodLink RX1 214 yX1_lowestPanels, Cond.instanceMethod yX1_lowestPanels, Cond.selects RX1 yX1_lowestPanels yX1_lowestPanels, Cond.code yX1_lowestPanels cX1_lowestPanels 10 (some .long), Cond.fieldLink RX1 28 "FormworkYard" "yardPanels" "I", Cond.methodLink RX1 175 yJ13_bitCount_95d88, Cond.static yJ13_bitCount_95d88, Cond.initialized RJ13, Cond.code yJ13_bitCount_95d88 cJ13_bitCount_95d88 2 (some .int), Cond.constantLong RJ13 314 (6148914691236517205), Cond.constantLong RJ13 316 (3689348814741910323), Cond.constantLong RJ13 318 (1085102592571150095)]
def wsX1_panelsOf : List Cond := .code yX1_panelsOf cX1_panelsOf 3 (some .int) :: ((wsX1_panelsOf_r1 ++ wsX1_panelsOf_r2) ++ wsX00 ++ wsX10 ++ (vx_at0 RX1 192 "java/util/NoSuchElementException" ["java/lang/RuntimeException", "java/lang/Exception"]).filter goodWord)
def wsX1_pourOf_r1 : List Cond := [Cond.classLink RX1 181 "java/lang/IndexOutOfBoundsException", Cond.initialized "java/lang/IndexOutOfBoundsException", Cond.fieldLink RX1 28 "FormworkYard" "yardPanels" "I", Cond.fieldLink RX1 24 "FormworkYard" "pourList" "[LFormworkYard$Pour;", Cond.methodLink RX1 50 yX1_requireHour, Cond.static yX1_requireHour, Cond.initialized RX1, Cond.code yX1_requireHour cX1_requireHour 1 none, Cond.methodLink RX1 165 yX1_isHour, Cond.static yX1_isHour, Cond.code yX1_isHour cX1_isHour 1 (some .boolean), Cond.methodLink RX1 168 yX1_giveOutPanels, Cond.instanceMethod yX1_giveOutPanels, Cond.selects RX1 yX1_giveOutPanels yX1_giveOutPanels, Cond.code yX1_giveOutPanels cX1_giveOutPanels 5 none, Cond.methodLink RX1 206 yX1_nextToServe, Cond.instanceMethod yX1_nextToServe, Cond.selects RX1 yX1_nextToServe yX1_nextToServe, Cond.code yX1_nextToServe cX1_nextToServe 6 (some (.object "FormworkYard$Pour")), Cond.methodLink RX1 210 yX1_panelsBusyIn, Cond.instanceMethod yX1_panelsBusyIn, Cond.selects RX1 yX1_panelsBusyIn yX1_panelsBusyIn, Cond.code yX1_panelsBusyIn cX1_panelsBusyIn 8 (some .long), Cond.instanceMethod yX0_isBusy]
def wsX1_pourOf_r2 : List Cond := [Cond.initialized RX0, Cond.selects RX0 yX0_isBusy yX0_isBusy, Cond.code yX0_isBusy cX0_isBusy 2 (some .boolean), Cond.fieldLink RX0 34 "FormworkYard$Pour" "busyFrom" "I", Cond.fieldLink RX0 37 "FormworkYard$Pour" "busyUntil" "I", Cond.methodLink RX1 214 yX1_lowestPanels, Cond.instanceMethod yX1_lowestPanels, Cond.selects RX1 yX1_lowestPanels yX1_lowestPanels, Cond.code yX1_lowestPanels cX1_lowestPanels 10 (some .long)]
def wsX1_pourOf : List Cond := .code yX1_pourOf cX1_pourOf 7 (some .int) :: ((wsX1_pourOf_r1 ++ wsX1_pourOf_r2) ++ wsX10 ++ wsX00 ++ (vx_at0 RX1 183 "java/lang/IndexOutOfBoundsException" ["java/lang/RuntimeException", "java/lang/Exception"]).filter goodWord)
def wsX2_init : List Cond := .code yX2_init cX2_init 2 none :: ([.methodLink RX2 1 objectInit, .instanceMethod objectInit, .code objectInit ⟨#[0xb1]⟩ 1 none, .arrayClass .int, .fieldLink RX2 7 "FormworkYardModel" "temperatures" "[I", .fieldLink RX2 13 "FormworkYardModel" "panels" "I", .fieldLink RX2 17 "FormworkYardModel" "trucks" "I", .fieldLink RX2 20 "FormworkYardModel" "pump" "I", .fieldLink RX2 23 "FormworkYardModel" "setUp" "I", .fieldLink RX2 26 "FormworkYardModel" "cleaning" "I", .arrayClass .boolean, .fieldLink RX2 29 "FormworkYardModel" "isThere" "[Z", .fieldLink RX2 33 "FormworkYardModel" "starts" "[I", .fieldLink RX2 36 "FormworkYardModel" "volumes" "[I", .fieldLink RX2 39 "FormworkYardModel" "needs" "[I", .fieldLink RX2 42 "FormworkYardModel" "wanted" "[I", .fieldLink RX2 45 "FormworkYardModel" "breakMany" "[I", .fieldLink RX2 48 "FormworkYardModel" "parts" "[I", .fieldLink RX2 51 "FormworkYardModel" "lasts" "[I", .fieldLink RX2 54 "FormworkYardModel" "stands" "[I", .fieldLink RX2 57 "FormworkYardModel" "strikes" "[I", .fieldLink RX2 60 "FormworkYardModel" "frees" "[I", .fieldLink RX2 63 "FormworkYardModel" "has" "[Z"] ++ wsX20)
def wsX2_thrown : List Cond := .code yX2_thrown cX2_thrown 1 (some .int) :: ([.fieldLink RX2 66 "FormworkYardModel" "thrown" "I"] ++ wsX20)
def wsX2_fails : List Cond := .code yX2_fails cX2_fails 2 (some .int) :: ([.fieldLink RX2 66 "FormworkYardModel" "thrown" "I"] ++ wsX20)
def wsX2_in : List Cond := .code yX2_in cX2_in 3 (some .boolean) :: ([])
def wsX2_isHour : List Cond := .code yX2_isHour cX2_isHour 1 (some .boolean) :: ([.methodLink RX2 69 yX2_in, .static yX2_in, .initialized RX2, .code yX2_in cX2_in 3 (some .boolean)])
def wsX2_isPour : List Cond := .code yX2_isPour cX2_isPour 2 (some .boolean) :: ([.fieldLink RX2 29 "FormworkYardModel" "isThere" "[Z", .methodLink RX2 69 yX2_in, .static yX2_in, .initialized RX2, .code yX2_in cX2_in 3 (some .boolean)] ++ wsX20)
def wsX2_gain : List Cond := .code yX2_gain cX2_gain 3 (some .int) :: ([.fieldLink RX2 7 "FormworkYardModel" "temperatures" "[I", .methodLink RX2 73 yX2_isHour, .static yX2_isHour, .initialized RX2, .code yX2_isHour cX2_isHour 1 (some .boolean), .methodLink RX2 69 yX2_in, .static yX2_in, .code yX2_in cX2_in 3 (some .boolean)] ++ wsX20)
def wsX2_sum : List Cond := .code yX2_sum cX2_sum 5 (some .int) :: ([.methodLink RX2 77 yX2_gain, .instanceMethod yX2_gain, .selects RX2 yX2_gain yX2_gain, .initialized RX2, .code yX2_gain cX2_gain 3 (some .int), .fieldLink RX2 7 "FormworkYardModel" "temperatures" "[I", .methodLink RX2 73 yX2_isHour, .static yX2_isHour, .code yX2_isHour cX2_isHour 1 (some .boolean), .methodLink RX2 69 yX2_in, .static yX2_in, .code yX2_in cX2_in 3 (some .boolean)] ++ wsX20)
def wsX2_between : List Cond := .code yX2_between cX2_between 4 (some .int) :: ([])
def wsX2_strong : List Cond := .code yX2_strong cX2_strong 1 (some .int) :: ([.methodLink RX2 81 yX2_between, .static yX2_between, .initialized RX2, .code yX2_between cX2_between 4 (some .int)])
def wsX2_rate : List Cond := .code yX2_rate cX2_rate 1 (some .int) :: ([.fieldLink RX2 17 "FormworkYardModel" "trucks" "I", .fieldLink RX2 20 "FormworkYardModel" "pump" "I"] ++ wsX20)
def wsX2_delays : List Cond := .code yX2_delays cX2_delays 4 (some .int) :: ([.fieldLink RX2 45 "FormworkYardModel" "breakMany" "[I", .fieldLink RX2 51 "FormworkYardModel" "lasts" "[I"] ++ wsX20)
def wsX2_end : List Cond := .code yX2_end cX2_end 2 (some .int) :: ([.fieldLink RX2 33 "FormworkYardModel" "starts" "[I", .fieldLink RX2 36 "FormworkYardModel" "volumes" "[I", .methodLink RX2 85 yX2_rate, .instanceMethod yX2_rate, .selects RX2 yX2_rate yX2_rate, .initialized RX2, .code yX2_rate cX2_rate 1 (some .int), .fieldLink RX2 17 "FormworkYardModel" "trucks" "I", .fieldLink RX2 20 "FormworkYardModel" "pump" "I", .methodLink RX2 89 yX2_delays, .instanceMethod yX2_delays, .selects RX2 yX2_delays yX2_delays, .code yX2_delays cX2_delays 4 (some .int), .fieldLink RX2 45 "FormworkYardModel" "breakMany" "[I", .fieldLink RX2 51 "FormworkYardModel" "lasts" "[I"] ++ wsX20)
def wsX2_works_r1 : List Cond := [Cond.fieldLink RX2 54 "FormworkYardModel" "stands" "[I", Cond.fieldLink RX2 33 "FormworkYardModel" "starts" "[I", Cond.fieldLink RX2 23 "FormworkYardModel" "setUp" "I", Cond.fieldLink RX2 57 "FormworkYardModel" "strikes" "[I", Cond.fieldLink RX2 42 "FormworkYardModel" "wanted" "[I", Cond.fieldLink RX2 60 "FormworkYardModel" "frees" "[I", Cond.fieldLink RX2 26 "FormworkYardModel" "cleaning" "I", Cond.methodLink RX2 92 yX2_end, Cond.instanceMethod yX2_end, Cond.selects RX2 yX2_end yX2_end, Cond.initialized RX2, Cond.code yX2_end cX2_end 2 (some .int), Cond.fieldLink RX2 36 "FormworkYardModel" "volumes" "[I", Cond.methodLink RX2 85 yX2_rate, Cond.instanceMethod yX2_rate, Cond.selects RX2 yX2_rate yX2_rate, Cond.code yX2_rate cX2_rate 1 (some .int), Cond.fieldLink RX2 17 "FormworkYardModel" "trucks" "I", Cond.fieldLink RX2 20 "FormworkYardModel" "pump" "I", Cond.methodLink RX2 89 yX2_delays, Cond.instanceMethod yX2_delays, Cond.selects RX2 yX2_delays yX2_delays, Cond.code yX2_delays cX2_delays 4 (some .int), Cond.fieldLink RX2 45 "FormworkYardModel" "breakMany" "[I"]
def wsX2_works_r2 : List Cond := [Cond.fieldLink RX2 51 "FormworkYardModel" "lasts" "[I", Cond.methodLink RX2 95 yX2_strong, Cond.static yX2_strong, Cond.code yX2_strong cX2_strong 1 (some .int), Cond.methodLink RX2 81 yX2_between, Cond.static yX2_between, Cond.code yX2_between cX2_between 4 (some .int), Cond.methodLink RX2 77 yX2_gain, Cond.instanceMethod yX2_gain, Cond.selects RX2 yX2_gain yX2_gain, Cond.code yX2_gain cX2_gain 3 (some .int), Cond.fieldLink RX2 7 "FormworkYardModel" "temperatures" "[I", Cond.methodLink RX2 73 yX2_isHour, Cond.static yX2_isHour, Cond.code yX2_isHour cX2_isHour 1 (some .boolean), Cond.methodLink RX2 69 yX2_in, Cond.static yX2_in, Cond.code yX2_in cX2_in 3 (some .boolean)]
def wsX2_works : List Cond := .code yX2_works cX2_works 4 none :: ((wsX2_works_r1 ++ wsX2_works_r2) ++ wsX20)
def wsX2_isBusy : List Cond := .code yX2_isBusy cX2_isBusy 3 (some .boolean) :: ([.fieldLink RX2 29 "FormworkYardModel" "isThere" "[Z", .fieldLink RX2 54 "FormworkYardModel" "stands" "[I", .fieldLink RX2 60 "FormworkYardModel" "frees" "[I"] ++ wsX20)
def wsX2_worksAll_r1 : List Cond := [Cond.fieldLink RX2 29 "FormworkYardModel" "isThere" "[Z", Cond.methodLink RX2 98 yX2_works, Cond.instanceMethod yX2_works, Cond.selects RX2 yX2_works yX2_works, Cond.initialized RX2, Cond.code yX2_works cX2_works 4 none, Cond.fieldLink RX2 54 "FormworkYardModel" "stands" "[I", Cond.fieldLink RX2 33 "FormworkYardModel" "starts" "[I", Cond.fieldLink RX2 23 "FormworkYardModel" "setUp" "I", Cond.fieldLink RX2 57 "FormworkYardModel" "strikes" "[I", Cond.fieldLink RX2 42 "FormworkYardModel" "wanted" "[I", Cond.fieldLink RX2 60 "FormworkYardModel" "frees" "[I", Cond.fieldLink RX2 26 "FormworkYardModel" "cleaning" "I", Cond.methodLink RX2 92 yX2_end, Cond.instanceMethod yX2_end, Cond.selects RX2 yX2_end yX2_end, Cond.code yX2_end cX2_end 2 (some .int), Cond.fieldLink RX2 36 "FormworkYardModel" "volumes" "[I", Cond.methodLink RX2 85 yX2_rate, Cond.instanceMethod yX2_rate, Cond.selects RX2 yX2_rate yX2_rate, Cond.code yX2_rate cX2_rate 1 (some .int), Cond.fieldLink RX2 17 "FormworkYardModel" "trucks" "I", Cond.fieldLink RX2 20 "FormworkYardModel" "pump" "I"]
def wsX2_worksAll_r2 : List Cond := [Cond.methodLink RX2 89 yX2_delays, Cond.instanceMethod yX2_delays, Cond.selects RX2 yX2_delays yX2_delays, Cond.code yX2_delays cX2_delays 4 (some .int), Cond.fieldLink RX2 45 "FormworkYardModel" "breakMany" "[I", Cond.fieldLink RX2 51 "FormworkYardModel" "lasts" "[I", Cond.methodLink RX2 95 yX2_strong, Cond.static yX2_strong, Cond.code yX2_strong cX2_strong 1 (some .int), Cond.methodLink RX2 81 yX2_between, Cond.static yX2_between, Cond.code yX2_between cX2_between 4 (some .int), Cond.methodLink RX2 77 yX2_gain, Cond.instanceMethod yX2_gain, Cond.selects RX2 yX2_gain yX2_gain, Cond.code yX2_gain cX2_gain 3 (some .int), Cond.fieldLink RX2 7 "FormworkYardModel" "temperatures" "[I", Cond.methodLink RX2 73 yX2_isHour, Cond.static yX2_isHour, Cond.code yX2_isHour cX2_isHour 1 (some .boolean), Cond.methodLink RX2 69 yX2_in, Cond.static yX2_in, Cond.code yX2_in cX2_in 3 (some .boolean)]
def wsX2_worksAll : List Cond := .code yX2_worksAll cX2_worksAll 2 none :: ((wsX2_worksAll_r1 ++ wsX2_worksAll_r2) ++ wsX20)
def wsX2_needOf : List Cond := .code yX2_needOf cX2_needOf 4 (some .int) :: ([.fieldLink RX2 39 "FormworkYardModel" "needs" "[I", .methodLink RX2 102 yX2_isBusy, .instanceMethod yX2_isBusy, .selects RX2 yX2_isBusy yX2_isBusy, .initialized RX2, .code yX2_isBusy cX2_isBusy 3 (some .boolean), .fieldLink RX2 29 "FormworkYardModel" "isThere" "[Z", .fieldLink RX2 54 "FormworkYardModel" "stands" "[I", .fieldLink RX2 60 "FormworkYardModel" "frees" "[I"] ++ wsX20)
def wsX2_setTemperature : List Cond := .code yX2_setTemperature cX2_setTemperature 5 none :: ([.fieldLink RX2 66 "FormworkYardModel" "thrown" "I", .fieldLink RX2 7 "FormworkYardModel" "temperatures" "[I", .methodLink RX2 73 yX2_isHour, .static yX2_isHour, .initialized RX2, .code yX2_isHour cX2_isHour 1 (some .boolean), .methodLink RX2 69 yX2_in, .static yX2_in, .code yX2_in cX2_in 3 (some .boolean)] ++ wsX20)
def wsX2_temperature : List Cond := .code yX2_temperature cX2_temperature 2 (some .int) :: ([.fieldLink RX2 66 "FormworkYardModel" "thrown" "I", .fieldLink RX2 7 "FormworkYardModel" "temperatures" "[I", .methodLink RX2 73 yX2_isHour, .static yX2_isHour, .initialized RX2, .code yX2_isHour cX2_isHour 1 (some .boolean), .methodLink RX2 69 yX2_in, .static yX2_in, .code yX2_in cX2_in 3 (some .boolean), .methodLink RX2 106 yX2_fails, .instanceMethod yX2_fails, .selects RX2 yX2_fails yX2_fails, .code yX2_fails cX2_fails 2 (some .int)] ++ wsX20)
def wsX2_maturity : List Cond := .code yX2_maturity cX2_maturity 3 (some .int) :: ([.fieldLink RX2 66 "FormworkYardModel" "thrown" "I", .methodLink RX2 73 yX2_isHour, .static yX2_isHour, .initialized RX2, .code yX2_isHour cX2_isHour 1 (some .boolean), .methodLink RX2 69 yX2_in, .static yX2_in, .code yX2_in cX2_in 3 (some .boolean), .methodLink RX2 109 yX2_sum, .instanceMethod yX2_sum, .selects RX2 yX2_sum yX2_sum, .code yX2_sum cX2_sum 5 (some .int), .methodLink RX2 77 yX2_gain, .instanceMethod yX2_gain, .selects RX2 yX2_gain yX2_gain, .code yX2_gain cX2_gain 3 (some .int), .fieldLink RX2 7 "FormworkYardModel" "temperatures" "[I"] ++ wsX20)
def wsX2_strength : List Cond := .code yX2_strength cX2_strength 2 (some .int) :: ([.fieldLink RX2 66 "FormworkYardModel" "thrown" "I", .constant RX2 113 (1000000), .methodLink RX2 69 yX2_in, .static yX2_in, .initialized RX2, .code yX2_in cX2_in 3 (some .boolean), .methodLink RX2 95 yX2_strong, .static yX2_strong, .code yX2_strong cX2_strong 1 (some .int), .methodLink RX2 81 yX2_between, .static yX2_between, .code yX2_between cX2_between 4 (some .int), .methodLink RX2 106 yX2_fails, .instanceMethod yX2_fails, .selects RX2 yX2_fails yX2_fails, .code yX2_fails cX2_fails 2 (some .int)] ++ wsX20)
def wsX2_setPanels : List Cond := .code yX2_setPanels cX2_setPanels 3 (some .int) :: ([.fieldLink RX2 66 "FormworkYardModel" "thrown" "I", .fieldLink RX2 13 "FormworkYardModel" "panels" "I", .methodLink RX2 69 yX2_in, .static yX2_in, .initialized RX2, .code yX2_in cX2_in 3 (some .boolean)] ++ wsX20)
def wsX2_setRates : List Cond := .code yX2_setRates cX2_setRates 3 (some .int) :: ([.fieldLink RX2 66 "FormworkYardModel" "thrown" "I", .fieldLink RX2 17 "FormworkYardModel" "trucks" "I", .fieldLink RX2 20 "FormworkYardModel" "pump" "I", .methodLink RX2 69 yX2_in, .static yX2_in, .initialized RX2, .code yX2_in cX2_in 3 (some .boolean), .methodLink RX2 85 yX2_rate, .instanceMethod yX2_rate, .selects RX2 yX2_rate yX2_rate, .code yX2_rate cX2_rate 1 (some .int)] ++ wsX20)
def wsX2_setCrew : List Cond := .code yX2_setCrew cX2_setCrew 3 none :: ([.fieldLink RX2 66 "FormworkYardModel" "thrown" "I", .fieldLink RX2 23 "FormworkYardModel" "setUp" "I", .fieldLink RX2 26 "FormworkYardModel" "cleaning" "I", .methodLink RX2 69 yX2_in, .static yX2_in, .initialized RX2, .code yX2_in cX2_in 3 (some .boolean)] ++ wsX20)
def wsX2_isPlan : List Cond := .code yX2_isPlan cX2_isPlan 4 (some .boolean) :: ([.methodLink RX2 69 yX2_in, .static yX2_in, .initialized RX2, .code yX2_in cX2_in 3 (some .boolean)])
def wsX2_freeNumber : List Cond := .code yX2_freeNumber cX2_freeNumber 2 (some .int) :: ([.fieldLink RX2 29 "FormworkYardModel" "isThere" "[Z"] ++ wsX20)
def wsX2_lays : List Cond := .code yX2_lays cX2_lays 6 none :: ([.fieldLink RX2 33 "FormworkYardModel" "starts" "[I", .fieldLink RX2 36 "FormworkYardModel" "volumes" "[I", .fieldLink RX2 39 "FormworkYardModel" "needs" "[I", .fieldLink RX2 42 "FormworkYardModel" "wanted" "[I", .fieldLink RX2 45 "FormworkYardModel" "breakMany" "[I"] ++ wsX20)
def wsX2_plan : List Cond := .code yX2_plan cX2_plan 6 (some .int) :: ([.fieldLink RX2 66 "FormworkYardModel" "thrown" "I", .fieldLink RX2 29 "FormworkYardModel" "isThere" "[Z", .methodLink RX2 114 yX2_freeNumber, .instanceMethod yX2_freeNumber, .selects RX2 yX2_freeNumber yX2_freeNumber, .initialized RX2, .code yX2_freeNumber cX2_freeNumber 2 (some .int), .methodLink RX2 117 yX2_isPlan, .static yX2_isPlan, .code yX2_isPlan cX2_isPlan 4 (some .boolean), .methodLink RX2 69 yX2_in, .static yX2_in, .code yX2_in cX2_in 3 (some .boolean), .methodLink RX2 121 yX2_lays, .instanceMethod yX2_lays, .selects RX2 yX2_lays yX2_lays, .code yX2_lays cX2_lays 6 none, .fieldLink RX2 33 "FormworkYardModel" "starts" "[I", .fieldLink RX2 36 "FormworkYardModel" "volumes" "[I", .fieldLink RX2 39 "FormworkYardModel" "needs" "[I", .fieldLink RX2 42 "FormworkYardModel" "wanted" "[I", .fieldLink RX2 45 "FormworkYardModel" "breakMany" "[I"] ++ wsX20)
def wsX2_move : List Cond := .code yX2_move cX2_move 4 (some .int) :: ([.fieldLink RX2 66 "FormworkYardModel" "thrown" "I", .fieldLink RX2 33 "FormworkYardModel" "starts" "[I", .methodLink RX2 125 yX2_isPour, .instanceMethod yX2_isPour, .selects RX2 yX2_isPour yX2_isPour, .initialized RX2, .code yX2_isPour cX2_isPour 2 (some .boolean), .fieldLink RX2 29 "FormworkYardModel" "isThere" "[Z", .methodLink RX2 69 yX2_in, .static yX2_in, .code yX2_in cX2_in 3 (some .boolean)] ++ wsX20)
def wsX2_cancel : List Cond := .code yX2_cancel cX2_cancel 2 (some .int) :: ([.fieldLink RX2 66 "FormworkYardModel" "thrown" "I", .fieldLink RX2 29 "FormworkYardModel" "isThere" "[Z", .fieldLink RX2 39 "FormworkYardModel" "needs" "[I", .methodLink RX2 125 yX2_isPour, .instanceMethod yX2_isPour, .selects RX2 yX2_isPour yX2_isPour, .initialized RX2, .code yX2_isPour cX2_isPour 2 (some .boolean), .methodLink RX2 69 yX2_in, .static yX2_in, .code yX2_in cX2_in 3 (some .boolean)] ++ wsX20)
def wsX2_delay : List Cond := .code yX2_delay cX2_delay 5 (some .int) :: ([.fieldLink RX2 36 "FormworkYardModel" "volumes" "[I", .fieldLink RX2 45 "FormworkYardModel" "breakMany" "[I", .fieldLink RX2 66 "FormworkYardModel" "thrown" "I", .fieldLink RX2 48 "FormworkYardModel" "parts" "[I", .fieldLink RX2 51 "FormworkYardModel" "lasts" "[I", .methodLink RX2 125 yX2_isPour, .instanceMethod yX2_isPour, .selects RX2 yX2_isPour yX2_isPour, .initialized RX2, .code yX2_isPour cX2_isPour 2 (some .boolean), .fieldLink RX2 29 "FormworkYardModel" "isThere" "[Z", .methodLink RX2 69 yX2_in, .static yX2_in, .code yX2_in cX2_in 3 (some .boolean)] ++ wsX20)
def wsX2_pours : List Cond := .code yX2_pours cX2_pours 3 (some .int) :: ([.fieldLink RX2 66 "FormworkYardModel" "thrown" "I", .fieldLink RX2 29 "FormworkYardModel" "isThere" "[Z"] ++ wsX20)
def wsX2_isAsked_r1 : List Cond := [Cond.fieldLink RX2 66 "FormworkYardModel" "thrown" "I", Cond.methodLink RX2 125 yX2_isPour, Cond.instanceMethod yX2_isPour, Cond.selects RX2 yX2_isPour yX2_isPour, Cond.initialized RX2, Cond.code yX2_isPour cX2_isPour 2 (some .boolean), Cond.fieldLink RX2 29 "FormworkYardModel" "isThere" "[Z", Cond.methodLink RX2 69 yX2_in, Cond.static yX2_in, Cond.code yX2_in cX2_in 3 (some .boolean), Cond.methodLink RX2 98 yX2_works, Cond.instanceMethod yX2_works, Cond.selects RX2 yX2_works yX2_works, Cond.code yX2_works cX2_works 4 none, Cond.fieldLink RX2 54 "FormworkYardModel" "stands" "[I", Cond.fieldLink RX2 33 "FormworkYardModel" "starts" "[I", Cond.fieldLink RX2 23 "FormworkYardModel" "setUp" "I", Cond.fieldLink RX2 57 "FormworkYardModel" "strikes" "[I", Cond.fieldLink RX2 42 "FormworkYardModel" "wanted" "[I", Cond.fieldLink RX2 60 "FormworkYardModel" "frees" "[I", Cond.fieldLink RX2 26 "FormworkYardModel" "cleaning" "I", Cond.methodLink RX2 92 yX2_end, Cond.instanceMethod yX2_end, Cond.selects RX2 yX2_end yX2_end]
def wsX2_isAsked_r2 : List Cond := [Cond.code yX2_end cX2_end 2 (some .int), Cond.fieldLink RX2 36 "FormworkYardModel" "volumes" "[I", Cond.methodLink RX2 85 yX2_rate, Cond.instanceMethod yX2_rate, Cond.selects RX2 yX2_rate yX2_rate, Cond.code yX2_rate cX2_rate 1 (some .int), Cond.fieldLink RX2 17 "FormworkYardModel" "trucks" "I", Cond.fieldLink RX2 20 "FormworkYardModel" "pump" "I", Cond.methodLink RX2 89 yX2_delays, Cond.instanceMethod yX2_delays, Cond.selects RX2 yX2_delays yX2_delays, Cond.code yX2_delays cX2_delays 4 (some .int), Cond.fieldLink RX2 45 "FormworkYardModel" "breakMany" "[I", Cond.fieldLink RX2 51 "FormworkYardModel" "lasts" "[I", Cond.methodLink RX2 95 yX2_strong, Cond.static yX2_strong, Cond.code yX2_strong cX2_strong 1 (some .int), Cond.methodLink RX2 81 yX2_between, Cond.static yX2_between, Cond.code yX2_between cX2_between 4 (some .int), Cond.methodLink RX2 77 yX2_gain, Cond.instanceMethod yX2_gain, Cond.selects RX2 yX2_gain yX2_gain, Cond.code yX2_gain cX2_gain 3 (some .int)]
def wsX2_isAsked_r3 : List Cond := [Cond.fieldLink RX2 7 "FormworkYardModel" "temperatures" "[I", Cond.methodLink RX2 73 yX2_isHour, Cond.static yX2_isHour, Cond.code yX2_isHour cX2_isHour 1 (some .boolean)]
def wsX2_isAsked : List Cond := .code yX2_isAsked cX2_isAsked 2 (some .boolean) :: ((wsX2_isAsked_r1 ++ (wsX2_isAsked_r2 ++ wsX2_isAsked_r3)) ++ wsX20)
def wsX2_endOf_r1 : List Cond := [Cond.methodLink RX2 128 yX2_isAsked, Cond.instanceMethod yX2_isAsked, Cond.selects RX2 yX2_isAsked yX2_isAsked, Cond.initialized RX2, Cond.code yX2_isAsked cX2_isAsked 2 (some .boolean), Cond.fieldLink RX2 66 "FormworkYardModel" "thrown" "I", Cond.methodLink RX2 125 yX2_isPour, Cond.instanceMethod yX2_isPour, Cond.selects RX2 yX2_isPour yX2_isPour, Cond.code yX2_isPour cX2_isPour 2 (some .boolean), Cond.fieldLink RX2 29 "FormworkYardModel" "isThere" "[Z", Cond.methodLink RX2 69 yX2_in, Cond.static yX2_in, Cond.code yX2_in cX2_in 3 (some .boolean), Cond.methodLink RX2 98 yX2_works, Cond.instanceMethod yX2_works, Cond.selects RX2 yX2_works yX2_works, Cond.code yX2_works cX2_works 4 none, Cond.fieldLink RX2 54 "FormworkYardModel" "stands" "[I", Cond.fieldLink RX2 33 "FormworkYardModel" "starts" "[I", Cond.fieldLink RX2 23 "FormworkYardModel" "setUp" "I", Cond.fieldLink RX2 57 "FormworkYardModel" "strikes" "[I", Cond.fieldLink RX2 42 "FormworkYardModel" "wanted" "[I", Cond.fieldLink RX2 60 "FormworkYardModel" "frees" "[I"]
def wsX2_endOf_r2 : List Cond := [Cond.fieldLink RX2 26 "FormworkYardModel" "cleaning" "I", Cond.methodLink RX2 92 yX2_end, Cond.instanceMethod yX2_end, Cond.selects RX2 yX2_end yX2_end, Cond.code yX2_end cX2_end 2 (some .int), Cond.fieldLink RX2 36 "FormworkYardModel" "volumes" "[I", Cond.methodLink RX2 85 yX2_rate, Cond.instanceMethod yX2_rate, Cond.selects RX2 yX2_rate yX2_rate, Cond.code yX2_rate cX2_rate 1 (some .int), Cond.fieldLink RX2 17 "FormworkYardModel" "trucks" "I", Cond.fieldLink RX2 20 "FormworkYardModel" "pump" "I", Cond.methodLink RX2 89 yX2_delays, Cond.instanceMethod yX2_delays, Cond.selects RX2 yX2_delays yX2_delays, Cond.code yX2_delays cX2_delays 4 (some .int), Cond.fieldLink RX2 45 "FormworkYardModel" "breakMany" "[I", Cond.fieldLink RX2 51 "FormworkYardModel" "lasts" "[I", Cond.methodLink RX2 95 yX2_strong, Cond.static yX2_strong, Cond.code yX2_strong cX2_strong 1 (some .int), Cond.methodLink RX2 81 yX2_between, Cond.static yX2_between, Cond.code yX2_between cX2_between 4 (some .int)]
def wsX2_endOf_r3 : List Cond := [Cond.methodLink RX2 77 yX2_gain, Cond.instanceMethod yX2_gain, Cond.selects RX2 yX2_gain yX2_gain, Cond.code yX2_gain cX2_gain 3 (some .int), Cond.fieldLink RX2 7 "FormworkYardModel" "temperatures" "[I", Cond.methodLink RX2 73 yX2_isHour, Cond.static yX2_isHour, Cond.code yX2_isHour cX2_isHour 1 (some .boolean)]
def wsX2_endOf : List Cond := .code yX2_endOf cX2_endOf 2 (some .int) :: ((wsX2_endOf_r1 ++ (wsX2_endOf_r2 ++ wsX2_endOf_r3)) ++ wsX20)
def wsX2_coldJoints_r1 : List Cond := [Cond.fieldLink RX2 45 "FormworkYardModel" "breakMany" "[I", Cond.fieldLink RX2 33 "FormworkYardModel" "starts" "[I", Cond.fieldLink RX2 48 "FormworkYardModel" "parts" "[I", Cond.fieldLink RX2 51 "FormworkYardModel" "lasts" "[I", Cond.methodLink RX2 128 yX2_isAsked, Cond.instanceMethod yX2_isAsked, Cond.selects RX2 yX2_isAsked yX2_isAsked, Cond.initialized RX2, Cond.code yX2_isAsked cX2_isAsked 2 (some .boolean), Cond.fieldLink RX2 66 "FormworkYardModel" "thrown" "I", Cond.methodLink RX2 125 yX2_isPour, Cond.instanceMethod yX2_isPour, Cond.selects RX2 yX2_isPour yX2_isPour, Cond.code yX2_isPour cX2_isPour 2 (some .boolean), Cond.fieldLink RX2 29 "FormworkYardModel" "isThere" "[Z", Cond.methodLink RX2 69 yX2_in, Cond.static yX2_in, Cond.code yX2_in cX2_in 3 (some .boolean), Cond.methodLink RX2 98 yX2_works, Cond.instanceMethod yX2_works, Cond.selects RX2 yX2_works yX2_works, Cond.code yX2_works cX2_works 4 none, Cond.fieldLink RX2 54 "FormworkYardModel" "stands" "[I", Cond.fieldLink RX2 23 "FormworkYardModel" "setUp" "I"]
def wsX2_coldJoints_r2 : List Cond := [Cond.fieldLink RX2 57 "FormworkYardModel" "strikes" "[I", Cond.fieldLink RX2 42 "FormworkYardModel" "wanted" "[I", Cond.fieldLink RX2 60 "FormworkYardModel" "frees" "[I", Cond.fieldLink RX2 26 "FormworkYardModel" "cleaning" "I", Cond.methodLink RX2 92 yX2_end, Cond.instanceMethod yX2_end, Cond.selects RX2 yX2_end yX2_end, Cond.code yX2_end cX2_end 2 (some .int), Cond.fieldLink RX2 36 "FormworkYardModel" "volumes" "[I", Cond.methodLink RX2 85 yX2_rate, Cond.instanceMethod yX2_rate, Cond.selects RX2 yX2_rate yX2_rate, Cond.code yX2_rate cX2_rate 1 (some .int), Cond.fieldLink RX2 17 "FormworkYardModel" "trucks" "I", Cond.fieldLink RX2 20 "FormworkYardModel" "pump" "I", Cond.methodLink RX2 89 yX2_delays, Cond.instanceMethod yX2_delays, Cond.selects RX2 yX2_delays yX2_delays, Cond.code yX2_delays cX2_delays 4 (some .int), Cond.methodLink RX2 95 yX2_strong, Cond.static yX2_strong, Cond.code yX2_strong cX2_strong 1 (some .int), Cond.methodLink RX2 81 yX2_between, Cond.static yX2_between]
def wsX2_coldJoints_r3 : List Cond := [Cond.code yX2_between cX2_between 4 (some .int), Cond.methodLink RX2 77 yX2_gain, Cond.instanceMethod yX2_gain, Cond.selects RX2 yX2_gain yX2_gain, Cond.code yX2_gain cX2_gain 3 (some .int), Cond.fieldLink RX2 7 "FormworkYardModel" "temperatures" "[I", Cond.methodLink RX2 73 yX2_isHour, Cond.static yX2_isHour, Cond.code yX2_isHour cX2_isHour 1 (some .boolean), Cond.methodLink RX2 109 yX2_sum, Cond.instanceMethod yX2_sum, Cond.selects RX2 yX2_sum yX2_sum, Cond.code yX2_sum cX2_sum 5 (some .int)]
def wsX2_coldJoints : List Cond := .code yX2_coldJoints cX2_coldJoints 8 (some .int) :: ((wsX2_coldJoints_r1 ++ (wsX2_coldJoints_r2 ++ wsX2_coldJoints_r3)) ++ wsX20)
def wsX2_struck_r1 : List Cond := [Cond.fieldLink RX2 57 "FormworkYardModel" "strikes" "[I", Cond.methodLink RX2 128 yX2_isAsked, Cond.instanceMethod yX2_isAsked, Cond.selects RX2 yX2_isAsked yX2_isAsked, Cond.initialized RX2, Cond.code yX2_isAsked cX2_isAsked 2 (some .boolean), Cond.fieldLink RX2 66 "FormworkYardModel" "thrown" "I", Cond.methodLink RX2 125 yX2_isPour, Cond.instanceMethod yX2_isPour, Cond.selects RX2 yX2_isPour yX2_isPour, Cond.code yX2_isPour cX2_isPour 2 (some .boolean), Cond.fieldLink RX2 29 "FormworkYardModel" "isThere" "[Z", Cond.methodLink RX2 69 yX2_in, Cond.static yX2_in, Cond.code yX2_in cX2_in 3 (some .boolean), Cond.methodLink RX2 98 yX2_works, Cond.instanceMethod yX2_works, Cond.selects RX2 yX2_works yX2_works, Cond.code yX2_works cX2_works 4 none, Cond.fieldLink RX2 54 "FormworkYardModel" "stands" "[I", Cond.fieldLink RX2 33 "FormworkYardModel" "starts" "[I", Cond.fieldLink RX2 23 "FormworkYardModel" "setUp" "I", Cond.fieldLink RX2 42 "FormworkYardModel" "wanted" "[I", Cond.fieldLink RX2 60 "FormworkYardModel" "frees" "[I"]
def wsX2_struck_r2 : List Cond := [Cond.fieldLink RX2 26 "FormworkYardModel" "cleaning" "I", Cond.methodLink RX2 92 yX2_end, Cond.instanceMethod yX2_end, Cond.selects RX2 yX2_end yX2_end, Cond.code yX2_end cX2_end 2 (some .int), Cond.fieldLink RX2 36 "FormworkYardModel" "volumes" "[I", Cond.methodLink RX2 85 yX2_rate, Cond.instanceMethod yX2_rate, Cond.selects RX2 yX2_rate yX2_rate, Cond.code yX2_rate cX2_rate 1 (some .int), Cond.fieldLink RX2 17 "FormworkYardModel" "trucks" "I", Cond.fieldLink RX2 20 "FormworkYardModel" "pump" "I", Cond.methodLink RX2 89 yX2_delays, Cond.instanceMethod yX2_delays, Cond.selects RX2 yX2_delays yX2_delays, Cond.code yX2_delays cX2_delays 4 (some .int), Cond.fieldLink RX2 45 "FormworkYardModel" "breakMany" "[I", Cond.fieldLink RX2 51 "FormworkYardModel" "lasts" "[I", Cond.methodLink RX2 95 yX2_strong, Cond.static yX2_strong, Cond.code yX2_strong cX2_strong 1 (some .int), Cond.methodLink RX2 81 yX2_between, Cond.static yX2_between, Cond.code yX2_between cX2_between 4 (some .int)]
def wsX2_struck_r3 : List Cond := [Cond.methodLink RX2 77 yX2_gain, Cond.instanceMethod yX2_gain, Cond.selects RX2 yX2_gain yX2_gain, Cond.code yX2_gain cX2_gain 3 (some .int), Cond.fieldLink RX2 7 "FormworkYardModel" "temperatures" "[I", Cond.methodLink RX2 73 yX2_isHour, Cond.static yX2_isHour, Cond.code yX2_isHour cX2_isHour 1 (some .boolean)]
def wsX2_struck : List Cond := .code yX2_struck cX2_struck 2 (some .int) :: ((wsX2_struck_r1 ++ (wsX2_struck_r2 ++ wsX2_struck_r3)) ++ wsX20)
def wsX2_freeFrom_r1 : List Cond := [Cond.fieldLink RX2 60 "FormworkYardModel" "frees" "[I", Cond.methodLink RX2 128 yX2_isAsked, Cond.instanceMethod yX2_isAsked, Cond.selects RX2 yX2_isAsked yX2_isAsked, Cond.initialized RX2, Cond.code yX2_isAsked cX2_isAsked 2 (some .boolean), Cond.fieldLink RX2 66 "FormworkYardModel" "thrown" "I", Cond.methodLink RX2 125 yX2_isPour, Cond.instanceMethod yX2_isPour, Cond.selects RX2 yX2_isPour yX2_isPour, Cond.code yX2_isPour cX2_isPour 2 (some .boolean), Cond.fieldLink RX2 29 "FormworkYardModel" "isThere" "[Z", Cond.methodLink RX2 69 yX2_in, Cond.static yX2_in, Cond.code yX2_in cX2_in 3 (some .boolean), Cond.methodLink RX2 98 yX2_works, Cond.instanceMethod yX2_works, Cond.selects RX2 yX2_works yX2_works, Cond.code yX2_works cX2_works 4 none, Cond.fieldLink RX2 54 "FormworkYardModel" "stands" "[I", Cond.fieldLink RX2 33 "FormworkYardModel" "starts" "[I", Cond.fieldLink RX2 23 "FormworkYardModel" "setUp" "I", Cond.fieldLink RX2 57 "FormworkYardModel" "strikes" "[I", Cond.fieldLink RX2 42 "FormworkYardModel" "wanted" "[I"]
def wsX2_freeFrom_r2 : List Cond := [Cond.fieldLink RX2 26 "FormworkYardModel" "cleaning" "I", Cond.methodLink RX2 92 yX2_end, Cond.instanceMethod yX2_end, Cond.selects RX2 yX2_end yX2_end, Cond.code yX2_end cX2_end 2 (some .int), Cond.fieldLink RX2 36 "FormworkYardModel" "volumes" "[I", Cond.methodLink RX2 85 yX2_rate, Cond.instanceMethod yX2_rate, Cond.selects RX2 yX2_rate yX2_rate, Cond.code yX2_rate cX2_rate 1 (some .int), Cond.fieldLink RX2 17 "FormworkYardModel" "trucks" "I", Cond.fieldLink RX2 20 "FormworkYardModel" "pump" "I", Cond.methodLink RX2 89 yX2_delays, Cond.instanceMethod yX2_delays, Cond.selects RX2 yX2_delays yX2_delays, Cond.code yX2_delays cX2_delays 4 (some .int), Cond.fieldLink RX2 45 "FormworkYardModel" "breakMany" "[I", Cond.fieldLink RX2 51 "FormworkYardModel" "lasts" "[I", Cond.methodLink RX2 95 yX2_strong, Cond.static yX2_strong, Cond.code yX2_strong cX2_strong 1 (some .int), Cond.methodLink RX2 81 yX2_between, Cond.static yX2_between, Cond.code yX2_between cX2_between 4 (some .int)]
def wsX2_freeFrom_r3 : List Cond := [Cond.methodLink RX2 77 yX2_gain, Cond.instanceMethod yX2_gain, Cond.selects RX2 yX2_gain yX2_gain, Cond.code yX2_gain cX2_gain 3 (some .int), Cond.fieldLink RX2 7 "FormworkYardModel" "temperatures" "[I", Cond.methodLink RX2 73 yX2_isHour, Cond.static yX2_isHour, Cond.code yX2_isHour cX2_isHour 1 (some .boolean)]
def wsX2_freeFrom : List Cond := .code yX2_freeFrom cX2_freeFrom 2 (some .int) :: ((wsX2_freeFrom_r1 ++ (wsX2_freeFrom_r2 ++ wsX2_freeFrom_r3)) ++ wsX20)
def wsX2_need_r1 : List Cond := [Cond.fieldLink RX2 66 "FormworkYardModel" "thrown" "I", Cond.methodLink RX2 73 yX2_isHour, Cond.static yX2_isHour, Cond.initialized RX2, Cond.code yX2_isHour cX2_isHour 1 (some .boolean), Cond.methodLink RX2 69 yX2_in, Cond.static yX2_in, Cond.code yX2_in cX2_in 3 (some .boolean), Cond.methodLink RX2 131 yX2_worksAll, Cond.instanceMethod yX2_worksAll, Cond.selects RX2 yX2_worksAll yX2_worksAll, Cond.code yX2_worksAll cX2_worksAll 2 none, Cond.fieldLink RX2 29 "FormworkYardModel" "isThere" "[Z", Cond.methodLink RX2 98 yX2_works, Cond.instanceMethod yX2_works, Cond.selects RX2 yX2_works yX2_works, Cond.code yX2_works cX2_works 4 none, Cond.fieldLink RX2 54 "FormworkYardModel" "stands" "[I", Cond.fieldLink RX2 33 "FormworkYardModel" "starts" "[I", Cond.fieldLink RX2 23 "FormworkYardModel" "setUp" "I", Cond.fieldLink RX2 57 "FormworkYardModel" "strikes" "[I", Cond.fieldLink RX2 42 "FormworkYardModel" "wanted" "[I", Cond.fieldLink RX2 60 "FormworkYardModel" "frees" "[I", Cond.fieldLink RX2 26 "FormworkYardModel" "cleaning" "I"]
def wsX2_need_r2 : List Cond := [Cond.methodLink RX2 92 yX2_end, Cond.instanceMethod yX2_end, Cond.selects RX2 yX2_end yX2_end, Cond.code yX2_end cX2_end 2 (some .int), Cond.fieldLink RX2 36 "FormworkYardModel" "volumes" "[I", Cond.methodLink RX2 85 yX2_rate, Cond.instanceMethod yX2_rate, Cond.selects RX2 yX2_rate yX2_rate, Cond.code yX2_rate cX2_rate 1 (some .int), Cond.fieldLink RX2 17 "FormworkYardModel" "trucks" "I", Cond.fieldLink RX2 20 "FormworkYardModel" "pump" "I", Cond.methodLink RX2 89 yX2_delays, Cond.instanceMethod yX2_delays, Cond.selects RX2 yX2_delays yX2_delays, Cond.code yX2_delays cX2_delays 4 (some .int), Cond.fieldLink RX2 45 "FormworkYardModel" "breakMany" "[I", Cond.fieldLink RX2 51 "FormworkYardModel" "lasts" "[I", Cond.methodLink RX2 95 yX2_strong, Cond.static yX2_strong, Cond.code yX2_strong cX2_strong 1 (some .int), Cond.methodLink RX2 81 yX2_between, Cond.static yX2_between, Cond.code yX2_between cX2_between 4 (some .int), Cond.methodLink RX2 77 yX2_gain]
def wsX2_need_r3 : List Cond := [Cond.instanceMethod yX2_gain, Cond.selects RX2 yX2_gain yX2_gain, Cond.code yX2_gain cX2_gain 3 (some .int), Cond.fieldLink RX2 7 "FormworkYardModel" "temperatures" "[I", Cond.methodLink RX2 134 yX2_needOf, Cond.instanceMethod yX2_needOf, Cond.selects RX2 yX2_needOf yX2_needOf, Cond.code yX2_needOf cX2_needOf 4 (some .int), Cond.fieldLink RX2 39 "FormworkYardModel" "needs" "[I", Cond.methodLink RX2 102 yX2_isBusy, Cond.instanceMethod yX2_isBusy, Cond.selects RX2 yX2_isBusy yX2_isBusy, Cond.code yX2_isBusy cX2_isBusy 3 (some .boolean)]
def wsX2_need : List Cond := .code yX2_need cX2_need 2 (some .int) :: ((wsX2_need_r1 ++ (wsX2_need_r2 ++ wsX2_need_r3)) ++ wsX20)
def wsX2_most_r1 : List Cond := [Cond.methodLink RX2 131 yX2_worksAll, Cond.instanceMethod yX2_worksAll, Cond.selects RX2 yX2_worksAll yX2_worksAll, Cond.initialized RX2, Cond.code yX2_worksAll cX2_worksAll 2 none, Cond.fieldLink RX2 29 "FormworkYardModel" "isThere" "[Z", Cond.methodLink RX2 98 yX2_works, Cond.instanceMethod yX2_works, Cond.selects RX2 yX2_works yX2_works, Cond.code yX2_works cX2_works 4 none, Cond.fieldLink RX2 54 "FormworkYardModel" "stands" "[I", Cond.fieldLink RX2 33 "FormworkYardModel" "starts" "[I", Cond.fieldLink RX2 23 "FormworkYardModel" "setUp" "I", Cond.fieldLink RX2 57 "FormworkYardModel" "strikes" "[I", Cond.fieldLink RX2 42 "FormworkYardModel" "wanted" "[I", Cond.fieldLink RX2 60 "FormworkYardModel" "frees" "[I", Cond.fieldLink RX2 26 "FormworkYardModel" "cleaning" "I", Cond.methodLink RX2 92 yX2_end, Cond.instanceMethod yX2_end, Cond.selects RX2 yX2_end yX2_end, Cond.code yX2_end cX2_end 2 (some .int), Cond.fieldLink RX2 36 "FormworkYardModel" "volumes" "[I", Cond.methodLink RX2 85 yX2_rate, Cond.instanceMethod yX2_rate]
def wsX2_most_r2 : List Cond := [Cond.selects RX2 yX2_rate yX2_rate, Cond.code yX2_rate cX2_rate 1 (some .int), Cond.fieldLink RX2 17 "FormworkYardModel" "trucks" "I", Cond.fieldLink RX2 20 "FormworkYardModel" "pump" "I", Cond.methodLink RX2 89 yX2_delays, Cond.instanceMethod yX2_delays, Cond.selects RX2 yX2_delays yX2_delays, Cond.code yX2_delays cX2_delays 4 (some .int), Cond.fieldLink RX2 45 "FormworkYardModel" "breakMany" "[I", Cond.fieldLink RX2 51 "FormworkYardModel" "lasts" "[I", Cond.methodLink RX2 95 yX2_strong, Cond.static yX2_strong, Cond.code yX2_strong cX2_strong 1 (some .int), Cond.methodLink RX2 81 yX2_between, Cond.static yX2_between, Cond.code yX2_between cX2_between 4 (some .int), Cond.methodLink RX2 77 yX2_gain, Cond.instanceMethod yX2_gain, Cond.selects RX2 yX2_gain yX2_gain, Cond.code yX2_gain cX2_gain 3 (some .int), Cond.fieldLink RX2 7 "FormworkYardModel" "temperatures" "[I", Cond.methodLink RX2 73 yX2_isHour, Cond.static yX2_isHour, Cond.code yX2_isHour cX2_isHour 1 (some .boolean)]
def wsX2_most_r3 : List Cond := [Cond.methodLink RX2 69 yX2_in, Cond.static yX2_in, Cond.code yX2_in cX2_in 3 (some .boolean), Cond.methodLink RX2 134 yX2_needOf, Cond.instanceMethod yX2_needOf, Cond.selects RX2 yX2_needOf yX2_needOf, Cond.code yX2_needOf cX2_needOf 4 (some .int), Cond.fieldLink RX2 39 "FormworkYardModel" "needs" "[I", Cond.methodLink RX2 102 yX2_isBusy, Cond.instanceMethod yX2_isBusy, Cond.selects RX2 yX2_isBusy yX2_isBusy, Cond.code yX2_isBusy cX2_isBusy 3 (some .boolean)]
def wsX2_most : List Cond := .code yX2_most cX2_most 3 (some .int) :: ((wsX2_most_r1 ++ (wsX2_most_r2 ++ wsX2_most_r3)) ++ wsX20)
def wsX2_peak_r1 : List Cond := [Cond.fieldLink RX2 66 "FormworkYardModel" "thrown" "I", Cond.methodLink RX2 137 yX2_most, Cond.instanceMethod yX2_most, Cond.selects RX2 yX2_most yX2_most, Cond.initialized RX2, Cond.code yX2_most cX2_most 3 (some .int), Cond.methodLink RX2 131 yX2_worksAll, Cond.instanceMethod yX2_worksAll, Cond.selects RX2 yX2_worksAll yX2_worksAll, Cond.code yX2_worksAll cX2_worksAll 2 none, Cond.fieldLink RX2 29 "FormworkYardModel" "isThere" "[Z", Cond.methodLink RX2 98 yX2_works, Cond.instanceMethod yX2_works, Cond.selects RX2 yX2_works yX2_works, Cond.code yX2_works cX2_works 4 none, Cond.fieldLink RX2 54 "FormworkYardModel" "stands" "[I", Cond.fieldLink RX2 33 "FormworkYardModel" "starts" "[I", Cond.fieldLink RX2 23 "FormworkYardModel" "setUp" "I", Cond.fieldLink RX2 57 "FormworkYardModel" "strikes" "[I", Cond.fieldLink RX2 42 "FormworkYardModel" "wanted" "[I", Cond.fieldLink RX2 60 "FormworkYardModel" "frees" "[I", Cond.fieldLink RX2 26 "FormworkYardModel" "cleaning" "I", Cond.methodLink RX2 92 yX2_end, Cond.instanceMethod yX2_end]
def wsX2_peak_r2 : List Cond := [Cond.selects RX2 yX2_end yX2_end, Cond.code yX2_end cX2_end 2 (some .int), Cond.fieldLink RX2 36 "FormworkYardModel" "volumes" "[I", Cond.methodLink RX2 85 yX2_rate, Cond.instanceMethod yX2_rate, Cond.selects RX2 yX2_rate yX2_rate, Cond.code yX2_rate cX2_rate 1 (some .int), Cond.fieldLink RX2 17 "FormworkYardModel" "trucks" "I", Cond.fieldLink RX2 20 "FormworkYardModel" "pump" "I", Cond.methodLink RX2 89 yX2_delays, Cond.instanceMethod yX2_delays, Cond.selects RX2 yX2_delays yX2_delays, Cond.code yX2_delays cX2_delays 4 (some .int), Cond.fieldLink RX2 45 "FormworkYardModel" "breakMany" "[I", Cond.fieldLink RX2 51 "FormworkYardModel" "lasts" "[I", Cond.methodLink RX2 95 yX2_strong, Cond.static yX2_strong, Cond.code yX2_strong cX2_strong 1 (some .int), Cond.methodLink RX2 81 yX2_between, Cond.static yX2_between, Cond.code yX2_between cX2_between 4 (some .int), Cond.methodLink RX2 77 yX2_gain, Cond.instanceMethod yX2_gain, Cond.selects RX2 yX2_gain yX2_gain]
def wsX2_peak_r3 : List Cond := [Cond.code yX2_gain cX2_gain 3 (some .int), Cond.fieldLink RX2 7 "FormworkYardModel" "temperatures" "[I", Cond.methodLink RX2 73 yX2_isHour, Cond.static yX2_isHour, Cond.code yX2_isHour cX2_isHour 1 (some .boolean), Cond.methodLink RX2 69 yX2_in, Cond.static yX2_in, Cond.code yX2_in cX2_in 3 (some .boolean), Cond.methodLink RX2 134 yX2_needOf, Cond.instanceMethod yX2_needOf, Cond.selects RX2 yX2_needOf yX2_needOf, Cond.code yX2_needOf cX2_needOf 4 (some .int), Cond.fieldLink RX2 39 "FormworkYardModel" "needs" "[I", Cond.methodLink RX2 102 yX2_isBusy, Cond.instanceMethod yX2_isBusy, Cond.selects RX2 yX2_isBusy yX2_isBusy, Cond.code yX2_isBusy cX2_isBusy 3 (some .boolean)]
def wsX2_peak : List Cond := .code yX2_peak cX2_peak 1 (some .int) :: ((wsX2_peak_r1 ++ (wsX2_peak_r2 ++ wsX2_peak_r3)) ++ wsX20)
def wsX2_peakByOverlaps_r1 : List Cond := [Cond.fieldLink RX2 66 "FormworkYardModel" "thrown" "I", Cond.methodLink RX2 137 yX2_most, Cond.instanceMethod yX2_most, Cond.selects RX2 yX2_most yX2_most, Cond.initialized RX2, Cond.code yX2_most cX2_most 3 (some .int), Cond.methodLink RX2 131 yX2_worksAll, Cond.instanceMethod yX2_worksAll, Cond.selects RX2 yX2_worksAll yX2_worksAll, Cond.code yX2_worksAll cX2_worksAll 2 none, Cond.fieldLink RX2 29 "FormworkYardModel" "isThere" "[Z", Cond.methodLink RX2 98 yX2_works, Cond.instanceMethod yX2_works, Cond.selects RX2 yX2_works yX2_works, Cond.code yX2_works cX2_works 4 none, Cond.fieldLink RX2 54 "FormworkYardModel" "stands" "[I", Cond.fieldLink RX2 33 "FormworkYardModel" "starts" "[I", Cond.fieldLink RX2 23 "FormworkYardModel" "setUp" "I", Cond.fieldLink RX2 57 "FormworkYardModel" "strikes" "[I", Cond.fieldLink RX2 42 "FormworkYardModel" "wanted" "[I", Cond.fieldLink RX2 60 "FormworkYardModel" "frees" "[I", Cond.fieldLink RX2 26 "FormworkYardModel" "cleaning" "I", Cond.methodLink RX2 92 yX2_end, Cond.instanceMethod yX2_end]
def wsX2_peakByOverlaps_r2 : List Cond := [Cond.selects RX2 yX2_end yX2_end, Cond.code yX2_end cX2_end 2 (some .int), Cond.fieldLink RX2 36 "FormworkYardModel" "volumes" "[I", Cond.methodLink RX2 85 yX2_rate, Cond.instanceMethod yX2_rate, Cond.selects RX2 yX2_rate yX2_rate, Cond.code yX2_rate cX2_rate 1 (some .int), Cond.fieldLink RX2 17 "FormworkYardModel" "trucks" "I", Cond.fieldLink RX2 20 "FormworkYardModel" "pump" "I", Cond.methodLink RX2 89 yX2_delays, Cond.instanceMethod yX2_delays, Cond.selects RX2 yX2_delays yX2_delays, Cond.code yX2_delays cX2_delays 4 (some .int), Cond.fieldLink RX2 45 "FormworkYardModel" "breakMany" "[I", Cond.fieldLink RX2 51 "FormworkYardModel" "lasts" "[I", Cond.methodLink RX2 95 yX2_strong, Cond.static yX2_strong, Cond.code yX2_strong cX2_strong 1 (some .int), Cond.methodLink RX2 81 yX2_between, Cond.static yX2_between, Cond.code yX2_between cX2_between 4 (some .int), Cond.methodLink RX2 77 yX2_gain, Cond.instanceMethod yX2_gain, Cond.selects RX2 yX2_gain yX2_gain]
def wsX2_peakByOverlaps_r3 : List Cond := [Cond.code yX2_gain cX2_gain 3 (some .int), Cond.fieldLink RX2 7 "FormworkYardModel" "temperatures" "[I", Cond.methodLink RX2 73 yX2_isHour, Cond.static yX2_isHour, Cond.code yX2_isHour cX2_isHour 1 (some .boolean), Cond.methodLink RX2 69 yX2_in, Cond.static yX2_in, Cond.code yX2_in cX2_in 3 (some .boolean), Cond.methodLink RX2 134 yX2_needOf, Cond.instanceMethod yX2_needOf, Cond.selects RX2 yX2_needOf yX2_needOf, Cond.code yX2_needOf cX2_needOf 4 (some .int), Cond.fieldLink RX2 39 "FormworkYardModel" "needs" "[I", Cond.methodLink RX2 102 yX2_isBusy, Cond.instanceMethod yX2_isBusy, Cond.selects RX2 yX2_isBusy yX2_isBusy, Cond.code yX2_isBusy cX2_isBusy 3 (some .boolean)]
def wsX2_peakByOverlaps : List Cond := .code yX2_peakByOverlaps cX2_peakByOverlaps 1 (some .int) :: ((wsX2_peakByOverlaps_r1 ++ (wsX2_peakByOverlaps_r2 ++ wsX2_peakByOverlaps_r3)) ++ wsX20)
def wsX2_firstShort_r1 : List Cond := [Cond.fieldLink RX2 66 "FormworkYardModel" "thrown" "I", Cond.fieldLink RX2 13 "FormworkYardModel" "panels" "I", Cond.methodLink RX2 131 yX2_worksAll, Cond.instanceMethod yX2_worksAll, Cond.selects RX2 yX2_worksAll yX2_worksAll, Cond.initialized RX2, Cond.code yX2_worksAll cX2_worksAll 2 none, Cond.fieldLink RX2 29 "FormworkYardModel" "isThere" "[Z", Cond.methodLink RX2 98 yX2_works, Cond.instanceMethod yX2_works, Cond.selects RX2 yX2_works yX2_works, Cond.code yX2_works cX2_works 4 none, Cond.fieldLink RX2 54 "FormworkYardModel" "stands" "[I", Cond.fieldLink RX2 33 "FormworkYardModel" "starts" "[I", Cond.fieldLink RX2 23 "FormworkYardModel" "setUp" "I", Cond.fieldLink RX2 57 "FormworkYardModel" "strikes" "[I", Cond.fieldLink RX2 42 "FormworkYardModel" "wanted" "[I", Cond.fieldLink RX2 60 "FormworkYardModel" "frees" "[I", Cond.fieldLink RX2 26 "FormworkYardModel" "cleaning" "I", Cond.methodLink RX2 92 yX2_end, Cond.instanceMethod yX2_end, Cond.selects RX2 yX2_end yX2_end, Cond.code yX2_end cX2_end 2 (some .int), Cond.fieldLink RX2 36 "FormworkYardModel" "volumes" "[I"]
def wsX2_firstShort_r2 : List Cond := [Cond.methodLink RX2 85 yX2_rate, Cond.instanceMethod yX2_rate, Cond.selects RX2 yX2_rate yX2_rate, Cond.code yX2_rate cX2_rate 1 (some .int), Cond.fieldLink RX2 17 "FormworkYardModel" "trucks" "I", Cond.fieldLink RX2 20 "FormworkYardModel" "pump" "I", Cond.methodLink RX2 89 yX2_delays, Cond.instanceMethod yX2_delays, Cond.selects RX2 yX2_delays yX2_delays, Cond.code yX2_delays cX2_delays 4 (some .int), Cond.fieldLink RX2 45 "FormworkYardModel" "breakMany" "[I", Cond.fieldLink RX2 51 "FormworkYardModel" "lasts" "[I", Cond.methodLink RX2 95 yX2_strong, Cond.static yX2_strong, Cond.code yX2_strong cX2_strong 1 (some .int), Cond.methodLink RX2 81 yX2_between, Cond.static yX2_between, Cond.code yX2_between cX2_between 4 (some .int), Cond.methodLink RX2 77 yX2_gain, Cond.instanceMethod yX2_gain, Cond.selects RX2 yX2_gain yX2_gain, Cond.code yX2_gain cX2_gain 3 (some .int), Cond.fieldLink RX2 7 "FormworkYardModel" "temperatures" "[I", Cond.methodLink RX2 73 yX2_isHour]
def wsX2_firstShort_r3 : List Cond := [Cond.static yX2_isHour, Cond.code yX2_isHour cX2_isHour 1 (some .boolean), Cond.methodLink RX2 69 yX2_in, Cond.static yX2_in, Cond.code yX2_in cX2_in 3 (some .boolean), Cond.methodLink RX2 134 yX2_needOf, Cond.instanceMethod yX2_needOf, Cond.selects RX2 yX2_needOf yX2_needOf, Cond.code yX2_needOf cX2_needOf 4 (some .int), Cond.fieldLink RX2 39 "FormworkYardModel" "needs" "[I", Cond.methodLink RX2 102 yX2_isBusy, Cond.instanceMethod yX2_isBusy, Cond.selects RX2 yX2_isBusy yX2_isBusy, Cond.code yX2_isBusy cX2_isBusy 3 (some .boolean)]
def wsX2_firstShort : List Cond := .code yX2_firstShort cX2_firstShort 3 (some .int) :: ((wsX2_firstShort_r1 ++ (wsX2_firstShort_r2 ++ wsX2_firstShort_r3)) ++ wsX20)
def wsX2_fits_r1 : List Cond := [Cond.fieldLink RX2 54 "FormworkYardModel" "stands" "[I", Cond.fieldLink RX2 60 "FormworkYardModel" "frees" "[I", Cond.fieldLink RX2 39 "FormworkYardModel" "needs" "[I", Cond.fieldLink RX2 13 "FormworkYardModel" "panels" "I", Cond.methodLink RX2 98 yX2_works, Cond.instanceMethod yX2_works, Cond.selects RX2 yX2_works yX2_works, Cond.initialized RX2, Cond.code yX2_works cX2_works 4 none, Cond.fieldLink RX2 33 "FormworkYardModel" "starts" "[I", Cond.fieldLink RX2 23 "FormworkYardModel" "setUp" "I", Cond.fieldLink RX2 57 "FormworkYardModel" "strikes" "[I", Cond.fieldLink RX2 42 "FormworkYardModel" "wanted" "[I", Cond.fieldLink RX2 26 "FormworkYardModel" "cleaning" "I", Cond.methodLink RX2 92 yX2_end, Cond.instanceMethod yX2_end, Cond.selects RX2 yX2_end yX2_end, Cond.code yX2_end cX2_end 2 (some .int), Cond.fieldLink RX2 36 "FormworkYardModel" "volumes" "[I", Cond.methodLink RX2 85 yX2_rate, Cond.instanceMethod yX2_rate, Cond.selects RX2 yX2_rate yX2_rate, Cond.code yX2_rate cX2_rate 1 (some .int), Cond.fieldLink RX2 17 "FormworkYardModel" "trucks" "I"]
def wsX2_fits_r2 : List Cond := [Cond.fieldLink RX2 20 "FormworkYardModel" "pump" "I", Cond.methodLink RX2 89 yX2_delays, Cond.instanceMethod yX2_delays, Cond.selects RX2 yX2_delays yX2_delays, Cond.code yX2_delays cX2_delays 4 (some .int), Cond.fieldLink RX2 45 "FormworkYardModel" "breakMany" "[I", Cond.fieldLink RX2 51 "FormworkYardModel" "lasts" "[I", Cond.methodLink RX2 95 yX2_strong, Cond.static yX2_strong, Cond.code yX2_strong cX2_strong 1 (some .int), Cond.methodLink RX2 81 yX2_between, Cond.static yX2_between, Cond.code yX2_between cX2_between 4 (some .int), Cond.methodLink RX2 77 yX2_gain, Cond.instanceMethod yX2_gain, Cond.selects RX2 yX2_gain yX2_gain, Cond.code yX2_gain cX2_gain 3 (some .int), Cond.fieldLink RX2 7 "FormworkYardModel" "temperatures" "[I", Cond.methodLink RX2 73 yX2_isHour, Cond.static yX2_isHour, Cond.code yX2_isHour cX2_isHour 1 (some .boolean), Cond.methodLink RX2 69 yX2_in, Cond.static yX2_in, Cond.code yX2_in cX2_in 3 (some .boolean)]
def wsX2_fits_r3 : List Cond := [Cond.methodLink RX2 134 yX2_needOf, Cond.instanceMethod yX2_needOf, Cond.selects RX2 yX2_needOf yX2_needOf, Cond.code yX2_needOf cX2_needOf 4 (some .int), Cond.methodLink RX2 102 yX2_isBusy, Cond.instanceMethod yX2_isBusy, Cond.selects RX2 yX2_isBusy yX2_isBusy, Cond.code yX2_isBusy cX2_isBusy 3 (some .boolean), Cond.fieldLink RX2 29 "FormworkYardModel" "isThere" "[Z"]
def wsX2_fits : List Cond := .code yX2_fits cX2_fits 3 (some .boolean) :: ((wsX2_fits_r1 ++ (wsX2_fits_r2 ++ wsX2_fits_r3)) ++ wsX20)
def wsX2_earliest_r1 : List Cond := [Cond.fieldLink RX2 66 "FormworkYardModel" "thrown" "I", Cond.methodLink RX2 117 yX2_isPlan, Cond.static yX2_isPlan, Cond.initialized RX2, Cond.code yX2_isPlan cX2_isPlan 4 (some .boolean), Cond.methodLink RX2 69 yX2_in, Cond.static yX2_in, Cond.code yX2_in cX2_in 3 (some .boolean), Cond.methodLink RX2 131 yX2_worksAll, Cond.instanceMethod yX2_worksAll, Cond.selects RX2 yX2_worksAll yX2_worksAll, Cond.code yX2_worksAll cX2_worksAll 2 none, Cond.fieldLink RX2 29 "FormworkYardModel" "isThere" "[Z", Cond.methodLink RX2 98 yX2_works, Cond.instanceMethod yX2_works, Cond.selects RX2 yX2_works yX2_works, Cond.code yX2_works cX2_works 4 none, Cond.fieldLink RX2 54 "FormworkYardModel" "stands" "[I", Cond.fieldLink RX2 33 "FormworkYardModel" "starts" "[I", Cond.fieldLink RX2 23 "FormworkYardModel" "setUp" "I", Cond.fieldLink RX2 57 "FormworkYardModel" "strikes" "[I", Cond.fieldLink RX2 42 "FormworkYardModel" "wanted" "[I", Cond.fieldLink RX2 60 "FormworkYardModel" "frees" "[I", Cond.fieldLink RX2 26 "FormworkYardModel" "cleaning" "I"]
def wsX2_earliest_r2 : List Cond := [Cond.methodLink RX2 92 yX2_end, Cond.instanceMethod yX2_end, Cond.selects RX2 yX2_end yX2_end, Cond.code yX2_end cX2_end 2 (some .int), Cond.fieldLink RX2 36 "FormworkYardModel" "volumes" "[I", Cond.methodLink RX2 85 yX2_rate, Cond.instanceMethod yX2_rate, Cond.selects RX2 yX2_rate yX2_rate, Cond.code yX2_rate cX2_rate 1 (some .int), Cond.fieldLink RX2 17 "FormworkYardModel" "trucks" "I", Cond.fieldLink RX2 20 "FormworkYardModel" "pump" "I", Cond.methodLink RX2 89 yX2_delays, Cond.instanceMethod yX2_delays, Cond.selects RX2 yX2_delays yX2_delays, Cond.code yX2_delays cX2_delays 4 (some .int), Cond.fieldLink RX2 45 "FormworkYardModel" "breakMany" "[I", Cond.fieldLink RX2 51 "FormworkYardModel" "lasts" "[I", Cond.methodLink RX2 95 yX2_strong, Cond.static yX2_strong, Cond.code yX2_strong cX2_strong 1 (some .int), Cond.methodLink RX2 81 yX2_between, Cond.static yX2_between, Cond.code yX2_between cX2_between 4 (some .int), Cond.methodLink RX2 77 yX2_gain]
def wsX2_earliest_r3 : List Cond := [Cond.instanceMethod yX2_gain, Cond.selects RX2 yX2_gain yX2_gain, Cond.code yX2_gain cX2_gain 3 (some .int), Cond.fieldLink RX2 7 "FormworkYardModel" "temperatures" "[I", Cond.methodLink RX2 73 yX2_isHour, Cond.static yX2_isHour, Cond.code yX2_isHour cX2_isHour 1 (some .boolean), Cond.methodLink RX2 121 yX2_lays, Cond.instanceMethod yX2_lays, Cond.selects RX2 yX2_lays yX2_lays, Cond.code yX2_lays cX2_lays 6 none, Cond.fieldLink RX2 39 "FormworkYardModel" "needs" "[I", Cond.methodLink RX2 140 yX2_fits, Cond.instanceMethod yX2_fits, Cond.selects RX2 yX2_fits yX2_fits, Cond.code yX2_fits cX2_fits 3 (some .boolean), Cond.fieldLink RX2 13 "FormworkYardModel" "panels" "I", Cond.methodLink RX2 134 yX2_needOf, Cond.instanceMethod yX2_needOf, Cond.selects RX2 yX2_needOf yX2_needOf, Cond.code yX2_needOf cX2_needOf 4 (some .int), Cond.methodLink RX2 102 yX2_isBusy, Cond.instanceMethod yX2_isBusy, Cond.selects RX2 yX2_isBusy yX2_isBusy]
def wsX2_earliest_r4 : List Cond := [Cond.code yX2_isBusy cX2_isBusy 3 (some .boolean)]
def wsX2_earliest : List Cond := .code yX2_earliest cX2_earliest 6 (some .int) :: ((wsX2_earliest_r1 ++ (wsX2_earliest_r2 ++ (wsX2_earliest_r3 ++ wsX2_earliest_r4))) ++ wsX20)
def wsX2_isTaken : List Cond := .code yX2_isTaken cX2_isTaken 5 (some .boolean) :: ([.fieldLink RX2 63 "FormworkYardModel" "has" "[Z", .methodLink RX2 102 yX2_isBusy, .instanceMethod yX2_isBusy, .selects RX2 yX2_isBusy yX2_isBusy, .initialized RX2, .code yX2_isBusy cX2_isBusy 3 (some .boolean), .fieldLink RX2 29 "FormworkYardModel" "isThere" "[Z", .fieldLink RX2 54 "FormworkYardModel" "stands" "[I", .fieldLink RX2 60 "FormworkYardModel" "frees" "[I"] ++ wsX20)
def wsX2_gives_r1 : List Cond := [Cond.fieldLink RX2 63 "FormworkYardModel" "has" "[Z", Cond.fieldLink RX2 29 "FormworkYardModel" "isThere" "[Z", Cond.fieldLink RX2 54 "FormworkYardModel" "stands" "[I", Cond.fieldLink RX2 39 "FormworkYardModel" "needs" "[I", Cond.fieldLink RX2 13 "FormworkYardModel" "panels" "I", Cond.methodLink RX2 131 yX2_worksAll, Cond.instanceMethod yX2_worksAll, Cond.selects RX2 yX2_worksAll yX2_worksAll, Cond.initialized RX2, Cond.code yX2_worksAll cX2_worksAll 2 none, Cond.methodLink RX2 98 yX2_works, Cond.instanceMethod yX2_works, Cond.selects RX2 yX2_works yX2_works, Cond.code yX2_works cX2_works 4 none, Cond.fieldLink RX2 33 "FormworkYardModel" "starts" "[I", Cond.fieldLink RX2 23 "FormworkYardModel" "setUp" "I", Cond.fieldLink RX2 57 "FormworkYardModel" "strikes" "[I", Cond.fieldLink RX2 42 "FormworkYardModel" "wanted" "[I", Cond.fieldLink RX2 60 "FormworkYardModel" "frees" "[I", Cond.fieldLink RX2 26 "FormworkYardModel" "cleaning" "I", Cond.methodLink RX2 92 yX2_end, Cond.instanceMethod yX2_end, Cond.selects RX2 yX2_end yX2_end, Cond.code yX2_end cX2_end 2 (some .int)]
def wsX2_gives_r2 : List Cond := [Cond.fieldLink RX2 36 "FormworkYardModel" "volumes" "[I", Cond.methodLink RX2 85 yX2_rate, Cond.instanceMethod yX2_rate, Cond.selects RX2 yX2_rate yX2_rate, Cond.code yX2_rate cX2_rate 1 (some .int), Cond.fieldLink RX2 17 "FormworkYardModel" "trucks" "I", Cond.fieldLink RX2 20 "FormworkYardModel" "pump" "I", Cond.methodLink RX2 89 yX2_delays, Cond.instanceMethod yX2_delays, Cond.selects RX2 yX2_delays yX2_delays, Cond.code yX2_delays cX2_delays 4 (some .int), Cond.fieldLink RX2 45 "FormworkYardModel" "breakMany" "[I", Cond.fieldLink RX2 51 "FormworkYardModel" "lasts" "[I", Cond.methodLink RX2 95 yX2_strong, Cond.static yX2_strong, Cond.code yX2_strong cX2_strong 1 (some .int), Cond.methodLink RX2 81 yX2_between, Cond.static yX2_between, Cond.code yX2_between cX2_between 4 (some .int), Cond.methodLink RX2 77 yX2_gain, Cond.instanceMethod yX2_gain, Cond.selects RX2 yX2_gain yX2_gain, Cond.code yX2_gain cX2_gain 3 (some .int), Cond.fieldLink RX2 7 "FormworkYardModel" "temperatures" "[I"]
def wsX2_gives_r3 : List Cond := [Cond.methodLink RX2 73 yX2_isHour, Cond.static yX2_isHour, Cond.code yX2_isHour cX2_isHour 1 (some .boolean), Cond.methodLink RX2 69 yX2_in, Cond.static yX2_in, Cond.code yX2_in cX2_in 3 (some .boolean), Cond.methodLink RX2 144 yX2_isTaken, Cond.instanceMethod yX2_isTaken, Cond.selects RX2 yX2_isTaken yX2_isTaken, Cond.code yX2_isTaken cX2_isTaken 5 (some .boolean), Cond.methodLink RX2 102 yX2_isBusy, Cond.instanceMethod yX2_isBusy, Cond.selects RX2 yX2_isBusy yX2_isBusy, Cond.code yX2_isBusy cX2_isBusy 3 (some .boolean)]
def wsX2_gives : List Cond := .code yX2_gives cX2_gives 5 none :: ((wsX2_gives_r1 ++ (wsX2_gives_r2 ++ wsX2_gives_r3)) ++ wsX20)
def wsX2_panelsOf_r1 : List Cond := [Cond.fieldLink RX2 66 "FormworkYardModel" "thrown" "I", Cond.fieldLink RX2 63 "FormworkYardModel" "has" "[Z", Cond.methodLink RX2 125 yX2_isPour, Cond.instanceMethod yX2_isPour, Cond.selects RX2 yX2_isPour yX2_isPour, Cond.initialized RX2, Cond.code yX2_isPour cX2_isPour 2 (some .boolean), Cond.fieldLink RX2 29 "FormworkYardModel" "isThere" "[Z", Cond.methodLink RX2 69 yX2_in, Cond.static yX2_in, Cond.code yX2_in cX2_in 3 (some .boolean), Cond.methodLink RX2 147 yX2_gives, Cond.instanceMethod yX2_gives, Cond.selects RX2 yX2_gives yX2_gives, Cond.code yX2_gives cX2_gives 5 none, Cond.fieldLink RX2 54 "FormworkYardModel" "stands" "[I", Cond.fieldLink RX2 39 "FormworkYardModel" "needs" "[I", Cond.fieldLink RX2 13 "FormworkYardModel" "panels" "I", Cond.methodLink RX2 131 yX2_worksAll, Cond.instanceMethod yX2_worksAll, Cond.selects RX2 yX2_worksAll yX2_worksAll, Cond.code yX2_worksAll cX2_worksAll 2 none, Cond.methodLink RX2 98 yX2_works, Cond.instanceMethod yX2_works]
def wsX2_panelsOf_r2 : List Cond := [Cond.selects RX2 yX2_works yX2_works, Cond.code yX2_works cX2_works 4 none, Cond.fieldLink RX2 33 "FormworkYardModel" "starts" "[I", Cond.fieldLink RX2 23 "FormworkYardModel" "setUp" "I", Cond.fieldLink RX2 57 "FormworkYardModel" "strikes" "[I", Cond.fieldLink RX2 42 "FormworkYardModel" "wanted" "[I", Cond.fieldLink RX2 60 "FormworkYardModel" "frees" "[I", Cond.fieldLink RX2 26 "FormworkYardModel" "cleaning" "I", Cond.methodLink RX2 92 yX2_end, Cond.instanceMethod yX2_end, Cond.selects RX2 yX2_end yX2_end, Cond.code yX2_end cX2_end 2 (some .int), Cond.fieldLink RX2 36 "FormworkYardModel" "volumes" "[I", Cond.methodLink RX2 85 yX2_rate, Cond.instanceMethod yX2_rate, Cond.selects RX2 yX2_rate yX2_rate, Cond.code yX2_rate cX2_rate 1 (some .int), Cond.fieldLink RX2 17 "FormworkYardModel" "trucks" "I", Cond.fieldLink RX2 20 "FormworkYardModel" "pump" "I", Cond.methodLink RX2 89 yX2_delays, Cond.instanceMethod yX2_delays, Cond.selects RX2 yX2_delays yX2_delays, Cond.code yX2_delays cX2_delays 4 (some .int), Cond.fieldLink RX2 45 "FormworkYardModel" "breakMany" "[I"]
def wsX2_panelsOf_r3 : List Cond := [Cond.fieldLink RX2 51 "FormworkYardModel" "lasts" "[I", Cond.methodLink RX2 95 yX2_strong, Cond.static yX2_strong, Cond.code yX2_strong cX2_strong 1 (some .int), Cond.methodLink RX2 81 yX2_between, Cond.static yX2_between, Cond.code yX2_between cX2_between 4 (some .int), Cond.methodLink RX2 77 yX2_gain, Cond.instanceMethod yX2_gain, Cond.selects RX2 yX2_gain yX2_gain, Cond.code yX2_gain cX2_gain 3 (some .int), Cond.fieldLink RX2 7 "FormworkYardModel" "temperatures" "[I", Cond.methodLink RX2 73 yX2_isHour, Cond.static yX2_isHour, Cond.code yX2_isHour cX2_isHour 1 (some .boolean), Cond.methodLink RX2 144 yX2_isTaken, Cond.instanceMethod yX2_isTaken, Cond.selects RX2 yX2_isTaken yX2_isTaken, Cond.code yX2_isTaken cX2_isTaken 5 (some .boolean), Cond.methodLink RX2 102 yX2_isBusy, Cond.instanceMethod yX2_isBusy, Cond.selects RX2 yX2_isBusy yX2_isBusy, Cond.code yX2_isBusy cX2_isBusy 3 (some .boolean)]
def wsX2_panelsOf : List Cond := .code yX2_panelsOf cX2_panelsOf 4 (some .int) :: ((wsX2_panelsOf_r1 ++ (wsX2_panelsOf_r2 ++ wsX2_panelsOf_r3)) ++ wsX20)
def wsX2_pourOf_r1 : List Cond := [Cond.fieldLink RX2 13 "FormworkYardModel" "panels" "I", Cond.fieldLink RX2 66 "FormworkYardModel" "thrown" "I", Cond.fieldLink RX2 63 "FormworkYardModel" "has" "[Z", Cond.methodLink RX2 69 yX2_in, Cond.static yX2_in, Cond.initialized RX2, Cond.code yX2_in cX2_in 3 (some .boolean), Cond.methodLink RX2 73 yX2_isHour, Cond.static yX2_isHour, Cond.code yX2_isHour cX2_isHour 1 (some .boolean), Cond.methodLink RX2 147 yX2_gives, Cond.instanceMethod yX2_gives, Cond.selects RX2 yX2_gives yX2_gives, Cond.code yX2_gives cX2_gives 5 none, Cond.fieldLink RX2 29 "FormworkYardModel" "isThere" "[Z", Cond.fieldLink RX2 54 "FormworkYardModel" "stands" "[I", Cond.fieldLink RX2 39 "FormworkYardModel" "needs" "[I", Cond.methodLink RX2 131 yX2_worksAll, Cond.instanceMethod yX2_worksAll, Cond.selects RX2 yX2_worksAll yX2_worksAll, Cond.code yX2_worksAll cX2_worksAll 2 none, Cond.methodLink RX2 98 yX2_works, Cond.instanceMethod yX2_works, Cond.selects RX2 yX2_works yX2_works]
def wsX2_pourOf_r2 : List Cond := [Cond.code yX2_works cX2_works 4 none, Cond.fieldLink RX2 33 "FormworkYardModel" "starts" "[I", Cond.fieldLink RX2 23 "FormworkYardModel" "setUp" "I", Cond.fieldLink RX2 57 "FormworkYardModel" "strikes" "[I", Cond.fieldLink RX2 42 "FormworkYardModel" "wanted" "[I", Cond.fieldLink RX2 60 "FormworkYardModel" "frees" "[I", Cond.fieldLink RX2 26 "FormworkYardModel" "cleaning" "I", Cond.methodLink RX2 92 yX2_end, Cond.instanceMethod yX2_end, Cond.selects RX2 yX2_end yX2_end, Cond.code yX2_end cX2_end 2 (some .int), Cond.fieldLink RX2 36 "FormworkYardModel" "volumes" "[I", Cond.methodLink RX2 85 yX2_rate, Cond.instanceMethod yX2_rate, Cond.selects RX2 yX2_rate yX2_rate, Cond.code yX2_rate cX2_rate 1 (some .int), Cond.fieldLink RX2 17 "FormworkYardModel" "trucks" "I", Cond.fieldLink RX2 20 "FormworkYardModel" "pump" "I", Cond.methodLink RX2 89 yX2_delays, Cond.instanceMethod yX2_delays, Cond.selects RX2 yX2_delays yX2_delays, Cond.code yX2_delays cX2_delays 4 (some .int), Cond.fieldLink RX2 45 "FormworkYardModel" "breakMany" "[I", Cond.fieldLink RX2 51 "FormworkYardModel" "lasts" "[I"]
def wsX2_pourOf_r3 : List Cond := [Cond.methodLink RX2 95 yX2_strong, Cond.static yX2_strong, Cond.code yX2_strong cX2_strong 1 (some .int), Cond.methodLink RX2 81 yX2_between, Cond.static yX2_between, Cond.code yX2_between cX2_between 4 (some .int), Cond.methodLink RX2 77 yX2_gain, Cond.instanceMethod yX2_gain, Cond.selects RX2 yX2_gain yX2_gain, Cond.code yX2_gain cX2_gain 3 (some .int), Cond.fieldLink RX2 7 "FormworkYardModel" "temperatures" "[I", Cond.methodLink RX2 144 yX2_isTaken, Cond.instanceMethod yX2_isTaken, Cond.selects RX2 yX2_isTaken yX2_isTaken, Cond.code yX2_isTaken cX2_isTaken 5 (some .boolean), Cond.methodLink RX2 102 yX2_isBusy, Cond.instanceMethod yX2_isBusy, Cond.selects RX2 yX2_isBusy yX2_isBusy, Cond.code yX2_isBusy cX2_isBusy 3 (some .boolean)]
def wsX2_pourOf : List Cond := .code yX2_pourOf cX2_pourOf 5 (some .int) :: ((wsX2_pourOf_r1 ++ (wsX2_pourOf_r2 ++ wsX2_pourOf_r3)) ++ wsX20)
def wsJ9_max_7cf53 : List Cond := .code yJ9_max_7cf53 cJ9_max_7cf53 2 (some .int) :: ([])
def wsJ9_min_7cf53 : List Cond := .code yJ9_min_7cf53 cJ9_min_7cf53 2 (some .int) :: ([])
def wsL_setTemperature_r1 : List Cond := [Cond.classLink RL 13 "java/lang/IndexOutOfBoundsException", Cond.classLink RL 15 "java/lang/IllegalArgumentException", Cond.methodLink RL 7 yX1_setTemperature, Cond.instanceMethod yX1_setTemperature, Cond.selects RX1 yX1_setTemperature yX1_setTemperature, Cond.initialized RX1, Cond.code yX1_setTemperature cX1_setTemperature 5 none, Cond.fieldLink RX1 9 "FormworkYard" "temperatures" "[I", Cond.methodLink RX1 50 yX1_requireHour, Cond.static yX1_requireHour, Cond.code yX1_requireHour cX1_requireHour 1 none, Cond.classLink RX1 181 "java/lang/IndexOutOfBoundsException", Cond.initialized "java/lang/IndexOutOfBoundsException", Cond.methodLink RX1 165 yX1_isHour, Cond.static yX1_isHour, Cond.code yX1_isHour cX1_isHour 1 (some .boolean), Cond.methodLink RX1 54 yX1_require, Cond.static yX1_require, Cond.code yX1_require cX1_require 1 none, Cond.classLink RX1 187 "java/lang/IllegalArgumentException", Cond.initialized "java/lang/IllegalArgumentException", Cond.methodLink RX1 58 yX1_requireRange, Cond.static yX1_requireRange, Cond.code yX1_requireRange cX1_requireRange 3 none]
def wsL_setTemperature_r2 : List Cond := [Cond.methodLink RX1 47 yX1_sumGains, Cond.instanceMethod yX1_sumGains, Cond.selects RX1 yX1_sumGains yX1_sumGains, Cond.code yX1_sumGains cX1_sumGains 2 none, Cond.fieldLink RX1 13 "FormworkYard" "gained" "[I", Cond.methodLink RX1 144 Lib.Math.max.name, Cond.static Lib.Math.max.name, Cond.initialized "java/lang/Math", Cond.code Lib.Math.max.name Lib.Math.max.code 2 (some .int), Cond.methodLink RX1 62 yX1_scheduleAll, Cond.instanceMethod yX1_scheduleAll, Cond.selects RX1 yX1_scheduleAll yX1_scheduleAll, Cond.code yX1_scheduleAll cX1_scheduleAll 5 none, Cond.fieldLink RX1 24 "FormworkYard" "pourList" "[LFormworkYard$Pour;", Cond.methodLink RX1 96 yX1_schedule, Cond.instanceMethod yX1_schedule, Cond.selects RX1 yX1_schedule yX1_schedule, Cond.code yX1_schedule cX1_schedule 2 none, Cond.methodLink RX1 153 yX1_startedHours, Cond.instanceMethod yX1_startedHours, Cond.selects RX1 yX1_startedHours yX1_startedHours, Cond.code yX1_startedHours cX1_startedHours 2 (some .int), Cond.fieldLink RX1 32 "FormworkYard" "rate" "I", Cond.methodLink RX1 126 yX1_fullHours]
def wsL_setTemperature_r3 : List Cond := [Cond.instanceMethod yX1_fullHours, Cond.selects RX1 yX1_fullHours yX1_fullHours, Cond.code yX1_fullHours cX1_fullHours 2 (some .int), Cond.instanceMethod yX0_hoursOfBreaks, Cond.initialized RX0, Cond.selects RX0 yX0_hoursOfBreaks yX0_hoursOfBreaks, Cond.code yX0_hoursOfBreaks cX0_hoursOfBreaks 3 (some .int), Cond.fieldLink RX0 31 "FormworkYard$Pour" "breaks" "I", Cond.fieldLink RX0 15 "FormworkYard$Pour" "lengths" "[I", Cond.methodLink RX1 159 yX1_strikeHour, Cond.instanceMethod yX1_strikeHour, Cond.selects RX1 yX1_strikeHour yX1_strikeHour, Cond.code yX1_strikeHour cX1_strikeHour 6 (some .int), Cond.methodLink RX1 65 yX1_gainBetween, Cond.instanceMethod yX1_gainBetween, Cond.selects RX1 yX1_gainBetween yX1_gainBetween, Cond.code yX1_gainBetween cX1_gainBetween 4 (some .int), Cond.methodLink RX1 74 Lib.Math.min.name, Cond.static Lib.Math.min.name, Cond.code Lib.Math.min.name Lib.Math.min.code 2 (some .int), Cond.methodLink RX1 70 yX1_strengthAt, Cond.static yX1_strengthAt, Cond.code yX1_strengthAt cX1_strengthAt 4 (some .int), Cond.fieldLink RX1 193 "FormworkYard" "STEPS" "[I"]
def wsL_setTemperature_r4 : List Cond := [Cond.methodLink RX1 156 yX1_standHour, Cond.instanceMethod yX1_standHour, Cond.selects RX1 yX1_standHour yX1_standHour, Cond.code yX1_standHour cX1_standHour 2 (some .int), Cond.fieldLink RX1 35 "FormworkYard" "setUpHours" "I", Cond.methodLink RX1 162 yX1_releaseHour, Cond.instanceMethod yX1_releaseHour, Cond.selects RX1 yX1_releaseHour yX1_releaseHour, Cond.code yX1_releaseHour cX1_releaseHour 2 (some .int), Cond.fieldLink RX1 38 "FormworkYard" "cleaningHours" "I"]
def wsL_setTemperature : List Cond := .codeWith yL_setTemperature cL_setTemperature 5 (some .int) [(0, 7, 10, 13), (0, 7, 14, 15)] :: ((wsL_setTemperature_r1 ++ (wsL_setTemperature_r2 ++ (wsL_setTemperature_r3 ++ wsL_setTemperature_r4))) ++ wsX10 ++ wsX00 ++ (vx_at0 RX1 183 "java/lang/IndexOutOfBoundsException" ["java/lang/RuntimeException", "java/lang/Exception"]).filter goodWord ++ (vx_at0 RX1 189 "java/lang/IllegalArgumentException" ["java/lang/RuntimeException", "java/lang/Exception"]).filter goodWord)
def wsL_temperature : List Cond := .codeWith yL_temperature cL_temperature 4 (some .int) [(0, 9, 12, 13)] :: ([.classLink RL 13 "java/lang/IndexOutOfBoundsException", .methodLink RL 17 yX1_temperature, .instanceMethod yX1_temperature, .selects RX1 yX1_temperature yX1_temperature, .initialized RX1, .code yX1_temperature cX1_temperature 2 (some .int), .fieldLink RX1 9 "FormworkYard" "temperatures" "[I", .methodLink RX1 50 yX1_requireHour, .static yX1_requireHour, .code yX1_requireHour cX1_requireHour 1 none, .classLink RX1 181 "java/lang/IndexOutOfBoundsException", .initialized "java/lang/IndexOutOfBoundsException", .methodLink RX1 165 yX1_isHour, .static yX1_isHour, .code yX1_isHour cX1_isHour 1 (some .boolean)] ++ wsX10 ++ (vx_at0 RX1 183 "java/lang/IndexOutOfBoundsException" ["java/lang/RuntimeException", "java/lang/Exception"]).filter goodWord)
def wsL_maturity : List Cond := .codeWith yL_maturity cL_maturity 5 (some .int) [(0, 10, 13, 13)] :: ([.classLink RL 13 "java/lang/IndexOutOfBoundsException", .methodLink RL 21 yX1_maturity, .instanceMethod yX1_maturity, .selects RX1 yX1_maturity yX1_maturity, .initialized RX1, .code yX1_maturity cX1_maturity 3 (some .int), .methodLink RX1 50 yX1_requireHour, .static yX1_requireHour, .code yX1_requireHour cX1_requireHour 1 none, .classLink RX1 181 "java/lang/IndexOutOfBoundsException", .initialized "java/lang/IndexOutOfBoundsException", .methodLink RX1 165 yX1_isHour, .static yX1_isHour, .code yX1_isHour cX1_isHour 1 (some .boolean), .methodLink RX1 65 yX1_gainBetween, .instanceMethod yX1_gainBetween, .selects RX1 yX1_gainBetween yX1_gainBetween, .code yX1_gainBetween cX1_gainBetween 4 (some .int), .methodLink RX1 74 Lib.Math.min.name, .static Lib.Math.min.name, .initialized "java/lang/Math", .code Lib.Math.min.name Lib.Math.min.code 2 (some .int), .fieldLink RX1 13 "FormworkYard" "gained" "[I"] ++ wsX10 ++ (vx_at0 RX1 183 "java/lang/IndexOutOfBoundsException" ["java/lang/RuntimeException", "java/lang/Exception"]).filter goodWord)
def wsL_strength : List Cond := .codeWith yL_strength cL_strength 4 (some .int) [(0, 9, 12, 15)] :: ([.classLink RL 15 "java/lang/IllegalArgumentException", .methodLink RL 25 yX1_strength, .instanceMethod yX1_strength, .selects RX1 yX1_strength yX1_strength, .initialized RX1, .code yX1_strength cX1_strength 2 (some .int), .constant RX1 69 (1000000), .methodLink RX1 58 yX1_requireRange, .static yX1_requireRange, .code yX1_requireRange cX1_requireRange 3 none, .methodLink RX1 54 yX1_require, .static yX1_require, .code yX1_require cX1_require 1 none, .classLink RX1 187 "java/lang/IllegalArgumentException", .initialized "java/lang/IllegalArgumentException", .methodLink RX1 70 yX1_strengthAt, .static yX1_strengthAt, .code yX1_strengthAt cX1_strengthAt 4 (some .int), .fieldLink RX1 193 "FormworkYard" "STEPS" "[I"] ++ (vx_at0 RX1 189 "java/lang/IllegalArgumentException" ["java/lang/RuntimeException", "java/lang/Exception"]).filter goodWord)
def wsL_setPanels : List Cond := .codeWith yL_setPanels cL_setPanels 4 (some .int) [(0, 9, 12, 15)] :: ([.classLink RL 15 "java/lang/IllegalArgumentException", .methodLink RL 28 yX1_setPanels, .instanceMethod yX1_setPanels, .selects RX1 yX1_setPanels yX1_setPanels, .initialized RX1, .code yX1_setPanels cX1_setPanels 3 (some .int), .fieldLink RX1 28 "FormworkYard" "yardPanels" "I", .methodLink RX1 58 yX1_requireRange, .static yX1_requireRange, .code yX1_requireRange cX1_requireRange 3 none, .methodLink RX1 54 yX1_require, .static yX1_require, .code yX1_require cX1_require 1 none, .classLink RX1 187 "java/lang/IllegalArgumentException", .initialized "java/lang/IllegalArgumentException"] ++ wsX10 ++ (vx_at0 RX1 189 "java/lang/IllegalArgumentException" ["java/lang/RuntimeException", "java/lang/Exception"]).filter goodWord)
def wsL_setRates_r1 : List Cond := [Cond.classLink RL 15 "java/lang/IllegalArgumentException", Cond.methodLink RL 31 yX1_setRates, Cond.instanceMethod yX1_setRates, Cond.selects RX1 yX1_setRates yX1_setRates, Cond.initialized RX1, Cond.code yX1_setRates cX1_setRates 3 (some .int), Cond.methodLink RX1 74 Lib.Math.min.name, Cond.static Lib.Math.min.name, Cond.initialized "java/lang/Math", Cond.code Lib.Math.min.name Lib.Math.min.code 2 (some .int), Cond.fieldLink RX1 32 "FormworkYard" "rate" "I", Cond.methodLink RX1 58 yX1_requireRange, Cond.static yX1_requireRange, Cond.code yX1_requireRange cX1_requireRange 3 none, Cond.methodLink RX1 54 yX1_require, Cond.static yX1_require, Cond.code yX1_require cX1_require 1 none, Cond.classLink RX1 187 "java/lang/IllegalArgumentException", Cond.initialized "java/lang/IllegalArgumentException", Cond.methodLink RX1 62 yX1_scheduleAll, Cond.instanceMethod yX1_scheduleAll, Cond.selects RX1 yX1_scheduleAll yX1_scheduleAll, Cond.code yX1_scheduleAll cX1_scheduleAll 5 none, Cond.fieldLink RX1 24 "FormworkYard" "pourList" "[LFormworkYard$Pour;"]
def wsL_setRates_r2 : List Cond := [Cond.methodLink RX1 96 yX1_schedule, Cond.instanceMethod yX1_schedule, Cond.selects RX1 yX1_schedule yX1_schedule, Cond.code yX1_schedule cX1_schedule 2 none, Cond.methodLink RX1 153 yX1_startedHours, Cond.instanceMethod yX1_startedHours, Cond.selects RX1 yX1_startedHours yX1_startedHours, Cond.code yX1_startedHours cX1_startedHours 2 (some .int), Cond.methodLink RX1 126 yX1_fullHours, Cond.instanceMethod yX1_fullHours, Cond.selects RX1 yX1_fullHours yX1_fullHours, Cond.code yX1_fullHours cX1_fullHours 2 (some .int), Cond.instanceMethod yX0_hoursOfBreaks, Cond.initialized RX0, Cond.selects RX0 yX0_hoursOfBreaks yX0_hoursOfBreaks, Cond.code yX0_hoursOfBreaks cX0_hoursOfBreaks 3 (some .int), Cond.fieldLink RX0 31 "FormworkYard$Pour" "breaks" "I", Cond.fieldLink RX0 15 "FormworkYard$Pour" "lengths" "[I", Cond.methodLink RX1 159 yX1_strikeHour, Cond.instanceMethod yX1_strikeHour, Cond.selects RX1 yX1_strikeHour yX1_strikeHour, Cond.code yX1_strikeHour cX1_strikeHour 6 (some .int), Cond.methodLink RX1 65 yX1_gainBetween, Cond.instanceMethod yX1_gainBetween]
def wsL_setRates_r3 : List Cond := [Cond.selects RX1 yX1_gainBetween yX1_gainBetween, Cond.code yX1_gainBetween cX1_gainBetween 4 (some .int), Cond.fieldLink RX1 13 "FormworkYard" "gained" "[I", Cond.methodLink RX1 70 yX1_strengthAt, Cond.static yX1_strengthAt, Cond.code yX1_strengthAt cX1_strengthAt 4 (some .int), Cond.fieldLink RX1 193 "FormworkYard" "STEPS" "[I", Cond.methodLink RX1 156 yX1_standHour, Cond.instanceMethod yX1_standHour, Cond.selects RX1 yX1_standHour yX1_standHour, Cond.code yX1_standHour cX1_standHour 2 (some .int), Cond.fieldLink RX1 35 "FormworkYard" "setUpHours" "I", Cond.methodLink RX1 144 Lib.Math.max.name, Cond.static Lib.Math.max.name, Cond.code Lib.Math.max.name Lib.Math.max.code 2 (some .int), Cond.methodLink RX1 162 yX1_releaseHour, Cond.instanceMethod yX1_releaseHour, Cond.selects RX1 yX1_releaseHour yX1_releaseHour, Cond.code yX1_releaseHour cX1_releaseHour 2 (some .int), Cond.fieldLink RX1 38 "FormworkYard" "cleaningHours" "I"]
def wsL_setRates : List Cond := .codeWith yL_setRates cL_setRates 5 (some .int) [(0, 10, 13, 15)] :: ((wsL_setRates_r1 ++ (wsL_setRates_r2 ++ wsL_setRates_r3)) ++ wsX10 ++ wsX00 ++ (vx_at0 RX1 189 "java/lang/IllegalArgumentException" ["java/lang/RuntimeException", "java/lang/Exception"]).filter goodWord)
def wsL_setCrew_r1 : List Cond := [Cond.classLink RL 15 "java/lang/IllegalArgumentException", Cond.methodLink RL 34 yX1_setCrew, Cond.instanceMethod yX1_setCrew, Cond.selects RX1 yX1_setCrew yX1_setCrew, Cond.initialized RX1, Cond.code yX1_setCrew cX1_setCrew 3 none, Cond.fieldLink RX1 35 "FormworkYard" "setUpHours" "I", Cond.fieldLink RX1 38 "FormworkYard" "cleaningHours" "I", Cond.methodLink RX1 58 yX1_requireRange, Cond.static yX1_requireRange, Cond.code yX1_requireRange cX1_requireRange 3 none, Cond.methodLink RX1 54 yX1_require, Cond.static yX1_require, Cond.code yX1_require cX1_require 1 none, Cond.classLink RX1 187 "java/lang/IllegalArgumentException", Cond.initialized "java/lang/IllegalArgumentException", Cond.methodLink RX1 62 yX1_scheduleAll, Cond.instanceMethod yX1_scheduleAll, Cond.selects RX1 yX1_scheduleAll yX1_scheduleAll, Cond.code yX1_scheduleAll cX1_scheduleAll 5 none, Cond.fieldLink RX1 24 "FormworkYard" "pourList" "[LFormworkYard$Pour;", Cond.methodLink RX1 96 yX1_schedule, Cond.instanceMethod yX1_schedule, Cond.selects RX1 yX1_schedule yX1_schedule]
def wsL_setCrew_r2 : List Cond := [Cond.code yX1_schedule cX1_schedule 2 none, Cond.methodLink RX1 153 yX1_startedHours, Cond.instanceMethod yX1_startedHours, Cond.selects RX1 yX1_startedHours yX1_startedHours, Cond.code yX1_startedHours cX1_startedHours 2 (some .int), Cond.fieldLink RX1 32 "FormworkYard" "rate" "I", Cond.methodLink RX1 126 yX1_fullHours, Cond.instanceMethod yX1_fullHours, Cond.selects RX1 yX1_fullHours yX1_fullHours, Cond.code yX1_fullHours cX1_fullHours 2 (some .int), Cond.instanceMethod yX0_hoursOfBreaks, Cond.initialized RX0, Cond.selects RX0 yX0_hoursOfBreaks yX0_hoursOfBreaks, Cond.code yX0_hoursOfBreaks cX0_hoursOfBreaks 3 (some .int), Cond.fieldLink RX0 31 "FormworkYard$Pour" "breaks" "I", Cond.fieldLink RX0 15 "FormworkYard$Pour" "lengths" "[I", Cond.methodLink RX1 159 yX1_strikeHour, Cond.instanceMethod yX1_strikeHour, Cond.selects RX1 yX1_strikeHour yX1_strikeHour, Cond.code yX1_strikeHour cX1_strikeHour 6 (some .int), Cond.methodLink RX1 65 yX1_gainBetween, Cond.instanceMethod yX1_gainBetween, Cond.selects RX1 yX1_gainBetween yX1_gainBetween, Cond.code yX1_gainBetween cX1_gainBetween 4 (some .int)]
def wsL_setCrew_r3 : List Cond := [Cond.methodLink RX1 74 Lib.Math.min.name, Cond.static Lib.Math.min.name, Cond.initialized "java/lang/Math", Cond.code Lib.Math.min.name Lib.Math.min.code 2 (some .int), Cond.fieldLink RX1 13 "FormworkYard" "gained" "[I", Cond.methodLink RX1 70 yX1_strengthAt, Cond.static yX1_strengthAt, Cond.code yX1_strengthAt cX1_strengthAt 4 (some .int), Cond.fieldLink RX1 193 "FormworkYard" "STEPS" "[I", Cond.methodLink RX1 156 yX1_standHour, Cond.instanceMethod yX1_standHour, Cond.selects RX1 yX1_standHour yX1_standHour, Cond.code yX1_standHour cX1_standHour 2 (some .int), Cond.methodLink RX1 144 Lib.Math.max.name, Cond.static Lib.Math.max.name, Cond.code Lib.Math.max.name Lib.Math.max.code 2 (some .int), Cond.methodLink RX1 162 yX1_releaseHour, Cond.instanceMethod yX1_releaseHour, Cond.selects RX1 yX1_releaseHour yX1_releaseHour, Cond.code yX1_releaseHour cX1_releaseHour 2 (some .int)]
def wsL_setCrew : List Cond := .codeWith yL_setCrew cL_setCrew 4 (some .int) [(0, 6, 9, 15)] :: ((wsL_setCrew_r1 ++ (wsL_setCrew_r2 ++ wsL_setCrew_r3)) ++ wsX10 ++ wsX00 ++ (vx_at0 RX1 189 "java/lang/IllegalArgumentException" ["java/lang/RuntimeException", "java/lang/Exception"]).filter goodWord)
def wsL_plan_r1 : List Cond := [Cond.classLink RL 15 "java/lang/IllegalArgumentException", Cond.classLink RL 42 "java/lang/IllegalStateException", Cond.methodLink RL 38 yX1_plan, Cond.instanceMethod yX1_plan, Cond.selects RX1 yX1_plan yX1_plan, Cond.initialized RX1, Cond.code yX1_plan cX1_plan 7 (some .int), Cond.classLink RX1 91 "java/lang/IllegalStateException", Cond.initialized "java/lang/IllegalStateException", Cond.classLink RX1 22 RX0, Cond.instantiable RX0 13, Cond.initialized RX0, Cond.fieldLink RX1 24 "FormworkYard" "pourList" "[LFormworkYard$Pour;", Cond.methodLink RX1 79 yX1_requirePour, Cond.static yX1_requirePour, Cond.code yX1_requirePour cX1_requirePour 4 none, Cond.methodLink RX1 58 yX1_requireRange, Cond.static yX1_requireRange, Cond.code yX1_requireRange cX1_requireRange 3 none, Cond.methodLink RX1 54 yX1_require, Cond.static yX1_require, Cond.code yX1_require cX1_require 1 none, Cond.classLink RX1 187 "java/lang/IllegalArgumentException", Cond.initialized "java/lang/IllegalArgumentException"]
def wsL_plan_r2 : List Cond := [Cond.methodLink RX1 83 yX1_freeNumber, Cond.instanceMethod yX1_freeNumber, Cond.selects RX1 yX1_freeNumber yX1_freeNumber, Cond.code yX1_freeNumber cX1_freeNumber 2 (some .int), Cond.methodLink RX1 87 yX1_isNumber, Cond.static yX1_isNumber, Cond.code yX1_isNumber cX1_isNumber 1 (some .boolean), Cond.instanceMethod yX0_init, Cond.code yX0_init cX0_init 5 none, Cond.methodLink RX0 3 objectInit, Cond.instanceMethod objectInit, Cond.code objectInit ⟨#[0xb1]⟩ 1 none, Cond.arrayClass .int, Cond.fieldLink RX0 9 "FormworkYard$Pour" "parts" "[I", Cond.fieldLink RX0 15 "FormworkYard$Pour" "lengths" "[I", Cond.fieldLink RX0 18 "FormworkYard$Pour" "start" "I", Cond.fieldLink RX0 22 "FormworkYard$Pour" "volume" "I", Cond.fieldLink RX0 25 "FormworkYard$Pour" "panels" "I", Cond.fieldLink RX0 28 "FormworkYard$Pour" "wanted" "I", Cond.methodLink RX1 96 yX1_schedule, Cond.instanceMethod yX1_schedule, Cond.selects RX1 yX1_schedule yX1_schedule, Cond.code yX1_schedule cX1_schedule 2 none, Cond.methodLink RX1 153 yX1_startedHours]
def wsL_plan_r3 : List Cond := [Cond.instanceMethod yX1_startedHours, Cond.selects RX1 yX1_startedHours yX1_startedHours, Cond.code yX1_startedHours cX1_startedHours 2 (some .int), Cond.fieldLink RX1 32 "FormworkYard" "rate" "I", Cond.methodLink RX1 126 yX1_fullHours, Cond.instanceMethod yX1_fullHours, Cond.selects RX1 yX1_fullHours yX1_fullHours, Cond.code yX1_fullHours cX1_fullHours 2 (some .int), Cond.instanceMethod yX0_hoursOfBreaks, Cond.selects RX0 yX0_hoursOfBreaks yX0_hoursOfBreaks, Cond.code yX0_hoursOfBreaks cX0_hoursOfBreaks 3 (some .int), Cond.fieldLink RX0 31 "FormworkYard$Pour" "breaks" "I", Cond.methodLink RX1 159 yX1_strikeHour, Cond.instanceMethod yX1_strikeHour, Cond.selects RX1 yX1_strikeHour yX1_strikeHour, Cond.code yX1_strikeHour cX1_strikeHour 6 (some .int), Cond.methodLink RX1 65 yX1_gainBetween, Cond.instanceMethod yX1_gainBetween, Cond.selects RX1 yX1_gainBetween yX1_gainBetween, Cond.code yX1_gainBetween cX1_gainBetween 4 (some .int), Cond.methodLink RX1 74 Lib.Math.min.name, Cond.static Lib.Math.min.name, Cond.initialized "java/lang/Math", Cond.code Lib.Math.min.name Lib.Math.min.code 2 (some .int)]
def wsL_plan_r4 : List Cond := [Cond.fieldLink RX1 13 "FormworkYard" "gained" "[I", Cond.methodLink RX1 70 yX1_strengthAt, Cond.static yX1_strengthAt, Cond.code yX1_strengthAt cX1_strengthAt 4 (some .int), Cond.fieldLink RX1 193 "FormworkYard" "STEPS" "[I", Cond.methodLink RX1 156 yX1_standHour, Cond.instanceMethod yX1_standHour, Cond.selects RX1 yX1_standHour yX1_standHour, Cond.code yX1_standHour cX1_standHour 2 (some .int), Cond.fieldLink RX1 35 "FormworkYard" "setUpHours" "I", Cond.methodLink RX1 144 Lib.Math.max.name, Cond.static Lib.Math.max.name, Cond.code Lib.Math.max.name Lib.Math.max.code 2 (some .int), Cond.methodLink RX1 162 yX1_releaseHour, Cond.instanceMethod yX1_releaseHour, Cond.selects RX1 yX1_releaseHour yX1_releaseHour, Cond.code yX1_releaseHour cX1_releaseHour 2 (some .int), Cond.fieldLink RX1 38 "FormworkYard" "cleaningHours" "I"]
def wsL_plan : List Cond := .codeWith yL_plan cL_plan 7 (some .int) [(0, 14, 17, 15), (0, 14, 21, 42)] :: ((wsL_plan_r1 ++ (wsL_plan_r2 ++ (wsL_plan_r3 ++ wsL_plan_r4))) ++ wsX00 ++ wsX10 ++ (vx_at0 RX1 93 "java/lang/IllegalStateException" ["java/lang/RuntimeException", "java/lang/Exception"]).filter goodWord ++ (vx_at0 RX1 189 "java/lang/IllegalArgumentException" ["java/lang/RuntimeException", "java/lang/Exception"]).filter goodWord)
def wsL_move_r1 : List Cond := [Cond.classLink RL 47 "java/util/NoSuchElementException", Cond.classLink RL 15 "java/lang/IllegalArgumentException", Cond.methodLink RL 44 yX1_move, Cond.instanceMethod yX1_move, Cond.selects RX1 yX1_move yX1_move, Cond.initialized RX1, Cond.code yX1_move cX1_move 5 (some .int), Cond.methodLink RX1 100 yX1_existing, Cond.instanceMethod yX1_existing, Cond.selects RX1 yX1_existing yX1_existing, Cond.code yX1_existing cX1_existing 3 (some (.object "FormworkYard$Pour")), Cond.classLink RX1 190 "java/util/NoSuchElementException", Cond.initialized "java/util/NoSuchElementException", Cond.fieldLink RX1 24 "FormworkYard" "pourList" "[LFormworkYard$Pour;", Cond.methodLink RX1 87 yX1_isNumber, Cond.static yX1_isNumber, Cond.code yX1_isNumber cX1_isNumber 1 (some .boolean), Cond.methodLink RX1 58 yX1_requireRange, Cond.static yX1_requireRange, Cond.code yX1_requireRange cX1_requireRange 3 none, Cond.methodLink RX1 54 yX1_require, Cond.static yX1_require, Cond.code yX1_require cX1_require 1 none, Cond.classLink RX1 187 "java/lang/IllegalArgumentException"]
def wsL_move_r2 : List Cond := [Cond.initialized "java/lang/IllegalArgumentException", Cond.methodLink RX1 96 yX1_schedule, Cond.instanceMethod yX1_schedule, Cond.selects RX1 yX1_schedule yX1_schedule, Cond.code yX1_schedule cX1_schedule 2 none, Cond.methodLink RX1 153 yX1_startedHours, Cond.instanceMethod yX1_startedHours, Cond.selects RX1 yX1_startedHours yX1_startedHours, Cond.code yX1_startedHours cX1_startedHours 2 (some .int), Cond.fieldLink RX1 32 "FormworkYard" "rate" "I", Cond.methodLink RX1 126 yX1_fullHours, Cond.instanceMethod yX1_fullHours, Cond.selects RX1 yX1_fullHours yX1_fullHours, Cond.code yX1_fullHours cX1_fullHours 2 (some .int), Cond.instanceMethod yX0_hoursOfBreaks, Cond.initialized RX0, Cond.selects RX0 yX0_hoursOfBreaks yX0_hoursOfBreaks, Cond.code yX0_hoursOfBreaks cX0_hoursOfBreaks 3 (some .int), Cond.fieldLink RX0 31 "FormworkYard$Pour" "breaks" "I", Cond.fieldLink RX0 15 "FormworkYard$Pour" "lengths" "[I", Cond.methodLink RX1 159 yX1_strikeHour, Cond.instanceMethod yX1_strikeHour, Cond.selects RX1 yX1_strikeHour yX1_strikeHour, Cond.code yX1_strikeHour cX1_strikeHour 6 (some .int)]
def wsL_move_r3 : List Cond := [Cond.methodLink RX1 65 yX1_gainBetween, Cond.instanceMethod yX1_gainBetween, Cond.selects RX1 yX1_gainBetween yX1_gainBetween, Cond.code yX1_gainBetween cX1_gainBetween 4 (some .int), Cond.methodLink RX1 74 Lib.Math.min.name, Cond.static Lib.Math.min.name, Cond.initialized "java/lang/Math", Cond.code Lib.Math.min.name Lib.Math.min.code 2 (some .int), Cond.fieldLink RX1 13 "FormworkYard" "gained" "[I", Cond.methodLink RX1 70 yX1_strengthAt, Cond.static yX1_strengthAt, Cond.code yX1_strengthAt cX1_strengthAt 4 (some .int), Cond.fieldLink RX1 193 "FormworkYard" "STEPS" "[I", Cond.methodLink RX1 156 yX1_standHour, Cond.instanceMethod yX1_standHour, Cond.selects RX1 yX1_standHour yX1_standHour, Cond.code yX1_standHour cX1_standHour 2 (some .int), Cond.fieldLink RX1 35 "FormworkYard" "setUpHours" "I", Cond.methodLink RX1 144 Lib.Math.max.name, Cond.static Lib.Math.max.name, Cond.code Lib.Math.max.name Lib.Math.max.code 2 (some .int), Cond.methodLink RX1 162 yX1_releaseHour, Cond.instanceMethod yX1_releaseHour, Cond.selects RX1 yX1_releaseHour yX1_releaseHour]
def wsL_move_r4 : List Cond := [Cond.code yX1_releaseHour cX1_releaseHour 2 (some .int), Cond.fieldLink RX1 38 "FormworkYard" "cleaningHours" "I"]
def wsL_move : List Cond := .codeWith yL_move cL_move 5 (some .int) [(0, 10, 13, 47), (0, 10, 17, 15)] :: ((wsL_move_r1 ++ (wsL_move_r2 ++ (wsL_move_r3 ++ wsL_move_r4))) ++ wsX00 ++ wsX10 ++ (vx_at0 RX1 192 "java/util/NoSuchElementException" ["java/lang/RuntimeException", "java/lang/Exception"]).filter goodWord ++ (vx_at0 RX1 189 "java/lang/IllegalArgumentException" ["java/lang/RuntimeException", "java/lang/Exception"]).filter goodWord)
def wsL_cancel : List Cond := .codeWith yL_cancel cL_cancel 4 (some .int) [(0, 9, 12, 47)] :: ([.classLink RL 47 "java/util/NoSuchElementException", .methodLink RL 49 yX1_cancel, .instanceMethod yX1_cancel, .selects RX1 yX1_cancel yX1_cancel, .initialized RX1, .code yX1_cancel cX1_cancel 3 (some .int), .fieldLink RX1 24 "FormworkYard" "pourList" "[LFormworkYard$Pour;", .methodLink RX1 100 yX1_existing, .instanceMethod yX1_existing, .selects RX1 yX1_existing yX1_existing, .code yX1_existing cX1_existing 3 (some (.object "FormworkYard$Pour")), .classLink RX1 190 "java/util/NoSuchElementException", .initialized "java/util/NoSuchElementException", .methodLink RX1 87 yX1_isNumber, .static yX1_isNumber, .code yX1_isNumber cX1_isNumber 1 (some .boolean)] ++ wsX10 ++ wsX00 ++ (vx_at0 RX1 192 "java/util/NoSuchElementException" ["java/lang/RuntimeException", "java/lang/Exception"]).filter goodWord)
def wsL_delay_r1 : List Cond := [Cond.classLink RL 47 "java/util/NoSuchElementException", Cond.classLink RL 15 "java/lang/IllegalArgumentException", Cond.classLink RL 42 "java/lang/IllegalStateException", Cond.methodLink RL 52 yX1_delay, Cond.instanceMethod yX1_delay, Cond.selects RX1 yX1_delay yX1_delay, Cond.initialized RX1, Cond.code yX1_delay cX1_delay 5 (some .int), Cond.classLink RX1 91 "java/lang/IllegalStateException", Cond.initialized "java/lang/IllegalStateException", Cond.methodLink RX1 100 yX1_existing, Cond.instanceMethod yX1_existing, Cond.selects RX1 yX1_existing yX1_existing, Cond.code yX1_existing cX1_existing 3 (some (.object "FormworkYard$Pour")), Cond.classLink RX1 190 "java/util/NoSuchElementException", Cond.initialized "java/util/NoSuchElementException", Cond.fieldLink RX1 24 "FormworkYard" "pourList" "[LFormworkYard$Pour;", Cond.methodLink RX1 87 yX1_isNumber, Cond.static yX1_isNumber, Cond.code yX1_isNumber cX1_isNumber 1 (some .boolean), Cond.methodLink RX1 58 yX1_requireRange, Cond.static yX1_requireRange, Cond.code yX1_requireRange cX1_requireRange 3 none, Cond.methodLink RX1 54 yX1_require]
def wsL_delay_r2 : List Cond := [Cond.static yX1_require, Cond.code yX1_require cX1_require 1 none, Cond.classLink RX1 187 "java/lang/IllegalArgumentException", Cond.initialized "java/lang/IllegalArgumentException", Cond.instanceMethod yX0_addBreak, Cond.initialized RX0, Cond.selects RX0 yX0_addBreak yX0_addBreak, Cond.code yX0_addBreak cX0_addBreak 4 none, Cond.fieldLink RX0 31 "FormworkYard$Pour" "breaks" "I", Cond.fieldLink RX0 9 "FormworkYard$Pour" "parts" "[I", Cond.fieldLink RX0 15 "FormworkYard$Pour" "lengths" "[I", Cond.methodLink RX1 96 yX1_schedule, Cond.instanceMethod yX1_schedule, Cond.selects RX1 yX1_schedule yX1_schedule, Cond.code yX1_schedule cX1_schedule 2 none, Cond.methodLink RX1 153 yX1_startedHours, Cond.instanceMethod yX1_startedHours, Cond.selects RX1 yX1_startedHours yX1_startedHours, Cond.code yX1_startedHours cX1_startedHours 2 (some .int), Cond.fieldLink RX1 32 "FormworkYard" "rate" "I", Cond.methodLink RX1 126 yX1_fullHours, Cond.instanceMethod yX1_fullHours, Cond.selects RX1 yX1_fullHours yX1_fullHours, Cond.code yX1_fullHours cX1_fullHours 2 (some .int)]
def wsL_delay_r3 : List Cond := [Cond.instanceMethod yX0_hoursOfBreaks, Cond.selects RX0 yX0_hoursOfBreaks yX0_hoursOfBreaks, Cond.code yX0_hoursOfBreaks cX0_hoursOfBreaks 3 (some .int), Cond.methodLink RX1 159 yX1_strikeHour, Cond.instanceMethod yX1_strikeHour, Cond.selects RX1 yX1_strikeHour yX1_strikeHour, Cond.code yX1_strikeHour cX1_strikeHour 6 (some .int), Cond.methodLink RX1 65 yX1_gainBetween, Cond.instanceMethod yX1_gainBetween, Cond.selects RX1 yX1_gainBetween yX1_gainBetween, Cond.code yX1_gainBetween cX1_gainBetween 4 (some .int), Cond.methodLink RX1 74 Lib.Math.min.name, Cond.static Lib.Math.min.name, Cond.initialized "java/lang/Math", Cond.code Lib.Math.min.name Lib.Math.min.code 2 (some .int), Cond.fieldLink RX1 13 "FormworkYard" "gained" "[I", Cond.methodLink RX1 70 yX1_strengthAt, Cond.static yX1_strengthAt, Cond.code yX1_strengthAt cX1_strengthAt 4 (some .int), Cond.fieldLink RX1 193 "FormworkYard" "STEPS" "[I", Cond.methodLink RX1 156 yX1_standHour, Cond.instanceMethod yX1_standHour, Cond.selects RX1 yX1_standHour yX1_standHour, Cond.code yX1_standHour cX1_standHour 2 (some .int)]
def wsL_delay_r4 : List Cond := [Cond.fieldLink RX1 35 "FormworkYard" "setUpHours" "I", Cond.methodLink RX1 144 Lib.Math.max.name, Cond.static Lib.Math.max.name, Cond.code Lib.Math.max.name Lib.Math.max.code 2 (some .int), Cond.methodLink RX1 162 yX1_releaseHour, Cond.instanceMethod yX1_releaseHour, Cond.selects RX1 yX1_releaseHour yX1_releaseHour, Cond.code yX1_releaseHour cX1_releaseHour 2 (some .int), Cond.fieldLink RX1 38 "FormworkYard" "cleaningHours" "I"]
def wsL_delay : List Cond := .codeWith yL_delay cL_delay 6 (some .int) [(0, 12, 15, 47), (0, 12, 19, 15), (0, 12, 23, 42)] :: ((wsL_delay_r1 ++ (wsL_delay_r2 ++ (wsL_delay_r3 ++ wsL_delay_r4))) ++ wsX00 ++ wsX10 ++ (vx_at0 RX1 93 "java/lang/IllegalStateException" ["java/lang/RuntimeException", "java/lang/Exception"]).filter goodWord ++ (vx_at0 RX1 192 "java/util/NoSuchElementException" ["java/lang/RuntimeException", "java/lang/Exception"]).filter goodWord ++ (vx_at0 RX1 189 "java/lang/IllegalArgumentException" ["java/lang/RuntimeException", "java/lang/Exception"]).filter goodWord)
def wsL_endOf : List Cond := .codeWith yL_endOf cL_endOf 4 (some .int) [(0, 9, 12, 47)] :: ([.classLink RL 47 "java/util/NoSuchElementException", .methodLink RL 56 yX1_endOf, .instanceMethod yX1_endOf, .selects RX1 yX1_endOf yX1_endOf, .initialized RX1, .code yX1_endOf cX1_endOf 3 (some .int), .methodLink RX1 100 yX1_existing, .instanceMethod yX1_existing, .selects RX1 yX1_existing yX1_existing, .code yX1_existing cX1_existing 3 (some (.object "FormworkYard$Pour")), .classLink RX1 190 "java/util/NoSuchElementException", .initialized "java/util/NoSuchElementException", .fieldLink RX1 24 "FormworkYard" "pourList" "[LFormworkYard$Pour;", .methodLink RX1 87 yX1_isNumber, .static yX1_isNumber, .code yX1_isNumber cX1_isNumber 1 (some .boolean)] ++ wsX00 ++ wsX10 ++ (vx_at0 RX1 192 "java/util/NoSuchElementException" ["java/lang/RuntimeException", "java/lang/Exception"]).filter goodWord)
def wsL_coldJoints_r1 : List Cond := [Cond.classLink RL 47 "java/util/NoSuchElementException", Cond.methodLink RL 59 yX1_coldJoints, Cond.instanceMethod yX1_coldJoints, Cond.selects RX1 yX1_coldJoints yX1_coldJoints, Cond.initialized RX1, Cond.code yX1_coldJoints cX1_coldJoints 8 (some .int), Cond.methodLink RX1 100 yX1_existing, Cond.instanceMethod yX1_existing, Cond.selects RX1 yX1_existing yX1_existing, Cond.code yX1_existing cX1_existing 3 (some (.object "FormworkYard$Pour")), Cond.classLink RX1 190 "java/util/NoSuchElementException", Cond.initialized "java/util/NoSuchElementException", Cond.fieldLink RX1 24 "FormworkYard" "pourList" "[LFormworkYard$Pour;", Cond.methodLink RX1 87 yX1_isNumber, Cond.static yX1_isNumber, Cond.code yX1_isNumber cX1_isNumber 1 (some .boolean), Cond.methodLink RX1 126 yX1_fullHours, Cond.instanceMethod yX1_fullHours, Cond.selects RX1 yX1_fullHours yX1_fullHours, Cond.code yX1_fullHours cX1_fullHours 2 (some .int), Cond.fieldLink RX1 32 "FormworkYard" "rate" "I", Cond.methodLink RX1 65 yX1_gainBetween, Cond.instanceMethod yX1_gainBetween, Cond.selects RX1 yX1_gainBetween yX1_gainBetween]
def wsL_coldJoints_r2 : List Cond := [Cond.code yX1_gainBetween cX1_gainBetween 4 (some .int), Cond.methodLink RX1 74 Lib.Math.min.name, Cond.static Lib.Math.min.name, Cond.initialized "java/lang/Math", Cond.code Lib.Math.min.name Lib.Math.min.code 2 (some .int), Cond.fieldLink RX1 13 "FormworkYard" "gained" "[I"]
def wsL_coldJoints : List Cond := .codeWith yL_coldJoints cL_coldJoints 4 (some .int) [(0, 9, 12, 47)] :: ((wsL_coldJoints_r1 ++ wsL_coldJoints_r2) ++ wsX00 ++ wsX10 ++ (vx_at0 RX1 192 "java/util/NoSuchElementException" ["java/lang/RuntimeException", "java/lang/Exception"]).filter goodWord)
def wsL_struck : List Cond := .codeWith yL_struck cL_struck 4 (some .int) [(0, 9, 12, 47)] :: ([.classLink RL 47 "java/util/NoSuchElementException", .methodLink RL 62 yX1_struck, .instanceMethod yX1_struck, .selects RX1 yX1_struck yX1_struck, .initialized RX1, .code yX1_struck cX1_struck 3 (some .int), .methodLink RX1 100 yX1_existing, .instanceMethod yX1_existing, .selects RX1 yX1_existing yX1_existing, .code yX1_existing cX1_existing 3 (some (.object "FormworkYard$Pour")), .classLink RX1 190 "java/util/NoSuchElementException", .initialized "java/util/NoSuchElementException", .fieldLink RX1 24 "FormworkYard" "pourList" "[LFormworkYard$Pour;", .methodLink RX1 87 yX1_isNumber, .static yX1_isNumber, .code yX1_isNumber cX1_isNumber 1 (some .boolean)] ++ wsX00 ++ wsX10 ++ (vx_at0 RX1 192 "java/util/NoSuchElementException" ["java/lang/RuntimeException", "java/lang/Exception"]).filter goodWord)
def wsL_freeFrom : List Cond := .codeWith yL_freeFrom cL_freeFrom 4 (some .int) [(0, 9, 12, 47)] :: ([.classLink RL 47 "java/util/NoSuchElementException", .methodLink RL 65 yX1_freeFrom, .instanceMethod yX1_freeFrom, .selects RX1 yX1_freeFrom yX1_freeFrom, .initialized RX1, .code yX1_freeFrom cX1_freeFrom 3 (some .int), .methodLink RX1 100 yX1_existing, .instanceMethod yX1_existing, .selects RX1 yX1_existing yX1_existing, .code yX1_existing cX1_existing 3 (some (.object "FormworkYard$Pour")), .classLink RX1 190 "java/util/NoSuchElementException", .initialized "java/util/NoSuchElementException", .fieldLink RX1 24 "FormworkYard" "pourList" "[LFormworkYard$Pour;", .methodLink RX1 87 yX1_isNumber, .static yX1_isNumber, .code yX1_isNumber cX1_isNumber 1 (some .boolean)] ++ wsX00 ++ wsX10 ++ (vx_at0 RX1 192 "java/util/NoSuchElementException" ["java/lang/RuntimeException", "java/lang/Exception"]).filter goodWord)
def wsL_need_r1 : List Cond := [Cond.classLink RL 13 "java/lang/IndexOutOfBoundsException", Cond.methodLink RL 68 yX1_need, Cond.instanceMethod yX1_need, Cond.selects RX1 yX1_need yX1_need, Cond.initialized RX1, Cond.code yX1_need cX1_need 2 (some .int), Cond.methodLink RX1 50 yX1_requireHour, Cond.static yX1_requireHour, Cond.code yX1_requireHour cX1_requireHour 1 none, Cond.classLink RX1 181 "java/lang/IndexOutOfBoundsException", Cond.initialized "java/lang/IndexOutOfBoundsException", Cond.methodLink RX1 165 yX1_isHour, Cond.static yX1_isHour, Cond.code yX1_isHour cX1_isHour 1 (some .boolean), Cond.methodLink RX1 138 yX1_needIn, Cond.instanceMethod yX1_needIn, Cond.selects RX1 yX1_needIn yX1_needIn, Cond.code yX1_needIn cX1_needIn 7 (some .int), Cond.fieldLink RX1 24 "FormworkYard" "pourList" "[LFormworkYard$Pour;", Cond.instanceMethod yX0_isBusy, Cond.initialized RX0, Cond.selects RX0 yX0_isBusy yX0_isBusy, Cond.code yX0_isBusy cX0_isBusy 2 (some .boolean), Cond.fieldLink RX0 34 "FormworkYard$Pour" "busyFrom" "I"]
def wsL_need_r2 : List Cond := [Cond.fieldLink RX0 37 "FormworkYard$Pour" "busyUntil" "I"]
def wsL_need : List Cond := .codeWith yL_need cL_need 4 (some .int) [(0, 9, 12, 13)] :: ((wsL_need_r1 ++ wsL_need_r2) ++ wsX10 ++ wsX00 ++ (vx_at0 RX1 183 "java/lang/IndexOutOfBoundsException" ["java/lang/RuntimeException", "java/lang/Exception"]).filter goodWord)
def wsL_earliest_r1 : List Cond := [Cond.classLink RL 15 "java/lang/IllegalArgumentException", Cond.methodLink RL 71 yX1_earliest, Cond.instanceMethod yX1_earliest, Cond.selects RX1 yX1_earliest yX1_earliest, Cond.initialized RX1, Cond.code yX1_earliest cX1_earliest 9 (some .int), Cond.fieldLink RX1 19 "FormworkYard" "nextFull" "[I", Cond.methodLink RX1 79 yX1_requirePour, Cond.static yX1_requirePour, Cond.code yX1_requirePour cX1_requirePour 4 none, Cond.methodLink RX1 58 yX1_requireRange, Cond.static yX1_requireRange, Cond.code yX1_requireRange cX1_requireRange 3 none, Cond.methodLink RX1 54 yX1_require, Cond.static yX1_require, Cond.code yX1_require cX1_require 1 none, Cond.classLink RX1 187 "java/lang/IllegalArgumentException", Cond.initialized "java/lang/IllegalArgumentException", Cond.methodLink RX1 141 yX1_sumNeeds, Cond.instanceMethod yX1_sumNeeds, Cond.selects RX1 yX1_sumNeeds yX1_sumNeeds, Cond.code yX1_sumNeeds cX1_sumNeeds 2 none, Cond.fieldLink RX1 16 "FormworkYard" "needs" "[I", Cond.methodLink RX1 138 yX1_needIn]
def wsL_earliest_r2 : List Cond := [Cond.instanceMethod yX1_needIn, Cond.selects RX1 yX1_needIn yX1_needIn, Cond.code yX1_needIn cX1_needIn 7 (some .int), Cond.fieldLink RX1 24 "FormworkYard" "pourList" "[LFormworkYard$Pour;", Cond.instanceMethod yX0_isBusy, Cond.initialized RX0, Cond.selects RX0 yX0_isBusy yX0_isBusy, Cond.code yX0_isBusy cX0_isBusy 2 (some .boolean), Cond.fieldLink RX0 34 "FormworkYard$Pour" "busyFrom" "I", Cond.fieldLink RX0 37 "FormworkYard$Pour" "busyUntil" "I", Cond.methodLink RX1 150 yX1_markFullHours, Cond.instanceMethod yX1_markFullHours, Cond.selects RX1 yX1_markFullHours yX1_markFullHours, Cond.code yX1_markFullHours cX1_markFullHours 4 none, Cond.fieldLink RX1 28 "FormworkYard" "yardPanels" "I", Cond.methodLink RX1 153 yX1_startedHours, Cond.instanceMethod yX1_startedHours, Cond.selects RX1 yX1_startedHours yX1_startedHours, Cond.code yX1_startedHours cX1_startedHours 2 (some .int), Cond.fieldLink RX1 32 "FormworkYard" "rate" "I", Cond.methodLink RX1 126 yX1_fullHours, Cond.instanceMethod yX1_fullHours, Cond.selects RX1 yX1_fullHours yX1_fullHours, Cond.code yX1_fullHours cX1_fullHours 2 (some .int)]
def wsL_earliest_r3 : List Cond := [Cond.methodLink RX1 156 yX1_standHour, Cond.instanceMethod yX1_standHour, Cond.selects RX1 yX1_standHour yX1_standHour, Cond.code yX1_standHour cX1_standHour 2 (some .int), Cond.fieldLink RX1 35 "FormworkYard" "setUpHours" "I", Cond.methodLink RX1 144 Lib.Math.max.name, Cond.static Lib.Math.max.name, Cond.initialized "java/lang/Math", Cond.code Lib.Math.max.name Lib.Math.max.code 2 (some .int), Cond.methodLink RX1 159 yX1_strikeHour, Cond.instanceMethod yX1_strikeHour, Cond.selects RX1 yX1_strikeHour yX1_strikeHour, Cond.code yX1_strikeHour cX1_strikeHour 6 (some .int), Cond.methodLink RX1 65 yX1_gainBetween, Cond.instanceMethod yX1_gainBetween, Cond.selects RX1 yX1_gainBetween yX1_gainBetween, Cond.code yX1_gainBetween cX1_gainBetween 4 (some .int), Cond.methodLink RX1 74 Lib.Math.min.name, Cond.static Lib.Math.min.name, Cond.code Lib.Math.min.name Lib.Math.min.code 2 (some .int), Cond.fieldLink RX1 13 "FormworkYard" "gained" "[I", Cond.methodLink RX1 70 yX1_strengthAt, Cond.static yX1_strengthAt, Cond.code yX1_strengthAt cX1_strengthAt 4 (some .int)]
def wsL_earliest_r4 : List Cond := [Cond.fieldLink RX1 193 "FormworkYard" "STEPS" "[I", Cond.methodLink RX1 162 yX1_releaseHour, Cond.instanceMethod yX1_releaseHour, Cond.selects RX1 yX1_releaseHour yX1_releaseHour, Cond.code yX1_releaseHour cX1_releaseHour 2 (some .int), Cond.fieldLink RX1 38 "FormworkYard" "cleaningHours" "I", Cond.methodLink RX1 165 yX1_isHour, Cond.static yX1_isHour, Cond.code yX1_isHour cX1_isHour 1 (some .boolean)]
def wsL_earliest : List Cond := .codeWith yL_earliest cL_earliest 7 (some .int) [(0, 14, 17, 15)] :: ((wsL_earliest_r1 ++ (wsL_earliest_r2 ++ (wsL_earliest_r3 ++ wsL_earliest_r4))) ++ wsX10 ++ wsX00 ++ (vx_at0 RX1 189 "java/lang/IllegalArgumentException" ["java/lang/RuntimeException", "java/lang/Exception"]).filter goodWord)
def wsL_panelsOf_r1 : List Cond := [Cond.classLink RL 47 "java/util/NoSuchElementException", Cond.methodLink RL 74 yX1_panelsOf, Cond.instanceMethod yX1_panelsOf, Cond.selects RX1 yX1_panelsOf yX1_panelsOf, Cond.initialized RX1, Cond.code yX1_panelsOf cX1_panelsOf 3 (some .int), Cond.methodLink RX1 100 yX1_existing, Cond.instanceMethod yX1_existing, Cond.selects RX1 yX1_existing yX1_existing, Cond.code yX1_existing cX1_existing 3 (some (.object "FormworkYard$Pour")), Cond.classLink RX1 190 "java/util/NoSuchElementException", Cond.initialized "java/util/NoSuchElementException", Cond.fieldLink RX1 24 "FormworkYard" "pourList" "[LFormworkYard$Pour;", Cond.methodLink RX1 87 yX1_isNumber, Cond.static yX1_isNumber, Cond.code yX1_isNumber cX1_isNumber 1 (some .boolean), Cond.methodLink RX1 168 yX1_giveOutPanels, Cond.instanceMethod yX1_giveOutPanels, Cond.selects RX1 yX1_giveOutPanels yX1_giveOutPanels, Cond.code yX1_giveOutPanels cX1_giveOutPanels 5 none, Cond.methodLink RX1 206 yX1_nextToServe, Cond.instanceMethod yX1_nextToServe, Cond.selects RX1 yX1_nextToServe yX1_nextToServe, Cond.code yX1_nextToServe cX1_nextToServe 6 (some (.object "FormworkYard$Pour"))]
def wsL_panelsOf_r2 : List Cond := [Cond.methodLink RX1 210 yX1_panelsBusyIn, Cond.instanceMethod yX1_panelsBusyIn, Cond.selects RX1 yX1_panelsBusyIn yX1_panelsBusyIn, Cond.code yX1_panelsBusyIn cX1_panelsBusyIn 8 (some .long), Cond.instanceMethod yX0_isBusy, Cond.initialized RX0, Cond.selects RX0 yX0_isBusy yX0_isBusy, Cond.code yX0_isBusy cX0_isBusy 2 (some .boolean), Cond.fieldLink RX0 34 "FormworkYard$Pour" "busyFrom" "I", Cond.fieldLink RX0 37 "FormworkYard$Pour" "busyUntil" "I", Cond.methodLink RX1 214 yX1_lowestPanels, Cond.instanceMethod yX1_lowestPanels, Cond.selects RX1 yX1_lowestPanels yX1_lowestPanels, Cond.code yX1_lowestPanels cX1_lowestPanels 10 (some .long), Cond.fieldLink RX1 28 "FormworkYard" "yardPanels" "I", Cond.methodLink RX1 175 yJ13_bitCount_95d88, Cond.static yJ13_bitCount_95d88, Cond.initialized RJ13, Cond.code yJ13_bitCount_95d88 cJ13_bitCount_95d88 2 (some .int), Cond.constantLong RJ13 314 (6148914691236517205), Cond.constantLong RJ13 316 (3689348814741910323), Cond.constantLong RJ13 318 (1085102592571150095)]
def wsL_panelsOf : List Cond := .codeWith yL_panelsOf cL_panelsOf 4 (some .int) [(0, 9, 12, 47)] :: ((wsL_panelsOf_r1 ++ wsL_panelsOf_r2) ++ wsX00 ++ wsX10 ++ (vx_at0 RX1 192 "java/util/NoSuchElementException" ["java/lang/RuntimeException", "java/lang/Exception"]).filter goodWord)
def wsL_pourOf_r1 : List Cond := [Cond.classLink RL 13 "java/lang/IndexOutOfBoundsException", Cond.methodLink RL 77 yX1_pourOf, Cond.instanceMethod yX1_pourOf, Cond.selects RX1 yX1_pourOf yX1_pourOf, Cond.initialized RX1, Cond.code yX1_pourOf cX1_pourOf 7 (some .int), Cond.classLink RX1 181 "java/lang/IndexOutOfBoundsException", Cond.initialized "java/lang/IndexOutOfBoundsException", Cond.fieldLink RX1 28 "FormworkYard" "yardPanels" "I", Cond.fieldLink RX1 24 "FormworkYard" "pourList" "[LFormworkYard$Pour;", Cond.methodLink RX1 50 yX1_requireHour, Cond.static yX1_requireHour, Cond.code yX1_requireHour cX1_requireHour 1 none, Cond.methodLink RX1 165 yX1_isHour, Cond.static yX1_isHour, Cond.code yX1_isHour cX1_isHour 1 (some .boolean), Cond.methodLink RX1 168 yX1_giveOutPanels, Cond.instanceMethod yX1_giveOutPanels, Cond.selects RX1 yX1_giveOutPanels yX1_giveOutPanels, Cond.code yX1_giveOutPanels cX1_giveOutPanels 5 none, Cond.methodLink RX1 206 yX1_nextToServe, Cond.instanceMethod yX1_nextToServe, Cond.selects RX1 yX1_nextToServe yX1_nextToServe, Cond.code yX1_nextToServe cX1_nextToServe 6 (some (.object "FormworkYard$Pour"))]
def wsL_pourOf_r2 : List Cond := [Cond.methodLink RX1 210 yX1_panelsBusyIn, Cond.instanceMethod yX1_panelsBusyIn, Cond.selects RX1 yX1_panelsBusyIn yX1_panelsBusyIn, Cond.code yX1_panelsBusyIn cX1_panelsBusyIn 8 (some .long), Cond.instanceMethod yX0_isBusy, Cond.initialized RX0, Cond.selects RX0 yX0_isBusy yX0_isBusy, Cond.code yX0_isBusy cX0_isBusy 2 (some .boolean), Cond.fieldLink RX0 34 "FormworkYard$Pour" "busyFrom" "I", Cond.fieldLink RX0 37 "FormworkYard$Pour" "busyUntil" "I", Cond.methodLink RX1 214 yX1_lowestPanels, Cond.instanceMethod yX1_lowestPanels, Cond.selects RX1 yX1_lowestPanels yX1_lowestPanels, Cond.code yX1_lowestPanels cX1_lowestPanels 10 (some .long)]
def wsL_pourOf : List Cond := .codeWith yL_pourOf cL_pourOf 5 (some .int) [(0, 10, 13, 13)] :: ((wsL_pourOf_r1 ++ wsL_pourOf_r2) ++ wsX10 ++ wsX00 ++ (vx_at0 RX1 183 "java/lang/IndexOutOfBoundsException" ["java/lang/RuntimeException", "java/lang/Exception"]).filter goodWord)
def wsL_law0_r1 : List Cond := [Cond.classLink RL 8 RX1, Cond.instantiable RX1 9, Cond.initialized RX1, Cond.classLink RL 81 RX2, Cond.instantiable RX2 19, Cond.initialized RX2, Cond.arrayClass .long, Cond.methodLink RL 80 yX1_init, Cond.instanceMethod yX1_init, Cond.code yX1_init cX1_init 1 none, Cond.methodLink RX1 1 objectInit, Cond.instanceMethod objectInit, Cond.code objectInit ⟨#[0xb1]⟩ 1 none, Cond.arrayClass .int, Cond.fieldLink RX1 9 "FormworkYard" "temperatures" "[I", Cond.fieldLink RX1 13 "FormworkYard" "gained" "[I", Cond.fieldLink RX1 16 "FormworkYard" "needs" "[I", Cond.fieldLink RX1 19 "FormworkYard" "nextFull" "[I", Cond.classLink RX1 22 RX0, Cond.fieldLink RX1 24 "FormworkYard" "pourList" "[LFormworkYard$Pour;", Cond.fieldLink RX1 28 "FormworkYard" "yardPanels" "I", Cond.fieldLink RX1 32 "FormworkYard" "rate" "I", Cond.fieldLink RX1 35 "FormworkYard" "setUpHours" "I", Cond.fieldLink RX1 38 "FormworkYard" "cleaningHours" "I"]
def wsL_law0_r2 : List Cond := [Cond.methodLink RX1 41 yJ7_fill_53178, Cond.static yJ7_fill_53178, Cond.initialized RJ7, Cond.code yJ7_fill_53178 cJ7_fill_53178 4 none, Cond.methodLink RX1 47 yX1_sumGains, Cond.instanceMethod yX1_sumGains, Cond.selects RX1 yX1_sumGains yX1_sumGains, Cond.code yX1_sumGains cX1_sumGains 2 none, Cond.methodLink RX1 144 Lib.Math.max.name, Cond.static Lib.Math.max.name, Cond.initialized "java/lang/Math", Cond.code Lib.Math.max.name Lib.Math.max.code 2 (some .int), Cond.methodLink RL 83 yX2_init, Cond.instanceMethod yX2_init, Cond.code yX2_init cX2_init 2 none, Cond.methodLink RX2 1 objectInit, Cond.fieldLink RX2 7 "FormworkYardModel" "temperatures" "[I", Cond.fieldLink RX2 13 "FormworkYardModel" "panels" "I", Cond.fieldLink RX2 17 "FormworkYardModel" "trucks" "I", Cond.fieldLink RX2 20 "FormworkYardModel" "pump" "I", Cond.fieldLink RX2 23 "FormworkYardModel" "setUp" "I", Cond.fieldLink RX2 26 "FormworkYardModel" "cleaning" "I", Cond.arrayClass .boolean, Cond.fieldLink RX2 29 "FormworkYardModel" "isThere" "[Z"]
def wsL_law0_r3 : List Cond := [Cond.fieldLink RX2 33 "FormworkYardModel" "starts" "[I", Cond.fieldLink RX2 36 "FormworkYardModel" "volumes" "[I", Cond.fieldLink RX2 39 "FormworkYardModel" "needs" "[I", Cond.fieldLink RX2 42 "FormworkYardModel" "wanted" "[I", Cond.fieldLink RX2 45 "FormworkYardModel" "breakMany" "[I", Cond.fieldLink RX2 48 "FormworkYardModel" "parts" "[I", Cond.fieldLink RX2 51 "FormworkYardModel" "lasts" "[I", Cond.fieldLink RX2 54 "FormworkYardModel" "stands" "[I", Cond.fieldLink RX2 57 "FormworkYardModel" "strikes" "[I", Cond.fieldLink RX2 60 "FormworkYardModel" "frees" "[I", Cond.fieldLink RX2 63 "FormworkYardModel" "has" "[Z", Cond.methodLink RL 84 yL_setTemperature, Cond.static yL_setTemperature, Cond.initialized RL, Cond.codeWith yL_setTemperature cL_setTemperature 5 (some .int) [(0, 7, 10, 13), (0, 7, 14, 15)], Cond.classLink RL 13 "java/lang/IndexOutOfBoundsException", Cond.classLink RL 15 "java/lang/IllegalArgumentException", Cond.methodLink RL 7 yX1_setTemperature, Cond.instanceMethod yX1_setTemperature, Cond.selects RX1 yX1_setTemperature yX1_setTemperature, Cond.code yX1_setTemperature cX1_setTemperature 5 none, Cond.methodLink RX1 50 yX1_requireHour, Cond.static yX1_requireHour, Cond.code yX1_requireHour cX1_requireHour 1 none]
def wsL_law0_r4 : List Cond := [Cond.classLink RX1 181 "java/lang/IndexOutOfBoundsException", Cond.initialized "java/lang/IndexOutOfBoundsException", Cond.methodLink RX1 165 yX1_isHour, Cond.static yX1_isHour, Cond.code yX1_isHour cX1_isHour 1 (some .boolean), Cond.methodLink RX1 54 yX1_require, Cond.static yX1_require, Cond.code yX1_require cX1_require 1 none, Cond.classLink RX1 187 "java/lang/IllegalArgumentException", Cond.initialized "java/lang/IllegalArgumentException", Cond.methodLink RX1 58 yX1_requireRange, Cond.static yX1_requireRange, Cond.code yX1_requireRange cX1_requireRange 3 none, Cond.methodLink RX1 62 yX1_scheduleAll, Cond.instanceMethod yX1_scheduleAll, Cond.selects RX1 yX1_scheduleAll yX1_scheduleAll, Cond.code yX1_scheduleAll cX1_scheduleAll 5 none, Cond.methodLink RX1 96 yX1_schedule, Cond.instanceMethod yX1_schedule, Cond.selects RX1 yX1_schedule yX1_schedule, Cond.code yX1_schedule cX1_schedule 2 none, Cond.methodLink RX1 153 yX1_startedHours, Cond.instanceMethod yX1_startedHours, Cond.selects RX1 yX1_startedHours yX1_startedHours]
def wsL_law0_r5 : List Cond := [Cond.code yX1_startedHours cX1_startedHours 2 (some .int), Cond.methodLink RX1 126 yX1_fullHours, Cond.instanceMethod yX1_fullHours, Cond.selects RX1 yX1_fullHours yX1_fullHours, Cond.code yX1_fullHours cX1_fullHours 2 (some .int), Cond.instanceMethod yX0_hoursOfBreaks, Cond.initialized RX0, Cond.selects RX0 yX0_hoursOfBreaks yX0_hoursOfBreaks, Cond.code yX0_hoursOfBreaks cX0_hoursOfBreaks 3 (some .int), Cond.fieldLink RX0 31 "FormworkYard$Pour" "breaks" "I", Cond.fieldLink RX0 15 "FormworkYard$Pour" "lengths" "[I", Cond.methodLink RX1 159 yX1_strikeHour, Cond.instanceMethod yX1_strikeHour, Cond.selects RX1 yX1_strikeHour yX1_strikeHour, Cond.code yX1_strikeHour cX1_strikeHour 6 (some .int), Cond.methodLink RX1 65 yX1_gainBetween, Cond.instanceMethod yX1_gainBetween, Cond.selects RX1 yX1_gainBetween yX1_gainBetween, Cond.code yX1_gainBetween cX1_gainBetween 4 (some .int), Cond.methodLink RX1 74 Lib.Math.min.name, Cond.static Lib.Math.min.name, Cond.code Lib.Math.min.name Lib.Math.min.code 2 (some .int), Cond.methodLink RX1 70 yX1_strengthAt, Cond.static yX1_strengthAt]
def wsL_law0_r6 : List Cond := [Cond.code yX1_strengthAt cX1_strengthAt 4 (some .int), Cond.fieldLink RX1 193 "FormworkYard" "STEPS" "[I", Cond.methodLink RX1 156 yX1_standHour, Cond.instanceMethod yX1_standHour, Cond.selects RX1 yX1_standHour yX1_standHour, Cond.code yX1_standHour cX1_standHour 2 (some .int), Cond.methodLink RX1 162 yX1_releaseHour, Cond.instanceMethod yX1_releaseHour, Cond.selects RX1 yX1_releaseHour yX1_releaseHour, Cond.code yX1_releaseHour cX1_releaseHour 2 (some .int), Cond.methodLink RL 89 yX2_setTemperature, Cond.instanceMethod yX2_setTemperature, Cond.selects RX2 yX2_setTemperature yX2_setTemperature, Cond.code yX2_setTemperature cX2_setTemperature 5 none, Cond.fieldLink RX2 66 "FormworkYardModel" "thrown" "I", Cond.methodLink RX2 73 yX2_isHour, Cond.static yX2_isHour, Cond.code yX2_isHour cX2_isHour 1 (some .boolean), Cond.methodLink RX2 69 yX2_in, Cond.static yX2_in, Cond.code yX2_in cX2_in 3 (some .boolean), Cond.methodLink RL 90 yX2_thrown, Cond.instanceMethod yX2_thrown, Cond.selects RX2 yX2_thrown yX2_thrown]
def wsL_law0_r7 : List Cond := [Cond.code yX2_thrown cX2_thrown 1 (some .int), Cond.methodLink RL 94 yL_temperature, Cond.static yL_temperature, Cond.codeWith yL_temperature cL_temperature 4 (some .int) [(0, 9, 12, 13)], Cond.methodLink RL 17 yX1_temperature, Cond.instanceMethod yX1_temperature, Cond.selects RX1 yX1_temperature yX1_temperature, Cond.code yX1_temperature cX1_temperature 2 (some .int), Cond.methodLink RL 97 yX2_temperature, Cond.instanceMethod yX2_temperature, Cond.selects RX2 yX2_temperature yX2_temperature, Cond.code yX2_temperature cX2_temperature 2 (some .int), Cond.methodLink RX2 106 yX2_fails, Cond.instanceMethod yX2_fails, Cond.selects RX2 yX2_fails yX2_fails, Cond.code yX2_fails cX2_fails 2 (some .int), Cond.methodLink RL 98 yL_maturity, Cond.static yL_maturity, Cond.codeWith yL_maturity cL_maturity 5 (some .int) [(0, 10, 13, 13)], Cond.methodLink RL 21 yX1_maturity, Cond.instanceMethod yX1_maturity, Cond.selects RX1 yX1_maturity yX1_maturity, Cond.code yX1_maturity cX1_maturity 3 (some .int), Cond.methodLink RL 101 yX2_maturity]
def wsL_law0_r8 : List Cond := [Cond.instanceMethod yX2_maturity, Cond.selects RX2 yX2_maturity yX2_maturity, Cond.code yX2_maturity cX2_maturity 3 (some .int), Cond.methodLink RX2 109 yX2_sum, Cond.instanceMethod yX2_sum, Cond.selects RX2 yX2_sum yX2_sum, Cond.code yX2_sum cX2_sum 5 (some .int), Cond.methodLink RX2 77 yX2_gain, Cond.instanceMethod yX2_gain, Cond.selects RX2 yX2_gain yX2_gain, Cond.code yX2_gain cX2_gain 3 (some .int), Cond.methodLink RL 102 yL_strength, Cond.static yL_strength, Cond.codeWith yL_strength cL_strength 4 (some .int) [(0, 9, 12, 15)], Cond.methodLink RL 25 yX1_strength, Cond.instanceMethod yX1_strength, Cond.selects RX1 yX1_strength yX1_strength, Cond.code yX1_strength cX1_strength 2 (some .int), Cond.constant RX1 69 (1000000), Cond.methodLink RL 104 yX2_strength, Cond.instanceMethod yX2_strength, Cond.selects RX2 yX2_strength yX2_strength, Cond.code yX2_strength cX2_strength 2 (some .int), Cond.constant RX2 113 (1000000)]
def wsL_law0_r9 : List Cond := [Cond.methodLink RX2 95 yX2_strong, Cond.static yX2_strong, Cond.code yX2_strong cX2_strong 1 (some .int), Cond.methodLink RX2 81 yX2_between, Cond.static yX2_between, Cond.code yX2_between cX2_between 4 (some .int), Cond.methodLink RL 105 yL_setPanels, Cond.static yL_setPanels, Cond.codeWith yL_setPanels cL_setPanels 4 (some .int) [(0, 9, 12, 15)], Cond.methodLink RL 28 yX1_setPanels, Cond.instanceMethod yX1_setPanels, Cond.selects RX1 yX1_setPanels yX1_setPanels, Cond.code yX1_setPanels cX1_setPanels 3 (some .int), Cond.methodLink RL 107 yX2_setPanels, Cond.instanceMethod yX2_setPanels, Cond.selects RX2 yX2_setPanels yX2_setPanels, Cond.code yX2_setPanels cX2_setPanels 3 (some .int), Cond.methodLink RL 108 yL_setRates, Cond.static yL_setRates, Cond.codeWith yL_setRates cL_setRates 5 (some .int) [(0, 10, 13, 15)], Cond.methodLink RL 31 yX1_setRates, Cond.instanceMethod yX1_setRates, Cond.selects RX1 yX1_setRates yX1_setRates, Cond.code yX1_setRates cX1_setRates 3 (some .int)]
def wsL_law0_r10 : List Cond := [Cond.methodLink RL 110 yX2_setRates, Cond.instanceMethod yX2_setRates, Cond.selects RX2 yX2_setRates yX2_setRates, Cond.code yX2_setRates cX2_setRates 3 (some .int), Cond.methodLink RX2 85 yX2_rate, Cond.instanceMethod yX2_rate, Cond.selects RX2 yX2_rate yX2_rate, Cond.code yX2_rate cX2_rate 1 (some .int), Cond.methodLink RL 111 yL_setCrew, Cond.static yL_setCrew, Cond.codeWith yL_setCrew cL_setCrew 4 (some .int) [(0, 6, 9, 15)], Cond.methodLink RL 34 yX1_setCrew, Cond.instanceMethod yX1_setCrew, Cond.selects RX1 yX1_setCrew yX1_setCrew, Cond.code yX1_setCrew cX1_setCrew 3 none, Cond.methodLink RL 114 yX2_setCrew, Cond.instanceMethod yX2_setCrew, Cond.selects RX2 yX2_setCrew yX2_setCrew, Cond.code yX2_setCrew cX2_setCrew 3 none, Cond.methodLink RL 115 yL_plan, Cond.static yL_plan, Cond.codeWith yL_plan cL_plan 7 (some .int) [(0, 14, 17, 15), (0, 14, 21, 42)], Cond.classLink RL 42 "java/lang/IllegalStateException", Cond.methodLink RL 38 yX1_plan]
def wsL_law0_r11 : List Cond := [Cond.instanceMethod yX1_plan, Cond.selects RX1 yX1_plan yX1_plan, Cond.code yX1_plan cX1_plan 7 (some .int), Cond.classLink RX1 91 "java/lang/IllegalStateException", Cond.initialized "java/lang/IllegalStateException", Cond.instantiable RX0 13, Cond.methodLink RX1 79 yX1_requirePour, Cond.static yX1_requirePour, Cond.code yX1_requirePour cX1_requirePour 4 none, Cond.methodLink RX1 83 yX1_freeNumber, Cond.instanceMethod yX1_freeNumber, Cond.selects RX1 yX1_freeNumber yX1_freeNumber, Cond.code yX1_freeNumber cX1_freeNumber 2 (some .int), Cond.methodLink RX1 87 yX1_isNumber, Cond.static yX1_isNumber, Cond.code yX1_isNumber cX1_isNumber 1 (some .boolean), Cond.instanceMethod yX0_init, Cond.code yX0_init cX0_init 5 none, Cond.methodLink RX0 3 objectInit, Cond.fieldLink RX0 9 "FormworkYard$Pour" "parts" "[I", Cond.fieldLink RX0 18 "FormworkYard$Pour" "start" "I", Cond.fieldLink RX0 22 "FormworkYard$Pour" "volume" "I", Cond.fieldLink RX0 25 "FormworkYard$Pour" "panels" "I", Cond.fieldLink RX0 28 "FormworkYard$Pour" "wanted" "I"]
def wsL_law0_r12 : List Cond := [Cond.methodLink RL 118 yX2_plan, Cond.instanceMethod yX2_plan, Cond.selects RX2 yX2_plan yX2_plan, Cond.code yX2_plan cX2_plan 6 (some .int), Cond.methodLink RX2 114 yX2_freeNumber, Cond.instanceMethod yX2_freeNumber, Cond.selects RX2 yX2_freeNumber yX2_freeNumber, Cond.code yX2_freeNumber cX2_freeNumber 2 (some .int), Cond.methodLink RX2 117 yX2_isPlan, Cond.static yX2_isPlan, Cond.code yX2_isPlan cX2_isPlan 4 (some .boolean), Cond.methodLink RX2 121 yX2_lays, Cond.instanceMethod yX2_lays, Cond.selects RX2 yX2_lays yX2_lays, Cond.code yX2_lays cX2_lays 6 none, Cond.methodLink RL 119 yL_move, Cond.static yL_move, Cond.codeWith yL_move cL_move 5 (some .int) [(0, 10, 13, 47), (0, 10, 17, 15)], Cond.classLink RL 47 "java/util/NoSuchElementException", Cond.methodLink RL 44 yX1_move, Cond.instanceMethod yX1_move, Cond.selects RX1 yX1_move yX1_move, Cond.code yX1_move cX1_move 5 (some .int), Cond.methodLink RX1 100 yX1_existing]
def wsL_law0_r13 : List Cond := [Cond.instanceMethod yX1_existing, Cond.selects RX1 yX1_existing yX1_existing, Cond.code yX1_existing cX1_existing 3 (some (.object "FormworkYard$Pour")), Cond.classLink RX1 190 "java/util/NoSuchElementException", Cond.initialized "java/util/NoSuchElementException", Cond.methodLink RL 121 yX2_move, Cond.instanceMethod yX2_move, Cond.selects RX2 yX2_move yX2_move, Cond.code yX2_move cX2_move 4 (some .int), Cond.methodLink RX2 125 yX2_isPour, Cond.instanceMethod yX2_isPour, Cond.selects RX2 yX2_isPour yX2_isPour, Cond.code yX2_isPour cX2_isPour 2 (some .boolean), Cond.methodLink RL 122 yL_cancel, Cond.static yL_cancel, Cond.codeWith yL_cancel cL_cancel 4 (some .int) [(0, 9, 12, 47)], Cond.methodLink RL 49 yX1_cancel, Cond.instanceMethod yX1_cancel, Cond.selects RX1 yX1_cancel yX1_cancel, Cond.code yX1_cancel cX1_cancel 3 (some .int), Cond.methodLink RL 124 yX2_cancel, Cond.instanceMethod yX2_cancel, Cond.selects RX2 yX2_cancel yX2_cancel, Cond.code yX2_cancel cX2_cancel 2 (some .int)]
def wsL_law0_r14 : List Cond := [Cond.methodLink RL 125 yL_delay, Cond.static yL_delay, Cond.codeWith yL_delay cL_delay 6 (some .int) [(0, 12, 15, 47), (0, 12, 19, 15), (0, 12, 23, 42)], Cond.methodLink RL 52 yX1_delay, Cond.instanceMethod yX1_delay, Cond.selects RX1 yX1_delay yX1_delay, Cond.code yX1_delay cX1_delay 5 (some .int), Cond.instanceMethod yX0_addBreak, Cond.selects RX0 yX0_addBreak yX0_addBreak, Cond.code yX0_addBreak cX0_addBreak 4 none, Cond.methodLink RL 128 yX2_delay, Cond.instanceMethod yX2_delay, Cond.selects RX2 yX2_delay yX2_delay, Cond.code yX2_delay cX2_delay 5 (some .int), Cond.methodLink RL 129 yX1_pours, Cond.instanceMethod yX1_pours, Cond.selects RX1 yX1_pours yX1_pours, Cond.code yX1_pours cX1_pours 6 (some .int), Cond.methodLink RL 132 yX2_pours, Cond.instanceMethod yX2_pours, Cond.selects RX2 yX2_pours yX2_pours, Cond.code yX2_pours cX2_pours 3 (some .int), Cond.methodLink RL 133 yL_endOf, Cond.static yL_endOf]
def wsL_law0_r15 : List Cond := [Cond.codeWith yL_endOf cL_endOf 4 (some .int) [(0, 9, 12, 47)], Cond.methodLink RL 56 yX1_endOf, Cond.instanceMethod yX1_endOf, Cond.selects RX1 yX1_endOf yX1_endOf, Cond.code yX1_endOf cX1_endOf 3 (some .int), Cond.methodLink RL 135 yX2_endOf, Cond.instanceMethod yX2_endOf, Cond.selects RX2 yX2_endOf yX2_endOf, Cond.code yX2_endOf cX2_endOf 2 (some .int), Cond.methodLink RX2 128 yX2_isAsked, Cond.instanceMethod yX2_isAsked, Cond.selects RX2 yX2_isAsked yX2_isAsked, Cond.code yX2_isAsked cX2_isAsked 2 (some .boolean), Cond.methodLink RX2 98 yX2_works, Cond.instanceMethod yX2_works, Cond.selects RX2 yX2_works yX2_works, Cond.code yX2_works cX2_works 4 none, Cond.methodLink RX2 92 yX2_end, Cond.instanceMethod yX2_end, Cond.selects RX2 yX2_end yX2_end, Cond.code yX2_end cX2_end 2 (some .int), Cond.methodLink RX2 89 yX2_delays, Cond.instanceMethod yX2_delays, Cond.selects RX2 yX2_delays yX2_delays]
def wsL_law0_r16 : List Cond := [Cond.code yX2_delays cX2_delays 4 (some .int), Cond.methodLink RL 136 yL_coldJoints, Cond.static yL_coldJoints, Cond.codeWith yL_coldJoints cL_coldJoints 4 (some .int) [(0, 9, 12, 47)], Cond.methodLink RL 59 yX1_coldJoints, Cond.instanceMethod yX1_coldJoints, Cond.selects RX1 yX1_coldJoints yX1_coldJoints, Cond.code yX1_coldJoints cX1_coldJoints 8 (some .int), Cond.methodLink RL 138 yX2_coldJoints, Cond.instanceMethod yX2_coldJoints, Cond.selects RX2 yX2_coldJoints yX2_coldJoints, Cond.code yX2_coldJoints cX2_coldJoints 8 (some .int), Cond.methodLink RL 139 yL_struck, Cond.static yL_struck, Cond.codeWith yL_struck cL_struck 4 (some .int) [(0, 9, 12, 47)], Cond.methodLink RL 62 yX1_struck, Cond.instanceMethod yX1_struck, Cond.selects RX1 yX1_struck yX1_struck, Cond.code yX1_struck cX1_struck 3 (some .int), Cond.methodLink RL 141 yX2_struck, Cond.instanceMethod yX2_struck, Cond.selects RX2 yX2_struck yX2_struck, Cond.code yX2_struck cX2_struck 2 (some .int), Cond.methodLink RL 142 yL_freeFrom]
def wsL_law0_r17 : List Cond := [Cond.static yL_freeFrom, Cond.codeWith yL_freeFrom cL_freeFrom 4 (some .int) [(0, 9, 12, 47)], Cond.methodLink RL 65 yX1_freeFrom, Cond.instanceMethod yX1_freeFrom, Cond.selects RX1 yX1_freeFrom yX1_freeFrom, Cond.code yX1_freeFrom cX1_freeFrom 3 (some .int), Cond.methodLink RL 144 yX2_freeFrom, Cond.instanceMethod yX2_freeFrom, Cond.selects RX2 yX2_freeFrom yX2_freeFrom, Cond.code yX2_freeFrom cX2_freeFrom 2 (some .int), Cond.methodLink RL 145 yL_need, Cond.static yL_need, Cond.codeWith yL_need cL_need 4 (some .int) [(0, 9, 12, 13)], Cond.methodLink RL 68 yX1_need, Cond.instanceMethod yX1_need, Cond.selects RX1 yX1_need yX1_need, Cond.code yX1_need cX1_need 2 (some .int), Cond.methodLink RX1 138 yX1_needIn, Cond.instanceMethod yX1_needIn, Cond.selects RX1 yX1_needIn yX1_needIn, Cond.code yX1_needIn cX1_needIn 7 (some .int), Cond.instanceMethod yX0_isBusy, Cond.selects RX0 yX0_isBusy yX0_isBusy, Cond.code yX0_isBusy cX0_isBusy 2 (some .boolean)]
def wsL_law0_r18 : List Cond := [Cond.fieldLink RX0 34 "FormworkYard$Pour" "busyFrom" "I", Cond.fieldLink RX0 37 "FormworkYard$Pour" "busyUntil" "I", Cond.methodLink RL 147 yX2_need, Cond.instanceMethod yX2_need, Cond.selects RX2 yX2_need yX2_need, Cond.code yX2_need cX2_need 2 (some .int), Cond.methodLink RX2 131 yX2_worksAll, Cond.instanceMethod yX2_worksAll, Cond.selects RX2 yX2_worksAll yX2_worksAll, Cond.code yX2_worksAll cX2_worksAll 2 none, Cond.methodLink RX2 134 yX2_needOf, Cond.instanceMethod yX2_needOf, Cond.selects RX2 yX2_needOf yX2_needOf, Cond.code yX2_needOf cX2_needOf 4 (some .int), Cond.methodLink RX2 102 yX2_isBusy, Cond.instanceMethod yX2_isBusy, Cond.selects RX2 yX2_isBusy yX2_isBusy, Cond.code yX2_isBusy cX2_isBusy 3 (some .boolean), Cond.methodLink RL 148 yX1_peak, Cond.instanceMethod yX1_peak, Cond.selects RX1 yX1_peak yX1_peak, Cond.code yX1_peak cX1_peak 6 (some .int), Cond.methodLink RX1 141 yX1_sumNeeds, Cond.instanceMethod yX1_sumNeeds]
def wsL_law0_r19 : List Cond := [Cond.selects RX1 yX1_sumNeeds yX1_sumNeeds, Cond.code yX1_sumNeeds cX1_sumNeeds 2 none, Cond.methodLink RL 151 yX2_peak, Cond.instanceMethod yX2_peak, Cond.selects RX2 yX2_peak yX2_peak, Cond.code yX2_peak cX2_peak 1 (some .int), Cond.methodLink RX2 137 yX2_most, Cond.instanceMethod yX2_most, Cond.selects RX2 yX2_most yX2_most, Cond.code yX2_most cX2_most 3 (some .int), Cond.methodLink RL 152 yX1_peakByOverlaps, Cond.instanceMethod yX1_peakByOverlaps, Cond.selects RX1 yX1_peakByOverlaps yX1_peakByOverlaps, Cond.code yX1_peakByOverlaps cX1_peakByOverlaps 6 (some .int), Cond.methodLink RL 155 yX2_peakByOverlaps, Cond.instanceMethod yX2_peakByOverlaps, Cond.selects RX2 yX2_peakByOverlaps yX2_peakByOverlaps, Cond.code yX2_peakByOverlaps cX2_peakByOverlaps 1 (some .int), Cond.methodLink RL 156 yX1_firstShort, Cond.instanceMethod yX1_firstShort, Cond.selects RX1 yX1_firstShort yX1_firstShort, Cond.code yX1_firstShort cX1_firstShort 2 (some .int), Cond.methodLink RL 159 yX2_firstShort, Cond.instanceMethod yX2_firstShort]
def wsL_law0_r20 : List Cond := [Cond.selects RX2 yX2_firstShort yX2_firstShort, Cond.code yX2_firstShort cX2_firstShort 3 (some .int), Cond.methodLink RL 160 yL_earliest, Cond.static yL_earliest, Cond.codeWith yL_earliest cL_earliest 7 (some .int) [(0, 14, 17, 15)], Cond.methodLink RL 71 yX1_earliest, Cond.instanceMethod yX1_earliest, Cond.selects RX1 yX1_earliest yX1_earliest, Cond.code yX1_earliest cX1_earliest 9 (some .int), Cond.methodLink RX1 150 yX1_markFullHours, Cond.instanceMethod yX1_markFullHours, Cond.selects RX1 yX1_markFullHours yX1_markFullHours, Cond.code yX1_markFullHours cX1_markFullHours 4 none, Cond.methodLink RL 162 yX2_earliest, Cond.instanceMethod yX2_earliest, Cond.selects RX2 yX2_earliest yX2_earliest, Cond.code yX2_earliest cX2_earliest 6 (some .int), Cond.methodLink RX2 140 yX2_fits, Cond.instanceMethod yX2_fits, Cond.selects RX2 yX2_fits yX2_fits, Cond.code yX2_fits cX2_fits 3 (some .boolean), Cond.methodLink RL 163 yL_panelsOf, Cond.static yL_panelsOf, Cond.codeWith yL_panelsOf cL_panelsOf 4 (some .int) [(0, 9, 12, 47)]]
def wsL_law0_r21 : List Cond := [Cond.methodLink RL 74 yX1_panelsOf, Cond.instanceMethod yX1_panelsOf, Cond.selects RX1 yX1_panelsOf yX1_panelsOf, Cond.code yX1_panelsOf cX1_panelsOf 3 (some .int), Cond.methodLink RX1 168 yX1_giveOutPanels, Cond.instanceMethod yX1_giveOutPanels, Cond.selects RX1 yX1_giveOutPanels yX1_giveOutPanels, Cond.code yX1_giveOutPanels cX1_giveOutPanels 5 none, Cond.methodLink RX1 206 yX1_nextToServe, Cond.instanceMethod yX1_nextToServe, Cond.selects RX1 yX1_nextToServe yX1_nextToServe, Cond.code yX1_nextToServe cX1_nextToServe 6 (some (.object "FormworkYard$Pour")), Cond.methodLink RX1 210 yX1_panelsBusyIn, Cond.instanceMethod yX1_panelsBusyIn, Cond.selects RX1 yX1_panelsBusyIn yX1_panelsBusyIn, Cond.code yX1_panelsBusyIn cX1_panelsBusyIn 8 (some .long), Cond.methodLink RX1 214 yX1_lowestPanels, Cond.instanceMethod yX1_lowestPanels, Cond.selects RX1 yX1_lowestPanels yX1_lowestPanels, Cond.code yX1_lowestPanels cX1_lowestPanels 10 (some .long), Cond.methodLink RX1 175 yJ13_bitCount_95d88, Cond.static yJ13_bitCount_95d88, Cond.initialized RJ13, Cond.code yJ13_bitCount_95d88 cJ13_bitCount_95d88 2 (some .int)]
def wsL_law0_r22 : List Cond := [Cond.constantLong RJ13 314 (6148914691236517205), Cond.constantLong RJ13 316 (3689348814741910323), Cond.constantLong RJ13 318 (1085102592571150095), Cond.methodLink RL 165 yX2_panelsOf, Cond.instanceMethod yX2_panelsOf, Cond.selects RX2 yX2_panelsOf yX2_panelsOf, Cond.code yX2_panelsOf cX2_panelsOf 4 (some .int), Cond.methodLink RX2 147 yX2_gives, Cond.instanceMethod yX2_gives, Cond.selects RX2 yX2_gives yX2_gives, Cond.code yX2_gives cX2_gives 5 none, Cond.methodLink RX2 144 yX2_isTaken, Cond.instanceMethod yX2_isTaken, Cond.selects RX2 yX2_isTaken yX2_isTaken, Cond.code yX2_isTaken cX2_isTaken 5 (some .boolean), Cond.methodLink RL 166 yL_pourOf, Cond.static yL_pourOf, Cond.codeWith yL_pourOf cL_pourOf 5 (some .int) [(0, 10, 13, 13)], Cond.methodLink RL 77 yX1_pourOf, Cond.instanceMethod yX1_pourOf, Cond.selects RX1 yX1_pourOf yX1_pourOf, Cond.code yX1_pourOf cX1_pourOf 7 (some .int), Cond.methodLink RL 168 yX2_pourOf, Cond.instanceMethod yX2_pourOf]
def wsL_law0_r23 : List Cond := [Cond.selects RX2 yX2_pourOf yX2_pourOf, Cond.code yX2_pourOf cX2_pourOf 5 (some .int)]
def wsL_law0 : List Cond := (wsL_law0_r1 ++ (wsL_law0_r2 ++ (wsL_law0_r3 ++ (wsL_law0_r4 ++ (wsL_law0_r5 ++ (wsL_law0_r6 ++ (wsL_law0_r7 ++ (wsL_law0_r8 ++ (wsL_law0_r9 ++ (wsL_law0_r10 ++ (wsL_law0_r11 ++ (wsL_law0_r12 ++ (wsL_law0_r13 ++ (wsL_law0_r14 ++ (wsL_law0_r15 ++ (wsL_law0_r16 ++ (wsL_law0_r17 ++ (wsL_law0_r18 ++ (wsL_law0_r19 ++ (wsL_law0_r20 ++ (wsL_law0_r21 ++ (wsL_law0_r22 ++ wsL_law0_r23)))))))))))))))))))))) ++ wsX10 ++ wsX20 ++ wsX00 ++ ([] : List Cond)
def wsL_law : List Cond := wsL_law0 ++ (vx_at0 RX1 183 "java/lang/IndexOutOfBoundsException" ["java/lang/RuntimeException", "java/lang/Exception"]).filter goodWord ++ (vx_at0 RX1 189 "java/lang/IllegalArgumentException" ["java/lang/RuntimeException", "java/lang/Exception"]).filter goodWord ++ (vx_at0 RX1 93 "java/lang/IllegalStateException" ["java/lang/RuntimeException", "java/lang/Exception"]).filter goodWord ++ (vx_at0 RX1 192 "java/util/NoSuchElementException" ["java/lang/RuntimeException", "java/lang/Exception"]).filter goodWord
end
section
theorem dX0_init_0 : decode cX0_init 0 = .ok (.aload_n 0, 1) := by decide +kernel
theorem dX0_init_1 : decode cX0_init 1 = .ok (.invokespecial 3, 3) := by decide +kernel
theorem dX0_init_4 : decode cX0_init 4 = .ok (.aload_n 0, 1) := by decide +kernel
theorem dX0_init_5 : decode cX0_init 5 = .ok (.iconst 4, 1) := by decide +kernel
theorem dX0_init_6 : decode cX0_init 6 = .ok (.newarray .int, 2) := by decide +kernel
theorem dX0_init_8 : decode cX0_init 8 = .ok (.putfield 9, 3) := by decide +kernel
theorem dX0_init_11 : decode cX0_init 11 = .ok (.aload_n 0, 1) := by decide +kernel
theorem dX0_init_12 : decode cX0_init 12 = .ok (.iconst 4, 1) := by decide +kernel
theorem dX0_init_13 : decode cX0_init 13 = .ok (.newarray .int, 2) := by decide +kernel
theorem dX0_init_15 : decode cX0_init 15 = .ok (.putfield 15, 3) := by decide +kernel
theorem dX0_init_18 : decode cX0_init 18 = .ok (.aload_n 0, 1) := by decide +kernel
theorem dX0_init_19 : decode cX0_init 19 = .ok (.iload_n 1, 1) := by decide +kernel
theorem dX0_init_20 : decode cX0_init 20 = .ok (.putfield 18, 3) := by decide +kernel
theorem dX0_init_23 : decode cX0_init 23 = .ok (.aload_n 0, 1) := by decide +kernel
theorem dX0_init_24 : decode cX0_init 24 = .ok (.iload_n 2, 1) := by decide +kernel
theorem dX0_init_25 : decode cX0_init 25 = .ok (.putfield 22, 3) := by decide +kernel
theorem dX0_init_28 : decode cX0_init 28 = .ok (.aload_n 0, 1) := by decide +kernel
theorem dX0_init_29 : decode cX0_init 29 = .ok (.iload_n 3, 1) := by decide +kernel
theorem dX0_init_30 : decode cX0_init 30 = .ok (.putfield 25, 3) := by decide +kernel
theorem dX0_init_33 : decode cX0_init 33 = .ok (.aload_n 0, 1) := by decide +kernel
theorem dX0_init_34 : decode cX0_init 34 = .ok (.iload 4, 2) := by decide +kernel
theorem dX0_init_36 : decode cX0_init 36 = .ok (.putfield 28, 3) := by decide +kernel
theorem dX0_init_39 : decode cX0_init 39 = .ok (.return_, 1) := by decide +kernel
theorem dX0_addBreak_0 : decode cX0_addBreak 0 = .ok (.aload_n 0, 1) := by decide +kernel
theorem dX0_addBreak_1 : decode cX0_addBreak 1 = .ok (.getfield 31, 3) := by decide +kernel
theorem dX0_addBreak_4 : decode cX0_addBreak 4 = .ok (.ifCond .lt 11, 3) := by decide +kernel
theorem dX0_addBreak_7 : decode cX0_addBreak 7 = .ok (.aload_n 0, 1) := by decide +kernel
theorem dX0_addBreak_8 : decode cX0_addBreak 8 = .ok (.getfield 31, 3) := by decide +kernel
theorem dX0_addBreak_11 : decode cX0_addBreak 11 = .ok (.iconst 4, 1) := by decide +kernel
theorem dX0_addBreak_12 : decode cX0_addBreak 12 = .ok (.if_icmp .lt 4, 3) := by decide +kernel
theorem dX0_addBreak_15 : decode cX0_addBreak 15 = .ok (.return_, 1) := by decide +kernel
theorem dX0_addBreak_16 : decode cX0_addBreak 16 = .ok (.aload_n 0, 1) := by decide +kernel
theorem dX0_addBreak_17 : decode cX0_addBreak 17 = .ok (.getfield 31, 3) := by decide +kernel
theorem dX0_addBreak_20 : decode cX0_addBreak 20 = .ok (.istore_n 3, 1) := by decide +kernel
theorem dX0_addBreak_21 : decode cX0_addBreak 21 = .ok (.iload_n 3, 1) := by decide +kernel
theorem dX0_addBreak_22 : decode cX0_addBreak 22 = .ok (.ifCond .le 49, 3) := by decide +kernel
theorem dX0_addBreak_25 : decode cX0_addBreak 25 = .ok (.aload_n 0, 1) := by decide +kernel
theorem dX0_addBreak_26 : decode cX0_addBreak 26 = .ok (.getfield 9, 3) := by decide +kernel
theorem dX0_addBreak_29 : decode cX0_addBreak 29 = .ok (.iload_n 3, 1) := by decide +kernel
theorem dX0_addBreak_30 : decode cX0_addBreak 30 = .ok (.iconst 1, 1) := by decide +kernel
theorem dX0_addBreak_31 : decode cX0_addBreak 31 = .ok (.isub, 1) := by decide +kernel
theorem dX0_addBreak_32 : decode cX0_addBreak 32 = .ok (.iaload, 1) := by decide +kernel
theorem dX0_addBreak_33 : decode cX0_addBreak 33 = .ok (.iload_n 1, 1) := by decide +kernel
theorem dX0_addBreak_34 : decode cX0_addBreak 34 = .ok (.if_icmp .le 37, 3) := by decide +kernel
theorem dX0_addBreak_37 : decode cX0_addBreak 37 = .ok (.aload_n 0, 1) := by decide +kernel
theorem dX0_addBreak_38 : decode cX0_addBreak 38 = .ok (.getfield 9, 3) := by decide +kernel
theorem dX0_addBreak_41 : decode cX0_addBreak 41 = .ok (.iload_n 3, 1) := by decide +kernel
theorem dX0_addBreak_42 : decode cX0_addBreak 42 = .ok (.aload_n 0, 1) := by decide +kernel
theorem dX0_addBreak_43 : decode cX0_addBreak 43 = .ok (.getfield 9, 3) := by decide +kernel
theorem dX0_addBreak_46 : decode cX0_addBreak 46 = .ok (.iload_n 3, 1) := by decide +kernel
theorem dX0_addBreak_47 : decode cX0_addBreak 47 = .ok (.iconst 1, 1) := by decide +kernel
theorem dX0_addBreak_48 : decode cX0_addBreak 48 = .ok (.isub, 1) := by decide +kernel
theorem dX0_addBreak_49 : decode cX0_addBreak 49 = .ok (.iaload, 1) := by decide +kernel
theorem dX0_addBreak_50 : decode cX0_addBreak 50 = .ok (.iastore, 1) := by decide +kernel
theorem dX0_addBreak_51 : decode cX0_addBreak 51 = .ok (.aload_n 0, 1) := by decide +kernel
theorem dX0_addBreak_52 : decode cX0_addBreak 52 = .ok (.getfield 15, 3) := by decide +kernel
theorem dX0_addBreak_55 : decode cX0_addBreak 55 = .ok (.iload_n 3, 1) := by decide +kernel
theorem dX0_addBreak_56 : decode cX0_addBreak 56 = .ok (.aload_n 0, 1) := by decide +kernel
theorem dX0_addBreak_57 : decode cX0_addBreak 57 = .ok (.getfield 15, 3) := by decide +kernel
theorem dX0_addBreak_60 : decode cX0_addBreak 60 = .ok (.iload_n 3, 1) := by decide +kernel
theorem dX0_addBreak_61 : decode cX0_addBreak 61 = .ok (.iconst 1, 1) := by decide +kernel
theorem dX0_addBreak_62 : decode cX0_addBreak 62 = .ok (.isub, 1) := by decide +kernel
theorem dX0_addBreak_63 : decode cX0_addBreak 63 = .ok (.iaload, 1) := by decide +kernel
theorem dX0_addBreak_64 : decode cX0_addBreak 64 = .ok (.iastore, 1) := by decide +kernel
theorem dX0_addBreak_65 : decode cX0_addBreak 65 = .ok (.iinc 3 (-1), 3) := by decide +kernel
theorem dX0_addBreak_68 : decode cX0_addBreak 68 = .ok (.goto (-47), 3) := by decide +kernel
theorem dX0_addBreak_71 : decode cX0_addBreak 71 = .ok (.aload_n 0, 1) := by decide +kernel
theorem dX0_addBreak_72 : decode cX0_addBreak 72 = .ok (.getfield 9, 3) := by decide +kernel
theorem dX0_addBreak_75 : decode cX0_addBreak 75 = .ok (.iload_n 3, 1) := by decide +kernel
theorem dX0_addBreak_76 : decode cX0_addBreak 76 = .ok (.iload_n 1, 1) := by decide +kernel
theorem dX0_addBreak_77 : decode cX0_addBreak 77 = .ok (.iastore, 1) := by decide +kernel
theorem dX0_addBreak_78 : decode cX0_addBreak 78 = .ok (.aload_n 0, 1) := by decide +kernel
theorem dX0_addBreak_79 : decode cX0_addBreak 79 = .ok (.getfield 15, 3) := by decide +kernel
theorem dX0_addBreak_82 : decode cX0_addBreak 82 = .ok (.iload_n 3, 1) := by decide +kernel
theorem dX0_addBreak_83 : decode cX0_addBreak 83 = .ok (.iload_n 2, 1) := by decide +kernel
theorem dX0_addBreak_84 : decode cX0_addBreak 84 = .ok (.iastore, 1) := by decide +kernel
theorem dX0_addBreak_85 : decode cX0_addBreak 85 = .ok (.aload_n 0, 1) := by decide +kernel
theorem dX0_addBreak_86 : decode cX0_addBreak 86 = .ok (.dup, 1) := by decide +kernel
theorem dX0_addBreak_87 : decode cX0_addBreak 87 = .ok (.getfield 31, 3) := by decide +kernel
theorem dX0_addBreak_90 : decode cX0_addBreak 90 = .ok (.iconst 1, 1) := by decide +kernel
theorem dX0_addBreak_91 : decode cX0_addBreak 91 = .ok (.iadd, 1) := by decide +kernel
theorem dX0_addBreak_92 : decode cX0_addBreak 92 = .ok (.putfield 31, 3) := by decide +kernel
theorem dX0_addBreak_95 : decode cX0_addBreak 95 = .ok (.return_, 1) := by decide +kernel
theorem dX0_hoursOfBreaks_0 : decode cX0_hoursOfBreaks 0 = .ok (.iconst 0, 1) := by decide +kernel
theorem dX0_hoursOfBreaks_1 : decode cX0_hoursOfBreaks 1 = .ok (.istore_n 1, 1) := by decide +kernel
theorem dX0_hoursOfBreaks_2 : decode cX0_hoursOfBreaks 2 = .ok (.iconst 0, 1) := by decide +kernel
theorem dX0_hoursOfBreaks_3 : decode cX0_hoursOfBreaks 3 = .ok (.istore_n 2, 1) := by decide +kernel
theorem dX0_hoursOfBreaks_4 : decode cX0_hoursOfBreaks 4 = .ok (.iload_n 2, 1) := by decide +kernel
theorem dX0_hoursOfBreaks_5 : decode cX0_hoursOfBreaks 5 = .ok (.aload_n 0, 1) := by decide +kernel
theorem dX0_hoursOfBreaks_6 : decode cX0_hoursOfBreaks 6 = .ok (.getfield 31, 3) := by decide +kernel
theorem dX0_hoursOfBreaks_9 : decode cX0_hoursOfBreaks 9 = .ok (.if_icmp .ge 23, 3) := by decide +kernel
theorem dX0_hoursOfBreaks_12 : decode cX0_hoursOfBreaks 12 = .ok (.iload_n 2, 1) := by decide +kernel
theorem dX0_hoursOfBreaks_13 : decode cX0_hoursOfBreaks 13 = .ok (.iconst 4, 1) := by decide +kernel
theorem dX0_hoursOfBreaks_14 : decode cX0_hoursOfBreaks 14 = .ok (.if_icmp .ge 18, 3) := by decide +kernel
theorem dX0_hoursOfBreaks_17 : decode cX0_hoursOfBreaks 17 = .ok (.iload_n 1, 1) := by decide +kernel
theorem dX0_hoursOfBreaks_18 : decode cX0_hoursOfBreaks 18 = .ok (.aload_n 0, 1) := by decide +kernel
theorem dX0_hoursOfBreaks_19 : decode cX0_hoursOfBreaks 19 = .ok (.getfield 15, 3) := by decide +kernel
theorem dX0_hoursOfBreaks_22 : decode cX0_hoursOfBreaks 22 = .ok (.iload_n 2, 1) := by decide +kernel
theorem dX0_hoursOfBreaks_23 : decode cX0_hoursOfBreaks 23 = .ok (.iaload, 1) := by decide +kernel
theorem dX0_hoursOfBreaks_24 : decode cX0_hoursOfBreaks 24 = .ok (.iadd, 1) := by decide +kernel
theorem dX0_hoursOfBreaks_25 : decode cX0_hoursOfBreaks 25 = .ok (.istore_n 1, 1) := by decide +kernel
theorem dX0_hoursOfBreaks_26 : decode cX0_hoursOfBreaks 26 = .ok (.iinc 2 1, 3) := by decide +kernel
theorem dX0_hoursOfBreaks_29 : decode cX0_hoursOfBreaks 29 = .ok (.goto (-25), 3) := by decide +kernel
theorem dX0_hoursOfBreaks_32 : decode cX0_hoursOfBreaks 32 = .ok (.iload_n 1, 1) := by decide +kernel
theorem dX0_hoursOfBreaks_33 : decode cX0_hoursOfBreaks 33 = .ok (.ireturn, 1) := by decide +kernel
theorem dX0_isBusy_0 : decode cX0_isBusy 0 = .ok (.aload_n 0, 1) := by decide +kernel
theorem dX0_isBusy_1 : decode cX0_isBusy 1 = .ok (.getfield 34, 3) := by decide +kernel
theorem dX0_isBusy_4 : decode cX0_isBusy 4 = .ok (.iload_n 1, 1) := by decide +kernel
theorem dX0_isBusy_5 : decode cX0_isBusy 5 = .ok (.if_icmp .gt 15, 3) := by decide +kernel
theorem dX0_isBusy_8 : decode cX0_isBusy 8 = .ok (.iload_n 1, 1) := by decide +kernel
theorem dX0_isBusy_9 : decode cX0_isBusy 9 = .ok (.aload_n 0, 1) := by decide +kernel
theorem dX0_isBusy_10 : decode cX0_isBusy 10 = .ok (.getfield 37, 3) := by decide +kernel
theorem dX0_isBusy_13 : decode cX0_isBusy 13 = .ok (.if_icmp .ge 7, 3) := by decide +kernel
theorem dX0_isBusy_16 : decode cX0_isBusy 16 = .ok (.iconst 1, 1) := by decide +kernel
theorem dX0_isBusy_17 : decode cX0_isBusy 17 = .ok (.goto 4, 3) := by decide +kernel
theorem dX0_isBusy_20 : decode cX0_isBusy 20 = .ok (.iconst 0, 1) := by decide +kernel
theorem dX0_isBusy_21 : decode cX0_isBusy 21 = .ok (.ireturn, 1) := by decide +kernel
set_option maxRecDepth 20000 in
theorem ggX1_init_J7_fill_53178 : GoodIn wsX1_init wsJ7_fill_53178 := goodIn_r _ [18] (by decide +kernel) (by decide +kernel)
set_option maxRecDepth 20000 in
theorem gX1_init_J7_fill_53178 : GoodIn wsX1_init (va_wsS RX1 41 yJ7_fill_53178 wsJ7_fill_53178) := goodIn_app (goodIn_of _ (by decide +kernel)) ggX1_init_J7_fill_53178
set_option maxRecDepth 20000 in
theorem ggX1_init_X1_sumGains : GoodIn wsX1_init wsX1_sumGains := goodIn_r _ [23, 6, 5, 24, 25, 26, 27, 28, 29, 30, 31, 32, 33, 34, 35, 36] (by decide +kernel) (by decide +kernel)
set_option maxRecDepth 20000 in
theorem gX1_init_X1_sumGains : GoodIn wsX1_init (wsV RX1 47 RX1 yX1_sumGains wsX1_sumGains) := goodIn_app (goodIn_of _ (by decide +kernel)) ggX1_init_X1_sumGains
theorem dX1_init_0 : decode cX1_init 0 = .ok (.aload_n 0, 1) := by decide +kernel
theorem dX1_init_1 : decode cX1_init 1 = .ok (.invokespecial 1, 3) := by decide +kernel
theorem dX1_init_4 : decode cX1_init 4 = .ok (.aload_n 0, 1) := by decide +kernel
theorem dX1_init_5 : decode cX1_init 5 = .ok (.sipush 1000, 3) := by decide +kernel
theorem dX1_init_8 : decode cX1_init 8 = .ok (.newarray .int, 2) := by decide +kernel
theorem dX1_init_10 : decode cX1_init 10 = .ok (.putfield 9, 3) := by decide +kernel
theorem dX1_init_13 : decode cX1_init 13 = .ok (.aload_n 0, 1) := by decide +kernel
theorem dX1_init_14 : decode cX1_init 14 = .ok (.sipush 1001, 3) := by decide +kernel
theorem dX1_init_17 : decode cX1_init 17 = .ok (.newarray .int, 2) := by decide +kernel
theorem dX1_init_19 : decode cX1_init 19 = .ok (.putfield 13, 3) := by decide +kernel
theorem dX1_init_22 : decode cX1_init 22 = .ok (.aload_n 0, 1) := by decide +kernel
theorem dX1_init_23 : decode cX1_init 23 = .ok (.sipush 1000, 3) := by decide +kernel
theorem dX1_init_26 : decode cX1_init 26 = .ok (.newarray .int, 2) := by decide +kernel
theorem dX1_init_28 : decode cX1_init 28 = .ok (.putfield 16, 3) := by decide +kernel
theorem dX1_init_31 : decode cX1_init 31 = .ok (.aload_n 0, 1) := by decide +kernel
theorem dX1_init_32 : decode cX1_init 32 = .ok (.sipush 1001, 3) := by decide +kernel
theorem dX1_init_35 : decode cX1_init 35 = .ok (.newarray .int, 2) := by decide +kernel
theorem dX1_init_37 : decode cX1_init 37 = .ok (.putfield 19, 3) := by decide +kernel
theorem dX1_init_40 : decode cX1_init 40 = .ok (.aload_n 0, 1) := by decide +kernel
theorem dX1_init_41 : decode cX1_init 41 = .ok (.bipush 10, 2) := by decide +kernel
theorem dX1_init_43 : decode cX1_init 43 = .ok (.anewarray 22, 3) := by decide +kernel
theorem dX1_init_46 : decode cX1_init 46 = .ok (.putfield 24, 3) := by decide +kernel
theorem dX1_init_49 : decode cX1_init 49 = .ok (.aload_n 0, 1) := by decide +kernel
theorem dX1_init_50 : decode cX1_init 50 = .ok (.bipush 20, 2) := by decide +kernel
theorem dX1_init_52 : decode cX1_init 52 = .ok (.putfield 28, 3) := by decide +kernel
theorem dX1_init_55 : decode cX1_init 55 = .ok (.aload_n 0, 1) := by decide +kernel
theorem dX1_init_56 : decode cX1_init 56 = .ok (.bipush 10, 2) := by decide +kernel
theorem dX1_init_58 : decode cX1_init 58 = .ok (.putfield 32, 3) := by decide +kernel
theorem dX1_init_61 : decode cX1_init 61 = .ok (.aload_n 0, 1) := by decide +kernel
theorem dX1_init_62 : decode cX1_init 62 = .ok (.iconst 2, 1) := by decide +kernel
theorem dX1_init_63 : decode cX1_init 63 = .ok (.putfield 35, 3) := by decide +kernel
theorem dX1_init_66 : decode cX1_init 66 = .ok (.aload_n 0, 1) := by decide +kernel
theorem dX1_init_67 : decode cX1_init 67 = .ok (.iconst 3, 1) := by decide +kernel
theorem dX1_init_68 : decode cX1_init 68 = .ok (.putfield 38, 3) := by decide +kernel
theorem dX1_init_71 : decode cX1_init 71 = .ok (.aload_n 0, 1) := by decide +kernel
theorem dX1_init_72 : decode cX1_init 72 = .ok (.getfield 9, 3) := by decide +kernel
theorem dX1_init_75 : decode cX1_init 75 = .ok (.bipush 20, 2) := by decide +kernel
theorem dX1_init_77 : decode cX1_init 77 = .ok (.invokestatic 41, 3) := by decide +kernel
theorem dX1_init_80 : decode cX1_init 80 = .ok (.aload_n 0, 1) := by decide +kernel
theorem dX1_init_81 : decode cX1_init 81 = .ok (.invokevirtual 47, 3) := by decide +kernel
theorem dX1_init_84 : decode cX1_init 84 = .ok (.return_, 1) := by decide +kernel
set_option maxRecDepth 20000 in
theorem ggX1_setTemperature_X1_requireHour : GoodIn wsX1_setTemperature wsX1_requireHour := goodIn_ca (goodIn_r _ [5, 6, 7, 8, 9, 4, 10] (by decide +kernel) (by decide +kernel)) (goodIn_sub (fun _ h => List.mem_cons_of_mem _ (List.mem_append_left _ (List.mem_append_right _ h))) (by decide +kernel))
set_option maxRecDepth 20000 in
theorem gX1_setTemperature_X1_requireHour : GoodIn wsX1_setTemperature (va_wsS RX1 50 yX1_requireHour wsX1_requireHour) := goodIn_app (goodIn_of _ (by decide +kernel)) ggX1_setTemperature_X1_requireHour
set_option maxRecDepth 20000 in
theorem ggX1_setTemperature_X1_require : GoodIn wsX1_setTemperature wsX1_require := goodIn_ca (goodIn_r _ [13, 14, 15] (by decide +kernel) (by decide +kernel)) (goodIn_sub (fun _ h => List.mem_cons_of_mem _ (List.mem_append_right _ h)) (by decide +kernel))
set_option maxRecDepth 20000 in
theorem gX1_setTemperature_X1_require : GoodIn wsX1_setTemperature (va_wsS RX1 54 yX1_require wsX1_require) := goodIn_app (goodIn_of _ (by decide +kernel)) ggX1_setTemperature_X1_require
set_option maxRecDepth 20000 in
theorem ggX1_setTemperature_X1_requireRange : GoodIn wsX1_setTemperature wsX1_requireRange := goodIn_ca (goodIn_r _ [18, 11, 12, 4, 13, 14, 15] (by decide +kernel) (by decide +kernel)) (goodIn_sub (fun _ h => List.mem_cons_of_mem _ (List.mem_append_right _ h)) (by decide +kernel))
set_option maxRecDepth 20000 in
theorem gX1_setTemperature_X1_requireRange : GoodIn wsX1_setTemperature (va_wsS RX1 58 yX1_requireRange wsX1_requireRange) := goodIn_app (goodIn_of _ (by decide +kernel)) ggX1_setTemperature_X1_requireRange
set_option maxRecDepth 20000 in
theorem ggX1_setTemperature_X1_sumGains : GoodIn wsX1_setTemperature wsX1_sumGains := goodIn_r _ [22, 23, 1, 24, 25, 26, 27, 77, 78, 79, 80, 81, 82, 83, 84, 85] (by decide +kernel) (by decide +kernel)
set_option maxRecDepth 20000 in
theorem gX1_setTemperature_X1_sumGains : GoodIn wsX1_setTemperature (wsV RX1 47 RX1 yX1_sumGains wsX1_sumGains) := goodIn_app (goodIn_of _ (by decide +kernel)) ggX1_setTemperature_X1_sumGains
set_option maxRecDepth 20000 in
theorem ggX1_setTemperature_X1_scheduleAll : GoodIn wsX1_setTemperature wsX1_scheduleAll := goodIn_r _ [31, 32, 33, 34, 35, 4, 36, 37, 38, 39, 40, 41, 42, 43, 44, 45, 46, 47, 48, 49, 50, 51, 52, 53, 54, 55, 56, 57, 58, 59, 60, 61, 26, 62, 23, 63, 64, 65, 66, 67, 68, 69, 70, 71, 24, 25, 27, 72, 73, 74, 75, 76, 77, 78, 79, 80, 81, 82, 83, 84, 85, 86, 87, 88, 89, 90, 91, 92, 93, 94, 95, 96, 97, 98] (by decide +kernel) (by decide +kernel)
set_option maxRecDepth 20000 in
theorem gX1_setTemperature_X1_scheduleAll : GoodIn wsX1_setTemperature (wsV RX1 62 RX1 yX1_scheduleAll wsX1_scheduleAll) := goodIn_app (goodIn_of _ (by decide +kernel)) ggX1_setTemperature_X1_scheduleAll
theorem dX1_setTemperature_0 : decode cX1_setTemperature 0 = .ok (.iload_n 1, 1) := by decide +kernel
theorem dX1_setTemperature_1 : decode cX1_setTemperature 1 = .ok (.invokestatic 50, 3) := by decide +kernel
theorem dX1_setTemperature_4 : decode cX1_setTemperature 4 = .ok (.iload_n 2, 1) := by decide +kernel
theorem dX1_setTemperature_5 : decode cX1_setTemperature 5 = .ok (.invokestatic 50, 3) := by decide +kernel
theorem dX1_setTemperature_8 : decode cX1_setTemperature 8 = .ok (.iload_n 1, 1) := by decide +kernel
theorem dX1_setTemperature_9 : decode cX1_setTemperature 9 = .ok (.iload_n 2, 1) := by decide +kernel
theorem dX1_setTemperature_10 : decode cX1_setTemperature 10 = .ok (.if_icmp .gt 7, 3) := by decide +kernel
theorem dX1_setTemperature_13 : decode cX1_setTemperature 13 = .ok (.iconst 1, 1) := by decide +kernel
theorem dX1_setTemperature_14 : decode cX1_setTemperature 14 = .ok (.goto 4, 3) := by decide +kernel
theorem dX1_setTemperature_17 : decode cX1_setTemperature 17 = .ok (.iconst 0, 1) := by decide +kernel
theorem dX1_setTemperature_18 : decode cX1_setTemperature 18 = .ok (.invokestatic 54, 3) := by decide +kernel
theorem dX1_setTemperature_21 : decode cX1_setTemperature 21 = .ok (.iload_n 3, 1) := by decide +kernel
theorem dX1_setTemperature_22 : decode cX1_setTemperature 22 = .ok (.bipush (-40), 2) := by decide +kernel
theorem dX1_setTemperature_24 : decode cX1_setTemperature 24 = .ok (.bipush 50, 2) := by decide +kernel
theorem dX1_setTemperature_26 : decode cX1_setTemperature 26 = .ok (.invokestatic 58, 3) := by decide +kernel
theorem dX1_setTemperature_29 : decode cX1_setTemperature 29 = .ok (.iload_n 1, 1) := by decide +kernel
theorem dX1_setTemperature_30 : decode cX1_setTemperature 30 = .ok (.istore 4, 2) := by decide +kernel
theorem dX1_setTemperature_32 : decode cX1_setTemperature 32 = .ok (.iload 4, 2) := by decide +kernel
theorem dX1_setTemperature_34 : decode cX1_setTemperature 34 = .ok (.iload_n 2, 1) := by decide +kernel
theorem dX1_setTemperature_35 : decode cX1_setTemperature 35 = .ok (.if_icmp .gt 25, 3) := by decide +kernel
theorem dX1_setTemperature_38 : decode cX1_setTemperature 38 = .ok (.iload 4, 2) := by decide +kernel
theorem dX1_setTemperature_40 : decode cX1_setTemperature 40 = .ok (.sipush 1000, 3) := by decide +kernel
theorem dX1_setTemperature_43 : decode cX1_setTemperature 43 = .ok (.if_icmp .ge 17, 3) := by decide +kernel
theorem dX1_setTemperature_46 : decode cX1_setTemperature 46 = .ok (.aload_n 0, 1) := by decide +kernel
theorem dX1_setTemperature_47 : decode cX1_setTemperature 47 = .ok (.getfield 9, 3) := by decide +kernel
theorem dX1_setTemperature_50 : decode cX1_setTemperature 50 = .ok (.iload 4, 2) := by decide +kernel
theorem dX1_setTemperature_52 : decode cX1_setTemperature 52 = .ok (.iload_n 3, 1) := by decide +kernel
theorem dX1_setTemperature_53 : decode cX1_setTemperature 53 = .ok (.iastore, 1) := by decide +kernel
theorem dX1_setTemperature_54 : decode cX1_setTemperature 54 = .ok (.iinc 4 1, 3) := by decide +kernel
theorem dX1_setTemperature_57 : decode cX1_setTemperature 57 = .ok (.goto (-25), 3) := by decide +kernel
theorem dX1_setTemperature_60 : decode cX1_setTemperature 60 = .ok (.aload_n 0, 1) := by decide +kernel
theorem dX1_setTemperature_61 : decode cX1_setTemperature 61 = .ok (.invokevirtual 47, 3) := by decide +kernel
theorem dX1_setTemperature_64 : decode cX1_setTemperature 64 = .ok (.aload_n 0, 1) := by decide +kernel
theorem dX1_setTemperature_65 : decode cX1_setTemperature 65 = .ok (.invokevirtual 62, 3) := by decide +kernel
theorem dX1_setTemperature_68 : decode cX1_setTemperature 68 = .ok (.return_, 1) := by decide +kernel
set_option maxRecDepth 20000 in
theorem ggX1_temperature_X1_requireHour : GoodIn wsX1_temperature wsX1_requireHour := goodIn_ca (goodIn_r _ [5, 6, 7, 8, 9, 4, 10] (by decide +kernel) (by decide +kernel)) (goodIn_sub (fun _ h => List.mem_cons_of_mem _ (List.mem_append_right _ h)) (by decide +kernel))
set_option maxRecDepth 20000 in
theorem gX1_temperature_X1_requireHour : GoodIn wsX1_temperature (va_wsS RX1 50 yX1_requireHour wsX1_requireHour) := goodIn_app (goodIn_of _ (by decide +kernel)) ggX1_temperature_X1_requireHour
theorem dX1_temperature_0 : decode cX1_temperature 0 = .ok (.iload_n 1, 1) := by decide +kernel
theorem dX1_temperature_1 : decode cX1_temperature 1 = .ok (.invokestatic 50, 3) := by decide +kernel
theorem dX1_temperature_4 : decode cX1_temperature 4 = .ok (.aload_n 0, 1) := by decide +kernel
theorem dX1_temperature_5 : decode cX1_temperature 5 = .ok (.getfield 9, 3) := by decide +kernel
theorem dX1_temperature_8 : decode cX1_temperature 8 = .ok (.iload_n 1, 1) := by decide +kernel
theorem dX1_temperature_9 : decode cX1_temperature 9 = .ok (.iaload, 1) := by decide +kernel
theorem dX1_temperature_10 : decode cX1_temperature 10 = .ok (.ireturn, 1) := by decide +kernel
set_option maxRecDepth 20000 in
theorem ggX1_maturity_X1_requireHour : GoodIn wsX1_maturity wsX1_requireHour := goodIn_ca (goodIn_r _ [4, 5, 6, 7, 8, 3, 9] (by decide +kernel) (by decide +kernel)) (goodIn_sub (fun _ h => List.mem_cons_of_mem _ (List.mem_append_right _ h)) (by decide +kernel))
set_option maxRecDepth 20000 in
theorem gX1_maturity_X1_requireHour : GoodIn wsX1_maturity (va_wsS RX1 50 yX1_requireHour wsX1_requireHour) := goodIn_app (goodIn_of _ (by decide +kernel)) ggX1_maturity_X1_requireHour
set_option maxRecDepth 20000 in
theorem ggX1_maturity_X1_gainBetween : GoodIn wsX1_maturity wsX1_gainBetween := goodIn_r _ [13, 14, 15, 16, 17, 18, 19, 20, 21, 22, 23, 24, 25, 26, 27] (by decide +kernel) (by decide +kernel)
set_option maxRecDepth 20000 in
theorem gX1_maturity_X1_gainBetween : GoodIn wsX1_maturity (wsV RX1 65 RX1 yX1_gainBetween wsX1_gainBetween) := goodIn_app (goodIn_of _ (by decide +kernel)) ggX1_maturity_X1_gainBetween
theorem dX1_maturity_0 : decode cX1_maturity 0 = .ok (.iload_n 1, 1) := by decide +kernel
theorem dX1_maturity_1 : decode cX1_maturity 1 = .ok (.invokestatic 50, 3) := by decide +kernel
theorem dX1_maturity_4 : decode cX1_maturity 4 = .ok (.iload_n 2, 1) := by decide +kernel
theorem dX1_maturity_5 : decode cX1_maturity 5 = .ok (.invokestatic 50, 3) := by decide +kernel
theorem dX1_maturity_8 : decode cX1_maturity 8 = .ok (.aload_n 0, 1) := by decide +kernel
theorem dX1_maturity_9 : decode cX1_maturity 9 = .ok (.iload_n 1, 1) := by decide +kernel
theorem dX1_maturity_10 : decode cX1_maturity 10 = .ok (.iload_n 2, 1) := by decide +kernel
theorem dX1_maturity_11 : decode cX1_maturity 11 = .ok (.invokevirtual 65, 3) := by decide +kernel
theorem dX1_maturity_14 : decode cX1_maturity 14 = .ok (.ireturn, 1) := by decide +kernel
set_option maxRecDepth 20000 in
theorem ggX1_strength_X1_requireRange : GoodIn wsX1_strength wsX1_requireRange := goodIn_ca (goodIn_r _ [5, 6, 7, 4, 8, 9, 10] (by decide +kernel) (by decide +kernel)) (goodIn_sub (fun _ h => List.mem_cons_of_mem _ (List.mem_append_right _ h)) (by decide +kernel))
set_option maxRecDepth 20000 in
theorem gX1_strength_X1_requireRange : GoodIn wsX1_strength (va_wsS RX1 58 yX1_requireRange wsX1_requireRange) := goodIn_app (goodIn_of _ (by decide +kernel)) ggX1_strength_X1_requireRange
set_option maxRecDepth 20000 in
theorem ggX1_strength_X1_strengthAt : GoodIn wsX1_strength wsX1_strengthAt := goodIn_r _ [13, 14] (by decide +kernel) (by decide +kernel)
set_option maxRecDepth 20000 in
theorem gX1_strength_X1_strengthAt : GoodIn wsX1_strength (va_wsS RX1 70 yX1_strengthAt wsX1_strengthAt) := goodIn_app (goodIn_of _ (by decide +kernel)) ggX1_strength_X1_strengthAt
theorem dX1_strength_0 : decode cX1_strength 0 = .ok (.iload_n 1, 1) := by decide +kernel
theorem dX1_strength_1 : decode cX1_strength 1 = .ok (.iconst 0, 1) := by decide +kernel
theorem dX1_strength_2 : decode cX1_strength 2 = .ok (.ldc 69, 2) := by decide +kernel
theorem dX1_strength_4 : decode cX1_strength 4 = .ok (.invokestatic 58, 3) := by decide +kernel
theorem dX1_strength_7 : decode cX1_strength 7 = .ok (.iload_n 1, 1) := by decide +kernel
theorem dX1_strength_8 : decode cX1_strength 8 = .ok (.invokestatic 70, 3) := by decide +kernel
theorem dX1_strength_11 : decode cX1_strength 11 = .ok (.ireturn, 1) := by decide +kernel
set_option maxRecDepth 20000 in
theorem ggX1_setPanels_X1_requireRange : GoodIn wsX1_setPanels wsX1_requireRange := goodIn_ca (goodIn_r _ [5, 6, 7, 4, 8, 9, 10] (by decide +kernel) (by decide +kernel)) (goodIn_sub (fun _ h => List.mem_cons_of_mem _ (List.mem_append_right _ h)) (by decide +kernel))
set_option maxRecDepth 20000 in
theorem gX1_setPanels_X1_requireRange : GoodIn wsX1_setPanels (va_wsS RX1 58 yX1_requireRange wsX1_requireRange) := goodIn_app (goodIn_of _ (by decide +kernel)) ggX1_setPanels_X1_requireRange
theorem dX1_setPanels_0 : decode cX1_setPanels 0 = .ok (.iload_n 1, 1) := by decide +kernel
theorem dX1_setPanels_1 : decode cX1_setPanels 1 = .ok (.iconst 0, 1) := by decide +kernel
theorem dX1_setPanels_2 : decode cX1_setPanels 2 = .ok (.bipush 60, 2) := by decide +kernel
theorem dX1_setPanels_4 : decode cX1_setPanels 4 = .ok (.invokestatic 58, 3) := by decide +kernel
theorem dX1_setPanels_7 : decode cX1_setPanels 7 = .ok (.aload_n 0, 1) := by decide +kernel
theorem dX1_setPanels_8 : decode cX1_setPanels 8 = .ok (.getfield 28, 3) := by decide +kernel
theorem dX1_setPanels_11 : decode cX1_setPanels 11 = .ok (.istore_n 2, 1) := by decide +kernel
theorem dX1_setPanels_12 : decode cX1_setPanels 12 = .ok (.aload_n 0, 1) := by decide +kernel
theorem dX1_setPanels_13 : decode cX1_setPanels 13 = .ok (.iload_n 1, 1) := by decide +kernel
theorem dX1_setPanels_14 : decode cX1_setPanels 14 = .ok (.putfield 28, 3) := by decide +kernel
theorem dX1_setPanels_17 : decode cX1_setPanels 17 = .ok (.iload_n 2, 1) := by decide +kernel
theorem dX1_setPanels_18 : decode cX1_setPanels 18 = .ok (.ireturn, 1) := by decide +kernel
set_option maxRecDepth 20000 in
theorem ggX1_setRates_X1_requireRange : GoodIn wsX1_setRates wsX1_requireRange := goodIn_ca (goodIn_r _ [9, 10, 11, 8, 12, 13, 14] (by decide +kernel) (by decide +kernel)) (goodIn_sub (fun _ h => List.mem_cons_of_mem _ (List.mem_append_right _ h)) (by decide +kernel))
set_option maxRecDepth 20000 in
theorem gX1_setRates_X1_requireRange : GoodIn wsX1_setRates (va_wsS RX1 58 yX1_requireRange wsX1_requireRange) := goodIn_app (goodIn_of _ (by decide +kernel)) ggX1_setRates_X1_requireRange
set_option maxRecDepth 20000 in
theorem ggX1_setRates_X1_scheduleAll : GoodIn wsX1_setRates wsX1_scheduleAll := goodIn_r _ [18, 19, 20, 21, 22, 8, 23, 24, 25, 26, 27, 5, 28, 29, 30, 31, 32, 33, 34, 35, 36, 37, 38, 39, 40, 41, 42, 43, 44, 45, 1, 2, 3, 4, 46, 47, 48, 49, 50, 51, 52, 53, 54, 55, 56, 57, 58, 59, 60, 61, 62, 63, 64, 65, 66, 67, 68, 69, 70, 71, 72, 73, 74, 75, 76, 77, 78, 79, 80, 81, 82, 83, 84, 85] (by decide +kernel) (by decide +kernel)
set_option maxRecDepth 20000 in
theorem gX1_setRates_X1_scheduleAll : GoodIn wsX1_setRates (wsV RX1 62 RX1 yX1_scheduleAll wsX1_scheduleAll) := goodIn_app (goodIn_of _ (by decide +kernel)) ggX1_setRates_X1_scheduleAll
theorem dX1_setRates_0 : decode cX1_setRates 0 = .ok (.iload_n 1, 1) := by decide +kernel
theorem dX1_setRates_1 : decode cX1_setRates 1 = .ok (.iconst 1, 1) := by decide +kernel
theorem dX1_setRates_2 : decode cX1_setRates 2 = .ok (.bipush 50, 2) := by decide +kernel
theorem dX1_setRates_4 : decode cX1_setRates 4 = .ok (.invokestatic 58, 3) := by decide +kernel
theorem dX1_setRates_7 : decode cX1_setRates 7 = .ok (.iload_n 2, 1) := by decide +kernel
theorem dX1_setRates_8 : decode cX1_setRates 8 = .ok (.iconst 1, 1) := by decide +kernel
theorem dX1_setRates_9 : decode cX1_setRates 9 = .ok (.bipush 50, 2) := by decide +kernel
theorem dX1_setRates_11 : decode cX1_setRates 11 = .ok (.invokestatic 58, 3) := by decide +kernel
theorem dX1_setRates_14 : decode cX1_setRates 14 = .ok (.aload_n 0, 1) := by decide +kernel
theorem dX1_setRates_15 : decode cX1_setRates 15 = .ok (.iload_n 1, 1) := by decide +kernel
theorem dX1_setRates_16 : decode cX1_setRates 16 = .ok (.iload_n 2, 1) := by decide +kernel
theorem dX1_setRates_17 : decode cX1_setRates 17 = .ok (.invokestatic 74, 3) := by decide +kernel
theorem dX1_setRates_20 : decode cX1_setRates 20 = .ok (.putfield 32, 3) := by decide +kernel
theorem dX1_setRates_23 : decode cX1_setRates 23 = .ok (.aload_n 0, 1) := by decide +kernel
theorem dX1_setRates_24 : decode cX1_setRates 24 = .ok (.invokevirtual 62, 3) := by decide +kernel
theorem dX1_setRates_27 : decode cX1_setRates 27 = .ok (.aload_n 0, 1) := by decide +kernel
theorem dX1_setRates_28 : decode cX1_setRates 28 = .ok (.getfield 32, 3) := by decide +kernel
theorem dX1_setRates_31 : decode cX1_setRates 31 = .ok (.ireturn, 1) := by decide +kernel
set_option maxRecDepth 20000 in
theorem ggX1_setCrew_X1_requireRange : GoodIn wsX1_setCrew wsX1_requireRange := goodIn_ca (goodIn_r _ [6, 7, 8, 5, 9, 10, 11] (by decide +kernel) (by decide +kernel)) (goodIn_sub (fun _ h => List.mem_cons_of_mem _ (List.mem_append_right _ h)) (by decide +kernel))
set_option maxRecDepth 20000 in
theorem gX1_setCrew_X1_requireRange : GoodIn wsX1_setCrew (va_wsS RX1 58 yX1_requireRange wsX1_requireRange) := goodIn_app (goodIn_of _ (by decide +kernel)) ggX1_setCrew_X1_requireRange
set_option maxRecDepth 20000 in
theorem ggX1_setCrew_X1_scheduleAll : GoodIn wsX1_setCrew wsX1_scheduleAll := goodIn_r _ [15, 16, 17, 18, 19, 5, 20, 21, 22, 23, 24, 25, 26, 27, 28, 29, 30, 31, 32, 33, 34, 35, 36, 37, 38, 39, 40, 41, 42, 43, 44, 45, 46, 47, 48, 49, 50, 51, 52, 53, 54, 55, 56, 1, 57, 58, 59, 60, 61, 62, 63, 2, 64, 65, 66, 67, 68, 69, 70, 71, 72, 73, 74, 75, 76, 77, 78, 79, 80, 81, 82, 83, 84, 85] (by decide +kernel) (by decide +kernel)
set_option maxRecDepth 20000 in
theorem gX1_setCrew_X1_scheduleAll : GoodIn wsX1_setCrew (wsV RX1 62 RX1 yX1_scheduleAll wsX1_scheduleAll) := goodIn_app (goodIn_of _ (by decide +kernel)) ggX1_setCrew_X1_scheduleAll
theorem dX1_setCrew_0 : decode cX1_setCrew 0 = .ok (.iload_n 1, 1) := by decide +kernel
theorem dX1_setCrew_1 : decode cX1_setCrew 1 = .ok (.iconst 0, 1) := by decide +kernel
theorem dX1_setCrew_2 : decode cX1_setCrew 2 = .ok (.bipush 24, 2) := by decide +kernel
theorem dX1_setCrew_4 : decode cX1_setCrew 4 = .ok (.invokestatic 58, 3) := by decide +kernel
theorem dX1_setCrew_7 : decode cX1_setCrew 7 = .ok (.iload_n 2, 1) := by decide +kernel
theorem dX1_setCrew_8 : decode cX1_setCrew 8 = .ok (.iconst 0, 1) := by decide +kernel
theorem dX1_setCrew_9 : decode cX1_setCrew 9 = .ok (.bipush 24, 2) := by decide +kernel
theorem dX1_setCrew_11 : decode cX1_setCrew 11 = .ok (.invokestatic 58, 3) := by decide +kernel
theorem dX1_setCrew_14 : decode cX1_setCrew 14 = .ok (.aload_n 0, 1) := by decide +kernel
theorem dX1_setCrew_15 : decode cX1_setCrew 15 = .ok (.iload_n 1, 1) := by decide +kernel
theorem dX1_setCrew_16 : decode cX1_setCrew 16 = .ok (.putfield 35, 3) := by decide +kernel
theorem dX1_setCrew_19 : decode cX1_setCrew 19 = .ok (.aload_n 0, 1) := by decide +kernel
theorem dX1_setCrew_20 : decode cX1_setCrew 20 = .ok (.iload_n 2, 1) := by decide +kernel
theorem dX1_setCrew_21 : decode cX1_setCrew 21 = .ok (.putfield 38, 3) := by decide +kernel
theorem dX1_setCrew_24 : decode cX1_setCrew 24 = .ok (.aload_n 0, 1) := by decide +kernel
theorem dX1_setCrew_25 : decode cX1_setCrew 25 = .ok (.invokevirtual 62, 3) := by decide +kernel
theorem dX1_setCrew_28 : decode cX1_setCrew 28 = .ok (.return_, 1) := by decide +kernel
set_option maxRecDepth 20000 in
theorem ggX1_plan_X1_requirePour : GoodIn wsX1_plan wsX1_requirePour := goodIn_ca (goodIn_r _ [10, 11, 12, 9, 13, 14, 15, 16, 17, 18] (by decide +kernel) (by decide +kernel)) (goodIn_sub (fun _ h => List.mem_cons_of_mem _ (List.mem_append_right _ h)) (by decide +kernel))
set_option maxRecDepth 20000 in
theorem gX1_plan_X1_requirePour : GoodIn wsX1_plan (va_wsS RX1 79 yX1_requirePour wsX1_requirePour) := goodIn_app (goodIn_of _ (by decide +kernel)) ggX1_plan_X1_requirePour
set_option maxRecDepth 20000 in
theorem ggX1_plan_X1_freeNumber : GoodIn wsX1_plan wsX1_freeNumber := goodIn_r _ [22, 6, 98, 99, 100, 101, 102, 103, 104, 105, 106] (by decide +kernel) (by decide +kernel)
set_option maxRecDepth 20000 in
theorem gX1_plan_X1_freeNumber : GoodIn wsX1_plan (wsV RX1 83 RX1 yX1_freeNumber wsX1_freeNumber) := goodIn_app (goodIn_of _ (by decide +kernel)) ggX1_plan_X1_freeNumber
set_option maxRecDepth 20000 in
theorem ggX1_plan_X1_isNumber : GoodIn wsX1_plan wsX1_isNumber := goodIn_r _ [25] (by decide +kernel) (by decide +kernel)
set_option maxRecDepth 20000 in
theorem gX1_plan_X1_isNumber : GoodIn wsX1_plan (va_wsS RX1 87 yX1_isNumber wsX1_isNumber) := goodIn_app (goodIn_of _ (by decide +kernel)) ggX1_plan_X1_isNumber
set_option maxRecDepth 20000 in
theorem ggX1_plan_X0_init : GoodIn wsX1_plan wsX0_init := goodIn_r _ [27, 28, 29, 30, 31, 32, 33, 34, 35, 36, 37, 85, 86, 87, 88, 89, 90, 91, 92, 93, 94, 95, 96, 97] (by decide +kernel) (by decide +kernel)
set_option maxRecDepth 20000 in
theorem gX1_plan_X0_init_n94 : GoodIn wsX1_plan (wsX0_init) := ggX1_plan_X0_init
set_option maxRecDepth 20000 in
theorem ggX1_plan_X1_schedule : GoodIn wsX1_plan wsX1_schedule := goodIn_r _ [41, 42, 43, 44, 9, 45, 46, 47, 48, 49, 50, 51, 5, 52, 53, 54, 33, 55, 56, 57, 58, 59, 60, 61, 62, 63, 64, 65, 66, 67, 68, 69, 70, 71, 72, 73, 74, 75, 76, 77, 78, 79, 80, 81, 82, 83, 84, 85, 86, 87, 88, 89, 90, 91, 92, 93, 94, 95, 96, 97, 98, 99, 100, 101, 102, 103, 104, 105, 106] (by decide +kernel) (by decide +kernel)
set_option maxRecDepth 20000 in
theorem gX1_plan_X1_schedule : GoodIn wsX1_plan (wsV RX1 96 RX1 yX1_schedule wsX1_schedule) := goodIn_app (goodIn_of _ (by decide +kernel)) ggX1_plan_X1_schedule
theorem dX1_plan_0 : decode cX1_plan 0 = .ok (.iload_n 1, 1) := by decide +kernel
theorem dX1_plan_1 : decode cX1_plan 1 = .ok (.iload_n 2, 1) := by decide +kernel
theorem dX1_plan_2 : decode cX1_plan 2 = .ok (.iload_n 3, 1) := by decide +kernel
theorem dX1_plan_3 : decode cX1_plan 3 = .ok (.iload 4, 2) := by decide +kernel
theorem dX1_plan_5 : decode cX1_plan 5 = .ok (.invokestatic 79, 3) := by decide +kernel
theorem dX1_plan_8 : decode cX1_plan 8 = .ok (.aload_n 0, 1) := by decide +kernel
theorem dX1_plan_9 : decode cX1_plan 9 = .ok (.invokevirtual 83, 3) := by decide +kernel
theorem dX1_plan_12 : decode cX1_plan 12 = .ok (.istore 5, 2) := by decide +kernel
theorem dX1_plan_14 : decode cX1_plan 14 = .ok (.iload 5, 2) := by decide +kernel
theorem dX1_plan_16 : decode cX1_plan 16 = .ok (.invokestatic 87, 3) := by decide +kernel
theorem dX1_plan_19 : decode cX1_plan 19 = .ok (.ifCond .ne 11, 3) := by decide +kernel
theorem dX1_plan_22 : decode cX1_plan 22 = .ok (.new 91, 3) := by decide +kernel
theorem dX1_plan_25 : decode cX1_plan 25 = .ok (.dup, 1) := by decide +kernel
theorem dX1_plan_26 : decode cX1_plan 26 = .ok (.invokespecial 93, 3) := by decide +kernel
theorem dX1_plan_29 : decode cX1_plan 29 = .ok (.athrow, 1) := by decide +kernel
theorem dX1_plan_30 : decode cX1_plan 30 = .ok (.new 22, 3) := by decide +kernel
theorem dX1_plan_33 : decode cX1_plan 33 = .ok (.dup, 1) := by decide +kernel
theorem dX1_plan_34 : decode cX1_plan 34 = .ok (.iload_n 1, 1) := by decide +kernel
theorem dX1_plan_35 : decode cX1_plan 35 = .ok (.iload_n 2, 1) := by decide +kernel
theorem dX1_plan_36 : decode cX1_plan 36 = .ok (.iload_n 3, 1) := by decide +kernel
theorem dX1_plan_37 : decode cX1_plan 37 = .ok (.iload 4, 2) := by decide +kernel
theorem dX1_plan_39 : decode cX1_plan 39 = .ok (.invokespecial 94, 3) := by decide +kernel
theorem dX1_plan_42 : decode cX1_plan 42 = .ok (.astore 6, 2) := by decide +kernel
theorem dX1_plan_44 : decode cX1_plan 44 = .ok (.aload_n 0, 1) := by decide +kernel
theorem dX1_plan_45 : decode cX1_plan 45 = .ok (.aload 6, 2) := by decide +kernel
theorem dX1_plan_47 : decode cX1_plan 47 = .ok (.invokevirtual 96, 3) := by decide +kernel
theorem dX1_plan_50 : decode cX1_plan 50 = .ok (.aload_n 0, 1) := by decide +kernel
theorem dX1_plan_51 : decode cX1_plan 51 = .ok (.getfield 24, 3) := by decide +kernel
theorem dX1_plan_54 : decode cX1_plan 54 = .ok (.iload 5, 2) := by decide +kernel
theorem dX1_plan_56 : decode cX1_plan 56 = .ok (.aload 6, 2) := by decide +kernel
theorem dX1_plan_58 : decode cX1_plan 58 = .ok (.aastore, 1) := by decide +kernel
theorem dX1_plan_59 : decode cX1_plan 59 = .ok (.iload 5, 2) := by decide +kernel
theorem dX1_plan_61 : decode cX1_plan 61 = .ok (.ireturn, 1) := by decide +kernel
set_option maxRecDepth 20000 in
theorem ggX1_move_X1_existing : GoodIn wsX1_move wsX1_existing := goodIn_ca (goodIn_r _ [5, 6, 7, 8, 9, 10, 4, 11, 82, 83, 84, 85, 86, 87, 88, 89, 90] (by decide +kernel) (by decide +kernel)) (goodIn_sub (fun _ h => List.mem_cons_of_mem _ (List.mem_append_left _ (List.mem_append_right _ h))) (by decide +kernel))
set_option maxRecDepth 20000 in
theorem gX1_move_X1_existing : GoodIn wsX1_move (wsV RX1 100 RX1 yX1_existing wsX1_existing) := goodIn_app (goodIn_of _ (by decide +kernel)) ggX1_move_X1_existing
set_option maxRecDepth 20000 in
theorem ggX1_move_X1_requireRange : GoodIn wsX1_move wsX1_requireRange := goodIn_ca (goodIn_r _ [14, 15, 16, 4, 17, 18, 19] (by decide +kernel) (by decide +kernel)) (goodIn_sub (fun _ h => List.mem_cons_of_mem _ (List.mem_append_right _ h)) (by decide +kernel))
set_option maxRecDepth 20000 in
theorem gX1_move_X1_requireRange : GoodIn wsX1_move (va_wsS RX1 58 yX1_requireRange wsX1_requireRange) := goodIn_app (goodIn_of _ (by decide +kernel)) ggX1_move_X1_requireRange
set_option maxRecDepth 20000 in
theorem ggX1_move_X1_schedule : GoodIn wsX1_move wsX1_schedule := goodIn_r _ [23, 24, 25, 26, 4, 27, 28, 29, 30, 31, 32, 33, 34, 35, 36, 37, 38, 39, 40, 41, 42, 43, 44, 45, 46, 47, 48, 49, 50, 51, 52, 53, 54, 55, 56, 57, 58, 59, 60, 61, 62, 63, 64, 65, 66, 67, 68, 69, 70, 71, 72, 73, 74, 75, 76, 77, 78, 79, 80, 81, 82, 83, 84, 85, 86, 87, 88, 89, 90] (by decide +kernel) (by decide +kernel)
set_option maxRecDepth 20000 in
theorem gX1_move_X1_schedule : GoodIn wsX1_move (wsV RX1 96 RX1 yX1_schedule wsX1_schedule) := goodIn_app (goodIn_of _ (by decide +kernel)) ggX1_move_X1_schedule
theorem dX1_move_0 : decode cX1_move 0 = .ok (.aload_n 0, 1) := by decide +kernel
theorem dX1_move_1 : decode cX1_move 1 = .ok (.iload_n 1, 1) := by decide +kernel
theorem dX1_move_2 : decode cX1_move 2 = .ok (.invokevirtual 100, 3) := by decide +kernel
theorem dX1_move_5 : decode cX1_move 5 = .ok (.astore_n 3, 1) := by decide +kernel
theorem dX1_move_6 : decode cX1_move 6 = .ok (.iload_n 2, 1) := by decide +kernel
theorem dX1_move_7 : decode cX1_move 7 = .ok (.iconst 0, 1) := by decide +kernel
theorem dX1_move_8 : decode cX1_move 8 = .ok (.sipush 900, 3) := by decide +kernel
theorem dX1_move_11 : decode cX1_move 11 = .ok (.invokestatic 58, 3) := by decide +kernel
theorem dX1_move_14 : decode cX1_move 14 = .ok (.aload_n 3, 1) := by decide +kernel
theorem dX1_move_15 : decode cX1_move 15 = .ok (.getfield 104, 3) := by decide +kernel
theorem dX1_move_18 : decode cX1_move 18 = .ok (.istore 4, 2) := by decide +kernel
theorem dX1_move_20 : decode cX1_move 20 = .ok (.aload_n 3, 1) := by decide +kernel
theorem dX1_move_21 : decode cX1_move 21 = .ok (.iload_n 2, 1) := by decide +kernel
theorem dX1_move_22 : decode cX1_move 22 = .ok (.putfield 104, 3) := by decide +kernel
theorem dX1_move_25 : decode cX1_move 25 = .ok (.aload_n 0, 1) := by decide +kernel
theorem dX1_move_26 : decode cX1_move 26 = .ok (.aload_n 3, 1) := by decide +kernel
theorem dX1_move_27 : decode cX1_move 27 = .ok (.invokevirtual 96, 3) := by decide +kernel
theorem dX1_move_30 : decode cX1_move 30 = .ok (.iload 4, 2) := by decide +kernel
theorem dX1_move_32 : decode cX1_move 32 = .ok (.ireturn, 1) := by decide +kernel
set_option maxRecDepth 20000 in
theorem ggX1_cancel_X1_existing : GoodIn wsX1_cancel wsX1_existing := goodIn_ca (goodIn_r _ [6, 7, 8, 1, 9, 10, 5, 11, 12, 13, 14, 15, 16, 17, 18, 19, 20] (by decide +kernel) (by decide +kernel)) (goodIn_sub (fun _ h => List.mem_cons_of_mem _ (List.mem_append_right _ h)) (by decide +kernel))
set_option maxRecDepth 20000 in
theorem gX1_cancel_X1_existing : GoodIn wsX1_cancel (wsV RX1 100 RX1 yX1_existing wsX1_existing) := goodIn_app (goodIn_of _ (by decide +kernel)) ggX1_cancel_X1_existing
theorem dX1_cancel_0 : decode cX1_cancel 0 = .ok (.aload_n 0, 1) := by decide +kernel
theorem dX1_cancel_1 : decode cX1_cancel 1 = .ok (.iload_n 1, 1) := by decide +kernel
theorem dX1_cancel_2 : decode cX1_cancel 2 = .ok (.invokevirtual 100, 3) := by decide +kernel
theorem dX1_cancel_5 : decode cX1_cancel 5 = .ok (.astore_n 2, 1) := by decide +kernel
theorem dX1_cancel_6 : decode cX1_cancel 6 = .ok (.aload_n 0, 1) := by decide +kernel
theorem dX1_cancel_7 : decode cX1_cancel 7 = .ok (.getfield 24, 3) := by decide +kernel
theorem dX1_cancel_10 : decode cX1_cancel 10 = .ok (.iload_n 1, 1) := by decide +kernel
theorem dX1_cancel_11 : decode cX1_cancel 11 = .ok (.aconst_null, 1) := by decide +kernel
theorem dX1_cancel_12 : decode cX1_cancel 12 = .ok (.aastore, 1) := by decide +kernel
theorem dX1_cancel_13 : decode cX1_cancel 13 = .ok (.aload_n 2, 1) := by decide +kernel
theorem dX1_cancel_14 : decode cX1_cancel 14 = .ok (.getfield 107, 3) := by decide +kernel
theorem dX1_cancel_17 : decode cX1_cancel 17 = .ok (.ireturn, 1) := by decide +kernel
set_option maxRecDepth 20000 in
theorem ggX1_delay_X1_existing : GoodIn wsX1_delay wsX1_existing := goodIn_ca (goodIn_r _ [7, 8, 9, 10, 11, 12, 6, 13, 88, 89, 90, 91, 92, 93, 94, 95, 96] (by decide +kernel) (by decide +kernel)) (goodIn_sub (fun _ h => List.mem_cons_of_mem _ (List.mem_append_left _ (List.mem_append_right _ h))) (by decide +kernel))
set_option maxRecDepth 20000 in
theorem gX1_delay_X1_existing : GoodIn wsX1_delay (wsV RX1 100 RX1 yX1_existing wsX1_existing) := goodIn_app (goodIn_of _ (by decide +kernel)) ggX1_delay_X1_existing
set_option maxRecDepth 20000 in
theorem ggX1_delay_X1_requireRange : GoodIn wsX1_delay wsX1_requireRange := goodIn_ca (goodIn_r _ [16, 17, 18, 6, 19, 20, 21] (by decide +kernel) (by decide +kernel)) (goodIn_sub (fun _ h => List.mem_cons_of_mem _ (List.mem_append_right _ h)) (by decide +kernel))
set_option maxRecDepth 20000 in
theorem gX1_delay_X1_requireRange : GoodIn wsX1_delay (va_wsS RX1 58 yX1_requireRange wsX1_requireRange) := goodIn_app (goodIn_of _ (by decide +kernel)) ggX1_delay_X1_requireRange
set_option maxRecDepth 20000 in
theorem ggX1_delay_X0_addBreak : GoodIn wsX1_delay wsX0_addBreak := goodIn_r _ [25, 26, 27, 28, 75, 76, 77, 78, 79, 80, 81, 82, 83, 84, 85, 86, 87] (by decide +kernel) (by decide +kernel)
set_option maxRecDepth 20000 in
theorem gX1_delay_X0_addBreak_n116 : GoodIn wsX1_delay (wsX0_addBreak) := ggX1_delay_X0_addBreak
set_option maxRecDepth 20000 in
theorem ggX1_delay_X1_schedule : GoodIn wsX1_delay wsX1_schedule := goodIn_r _ [32, 33, 34, 35, 6, 36, 37, 38, 39, 40, 41, 42, 23, 43, 44, 26, 28, 45, 46, 47, 48, 49, 50, 51, 52, 53, 54, 55, 56, 57, 58, 59, 60, 61, 62, 63, 64, 65, 66, 67, 68, 69, 70, 71, 72, 73, 74, 75, 76, 77, 78, 79, 80, 81, 82, 83, 84, 85, 86, 87, 88, 89, 90, 91, 92, 93, 94, 95, 96] (by decide +kernel) (by decide +kernel)
set_option maxRecDepth 20000 in
theorem gX1_delay_X1_schedule : GoodIn wsX1_delay (wsV RX1 96 RX1 yX1_schedule wsX1_schedule) := goodIn_app (goodIn_of _ (by decide +kernel)) ggX1_delay_X1_schedule
theorem dX1_delay_0 : decode cX1_delay 0 = .ok (.aload_n 0, 1) := by decide +kernel
theorem dX1_delay_1 : decode cX1_delay 1 = .ok (.iload_n 1, 1) := by decide +kernel
theorem dX1_delay_2 : decode cX1_delay 2 = .ok (.invokevirtual 100, 3) := by decide +kernel
theorem dX1_delay_5 : decode cX1_delay 5 = .ok (.astore 4, 2) := by decide +kernel
theorem dX1_delay_7 : decode cX1_delay 7 = .ok (.iload_n 2, 1) := by decide +kernel
theorem dX1_delay_8 : decode cX1_delay 8 = .ok (.iconst 0, 1) := by decide +kernel
theorem dX1_delay_9 : decode cX1_delay 9 = .ok (.aload 4, 2) := by decide +kernel
theorem dX1_delay_11 : decode cX1_delay 11 = .ok (.getfield 110, 3) := by decide +kernel
theorem dX1_delay_14 : decode cX1_delay 14 = .ok (.iconst 1, 1) := by decide +kernel
theorem dX1_delay_15 : decode cX1_delay 15 = .ok (.isub, 1) := by decide +kernel
theorem dX1_delay_16 : decode cX1_delay 16 = .ok (.invokestatic 58, 3) := by decide +kernel
theorem dX1_delay_19 : decode cX1_delay 19 = .ok (.iload_n 3, 1) := by decide +kernel
theorem dX1_delay_20 : decode cX1_delay 20 = .ok (.iconst 1, 1) := by decide +kernel
theorem dX1_delay_21 : decode cX1_delay 21 = .ok (.bipush 9, 2) := by decide +kernel
theorem dX1_delay_23 : decode cX1_delay 23 = .ok (.invokestatic 58, 3) := by decide +kernel
theorem dX1_delay_26 : decode cX1_delay 26 = .ok (.aload 4, 2) := by decide +kernel
theorem dX1_delay_28 : decode cX1_delay 28 = .ok (.getfield 113, 3) := by decide +kernel
theorem dX1_delay_31 : decode cX1_delay 31 = .ok (.iconst 4, 1) := by decide +kernel
theorem dX1_delay_32 : decode cX1_delay 32 = .ok (.if_icmp .lt 11, 3) := by decide +kernel
theorem dX1_delay_35 : decode cX1_delay 35 = .ok (.new 91, 3) := by decide +kernel
theorem dX1_delay_38 : decode cX1_delay 38 = .ok (.dup, 1) := by decide +kernel
theorem dX1_delay_39 : decode cX1_delay 39 = .ok (.invokespecial 93, 3) := by decide +kernel
theorem dX1_delay_42 : decode cX1_delay 42 = .ok (.athrow, 1) := by decide +kernel
theorem dX1_delay_43 : decode cX1_delay 43 = .ok (.aload 4, 2) := by decide +kernel
theorem dX1_delay_45 : decode cX1_delay 45 = .ok (.iload_n 2, 1) := by decide +kernel
theorem dX1_delay_46 : decode cX1_delay 46 = .ok (.iload_n 3, 1) := by decide +kernel
theorem dX1_delay_47 : decode cX1_delay 47 = .ok (.invokevirtual 116, 3) := by decide +kernel
theorem dX1_delay_50 : decode cX1_delay 50 = .ok (.aload_n 0, 1) := by decide +kernel
theorem dX1_delay_51 : decode cX1_delay 51 = .ok (.aload 4, 2) := by decide +kernel
theorem dX1_delay_53 : decode cX1_delay 53 = .ok (.invokevirtual 96, 3) := by decide +kernel
theorem dX1_delay_56 : decode cX1_delay 56 = .ok (.aload 4, 2) := by decide +kernel
theorem dX1_delay_58 : decode cX1_delay 58 = .ok (.getfield 113, 3) := by decide +kernel
theorem dX1_delay_61 : decode cX1_delay 61 = .ok (.ireturn, 1) := by decide +kernel
theorem dX1_pours_0 : decode cX1_pours 0 = .ok (.iconst 0, 1) := by decide +kernel
theorem dX1_pours_1 : decode cX1_pours 1 = .ok (.istore_n 1, 1) := by decide +kernel
theorem dX1_pours_2 : decode cX1_pours 2 = .ok (.aload_n 0, 1) := by decide +kernel
theorem dX1_pours_3 : decode cX1_pours 3 = .ok (.getfield 24, 3) := by decide +kernel
theorem dX1_pours_6 : decode cX1_pours 6 = .ok (.astore_n 2, 1) := by decide +kernel
theorem dX1_pours_7 : decode cX1_pours 7 = .ok (.aload_n 2, 1) := by decide +kernel
theorem dX1_pours_8 : decode cX1_pours 8 = .ok (.arraylength, 1) := by decide +kernel
theorem dX1_pours_9 : decode cX1_pours 9 = .ok (.istore_n 3, 1) := by decide +kernel
theorem dX1_pours_10 : decode cX1_pours 10 = .ok (.iconst 0, 1) := by decide +kernel
theorem dX1_pours_11 : decode cX1_pours 11 = .ok (.istore 4, 2) := by decide +kernel
theorem dX1_pours_13 : decode cX1_pours 13 = .ok (.iload 4, 2) := by decide +kernel
theorem dX1_pours_15 : decode cX1_pours 15 = .ok (.iload_n 3, 1) := by decide +kernel
theorem dX1_pours_16 : decode cX1_pours 16 = .ok (.if_icmp .ge 23, 3) := by decide +kernel
theorem dX1_pours_19 : decode cX1_pours 19 = .ok (.aload_n 2, 1) := by decide +kernel
theorem dX1_pours_20 : decode cX1_pours 20 = .ok (.iload 4, 2) := by decide +kernel
theorem dX1_pours_22 : decode cX1_pours 22 = .ok (.aaload, 1) := by decide +kernel
theorem dX1_pours_23 : decode cX1_pours 23 = .ok (.astore 5, 2) := by decide +kernel
theorem dX1_pours_25 : decode cX1_pours 25 = .ok (.aload 5, 2) := by decide +kernel
theorem dX1_pours_27 : decode cX1_pours 27 = .ok (.ifnull 6, 3) := by decide +kernel
theorem dX1_pours_30 : decode cX1_pours 30 = .ok (.iinc 1 1, 3) := by decide +kernel
theorem dX1_pours_33 : decode cX1_pours 33 = .ok (.iinc 4 1, 3) := by decide +kernel
theorem dX1_pours_36 : decode cX1_pours 36 = .ok (.goto (-23), 3) := by decide +kernel
theorem dX1_pours_39 : decode cX1_pours 39 = .ok (.iload_n 1, 1) := by decide +kernel
theorem dX1_pours_40 : decode cX1_pours 40 = .ok (.ireturn, 1) := by decide +kernel
set_option maxRecDepth 20000 in
theorem ggX1_endOf_X1_existing : GoodIn wsX1_endOf wsX1_existing := goodIn_ca (goodIn_r _ [5, 6, 7, 8, 9, 10, 4, 11, 25, 26, 27, 28, 29, 30, 31, 32, 33] (by decide +kernel) (by decide +kernel)) (goodIn_sub (fun _ h => List.mem_cons_of_mem _ (List.mem_append_right _ h)) (by decide +kernel))
set_option maxRecDepth 20000 in
theorem gX1_endOf_X1_existing : GoodIn wsX1_endOf (wsV RX1 100 RX1 yX1_existing wsX1_existing) := goodIn_app (goodIn_of _ (by decide +kernel)) ggX1_endOf_X1_existing
theorem dX1_endOf_0 : decode cX1_endOf 0 = .ok (.aload_n 0, 1) := by decide +kernel
theorem dX1_endOf_1 : decode cX1_endOf 1 = .ok (.iload_n 1, 1) := by decide +kernel
theorem dX1_endOf_2 : decode cX1_endOf 2 = .ok (.invokevirtual 100, 3) := by decide +kernel
theorem dX1_endOf_5 : decode cX1_endOf 5 = .ok (.astore_n 2, 1) := by decide +kernel
theorem dX1_endOf_6 : decode cX1_endOf 6 = .ok (.aload_n 2, 1) := by decide +kernel
theorem dX1_endOf_7 : decode cX1_endOf 7 = .ok (.getfield 120, 3) := by decide +kernel
theorem dX1_endOf_10 : decode cX1_endOf 10 = .ok (.ireturn, 1) := by decide +kernel
set_option maxRecDepth 20000 in
theorem ggX1_coldJoints_X1_existing : GoodIn wsX1_coldJoints wsX1_existing := goodIn_ca (goodIn_r _ [5, 6, 7, 8, 9, 10, 4, 11, 39, 40, 41, 42, 43, 44, 45, 46, 47] (by decide +kernel) (by decide +kernel)) (goodIn_sub (fun _ h => List.mem_cons_of_mem _ (List.mem_append_right _ h)) (by decide +kernel))
set_option maxRecDepth 20000 in
theorem gX1_coldJoints_X1_existing : GoodIn wsX1_coldJoints (wsV RX1 100 RX1 yX1_existing wsX1_existing) := goodIn_app (goodIn_of _ (by decide +kernel)) ggX1_coldJoints_X1_existing
set_option maxRecDepth 20000 in
theorem ggX1_coldJoints_X1_fullHours : GoodIn wsX1_coldJoints wsX1_fullHours := goodIn_r _ [15, 16, 39, 40, 41, 42, 43, 44, 45, 46, 47] (by decide +kernel) (by decide +kernel)
set_option maxRecDepth 20000 in
theorem gX1_coldJoints_X1_fullHours : GoodIn wsX1_coldJoints (wsV RX1 126 RX1 yX1_fullHours wsX1_fullHours) := goodIn_app (goodIn_of _ (by decide +kernel)) ggX1_coldJoints_X1_fullHours
set_option maxRecDepth 20000 in
theorem ggX1_coldJoints_X1_gainBetween : GoodIn wsX1_coldJoints wsX1_gainBetween := goodIn_r _ [20, 21, 22, 23, 24, 25, 39, 40, 41, 42, 43, 44, 45, 46, 47] (by decide +kernel) (by decide +kernel)
set_option maxRecDepth 20000 in
theorem gX1_coldJoints_X1_gainBetween : GoodIn wsX1_coldJoints (wsV RX1 65 RX1 yX1_gainBetween wsX1_gainBetween) := goodIn_app (goodIn_of _ (by decide +kernel)) ggX1_coldJoints_X1_gainBetween
theorem dX1_coldJoints_0 : decode cX1_coldJoints 0 = .ok (.aload_n 0, 1) := by decide +kernel
theorem dX1_coldJoints_1 : decode cX1_coldJoints 1 = .ok (.iload_n 1, 1) := by decide +kernel
theorem dX1_coldJoints_2 : decode cX1_coldJoints 2 = .ok (.invokevirtual 100, 3) := by decide +kernel
theorem dX1_coldJoints_5 : decode cX1_coldJoints 5 = .ok (.astore_n 2, 1) := by decide +kernel
theorem dX1_coldJoints_6 : decode cX1_coldJoints 6 = .ok (.iconst 0, 1) := by decide +kernel
theorem dX1_coldJoints_7 : decode cX1_coldJoints 7 = .ok (.istore_n 3, 1) := by decide +kernel
theorem dX1_coldJoints_8 : decode cX1_coldJoints 8 = .ok (.iconst 0, 1) := by decide +kernel
theorem dX1_coldJoints_9 : decode cX1_coldJoints 9 = .ok (.istore 4, 2) := by decide +kernel
theorem dX1_coldJoints_11 : decode cX1_coldJoints 11 = .ok (.iconst 0, 1) := by decide +kernel
theorem dX1_coldJoints_12 : decode cX1_coldJoints 12 = .ok (.istore 5, 2) := by decide +kernel
theorem dX1_coldJoints_14 : decode cX1_coldJoints 14 = .ok (.iload 5, 2) := by decide +kernel
theorem dX1_coldJoints_16 : decode cX1_coldJoints 16 = .ok (.aload_n 2, 1) := by decide +kernel
theorem dX1_coldJoints_17 : decode cX1_coldJoints 17 = .ok (.getfield 113, 3) := by decide +kernel
theorem dX1_coldJoints_20 : decode cX1_coldJoints 20 = .ok (.if_icmp .ge 71, 3) := by decide +kernel
theorem dX1_coldJoints_23 : decode cX1_coldJoints 23 = .ok (.iload 5, 2) := by decide +kernel
theorem dX1_coldJoints_25 : decode cX1_coldJoints 25 = .ok (.iconst 4, 1) := by decide +kernel
theorem dX1_coldJoints_26 : decode cX1_coldJoints 26 = .ok (.if_icmp .ge 65, 3) := by decide +kernel
theorem dX1_coldJoints_29 : decode cX1_coldJoints 29 = .ok (.aload_n 2, 1) := by decide +kernel
theorem dX1_coldJoints_30 : decode cX1_coldJoints 30 = .ok (.getfield 104, 3) := by decide +kernel
theorem dX1_coldJoints_33 : decode cX1_coldJoints 33 = .ok (.aload_n 0, 1) := by decide +kernel
theorem dX1_coldJoints_34 : decode cX1_coldJoints 34 = .ok (.aload_n 2, 1) := by decide +kernel
theorem dX1_coldJoints_35 : decode cX1_coldJoints 35 = .ok (.getfield 123, 3) := by decide +kernel
theorem dX1_coldJoints_38 : decode cX1_coldJoints 38 = .ok (.iload 5, 2) := by decide +kernel
theorem dX1_coldJoints_40 : decode cX1_coldJoints 40 = .ok (.iaload, 1) := by decide +kernel
theorem dX1_coldJoints_41 : decode cX1_coldJoints 41 = .ok (.invokevirtual 126, 3) := by decide +kernel
theorem dX1_coldJoints_44 : decode cX1_coldJoints 44 = .ok (.iadd, 1) := by decide +kernel
theorem dX1_coldJoints_45 : decode cX1_coldJoints 45 = .ok (.iload 4, 2) := by decide +kernel
theorem dX1_coldJoints_47 : decode cX1_coldJoints 47 = .ok (.iadd, 1) := by decide +kernel
theorem dX1_coldJoints_48 : decode cX1_coldJoints 48 = .ok (.istore 6, 2) := by decide +kernel
theorem dX1_coldJoints_50 : decode cX1_coldJoints 50 = .ok (.aload_n 2, 1) := by decide +kernel
theorem dX1_coldJoints_51 : decode cX1_coldJoints 51 = .ok (.getfield 129, 3) := by decide +kernel
theorem dX1_coldJoints_54 : decode cX1_coldJoints 54 = .ok (.iload 5, 2) := by decide +kernel
theorem dX1_coldJoints_56 : decode cX1_coldJoints 56 = .ok (.iaload, 1) := by decide +kernel
theorem dX1_coldJoints_57 : decode cX1_coldJoints 57 = .ok (.istore 7, 2) := by decide +kernel
theorem dX1_coldJoints_59 : decode cX1_coldJoints 59 = .ok (.aload_n 0, 1) := by decide +kernel
theorem dX1_coldJoints_60 : decode cX1_coldJoints 60 = .ok (.iload 6, 2) := by decide +kernel
theorem dX1_coldJoints_62 : decode cX1_coldJoints 62 = .ok (.iload 6, 2) := by decide +kernel
theorem dX1_coldJoints_64 : decode cX1_coldJoints 64 = .ok (.iload 7, 2) := by decide +kernel
theorem dX1_coldJoints_66 : decode cX1_coldJoints 66 = .ok (.iadd, 1) := by decide +kernel
theorem dX1_coldJoints_67 : decode cX1_coldJoints 67 = .ok (.invokevirtual 65, 3) := by decide +kernel
theorem dX1_coldJoints_70 : decode cX1_coldJoints 70 = .ok (.bipush 90, 2) := by decide +kernel
theorem dX1_coldJoints_72 : decode cX1_coldJoints 72 = .ok (.if_icmp .lt 6, 3) := by decide +kernel
theorem dX1_coldJoints_75 : decode cX1_coldJoints 75 = .ok (.iinc 3 1, 3) := by decide +kernel
theorem dX1_coldJoints_78 : decode cX1_coldJoints 78 = .ok (.iload 4, 2) := by decide +kernel
theorem dX1_coldJoints_80 : decode cX1_coldJoints 80 = .ok (.iload 7, 2) := by decide +kernel
theorem dX1_coldJoints_82 : decode cX1_coldJoints 82 = .ok (.iadd, 1) := by decide +kernel
theorem dX1_coldJoints_83 : decode cX1_coldJoints 83 = .ok (.istore 4, 2) := by decide +kernel
theorem dX1_coldJoints_85 : decode cX1_coldJoints 85 = .ok (.iinc 5 1, 3) := by decide +kernel
theorem dX1_coldJoints_88 : decode cX1_coldJoints 88 = .ok (.goto (-74), 3) := by decide +kernel
theorem dX1_coldJoints_91 : decode cX1_coldJoints 91 = .ok (.iload_n 3, 1) := by decide +kernel
theorem dX1_coldJoints_92 : decode cX1_coldJoints 92 = .ok (.ireturn, 1) := by decide +kernel
set_option maxRecDepth 20000 in
theorem ggX1_struck_X1_existing : GoodIn wsX1_struck wsX1_existing := goodIn_ca (goodIn_r _ [5, 6, 7, 8, 9, 10, 4, 11, 25, 26, 27, 28, 29, 30, 31, 32, 33] (by decide +kernel) (by decide +kernel)) (goodIn_sub (fun _ h => List.mem_cons_of_mem _ (List.mem_append_right _ h)) (by decide +kernel))
set_option maxRecDepth 20000 in
theorem gX1_struck_X1_existing : GoodIn wsX1_struck (wsV RX1 100 RX1 yX1_existing wsX1_existing) := goodIn_app (goodIn_of _ (by decide +kernel)) ggX1_struck_X1_existing
theorem dX1_struck_0 : decode cX1_struck 0 = .ok (.aload_n 0, 1) := by decide +kernel
theorem dX1_struck_1 : decode cX1_struck 1 = .ok (.iload_n 1, 1) := by decide +kernel
theorem dX1_struck_2 : decode cX1_struck 2 = .ok (.invokevirtual 100, 3) := by decide +kernel
theorem dX1_struck_5 : decode cX1_struck 5 = .ok (.astore_n 2, 1) := by decide +kernel
theorem dX1_struck_6 : decode cX1_struck 6 = .ok (.aload_n 2, 1) := by decide +kernel
theorem dX1_struck_7 : decode cX1_struck 7 = .ok (.getfield 132, 3) := by decide +kernel
theorem dX1_struck_10 : decode cX1_struck 10 = .ok (.ireturn, 1) := by decide +kernel
set_option maxRecDepth 20000 in
theorem ggX1_freeFrom_X1_existing : GoodIn wsX1_freeFrom wsX1_existing := goodIn_ca (goodIn_r _ [5, 6, 7, 8, 9, 10, 4, 11, 25, 26, 27, 28, 29, 30, 31, 32, 33] (by decide +kernel) (by decide +kernel)) (goodIn_sub (fun _ h => List.mem_cons_of_mem _ (List.mem_append_right _ h)) (by decide +kernel))
set_option maxRecDepth 20000 in
theorem gX1_freeFrom_X1_existing : GoodIn wsX1_freeFrom (wsV RX1 100 RX1 yX1_existing wsX1_existing) := goodIn_app (goodIn_of _ (by decide +kernel)) ggX1_freeFrom_X1_existing
theorem dX1_freeFrom_0 : decode cX1_freeFrom 0 = .ok (.aload_n 0, 1) := by decide +kernel
theorem dX1_freeFrom_1 : decode cX1_freeFrom 1 = .ok (.iload_n 1, 1) := by decide +kernel
theorem dX1_freeFrom_2 : decode cX1_freeFrom 2 = .ok (.invokevirtual 100, 3) := by decide +kernel
theorem dX1_freeFrom_5 : decode cX1_freeFrom 5 = .ok (.astore_n 2, 1) := by decide +kernel
theorem dX1_freeFrom_6 : decode cX1_freeFrom 6 = .ok (.aload_n 2, 1) := by decide +kernel
theorem dX1_freeFrom_7 : decode cX1_freeFrom 7 = .ok (.getfield 135, 3) := by decide +kernel
theorem dX1_freeFrom_10 : decode cX1_freeFrom 10 = .ok (.sipush 1000, 3) := by decide +kernel
theorem dX1_freeFrom_13 : decode cX1_freeFrom 13 = .ok (.if_icmp .ge 10, 3) := by decide +kernel
theorem dX1_freeFrom_16 : decode cX1_freeFrom 16 = .ok (.aload_n 2, 1) := by decide +kernel
theorem dX1_freeFrom_17 : decode cX1_freeFrom 17 = .ok (.getfield 135, 3) := by decide +kernel
theorem dX1_freeFrom_20 : decode cX1_freeFrom 20 = .ok (.goto 4, 3) := by decide +kernel
theorem dX1_freeFrom_23 : decode cX1_freeFrom 23 = .ok (.iconst (-1), 1) := by decide +kernel
theorem dX1_freeFrom_24 : decode cX1_freeFrom 24 = .ok (.ireturn, 1) := by decide +kernel
set_option maxRecDepth 20000 in
theorem ggX1_need_X1_requireHour : GoodIn wsX1_need wsX1_requireHour := goodIn_ca (goodIn_r _ [4, 5, 6, 7, 8, 3, 9] (by decide +kernel) (by decide +kernel)) (goodIn_sub (fun _ h => List.mem_cons_of_mem _ (List.mem_append_right _ h)) (by decide +kernel))
set_option maxRecDepth 20000 in
theorem gX1_need_X1_requireHour : GoodIn wsX1_need (va_wsS RX1 50 yX1_requireHour wsX1_requireHour) := goodIn_app (goodIn_of _ (by decide +kernel)) ggX1_need_X1_requireHour
set_option maxRecDepth 20000 in
theorem ggX1_need_X1_needIn : GoodIn wsX1_need wsX1_needIn := goodIn_r _ [13, 14, 15, 16, 17, 18, 19, 20, 21, 22, 23, 24, 25, 26, 27, 28, 29, 30, 31, 32, 33, 34, 35, 36, 37, 38, 39, 40, 41, 42] (by decide +kernel) (by decide +kernel)
set_option maxRecDepth 20000 in
theorem gX1_need_X1_needIn : GoodIn wsX1_need (wsV RX1 138 RX1 yX1_needIn wsX1_needIn) := goodIn_app (goodIn_of _ (by decide +kernel)) ggX1_need_X1_needIn
theorem dX1_need_0 : decode cX1_need 0 = .ok (.iload_n 1, 1) := by decide +kernel
theorem dX1_need_1 : decode cX1_need 1 = .ok (.invokestatic 50, 3) := by decide +kernel
theorem dX1_need_4 : decode cX1_need 4 = .ok (.aload_n 0, 1) := by decide +kernel
theorem dX1_need_5 : decode cX1_need 5 = .ok (.iload_n 1, 1) := by decide +kernel
theorem dX1_need_6 : decode cX1_need 6 = .ok (.invokevirtual 138, 3) := by decide +kernel
theorem dX1_need_9 : decode cX1_need 9 = .ok (.ireturn, 1) := by decide +kernel
set_option maxRecDepth 20000 in
theorem ggX1_peak_X1_sumNeeds : GoodIn wsX1_peak wsX1_sumNeeds := goodIn_r _ [10, 1, 11, 12, 13, 9, 14, 15, 16, 17, 18, 19, 20, 21, 22, 23, 24, 25, 26, 27, 28, 29, 30, 31, 32, 33, 34, 35, 36, 37, 38, 39, 40, 41, 42, 43] (by decide +kernel) (by decide +kernel)
set_option maxRecDepth 20000 in
theorem gX1_peak_X1_sumNeeds : GoodIn wsX1_peak (wsV RX1 141 RX1 yX1_sumNeeds wsX1_sumNeeds) := goodIn_app (goodIn_of _ (by decide +kernel)) ggX1_peak_X1_sumNeeds
theorem dX1_peak_0 : decode cX1_peak 0 = .ok (.aload_n 0, 1) := by decide +kernel
theorem dX1_peak_1 : decode cX1_peak 1 = .ok (.invokevirtual 141, 3) := by decide +kernel
theorem dX1_peak_4 : decode cX1_peak 4 = .ok (.iconst 0, 1) := by decide +kernel
theorem dX1_peak_5 : decode cX1_peak 5 = .ok (.istore_n 1, 1) := by decide +kernel
theorem dX1_peak_6 : decode cX1_peak 6 = .ok (.aload_n 0, 1) := by decide +kernel
theorem dX1_peak_7 : decode cX1_peak 7 = .ok (.getfield 16, 3) := by decide +kernel
theorem dX1_peak_10 : decode cX1_peak 10 = .ok (.astore_n 2, 1) := by decide +kernel
theorem dX1_peak_11 : decode cX1_peak 11 = .ok (.aload_n 2, 1) := by decide +kernel
theorem dX1_peak_12 : decode cX1_peak 12 = .ok (.arraylength, 1) := by decide +kernel
theorem dX1_peak_13 : decode cX1_peak 13 = .ok (.istore_n 3, 1) := by decide +kernel
theorem dX1_peak_14 : decode cX1_peak 14 = .ok (.iconst 0, 1) := by decide +kernel
theorem dX1_peak_15 : decode cX1_peak 15 = .ok (.istore 4, 2) := by decide +kernel
theorem dX1_peak_17 : decode cX1_peak 17 = .ok (.iload 4, 2) := by decide +kernel
theorem dX1_peak_19 : decode cX1_peak 19 = .ok (.iload_n 3, 1) := by decide +kernel
theorem dX1_peak_20 : decode cX1_peak 20 = .ok (.if_icmp .ge 22, 3) := by decide +kernel
theorem dX1_peak_23 : decode cX1_peak 23 = .ok (.aload_n 2, 1) := by decide +kernel
theorem dX1_peak_24 : decode cX1_peak 24 = .ok (.iload 4, 2) := by decide +kernel
theorem dX1_peak_26 : decode cX1_peak 26 = .ok (.iaload, 1) := by decide +kernel
theorem dX1_peak_27 : decode cX1_peak 27 = .ok (.istore 5, 2) := by decide +kernel
theorem dX1_peak_29 : decode cX1_peak 29 = .ok (.iload_n 1, 1) := by decide +kernel
theorem dX1_peak_30 : decode cX1_peak 30 = .ok (.iload 5, 2) := by decide +kernel
theorem dX1_peak_32 : decode cX1_peak 32 = .ok (.invokestatic 144, 3) := by decide +kernel
theorem dX1_peak_35 : decode cX1_peak 35 = .ok (.istore_n 1, 1) := by decide +kernel
theorem dX1_peak_36 : decode cX1_peak 36 = .ok (.iinc 4 1, 3) := by decide +kernel
theorem dX1_peak_39 : decode cX1_peak 39 = .ok (.goto (-22), 3) := by decide +kernel
theorem dX1_peak_42 : decode cX1_peak 42 = .ok (.iload_n 1, 1) := by decide +kernel
theorem dX1_peak_43 : decode cX1_peak 43 = .ok (.ireturn, 1) := by decide +kernel
set_option maxRecDepth 20000 in
theorem ggX1_peakByOverlaps_X1_needIn : GoodIn wsX1_peakByOverlaps wsX1_needIn := goodIn_r _ [10, 1, 11, 12, 13, 14, 15, 16, 17, 18, 19, 20, 21, 22, 23, 24, 25, 26, 27, 28, 29, 30, 31, 32, 33, 34, 35, 36, 37, 38] (by decide +kernel) (by decide +kernel)
set_option maxRecDepth 20000 in
theorem gX1_peakByOverlaps_X1_needIn : GoodIn wsX1_peakByOverlaps (wsV RX1 138 RX1 yX1_needIn wsX1_needIn) := goodIn_app (goodIn_of _ (by decide +kernel)) ggX1_peakByOverlaps_X1_needIn
theorem dX1_peakByOverlaps_0 : decode cX1_peakByOverlaps 0 = .ok (.iconst 0, 1) := by decide +kernel
theorem dX1_peakByOverlaps_1 : decode cX1_peakByOverlaps 1 = .ok (.istore_n 1, 1) := by decide +kernel
theorem dX1_peakByOverlaps_2 : decode cX1_peakByOverlaps 2 = .ok (.aload_n 0, 1) := by decide +kernel
theorem dX1_peakByOverlaps_3 : decode cX1_peakByOverlaps 3 = .ok (.getfield 24, 3) := by decide +kernel
theorem dX1_peakByOverlaps_6 : decode cX1_peakByOverlaps 6 = .ok (.astore_n 2, 1) := by decide +kernel
theorem dX1_peakByOverlaps_7 : decode cX1_peakByOverlaps 7 = .ok (.aload_n 2, 1) := by decide +kernel
theorem dX1_peakByOverlaps_8 : decode cX1_peakByOverlaps 8 = .ok (.arraylength, 1) := by decide +kernel
theorem dX1_peakByOverlaps_9 : decode cX1_peakByOverlaps 9 = .ok (.istore_n 3, 1) := by decide +kernel
theorem dX1_peakByOverlaps_10 : decode cX1_peakByOverlaps 10 = .ok (.iconst 0, 1) := by decide +kernel
theorem dX1_peakByOverlaps_11 : decode cX1_peakByOverlaps 11 = .ok (.istore 4, 2) := by decide +kernel
theorem dX1_peakByOverlaps_13 : decode cX1_peakByOverlaps 13 = .ok (.iload 4, 2) := by decide +kernel
theorem dX1_peakByOverlaps_15 : decode cX1_peakByOverlaps 15 = .ok (.iload_n 3, 1) := by decide +kernel
theorem dX1_peakByOverlaps_16 : decode cX1_peakByOverlaps 16 = .ok (.if_icmp .ge 34, 3) := by decide +kernel
theorem dX1_peakByOverlaps_19 : decode cX1_peakByOverlaps 19 = .ok (.aload_n 2, 1) := by decide +kernel
theorem dX1_peakByOverlaps_20 : decode cX1_peakByOverlaps 20 = .ok (.iload 4, 2) := by decide +kernel
theorem dX1_peakByOverlaps_22 : decode cX1_peakByOverlaps 22 = .ok (.aaload, 1) := by decide +kernel
theorem dX1_peakByOverlaps_23 : decode cX1_peakByOverlaps 23 = .ok (.astore 5, 2) := by decide +kernel
theorem dX1_peakByOverlaps_25 : decode cX1_peakByOverlaps 25 = .ok (.aload 5, 2) := by decide +kernel
theorem dX1_peakByOverlaps_27 : decode cX1_peakByOverlaps 27 = .ok (.ifnull 17, 3) := by decide +kernel
theorem dX1_peakByOverlaps_30 : decode cX1_peakByOverlaps 30 = .ok (.iload_n 1, 1) := by decide +kernel
theorem dX1_peakByOverlaps_31 : decode cX1_peakByOverlaps 31 = .ok (.aload_n 0, 1) := by decide +kernel
theorem dX1_peakByOverlaps_32 : decode cX1_peakByOverlaps 32 = .ok (.aload 5, 2) := by decide +kernel
theorem dX1_peakByOverlaps_34 : decode cX1_peakByOverlaps 34 = .ok (.getfield 147, 3) := by decide +kernel
theorem dX1_peakByOverlaps_37 : decode cX1_peakByOverlaps 37 = .ok (.invokevirtual 138, 3) := by decide +kernel
theorem dX1_peakByOverlaps_40 : decode cX1_peakByOverlaps 40 = .ok (.invokestatic 144, 3) := by decide +kernel
theorem dX1_peakByOverlaps_43 : decode cX1_peakByOverlaps 43 = .ok (.istore_n 1, 1) := by decide +kernel
theorem dX1_peakByOverlaps_44 : decode cX1_peakByOverlaps 44 = .ok (.iinc 4 1, 3) := by decide +kernel
theorem dX1_peakByOverlaps_47 : decode cX1_peakByOverlaps 47 = .ok (.goto (-34), 3) := by decide +kernel
theorem dX1_peakByOverlaps_50 : decode cX1_peakByOverlaps 50 = .ok (.iload_n 1, 1) := by decide +kernel
theorem dX1_peakByOverlaps_51 : decode cX1_peakByOverlaps 51 = .ok (.ireturn, 1) := by decide +kernel
set_option maxRecDepth 20000 in
theorem ggX1_firstShort_X1_sumNeeds : GoodIn wsX1_firstShort wsX1_sumNeeds := goodIn_r _ [7, 1, 8, 9, 10, 6, 11, 12, 13, 14, 15, 16, 17, 18, 19, 20, 21, 22, 23, 24, 25, 26, 27, 28, 29, 30, 31, 32, 33, 34, 35, 36, 37, 38, 39, 40] (by decide +kernel) (by decide +kernel)
set_option maxRecDepth 20000 in
theorem gX1_firstShort_X1_sumNeeds : GoodIn wsX1_firstShort (wsV RX1 141 RX1 yX1_sumNeeds wsX1_sumNeeds) := goodIn_app (goodIn_of _ (by decide +kernel)) ggX1_firstShort_X1_sumNeeds
theorem dX1_firstShort_0 : decode cX1_firstShort 0 = .ok (.aload_n 0, 1) := by decide +kernel
theorem dX1_firstShort_1 : decode cX1_firstShort 1 = .ok (.invokevirtual 141, 3) := by decide +kernel
theorem dX1_firstShort_4 : decode cX1_firstShort 4 = .ok (.iconst 0, 1) := by decide +kernel
theorem dX1_firstShort_5 : decode cX1_firstShort 5 = .ok (.istore_n 1, 1) := by decide +kernel
theorem dX1_firstShort_6 : decode cX1_firstShort 6 = .ok (.iload_n 1, 1) := by decide +kernel
theorem dX1_firstShort_7 : decode cX1_firstShort 7 = .ok (.sipush 1000, 3) := by decide +kernel
theorem dX1_firstShort_10 : decode cX1_firstShort 10 = .ok (.if_icmp .ge 24, 3) := by decide +kernel
theorem dX1_firstShort_13 : decode cX1_firstShort 13 = .ok (.aload_n 0, 1) := by decide +kernel
theorem dX1_firstShort_14 : decode cX1_firstShort 14 = .ok (.getfield 16, 3) := by decide +kernel
theorem dX1_firstShort_17 : decode cX1_firstShort 17 = .ok (.iload_n 1, 1) := by decide +kernel
theorem dX1_firstShort_18 : decode cX1_firstShort 18 = .ok (.iaload, 1) := by decide +kernel
theorem dX1_firstShort_19 : decode cX1_firstShort 19 = .ok (.aload_n 0, 1) := by decide +kernel
theorem dX1_firstShort_20 : decode cX1_firstShort 20 = .ok (.getfield 28, 3) := by decide +kernel
theorem dX1_firstShort_23 : decode cX1_firstShort 23 = .ok (.if_icmp .le 5, 3) := by decide +kernel
theorem dX1_firstShort_26 : decode cX1_firstShort 26 = .ok (.iload_n 1, 1) := by decide +kernel
theorem dX1_firstShort_27 : decode cX1_firstShort 27 = .ok (.ireturn, 1) := by decide +kernel
theorem dX1_firstShort_28 : decode cX1_firstShort 28 = .ok (.iinc 1 1, 3) := by decide +kernel
theorem dX1_firstShort_31 : decode cX1_firstShort 31 = .ok (.goto (-25), 3) := by decide +kernel
theorem dX1_firstShort_34 : decode cX1_firstShort 34 = .ok (.iconst (-1), 1) := by decide +kernel
theorem dX1_firstShort_35 : decode cX1_firstShort 35 = .ok (.ireturn, 1) := by decide +kernel
set_option maxRecDepth 20000 in
theorem ggX1_earliest_X1_requirePour : GoodIn wsX1_earliest wsX1_requirePour := goodIn_ca (goodIn_r _ [5, 6, 7, 4, 8, 9, 10, 11, 12, 13] (by decide +kernel) (by decide +kernel)) (goodIn_sub (fun _ h => List.mem_cons_of_mem _ (List.mem_append_right _ h)) (by decide +kernel))
set_option maxRecDepth 20000 in
theorem gX1_earliest_X1_requirePour : GoodIn wsX1_earliest (va_wsS RX1 79 yX1_requirePour wsX1_requirePour) := goodIn_app (goodIn_of _ (by decide +kernel)) ggX1_earliest_X1_requirePour
set_option maxRecDepth 20000 in
theorem ggX1_earliest_X1_sumNeeds : GoodIn wsX1_earliest wsX1_sumNeeds := goodIn_r _ [17, 18, 19, 20, 21, 4, 22, 23, 24, 25, 26, 27, 28, 29, 77, 78, 79, 80, 81, 82, 83, 84, 85, 86, 87, 88, 89, 90, 91, 92, 93, 94, 95, 96, 97, 98] (by decide +kernel) (by decide +kernel)
set_option maxRecDepth 20000 in
theorem gX1_earliest_X1_sumNeeds : GoodIn wsX1_earliest (wsV RX1 141 RX1 yX1_sumNeeds wsX1_sumNeeds) := goodIn_app (goodIn_of _ (by decide +kernel)) ggX1_earliest_X1_sumNeeds
set_option maxRecDepth 20000 in
theorem ggX1_earliest_X1_markFullHours : GoodIn wsX1_earliest wsX1_markFullHours := goodIn_r _ [33, 1, 18, 34, 77, 78, 79, 80, 81, 82, 83, 84, 85] (by decide +kernel) (by decide +kernel)
set_option maxRecDepth 20000 in
theorem gX1_earliest_X1_markFullHours : GoodIn wsX1_earliest (wsV RX1 150 RX1 yX1_markFullHours wsX1_markFullHours) := goodIn_app (goodIn_of _ (by decide +kernel)) ggX1_earliest_X1_markFullHours
set_option maxRecDepth 20000 in
theorem ggX1_earliest_X1_startedHours : GoodIn wsX1_earliest wsX1_startedHours := goodIn_r _ [38, 39, 40, 41, 42, 4, 43, 77, 78, 79, 80, 81, 82, 83, 84, 85] (by decide +kernel) (by decide +kernel)
set_option maxRecDepth 20000 in
theorem gX1_earliest_X1_startedHours : GoodIn wsX1_earliest (wsV RX1 153 RX1 yX1_startedHours wsX1_startedHours) := goodIn_app (goodIn_of _ (by decide +kernel)) ggX1_earliest_X1_startedHours
set_option maxRecDepth 20000 in
theorem ggX1_earliest_X1_standHour : GoodIn wsX1_earliest wsX1_standHour := goodIn_r _ [47, 48, 49, 50, 51, 52, 77, 78, 79, 80, 81, 82, 83, 84, 85] (by decide +kernel) (by decide +kernel)
set_option maxRecDepth 20000 in
theorem gX1_earliest_X1_standHour : GoodIn wsX1_earliest (wsV RX1 156 RX1 yX1_standHour wsX1_standHour) := goodIn_app (goodIn_of _ (by decide +kernel)) ggX1_earliest_X1_standHour
set_option maxRecDepth 20000 in
theorem ggX1_earliest_X1_strikeHour : GoodIn wsX1_earliest wsX1_strikeHour := goodIn_r _ [56, 57, 58, 59, 4, 60, 61, 62, 51, 63, 64, 65, 66, 67, 68, 77, 78, 79, 80, 81, 82, 83, 84, 85] (by decide +kernel) (by decide +kernel)
set_option maxRecDepth 20000 in
theorem gX1_earliest_X1_strikeHour : GoodIn wsX1_earliest (wsV RX1 159 RX1 yX1_strikeHour wsX1_strikeHour) := goodIn_app (goodIn_of _ (by decide +kernel)) ggX1_earliest_X1_strikeHour
set_option maxRecDepth 20000 in
theorem ggX1_earliest_X1_releaseHour : GoodIn wsX1_earliest wsX1_releaseHour := goodIn_r _ [72, 73, 61, 62, 51, 63, 77, 78, 79, 80, 81, 82, 83, 84, 85] (by decide +kernel) (by decide +kernel)
set_option maxRecDepth 20000 in
theorem gX1_earliest_X1_releaseHour : GoodIn wsX1_earliest (wsV RX1 162 RX1 yX1_releaseHour wsX1_releaseHour) := goodIn_app (goodIn_of _ (by decide +kernel)) ggX1_earliest_X1_releaseHour
set_option maxRecDepth 20000 in
theorem ggX1_earliest_X1_isHour : GoodIn wsX1_earliest wsX1_isHour := goodIn_r _ [76] (by decide +kernel) (by decide +kernel)
set_option maxRecDepth 20000 in
theorem gX1_earliest_X1_isHour : GoodIn wsX1_earliest (va_wsS RX1 165 yX1_isHour wsX1_isHour) := goodIn_app (goodIn_of _ (by decide +kernel)) ggX1_earliest_X1_isHour
theorem dX1_earliest_0 : decode cX1_earliest 0 = .ok (.iload_n 1, 1) := by decide +kernel
theorem dX1_earliest_1 : decode cX1_earliest 1 = .ok (.iload_n 2, 1) := by decide +kernel
theorem dX1_earliest_2 : decode cX1_earliest 2 = .ok (.iload_n 3, 1) := by decide +kernel
theorem dX1_earliest_3 : decode cX1_earliest 3 = .ok (.iload 4, 2) := by decide +kernel
theorem dX1_earliest_5 : decode cX1_earliest 5 = .ok (.invokestatic 79, 3) := by decide +kernel
theorem dX1_earliest_8 : decode cX1_earliest 8 = .ok (.aload_n 0, 1) := by decide +kernel
theorem dX1_earliest_9 : decode cX1_earliest 9 = .ok (.invokevirtual 141, 3) := by decide +kernel
theorem dX1_earliest_12 : decode cX1_earliest 12 = .ok (.aload_n 0, 1) := by decide +kernel
theorem dX1_earliest_13 : decode cX1_earliest 13 = .ok (.iload_n 3, 1) := by decide +kernel
theorem dX1_earliest_14 : decode cX1_earliest 14 = .ok (.invokevirtual 150, 3) := by decide +kernel
theorem dX1_earliest_17 : decode cX1_earliest 17 = .ok (.aload_n 0, 1) := by decide +kernel
theorem dX1_earliest_18 : decode cX1_earliest 18 = .ok (.iload_n 2, 1) := by decide +kernel
theorem dX1_earliest_19 : decode cX1_earliest 19 = .ok (.invokevirtual 153, 3) := by decide +kernel
theorem dX1_earliest_22 : decode cX1_earliest 22 = .ok (.istore 5, 2) := by decide +kernel
theorem dX1_earliest_24 : decode cX1_earliest 24 = .ok (.iload_n 1, 1) := by decide +kernel
theorem dX1_earliest_25 : decode cX1_earliest 25 = .ok (.istore 6, 2) := by decide +kernel
theorem dX1_earliest_27 : decode cX1_earliest 27 = .ok (.iload 6, 2) := by decide +kernel
theorem dX1_earliest_29 : decode cX1_earliest 29 = .ok (.sipush 900, 3) := by decide +kernel
theorem dX1_earliest_32 : decode cX1_earliest 32 = .ok (.if_icmp .gt 57, 3) := by decide +kernel
theorem dX1_earliest_35 : decode cX1_earliest 35 = .ok (.aload_n 0, 1) := by decide +kernel
theorem dX1_earliest_36 : decode cX1_earliest 36 = .ok (.iload 6, 2) := by decide +kernel
theorem dX1_earliest_38 : decode cX1_earliest 38 = .ok (.invokevirtual 156, 3) := by decide +kernel
theorem dX1_earliest_41 : decode cX1_earliest 41 = .ok (.istore 7, 2) := by decide +kernel
theorem dX1_earliest_43 : decode cX1_earliest 43 = .ok (.aload_n 0, 1) := by decide +kernel
theorem dX1_earliest_44 : decode cX1_earliest 44 = .ok (.aload_n 0, 1) := by decide +kernel
theorem dX1_earliest_45 : decode cX1_earliest 45 = .ok (.iload 6, 2) := by decide +kernel
theorem dX1_earliest_47 : decode cX1_earliest 47 = .ok (.iload 5, 2) := by decide +kernel
theorem dX1_earliest_49 : decode cX1_earliest 49 = .ok (.iadd, 1) := by decide +kernel
theorem dX1_earliest_50 : decode cX1_earliest 50 = .ok (.iload 4, 2) := by decide +kernel
theorem dX1_earliest_52 : decode cX1_earliest 52 = .ok (.invokevirtual 159, 3) := by decide +kernel
theorem dX1_earliest_55 : decode cX1_earliest 55 = .ok (.invokevirtual 162, 3) := by decide +kernel
theorem dX1_earliest_58 : decode cX1_earliest 58 = .ok (.istore 8, 2) := by decide +kernel
theorem dX1_earliest_60 : decode cX1_earliest 60 = .ok (.iload 7, 2) := by decide +kernel
theorem dX1_earliest_62 : decode cX1_earliest 62 = .ok (.invokestatic 165, 3) := by decide +kernel
theorem dX1_earliest_65 : decode cX1_earliest 65 = .ok (.ifCond .eq 18, 3) := by decide +kernel
theorem dX1_earliest_68 : decode cX1_earliest 68 = .ok (.aload_n 0, 1) := by decide +kernel
theorem dX1_earliest_69 : decode cX1_earliest 69 = .ok (.getfield 19, 3) := by decide +kernel
theorem dX1_earliest_72 : decode cX1_earliest 72 = .ok (.iload 7, 2) := by decide +kernel
theorem dX1_earliest_74 : decode cX1_earliest 74 = .ok (.iaload, 1) := by decide +kernel
theorem dX1_earliest_75 : decode cX1_earliest 75 = .ok (.iload 8, 2) := by decide +kernel
theorem dX1_earliest_77 : decode cX1_earliest 77 = .ok (.if_icmp .lt 6, 3) := by decide +kernel
theorem dX1_earliest_80 : decode cX1_earliest 80 = .ok (.iload 6, 2) := by decide +kernel
theorem dX1_earliest_82 : decode cX1_earliest 82 = .ok (.ireturn, 1) := by decide +kernel
theorem dX1_earliest_83 : decode cX1_earliest 83 = .ok (.iinc 6 1, 3) := by decide +kernel
theorem dX1_earliest_86 : decode cX1_earliest 86 = .ok (.goto (-59), 3) := by decide +kernel
theorem dX1_earliest_89 : decode cX1_earliest 89 = .ok (.iconst (-1), 1) := by decide +kernel
theorem dX1_earliest_90 : decode cX1_earliest 90 = .ok (.ireturn, 1) := by decide +kernel
set_option maxRecDepth 20000 in
theorem ggX1_panelsOf_X1_existing : GoodIn wsX1_panelsOf wsX1_existing := goodIn_ca (goodIn_r _ [5, 6, 7, 8, 9, 10, 4, 11, 55, 56, 57, 58, 59, 60, 61, 62, 63] (by decide +kernel) (by decide +kernel)) (goodIn_sub (fun _ h => List.mem_cons_of_mem _ (List.mem_append_right _ h)) (by decide +kernel))
set_option maxRecDepth 20000 in
theorem gX1_panelsOf_X1_existing : GoodIn wsX1_panelsOf (wsV RX1 100 RX1 yX1_existing wsX1_existing) := goodIn_app (goodIn_of _ (by decide +kernel)) ggX1_panelsOf_X1_existing
set_option maxRecDepth 20000 in
theorem ggX1_panelsOf_X1_giveOutPanels : GoodIn wsX1_panelsOf wsX1_giveOutPanels := goodIn_r _ [15, 8, 16, 17, 18, 4, 19, 20, 21, 22, 23, 24, 25, 26, 27, 28, 29, 30, 31, 32, 33, 34, 55, 56, 57, 58, 59, 60, 61, 62, 63, 42, 43, 44, 45, 46, 47, 48, 49, 50, 51, 52, 53, 54] (by decide +kernel) (by decide +kernel)
set_option maxRecDepth 20000 in
theorem gX1_panelsOf_X1_giveOutPanels : GoodIn wsX1_panelsOf (wsV RX1 168 RX1 yX1_giveOutPanels wsX1_giveOutPanels) := goodIn_app (goodIn_of _ (by decide +kernel)) ggX1_panelsOf_X1_giveOutPanels
set_option maxRecDepth 20000 in
theorem ggX1_panelsOf_J13_bitCount_95d88 : GoodIn wsX1_panelsOf wsJ13_bitCount_95d88 := goodIn_r _ [38, 39, 40, 41] (by decide +kernel) (by decide +kernel)
set_option maxRecDepth 20000 in
theorem gX1_panelsOf_J13_bitCount_95d88 : GoodIn wsX1_panelsOf (va_wsS RX1 175 yJ13_bitCount_95d88 wsJ13_bitCount_95d88) := goodIn_app (goodIn_of _ (by decide +kernel)) ggX1_panelsOf_J13_bitCount_95d88
theorem dX1_panelsOf_0 : decode cX1_panelsOf 0 = .ok (.aload_n 0, 1) := by decide +kernel
theorem dX1_panelsOf_1 : decode cX1_panelsOf 1 = .ok (.iload_n 1, 1) := by decide +kernel
theorem dX1_panelsOf_2 : decode cX1_panelsOf 2 = .ok (.invokevirtual 100, 3) := by decide +kernel
theorem dX1_panelsOf_5 : decode cX1_panelsOf 5 = .ok (.astore_n 2, 1) := by decide +kernel
theorem dX1_panelsOf_6 : decode cX1_panelsOf 6 = .ok (.aload_n 0, 1) := by decide +kernel
theorem dX1_panelsOf_7 : decode cX1_panelsOf 7 = .ok (.invokevirtual 168, 3) := by decide +kernel
theorem dX1_panelsOf_10 : decode cX1_panelsOf 10 = .ok (.aload_n 2, 1) := by decide +kernel
theorem dX1_panelsOf_11 : decode cX1_panelsOf 11 = .ok (.getfield 171, 3) := by decide +kernel
theorem dX1_panelsOf_14 : decode cX1_panelsOf 14 = .ok (.invokestatic 175, 3) := by decide +kernel
theorem dX1_panelsOf_17 : decode cX1_panelsOf 17 = .ok (.ireturn, 1) := by decide +kernel
set_option maxRecDepth 20000 in
theorem ggX1_pourOf_X1_requireHour : GoodIn wsX1_pourOf wsX1_requireHour := goodIn_ca (goodIn_r _ [8, 1, 2, 9, 10, 7, 11] (by decide +kernel) (by decide +kernel)) (goodIn_sub (fun _ h => List.mem_cons_of_mem _ (List.mem_append_right _ h)) (by decide +kernel))
set_option maxRecDepth 20000 in
theorem gX1_pourOf_X1_requireHour : GoodIn wsX1_pourOf (va_wsS RX1 50 yX1_requireHour wsX1_requireHour) := goodIn_app (goodIn_of _ (by decide +kernel)) ggX1_pourOf_X1_requireHour
set_option maxRecDepth 20000 in
theorem ggX1_pourOf_X1_giveOutPanels : GoodIn wsX1_pourOf wsX1_giveOutPanels := goodIn_r _ [15, 4, 16, 17, 18, 7, 19, 20, 21, 22, 23, 24, 25, 26, 27, 28, 29, 30, 31, 32, 33, 3, 34, 35, 36, 37, 38, 39, 40, 41, 42, 43, 44, 45, 46, 47, 48, 49, 50, 51, 52, 53, 54, 55] (by decide +kernel) (by decide +kernel)
set_option maxRecDepth 20000 in
theorem gX1_pourOf_X1_giveOutPanels : GoodIn wsX1_pourOf (wsV RX1 168 RX1 yX1_giveOutPanels wsX1_giveOutPanels) := goodIn_app (goodIn_of _ (by decide +kernel)) ggX1_pourOf_X1_giveOutPanels
set_option maxRecDepth 20000 in
theorem ggX1_pourOf_X0_isBusy : GoodIn wsX1_pourOf wsX0_isBusy := goodIn_r _ [27, 28, 29, 43, 44, 45, 46, 47, 48, 49, 50, 51, 52, 53, 54, 55] (by decide +kernel) (by decide +kernel)
set_option maxRecDepth 20000 in
theorem gX1_pourOf_X0_isBusy_n184 : GoodIn wsX1_pourOf (wsX0_isBusy) := ggX1_pourOf_X0_isBusy
theorem dX1_pourOf_0 : decode cX1_pourOf 0 = .ok (.iload_n 1, 1) := by decide +kernel
theorem dX1_pourOf_1 : decode cX1_pourOf 1 = .ok (.ifCond .lt 11, 3) := by decide +kernel
theorem dX1_pourOf_4 : decode cX1_pourOf 4 = .ok (.iload_n 1, 1) := by decide +kernel
theorem dX1_pourOf_5 : decode cX1_pourOf 5 = .ok (.aload_n 0, 1) := by decide +kernel
theorem dX1_pourOf_6 : decode cX1_pourOf 6 = .ok (.getfield 28, 3) := by decide +kernel
theorem dX1_pourOf_9 : decode cX1_pourOf 9 = .ok (.if_icmp .lt 11, 3) := by decide +kernel
theorem dX1_pourOf_12 : decode cX1_pourOf 12 = .ok (.new 181, 3) := by decide +kernel
theorem dX1_pourOf_15 : decode cX1_pourOf 15 = .ok (.dup, 1) := by decide +kernel
theorem dX1_pourOf_16 : decode cX1_pourOf 16 = .ok (.invokespecial 183, 3) := by decide +kernel
theorem dX1_pourOf_19 : decode cX1_pourOf 19 = .ok (.athrow, 1) := by decide +kernel
theorem dX1_pourOf_20 : decode cX1_pourOf 20 = .ok (.iload_n 2, 1) := by decide +kernel
theorem dX1_pourOf_21 : decode cX1_pourOf 21 = .ok (.invokestatic 50, 3) := by decide +kernel
theorem dX1_pourOf_24 : decode cX1_pourOf 24 = .ok (.aload_n 0, 1) := by decide +kernel
theorem dX1_pourOf_25 : decode cX1_pourOf 25 = .ok (.invokevirtual 168, 3) := by decide +kernel
theorem dX1_pourOf_28 : decode cX1_pourOf 28 = .ok (.lconst 1, 1) := by decide +kernel
theorem dX1_pourOf_29 : decode cX1_pourOf 29 = .ok (.iload_n 1, 1) := by decide +kernel
theorem dX1_pourOf_30 : decode cX1_pourOf 30 = .ok (.lshl, 1) := by decide +kernel
theorem dX1_pourOf_31 : decode cX1_pourOf 31 = .ok (.lstore_n 3, 1) := by decide +kernel
theorem dX1_pourOf_32 : decode cX1_pourOf 32 = .ok (.iconst 0, 1) := by decide +kernel
theorem dX1_pourOf_33 : decode cX1_pourOf 33 = .ok (.istore 5, 2) := by decide +kernel
theorem dX1_pourOf_35 : decode cX1_pourOf 35 = .ok (.iload 5, 2) := by decide +kernel
theorem dX1_pourOf_37 : decode cX1_pourOf 37 = .ok (.bipush 10, 2) := by decide +kernel
theorem dX1_pourOf_39 : decode cX1_pourOf 39 = .ok (.if_icmp .ge 47, 3) := by decide +kernel
theorem dX1_pourOf_42 : decode cX1_pourOf 42 = .ok (.aload_n 0, 1) := by decide +kernel
theorem dX1_pourOf_43 : decode cX1_pourOf 43 = .ok (.getfield 24, 3) := by decide +kernel
theorem dX1_pourOf_46 : decode cX1_pourOf 46 = .ok (.iload 5, 2) := by decide +kernel
theorem dX1_pourOf_48 : decode cX1_pourOf 48 = .ok (.aaload, 1) := by decide +kernel
theorem dX1_pourOf_49 : decode cX1_pourOf 49 = .ok (.astore 6, 2) := by decide +kernel
theorem dX1_pourOf_51 : decode cX1_pourOf 51 = .ok (.aload 6, 2) := by decide +kernel
theorem dX1_pourOf_53 : decode cX1_pourOf 53 = .ok (.ifnull 27, 3) := by decide +kernel
theorem dX1_pourOf_56 : decode cX1_pourOf 56 = .ok (.aload 6, 2) := by decide +kernel
theorem dX1_pourOf_58 : decode cX1_pourOf 58 = .ok (.getfield 171, 3) := by decide +kernel
theorem dX1_pourOf_61 : decode cX1_pourOf 61 = .ok (.lload_n 3, 1) := by decide +kernel
theorem dX1_pourOf_62 : decode cX1_pourOf 62 = .ok (.land, 1) := by decide +kernel
theorem dX1_pourOf_63 : decode cX1_pourOf 63 = .ok (.lconst 0, 1) := by decide +kernel
theorem dX1_pourOf_64 : decode cX1_pourOf 64 = .ok (.lcmp, 1) := by decide +kernel
theorem dX1_pourOf_65 : decode cX1_pourOf 65 = .ok (.ifCond .eq 15, 3) := by decide +kernel
theorem dX1_pourOf_68 : decode cX1_pourOf 68 = .ok (.aload 6, 2) := by decide +kernel
theorem dX1_pourOf_70 : decode cX1_pourOf 70 = .ok (.iload_n 2, 1) := by decide +kernel
theorem dX1_pourOf_71 : decode cX1_pourOf 71 = .ok (.invokevirtual 184, 3) := by decide +kernel
theorem dX1_pourOf_74 : decode cX1_pourOf 74 = .ok (.ifCond .eq 6, 3) := by decide +kernel
theorem dX1_pourOf_77 : decode cX1_pourOf 77 = .ok (.iload 5, 2) := by decide +kernel
theorem dX1_pourOf_79 : decode cX1_pourOf 79 = .ok (.ireturn, 1) := by decide +kernel
theorem dX1_pourOf_80 : decode cX1_pourOf 80 = .ok (.iinc 5 1, 3) := by decide +kernel
theorem dX1_pourOf_83 : decode cX1_pourOf 83 = .ok (.goto (-48), 3) := by decide +kernel
theorem dX1_pourOf_86 : decode cX1_pourOf 86 = .ok (.iconst (-1), 1) := by decide +kernel
theorem dX1_pourOf_87 : decode cX1_pourOf 87 = .ok (.ireturn, 1) := by decide +kernel
theorem dX1_isHour_0 : decode cX1_isHour 0 = .ok (.iload_n 0, 1) := by decide +kernel
theorem dX1_isHour_1 : decode cX1_isHour 1 = .ok (.ifCond .lt 14, 3) := by decide +kernel
theorem dX1_isHour_4 : decode cX1_isHour 4 = .ok (.iload_n 0, 1) := by decide +kernel
theorem dX1_isHour_5 : decode cX1_isHour 5 = .ok (.sipush 1000, 3) := by decide +kernel
theorem dX1_isHour_8 : decode cX1_isHour 8 = .ok (.if_icmp .ge 7, 3) := by decide +kernel
theorem dX1_isHour_11 : decode cX1_isHour 11 = .ok (.iconst 1, 1) := by decide +kernel
theorem dX1_isHour_12 : decode cX1_isHour 12 = .ok (.goto 4, 3) := by decide +kernel
theorem dX1_isHour_15 : decode cX1_isHour 15 = .ok (.iconst 0, 1) := by decide +kernel
theorem dX1_isHour_16 : decode cX1_isHour 16 = .ok (.ireturn, 1) := by decide +kernel
theorem dX1_isNumber_0 : decode cX1_isNumber 0 = .ok (.iload_n 0, 1) := by decide +kernel
theorem dX1_isNumber_1 : decode cX1_isNumber 1 = .ok (.ifCond .lt 13, 3) := by decide +kernel
theorem dX1_isNumber_4 : decode cX1_isNumber 4 = .ok (.iload_n 0, 1) := by decide +kernel
theorem dX1_isNumber_5 : decode cX1_isNumber 5 = .ok (.bipush 10, 2) := by decide +kernel
theorem dX1_isNumber_7 : decode cX1_isNumber 7 = .ok (.if_icmp .ge 7, 3) := by decide +kernel
theorem dX1_isNumber_10 : decode cX1_isNumber 10 = .ok (.iconst 1, 1) := by decide +kernel
theorem dX1_isNumber_11 : decode cX1_isNumber 11 = .ok (.goto 4, 3) := by decide +kernel
theorem dX1_isNumber_14 : decode cX1_isNumber 14 = .ok (.iconst 0, 1) := by decide +kernel
theorem dX1_isNumber_15 : decode cX1_isNumber 15 = .ok (.ireturn, 1) := by decide +kernel
set_option maxRecDepth 20000 in
theorem ggX1_requireHour_X1_isHour : GoodIn wsX1_requireHour wsX1_isHour := goodIn_r _ [6] (by decide +kernel) (by decide +kernel)
set_option maxRecDepth 20000 in
theorem gX1_requireHour_X1_isHour : GoodIn wsX1_requireHour (va_wsS RX1 165 yX1_isHour wsX1_isHour) := goodIn_app (goodIn_of _ (by decide +kernel)) ggX1_requireHour_X1_isHour
theorem dX1_requireHour_0 : decode cX1_requireHour 0 = .ok (.iload_n 0, 1) := by decide +kernel
theorem dX1_requireHour_1 : decode cX1_requireHour 1 = .ok (.invokestatic 165, 3) := by decide +kernel
theorem dX1_requireHour_4 : decode cX1_requireHour 4 = .ok (.ifCond .ne 11, 3) := by decide +kernel
theorem dX1_requireHour_7 : decode cX1_requireHour 7 = .ok (.new 181, 3) := by decide +kernel
theorem dX1_requireHour_10 : decode cX1_requireHour 10 = .ok (.dup, 1) := by decide +kernel
theorem dX1_requireHour_11 : decode cX1_requireHour 11 = .ok (.invokespecial 183, 3) := by decide +kernel
theorem dX1_requireHour_14 : decode cX1_requireHour 14 = .ok (.athrow, 1) := by decide +kernel
theorem dX1_requireHour_15 : decode cX1_requireHour 15 = .ok (.return_, 1) := by decide +kernel
theorem dX1_require_0 : decode cX1_require 0 = .ok (.iload_n 0, 1) := by decide +kernel
theorem dX1_require_1 : decode cX1_require 1 = .ok (.ifCond .ne 11, 3) := by decide +kernel
theorem dX1_require_4 : decode cX1_require 4 = .ok (.new 187, 3) := by decide +kernel
theorem dX1_require_7 : decode cX1_require 7 = .ok (.dup, 1) := by decide +kernel
theorem dX1_require_8 : decode cX1_require 8 = .ok (.invokespecial 189, 3) := by decide +kernel
theorem dX1_require_11 : decode cX1_require 11 = .ok (.athrow, 1) := by decide +kernel
theorem dX1_require_12 : decode cX1_require 12 = .ok (.return_, 1) := by decide +kernel
set_option maxRecDepth 20000 in
theorem ggX1_requireRange_X1_require : GoodIn wsX1_requireRange wsX1_require := goodIn_ca (goodIn_r _ [4, 5, 6] (by decide +kernel) (by decide +kernel)) (goodIn_sub (fun _ h => List.mem_cons_of_mem _ (List.mem_append_right _ h)) (by decide +kernel))
set_option maxRecDepth 20000 in
theorem gX1_requireRange_X1_require : GoodIn wsX1_requireRange (va_wsS RX1 54 yX1_require wsX1_require) := goodIn_app (goodIn_of _ (by decide +kernel)) ggX1_requireRange_X1_require
theorem dX1_requireRange_0 : decode cX1_requireRange 0 = .ok (.iload_n 0, 1) := by decide +kernel
theorem dX1_requireRange_1 : decode cX1_requireRange 1 = .ok (.iload_n 1, 1) := by decide +kernel
theorem dX1_requireRange_2 : decode cX1_requireRange 2 = .ok (.if_icmp .lt 12, 3) := by decide +kernel
theorem dX1_requireRange_5 : decode cX1_requireRange 5 = .ok (.iload_n 0, 1) := by decide +kernel
theorem dX1_requireRange_6 : decode cX1_requireRange 6 = .ok (.iload_n 2, 1) := by decide +kernel
theorem dX1_requireRange_7 : decode cX1_requireRange 7 = .ok (.if_icmp .gt 7, 3) := by decide +kernel
theorem dX1_requireRange_10 : decode cX1_requireRange 10 = .ok (.iconst 1, 1) := by decide +kernel
theorem dX1_requireRange_11 : decode cX1_requireRange 11 = .ok (.goto 4, 3) := by decide +kernel
theorem dX1_requireRange_14 : decode cX1_requireRange 14 = .ok (.iconst 0, 1) := by decide +kernel
theorem dX1_requireRange_15 : decode cX1_requireRange 15 = .ok (.invokestatic 54, 3) := by decide +kernel
theorem dX1_requireRange_18 : decode cX1_requireRange 18 = .ok (.return_, 1) := by decide +kernel
set_option maxRecDepth 20000 in
theorem ggX1_requirePour_X1_requireRange : GoodIn wsX1_requirePour wsX1_requireRange := goodIn_ca (goodIn_r _ [4, 5, 6, 3, 7, 8, 9] (by decide +kernel) (by decide +kernel)) (goodIn_sub (fun _ h => List.mem_cons_of_mem _ (List.mem_append_right _ h)) (by decide +kernel))
set_option maxRecDepth 20000 in
theorem gX1_requirePour_X1_requireRange : GoodIn wsX1_requirePour (va_wsS RX1 58 yX1_requireRange wsX1_requireRange) := goodIn_app (goodIn_of _ (by decide +kernel)) ggX1_requirePour_X1_requireRange
theorem dX1_requirePour_0 : decode cX1_requirePour 0 = .ok (.iload_n 0, 1) := by decide +kernel
theorem dX1_requirePour_1 : decode cX1_requirePour 1 = .ok (.iconst 0, 1) := by decide +kernel
theorem dX1_requirePour_2 : decode cX1_requirePour 2 = .ok (.sipush 900, 3) := by decide +kernel
theorem dX1_requirePour_5 : decode cX1_requirePour 5 = .ok (.invokestatic 58, 3) := by decide +kernel
theorem dX1_requirePour_8 : decode cX1_requirePour 8 = .ok (.iload_n 1, 1) := by decide +kernel
theorem dX1_requirePour_9 : decode cX1_requirePour 9 = .ok (.iconst 1, 1) := by decide +kernel
theorem dX1_requirePour_10 : decode cX1_requirePour 10 = .ok (.sipush 200, 3) := by decide +kernel
theorem dX1_requirePour_13 : decode cX1_requirePour 13 = .ok (.invokestatic 58, 3) := by decide +kernel
theorem dX1_requirePour_16 : decode cX1_requirePour 16 = .ok (.iload_n 2, 1) := by decide +kernel
theorem dX1_requirePour_17 : decode cX1_requirePour 17 = .ok (.iconst 1, 1) := by decide +kernel
theorem dX1_requirePour_18 : decode cX1_requirePour 18 = .ok (.bipush 30, 2) := by decide +kernel
theorem dX1_requirePour_20 : decode cX1_requirePour 20 = .ok (.invokestatic 58, 3) := by decide +kernel
theorem dX1_requirePour_23 : decode cX1_requirePour 23 = .ok (.iload_n 3, 1) := by decide +kernel
theorem dX1_requirePour_24 : decode cX1_requirePour 24 = .ok (.iconst 1, 1) := by decide +kernel
theorem dX1_requirePour_25 : decode cX1_requirePour 25 = .ok (.bipush 100, 2) := by decide +kernel
theorem dX1_requirePour_27 : decode cX1_requirePour 27 = .ok (.invokestatic 58, 3) := by decide +kernel
theorem dX1_requirePour_30 : decode cX1_requirePour 30 = .ok (.return_, 1) := by decide +kernel
set_option maxRecDepth 20000 in
theorem ggX1_existing_X1_isNumber : GoodIn wsX1_existing wsX1_isNumber := goodIn_r _ [7] (by decide +kernel) (by decide +kernel)
set_option maxRecDepth 20000 in
theorem gX1_existing_X1_isNumber : GoodIn wsX1_existing (va_wsS RX1 87 yX1_isNumber wsX1_isNumber) := goodIn_app (goodIn_of _ (by decide +kernel)) ggX1_existing_X1_isNumber
theorem dX1_existing_0 : decode cX1_existing 0 = .ok (.iload_n 1, 1) := by decide +kernel
theorem dX1_existing_1 : decode cX1_existing 1 = .ok (.invokestatic 87, 3) := by decide +kernel
theorem dX1_existing_4 : decode cX1_existing 4 = .ok (.ifCond .eq 12, 3) := by decide +kernel
theorem dX1_existing_7 : decode cX1_existing 7 = .ok (.aload_n 0, 1) := by decide +kernel
theorem dX1_existing_8 : decode cX1_existing 8 = .ok (.getfield 24, 3) := by decide +kernel
theorem dX1_existing_11 : decode cX1_existing 11 = .ok (.iload_n 1, 1) := by decide +kernel
theorem dX1_existing_12 : decode cX1_existing 12 = .ok (.aaload, 1) := by decide +kernel
theorem dX1_existing_13 : decode cX1_existing 13 = .ok (.goto 4, 3) := by decide +kernel
theorem dX1_existing_16 : decode cX1_existing 16 = .ok (.aconst_null, 1) := by decide +kernel
theorem dX1_existing_17 : decode cX1_existing 17 = .ok (.astore_n 2, 1) := by decide +kernel
theorem dX1_existing_18 : decode cX1_existing 18 = .ok (.aload_n 2, 1) := by decide +kernel
theorem dX1_existing_19 : decode cX1_existing 19 = .ok (.ifnonnull 11, 3) := by decide +kernel
theorem dX1_existing_22 : decode cX1_existing 22 = .ok (.new 190, 3) := by decide +kernel
theorem dX1_existing_25 : decode cX1_existing 25 = .ok (.dup, 1) := by decide +kernel
theorem dX1_existing_26 : decode cX1_existing 26 = .ok (.invokespecial 192, 3) := by decide +kernel
theorem dX1_existing_29 : decode cX1_existing 29 = .ok (.athrow, 1) := by decide +kernel
theorem dX1_existing_30 : decode cX1_existing 30 = .ok (.aload_n 2, 1) := by decide +kernel
theorem dX1_existing_31 : decode cX1_existing 31 = .ok (.areturn, 1) := by decide +kernel
theorem dX1_freeNumber_0 : decode cX1_freeNumber 0 = .ok (.iconst 0, 1) := by decide +kernel
theorem dX1_freeNumber_1 : decode cX1_freeNumber 1 = .ok (.istore_n 1, 1) := by decide +kernel
theorem dX1_freeNumber_2 : decode cX1_freeNumber 2 = .ok (.iload_n 1, 1) := by decide +kernel
theorem dX1_freeNumber_3 : decode cX1_freeNumber 3 = .ok (.bipush 10, 2) := by decide +kernel
theorem dX1_freeNumber_5 : decode cX1_freeNumber 5 = .ok (.if_icmp .ge 20, 3) := by decide +kernel
theorem dX1_freeNumber_8 : decode cX1_freeNumber 8 = .ok (.aload_n 0, 1) := by decide +kernel
theorem dX1_freeNumber_9 : decode cX1_freeNumber 9 = .ok (.getfield 24, 3) := by decide +kernel
theorem dX1_freeNumber_12 : decode cX1_freeNumber 12 = .ok (.iload_n 1, 1) := by decide +kernel
theorem dX1_freeNumber_13 : decode cX1_freeNumber 13 = .ok (.aaload, 1) := by decide +kernel
theorem dX1_freeNumber_14 : decode cX1_freeNumber 14 = .ok (.ifnonnull 5, 3) := by decide +kernel
theorem dX1_freeNumber_17 : decode cX1_freeNumber 17 = .ok (.iload_n 1, 1) := by decide +kernel
theorem dX1_freeNumber_18 : decode cX1_freeNumber 18 = .ok (.ireturn, 1) := by decide +kernel
theorem dX1_freeNumber_19 : decode cX1_freeNumber 19 = .ok (.iinc 1 1, 3) := by decide +kernel
theorem dX1_freeNumber_22 : decode cX1_freeNumber 22 = .ok (.goto (-20), 3) := by decide +kernel
theorem dX1_freeNumber_25 : decode cX1_freeNumber 25 = .ok (.iconst (-1), 1) := by decide +kernel
theorem dX1_freeNumber_26 : decode cX1_freeNumber 26 = .ok (.ireturn, 1) := by decide +kernel
theorem dX1_sumGains_0 : decode cX1_sumGains 0 = .ok (.aload_n 0, 1) := by decide +kernel
theorem dX1_sumGains_1 : decode cX1_sumGains 1 = .ok (.getfield 13, 3) := by decide +kernel
theorem dX1_sumGains_4 : decode cX1_sumGains 4 = .ok (.iconst 0, 1) := by decide +kernel
theorem dX1_sumGains_5 : decode cX1_sumGains 5 = .ok (.iconst 0, 1) := by decide +kernel
theorem dX1_sumGains_6 : decode cX1_sumGains 6 = .ok (.iastore, 1) := by decide +kernel
theorem dX1_sumGains_7 : decode cX1_sumGains 7 = .ok (.iconst 0, 1) := by decide +kernel
theorem dX1_sumGains_8 : decode cX1_sumGains 8 = .ok (.istore_n 1, 1) := by decide +kernel
theorem dX1_sumGains_9 : decode cX1_sumGains 9 = .ok (.iload_n 1, 1) := by decide +kernel
theorem dX1_sumGains_10 : decode cX1_sumGains 10 = .ok (.sipush 1000, 3) := by decide +kernel
theorem dX1_sumGains_13 : decode cX1_sumGains 13 = .ok (.if_icmp .ge 37, 3) := by decide +kernel
theorem dX1_sumGains_16 : decode cX1_sumGains 16 = .ok (.aload_n 0, 1) := by decide +kernel
theorem dX1_sumGains_17 : decode cX1_sumGains 17 = .ok (.getfield 13, 3) := by decide +kernel
theorem dX1_sumGains_20 : decode cX1_sumGains 20 = .ok (.iload_n 1, 1) := by decide +kernel
theorem dX1_sumGains_21 : decode cX1_sumGains 21 = .ok (.iconst 1, 1) := by decide +kernel
theorem dX1_sumGains_22 : decode cX1_sumGains 22 = .ok (.iadd, 1) := by decide +kernel
theorem dX1_sumGains_23 : decode cX1_sumGains 23 = .ok (.aload_n 0, 1) := by decide +kernel
theorem dX1_sumGains_24 : decode cX1_sumGains 24 = .ok (.getfield 13, 3) := by decide +kernel
theorem dX1_sumGains_27 : decode cX1_sumGains 27 = .ok (.iload_n 1, 1) := by decide +kernel
theorem dX1_sumGains_28 : decode cX1_sumGains 28 = .ok (.iaload, 1) := by decide +kernel
theorem dX1_sumGains_29 : decode cX1_sumGains 29 = .ok (.iconst 0, 1) := by decide +kernel
theorem dX1_sumGains_30 : decode cX1_sumGains 30 = .ok (.aload_n 0, 1) := by decide +kernel
theorem dX1_sumGains_31 : decode cX1_sumGains 31 = .ok (.getfield 9, 3) := by decide +kernel
theorem dX1_sumGains_34 : decode cX1_sumGains 34 = .ok (.iload_n 1, 1) := by decide +kernel
theorem dX1_sumGains_35 : decode cX1_sumGains 35 = .ok (.iaload, 1) := by decide +kernel
theorem dX1_sumGains_36 : decode cX1_sumGains 36 = .ok (.bipush 10, 2) := by decide +kernel
theorem dX1_sumGains_38 : decode cX1_sumGains 38 = .ok (.iadd, 1) := by decide +kernel
theorem dX1_sumGains_39 : decode cX1_sumGains 39 = .ok (.invokestatic 144, 3) := by decide +kernel
theorem dX1_sumGains_42 : decode cX1_sumGains 42 = .ok (.iadd, 1) := by decide +kernel
theorem dX1_sumGains_43 : decode cX1_sumGains 43 = .ok (.iastore, 1) := by decide +kernel
theorem dX1_sumGains_44 : decode cX1_sumGains 44 = .ok (.iinc 1 1, 3) := by decide +kernel
theorem dX1_sumGains_47 : decode cX1_sumGains 47 = .ok (.goto (-38), 3) := by decide +kernel
theorem dX1_sumGains_50 : decode cX1_sumGains 50 = .ok (.return_, 1) := by decide +kernel
theorem dX1_gainBetween_0 : decode cX1_gainBetween 0 = .ok (.iload_n 2, 1) := by decide +kernel
theorem dX1_gainBetween_1 : decode cX1_gainBetween 1 = .ok (.sipush 1000, 3) := by decide +kernel
theorem dX1_gainBetween_4 : decode cX1_gainBetween 4 = .ok (.invokestatic 74, 3) := by decide +kernel
theorem dX1_gainBetween_7 : decode cX1_gainBetween 7 = .ok (.istore_n 3, 1) := by decide +kernel
theorem dX1_gainBetween_8 : decode cX1_gainBetween 8 = .ok (.iload_n 1, 1) := by decide +kernel
theorem dX1_gainBetween_9 : decode cX1_gainBetween 9 = .ok (.ifCond .lt 24, 3) := by decide +kernel
theorem dX1_gainBetween_12 : decode cX1_gainBetween 12 = .ok (.iload_n 1, 1) := by decide +kernel
theorem dX1_gainBetween_13 : decode cX1_gainBetween 13 = .ok (.iload_n 3, 1) := by decide +kernel
theorem dX1_gainBetween_14 : decode cX1_gainBetween 14 = .ok (.if_icmp .ge 19, 3) := by decide +kernel
theorem dX1_gainBetween_17 : decode cX1_gainBetween 17 = .ok (.aload_n 0, 1) := by decide +kernel
theorem dX1_gainBetween_18 : decode cX1_gainBetween 18 = .ok (.getfield 13, 3) := by decide +kernel
theorem dX1_gainBetween_21 : decode cX1_gainBetween 21 = .ok (.iload_n 3, 1) := by decide +kernel
theorem dX1_gainBetween_22 : decode cX1_gainBetween 22 = .ok (.iaload, 1) := by decide +kernel
theorem dX1_gainBetween_23 : decode cX1_gainBetween 23 = .ok (.aload_n 0, 1) := by decide +kernel
theorem dX1_gainBetween_24 : decode cX1_gainBetween 24 = .ok (.getfield 13, 3) := by decide +kernel
theorem dX1_gainBetween_27 : decode cX1_gainBetween 27 = .ok (.iload_n 1, 1) := by decide +kernel
theorem dX1_gainBetween_28 : decode cX1_gainBetween 28 = .ok (.iaload, 1) := by decide +kernel
theorem dX1_gainBetween_29 : decode cX1_gainBetween 29 = .ok (.isub, 1) := by decide +kernel
theorem dX1_gainBetween_30 : decode cX1_gainBetween 30 = .ok (.goto 4, 3) := by decide +kernel
theorem dX1_gainBetween_33 : decode cX1_gainBetween 33 = .ok (.iconst 0, 1) := by decide +kernel
theorem dX1_gainBetween_34 : decode cX1_gainBetween 34 = .ok (.ireturn, 1) := by decide +kernel
theorem dX1_strengthAt_0 : decode cX1_strengthAt 0 = .ok (.iconst 1, 1) := by decide +kernel
theorem dX1_strengthAt_1 : decode cX1_strengthAt 1 = .ok (.istore_n 1, 1) := by decide +kernel
theorem dX1_strengthAt_2 : decode cX1_strengthAt 2 = .ok (.iload_n 1, 1) := by decide +kernel
theorem dX1_strengthAt_3 : decode cX1_strengthAt 3 = .ok (.getstatic 193, 3) := by decide +kernel
theorem dX1_strengthAt_6 : decode cX1_strengthAt 6 = .ok (.arraylength, 1) := by decide +kernel
theorem dX1_strengthAt_7 : decode cX1_strengthAt 7 = .ok (.if_icmp .ge 54, 3) := by decide +kernel
theorem dX1_strengthAt_10 : decode cX1_strengthAt 10 = .ok (.getstatic 193, 3) := by decide +kernel
theorem dX1_strengthAt_13 : decode cX1_strengthAt 13 = .ok (.iload_n 1, 1) := by decide +kernel
theorem dX1_strengthAt_14 : decode cX1_strengthAt 14 = .ok (.iconst 1, 1) := by decide +kernel
theorem dX1_strengthAt_15 : decode cX1_strengthAt 15 = .ok (.isub, 1) := by decide +kernel
theorem dX1_strengthAt_16 : decode cX1_strengthAt 16 = .ok (.iaload, 1) := by decide +kernel
theorem dX1_strengthAt_17 : decode cX1_strengthAt 17 = .ok (.istore_n 2, 1) := by decide +kernel
theorem dX1_strengthAt_18 : decode cX1_strengthAt 18 = .ok (.getstatic 193, 3) := by decide +kernel
theorem dX1_strengthAt_21 : decode cX1_strengthAt 21 = .ok (.iload_n 1, 1) := by decide +kernel
theorem dX1_strengthAt_22 : decode cX1_strengthAt 22 = .ok (.iaload, 1) := by decide +kernel
theorem dX1_strengthAt_23 : decode cX1_strengthAt 23 = .ok (.iload_n 2, 1) := by decide +kernel
theorem dX1_strengthAt_24 : decode cX1_strengthAt 24 = .ok (.isub, 1) := by decide +kernel
theorem dX1_strengthAt_25 : decode cX1_strengthAt 25 = .ok (.istore_n 3, 1) := by decide +kernel
theorem dX1_strengthAt_26 : decode cX1_strengthAt 26 = .ok (.iload_n 0, 1) := by decide +kernel
theorem dX1_strengthAt_27 : decode cX1_strengthAt 27 = .ok (.getstatic 193, 3) := by decide +kernel
theorem dX1_strengthAt_30 : decode cX1_strengthAt 30 = .ok (.iload_n 1, 1) := by decide +kernel
theorem dX1_strengthAt_31 : decode cX1_strengthAt 31 = .ok (.iaload, 1) := by decide +kernel
theorem dX1_strengthAt_32 : decode cX1_strengthAt 32 = .ok (.if_icmp .ge 23, 3) := by decide +kernel
theorem dX1_strengthAt_35 : decode cX1_strengthAt 35 = .ok (.iload_n 3, 1) := by decide +kernel
theorem dX1_strengthAt_36 : decode cX1_strengthAt 36 = .ok (.ifCond .le 19, 3) := by decide +kernel
theorem dX1_strengthAt_39 : decode cX1_strengthAt 39 = .ok (.bipush 25, 2) := by decide +kernel
theorem dX1_strengthAt_41 : decode cX1_strengthAt 41 = .ok (.iload_n 1, 1) := by decide +kernel
theorem dX1_strengthAt_42 : decode cX1_strengthAt 42 = .ok (.iconst 1, 1) := by decide +kernel
theorem dX1_strengthAt_43 : decode cX1_strengthAt 43 = .ok (.isub, 1) := by decide +kernel
theorem dX1_strengthAt_44 : decode cX1_strengthAt 44 = .ok (.imul, 1) := by decide +kernel
theorem dX1_strengthAt_45 : decode cX1_strengthAt 45 = .ok (.bipush 25, 2) := by decide +kernel
theorem dX1_strengthAt_47 : decode cX1_strengthAt 47 = .ok (.iload_n 0, 1) := by decide +kernel
theorem dX1_strengthAt_48 : decode cX1_strengthAt 48 = .ok (.iload_n 2, 1) := by decide +kernel
theorem dX1_strengthAt_49 : decode cX1_strengthAt 49 = .ok (.isub, 1) := by decide +kernel
theorem dX1_strengthAt_50 : decode cX1_strengthAt 50 = .ok (.imul, 1) := by decide +kernel
theorem dX1_strengthAt_51 : decode cX1_strengthAt 51 = .ok (.iload_n 3, 1) := by decide +kernel
theorem dX1_strengthAt_52 : decode cX1_strengthAt 52 = .ok (.idiv, 1) := by decide +kernel
theorem dX1_strengthAt_53 : decode cX1_strengthAt 53 = .ok (.iadd, 1) := by decide +kernel
theorem dX1_strengthAt_54 : decode cX1_strengthAt 54 = .ok (.ireturn, 1) := by decide +kernel
theorem dX1_strengthAt_55 : decode cX1_strengthAt 55 = .ok (.iinc 1 1, 3) := by decide +kernel
theorem dX1_strengthAt_58 : decode cX1_strengthAt 58 = .ok (.goto (-56), 3) := by decide +kernel
theorem dX1_strengthAt_61 : decode cX1_strengthAt 61 = .ok (.bipush 100, 2) := by decide +kernel
theorem dX1_strengthAt_63 : decode cX1_strengthAt 63 = .ok (.ireturn, 1) := by decide +kernel
theorem dX1_fullHours_0 : decode cX1_fullHours 0 = .ok (.aload_n 0, 1) := by decide +kernel
theorem dX1_fullHours_1 : decode cX1_fullHours 1 = .ok (.getfield 32, 3) := by decide +kernel
theorem dX1_fullHours_4 : decode cX1_fullHours 4 = .ok (.ifCond .le 12, 3) := by decide +kernel
theorem dX1_fullHours_7 : decode cX1_fullHours 7 = .ok (.iload_n 1, 1) := by decide +kernel
theorem dX1_fullHours_8 : decode cX1_fullHours 8 = .ok (.aload_n 0, 1) := by decide +kernel
theorem dX1_fullHours_9 : decode cX1_fullHours 9 = .ok (.getfield 32, 3) := by decide +kernel
theorem dX1_fullHours_12 : decode cX1_fullHours 12 = .ok (.idiv, 1) := by decide +kernel
theorem dX1_fullHours_13 : decode cX1_fullHours 13 = .ok (.goto 4, 3) := by decide +kernel
theorem dX1_fullHours_16 : decode cX1_fullHours 16 = .ok (.iconst 0, 1) := by decide +kernel
theorem dX1_fullHours_17 : decode cX1_fullHours 17 = .ok (.ireturn, 1) := by decide +kernel
set_option maxRecDepth 20000 in
theorem ggX1_startedHours_X1_fullHours : GoodIn wsX1_startedHours wsX1_fullHours := goodIn_r _ [6, 1, 7, 8, 9, 10, 11, 12, 13, 14, 15] (by decide +kernel) (by decide +kernel)
set_option maxRecDepth 20000 in
theorem gX1_startedHours_X1_fullHours : GoodIn wsX1_startedHours (wsV RX1 126 RX1 yX1_fullHours wsX1_fullHours) := goodIn_app (goodIn_of _ (by decide +kernel)) ggX1_startedHours_X1_fullHours
theorem dX1_startedHours_0 : decode cX1_startedHours 0 = .ok (.aload_n 0, 1) := by decide +kernel
theorem dX1_startedHours_1 : decode cX1_startedHours 1 = .ok (.iload_n 1, 1) := by decide +kernel
theorem dX1_startedHours_2 : decode cX1_startedHours 2 = .ok (.aload_n 0, 1) := by decide +kernel
theorem dX1_startedHours_3 : decode cX1_startedHours 3 = .ok (.getfield 32, 3) := by decide +kernel
theorem dX1_startedHours_6 : decode cX1_startedHours 6 = .ok (.iadd, 1) := by decide +kernel
theorem dX1_startedHours_7 : decode cX1_startedHours 7 = .ok (.iconst 1, 1) := by decide +kernel
theorem dX1_startedHours_8 : decode cX1_startedHours 8 = .ok (.isub, 1) := by decide +kernel
theorem dX1_startedHours_9 : decode cX1_startedHours 9 = .ok (.invokevirtual 126, 3) := by decide +kernel
theorem dX1_startedHours_12 : decode cX1_startedHours 12 = .ok (.ireturn, 1) := by decide +kernel
theorem dX1_standHour_0 : decode cX1_standHour 0 = .ok (.iconst 0, 1) := by decide +kernel
theorem dX1_standHour_1 : decode cX1_standHour 1 = .ok (.iload_n 1, 1) := by decide +kernel
theorem dX1_standHour_2 : decode cX1_standHour 2 = .ok (.aload_n 0, 1) := by decide +kernel
theorem dX1_standHour_3 : decode cX1_standHour 3 = .ok (.getfield 35, 3) := by decide +kernel
theorem dX1_standHour_6 : decode cX1_standHour 6 = .ok (.isub, 1) := by decide +kernel
theorem dX1_standHour_7 : decode cX1_standHour 7 = .ok (.invokestatic 144, 3) := by decide +kernel
theorem dX1_standHour_10 : decode cX1_standHour 10 = .ok (.ireturn, 1) := by decide +kernel
set_option maxRecDepth 20000 in
theorem ggX1_strikeHour_X1_gainBetween : GoodIn wsX1_strikeHour wsX1_gainBetween := goodIn_r _ [5, 6, 7, 8, 9, 10, 15, 16, 17, 18, 19, 20, 21, 22, 23] (by decide +kernel) (by decide +kernel)
set_option maxRecDepth 20000 in
theorem gX1_strikeHour_X1_gainBetween : GoodIn wsX1_strikeHour (wsV RX1 65 RX1 yX1_gainBetween wsX1_gainBetween) := goodIn_app (goodIn_of _ (by decide +kernel)) ggX1_strikeHour_X1_gainBetween
set_option maxRecDepth 20000 in
theorem ggX1_strikeHour_X1_strengthAt : GoodIn wsX1_strikeHour wsX1_strengthAt := goodIn_r _ [13, 14] (by decide +kernel) (by decide +kernel)
set_option maxRecDepth 20000 in
theorem gX1_strikeHour_X1_strengthAt : GoodIn wsX1_strikeHour (va_wsS RX1 70 yX1_strengthAt wsX1_strengthAt) := goodIn_app (goodIn_of _ (by decide +kernel)) ggX1_strikeHour_X1_strengthAt
theorem dX1_strikeHour_0 : decode cX1_strikeHour 0 = .ok (.iload_n 1, 1) := by decide +kernel
theorem dX1_strikeHour_1 : decode cX1_strikeHour 1 = .ok (.iconst 1, 1) := by decide +kernel
theorem dX1_strikeHour_2 : decode cX1_strikeHour 2 = .ok (.isub, 1) := by decide +kernel
theorem dX1_strikeHour_3 : decode cX1_strikeHour 3 = .ok (.istore_n 3, 1) := by decide +kernel
theorem dX1_strikeHour_4 : decode cX1_strikeHour 4 = .ok (.sipush 512, 3) := by decide +kernel
theorem dX1_strikeHour_7 : decode cX1_strikeHour 7 = .ok (.istore 4, 2) := by decide +kernel
theorem dX1_strikeHour_9 : decode cX1_strikeHour 9 = .ok (.iload 4, 2) := by decide +kernel
theorem dX1_strikeHour_11 : decode cX1_strikeHour 11 = .ok (.ifCond .le 43, 3) := by decide +kernel
theorem dX1_strikeHour_14 : decode cX1_strikeHour 14 = .ok (.iload_n 3, 1) := by decide +kernel
theorem dX1_strikeHour_15 : decode cX1_strikeHour 15 = .ok (.iload 4, 2) := by decide +kernel
theorem dX1_strikeHour_17 : decode cX1_strikeHour 17 = .ok (.iadd, 1) := by decide +kernel
theorem dX1_strikeHour_18 : decode cX1_strikeHour 18 = .ok (.istore 5, 2) := by decide +kernel
theorem dX1_strikeHour_20 : decode cX1_strikeHour 20 = .ok (.iload 5, 2) := by decide +kernel
theorem dX1_strikeHour_22 : decode cX1_strikeHour 22 = .ok (.sipush 1000, 3) := by decide +kernel
theorem dX1_strikeHour_25 : decode cX1_strikeHour 25 = .ok (.if_icmp .ge 20, 3) := by decide +kernel
theorem dX1_strikeHour_28 : decode cX1_strikeHour 28 = .ok (.aload_n 0, 1) := by decide +kernel
theorem dX1_strikeHour_29 : decode cX1_strikeHour 29 = .ok (.iload_n 1, 1) := by decide +kernel
theorem dX1_strikeHour_30 : decode cX1_strikeHour 30 = .ok (.iload 5, 2) := by decide +kernel
theorem dX1_strikeHour_32 : decode cX1_strikeHour 32 = .ok (.invokevirtual 65, 3) := by decide +kernel
theorem dX1_strikeHour_35 : decode cX1_strikeHour 35 = .ok (.invokestatic 70, 3) := by decide +kernel
theorem dX1_strikeHour_38 : decode cX1_strikeHour 38 = .ok (.iload_n 2, 1) := by decide +kernel
theorem dX1_strikeHour_39 : decode cX1_strikeHour 39 = .ok (.if_icmp .ge 6, 3) := by decide +kernel
theorem dX1_strikeHour_42 : decode cX1_strikeHour 42 = .ok (.iload 5, 2) := by decide +kernel
theorem dX1_strikeHour_44 : decode cX1_strikeHour 44 = .ok (.istore_n 3, 1) := by decide +kernel
theorem dX1_strikeHour_45 : decode cX1_strikeHour 45 = .ok (.iload 4, 2) := by decide +kernel
theorem dX1_strikeHour_47 : decode cX1_strikeHour 47 = .ok (.iconst 2, 1) := by decide +kernel
theorem dX1_strikeHour_48 : decode cX1_strikeHour 48 = .ok (.idiv, 1) := by decide +kernel
theorem dX1_strikeHour_49 : decode cX1_strikeHour 49 = .ok (.istore 4, 2) := by decide +kernel
theorem dX1_strikeHour_51 : decode cX1_strikeHour 51 = .ok (.goto (-42), 3) := by decide +kernel
theorem dX1_strikeHour_54 : decode cX1_strikeHour 54 = .ok (.iload_n 3, 1) := by decide +kernel
theorem dX1_strikeHour_55 : decode cX1_strikeHour 55 = .ok (.iconst 1, 1) := by decide +kernel
theorem dX1_strikeHour_56 : decode cX1_strikeHour 56 = .ok (.iadd, 1) := by decide +kernel
theorem dX1_strikeHour_57 : decode cX1_strikeHour 57 = .ok (.istore 4, 2) := by decide +kernel
theorem dX1_strikeHour_59 : decode cX1_strikeHour 59 = .ok (.iload 4, 2) := by decide +kernel
theorem dX1_strikeHour_61 : decode cX1_strikeHour 61 = .ok (.sipush 1000, 3) := by decide +kernel
theorem dX1_strikeHour_64 : decode cX1_strikeHour 64 = .ok (.if_icmp .ge 8, 3) := by decide +kernel
theorem dX1_strikeHour_67 : decode cX1_strikeHour 67 = .ok (.iload 4, 2) := by decide +kernel
theorem dX1_strikeHour_69 : decode cX1_strikeHour 69 = .ok (.goto 4, 3) := by decide +kernel
theorem dX1_strikeHour_72 : decode cX1_strikeHour 72 = .ok (.iconst (-1), 1) := by decide +kernel
theorem dX1_strikeHour_73 : decode cX1_strikeHour 73 = .ok (.ireturn, 1) := by decide +kernel
theorem dX1_releaseHour_0 : decode cX1_releaseHour 0 = .ok (.iload_n 1, 1) := by decide +kernel
theorem dX1_releaseHour_1 : decode cX1_releaseHour 1 = .ok (.iconst (-1), 1) := by decide +kernel
theorem dX1_releaseHour_2 : decode cX1_releaseHour 2 = .ok (.if_icmp .ne 9, 3) := by decide +kernel
theorem dX1_releaseHour_5 : decode cX1_releaseHour 5 = .ok (.sipush 1000, 3) := by decide +kernel
theorem dX1_releaseHour_8 : decode cX1_releaseHour 8 = .ok (.goto 15, 3) := by decide +kernel
theorem dX1_releaseHour_11 : decode cX1_releaseHour 11 = .ok (.sipush 1000, 3) := by decide +kernel
theorem dX1_releaseHour_14 : decode cX1_releaseHour 14 = .ok (.iload_n 1, 1) := by decide +kernel
theorem dX1_releaseHour_15 : decode cX1_releaseHour 15 = .ok (.aload_n 0, 1) := by decide +kernel
theorem dX1_releaseHour_16 : decode cX1_releaseHour 16 = .ok (.getfield 38, 3) := by decide +kernel
theorem dX1_releaseHour_19 : decode cX1_releaseHour 19 = .ok (.iadd, 1) := by decide +kernel
theorem dX1_releaseHour_20 : decode cX1_releaseHour 20 = .ok (.invokestatic 74, 3) := by decide +kernel
theorem dX1_releaseHour_23 : decode cX1_releaseHour 23 = .ok (.ireturn, 1) := by decide +kernel
set_option maxRecDepth 20000 in
theorem ggX1_schedule_X1_startedHours : GoodIn wsX1_schedule wsX1_startedHours := goodIn_r _ [5, 6, 7, 8, 9, 4, 10, 60, 61, 62, 63, 64, 65, 66, 67, 68] (by decide +kernel) (by decide +kernel)
set_option maxRecDepth 20000 in
theorem gX1_schedule_X1_startedHours : GoodIn wsX1_schedule (wsV RX1 153 RX1 yX1_startedHours wsX1_startedHours) := goodIn_app (goodIn_of _ (by decide +kernel)) ggX1_schedule_X1_startedHours
set_option maxRecDepth 20000 in
theorem ggX1_schedule_X0_hoursOfBreaks : GoodIn wsX1_schedule wsX0_hoursOfBreaks := goodIn_r _ [14, 15, 16, 47, 48, 49, 50, 51, 52, 53, 54, 55, 56, 57, 58, 59] (by decide +kernel) (by decide +kernel)
set_option maxRecDepth 20000 in
theorem gX1_schedule_X0_hoursOfBreaks_n196 : GoodIn wsX1_schedule (wsX0_hoursOfBreaks) := ggX1_schedule_X0_hoursOfBreaks
set_option maxRecDepth 20000 in
theorem ggX1_schedule_X1_strikeHour : GoodIn wsX1_schedule wsX1_strikeHour := goodIn_r _ [20, 21, 22, 23, 4, 24, 25, 26, 27, 28, 29, 30, 31, 32, 33, 60, 61, 62, 63, 64, 65, 66, 67, 68] (by decide +kernel) (by decide +kernel)
set_option maxRecDepth 20000 in
theorem gX1_schedule_X1_strikeHour : GoodIn wsX1_schedule (wsV RX1 159 RX1 yX1_strikeHour wsX1_strikeHour) := goodIn_app (goodIn_of _ (by decide +kernel)) ggX1_schedule_X1_strikeHour
set_option maxRecDepth 20000 in
theorem ggX1_schedule_X1_standHour : GoodIn wsX1_schedule wsX1_standHour := goodIn_r _ [37, 38, 39, 40, 27, 41, 60, 61, 62, 63, 64, 65, 66, 67, 68] (by decide +kernel) (by decide +kernel)
set_option maxRecDepth 20000 in
theorem gX1_schedule_X1_standHour : GoodIn wsX1_schedule (wsV RX1 156 RX1 yX1_standHour wsX1_standHour) := goodIn_app (goodIn_of _ (by decide +kernel)) ggX1_schedule_X1_standHour
set_option maxRecDepth 20000 in
theorem ggX1_schedule_X1_releaseHour : GoodIn wsX1_schedule wsX1_releaseHour := goodIn_r _ [45, 46, 25, 26, 27, 28, 60, 61, 62, 63, 64, 65, 66, 67, 68] (by decide +kernel) (by decide +kernel)
set_option maxRecDepth 20000 in
theorem gX1_schedule_X1_releaseHour : GoodIn wsX1_schedule (wsV RX1 162 RX1 yX1_releaseHour wsX1_releaseHour) := goodIn_app (goodIn_of _ (by decide +kernel)) ggX1_schedule_X1_releaseHour
theorem dX1_schedule_0 : decode cX1_schedule 0 = .ok (.aload_n 1, 1) := by decide +kernel
theorem dX1_schedule_1 : decode cX1_schedule 1 = .ok (.aload_n 1, 1) := by decide +kernel
theorem dX1_schedule_2 : decode cX1_schedule 2 = .ok (.getfield 104, 3) := by decide +kernel
theorem dX1_schedule_5 : decode cX1_schedule 5 = .ok (.aload_n 0, 1) := by decide +kernel
theorem dX1_schedule_6 : decode cX1_schedule 6 = .ok (.aload_n 1, 1) := by decide +kernel
theorem dX1_schedule_7 : decode cX1_schedule 7 = .ok (.getfield 110, 3) := by decide +kernel
theorem dX1_schedule_10 : decode cX1_schedule 10 = .ok (.invokevirtual 153, 3) := by decide +kernel
theorem dX1_schedule_13 : decode cX1_schedule 13 = .ok (.iadd, 1) := by decide +kernel
theorem dX1_schedule_14 : decode cX1_schedule 14 = .ok (.aload_n 1, 1) := by decide +kernel
theorem dX1_schedule_15 : decode cX1_schedule 15 = .ok (.invokevirtual 196, 3) := by decide +kernel
theorem dX1_schedule_18 : decode cX1_schedule 18 = .ok (.iadd, 1) := by decide +kernel
theorem dX1_schedule_19 : decode cX1_schedule 19 = .ok (.putfield 120, 3) := by decide +kernel
theorem dX1_schedule_22 : decode cX1_schedule 22 = .ok (.aload_n 1, 1) := by decide +kernel
theorem dX1_schedule_23 : decode cX1_schedule 23 = .ok (.aload_n 0, 1) := by decide +kernel
theorem dX1_schedule_24 : decode cX1_schedule 24 = .ok (.aload_n 1, 1) := by decide +kernel
theorem dX1_schedule_25 : decode cX1_schedule 25 = .ok (.getfield 120, 3) := by decide +kernel
theorem dX1_schedule_28 : decode cX1_schedule 28 = .ok (.aload_n 1, 1) := by decide +kernel
theorem dX1_schedule_29 : decode cX1_schedule 29 = .ok (.getfield 199, 3) := by decide +kernel
theorem dX1_schedule_32 : decode cX1_schedule 32 = .ok (.invokevirtual 159, 3) := by decide +kernel
theorem dX1_schedule_35 : decode cX1_schedule 35 = .ok (.putfield 132, 3) := by decide +kernel
theorem dX1_schedule_38 : decode cX1_schedule 38 = .ok (.aload_n 1, 1) := by decide +kernel
theorem dX1_schedule_39 : decode cX1_schedule 39 = .ok (.aload_n 0, 1) := by decide +kernel
theorem dX1_schedule_40 : decode cX1_schedule 40 = .ok (.aload_n 1, 1) := by decide +kernel
theorem dX1_schedule_41 : decode cX1_schedule 41 = .ok (.getfield 104, 3) := by decide +kernel
theorem dX1_schedule_44 : decode cX1_schedule 44 = .ok (.invokevirtual 156, 3) := by decide +kernel
theorem dX1_schedule_47 : decode cX1_schedule 47 = .ok (.putfield 147, 3) := by decide +kernel
theorem dX1_schedule_50 : decode cX1_schedule 50 = .ok (.aload_n 1, 1) := by decide +kernel
theorem dX1_schedule_51 : decode cX1_schedule 51 = .ok (.aload_n 0, 1) := by decide +kernel
theorem dX1_schedule_52 : decode cX1_schedule 52 = .ok (.aload_n 1, 1) := by decide +kernel
theorem dX1_schedule_53 : decode cX1_schedule 53 = .ok (.getfield 132, 3) := by decide +kernel
theorem dX1_schedule_56 : decode cX1_schedule 56 = .ok (.invokevirtual 162, 3) := by decide +kernel
theorem dX1_schedule_59 : decode cX1_schedule 59 = .ok (.putfield 135, 3) := by decide +kernel
theorem dX1_schedule_62 : decode cX1_schedule 62 = .ok (.return_, 1) := by decide +kernel
set_option maxRecDepth 20000 in
theorem ggX1_scheduleAll_X1_schedule : GoodIn wsX1_scheduleAll wsX1_schedule := goodIn_r _ [6, 7, 8, 9, 5, 10, 11, 12, 13, 14, 15, 16, 17, 18, 19, 20, 21, 22, 23, 24, 25, 26, 27, 28, 29, 30, 31, 32, 33, 34, 35, 36, 37, 38, 39, 40, 41, 42, 43, 44, 45, 46, 47, 48, 49, 50, 51, 61, 62, 63, 64, 65, 66, 67, 68, 69, 70, 71, 72, 73, 52, 53, 54, 55, 56, 57, 58, 59, 60] (by decide +kernel) (by decide +kernel)
set_option maxRecDepth 20000 in
theorem gX1_scheduleAll_X1_schedule : GoodIn wsX1_scheduleAll (wsV RX1 96 RX1 yX1_schedule wsX1_schedule) := goodIn_app (goodIn_of _ (by decide +kernel)) ggX1_scheduleAll_X1_schedule
theorem dX1_scheduleAll_0 : decode cX1_scheduleAll 0 = .ok (.aload_n 0, 1) := by decide +kernel
theorem dX1_scheduleAll_1 : decode cX1_scheduleAll 1 = .ok (.getfield 24, 3) := by decide +kernel
theorem dX1_scheduleAll_4 : decode cX1_scheduleAll 4 = .ok (.astore_n 1, 1) := by decide +kernel
theorem dX1_scheduleAll_5 : decode cX1_scheduleAll 5 = .ok (.aload_n 1, 1) := by decide +kernel
theorem dX1_scheduleAll_6 : decode cX1_scheduleAll 6 = .ok (.arraylength, 1) := by decide +kernel
theorem dX1_scheduleAll_7 : decode cX1_scheduleAll 7 = .ok (.istore_n 2, 1) := by decide +kernel
theorem dX1_scheduleAll_8 : decode cX1_scheduleAll 8 = .ok (.iconst 0, 1) := by decide +kernel
theorem dX1_scheduleAll_9 : decode cX1_scheduleAll 9 = .ok (.istore_n 3, 1) := by decide +kernel
theorem dX1_scheduleAll_10 : decode cX1_scheduleAll 10 = .ok (.iload_n 3, 1) := by decide +kernel
theorem dX1_scheduleAll_11 : decode cX1_scheduleAll 11 = .ok (.iload_n 2, 1) := by decide +kernel
theorem dX1_scheduleAll_12 : decode cX1_scheduleAll 12 = .ok (.if_icmp .ge 25, 3) := by decide +kernel
theorem dX1_scheduleAll_15 : decode cX1_scheduleAll 15 = .ok (.aload_n 1, 1) := by decide +kernel
theorem dX1_scheduleAll_16 : decode cX1_scheduleAll 16 = .ok (.iload_n 3, 1) := by decide +kernel
theorem dX1_scheduleAll_17 : decode cX1_scheduleAll 17 = .ok (.aaload, 1) := by decide +kernel
theorem dX1_scheduleAll_18 : decode cX1_scheduleAll 18 = .ok (.astore 4, 2) := by decide +kernel
theorem dX1_scheduleAll_20 : decode cX1_scheduleAll 20 = .ok (.aload 4, 2) := by decide +kernel
theorem dX1_scheduleAll_22 : decode cX1_scheduleAll 22 = .ok (.ifnull 9, 3) := by decide +kernel
theorem dX1_scheduleAll_25 : decode cX1_scheduleAll 25 = .ok (.aload_n 0, 1) := by decide +kernel
theorem dX1_scheduleAll_26 : decode cX1_scheduleAll 26 = .ok (.aload 4, 2) := by decide +kernel
theorem dX1_scheduleAll_28 : decode cX1_scheduleAll 28 = .ok (.invokevirtual 96, 3) := by decide +kernel
theorem dX1_scheduleAll_31 : decode cX1_scheduleAll 31 = .ok (.iinc 3 1, 3) := by decide +kernel
theorem dX1_scheduleAll_34 : decode cX1_scheduleAll 34 = .ok (.goto (-24), 3) := by decide +kernel
theorem dX1_scheduleAll_37 : decode cX1_scheduleAll 37 = .ok (.return_, 1) := by decide +kernel
set_option maxRecDepth 20000 in
theorem ggX1_needIn_X0_isBusy : GoodIn wsX1_needIn wsX0_isBusy := goodIn_r _ [5, 6, 7, 17, 18, 19, 20, 21, 22, 23, 24, 25, 26, 27, 28, 29] (by decide +kernel) (by decide +kernel)
set_option maxRecDepth 20000 in
theorem gX1_needIn_X0_isBusy_n184 : GoodIn wsX1_needIn (wsX0_isBusy) := ggX1_needIn_X0_isBusy
theorem dX1_needIn_0 : decode cX1_needIn 0 = .ok (.iconst 0, 1) := by decide +kernel
theorem dX1_needIn_1 : decode cX1_needIn 1 = .ok (.istore_n 2, 1) := by decide +kernel
theorem dX1_needIn_2 : decode cX1_needIn 2 = .ok (.aload_n 0, 1) := by decide +kernel
theorem dX1_needIn_3 : decode cX1_needIn 3 = .ok (.getfield 24, 3) := by decide +kernel
theorem dX1_needIn_6 : decode cX1_needIn 6 = .ok (.astore_n 3, 1) := by decide +kernel
theorem dX1_needIn_7 : decode cX1_needIn 7 = .ok (.aload_n 3, 1) := by decide +kernel
theorem dX1_needIn_8 : decode cX1_needIn 8 = .ok (.arraylength, 1) := by decide +kernel
theorem dX1_needIn_9 : decode cX1_needIn 9 = .ok (.istore 4, 2) := by decide +kernel
theorem dX1_needIn_11 : decode cX1_needIn 11 = .ok (.iconst 0, 1) := by decide +kernel
theorem dX1_needIn_12 : decode cX1_needIn 12 = .ok (.istore 5, 2) := by decide +kernel
theorem dX1_needIn_14 : decode cX1_needIn 14 = .ok (.iload 5, 2) := by decide +kernel
theorem dX1_needIn_16 : decode cX1_needIn 16 = .ok (.iload 4, 2) := by decide +kernel
theorem dX1_needIn_18 : decode cX1_needIn 18 = .ok (.if_icmp .ge 37, 3) := by decide +kernel
theorem dX1_needIn_21 : decode cX1_needIn 21 = .ok (.aload_n 3, 1) := by decide +kernel
theorem dX1_needIn_22 : decode cX1_needIn 22 = .ok (.iload 5, 2) := by decide +kernel
theorem dX1_needIn_24 : decode cX1_needIn 24 = .ok (.aaload, 1) := by decide +kernel
theorem dX1_needIn_25 : decode cX1_needIn 25 = .ok (.astore 6, 2) := by decide +kernel
theorem dX1_needIn_27 : decode cX1_needIn 27 = .ok (.aload 6, 2) := by decide +kernel
theorem dX1_needIn_29 : decode cX1_needIn 29 = .ok (.ifnull 20, 3) := by decide +kernel
theorem dX1_needIn_32 : decode cX1_needIn 32 = .ok (.aload 6, 2) := by decide +kernel
theorem dX1_needIn_34 : decode cX1_needIn 34 = .ok (.iload_n 1, 1) := by decide +kernel
theorem dX1_needIn_35 : decode cX1_needIn 35 = .ok (.invokevirtual 184, 3) := by decide +kernel
theorem dX1_needIn_38 : decode cX1_needIn 38 = .ok (.ifCond .eq 11, 3) := by decide +kernel
theorem dX1_needIn_41 : decode cX1_needIn 41 = .ok (.iload_n 2, 1) := by decide +kernel
theorem dX1_needIn_42 : decode cX1_needIn 42 = .ok (.aload 6, 2) := by decide +kernel
theorem dX1_needIn_44 : decode cX1_needIn 44 = .ok (.getfield 107, 3) := by decide +kernel
theorem dX1_needIn_47 : decode cX1_needIn 47 = .ok (.iadd, 1) := by decide +kernel
theorem dX1_needIn_48 : decode cX1_needIn 48 = .ok (.istore_n 2, 1) := by decide +kernel
theorem dX1_needIn_49 : decode cX1_needIn 49 = .ok (.iinc 5 1, 3) := by decide +kernel
theorem dX1_needIn_52 : decode cX1_needIn 52 = .ok (.goto (-38), 3) := by decide +kernel
theorem dX1_needIn_55 : decode cX1_needIn 55 = .ok (.iload_n 2, 1) := by decide +kernel
theorem dX1_needIn_56 : decode cX1_needIn 56 = .ok (.ireturn, 1) := by decide +kernel
set_option maxRecDepth 20000 in
theorem ggX1_sumNeeds_X1_needIn : GoodIn wsX1_sumNeeds wsX1_needIn := goodIn_r _ [6, 7, 8, 9, 10, 11, 12, 13, 14, 15, 16, 17, 18, 19, 20, 21, 22, 23, 24, 25, 26, 27, 28, 29, 30, 31, 32, 33, 34, 35] (by decide +kernel) (by decide +kernel)
set_option maxRecDepth 20000 in
theorem gX1_sumNeeds_X1_needIn : GoodIn wsX1_sumNeeds (wsV RX1 138 RX1 yX1_needIn wsX1_needIn) := goodIn_app (goodIn_of _ (by decide +kernel)) ggX1_sumNeeds_X1_needIn
theorem dX1_sumNeeds_0 : decode cX1_sumNeeds 0 = .ok (.iconst 0, 1) := by decide +kernel
theorem dX1_sumNeeds_1 : decode cX1_sumNeeds 1 = .ok (.istore_n 1, 1) := by decide +kernel
theorem dX1_sumNeeds_2 : decode cX1_sumNeeds 2 = .ok (.iload_n 1, 1) := by decide +kernel
theorem dX1_sumNeeds_3 : decode cX1_sumNeeds 3 = .ok (.sipush 1000, 3) := by decide +kernel
theorem dX1_sumNeeds_6 : decode cX1_sumNeeds 6 = .ok (.if_icmp .ge 20, 3) := by decide +kernel
theorem dX1_sumNeeds_9 : decode cX1_sumNeeds 9 = .ok (.aload_n 0, 1) := by decide +kernel
theorem dX1_sumNeeds_10 : decode cX1_sumNeeds 10 = .ok (.getfield 16, 3) := by decide +kernel
theorem dX1_sumNeeds_13 : decode cX1_sumNeeds 13 = .ok (.iload_n 1, 1) := by decide +kernel
theorem dX1_sumNeeds_14 : decode cX1_sumNeeds 14 = .ok (.aload_n 0, 1) := by decide +kernel
theorem dX1_sumNeeds_15 : decode cX1_sumNeeds 15 = .ok (.iload_n 1, 1) := by decide +kernel
theorem dX1_sumNeeds_16 : decode cX1_sumNeeds 16 = .ok (.invokevirtual 138, 3) := by decide +kernel
theorem dX1_sumNeeds_19 : decode cX1_sumNeeds 19 = .ok (.iastore, 1) := by decide +kernel
theorem dX1_sumNeeds_20 : decode cX1_sumNeeds 20 = .ok (.iinc 1 1, 3) := by decide +kernel
theorem dX1_sumNeeds_23 : decode cX1_sumNeeds 23 = .ok (.goto (-21), 3) := by decide +kernel
theorem dX1_sumNeeds_26 : decode cX1_sumNeeds 26 = .ok (.return_, 1) := by decide +kernel
theorem dX1_markFullHours_0 : decode cX1_markFullHours 0 = .ok (.aload_n 0, 1) := by decide +kernel
theorem dX1_markFullHours_1 : decode cX1_markFullHours 1 = .ok (.getfield 19, 3) := by decide +kernel
theorem dX1_markFullHours_4 : decode cX1_markFullHours 4 = .ok (.sipush 1000, 3) := by decide +kernel
theorem dX1_markFullHours_7 : decode cX1_markFullHours 7 = .ok (.sipush 1000, 3) := by decide +kernel
theorem dX1_markFullHours_10 : decode cX1_markFullHours 10 = .ok (.iastore, 1) := by decide +kernel
theorem dX1_markFullHours_11 : decode cX1_markFullHours 11 = .ok (.sipush 999, 3) := by decide +kernel
theorem dX1_markFullHours_14 : decode cX1_markFullHours 14 = .ok (.istore_n 2, 1) := by decide +kernel
theorem dX1_markFullHours_15 : decode cX1_markFullHours 15 = .ok (.iload_n 2, 1) := by decide +kernel
theorem dX1_markFullHours_16 : decode cX1_markFullHours 16 = .ok (.ifCond .lt 52, 3) := by decide +kernel
theorem dX1_markFullHours_19 : decode cX1_markFullHours 19 = .ok (.aload_n 0, 1) := by decide +kernel
theorem dX1_markFullHours_20 : decode cX1_markFullHours 20 = .ok (.getfield 16, 3) := by decide +kernel
theorem dX1_markFullHours_23 : decode cX1_markFullHours 23 = .ok (.iload_n 2, 1) := by decide +kernel
theorem dX1_markFullHours_24 : decode cX1_markFullHours 24 = .ok (.iaload, 1) := by decide +kernel
theorem dX1_markFullHours_25 : decode cX1_markFullHours 25 = .ok (.iload_n 1, 1) := by decide +kernel
theorem dX1_markFullHours_26 : decode cX1_markFullHours 26 = .ok (.iadd, 1) := by decide +kernel
theorem dX1_markFullHours_27 : decode cX1_markFullHours 27 = .ok (.aload_n 0, 1) := by decide +kernel
theorem dX1_markFullHours_28 : decode cX1_markFullHours 28 = .ok (.getfield 28, 3) := by decide +kernel
theorem dX1_markFullHours_31 : decode cX1_markFullHours 31 = .ok (.if_icmp .le 7, 3) := by decide +kernel
theorem dX1_markFullHours_34 : decode cX1_markFullHours 34 = .ok (.iconst 1, 1) := by decide +kernel
theorem dX1_markFullHours_35 : decode cX1_markFullHours 35 = .ok (.goto 4, 3) := by decide +kernel
theorem dX1_markFullHours_38 : decode cX1_markFullHours 38 = .ok (.iconst 0, 1) := by decide +kernel
theorem dX1_markFullHours_39 : decode cX1_markFullHours 39 = .ok (.istore_n 3, 1) := by decide +kernel
theorem dX1_markFullHours_40 : decode cX1_markFullHours 40 = .ok (.aload_n 0, 1) := by decide +kernel
theorem dX1_markFullHours_41 : decode cX1_markFullHours 41 = .ok (.getfield 19, 3) := by decide +kernel
theorem dX1_markFullHours_44 : decode cX1_markFullHours 44 = .ok (.iload_n 2, 1) := by decide +kernel
theorem dX1_markFullHours_45 : decode cX1_markFullHours 45 = .ok (.iload_n 3, 1) := by decide +kernel
theorem dX1_markFullHours_46 : decode cX1_markFullHours 46 = .ok (.ifCond .eq 7, 3) := by decide +kernel
theorem dX1_markFullHours_49 : decode cX1_markFullHours 49 = .ok (.iload_n 2, 1) := by decide +kernel
theorem dX1_markFullHours_50 : decode cX1_markFullHours 50 = .ok (.goto 11, 3) := by decide +kernel
theorem dX1_markFullHours_53 : decode cX1_markFullHours 53 = .ok (.aload_n 0, 1) := by decide +kernel
theorem dX1_markFullHours_54 : decode cX1_markFullHours 54 = .ok (.getfield 19, 3) := by decide +kernel
theorem dX1_markFullHours_57 : decode cX1_markFullHours 57 = .ok (.iload_n 2, 1) := by decide +kernel
theorem dX1_markFullHours_58 : decode cX1_markFullHours 58 = .ok (.iconst 1, 1) := by decide +kernel
theorem dX1_markFullHours_59 : decode cX1_markFullHours 59 = .ok (.iadd, 1) := by decide +kernel
theorem dX1_markFullHours_60 : decode cX1_markFullHours 60 = .ok (.iaload, 1) := by decide +kernel
theorem dX1_markFullHours_61 : decode cX1_markFullHours 61 = .ok (.iastore, 1) := by decide +kernel
theorem dX1_markFullHours_62 : decode cX1_markFullHours 62 = .ok (.iinc 2 (-1), 3) := by decide +kernel
theorem dX1_markFullHours_65 : decode cX1_markFullHours 65 = .ok (.goto (-50), 3) := by decide +kernel
theorem dX1_markFullHours_68 : decode cX1_markFullHours 68 = .ok (.return_, 1) := by decide +kernel
set_option maxRecDepth 20000 in
theorem ggX1_giveOutPanels_X1_nextToServe : GoodIn wsX1_giveOutPanels wsX1_nextToServe := goodIn_r _ [6, 1, 22, 23, 24, 25, 26, 27, 28, 29, 30, 31, 32, 33, 34, 35, 36, 37, 38, 39, 40, 41, 42, 43] (by decide +kernel) (by decide +kernel)
set_option maxRecDepth 20000 in
theorem gX1_giveOutPanels_X1_nextToServe : GoodIn wsX1_giveOutPanels (wsV RX1 206 RX1 yX1_nextToServe wsX1_nextToServe) := goodIn_app (goodIn_of _ (by decide +kernel)) ggX1_giveOutPanels_X1_nextToServe
set_option maxRecDepth 20000 in
theorem ggX1_giveOutPanels_X1_panelsBusyIn : GoodIn wsX1_giveOutPanels wsX1_panelsBusyIn := goodIn_r _ [10, 1, 11, 12, 13, 14, 15, 16, 22, 23, 24, 25, 26, 27, 28, 29, 30, 31, 32, 33, 34, 35, 36, 37, 38, 39, 40, 41, 42, 43] (by decide +kernel) (by decide +kernel)
set_option maxRecDepth 20000 in
theorem gX1_giveOutPanels_X1_panelsBusyIn : GoodIn wsX1_giveOutPanels (wsV RX1 210 RX1 yX1_panelsBusyIn wsX1_panelsBusyIn) := goodIn_app (goodIn_of _ (by decide +kernel)) ggX1_giveOutPanels_X1_panelsBusyIn
set_option maxRecDepth 20000 in
theorem ggX1_giveOutPanels_X1_lowestPanels : GoodIn wsX1_giveOutPanels wsX1_lowestPanels := goodIn_r _ [20, 21, 22, 23, 24, 25, 26, 27, 28, 29, 30] (by decide +kernel) (by decide +kernel)
set_option maxRecDepth 20000 in
theorem gX1_giveOutPanels_X1_lowestPanels : GoodIn wsX1_giveOutPanels (wsV RX1 214 RX1 yX1_lowestPanels wsX1_lowestPanels) := goodIn_app (goodIn_of _ (by decide +kernel)) ggX1_giveOutPanels_X1_lowestPanels
theorem dX1_giveOutPanels_0 : decode cX1_giveOutPanels 0 = .ok (.aload_n 0, 1) := by decide +kernel
theorem dX1_giveOutPanels_1 : decode cX1_giveOutPanels 1 = .ok (.getfield 24, 3) := by decide +kernel
theorem dX1_giveOutPanels_4 : decode cX1_giveOutPanels 4 = .ok (.astore_n 1, 1) := by decide +kernel
theorem dX1_giveOutPanels_5 : decode cX1_giveOutPanels 5 = .ok (.aload_n 1, 1) := by decide +kernel
theorem dX1_giveOutPanels_6 : decode cX1_giveOutPanels 6 = .ok (.arraylength, 1) := by decide +kernel
theorem dX1_giveOutPanels_7 : decode cX1_giveOutPanels 7 = .ok (.istore_n 2, 1) := by decide +kernel
theorem dX1_giveOutPanels_8 : decode cX1_giveOutPanels 8 = .ok (.iconst 0, 1) := by decide +kernel
theorem dX1_giveOutPanels_9 : decode cX1_giveOutPanels 9 = .ok (.istore_n 3, 1) := by decide +kernel
theorem dX1_giveOutPanels_10 : decode cX1_giveOutPanels 10 = .ok (.iload_n 3, 1) := by decide +kernel
theorem dX1_giveOutPanels_11 : decode cX1_giveOutPanels 11 = .ok (.iload_n 2, 1) := by decide +kernel
theorem dX1_giveOutPanels_12 : decode cX1_giveOutPanels 12 = .ok (.if_icmp .ge 31, 3) := by decide +kernel
theorem dX1_giveOutPanels_15 : decode cX1_giveOutPanels 15 = .ok (.aload_n 1, 1) := by decide +kernel
theorem dX1_giveOutPanels_16 : decode cX1_giveOutPanels 16 = .ok (.iload_n 3, 1) := by decide +kernel
theorem dX1_giveOutPanels_17 : decode cX1_giveOutPanels 17 = .ok (.aaload, 1) := by decide +kernel
theorem dX1_giveOutPanels_18 : decode cX1_giveOutPanels 18 = .ok (.astore 4, 2) := by decide +kernel
theorem dX1_giveOutPanels_20 : decode cX1_giveOutPanels 20 = .ok (.aload 4, 2) := by decide +kernel
theorem dX1_giveOutPanels_22 : decode cX1_giveOutPanels 22 = .ok (.ifnull 15, 3) := by decide +kernel
theorem dX1_giveOutPanels_25 : decode cX1_giveOutPanels 25 = .ok (.aload 4, 2) := by decide +kernel
theorem dX1_giveOutPanels_27 : decode cX1_giveOutPanels 27 = .ok (.lconst 0, 1) := by decide +kernel
theorem dX1_giveOutPanels_28 : decode cX1_giveOutPanels 28 = .ok (.putfield 171, 3) := by decide +kernel
theorem dX1_giveOutPanels_31 : decode cX1_giveOutPanels 31 = .ok (.aload 4, 2) := by decide +kernel
theorem dX1_giveOutPanels_33 : decode cX1_giveOutPanels 33 = .ok (.iconst 0, 1) := by decide +kernel
theorem dX1_giveOutPanels_34 : decode cX1_giveOutPanels 34 = .ok (.putfield 202, 3) := by decide +kernel
theorem dX1_giveOutPanels_37 : decode cX1_giveOutPanels 37 = .ok (.iinc 3 1, 3) := by decide +kernel
theorem dX1_giveOutPanels_40 : decode cX1_giveOutPanels 40 = .ok (.goto (-30), 3) := by decide +kernel
theorem dX1_giveOutPanels_43 : decode cX1_giveOutPanels 43 = .ok (.iconst 0, 1) := by decide +kernel
theorem dX1_giveOutPanels_44 : decode cX1_giveOutPanels 44 = .ok (.istore_n 1, 1) := by decide +kernel
theorem dX1_giveOutPanels_45 : decode cX1_giveOutPanels 45 = .ok (.iload_n 1, 1) := by decide +kernel
theorem dX1_giveOutPanels_46 : decode cX1_giveOutPanels 46 = .ok (.bipush 10, 2) := by decide +kernel
theorem dX1_giveOutPanels_48 : decode cX1_giveOutPanels 48 = .ok (.if_icmp .ge 44, 3) := by decide +kernel
theorem dX1_giveOutPanels_51 : decode cX1_giveOutPanels 51 = .ok (.aload_n 0, 1) := by decide +kernel
theorem dX1_giveOutPanels_52 : decode cX1_giveOutPanels 52 = .ok (.invokevirtual 206, 3) := by decide +kernel
theorem dX1_giveOutPanels_55 : decode cX1_giveOutPanels 55 = .ok (.astore_n 2, 1) := by decide +kernel
theorem dX1_giveOutPanels_56 : decode cX1_giveOutPanels 56 = .ok (.aload_n 2, 1) := by decide +kernel
theorem dX1_giveOutPanels_57 : decode cX1_giveOutPanels 57 = .ok (.ifnonnull 4, 3) := by decide +kernel
theorem dX1_giveOutPanels_60 : decode cX1_giveOutPanels 60 = .ok (.return_, 1) := by decide +kernel
theorem dX1_giveOutPanels_61 : decode cX1_giveOutPanels 61 = .ok (.aload_n 2, 1) := by decide +kernel
theorem dX1_giveOutPanels_62 : decode cX1_giveOutPanels 62 = .ok (.aload_n 0, 1) := by decide +kernel
theorem dX1_giveOutPanels_63 : decode cX1_giveOutPanels 63 = .ok (.aload_n 0, 1) := by decide +kernel
theorem dX1_giveOutPanels_64 : decode cX1_giveOutPanels 64 = .ok (.aload_n 2, 1) := by decide +kernel
theorem dX1_giveOutPanels_65 : decode cX1_giveOutPanels 65 = .ok (.getfield 147, 3) := by decide +kernel
theorem dX1_giveOutPanels_68 : decode cX1_giveOutPanels 68 = .ok (.invokevirtual 210, 3) := by decide +kernel
theorem dX1_giveOutPanels_71 : decode cX1_giveOutPanels 71 = .ok (.aload_n 2, 1) := by decide +kernel
theorem dX1_giveOutPanels_72 : decode cX1_giveOutPanels 72 = .ok (.getfield 107, 3) := by decide +kernel
theorem dX1_giveOutPanels_75 : decode cX1_giveOutPanels 75 = .ok (.invokevirtual 214, 3) := by decide +kernel
theorem dX1_giveOutPanels_78 : decode cX1_giveOutPanels 78 = .ok (.putfield 171, 3) := by decide +kernel
theorem dX1_giveOutPanels_81 : decode cX1_giveOutPanels 81 = .ok (.aload_n 2, 1) := by decide +kernel
theorem dX1_giveOutPanels_82 : decode cX1_giveOutPanels 82 = .ok (.iconst 1, 1) := by decide +kernel
theorem dX1_giveOutPanels_83 : decode cX1_giveOutPanels 83 = .ok (.putfield 202, 3) := by decide +kernel
theorem dX1_giveOutPanels_86 : decode cX1_giveOutPanels 86 = .ok (.iinc 1 1, 3) := by decide +kernel
theorem dX1_giveOutPanels_89 : decode cX1_giveOutPanels 89 = .ok (.goto (-44), 3) := by decide +kernel
theorem dX1_giveOutPanels_92 : decode cX1_giveOutPanels 92 = .ok (.return_, 1) := by decide +kernel
theorem dX1_nextToServe_0 : decode cX1_nextToServe 0 = .ok (.aconst_null, 1) := by decide +kernel
theorem dX1_nextToServe_1 : decode cX1_nextToServe 1 = .ok (.astore_n 1, 1) := by decide +kernel
theorem dX1_nextToServe_2 : decode cX1_nextToServe 2 = .ok (.aload_n 0, 1) := by decide +kernel
theorem dX1_nextToServe_3 : decode cX1_nextToServe 3 = .ok (.getfield 24, 3) := by decide +kernel
theorem dX1_nextToServe_6 : decode cX1_nextToServe 6 = .ok (.astore_n 2, 1) := by decide +kernel
theorem dX1_nextToServe_7 : decode cX1_nextToServe 7 = .ok (.aload_n 2, 1) := by decide +kernel
theorem dX1_nextToServe_8 : decode cX1_nextToServe 8 = .ok (.arraylength, 1) := by decide +kernel
theorem dX1_nextToServe_9 : decode cX1_nextToServe 9 = .ok (.istore_n 3, 1) := by decide +kernel
theorem dX1_nextToServe_10 : decode cX1_nextToServe 10 = .ok (.iconst 0, 1) := by decide +kernel
theorem dX1_nextToServe_11 : decode cX1_nextToServe 11 = .ok (.istore 4, 2) := by decide +kernel
theorem dX1_nextToServe_13 : decode cX1_nextToServe 13 = .ok (.iload 4, 2) := by decide +kernel
theorem dX1_nextToServe_15 : decode cX1_nextToServe 15 = .ok (.iload_n 3, 1) := by decide +kernel
theorem dX1_nextToServe_16 : decode cX1_nextToServe 16 = .ok (.if_icmp .ge 47, 3) := by decide +kernel
theorem dX1_nextToServe_19 : decode cX1_nextToServe 19 = .ok (.aload_n 2, 1) := by decide +kernel
theorem dX1_nextToServe_20 : decode cX1_nextToServe 20 = .ok (.iload 4, 2) := by decide +kernel
theorem dX1_nextToServe_22 : decode cX1_nextToServe 22 = .ok (.aaload, 1) := by decide +kernel
theorem dX1_nextToServe_23 : decode cX1_nextToServe 23 = .ok (.astore 5, 2) := by decide +kernel
theorem dX1_nextToServe_25 : decode cX1_nextToServe 25 = .ok (.aload 5, 2) := by decide +kernel
theorem dX1_nextToServe_27 : decode cX1_nextToServe 27 = .ok (.ifnull 30, 3) := by decide +kernel
theorem dX1_nextToServe_30 : decode cX1_nextToServe 30 = .ok (.aload 5, 2) := by decide +kernel
theorem dX1_nextToServe_32 : decode cX1_nextToServe 32 = .ok (.getfield 202, 3) := by decide +kernel
theorem dX1_nextToServe_35 : decode cX1_nextToServe 35 = .ok (.ifCond .ne 22, 3) := by decide +kernel
theorem dX1_nextToServe_38 : decode cX1_nextToServe 38 = .ok (.aload_n 1, 1) := by decide +kernel
theorem dX1_nextToServe_39 : decode cX1_nextToServe 39 = .ok (.ifnull 15, 3) := by decide +kernel
theorem dX1_nextToServe_42 : decode cX1_nextToServe 42 = .ok (.aload 5, 2) := by decide +kernel
theorem dX1_nextToServe_44 : decode cX1_nextToServe 44 = .ok (.getfield 147, 3) := by decide +kernel
theorem dX1_nextToServe_47 : decode cX1_nextToServe 47 = .ok (.aload_n 1, 1) := by decide +kernel
theorem dX1_nextToServe_48 : decode cX1_nextToServe 48 = .ok (.getfield 147, 3) := by decide +kernel
theorem dX1_nextToServe_51 : decode cX1_nextToServe 51 = .ok (.if_icmp .ge 6, 3) := by decide +kernel
theorem dX1_nextToServe_54 : decode cX1_nextToServe 54 = .ok (.aload 5, 2) := by decide +kernel
theorem dX1_nextToServe_56 : decode cX1_nextToServe 56 = .ok (.astore_n 1, 1) := by decide +kernel
theorem dX1_nextToServe_57 : decode cX1_nextToServe 57 = .ok (.iinc 4 1, 3) := by decide +kernel
theorem dX1_nextToServe_60 : decode cX1_nextToServe 60 = .ok (.goto (-47), 3) := by decide +kernel
theorem dX1_nextToServe_63 : decode cX1_nextToServe 63 = .ok (.aload_n 1, 1) := by decide +kernel
theorem dX1_nextToServe_64 : decode cX1_nextToServe 64 = .ok (.areturn, 1) := by decide +kernel
set_option maxRecDepth 20000 in
theorem ggX1_panelsBusyIn_X0_isBusy : GoodIn wsX1_panelsBusyIn wsX0_isBusy := goodIn_r _ [5, 6, 7, 17, 18, 19, 20, 21, 22, 23, 24, 25, 26, 27, 28, 29] (by decide +kernel) (by decide +kernel)
set_option maxRecDepth 20000 in
theorem gX1_panelsBusyIn_X0_isBusy_n184 : GoodIn wsX1_panelsBusyIn (wsX0_isBusy) := ggX1_panelsBusyIn_X0_isBusy
theorem dX1_panelsBusyIn_0 : decode cX1_panelsBusyIn 0 = .ok (.lconst 0, 1) := by decide +kernel
theorem dX1_panelsBusyIn_1 : decode cX1_panelsBusyIn 1 = .ok (.lstore_n 2, 1) := by decide +kernel
theorem dX1_panelsBusyIn_2 : decode cX1_panelsBusyIn 2 = .ok (.aload_n 0, 1) := by decide +kernel
theorem dX1_panelsBusyIn_3 : decode cX1_panelsBusyIn 3 = .ok (.getfield 24, 3) := by decide +kernel
theorem dX1_panelsBusyIn_6 : decode cX1_panelsBusyIn 6 = .ok (.astore 4, 2) := by decide +kernel
theorem dX1_panelsBusyIn_8 : decode cX1_panelsBusyIn 8 = .ok (.aload 4, 2) := by decide +kernel
theorem dX1_panelsBusyIn_10 : decode cX1_panelsBusyIn 10 = .ok (.arraylength, 1) := by decide +kernel
theorem dX1_panelsBusyIn_11 : decode cX1_panelsBusyIn 11 = .ok (.istore 5, 2) := by decide +kernel
theorem dX1_panelsBusyIn_13 : decode cX1_panelsBusyIn 13 = .ok (.iconst 0, 1) := by decide +kernel
theorem dX1_panelsBusyIn_14 : decode cX1_panelsBusyIn 14 = .ok (.istore 6, 2) := by decide +kernel
theorem dX1_panelsBusyIn_16 : decode cX1_panelsBusyIn 16 = .ok (.iload 6, 2) := by decide +kernel
theorem dX1_panelsBusyIn_18 : decode cX1_panelsBusyIn 18 = .ok (.iload 5, 2) := by decide +kernel
theorem dX1_panelsBusyIn_20 : decode cX1_panelsBusyIn 20 = .ok (.if_icmp .ge 38, 3) := by decide +kernel
theorem dX1_panelsBusyIn_23 : decode cX1_panelsBusyIn 23 = .ok (.aload 4, 2) := by decide +kernel
theorem dX1_panelsBusyIn_25 : decode cX1_panelsBusyIn 25 = .ok (.iload 6, 2) := by decide +kernel
theorem dX1_panelsBusyIn_27 : decode cX1_panelsBusyIn 27 = .ok (.aaload, 1) := by decide +kernel
theorem dX1_panelsBusyIn_28 : decode cX1_panelsBusyIn 28 = .ok (.astore 7, 2) := by decide +kernel
theorem dX1_panelsBusyIn_30 : decode cX1_panelsBusyIn 30 = .ok (.aload 7, 2) := by decide +kernel
theorem dX1_panelsBusyIn_32 : decode cX1_panelsBusyIn 32 = .ok (.ifnull 20, 3) := by decide +kernel
theorem dX1_panelsBusyIn_35 : decode cX1_panelsBusyIn 35 = .ok (.aload 7, 2) := by decide +kernel
theorem dX1_panelsBusyIn_37 : decode cX1_panelsBusyIn 37 = .ok (.iload_n 1, 1) := by decide +kernel
theorem dX1_panelsBusyIn_38 : decode cX1_panelsBusyIn 38 = .ok (.invokevirtual 184, 3) := by decide +kernel
theorem dX1_panelsBusyIn_41 : decode cX1_panelsBusyIn 41 = .ok (.ifCond .eq 11, 3) := by decide +kernel
theorem dX1_panelsBusyIn_44 : decode cX1_panelsBusyIn 44 = .ok (.lload_n 2, 1) := by decide +kernel
theorem dX1_panelsBusyIn_45 : decode cX1_panelsBusyIn 45 = .ok (.aload 7, 2) := by decide +kernel
theorem dX1_panelsBusyIn_47 : decode cX1_panelsBusyIn 47 = .ok (.getfield 171, 3) := by decide +kernel
theorem dX1_panelsBusyIn_50 : decode cX1_panelsBusyIn 50 = .ok (.lor, 1) := by decide +kernel
theorem dX1_panelsBusyIn_51 : decode cX1_panelsBusyIn 51 = .ok (.lstore_n 2, 1) := by decide +kernel
theorem dX1_panelsBusyIn_52 : decode cX1_panelsBusyIn 52 = .ok (.iinc 6 1, 3) := by decide +kernel
theorem dX1_panelsBusyIn_55 : decode cX1_panelsBusyIn 55 = .ok (.goto (-39), 3) := by decide +kernel
theorem dX1_panelsBusyIn_58 : decode cX1_panelsBusyIn 58 = .ok (.lload_n 2, 1) := by decide +kernel
theorem dX1_panelsBusyIn_59 : decode cX1_panelsBusyIn 59 = .ok (.lreturn, 1) := by decide +kernel
theorem dX1_lowestPanels_0 : decode cX1_lowestPanels 0 = .ok (.lconst 0, 1) := by decide +kernel
theorem dX1_lowestPanels_1 : decode cX1_lowestPanels 1 = .ok (.lstore 4, 2) := by decide +kernel
theorem dX1_lowestPanels_3 : decode cX1_lowestPanels 3 = .ok (.iconst 0, 1) := by decide +kernel
theorem dX1_lowestPanels_4 : decode cX1_lowestPanels 4 = .ok (.istore 6, 2) := by decide +kernel
theorem dX1_lowestPanels_6 : decode cX1_lowestPanels 6 = .ok (.iconst 0, 1) := by decide +kernel
theorem dX1_lowestPanels_7 : decode cX1_lowestPanels 7 = .ok (.istore 7, 2) := by decide +kernel
theorem dX1_lowestPanels_9 : decode cX1_lowestPanels 9 = .ok (.iload 7, 2) := by decide +kernel
theorem dX1_lowestPanels_11 : decode cX1_lowestPanels 11 = .ok (.aload_n 0, 1) := by decide +kernel
theorem dX1_lowestPanels_12 : decode cX1_lowestPanels 12 = .ok (.getfield 28, 3) := by decide +kernel
theorem dX1_lowestPanels_15 : decode cX1_lowestPanels 15 = .ok (.if_icmp .ge 40, 3) := by decide +kernel
theorem dX1_lowestPanels_18 : decode cX1_lowestPanels 18 = .ok (.iload 6, 2) := by decide +kernel
theorem dX1_lowestPanels_20 : decode cX1_lowestPanels 20 = .ok (.iload_n 3, 1) := by decide +kernel
theorem dX1_lowestPanels_21 : decode cX1_lowestPanels 21 = .ok (.if_icmp .ge 34, 3) := by decide +kernel
theorem dX1_lowestPanels_24 : decode cX1_lowestPanels 24 = .ok (.lconst 1, 1) := by decide +kernel
theorem dX1_lowestPanels_25 : decode cX1_lowestPanels 25 = .ok (.iload 7, 2) := by decide +kernel
theorem dX1_lowestPanels_27 : decode cX1_lowestPanels 27 = .ok (.lshl, 1) := by decide +kernel
theorem dX1_lowestPanels_28 : decode cX1_lowestPanels 28 = .ok (.lstore 8, 2) := by decide +kernel
theorem dX1_lowestPanels_30 : decode cX1_lowestPanels 30 = .ok (.lload_n 1, 1) := by decide +kernel
theorem dX1_lowestPanels_31 : decode cX1_lowestPanels 31 = .ok (.lload 8, 2) := by decide +kernel
theorem dX1_lowestPanels_33 : decode cX1_lowestPanels 33 = .ok (.land, 1) := by decide +kernel
theorem dX1_lowestPanels_34 : decode cX1_lowestPanels 34 = .ok (.lconst 0, 1) := by decide +kernel
theorem dX1_lowestPanels_35 : decode cX1_lowestPanels 35 = .ok (.lcmp, 1) := by decide +kernel
theorem dX1_lowestPanels_36 : decode cX1_lowestPanels 36 = .ok (.ifCond .ne 13, 3) := by decide +kernel
theorem dX1_lowestPanels_39 : decode cX1_lowestPanels 39 = .ok (.lload 4, 2) := by decide +kernel
theorem dX1_lowestPanels_41 : decode cX1_lowestPanels 41 = .ok (.lload 8, 2) := by decide +kernel
theorem dX1_lowestPanels_43 : decode cX1_lowestPanels 43 = .ok (.lor, 1) := by decide +kernel
theorem dX1_lowestPanels_44 : decode cX1_lowestPanels 44 = .ok (.lstore 4, 2) := by decide +kernel
theorem dX1_lowestPanels_46 : decode cX1_lowestPanels 46 = .ok (.iinc 6 1, 3) := by decide +kernel
theorem dX1_lowestPanels_49 : decode cX1_lowestPanels 49 = .ok (.iinc 7 1, 3) := by decide +kernel
theorem dX1_lowestPanels_52 : decode cX1_lowestPanels 52 = .ok (.goto (-43), 3) := by decide +kernel
theorem dX1_lowestPanels_55 : decode cX1_lowestPanels 55 = .ok (.lload 4, 2) := by decide +kernel
theorem dX1_lowestPanels_57 : decode cX1_lowestPanels 57 = .ok (.lreturn, 1) := by decide +kernel
theorem dX2_init_0 : decode cX2_init 0 = .ok (.aload_n 0, 1) := by decide +kernel
theorem dX2_init_1 : decode cX2_init 1 = .ok (.invokespecial 1, 3) := by decide +kernel
theorem dX2_init_4 : decode cX2_init 4 = .ok (.aload_n 0, 1) := by decide +kernel
theorem dX2_init_5 : decode cX2_init 5 = .ok (.sipush 1000, 3) := by decide +kernel
theorem dX2_init_8 : decode cX2_init 8 = .ok (.newarray .int, 2) := by decide +kernel
theorem dX2_init_10 : decode cX2_init 10 = .ok (.putfield 7, 3) := by decide +kernel
theorem dX2_init_13 : decode cX2_init 13 = .ok (.aload_n 0, 1) := by decide +kernel
theorem dX2_init_14 : decode cX2_init 14 = .ok (.bipush 20, 2) := by decide +kernel
theorem dX2_init_16 : decode cX2_init 16 = .ok (.putfield 13, 3) := by decide +kernel
theorem dX2_init_19 : decode cX2_init 19 = .ok (.aload_n 0, 1) := by decide +kernel
theorem dX2_init_20 : decode cX2_init 20 = .ok (.bipush 10, 2) := by decide +kernel
theorem dX2_init_22 : decode cX2_init 22 = .ok (.putfield 17, 3) := by decide +kernel
theorem dX2_init_25 : decode cX2_init 25 = .ok (.aload_n 0, 1) := by decide +kernel
theorem dX2_init_26 : decode cX2_init 26 = .ok (.bipush 12, 2) := by decide +kernel
theorem dX2_init_28 : decode cX2_init 28 = .ok (.putfield 20, 3) := by decide +kernel
theorem dX2_init_31 : decode cX2_init 31 = .ok (.aload_n 0, 1) := by decide +kernel
theorem dX2_init_32 : decode cX2_init 32 = .ok (.iconst 2, 1) := by decide +kernel
theorem dX2_init_33 : decode cX2_init 33 = .ok (.putfield 23, 3) := by decide +kernel
theorem dX2_init_36 : decode cX2_init 36 = .ok (.aload_n 0, 1) := by decide +kernel
theorem dX2_init_37 : decode cX2_init 37 = .ok (.iconst 3, 1) := by decide +kernel
theorem dX2_init_38 : decode cX2_init 38 = .ok (.putfield 26, 3) := by decide +kernel
theorem dX2_init_41 : decode cX2_init 41 = .ok (.aload_n 0, 1) := by decide +kernel
theorem dX2_init_42 : decode cX2_init 42 = .ok (.bipush 11, 2) := by decide +kernel
theorem dX2_init_44 : decode cX2_init 44 = .ok (.newarray .boolean, 2) := by decide +kernel
theorem dX2_init_46 : decode cX2_init 46 = .ok (.putfield 29, 3) := by decide +kernel
theorem dX2_init_49 : decode cX2_init 49 = .ok (.aload_n 0, 1) := by decide +kernel
theorem dX2_init_50 : decode cX2_init 50 = .ok (.bipush 11, 2) := by decide +kernel
theorem dX2_init_52 : decode cX2_init 52 = .ok (.newarray .int, 2) := by decide +kernel
theorem dX2_init_54 : decode cX2_init 54 = .ok (.putfield 33, 3) := by decide +kernel
theorem dX2_init_57 : decode cX2_init 57 = .ok (.aload_n 0, 1) := by decide +kernel
theorem dX2_init_58 : decode cX2_init 58 = .ok (.bipush 11, 2) := by decide +kernel
theorem dX2_init_60 : decode cX2_init 60 = .ok (.newarray .int, 2) := by decide +kernel
end
section
theorem dX2_init_62 : decode cX2_init 62 = .ok (.putfield 36, 3) := by decide +kernel
theorem dX2_init_65 : decode cX2_init 65 = .ok (.aload_n 0, 1) := by decide +kernel
theorem dX2_init_66 : decode cX2_init 66 = .ok (.bipush 11, 2) := by decide +kernel
theorem dX2_init_68 : decode cX2_init 68 = .ok (.newarray .int, 2) := by decide +kernel
theorem dX2_init_70 : decode cX2_init 70 = .ok (.putfield 39, 3) := by decide +kernel
theorem dX2_init_73 : decode cX2_init 73 = .ok (.aload_n 0, 1) := by decide +kernel
theorem dX2_init_74 : decode cX2_init 74 = .ok (.bipush 11, 2) := by decide +kernel
theorem dX2_init_76 : decode cX2_init 76 = .ok (.newarray .int, 2) := by decide +kernel
theorem dX2_init_78 : decode cX2_init 78 = .ok (.putfield 42, 3) := by decide +kernel
theorem dX2_init_81 : decode cX2_init 81 = .ok (.aload_n 0, 1) := by decide +kernel
theorem dX2_init_82 : decode cX2_init 82 = .ok (.bipush 11, 2) := by decide +kernel
theorem dX2_init_84 : decode cX2_init 84 = .ok (.newarray .int, 2) := by decide +kernel
theorem dX2_init_86 : decode cX2_init 86 = .ok (.putfield 45, 3) := by decide +kernel
theorem dX2_init_89 : decode cX2_init 89 = .ok (.aload_n 0, 1) := by decide +kernel
theorem dX2_init_90 : decode cX2_init 90 = .ok (.bipush 44, 2) := by decide +kernel
theorem dX2_init_92 : decode cX2_init 92 = .ok (.newarray .int, 2) := by decide +kernel
theorem dX2_init_94 : decode cX2_init 94 = .ok (.putfield 48, 3) := by decide +kernel
theorem dX2_init_97 : decode cX2_init 97 = .ok (.aload_n 0, 1) := by decide +kernel
theorem dX2_init_98 : decode cX2_init 98 = .ok (.bipush 44, 2) := by decide +kernel
theorem dX2_init_100 : decode cX2_init 100 = .ok (.newarray .int, 2) := by decide +kernel
theorem dX2_init_102 : decode cX2_init 102 = .ok (.putfield 51, 3) := by decide +kernel
theorem dX2_init_105 : decode cX2_init 105 = .ok (.aload_n 0, 1) := by decide +kernel
theorem dX2_init_106 : decode cX2_init 106 = .ok (.bipush 11, 2) := by decide +kernel
theorem dX2_init_108 : decode cX2_init 108 = .ok (.newarray .int, 2) := by decide +kernel
theorem dX2_init_110 : decode cX2_init 110 = .ok (.putfield 54, 3) := by decide +kernel
theorem dX2_init_113 : decode cX2_init 113 = .ok (.aload_n 0, 1) := by decide +kernel
theorem dX2_init_114 : decode cX2_init 114 = .ok (.bipush 11, 2) := by decide +kernel
theorem dX2_init_116 : decode cX2_init 116 = .ok (.newarray .int, 2) := by decide +kernel
theorem dX2_init_118 : decode cX2_init 118 = .ok (.putfield 57, 3) := by decide +kernel
theorem dX2_init_121 : decode cX2_init 121 = .ok (.aload_n 0, 1) := by decide +kernel
theorem dX2_init_122 : decode cX2_init 122 = .ok (.bipush 11, 2) := by decide +kernel
theorem dX2_init_124 : decode cX2_init 124 = .ok (.newarray .int, 2) := by decide +kernel
theorem dX2_init_126 : decode cX2_init 126 = .ok (.putfield 60, 3) := by decide +kernel
theorem dX2_init_129 : decode cX2_init 129 = .ok (.aload_n 0, 1) := by decide +kernel
theorem dX2_init_130 : decode cX2_init 130 = .ok (.sipush 600, 3) := by decide +kernel
theorem dX2_init_133 : decode cX2_init 133 = .ok (.newarray .boolean, 2) := by decide +kernel
theorem dX2_init_135 : decode cX2_init 135 = .ok (.putfield 63, 3) := by decide +kernel
theorem dX2_init_138 : decode cX2_init 138 = .ok (.iconst 0, 1) := by decide +kernel
theorem dX2_init_139 : decode cX2_init 139 = .ok (.istore_n 1, 1) := by decide +kernel
theorem dX2_init_140 : decode cX2_init 140 = .ok (.iload_n 1, 1) := by decide +kernel
theorem dX2_init_141 : decode cX2_init 141 = .ok (.sipush 1000, 3) := by decide +kernel
theorem dX2_init_144 : decode cX2_init 144 = .ok (.if_icmp .ge 17, 3) := by decide +kernel
theorem dX2_init_147 : decode cX2_init 147 = .ok (.aload_n 0, 1) := by decide +kernel
theorem dX2_init_148 : decode cX2_init 148 = .ok (.getfield 7, 3) := by decide +kernel
theorem dX2_init_151 : decode cX2_init 151 = .ok (.iload_n 1, 1) := by decide +kernel
theorem dX2_init_152 : decode cX2_init 152 = .ok (.bipush 20, 2) := by decide +kernel
theorem dX2_init_154 : decode cX2_init 154 = .ok (.iastore, 1) := by decide +kernel
theorem dX2_init_155 : decode cX2_init 155 = .ok (.iinc 1 1, 3) := by decide +kernel
theorem dX2_init_158 : decode cX2_init 158 = .ok (.goto (-18), 3) := by decide +kernel
theorem dX2_init_161 : decode cX2_init 161 = .ok (.return_, 1) := by decide +kernel
theorem dX2_thrown_0 : decode cX2_thrown 0 = .ok (.aload_n 0, 1) := by decide +kernel
theorem dX2_thrown_1 : decode cX2_thrown 1 = .ok (.getfield 66, 3) := by decide +kernel
theorem dX2_thrown_4 : decode cX2_thrown 4 = .ok (.ireturn, 1) := by decide +kernel
theorem dX2_fails_0 : decode cX2_fails 0 = .ok (.aload_n 0, 1) := by decide +kernel
theorem dX2_fails_1 : decode cX2_fails 1 = .ok (.iload_n 1, 1) := by decide +kernel
theorem dX2_fails_2 : decode cX2_fails 2 = .ok (.putfield 66, 3) := by decide +kernel
theorem dX2_fails_5 : decode cX2_fails 5 = .ok (.iconst 0, 1) := by decide +kernel
theorem dX2_fails_6 : decode cX2_fails 6 = .ok (.ireturn, 1) := by decide +kernel
theorem dX2_in_0 : decode cX2_in 0 = .ok (.iload_n 0, 1) := by decide +kernel
theorem dX2_in_1 : decode cX2_in 1 = .ok (.iload_n 1, 1) := by decide +kernel
theorem dX2_in_2 : decode cX2_in 2 = .ok (.if_icmp .lt 12, 3) := by decide +kernel
theorem dX2_in_5 : decode cX2_in 5 = .ok (.iload_n 0, 1) := by decide +kernel
theorem dX2_in_6 : decode cX2_in 6 = .ok (.iload_n 2, 1) := by decide +kernel
theorem dX2_in_7 : decode cX2_in 7 = .ok (.if_icmp .gt 7, 3) := by decide +kernel
theorem dX2_in_10 : decode cX2_in 10 = .ok (.iconst 1, 1) := by decide +kernel
theorem dX2_in_11 : decode cX2_in 11 = .ok (.goto 4, 3) := by decide +kernel
theorem dX2_in_14 : decode cX2_in 14 = .ok (.iconst 0, 1) := by decide +kernel
theorem dX2_in_15 : decode cX2_in 15 = .ok (.ireturn, 1) := by decide +kernel
set_option maxRecDepth 20000 in
theorem ggX2_isHour_X2_in : GoodIn wsX2_isHour wsX2_in := goodIn_r _ [4] (by decide +kernel) (by decide +kernel)
set_option maxRecDepth 20000 in
theorem gX2_isHour_X2_in : GoodIn wsX2_isHour (va_wsS RX2 69 yX2_in wsX2_in) := goodIn_app (goodIn_of _ (by decide +kernel)) ggX2_isHour_X2_in
theorem dX2_isHour_0 : decode cX2_isHour 0 = .ok (.iload_n 0, 1) := by decide +kernel
theorem dX2_isHour_1 : decode cX2_isHour 1 = .ok (.iconst 0, 1) := by decide +kernel
theorem dX2_isHour_2 : decode cX2_isHour 2 = .ok (.sipush 999, 3) := by decide +kernel
theorem dX2_isHour_5 : decode cX2_isHour 5 = .ok (.invokestatic 69, 3) := by decide +kernel
theorem dX2_isHour_8 : decode cX2_isHour 8 = .ok (.ireturn, 1) := by decide +kernel
set_option maxRecDepth 20000 in
theorem ggX2_isPour_X2_in : GoodIn wsX2_isPour wsX2_in := goodIn_r _ [5] (by decide +kernel) (by decide +kernel)
set_option maxRecDepth 20000 in
theorem gX2_isPour_X2_in : GoodIn wsX2_isPour (va_wsS RX2 69 yX2_in wsX2_in) := goodIn_app (goodIn_of _ (by decide +kernel)) ggX2_isPour_X2_in
theorem dX2_isPour_0 : decode cX2_isPour 0 = .ok (.iload_n 1, 1) := by decide +kernel
theorem dX2_isPour_1 : decode cX2_isPour 1 = .ok (.iconst 0, 1) := by decide +kernel
theorem dX2_isPour_2 : decode cX2_isPour 2 = .ok (.bipush 9, 2) := by decide +kernel
theorem dX2_isPour_4 : decode cX2_isPour 4 = .ok (.invokestatic 69, 3) := by decide +kernel
theorem dX2_isPour_7 : decode cX2_isPour 7 = .ok (.ifCond .eq 16, 3) := by decide +kernel
theorem dX2_isPour_10 : decode cX2_isPour 10 = .ok (.aload_n 0, 1) := by decide +kernel
theorem dX2_isPour_11 : decode cX2_isPour 11 = .ok (.getfield 29, 3) := by decide +kernel
theorem dX2_isPour_14 : decode cX2_isPour 14 = .ok (.iload_n 1, 1) := by decide +kernel
theorem dX2_isPour_15 : decode cX2_isPour 15 = .ok (.baload, 1) := by decide +kernel
theorem dX2_isPour_16 : decode cX2_isPour 16 = .ok (.ifCond .eq 7, 3) := by decide +kernel
theorem dX2_isPour_19 : decode cX2_isPour 19 = .ok (.iconst 1, 1) := by decide +kernel
theorem dX2_isPour_20 : decode cX2_isPour 20 = .ok (.goto 4, 3) := by decide +kernel
theorem dX2_isPour_23 : decode cX2_isPour 23 = .ok (.iconst 0, 1) := by decide +kernel
theorem dX2_isPour_24 : decode cX2_isPour 24 = .ok (.ireturn, 1) := by decide +kernel
set_option maxRecDepth 20000 in
theorem ggX2_gain_X2_isHour : GoodIn wsX2_gain wsX2_isHour := goodIn_r _ [5, 6, 7, 4, 8] (by decide +kernel) (by decide +kernel)
set_option maxRecDepth 20000 in
theorem gX2_gain_X2_isHour : GoodIn wsX2_gain (va_wsS RX2 73 yX2_isHour wsX2_isHour) := goodIn_app (goodIn_of _ (by decide +kernel)) ggX2_gain_X2_isHour
theorem dX2_gain_0 : decode cX2_gain 0 = .ok (.iload_n 1, 1) := by decide +kernel
theorem dX2_gain_1 : decode cX2_gain 1 = .ok (.invokestatic 73, 3) := by decide +kernel
theorem dX2_gain_4 : decode cX2_gain 4 = .ok (.ifCond .eq 15, 3) := by decide +kernel
theorem dX2_gain_7 : decode cX2_gain 7 = .ok (.aload_n 0, 1) := by decide +kernel
theorem dX2_gain_8 : decode cX2_gain 8 = .ok (.getfield 7, 3) := by decide +kernel
theorem dX2_gain_11 : decode cX2_gain 11 = .ok (.iload_n 1, 1) := by decide +kernel
theorem dX2_gain_12 : decode cX2_gain 12 = .ok (.iaload, 1) := by decide +kernel
theorem dX2_gain_13 : decode cX2_gain 13 = .ok (.bipush 10, 2) := by decide +kernel
theorem dX2_gain_15 : decode cX2_gain 15 = .ok (.iadd, 1) := by decide +kernel
theorem dX2_gain_16 : decode cX2_gain 16 = .ok (.goto 4, 3) := by decide +kernel
theorem dX2_gain_19 : decode cX2_gain 19 = .ok (.iconst 0, 1) := by decide +kernel
theorem dX2_gain_20 : decode cX2_gain 20 = .ok (.istore_n 2, 1) := by decide +kernel
theorem dX2_gain_21 : decode cX2_gain 21 = .ok (.iload_n 2, 1) := by decide +kernel
theorem dX2_gain_22 : decode cX2_gain 22 = .ok (.ifCond .ge 7, 3) := by decide +kernel
theorem dX2_gain_25 : decode cX2_gain 25 = .ok (.iconst 0, 1) := by decide +kernel
theorem dX2_gain_26 : decode cX2_gain 26 = .ok (.goto 4, 3) := by decide +kernel
theorem dX2_gain_29 : decode cX2_gain 29 = .ok (.iload_n 2, 1) := by decide +kernel
theorem dX2_gain_30 : decode cX2_gain 30 = .ok (.ireturn, 1) := by decide +kernel
set_option maxRecDepth 20000 in
theorem ggX2_sum_X2_gain : GoodIn wsX2_sum wsX2_gain := goodIn_r _ [5, 6, 7, 8, 4, 9, 10, 11, 12, 13, 14, 15, 16, 17, 18, 19, 20, 21, 22, 23, 24, 25, 26, 27, 28, 29, 30, 31] (by decide +kernel) (by decide +kernel)
set_option maxRecDepth 20000 in
theorem gX2_sum_X2_gain : GoodIn wsX2_sum (wsV RX2 77 RX2 yX2_gain wsX2_gain) := goodIn_app (goodIn_of _ (by decide +kernel)) ggX2_sum_X2_gain
theorem dX2_sum_0 : decode cX2_sum 0 = .ok (.iconst 0, 1) := by decide +kernel
theorem dX2_sum_1 : decode cX2_sum 1 = .ok (.istore_n 3, 1) := by decide +kernel
theorem dX2_sum_2 : decode cX2_sum 2 = .ok (.iload_n 1, 1) := by decide +kernel
theorem dX2_sum_3 : decode cX2_sum 3 = .ok (.istore 4, 2) := by decide +kernel
theorem dX2_sum_5 : decode cX2_sum 5 = .ok (.iload 4, 2) := by decide +kernel
theorem dX2_sum_7 : decode cX2_sum 7 = .ok (.iload_n 2, 1) := by decide +kernel
theorem dX2_sum_8 : decode cX2_sum 8 = .ok (.if_icmp .ge 18, 3) := by decide +kernel
theorem dX2_sum_11 : decode cX2_sum 11 = .ok (.iload_n 3, 1) := by decide +kernel
theorem dX2_sum_12 : decode cX2_sum 12 = .ok (.aload_n 0, 1) := by decide +kernel
theorem dX2_sum_13 : decode cX2_sum 13 = .ok (.iload 4, 2) := by decide +kernel
theorem dX2_sum_15 : decode cX2_sum 15 = .ok (.invokevirtual 77, 3) := by decide +kernel
theorem dX2_sum_18 : decode cX2_sum 18 = .ok (.iadd, 1) := by decide +kernel
theorem dX2_sum_19 : decode cX2_sum 19 = .ok (.istore_n 3, 1) := by decide +kernel
theorem dX2_sum_20 : decode cX2_sum 20 = .ok (.iinc 4 1, 3) := by decide +kernel
theorem dX2_sum_23 : decode cX2_sum 23 = .ok (.goto (-18), 3) := by decide +kernel
theorem dX2_sum_26 : decode cX2_sum 26 = .ok (.iload_n 3, 1) := by decide +kernel
theorem dX2_sum_27 : decode cX2_sum 27 = .ok (.ireturn, 1) := by decide +kernel
theorem dX2_between_0 : decode cX2_between 0 = .ok (.iload_n 3, 1) := by decide +kernel
theorem dX2_between_1 : decode cX2_between 1 = .ok (.bipush 25, 2) := by decide +kernel
theorem dX2_between_3 : decode cX2_between 3 = .ok (.iload_n 0, 1) := by decide +kernel
theorem dX2_between_4 : decode cX2_between 4 = .ok (.iload_n 1, 1) := by decide +kernel
theorem dX2_between_5 : decode cX2_between 5 = .ok (.isub, 1) := by decide +kernel
theorem dX2_between_6 : decode cX2_between 6 = .ok (.imul, 1) := by decide +kernel
theorem dX2_between_7 : decode cX2_between 7 = .ok (.iload_n 2, 1) := by decide +kernel
theorem dX2_between_8 : decode cX2_between 8 = .ok (.iload_n 1, 1) := by decide +kernel
theorem dX2_between_9 : decode cX2_between 9 = .ok (.isub, 1) := by decide +kernel
theorem dX2_between_10 : decode cX2_between 10 = .ok (.idiv, 1) := by decide +kernel
theorem dX2_between_11 : decode cX2_between 11 = .ok (.iadd, 1) := by decide +kernel
theorem dX2_between_12 : decode cX2_between 12 = .ok (.ireturn, 1) := by decide +kernel
set_option maxRecDepth 20000 in
theorem ggX2_strong_X2_between : GoodIn wsX2_strong wsX2_between := goodIn_r _ [4] (by decide +kernel) (by decide +kernel)
set_option maxRecDepth 20000 in
theorem gX2_strong_X2_between : GoodIn wsX2_strong (va_wsS RX2 81 yX2_between wsX2_between) := goodIn_app (goodIn_of _ (by decide +kernel)) ggX2_strong_X2_between
theorem dX2_strong_0 : decode cX2_strong 0 = .ok (.iload_n 0, 1) := by decide +kernel
theorem dX2_strong_1 : decode cX2_strong 1 = .ok (.sipush 5000, 3) := by decide +kernel
theorem dX2_strong_4 : decode cX2_strong 4 = .ok (.if_icmp .lt 8, 3) := by decide +kernel
theorem dX2_strong_7 : decode cX2_strong 7 = .ok (.bipush 100, 2) := by decide +kernel
theorem dX2_strong_9 : decode cX2_strong 9 = .ok (.goto 78, 3) := by decide +kernel
theorem dX2_strong_12 : decode cX2_strong 12 = .ok (.iload_n 0, 1) := by decide +kernel
theorem dX2_strong_13 : decode cX2_strong 13 = .ok (.sipush 2500, 3) := by decide +kernel
theorem dX2_strong_16 : decode cX2_strong 16 = .ok (.if_icmp .lt 18, 3) := by decide +kernel
theorem dX2_strong_19 : decode cX2_strong 19 = .ok (.iload_n 0, 1) := by decide +kernel
theorem dX2_strong_20 : decode cX2_strong 20 = .ok (.sipush 2500, 3) := by decide +kernel
theorem dX2_strong_23 : decode cX2_strong 23 = .ok (.sipush 5000, 3) := by decide +kernel
theorem dX2_strong_26 : decode cX2_strong 26 = .ok (.bipush 75, 2) := by decide +kernel
theorem dX2_strong_28 : decode cX2_strong 28 = .ok (.invokestatic 81, 3) := by decide +kernel
theorem dX2_strong_31 : decode cX2_strong 31 = .ok (.goto 56, 3) := by decide +kernel
theorem dX2_strong_34 : decode cX2_strong 34 = .ok (.iload_n 0, 1) := by decide +kernel
theorem dX2_strong_35 : decode cX2_strong 35 = .ok (.sipush 1200, 3) := by decide +kernel
theorem dX2_strong_38 : decode cX2_strong 38 = .ok (.if_icmp .lt 18, 3) := by decide +kernel
theorem dX2_strong_41 : decode cX2_strong 41 = .ok (.iload_n 0, 1) := by decide +kernel
theorem dX2_strong_42 : decode cX2_strong 42 = .ok (.sipush 1200, 3) := by decide +kernel
theorem dX2_strong_45 : decode cX2_strong 45 = .ok (.sipush 2500, 3) := by decide +kernel
theorem dX2_strong_48 : decode cX2_strong 48 = .ok (.bipush 50, 2) := by decide +kernel
theorem dX2_strong_50 : decode cX2_strong 50 = .ok (.invokestatic 81, 3) := by decide +kernel
theorem dX2_strong_53 : decode cX2_strong 53 = .ok (.goto 34, 3) := by decide +kernel
theorem dX2_strong_56 : decode cX2_strong 56 = .ok (.iload_n 0, 1) := by decide +kernel
theorem dX2_strong_57 : decode cX2_strong 57 = .ok (.sipush 500, 3) := by decide +kernel
theorem dX2_strong_60 : decode cX2_strong 60 = .ok (.if_icmp .lt 18, 3) := by decide +kernel
theorem dX2_strong_63 : decode cX2_strong 63 = .ok (.iload_n 0, 1) := by decide +kernel
theorem dX2_strong_64 : decode cX2_strong 64 = .ok (.sipush 500, 3) := by decide +kernel
theorem dX2_strong_67 : decode cX2_strong 67 = .ok (.sipush 1200, 3) := by decide +kernel
theorem dX2_strong_70 : decode cX2_strong 70 = .ok (.bipush 25, 2) := by decide +kernel
theorem dX2_strong_72 : decode cX2_strong 72 = .ok (.invokestatic 81, 3) := by decide +kernel
theorem dX2_strong_75 : decode cX2_strong 75 = .ok (.goto 12, 3) := by decide +kernel
theorem dX2_strong_78 : decode cX2_strong 78 = .ok (.iload_n 0, 1) := by decide +kernel
theorem dX2_strong_79 : decode cX2_strong 79 = .ok (.iconst 0, 1) := by decide +kernel
theorem dX2_strong_80 : decode cX2_strong 80 = .ok (.sipush 500, 3) := by decide +kernel
theorem dX2_strong_83 : decode cX2_strong 83 = .ok (.iconst 0, 1) := by decide +kernel
theorem dX2_strong_84 : decode cX2_strong 84 = .ok (.invokestatic 81, 3) := by decide +kernel
theorem dX2_strong_87 : decode cX2_strong 87 = .ok (.ireturn, 1) := by decide +kernel
theorem dX2_rate_0 : decode cX2_rate 0 = .ok (.aload_n 0, 1) := by decide +kernel
theorem dX2_rate_1 : decode cX2_rate 1 = .ok (.getfield 17, 3) := by decide +kernel
theorem dX2_rate_4 : decode cX2_rate 4 = .ok (.aload_n 0, 1) := by decide +kernel
theorem dX2_rate_5 : decode cX2_rate 5 = .ok (.getfield 20, 3) := by decide +kernel
theorem dX2_rate_8 : decode cX2_rate 8 = .ok (.if_icmp .ge 10, 3) := by decide +kernel
theorem dX2_rate_11 : decode cX2_rate 11 = .ok (.aload_n 0, 1) := by decide +kernel
theorem dX2_rate_12 : decode cX2_rate 12 = .ok (.getfield 17, 3) := by decide +kernel
theorem dX2_rate_15 : decode cX2_rate 15 = .ok (.goto 7, 3) := by decide +kernel
theorem dX2_rate_18 : decode cX2_rate 18 = .ok (.aload_n 0, 1) := by decide +kernel
theorem dX2_rate_19 : decode cX2_rate 19 = .ok (.getfield 20, 3) := by decide +kernel
theorem dX2_rate_22 : decode cX2_rate 22 = .ok (.ireturn, 1) := by decide +kernel
theorem dX2_delays_0 : decode cX2_delays 0 = .ok (.iconst 0, 1) := by decide +kernel
theorem dX2_delays_1 : decode cX2_delays 1 = .ok (.istore_n 2, 1) := by decide +kernel
theorem dX2_delays_2 : decode cX2_delays 2 = .ok (.iconst 0, 1) := by decide +kernel
theorem dX2_delays_3 : decode cX2_delays 3 = .ok (.istore_n 3, 1) := by decide +kernel
theorem dX2_delays_4 : decode cX2_delays 4 = .ok (.iload_n 3, 1) := by decide +kernel
theorem dX2_delays_5 : decode cX2_delays 5 = .ok (.aload_n 0, 1) := by decide +kernel
theorem dX2_delays_6 : decode cX2_delays 6 = .ok (.getfield 45, 3) := by decide +kernel
theorem dX2_delays_9 : decode cX2_delays 9 = .ok (.iload_n 1, 1) := by decide +kernel
theorem dX2_delays_10 : decode cX2_delays 10 = .ok (.iaload, 1) := by decide +kernel
theorem dX2_delays_11 : decode cX2_delays 11 = .ok (.if_icmp .ge 22, 3) := by decide +kernel
theorem dX2_delays_14 : decode cX2_delays 14 = .ok (.iload_n 2, 1) := by decide +kernel
theorem dX2_delays_15 : decode cX2_delays 15 = .ok (.aload_n 0, 1) := by decide +kernel
theorem dX2_delays_16 : decode cX2_delays 16 = .ok (.getfield 51, 3) := by decide +kernel
theorem dX2_delays_19 : decode cX2_delays 19 = .ok (.iconst 4, 1) := by decide +kernel
theorem dX2_delays_20 : decode cX2_delays 20 = .ok (.iload_n 1, 1) := by decide +kernel
theorem dX2_delays_21 : decode cX2_delays 21 = .ok (.imul, 1) := by decide +kernel
theorem dX2_delays_22 : decode cX2_delays 22 = .ok (.iload_n 3, 1) := by decide +kernel
theorem dX2_delays_23 : decode cX2_delays 23 = .ok (.iadd, 1) := by decide +kernel
theorem dX2_delays_24 : decode cX2_delays 24 = .ok (.iaload, 1) := by decide +kernel
theorem dX2_delays_25 : decode cX2_delays 25 = .ok (.iadd, 1) := by decide +kernel
theorem dX2_delays_26 : decode cX2_delays 26 = .ok (.istore_n 2, 1) := by decide +kernel
theorem dX2_delays_27 : decode cX2_delays 27 = .ok (.iinc 3 1, 3) := by decide +kernel
theorem dX2_delays_30 : decode cX2_delays 30 = .ok (.goto (-26), 3) := by decide +kernel
theorem dX2_delays_33 : decode cX2_delays 33 = .ok (.iload_n 2, 1) := by decide +kernel
theorem dX2_delays_34 : decode cX2_delays 34 = .ok (.ireturn, 1) := by decide +kernel
set_option maxRecDepth 20000 in
theorem ggX2_end_X2_rate : GoodIn wsX2_end wsX2_rate := goodIn_r _ [7, 8, 9, 16, 17, 18, 19, 20, 21, 22, 23, 24, 25, 26, 27, 28, 29, 30, 31, 32, 33, 34] (by decide +kernel) (by decide +kernel)
set_option maxRecDepth 20000 in
theorem gX2_end_X2_rate : GoodIn wsX2_end (wsV RX2 85 RX2 yX2_rate wsX2_rate) := goodIn_app (goodIn_of _ (by decide +kernel)) ggX2_end_X2_rate
set_option maxRecDepth 20000 in
theorem ggX2_end_X2_delays : GoodIn wsX2_end wsX2_delays := goodIn_r _ [13, 14, 15, 16, 17, 18, 19, 20, 21, 22, 23, 24, 25, 26, 27, 28, 29, 30, 31, 32, 33, 34] (by decide +kernel) (by decide +kernel)
set_option maxRecDepth 20000 in
theorem gX2_end_X2_delays : GoodIn wsX2_end (wsV RX2 89 RX2 yX2_delays wsX2_delays) := goodIn_app (goodIn_of _ (by decide +kernel)) ggX2_end_X2_delays
theorem dX2_end_0 : decode cX2_end 0 = .ok (.aload_n 0, 1) := by decide +kernel
theorem dX2_end_1 : decode cX2_end 1 = .ok (.getfield 33, 3) := by decide +kernel
theorem dX2_end_4 : decode cX2_end 4 = .ok (.iload_n 1, 1) := by decide +kernel
theorem dX2_end_5 : decode cX2_end 5 = .ok (.iaload, 1) := by decide +kernel
theorem dX2_end_6 : decode cX2_end 6 = .ok (.aload_n 0, 1) := by decide +kernel
theorem dX2_end_7 : decode cX2_end 7 = .ok (.getfield 36, 3) := by decide +kernel
theorem dX2_end_10 : decode cX2_end 10 = .ok (.iload_n 1, 1) := by decide +kernel
theorem dX2_end_11 : decode cX2_end 11 = .ok (.iaload, 1) := by decide +kernel
theorem dX2_end_12 : decode cX2_end 12 = .ok (.aload_n 0, 1) := by decide +kernel
theorem dX2_end_13 : decode cX2_end 13 = .ok (.invokevirtual 85, 3) := by decide +kernel
theorem dX2_end_16 : decode cX2_end 16 = .ok (.iadd, 1) := by decide +kernel
theorem dX2_end_17 : decode cX2_end 17 = .ok (.iconst 1, 1) := by decide +kernel
theorem dX2_end_18 : decode cX2_end 18 = .ok (.isub, 1) := by decide +kernel
theorem dX2_end_19 : decode cX2_end 19 = .ok (.aload_n 0, 1) := by decide +kernel
theorem dX2_end_20 : decode cX2_end 20 = .ok (.invokevirtual 85, 3) := by decide +kernel
theorem dX2_end_23 : decode cX2_end 23 = .ok (.idiv, 1) := by decide +kernel
theorem dX2_end_24 : decode cX2_end 24 = .ok (.iadd, 1) := by decide +kernel
theorem dX2_end_25 : decode cX2_end 25 = .ok (.aload_n 0, 1) := by decide +kernel
theorem dX2_end_26 : decode cX2_end 26 = .ok (.iload_n 1, 1) := by decide +kernel
theorem dX2_end_27 : decode cX2_end 27 = .ok (.invokevirtual 89, 3) := by decide +kernel
theorem dX2_end_30 : decode cX2_end 30 = .ok (.iadd, 1) := by decide +kernel
theorem dX2_end_31 : decode cX2_end 31 = .ok (.ireturn, 1) := by decide +kernel
set_option maxRecDepth 20000 in
theorem ggX2_works_X2_end : GoodIn wsX2_works wsX2_end := goodIn_r _ [12, 2, 13, 14, 15, 16, 11, 17, 18, 19, 20, 21, 22, 23, 24, 25, 43, 44, 45, 46, 47, 48, 49, 50, 51, 52, 53, 54, 55, 56, 57, 58, 59, 60, 61] (by decide +kernel) (by decide +kernel)
set_option maxRecDepth 20000 in
theorem gX2_works_X2_end : GoodIn wsX2_works (wsV RX2 92 RX2 yX2_end wsX2_end) := goodIn_app (goodIn_of _ (by decide +kernel)) ggX2_works_X2_end
set_option maxRecDepth 20000 in
theorem ggX2_works_X2_strong : GoodIn wsX2_works wsX2_strong := goodIn_r _ [28, 29, 30, 11, 31] (by decide +kernel) (by decide +kernel)
set_option maxRecDepth 20000 in
theorem gX2_works_X2_strong : GoodIn wsX2_works (va_wsS RX2 95 yX2_strong wsX2_strong) := goodIn_app (goodIn_of _ (by decide +kernel)) ggX2_works_X2_strong
set_option maxRecDepth 20000 in
theorem ggX2_works_X2_gain : GoodIn wsX2_works wsX2_gain := goodIn_r _ [35, 36, 37, 38, 11, 39, 40, 41, 42, 43, 44, 45, 46, 47, 48, 49, 50, 51, 52, 53, 54, 55, 56, 57, 58, 59, 60, 61] (by decide +kernel) (by decide +kernel)
set_option maxRecDepth 20000 in
theorem gX2_works_X2_gain : GoodIn wsX2_works (wsV RX2 77 RX2 yX2_gain wsX2_gain) := goodIn_app (goodIn_of _ (by decide +kernel)) ggX2_works_X2_gain
theorem dX2_works_0 : decode cX2_works 0 = .ok (.aload_n 0, 1) := by decide +kernel
theorem dX2_works_1 : decode cX2_works 1 = .ok (.getfield 54, 3) := by decide +kernel
theorem dX2_works_4 : decode cX2_works 4 = .ok (.iload_n 1, 1) := by decide +kernel
theorem dX2_works_5 : decode cX2_works 5 = .ok (.aload_n 0, 1) := by decide +kernel
theorem dX2_works_6 : decode cX2_works 6 = .ok (.getfield 33, 3) := by decide +kernel
theorem dX2_works_9 : decode cX2_works 9 = .ok (.iload_n 1, 1) := by decide +kernel
theorem dX2_works_10 : decode cX2_works 10 = .ok (.iaload, 1) := by decide +kernel
theorem dX2_works_11 : decode cX2_works 11 = .ok (.aload_n 0, 1) := by decide +kernel
theorem dX2_works_12 : decode cX2_works 12 = .ok (.getfield 23, 3) := by decide +kernel
theorem dX2_works_15 : decode cX2_works 15 = .ok (.if_icmp .ge 7, 3) := by decide +kernel
theorem dX2_works_18 : decode cX2_works 18 = .ok (.iconst 0, 1) := by decide +kernel
theorem dX2_works_19 : decode cX2_works 19 = .ok (.goto 14, 3) := by decide +kernel
theorem dX2_works_22 : decode cX2_works 22 = .ok (.aload_n 0, 1) := by decide +kernel
theorem dX2_works_23 : decode cX2_works 23 = .ok (.getfield 33, 3) := by decide +kernel
theorem dX2_works_26 : decode cX2_works 26 = .ok (.iload_n 1, 1) := by decide +kernel
theorem dX2_works_27 : decode cX2_works 27 = .ok (.iaload, 1) := by decide +kernel
theorem dX2_works_28 : decode cX2_works 28 = .ok (.aload_n 0, 1) := by decide +kernel
theorem dX2_works_29 : decode cX2_works 29 = .ok (.getfield 23, 3) := by decide +kernel
theorem dX2_works_32 : decode cX2_works 32 = .ok (.isub, 1) := by decide +kernel
theorem dX2_works_33 : decode cX2_works 33 = .ok (.iastore, 1) := by decide +kernel
theorem dX2_works_34 : decode cX2_works 34 = .ok (.aload_n 0, 1) := by decide +kernel
theorem dX2_works_35 : decode cX2_works 35 = .ok (.getfield 57, 3) := by decide +kernel
theorem dX2_works_38 : decode cX2_works 38 = .ok (.iload_n 1, 1) := by decide +kernel
theorem dX2_works_39 : decode cX2_works 39 = .ok (.iconst (-1), 1) := by decide +kernel
theorem dX2_works_40 : decode cX2_works 40 = .ok (.iastore, 1) := by decide +kernel
theorem dX2_works_41 : decode cX2_works 41 = .ok (.iconst 0, 1) := by decide +kernel
theorem dX2_works_42 : decode cX2_works 42 = .ok (.istore_n 2, 1) := by decide +kernel
theorem dX2_works_43 : decode cX2_works 43 = .ok (.aload_n 0, 1) := by decide +kernel
theorem dX2_works_44 : decode cX2_works 44 = .ok (.iload_n 1, 1) := by decide +kernel
theorem dX2_works_45 : decode cX2_works 45 = .ok (.invokevirtual 92, 3) := by decide +kernel
theorem dX2_works_48 : decode cX2_works 48 = .ok (.istore_n 3, 1) := by decide +kernel
theorem dX2_works_49 : decode cX2_works 49 = .ok (.iload_n 3, 1) := by decide +kernel
theorem dX2_works_50 : decode cX2_works 50 = .ok (.sipush 1000, 3) := by decide +kernel
theorem dX2_works_53 : decode cX2_works 53 = .ok (.if_icmp .ge 51, 3) := by decide +kernel
theorem dX2_works_56 : decode cX2_works 56 = .ok (.aload_n 0, 1) := by decide +kernel
theorem dX2_works_57 : decode cX2_works 57 = .ok (.getfield 57, 3) := by decide +kernel
theorem dX2_works_60 : decode cX2_works 60 = .ok (.iload_n 1, 1) := by decide +kernel
theorem dX2_works_61 : decode cX2_works 61 = .ok (.iaload, 1) := by decide +kernel
theorem dX2_works_62 : decode cX2_works 62 = .ok (.iconst (-1), 1) := by decide +kernel
theorem dX2_works_63 : decode cX2_works 63 = .ok (.if_icmp .ne 41, 3) := by decide +kernel
theorem dX2_works_66 : decode cX2_works 66 = .ok (.aload_n 0, 1) := by decide +kernel
theorem dX2_works_67 : decode cX2_works 67 = .ok (.getfield 57, 3) := by decide +kernel
theorem dX2_works_70 : decode cX2_works 70 = .ok (.iload_n 1, 1) := by decide +kernel
theorem dX2_works_71 : decode cX2_works 71 = .ok (.iload_n 2, 1) := by decide +kernel
theorem dX2_works_72 : decode cX2_works 72 = .ok (.invokestatic 95, 3) := by decide +kernel
theorem dX2_works_75 : decode cX2_works 75 = .ok (.aload_n 0, 1) := by decide +kernel
theorem dX2_works_76 : decode cX2_works 76 = .ok (.getfield 42, 3) := by decide +kernel
theorem dX2_works_79 : decode cX2_works 79 = .ok (.iload_n 1, 1) := by decide +kernel
theorem dX2_works_80 : decode cX2_works 80 = .ok (.iaload, 1) := by decide +kernel
theorem dX2_works_81 : decode cX2_works 81 = .ok (.if_icmp .lt 7, 3) := by decide +kernel
theorem dX2_works_84 : decode cX2_works 84 = .ok (.iload_n 3, 1) := by decide +kernel
theorem dX2_works_85 : decode cX2_works 85 = .ok (.goto 4, 3) := by decide +kernel
theorem dX2_works_88 : decode cX2_works 88 = .ok (.iconst (-1), 1) := by decide +kernel
theorem dX2_works_89 : decode cX2_works 89 = .ok (.iastore, 1) := by decide +kernel
theorem dX2_works_90 : decode cX2_works 90 = .ok (.iload_n 2, 1) := by decide +kernel
theorem dX2_works_91 : decode cX2_works 91 = .ok (.aload_n 0, 1) := by decide +kernel
theorem dX2_works_92 : decode cX2_works 92 = .ok (.iload_n 3, 1) := by decide +kernel
theorem dX2_works_93 : decode cX2_works 93 = .ok (.invokevirtual 77, 3) := by decide +kernel
theorem dX2_works_96 : decode cX2_works 96 = .ok (.iadd, 1) := by decide +kernel
theorem dX2_works_97 : decode cX2_works 97 = .ok (.istore_n 2, 1) := by decide +kernel
theorem dX2_works_98 : decode cX2_works 98 = .ok (.iinc 3 1, 3) := by decide +kernel
theorem dX2_works_101 : decode cX2_works 101 = .ok (.goto (-52), 3) := by decide +kernel
theorem dX2_works_104 : decode cX2_works 104 = .ok (.aload_n 0, 1) := by decide +kernel
theorem dX2_works_105 : decode cX2_works 105 = .ok (.getfield 60, 3) := by decide +kernel
theorem dX2_works_108 : decode cX2_works 108 = .ok (.iload_n 1, 1) := by decide +kernel
theorem dX2_works_109 : decode cX2_works 109 = .ok (.aload_n 0, 1) := by decide +kernel
theorem dX2_works_110 : decode cX2_works 110 = .ok (.getfield 57, 3) := by decide +kernel
theorem dX2_works_113 : decode cX2_works 113 = .ok (.iload_n 1, 1) := by decide +kernel
theorem dX2_works_114 : decode cX2_works 114 = .ok (.iaload, 1) := by decide +kernel
theorem dX2_works_115 : decode cX2_works 115 = .ok (.iconst (-1), 1) := by decide +kernel
theorem dX2_works_116 : decode cX2_works 116 = .ok (.if_icmp .ne 9, 3) := by decide +kernel
theorem dX2_works_119 : decode cX2_works 119 = .ok (.sipush 1000, 3) := by decide +kernel
theorem dX2_works_122 : decode cX2_works 122 = .ok (.goto 14, 3) := by decide +kernel
theorem dX2_works_125 : decode cX2_works 125 = .ok (.aload_n 0, 1) := by decide +kernel
theorem dX2_works_126 : decode cX2_works 126 = .ok (.getfield 57, 3) := by decide +kernel
theorem dX2_works_129 : decode cX2_works 129 = .ok (.iload_n 1, 1) := by decide +kernel
theorem dX2_works_130 : decode cX2_works 130 = .ok (.iaload, 1) := by decide +kernel
theorem dX2_works_131 : decode cX2_works 131 = .ok (.aload_n 0, 1) := by decide +kernel
theorem dX2_works_132 : decode cX2_works 132 = .ok (.getfield 26, 3) := by decide +kernel
theorem dX2_works_135 : decode cX2_works 135 = .ok (.iadd, 1) := by decide +kernel
theorem dX2_works_136 : decode cX2_works 136 = .ok (.iastore, 1) := by decide +kernel
theorem dX2_works_137 : decode cX2_works 137 = .ok (.return_, 1) := by decide +kernel
theorem dX2_isBusy_0 : decode cX2_isBusy 0 = .ok (.aload_n 0, 1) := by decide +kernel
theorem dX2_isBusy_1 : decode cX2_isBusy 1 = .ok (.getfield 29, 3) := by decide +kernel
theorem dX2_isBusy_4 : decode cX2_isBusy 4 = .ok (.iload_n 1, 1) := by decide +kernel
theorem dX2_isBusy_5 : decode cX2_isBusy 5 = .ok (.baload, 1) := by decide +kernel
theorem dX2_isBusy_6 : decode cX2_isBusy 6 = .ok (.ifCond .eq 27, 3) := by decide +kernel
theorem dX2_isBusy_9 : decode cX2_isBusy 9 = .ok (.iload_n 2, 1) := by decide +kernel
theorem dX2_isBusy_10 : decode cX2_isBusy 10 = .ok (.aload_n 0, 1) := by decide +kernel
theorem dX2_isBusy_11 : decode cX2_isBusy 11 = .ok (.getfield 54, 3) := by decide +kernel
theorem dX2_isBusy_14 : decode cX2_isBusy 14 = .ok (.iload_n 1, 1) := by decide +kernel
theorem dX2_isBusy_15 : decode cX2_isBusy 15 = .ok (.iaload, 1) := by decide +kernel
theorem dX2_isBusy_16 : decode cX2_isBusy 16 = .ok (.if_icmp .lt 17, 3) := by decide +kernel
theorem dX2_isBusy_19 : decode cX2_isBusy 19 = .ok (.iload_n 2, 1) := by decide +kernel
theorem dX2_isBusy_20 : decode cX2_isBusy 20 = .ok (.aload_n 0, 1) := by decide +kernel
theorem dX2_isBusy_21 : decode cX2_isBusy 21 = .ok (.getfield 60, 3) := by decide +kernel
theorem dX2_isBusy_24 : decode cX2_isBusy 24 = .ok (.iload_n 1, 1) := by decide +kernel
theorem dX2_isBusy_25 : decode cX2_isBusy 25 = .ok (.iaload, 1) := by decide +kernel
theorem dX2_isBusy_26 : decode cX2_isBusy 26 = .ok (.if_icmp .ge 7, 3) := by decide +kernel
theorem dX2_isBusy_29 : decode cX2_isBusy 29 = .ok (.iconst 1, 1) := by decide +kernel
theorem dX2_isBusy_30 : decode cX2_isBusy 30 = .ok (.goto 4, 3) := by decide +kernel
theorem dX2_isBusy_33 : decode cX2_isBusy 33 = .ok (.iconst 0, 1) := by decide +kernel
theorem dX2_isBusy_34 : decode cX2_isBusy 34 = .ok (.ireturn, 1) := by decide +kernel
set_option maxRecDepth 20000 in
theorem ggX2_worksAll_X2_works : GoodIn wsX2_worksAll wsX2_works := goodIn_r _ [6, 7, 8, 9, 10, 11, 12, 13, 14, 15, 16, 5, 17, 18, 19, 20, 21, 22, 23, 24, 25, 26, 27, 28, 29, 30, 31, 32, 33, 34, 35, 36, 37, 38, 39, 40, 41, 42, 43, 44, 45, 46, 47, 48, 49, 50, 51, 52, 53, 54, 55, 56, 57, 58, 59, 60, 61, 62, 63, 64, 65, 66] (by decide +kernel) (by decide +kernel)
set_option maxRecDepth 20000 in
theorem gX2_worksAll_X2_works : GoodIn wsX2_worksAll (wsV RX2 98 RX2 yX2_works wsX2_works) := goodIn_app (goodIn_of _ (by decide +kernel)) ggX2_worksAll_X2_works
theorem dX2_worksAll_0 : decode cX2_worksAll 0 = .ok (.iconst 0, 1) := by decide +kernel
theorem dX2_worksAll_1 : decode cX2_worksAll 1 = .ok (.istore_n 1, 1) := by decide +kernel
theorem dX2_worksAll_2 : decode cX2_worksAll 2 = .ok (.iload_n 1, 1) := by decide +kernel
theorem dX2_worksAll_3 : decode cX2_worksAll 3 = .ok (.bipush 10, 2) := by decide +kernel
theorem dX2_worksAll_5 : decode cX2_worksAll 5 = .ok (.if_icmp .ge 23, 3) := by decide +kernel
theorem dX2_worksAll_8 : decode cX2_worksAll 8 = .ok (.aload_n 0, 1) := by decide +kernel
theorem dX2_worksAll_9 : decode cX2_worksAll 9 = .ok (.getfield 29, 3) := by decide +kernel
theorem dX2_worksAll_12 : decode cX2_worksAll 12 = .ok (.iload_n 1, 1) := by decide +kernel
theorem dX2_worksAll_13 : decode cX2_worksAll 13 = .ok (.baload, 1) := by decide +kernel
theorem dX2_worksAll_14 : decode cX2_worksAll 14 = .ok (.ifCond .eq 8, 3) := by decide +kernel
theorem dX2_worksAll_17 : decode cX2_worksAll 17 = .ok (.aload_n 0, 1) := by decide +kernel
theorem dX2_worksAll_18 : decode cX2_worksAll 18 = .ok (.iload_n 1, 1) := by decide +kernel
theorem dX2_worksAll_19 : decode cX2_worksAll 19 = .ok (.invokevirtual 98, 3) := by decide +kernel
theorem dX2_worksAll_22 : decode cX2_worksAll 22 = .ok (.iinc 1 1, 3) := by decide +kernel
theorem dX2_worksAll_25 : decode cX2_worksAll 25 = .ok (.goto (-23), 3) := by decide +kernel
theorem dX2_worksAll_28 : decode cX2_worksAll 28 = .ok (.return_, 1) := by decide +kernel
set_option maxRecDepth 20000 in
theorem ggX2_needOf_X2_isBusy : GoodIn wsX2_needOf wsX2_isBusy := goodIn_r _ [6, 7, 8, 9, 10, 11, 12, 13, 14, 15, 16, 17, 18, 19, 20, 21, 22, 23, 24, 25, 26, 27, 28] (by decide +kernel) (by decide +kernel)
set_option maxRecDepth 20000 in
theorem gX2_needOf_X2_isBusy : GoodIn wsX2_needOf (wsV RX2 102 RX2 yX2_isBusy wsX2_isBusy) := goodIn_app (goodIn_of _ (by decide +kernel)) ggX2_needOf_X2_isBusy
theorem dX2_needOf_0 : decode cX2_needOf 0 = .ok (.iconst 0, 1) := by decide +kernel
theorem dX2_needOf_1 : decode cX2_needOf 1 = .ok (.istore_n 2, 1) := by decide +kernel
theorem dX2_needOf_2 : decode cX2_needOf 2 = .ok (.iconst 0, 1) := by decide +kernel
theorem dX2_needOf_3 : decode cX2_needOf 3 = .ok (.istore_n 3, 1) := by decide +kernel
theorem dX2_needOf_4 : decode cX2_needOf 4 = .ok (.iload_n 3, 1) := by decide +kernel
theorem dX2_needOf_5 : decode cX2_needOf 5 = .ok (.bipush 10, 2) := by decide +kernel
theorem dX2_needOf_7 : decode cX2_needOf 7 = .ok (.if_icmp .ge 31, 3) := by decide +kernel
theorem dX2_needOf_10 : decode cX2_needOf 10 = .ok (.iload_n 2, 1) := by decide +kernel
theorem dX2_needOf_11 : decode cX2_needOf 11 = .ok (.aload_n 0, 1) := by decide +kernel
theorem dX2_needOf_12 : decode cX2_needOf 12 = .ok (.iload_n 3, 1) := by decide +kernel
theorem dX2_needOf_13 : decode cX2_needOf 13 = .ok (.iload_n 1, 1) := by decide +kernel
theorem dX2_needOf_14 : decode cX2_needOf 14 = .ok (.invokevirtual 102, 3) := by decide +kernel
theorem dX2_needOf_17 : decode cX2_needOf 17 = .ok (.ifCond .eq 12, 3) := by decide +kernel
theorem dX2_needOf_20 : decode cX2_needOf 20 = .ok (.aload_n 0, 1) := by decide +kernel
theorem dX2_needOf_21 : decode cX2_needOf 21 = .ok (.getfield 39, 3) := by decide +kernel
theorem dX2_needOf_24 : decode cX2_needOf 24 = .ok (.iload_n 3, 1) := by decide +kernel
theorem dX2_needOf_25 : decode cX2_needOf 25 = .ok (.iaload, 1) := by decide +kernel
theorem dX2_needOf_26 : decode cX2_needOf 26 = .ok (.goto 4, 3) := by decide +kernel
theorem dX2_needOf_29 : decode cX2_needOf 29 = .ok (.iconst 0, 1) := by decide +kernel
theorem dX2_needOf_30 : decode cX2_needOf 30 = .ok (.iadd, 1) := by decide +kernel
theorem dX2_needOf_31 : decode cX2_needOf 31 = .ok (.istore_n 2, 1) := by decide +kernel
theorem dX2_needOf_32 : decode cX2_needOf 32 = .ok (.iinc 3 1, 3) := by decide +kernel
theorem dX2_needOf_35 : decode cX2_needOf 35 = .ok (.goto (-31), 3) := by decide +kernel
theorem dX2_needOf_38 : decode cX2_needOf 38 = .ok (.iload_n 2, 1) := by decide +kernel
theorem dX2_needOf_39 : decode cX2_needOf 39 = .ok (.ireturn, 1) := by decide +kernel
set_option maxRecDepth 20000 in
theorem ggX2_setTemperature_X2_isHour : GoodIn wsX2_setTemperature wsX2_isHour := goodIn_r _ [6, 7, 8, 5, 9] (by decide +kernel) (by decide +kernel)
set_option maxRecDepth 20000 in
theorem gX2_setTemperature_X2_isHour : GoodIn wsX2_setTemperature (va_wsS RX2 73 yX2_isHour wsX2_isHour) := goodIn_app (goodIn_of _ (by decide +kernel)) ggX2_setTemperature_X2_isHour
set_option maxRecDepth 20000 in
theorem ggX2_setTemperature_X2_in : GoodIn wsX2_setTemperature wsX2_in := goodIn_r _ [9] (by decide +kernel) (by decide +kernel)
set_option maxRecDepth 20000 in
theorem gX2_setTemperature_X2_in : GoodIn wsX2_setTemperature (va_wsS RX2 69 yX2_in wsX2_in) := goodIn_app (goodIn_of _ (by decide +kernel)) ggX2_setTemperature_X2_in
theorem dX2_setTemperature_0 : decode cX2_setTemperature 0 = .ok (.aload_n 0, 1) := by decide +kernel
theorem dX2_setTemperature_1 : decode cX2_setTemperature 1 = .ok (.iload_n 1, 1) := by decide +kernel
theorem dX2_setTemperature_2 : decode cX2_setTemperature 2 = .ok (.invokestatic 73, 3) := by decide +kernel
theorem dX2_setTemperature_5 : decode cX2_setTemperature 5 = .ok (.ifCond .eq 10, 3) := by decide +kernel
theorem dX2_setTemperature_8 : decode cX2_setTemperature 8 = .ok (.iload_n 2, 1) := by decide +kernel
theorem dX2_setTemperature_9 : decode cX2_setTemperature 9 = .ok (.invokestatic 73, 3) := by decide +kernel
theorem dX2_setTemperature_12 : decode cX2_setTemperature 12 = .ok (.ifCond .ne 7, 3) := by decide +kernel
theorem dX2_setTemperature_15 : decode cX2_setTemperature 15 = .ok (.iconst 1, 1) := by decide +kernel
theorem dX2_setTemperature_16 : decode cX2_setTemperature 16 = .ok (.goto 24, 3) := by decide +kernel
theorem dX2_setTemperature_19 : decode cX2_setTemperature 19 = .ok (.iload_n 2, 1) := by decide +kernel
theorem dX2_setTemperature_20 : decode cX2_setTemperature 20 = .ok (.iload_n 1, 1) := by decide +kernel
theorem dX2_setTemperature_21 : decode cX2_setTemperature 21 = .ok (.if_icmp .lt 18, 3) := by decide +kernel
theorem dX2_setTemperature_24 : decode cX2_setTemperature 24 = .ok (.iload_n 3, 1) := by decide +kernel
theorem dX2_setTemperature_25 : decode cX2_setTemperature 25 = .ok (.bipush (-40), 2) := by decide +kernel
theorem dX2_setTemperature_27 : decode cX2_setTemperature 27 = .ok (.bipush 50, 2) := by decide +kernel
theorem dX2_setTemperature_29 : decode cX2_setTemperature 29 = .ok (.invokestatic 69, 3) := by decide +kernel
theorem dX2_setTemperature_32 : decode cX2_setTemperature 32 = .ok (.ifCond .eq 7, 3) := by decide +kernel
theorem dX2_setTemperature_35 : decode cX2_setTemperature 35 = .ok (.iconst 0, 1) := by decide +kernel
theorem dX2_setTemperature_36 : decode cX2_setTemperature 36 = .ok (.goto 4, 3) := by decide +kernel
theorem dX2_setTemperature_39 : decode cX2_setTemperature 39 = .ok (.iconst 2, 1) := by decide +kernel
theorem dX2_setTemperature_40 : decode cX2_setTemperature 40 = .ok (.putfield 66, 3) := by decide +kernel
theorem dX2_setTemperature_43 : decode cX2_setTemperature 43 = .ok (.iload_n 1, 1) := by decide +kernel
theorem dX2_setTemperature_44 : decode cX2_setTemperature 44 = .ok (.istore 4, 2) := by decide +kernel
theorem dX2_setTemperature_46 : decode cX2_setTemperature 46 = .ok (.aload_n 0, 1) := by decide +kernel
theorem dX2_setTemperature_47 : decode cX2_setTemperature 47 = .ok (.getfield 66, 3) := by decide +kernel
theorem dX2_setTemperature_50 : decode cX2_setTemperature 50 = .ok (.ifCond .ne 23, 3) := by decide +kernel
theorem dX2_setTemperature_53 : decode cX2_setTemperature 53 = .ok (.iload 4, 2) := by decide +kernel
theorem dX2_setTemperature_55 : decode cX2_setTemperature 55 = .ok (.iload_n 2, 1) := by decide +kernel
theorem dX2_setTemperature_56 : decode cX2_setTemperature 56 = .ok (.if_icmp .gt 17, 3) := by decide +kernel
theorem dX2_setTemperature_59 : decode cX2_setTemperature 59 = .ok (.aload_n 0, 1) := by decide +kernel
theorem dX2_setTemperature_60 : decode cX2_setTemperature 60 = .ok (.getfield 7, 3) := by decide +kernel
theorem dX2_setTemperature_63 : decode cX2_setTemperature 63 = .ok (.iload 4, 2) := by decide +kernel
theorem dX2_setTemperature_65 : decode cX2_setTemperature 65 = .ok (.iload_n 3, 1) := by decide +kernel
theorem dX2_setTemperature_66 : decode cX2_setTemperature 66 = .ok (.iastore, 1) := by decide +kernel
theorem dX2_setTemperature_67 : decode cX2_setTemperature 67 = .ok (.iinc 4 1, 3) := by decide +kernel
theorem dX2_setTemperature_70 : decode cX2_setTemperature 70 = .ok (.goto (-24), 3) := by decide +kernel
theorem dX2_setTemperature_73 : decode cX2_setTemperature 73 = .ok (.return_, 1) := by decide +kernel
set_option maxRecDepth 20000 in
theorem ggX2_temperature_X2_isHour : GoodIn wsX2_temperature wsX2_isHour := goodIn_r _ [6, 7, 8, 5, 9] (by decide +kernel) (by decide +kernel)
set_option maxRecDepth 20000 in
theorem gX2_temperature_X2_isHour : GoodIn wsX2_temperature (va_wsS RX2 73 yX2_isHour wsX2_isHour) := goodIn_app (goodIn_of _ (by decide +kernel)) ggX2_temperature_X2_isHour
set_option maxRecDepth 20000 in
theorem ggX2_temperature_X2_fails : GoodIn wsX2_temperature wsX2_fails := goodIn_r _ [13, 1, 14, 15, 16, 17, 18, 19, 20, 21, 22, 23, 24, 25, 26, 27, 28, 29, 30, 31, 32] (by decide +kernel) (by decide +kernel)
set_option maxRecDepth 20000 in
theorem gX2_temperature_X2_fails : GoodIn wsX2_temperature (wsV RX2 106 RX2 yX2_fails wsX2_fails) := goodIn_app (goodIn_of _ (by decide +kernel)) ggX2_temperature_X2_fails
theorem dX2_temperature_0 : decode cX2_temperature 0 = .ok (.aload_n 0, 1) := by decide +kernel
theorem dX2_temperature_1 : decode cX2_temperature 1 = .ok (.iconst 0, 1) := by decide +kernel
theorem dX2_temperature_2 : decode cX2_temperature 2 = .ok (.putfield 66, 3) := by decide +kernel
theorem dX2_temperature_5 : decode cX2_temperature 5 = .ok (.iload_n 1, 1) := by decide +kernel
theorem dX2_temperature_6 : decode cX2_temperature 6 = .ok (.invokestatic 73, 3) := by decide +kernel
theorem dX2_temperature_9 : decode cX2_temperature 9 = .ok (.ifCond .eq 12, 3) := by decide +kernel
theorem dX2_temperature_12 : decode cX2_temperature 12 = .ok (.aload_n 0, 1) := by decide +kernel
theorem dX2_temperature_13 : decode cX2_temperature 13 = .ok (.getfield 7, 3) := by decide +kernel
theorem dX2_temperature_16 : decode cX2_temperature 16 = .ok (.iload_n 1, 1) := by decide +kernel
theorem dX2_temperature_17 : decode cX2_temperature 17 = .ok (.iaload, 1) := by decide +kernel
theorem dX2_temperature_18 : decode cX2_temperature 18 = .ok (.goto 8, 3) := by decide +kernel
theorem dX2_temperature_21 : decode cX2_temperature 21 = .ok (.aload_n 0, 1) := by decide +kernel
theorem dX2_temperature_22 : decode cX2_temperature 22 = .ok (.iconst 1, 1) := by decide +kernel
theorem dX2_temperature_23 : decode cX2_temperature 23 = .ok (.invokevirtual 106, 3) := by decide +kernel
theorem dX2_temperature_26 : decode cX2_temperature 26 = .ok (.ireturn, 1) := by decide +kernel
set_option maxRecDepth 20000 in
theorem ggX2_maturity_X2_isHour : GoodIn wsX2_maturity wsX2_isHour := goodIn_r _ [5, 6, 7, 4, 8] (by decide +kernel) (by decide +kernel)
set_option maxRecDepth 20000 in
theorem gX2_maturity_X2_isHour : GoodIn wsX2_maturity (va_wsS RX2 73 yX2_isHour wsX2_isHour) := goodIn_app (goodIn_of _ (by decide +kernel)) ggX2_maturity_X2_isHour
set_option maxRecDepth 20000 in
theorem ggX2_maturity_X2_sum : GoodIn wsX2_maturity wsX2_sum := goodIn_r _ [12, 13, 14, 15, 4, 16, 17, 2, 3, 5, 6, 7, 8, 18, 19, 20, 21, 22, 23, 24, 25, 26, 27, 28, 29, 30, 31, 32, 33, 34, 35, 36] (by decide +kernel) (by decide +kernel)
set_option maxRecDepth 20000 in
theorem gX2_maturity_X2_sum : GoodIn wsX2_maturity (wsV RX2 109 RX2 yX2_sum wsX2_sum) := goodIn_app (goodIn_of _ (by decide +kernel)) ggX2_maturity_X2_sum
theorem dX2_maturity_0 : decode cX2_maturity 0 = .ok (.aload_n 0, 1) := by decide +kernel
theorem dX2_maturity_1 : decode cX2_maturity 1 = .ok (.iload_n 1, 1) := by decide +kernel
theorem dX2_maturity_2 : decode cX2_maturity 2 = .ok (.invokestatic 73, 3) := by decide +kernel
theorem dX2_maturity_5 : decode cX2_maturity 5 = .ok (.ifCond .eq 14, 3) := by decide +kernel
theorem dX2_maturity_8 : decode cX2_maturity 8 = .ok (.iload_n 2, 1) := by decide +kernel
theorem dX2_maturity_9 : decode cX2_maturity 9 = .ok (.invokestatic 73, 3) := by decide +kernel
theorem dX2_maturity_12 : decode cX2_maturity 12 = .ok (.ifCond .eq 7, 3) := by decide +kernel
theorem dX2_maturity_15 : decode cX2_maturity 15 = .ok (.iconst 0, 1) := by decide +kernel
theorem dX2_maturity_16 : decode cX2_maturity 16 = .ok (.goto 4, 3) := by decide +kernel
theorem dX2_maturity_19 : decode cX2_maturity 19 = .ok (.iconst 1, 1) := by decide +kernel
theorem dX2_maturity_20 : decode cX2_maturity 20 = .ok (.putfield 66, 3) := by decide +kernel
theorem dX2_maturity_23 : decode cX2_maturity 23 = .ok (.aload_n 0, 1) := by decide +kernel
theorem dX2_maturity_24 : decode cX2_maturity 24 = .ok (.getfield 66, 3) := by decide +kernel
theorem dX2_maturity_27 : decode cX2_maturity 27 = .ok (.ifCond .le 7, 3) := by decide +kernel
theorem dX2_maturity_30 : decode cX2_maturity 30 = .ok (.iconst 0, 1) := by decide +kernel
theorem dX2_maturity_31 : decode cX2_maturity 31 = .ok (.goto 9, 3) := by decide +kernel
theorem dX2_maturity_34 : decode cX2_maturity 34 = .ok (.aload_n 0, 1) := by decide +kernel
theorem dX2_maturity_35 : decode cX2_maturity 35 = .ok (.iload_n 1, 1) := by decide +kernel
theorem dX2_maturity_36 : decode cX2_maturity 36 = .ok (.iload_n 2, 1) := by decide +kernel
theorem dX2_maturity_37 : decode cX2_maturity 37 = .ok (.invokevirtual 109, 3) := by decide +kernel
theorem dX2_maturity_40 : decode cX2_maturity 40 = .ok (.ireturn, 1) := by decide +kernel
set_option maxRecDepth 20000 in
theorem ggX2_strength_X2_in : GoodIn wsX2_strength wsX2_in := goodIn_r _ [6] (by decide +kernel) (by decide +kernel)
set_option maxRecDepth 20000 in
theorem gX2_strength_X2_in : GoodIn wsX2_strength (va_wsS RX2 69 yX2_in wsX2_in) := goodIn_app (goodIn_of _ (by decide +kernel)) ggX2_strength_X2_in
set_option maxRecDepth 20000 in
theorem ggX2_strength_X2_strong : GoodIn wsX2_strength wsX2_strong := goodIn_r _ [9, 10, 11, 5, 12] (by decide +kernel) (by decide +kernel)
set_option maxRecDepth 20000 in
theorem gX2_strength_X2_strong : GoodIn wsX2_strength (va_wsS RX2 95 yX2_strong wsX2_strong) := goodIn_app (goodIn_of _ (by decide +kernel)) ggX2_strength_X2_strong
set_option maxRecDepth 20000 in
theorem ggX2_strength_X2_fails : GoodIn wsX2_strength wsX2_fails := goodIn_r _ [16, 1, 17, 18, 19, 20, 21, 22, 23, 24, 25, 26, 27, 28, 29, 30, 31, 32, 33, 34, 35] (by decide +kernel) (by decide +kernel)
set_option maxRecDepth 20000 in
theorem gX2_strength_X2_fails : GoodIn wsX2_strength (wsV RX2 106 RX2 yX2_fails wsX2_fails) := goodIn_app (goodIn_of _ (by decide +kernel)) ggX2_strength_X2_fails
theorem dX2_strength_0 : decode cX2_strength 0 = .ok (.aload_n 0, 1) := by decide +kernel
theorem dX2_strength_1 : decode cX2_strength 1 = .ok (.iconst 0, 1) := by decide +kernel
theorem dX2_strength_2 : decode cX2_strength 2 = .ok (.putfield 66, 3) := by decide +kernel
theorem dX2_strength_5 : decode cX2_strength 5 = .ok (.iload_n 1, 1) := by decide +kernel
theorem dX2_strength_6 : decode cX2_strength 6 = .ok (.iconst 0, 1) := by decide +kernel
theorem dX2_strength_7 : decode cX2_strength 7 = .ok (.ldc 113, 2) := by decide +kernel
theorem dX2_strength_9 : decode cX2_strength 9 = .ok (.invokestatic 69, 3) := by decide +kernel
theorem dX2_strength_12 : decode cX2_strength 12 = .ok (.ifCond .eq 10, 3) := by decide +kernel
theorem dX2_strength_15 : decode cX2_strength 15 = .ok (.iload_n 1, 1) := by decide +kernel
theorem dX2_strength_16 : decode cX2_strength 16 = .ok (.invokestatic 95, 3) := by decide +kernel
theorem dX2_strength_19 : decode cX2_strength 19 = .ok (.goto 8, 3) := by decide +kernel
theorem dX2_strength_22 : decode cX2_strength 22 = .ok (.aload_n 0, 1) := by decide +kernel
theorem dX2_strength_23 : decode cX2_strength 23 = .ok (.iconst 1, 1) := by decide +kernel
theorem dX2_strength_24 : decode cX2_strength 24 = .ok (.invokevirtual 106, 3) := by decide +kernel
theorem dX2_strength_27 : decode cX2_strength 27 = .ok (.ireturn, 1) := by decide +kernel
set_option maxRecDepth 20000 in
theorem ggX2_setPanels_X2_in : GoodIn wsX2_setPanels wsX2_in := goodIn_r _ [6] (by decide +kernel) (by decide +kernel)
set_option maxRecDepth 20000 in
theorem gX2_setPanels_X2_in : GoodIn wsX2_setPanels (va_wsS RX2 69 yX2_in wsX2_in) := goodIn_app (goodIn_of _ (by decide +kernel)) ggX2_setPanels_X2_in
theorem dX2_setPanels_0 : decode cX2_setPanels 0 = .ok (.aload_n 0, 1) := by decide +kernel
theorem dX2_setPanels_1 : decode cX2_setPanels 1 = .ok (.iload_n 1, 1) := by decide +kernel
theorem dX2_setPanels_2 : decode cX2_setPanels 2 = .ok (.iconst 0, 1) := by decide +kernel
theorem dX2_setPanels_3 : decode cX2_setPanels 3 = .ok (.bipush 60, 2) := by decide +kernel
theorem dX2_setPanels_5 : decode cX2_setPanels 5 = .ok (.invokestatic 69, 3) := by decide +kernel
theorem dX2_setPanels_8 : decode cX2_setPanels 8 = .ok (.ifCond .eq 7, 3) := by decide +kernel
theorem dX2_setPanels_11 : decode cX2_setPanels 11 = .ok (.iconst 0, 1) := by decide +kernel
theorem dX2_setPanels_12 : decode cX2_setPanels 12 = .ok (.goto 4, 3) := by decide +kernel
theorem dX2_setPanels_15 : decode cX2_setPanels 15 = .ok (.iconst 1, 1) := by decide +kernel
theorem dX2_setPanels_16 : decode cX2_setPanels 16 = .ok (.putfield 66, 3) := by decide +kernel
theorem dX2_setPanels_19 : decode cX2_setPanels 19 = .ok (.aload_n 0, 1) := by decide +kernel
theorem dX2_setPanels_20 : decode cX2_setPanels 20 = .ok (.getfield 66, 3) := by decide +kernel
theorem dX2_setPanels_23 : decode cX2_setPanels 23 = .ok (.ifCond .le 5, 3) := by decide +kernel
theorem dX2_setPanels_26 : decode cX2_setPanels 26 = .ok (.iconst 0, 1) := by decide +kernel
theorem dX2_setPanels_27 : decode cX2_setPanels 27 = .ok (.ireturn, 1) := by decide +kernel
theorem dX2_setPanels_28 : decode cX2_setPanels 28 = .ok (.aload_n 0, 1) := by decide +kernel
theorem dX2_setPanels_29 : decode cX2_setPanels 29 = .ok (.getfield 13, 3) := by decide +kernel
theorem dX2_setPanels_32 : decode cX2_setPanels 32 = .ok (.istore_n 2, 1) := by decide +kernel
theorem dX2_setPanels_33 : decode cX2_setPanels 33 = .ok (.aload_n 0, 1) := by decide +kernel
theorem dX2_setPanels_34 : decode cX2_setPanels 34 = .ok (.iload_n 1, 1) := by decide +kernel
theorem dX2_setPanels_35 : decode cX2_setPanels 35 = .ok (.putfield 13, 3) := by decide +kernel
theorem dX2_setPanels_38 : decode cX2_setPanels 38 = .ok (.iload_n 2, 1) := by decide +kernel
theorem dX2_setPanels_39 : decode cX2_setPanels 39 = .ok (.ireturn, 1) := by decide +kernel
set_option maxRecDepth 20000 in
theorem ggX2_setRates_X2_in : GoodIn wsX2_setRates wsX2_in := goodIn_r _ [7] (by decide +kernel) (by decide +kernel)
set_option maxRecDepth 20000 in
theorem gX2_setRates_X2_in : GoodIn wsX2_setRates (va_wsS RX2 69 yX2_in wsX2_in) := goodIn_app (goodIn_of _ (by decide +kernel)) ggX2_setRates_X2_in
set_option maxRecDepth 20000 in
theorem ggX2_setRates_X2_rate : GoodIn wsX2_setRates wsX2_rate := goodIn_r _ [11, 2, 3, 12, 13, 14, 15, 16, 17, 18, 19, 20, 21, 22, 23, 24, 25, 26, 27, 28, 29, 30] (by decide +kernel) (by decide +kernel)
set_option maxRecDepth 20000 in
theorem gX2_setRates_X2_rate : GoodIn wsX2_setRates (wsV RX2 85 RX2 yX2_rate wsX2_rate) := goodIn_app (goodIn_of _ (by decide +kernel)) ggX2_setRates_X2_rate
theorem dX2_setRates_0 : decode cX2_setRates 0 = .ok (.aload_n 0, 1) := by decide +kernel
theorem dX2_setRates_1 : decode cX2_setRates 1 = .ok (.iload_n 1, 1) := by decide +kernel
theorem dX2_setRates_2 : decode cX2_setRates 2 = .ok (.iconst 1, 1) := by decide +kernel
theorem dX2_setRates_3 : decode cX2_setRates 3 = .ok (.bipush 50, 2) := by decide +kernel
theorem dX2_setRates_5 : decode cX2_setRates 5 = .ok (.invokestatic 69, 3) := by decide +kernel
theorem dX2_setRates_8 : decode cX2_setRates 8 = .ok (.ifCond .eq 17, 3) := by decide +kernel
theorem dX2_setRates_11 : decode cX2_setRates 11 = .ok (.iload_n 2, 1) := by decide +kernel
theorem dX2_setRates_12 : decode cX2_setRates 12 = .ok (.iconst 1, 1) := by decide +kernel
theorem dX2_setRates_13 : decode cX2_setRates 13 = .ok (.bipush 50, 2) := by decide +kernel
theorem dX2_setRates_15 : decode cX2_setRates 15 = .ok (.invokestatic 69, 3) := by decide +kernel
theorem dX2_setRates_18 : decode cX2_setRates 18 = .ok (.ifCond .eq 7, 3) := by decide +kernel
theorem dX2_setRates_21 : decode cX2_setRates 21 = .ok (.iconst 0, 1) := by decide +kernel
theorem dX2_setRates_22 : decode cX2_setRates 22 = .ok (.goto 4, 3) := by decide +kernel
theorem dX2_setRates_25 : decode cX2_setRates 25 = .ok (.iconst 1, 1) := by decide +kernel
theorem dX2_setRates_26 : decode cX2_setRates 26 = .ok (.putfield 66, 3) := by decide +kernel
theorem dX2_setRates_29 : decode cX2_setRates 29 = .ok (.aload_n 0, 1) := by decide +kernel
theorem dX2_setRates_30 : decode cX2_setRates 30 = .ok (.getfield 66, 3) := by decide +kernel
theorem dX2_setRates_33 : decode cX2_setRates 33 = .ok (.ifCond .le 5, 3) := by decide +kernel
theorem dX2_setRates_36 : decode cX2_setRates 36 = .ok (.iconst 0, 1) := by decide +kernel
theorem dX2_setRates_37 : decode cX2_setRates 37 = .ok (.ireturn, 1) := by decide +kernel
theorem dX2_setRates_38 : decode cX2_setRates 38 = .ok (.aload_n 0, 1) := by decide +kernel
theorem dX2_setRates_39 : decode cX2_setRates 39 = .ok (.iload_n 1, 1) := by decide +kernel
theorem dX2_setRates_40 : decode cX2_setRates 40 = .ok (.putfield 17, 3) := by decide +kernel
theorem dX2_setRates_43 : decode cX2_setRates 43 = .ok (.aload_n 0, 1) := by decide +kernel
theorem dX2_setRates_44 : decode cX2_setRates 44 = .ok (.iload_n 2, 1) := by decide +kernel
theorem dX2_setRates_45 : decode cX2_setRates 45 = .ok (.putfield 20, 3) := by decide +kernel
theorem dX2_setRates_48 : decode cX2_setRates 48 = .ok (.aload_n 0, 1) := by decide +kernel
theorem dX2_setRates_49 : decode cX2_setRates 49 = .ok (.invokevirtual 85, 3) := by decide +kernel
theorem dX2_setRates_52 : decode cX2_setRates 52 = .ok (.ireturn, 1) := by decide +kernel
set_option maxRecDepth 20000 in
theorem ggX2_setCrew_X2_in : GoodIn wsX2_setCrew wsX2_in := goodIn_r _ [7] (by decide +kernel) (by decide +kernel)
set_option maxRecDepth 20000 in
theorem gX2_setCrew_X2_in : GoodIn wsX2_setCrew (va_wsS RX2 69 yX2_in wsX2_in) := goodIn_app (goodIn_of _ (by decide +kernel)) ggX2_setCrew_X2_in
theorem dX2_setCrew_0 : decode cX2_setCrew 0 = .ok (.aload_n 0, 1) := by decide +kernel
theorem dX2_setCrew_1 : decode cX2_setCrew 1 = .ok (.iload_n 1, 1) := by decide +kernel
theorem dX2_setCrew_2 : decode cX2_setCrew 2 = .ok (.iconst 0, 1) := by decide +kernel
theorem dX2_setCrew_3 : decode cX2_setCrew 3 = .ok (.bipush 24, 2) := by decide +kernel
theorem dX2_setCrew_5 : decode cX2_setCrew 5 = .ok (.invokestatic 69, 3) := by decide +kernel
theorem dX2_setCrew_8 : decode cX2_setCrew 8 = .ok (.ifCond .eq 17, 3) := by decide +kernel
theorem dX2_setCrew_11 : decode cX2_setCrew 11 = .ok (.iload_n 2, 1) := by decide +kernel
theorem dX2_setCrew_12 : decode cX2_setCrew 12 = .ok (.iconst 0, 1) := by decide +kernel
theorem dX2_setCrew_13 : decode cX2_setCrew 13 = .ok (.bipush 24, 2) := by decide +kernel
theorem dX2_setCrew_15 : decode cX2_setCrew 15 = .ok (.invokestatic 69, 3) := by decide +kernel
theorem dX2_setCrew_18 : decode cX2_setCrew 18 = .ok (.ifCond .eq 7, 3) := by decide +kernel
theorem dX2_setCrew_21 : decode cX2_setCrew 21 = .ok (.iconst 0, 1) := by decide +kernel
theorem dX2_setCrew_22 : decode cX2_setCrew 22 = .ok (.goto 4, 3) := by decide +kernel
theorem dX2_setCrew_25 : decode cX2_setCrew 25 = .ok (.iconst 1, 1) := by decide +kernel
theorem dX2_setCrew_26 : decode cX2_setCrew 26 = .ok (.putfield 66, 3) := by decide +kernel
theorem dX2_setCrew_29 : decode cX2_setCrew 29 = .ok (.aload_n 0, 1) := by decide +kernel
theorem dX2_setCrew_30 : decode cX2_setCrew 30 = .ok (.getfield 66, 3) := by decide +kernel
theorem dX2_setCrew_33 : decode cX2_setCrew 33 = .ok (.ifCond .ne 13, 3) := by decide +kernel
theorem dX2_setCrew_36 : decode cX2_setCrew 36 = .ok (.aload_n 0, 1) := by decide +kernel
theorem dX2_setCrew_37 : decode cX2_setCrew 37 = .ok (.iload_n 1, 1) := by decide +kernel
theorem dX2_setCrew_38 : decode cX2_setCrew 38 = .ok (.putfield 23, 3) := by decide +kernel
theorem dX2_setCrew_41 : decode cX2_setCrew 41 = .ok (.aload_n 0, 1) := by decide +kernel
theorem dX2_setCrew_42 : decode cX2_setCrew 42 = .ok (.iload_n 2, 1) := by decide +kernel
theorem dX2_setCrew_43 : decode cX2_setCrew 43 = .ok (.putfield 26, 3) := by decide +kernel
theorem dX2_setCrew_46 : decode cX2_setCrew 46 = .ok (.return_, 1) := by decide +kernel
set_option maxRecDepth 20000 in
theorem ggX2_isPlan_X2_in : GoodIn wsX2_isPlan wsX2_in := goodIn_r _ [4] (by decide +kernel) (by decide +kernel)
set_option maxRecDepth 20000 in
theorem gX2_isPlan_X2_in : GoodIn wsX2_isPlan (va_wsS RX2 69 yX2_in wsX2_in) := goodIn_app (goodIn_of _ (by decide +kernel)) ggX2_isPlan_X2_in
theorem dX2_isPlan_0 : decode cX2_isPlan 0 = .ok (.iload_n 0, 1) := by decide +kernel
theorem dX2_isPlan_1 : decode cX2_isPlan 1 = .ok (.iconst 0, 1) := by decide +kernel
theorem dX2_isPlan_2 : decode cX2_isPlan 2 = .ok (.sipush 900, 3) := by decide +kernel
theorem dX2_isPlan_5 : decode cX2_isPlan 5 = .ok (.invokestatic 69, 3) := by decide +kernel
theorem dX2_isPlan_8 : decode cX2_isPlan 8 = .ok (.ifCond .eq 38, 3) := by decide +kernel
theorem dX2_isPlan_11 : decode cX2_isPlan 11 = .ok (.iload_n 1, 1) := by decide +kernel
theorem dX2_isPlan_12 : decode cX2_isPlan 12 = .ok (.iconst 1, 1) := by decide +kernel
theorem dX2_isPlan_13 : decode cX2_isPlan 13 = .ok (.sipush 200, 3) := by decide +kernel
theorem dX2_isPlan_16 : decode cX2_isPlan 16 = .ok (.invokestatic 69, 3) := by decide +kernel
theorem dX2_isPlan_19 : decode cX2_isPlan 19 = .ok (.ifCond .eq 27, 3) := by decide +kernel
theorem dX2_isPlan_22 : decode cX2_isPlan 22 = .ok (.iload_n 2, 1) := by decide +kernel
theorem dX2_isPlan_23 : decode cX2_isPlan 23 = .ok (.iconst 1, 1) := by decide +kernel
theorem dX2_isPlan_24 : decode cX2_isPlan 24 = .ok (.bipush 30, 2) := by decide +kernel
theorem dX2_isPlan_26 : decode cX2_isPlan 26 = .ok (.invokestatic 69, 3) := by decide +kernel
theorem dX2_isPlan_29 : decode cX2_isPlan 29 = .ok (.ifCond .eq 17, 3) := by decide +kernel
theorem dX2_isPlan_32 : decode cX2_isPlan 32 = .ok (.iload_n 3, 1) := by decide +kernel
theorem dX2_isPlan_33 : decode cX2_isPlan 33 = .ok (.iconst 1, 1) := by decide +kernel
theorem dX2_isPlan_34 : decode cX2_isPlan 34 = .ok (.bipush 100, 2) := by decide +kernel
theorem dX2_isPlan_36 : decode cX2_isPlan 36 = .ok (.invokestatic 69, 3) := by decide +kernel
theorem dX2_isPlan_39 : decode cX2_isPlan 39 = .ok (.ifCond .eq 7, 3) := by decide +kernel
theorem dX2_isPlan_42 : decode cX2_isPlan 42 = .ok (.iconst 1, 1) := by decide +kernel
theorem dX2_isPlan_43 : decode cX2_isPlan 43 = .ok (.goto 4, 3) := by decide +kernel
theorem dX2_isPlan_46 : decode cX2_isPlan 46 = .ok (.iconst 0, 1) := by decide +kernel
theorem dX2_isPlan_47 : decode cX2_isPlan 47 = .ok (.ireturn, 1) := by decide +kernel
theorem dX2_freeNumber_0 : decode cX2_freeNumber 0 = .ok (.iconst 0, 1) := by decide +kernel
theorem dX2_freeNumber_1 : decode cX2_freeNumber 1 = .ok (.istore_n 1, 1) := by decide +kernel
theorem dX2_freeNumber_2 : decode cX2_freeNumber 2 = .ok (.iload_n 1, 1) := by decide +kernel
theorem dX2_freeNumber_3 : decode cX2_freeNumber 3 = .ok (.bipush 10, 2) := by decide +kernel
theorem dX2_freeNumber_5 : decode cX2_freeNumber 5 = .ok (.if_icmp .ge 18, 3) := by decide +kernel
theorem dX2_freeNumber_8 : decode cX2_freeNumber 8 = .ok (.aload_n 0, 1) := by decide +kernel
theorem dX2_freeNumber_9 : decode cX2_freeNumber 9 = .ok (.getfield 29, 3) := by decide +kernel
theorem dX2_freeNumber_12 : decode cX2_freeNumber 12 = .ok (.iload_n 1, 1) := by decide +kernel
theorem dX2_freeNumber_13 : decode cX2_freeNumber 13 = .ok (.baload, 1) := by decide +kernel
theorem dX2_freeNumber_14 : decode cX2_freeNumber 14 = .ok (.ifCond .eq 9, 3) := by decide +kernel
theorem dX2_freeNumber_17 : decode cX2_freeNumber 17 = .ok (.iinc 1 1, 3) := by decide +kernel
theorem dX2_freeNumber_20 : decode cX2_freeNumber 20 = .ok (.goto (-18), 3) := by decide +kernel
theorem dX2_freeNumber_23 : decode cX2_freeNumber 23 = .ok (.iload_n 1, 1) := by decide +kernel
theorem dX2_freeNumber_24 : decode cX2_freeNumber 24 = .ok (.ireturn, 1) := by decide +kernel
theorem dX2_lays_0 : decode cX2_lays 0 = .ok (.aload_n 0, 1) := by decide +kernel
theorem dX2_lays_1 : decode cX2_lays 1 = .ok (.getfield 33, 3) := by decide +kernel
theorem dX2_lays_4 : decode cX2_lays 4 = .ok (.iload_n 1, 1) := by decide +kernel
theorem dX2_lays_5 : decode cX2_lays 5 = .ok (.iload_n 2, 1) := by decide +kernel
theorem dX2_lays_6 : decode cX2_lays 6 = .ok (.iastore, 1) := by decide +kernel
theorem dX2_lays_7 : decode cX2_lays 7 = .ok (.aload_n 0, 1) := by decide +kernel
theorem dX2_lays_8 : decode cX2_lays 8 = .ok (.getfield 36, 3) := by decide +kernel
theorem dX2_lays_11 : decode cX2_lays 11 = .ok (.iload_n 1, 1) := by decide +kernel
theorem dX2_lays_12 : decode cX2_lays 12 = .ok (.iload_n 3, 1) := by decide +kernel
theorem dX2_lays_13 : decode cX2_lays 13 = .ok (.iastore, 1) := by decide +kernel
theorem dX2_lays_14 : decode cX2_lays 14 = .ok (.aload_n 0, 1) := by decide +kernel
theorem dX2_lays_15 : decode cX2_lays 15 = .ok (.getfield 39, 3) := by decide +kernel
theorem dX2_lays_18 : decode cX2_lays 18 = .ok (.iload_n 1, 1) := by decide +kernel
theorem dX2_lays_19 : decode cX2_lays 19 = .ok (.iload 4, 2) := by decide +kernel
theorem dX2_lays_21 : decode cX2_lays 21 = .ok (.iastore, 1) := by decide +kernel
theorem dX2_lays_22 : decode cX2_lays 22 = .ok (.aload_n 0, 1) := by decide +kernel
theorem dX2_lays_23 : decode cX2_lays 23 = .ok (.getfield 42, 3) := by decide +kernel
theorem dX2_lays_26 : decode cX2_lays 26 = .ok (.iload_n 1, 1) := by decide +kernel
theorem dX2_lays_27 : decode cX2_lays 27 = .ok (.iload 5, 2) := by decide +kernel
theorem dX2_lays_29 : decode cX2_lays 29 = .ok (.iastore, 1) := by decide +kernel
theorem dX2_lays_30 : decode cX2_lays 30 = .ok (.aload_n 0, 1) := by decide +kernel
theorem dX2_lays_31 : decode cX2_lays 31 = .ok (.getfield 45, 3) := by decide +kernel
theorem dX2_lays_34 : decode cX2_lays 34 = .ok (.iload_n 1, 1) := by decide +kernel
theorem dX2_lays_35 : decode cX2_lays 35 = .ok (.iconst 0, 1) := by decide +kernel
theorem dX2_lays_36 : decode cX2_lays 36 = .ok (.iastore, 1) := by decide +kernel
theorem dX2_lays_37 : decode cX2_lays 37 = .ok (.return_, 1) := by decide +kernel
set_option maxRecDepth 20000 in
theorem ggX2_plan_X2_freeNumber : GoodIn wsX2_plan wsX2_freeNumber := goodIn_r _ [7, 2, 23, 24, 25, 26, 27, 28, 29, 30, 31, 32, 33, 34, 35, 36, 37, 38, 39, 40, 41] (by decide +kernel) (by decide +kernel)
set_option maxRecDepth 20000 in
theorem gX2_plan_X2_freeNumber : GoodIn wsX2_plan (wsV RX2 114 RX2 yX2_freeNumber wsX2_freeNumber) := goodIn_app (goodIn_of _ (by decide +kernel)) ggX2_plan_X2_freeNumber
set_option maxRecDepth 20000 in
theorem ggX2_plan_X2_isPlan : GoodIn wsX2_plan wsX2_isPlan := goodIn_r _ [10, 11, 12, 6, 13] (by decide +kernel) (by decide +kernel)
set_option maxRecDepth 20000 in
theorem gX2_plan_X2_isPlan : GoodIn wsX2_plan (va_wsS RX2 117 yX2_isPlan wsX2_isPlan) := goodIn_app (goodIn_of _ (by decide +kernel)) ggX2_plan_X2_isPlan
set_option maxRecDepth 20000 in
theorem ggX2_plan_X2_lays : GoodIn wsX2_plan wsX2_lays := goodIn_r _ [17, 18, 19, 20, 21, 22, 23, 24, 25, 26, 27, 28, 29, 30, 31, 32, 33, 34, 35, 36, 37, 38, 39, 40, 41] (by decide +kernel) (by decide +kernel)
set_option maxRecDepth 20000 in
theorem gX2_plan_X2_lays : GoodIn wsX2_plan (wsV RX2 121 RX2 yX2_lays wsX2_lays) := goodIn_app (goodIn_of _ (by decide +kernel)) ggX2_plan_X2_lays
theorem dX2_plan_0 : decode cX2_plan 0 = .ok (.aload_n 0, 1) := by decide +kernel
theorem dX2_plan_1 : decode cX2_plan 1 = .ok (.invokevirtual 114, 3) := by decide +kernel
theorem dX2_plan_4 : decode cX2_plan 4 = .ok (.istore 5, 2) := by decide +kernel
theorem dX2_plan_6 : decode cX2_plan 6 = .ok (.aload_n 0, 1) := by decide +kernel
theorem dX2_plan_7 : decode cX2_plan 7 = .ok (.iload_n 1, 1) := by decide +kernel
theorem dX2_plan_8 : decode cX2_plan 8 = .ok (.iload_n 2, 1) := by decide +kernel
theorem dX2_plan_9 : decode cX2_plan 9 = .ok (.iload_n 3, 1) := by decide +kernel
theorem dX2_plan_10 : decode cX2_plan 10 = .ok (.iload 4, 2) := by decide +kernel
theorem dX2_plan_12 : decode cX2_plan 12 = .ok (.invokestatic 117, 3) := by decide +kernel
theorem dX2_plan_15 : decode cX2_plan 15 = .ok (.ifCond .ne 7, 3) := by decide +kernel
theorem dX2_plan_18 : decode cX2_plan 18 = .ok (.iconst 1, 1) := by decide +kernel
theorem dX2_plan_19 : decode cX2_plan 19 = .ok (.goto 15, 3) := by decide +kernel
theorem dX2_plan_22 : decode cX2_plan 22 = .ok (.iload 5, 2) := by decide +kernel
theorem dX2_plan_24 : decode cX2_plan 24 = .ok (.bipush 10, 2) := by decide +kernel
theorem dX2_plan_26 : decode cX2_plan 26 = .ok (.if_icmp .ne 7, 3) := by decide +kernel
theorem dX2_plan_29 : decode cX2_plan 29 = .ok (.iconst 2, 1) := by decide +kernel
theorem dX2_plan_30 : decode cX2_plan 30 = .ok (.goto 4, 3) := by decide +kernel
theorem dX2_plan_33 : decode cX2_plan 33 = .ok (.iconst 0, 1) := by decide +kernel
theorem dX2_plan_34 : decode cX2_plan 34 = .ok (.putfield 66, 3) := by decide +kernel
theorem dX2_plan_37 : decode cX2_plan 37 = .ok (.aload_n 0, 1) := by decide +kernel
theorem dX2_plan_38 : decode cX2_plan 38 = .ok (.getfield 66, 3) := by decide +kernel
theorem dX2_plan_41 : decode cX2_plan 41 = .ok (.ifCond .le 5, 3) := by decide +kernel
theorem dX2_plan_44 : decode cX2_plan 44 = .ok (.iconst 0, 1) := by decide +kernel
theorem dX2_plan_45 : decode cX2_plan 45 = .ok (.ireturn, 1) := by decide +kernel
theorem dX2_plan_46 : decode cX2_plan 46 = .ok (.aload_n 0, 1) := by decide +kernel
theorem dX2_plan_47 : decode cX2_plan 47 = .ok (.getfield 29, 3) := by decide +kernel
theorem dX2_plan_50 : decode cX2_plan 50 = .ok (.iload 5, 2) := by decide +kernel
theorem dX2_plan_52 : decode cX2_plan 52 = .ok (.iconst 1, 1) := by decide +kernel
theorem dX2_plan_53 : decode cX2_plan 53 = .ok (.bastore, 1) := by decide +kernel
theorem dX2_plan_54 : decode cX2_plan 54 = .ok (.aload_n 0, 1) := by decide +kernel
theorem dX2_plan_55 : decode cX2_plan 55 = .ok (.iload 5, 2) := by decide +kernel
theorem dX2_plan_57 : decode cX2_plan 57 = .ok (.iload_n 1, 1) := by decide +kernel
theorem dX2_plan_58 : decode cX2_plan 58 = .ok (.iload_n 2, 1) := by decide +kernel
theorem dX2_plan_59 : decode cX2_plan 59 = .ok (.iload_n 3, 1) := by decide +kernel
theorem dX2_plan_60 : decode cX2_plan 60 = .ok (.iload 4, 2) := by decide +kernel
theorem dX2_plan_62 : decode cX2_plan 62 = .ok (.invokevirtual 121, 3) := by decide +kernel
theorem dX2_plan_65 : decode cX2_plan 65 = .ok (.iload 5, 2) := by decide +kernel
theorem dX2_plan_67 : decode cX2_plan 67 = .ok (.ireturn, 1) := by decide +kernel
set_option maxRecDepth 20000 in
theorem ggX2_move_X2_isPour : GoodIn wsX2_move wsX2_isPour := goodIn_r _ [7, 8, 9, 10, 6, 11, 12, 13, 14, 15, 16, 17, 18, 19, 20, 21, 22, 23, 24, 25, 26, 27, 28, 29, 30] (by decide +kernel) (by decide +kernel)
set_option maxRecDepth 20000 in
theorem gX2_move_X2_isPour : GoodIn wsX2_move (wsV RX2 125 RX2 yX2_isPour wsX2_isPour) := goodIn_app (goodIn_of _ (by decide +kernel)) ggX2_move_X2_isPour
set_option maxRecDepth 20000 in
theorem ggX2_move_X2_in : GoodIn wsX2_move wsX2_in := goodIn_r _ [11] (by decide +kernel) (by decide +kernel)
set_option maxRecDepth 20000 in
theorem gX2_move_X2_in : GoodIn wsX2_move (va_wsS RX2 69 yX2_in wsX2_in) := goodIn_app (goodIn_of _ (by decide +kernel)) ggX2_move_X2_in
theorem dX2_move_0 : decode cX2_move 0 = .ok (.aload_n 0, 1) := by decide +kernel
theorem dX2_move_1 : decode cX2_move 1 = .ok (.aload_n 0, 1) := by decide +kernel
theorem dX2_move_2 : decode cX2_move 2 = .ok (.iload_n 1, 1) := by decide +kernel
theorem dX2_move_3 : decode cX2_move 3 = .ok (.invokevirtual 125, 3) := by decide +kernel
theorem dX2_move_6 : decode cX2_move 6 = .ok (.ifCond .ne 7, 3) := by decide +kernel
theorem dX2_move_9 : decode cX2_move 9 = .ok (.iconst 1, 1) := by decide +kernel
theorem dX2_move_10 : decode cX2_move 10 = .ok (.goto 19, 3) := by decide +kernel
theorem dX2_move_13 : decode cX2_move 13 = .ok (.iload_n 2, 1) := by decide +kernel
theorem dX2_move_14 : decode cX2_move 14 = .ok (.iconst 0, 1) := by decide +kernel
theorem dX2_move_15 : decode cX2_move 15 = .ok (.sipush 900, 3) := by decide +kernel
theorem dX2_move_18 : decode cX2_move 18 = .ok (.invokestatic 69, 3) := by decide +kernel
theorem dX2_move_21 : decode cX2_move 21 = .ok (.ifCond .eq 7, 3) := by decide +kernel
theorem dX2_move_24 : decode cX2_move 24 = .ok (.iconst 0, 1) := by decide +kernel
theorem dX2_move_25 : decode cX2_move 25 = .ok (.goto 4, 3) := by decide +kernel
theorem dX2_move_28 : decode cX2_move 28 = .ok (.iconst 2, 1) := by decide +kernel
theorem dX2_move_29 : decode cX2_move 29 = .ok (.putfield 66, 3) := by decide +kernel
theorem dX2_move_32 : decode cX2_move 32 = .ok (.aload_n 0, 1) := by decide +kernel
theorem dX2_move_33 : decode cX2_move 33 = .ok (.getfield 66, 3) := by decide +kernel
theorem dX2_move_36 : decode cX2_move 36 = .ok (.ifCond .le 5, 3) := by decide +kernel
theorem dX2_move_39 : decode cX2_move 39 = .ok (.iconst 0, 1) := by decide +kernel
theorem dX2_move_40 : decode cX2_move 40 = .ok (.ireturn, 1) := by decide +kernel
theorem dX2_move_41 : decode cX2_move 41 = .ok (.aload_n 0, 1) := by decide +kernel
theorem dX2_move_42 : decode cX2_move 42 = .ok (.getfield 33, 3) := by decide +kernel
theorem dX2_move_45 : decode cX2_move 45 = .ok (.iload_n 1, 1) := by decide +kernel
theorem dX2_move_46 : decode cX2_move 46 = .ok (.iaload, 1) := by decide +kernel
theorem dX2_move_47 : decode cX2_move 47 = .ok (.istore_n 3, 1) := by decide +kernel
theorem dX2_move_48 : decode cX2_move 48 = .ok (.aload_n 0, 1) := by decide +kernel
theorem dX2_move_49 : decode cX2_move 49 = .ok (.getfield 33, 3) := by decide +kernel
theorem dX2_move_52 : decode cX2_move 52 = .ok (.iload_n 1, 1) := by decide +kernel
theorem dX2_move_53 : decode cX2_move 53 = .ok (.iload_n 2, 1) := by decide +kernel
theorem dX2_move_54 : decode cX2_move 54 = .ok (.iastore, 1) := by decide +kernel
theorem dX2_move_55 : decode cX2_move 55 = .ok (.iload_n 3, 1) := by decide +kernel
theorem dX2_move_56 : decode cX2_move 56 = .ok (.ireturn, 1) := by decide +kernel
set_option maxRecDepth 20000 in
theorem ggX2_cancel_X2_isPour : GoodIn wsX2_cancel wsX2_isPour := goodIn_r _ [8, 2, 9, 10, 7, 11, 12, 13, 14, 15, 16, 17, 18, 19, 20, 21, 22, 23, 24, 25, 26, 27, 28, 29, 30] (by decide +kernel) (by decide +kernel)
set_option maxRecDepth 20000 in
theorem gX2_cancel_X2_isPour : GoodIn wsX2_cancel (wsV RX2 125 RX2 yX2_isPour wsX2_isPour) := goodIn_app (goodIn_of _ (by decide +kernel)) ggX2_cancel_X2_isPour
theorem dX2_cancel_0 : decode cX2_cancel 0 = .ok (.aload_n 0, 1) := by decide +kernel
theorem dX2_cancel_1 : decode cX2_cancel 1 = .ok (.aload_n 0, 1) := by decide +kernel
theorem dX2_cancel_2 : decode cX2_cancel 2 = .ok (.iload_n 1, 1) := by decide +kernel
theorem dX2_cancel_3 : decode cX2_cancel 3 = .ok (.invokevirtual 125, 3) := by decide +kernel
theorem dX2_cancel_6 : decode cX2_cancel 6 = .ok (.ifCond .eq 7, 3) := by decide +kernel
theorem dX2_cancel_9 : decode cX2_cancel 9 = .ok (.iconst 0, 1) := by decide +kernel
theorem dX2_cancel_10 : decode cX2_cancel 10 = .ok (.goto 4, 3) := by decide +kernel
theorem dX2_cancel_13 : decode cX2_cancel 13 = .ok (.iconst 1, 1) := by decide +kernel
theorem dX2_cancel_14 : decode cX2_cancel 14 = .ok (.putfield 66, 3) := by decide +kernel
theorem dX2_cancel_17 : decode cX2_cancel 17 = .ok (.aload_n 0, 1) := by decide +kernel
theorem dX2_cancel_18 : decode cX2_cancel 18 = .ok (.getfield 66, 3) := by decide +kernel
theorem dX2_cancel_21 : decode cX2_cancel 21 = .ok (.ifCond .le 5, 3) := by decide +kernel
theorem dX2_cancel_24 : decode cX2_cancel 24 = .ok (.iconst 0, 1) := by decide +kernel
theorem dX2_cancel_25 : decode cX2_cancel 25 = .ok (.ireturn, 1) := by decide +kernel
theorem dX2_cancel_26 : decode cX2_cancel 26 = .ok (.aload_n 0, 1) := by decide +kernel
theorem dX2_cancel_27 : decode cX2_cancel 27 = .ok (.getfield 29, 3) := by decide +kernel
theorem dX2_cancel_30 : decode cX2_cancel 30 = .ok (.iload_n 1, 1) := by decide +kernel
theorem dX2_cancel_31 : decode cX2_cancel 31 = .ok (.iconst 0, 1) := by decide +kernel
theorem dX2_cancel_32 : decode cX2_cancel 32 = .ok (.bastore, 1) := by decide +kernel
theorem dX2_cancel_33 : decode cX2_cancel 33 = .ok (.aload_n 0, 1) := by decide +kernel
theorem dX2_cancel_34 : decode cX2_cancel 34 = .ok (.getfield 39, 3) := by decide +kernel
theorem dX2_cancel_37 : decode cX2_cancel 37 = .ok (.iload_n 1, 1) := by decide +kernel
theorem dX2_cancel_38 : decode cX2_cancel 38 = .ok (.iaload, 1) := by decide +kernel
theorem dX2_cancel_39 : decode cX2_cancel 39 = .ok (.ireturn, 1) := by decide +kernel
set_option maxRecDepth 20000 in
theorem ggX2_delay_X2_isPour : GoodIn wsX2_delay wsX2_isPour := goodIn_r _ [10, 11, 12, 13, 9, 14, 15, 16, 17, 18, 19, 20, 21, 22, 23, 24, 25, 26, 27, 28, 29, 30, 31, 32, 33] (by decide +kernel) (by decide +kernel)
set_option maxRecDepth 20000 in
theorem gX2_delay_X2_isPour : GoodIn wsX2_delay (wsV RX2 125 RX2 yX2_isPour wsX2_isPour) := goodIn_app (goodIn_of _ (by decide +kernel)) ggX2_delay_X2_isPour
set_option maxRecDepth 20000 in
theorem ggX2_delay_X2_in : GoodIn wsX2_delay wsX2_in := goodIn_r _ [14] (by decide +kernel) (by decide +kernel)
set_option maxRecDepth 20000 in
theorem gX2_delay_X2_in : GoodIn wsX2_delay (va_wsS RX2 69 yX2_in wsX2_in) := goodIn_app (goodIn_of _ (by decide +kernel)) ggX2_delay_X2_in
theorem dX2_delay_0 : decode cX2_delay 0 = .ok (.aload_n 0, 1) := by decide +kernel
theorem dX2_delay_1 : decode cX2_delay 1 = .ok (.aload_n 0, 1) := by decide +kernel
theorem dX2_delay_2 : decode cX2_delay 2 = .ok (.iload_n 1, 1) := by decide +kernel
theorem dX2_delay_3 : decode cX2_delay 3 = .ok (.invokevirtual 125, 3) := by decide +kernel
theorem dX2_delay_6 : decode cX2_delay 6 = .ok (.ifCond .ne 7, 3) := by decide +kernel
theorem dX2_delay_9 : decode cX2_delay 9 = .ok (.iconst 1, 1) := by decide +kernel
theorem dX2_delay_10 : decode cX2_delay 10 = .ok (.goto 48, 3) := by decide +kernel
theorem dX2_delay_13 : decode cX2_delay 13 = .ok (.iload_n 2, 1) := by decide +kernel
theorem dX2_delay_14 : decode cX2_delay 14 = .ok (.iconst 0, 1) := by decide +kernel
theorem dX2_delay_15 : decode cX2_delay 15 = .ok (.aload_n 0, 1) := by decide +kernel
theorem dX2_delay_16 : decode cX2_delay 16 = .ok (.getfield 36, 3) := by decide +kernel
theorem dX2_delay_19 : decode cX2_delay 19 = .ok (.iload_n 1, 1) := by decide +kernel
theorem dX2_delay_20 : decode cX2_delay 20 = .ok (.iaload, 1) := by decide +kernel
theorem dX2_delay_21 : decode cX2_delay 21 = .ok (.iconst 1, 1) := by decide +kernel
theorem dX2_delay_22 : decode cX2_delay 22 = .ok (.isub, 1) := by decide +kernel
theorem dX2_delay_23 : decode cX2_delay 23 = .ok (.invokestatic 69, 3) := by decide +kernel
theorem dX2_delay_26 : decode cX2_delay 26 = .ok (.ifCond .eq 13, 3) := by decide +kernel
theorem dX2_delay_29 : decode cX2_delay 29 = .ok (.iload_n 3, 1) := by decide +kernel
theorem dX2_delay_30 : decode cX2_delay 30 = .ok (.iconst 1, 1) := by decide +kernel
theorem dX2_delay_31 : decode cX2_delay 31 = .ok (.bipush 9, 2) := by decide +kernel
theorem dX2_delay_33 : decode cX2_delay 33 = .ok (.invokestatic 69, 3) := by decide +kernel
theorem dX2_delay_36 : decode cX2_delay 36 = .ok (.ifCond .ne 7, 3) := by decide +kernel
theorem dX2_delay_39 : decode cX2_delay 39 = .ok (.iconst 2, 1) := by decide +kernel
theorem dX2_delay_40 : decode cX2_delay 40 = .ok (.goto 18, 3) := by decide +kernel
theorem dX2_delay_43 : decode cX2_delay 43 = .ok (.aload_n 0, 1) := by decide +kernel
theorem dX2_delay_44 : decode cX2_delay 44 = .ok (.getfield 45, 3) := by decide +kernel
theorem dX2_delay_47 : decode cX2_delay 47 = .ok (.iload_n 1, 1) := by decide +kernel
theorem dX2_delay_48 : decode cX2_delay 48 = .ok (.iaload, 1) := by decide +kernel
theorem dX2_delay_49 : decode cX2_delay 49 = .ok (.iconst 4, 1) := by decide +kernel
theorem dX2_delay_50 : decode cX2_delay 50 = .ok (.if_icmp .ne 7, 3) := by decide +kernel
theorem dX2_delay_53 : decode cX2_delay 53 = .ok (.iconst 3, 1) := by decide +kernel
theorem dX2_delay_54 : decode cX2_delay 54 = .ok (.goto 4, 3) := by decide +kernel
theorem dX2_delay_57 : decode cX2_delay 57 = .ok (.iconst 0, 1) := by decide +kernel
theorem dX2_delay_58 : decode cX2_delay 58 = .ok (.putfield 66, 3) := by decide +kernel
theorem dX2_delay_61 : decode cX2_delay 61 = .ok (.aload_n 0, 1) := by decide +kernel
theorem dX2_delay_62 : decode cX2_delay 62 = .ok (.getfield 66, 3) := by decide +kernel
theorem dX2_delay_65 : decode cX2_delay 65 = .ok (.ifCond .le 5, 3) := by decide +kernel
theorem dX2_delay_68 : decode cX2_delay 68 = .ok (.iconst 0, 1) := by decide +kernel
theorem dX2_delay_69 : decode cX2_delay 69 = .ok (.ireturn, 1) := by decide +kernel
theorem dX2_delay_70 : decode cX2_delay 70 = .ok (.aload_n 0, 1) := by decide +kernel
theorem dX2_delay_71 : decode cX2_delay 71 = .ok (.getfield 45, 3) := by decide +kernel
theorem dX2_delay_74 : decode cX2_delay 74 = .ok (.iload_n 1, 1) := by decide +kernel
theorem dX2_delay_75 : decode cX2_delay 75 = .ok (.iaload, 1) := by decide +kernel
theorem dX2_delay_76 : decode cX2_delay 76 = .ok (.istore 4, 2) := by decide +kernel
theorem dX2_delay_78 : decode cX2_delay 78 = .ok (.iload 4, 2) := by decide +kernel
theorem dX2_delay_80 : decode cX2_delay 80 = .ok (.ifCond .le 74, 3) := by decide +kernel
theorem dX2_delay_83 : decode cX2_delay 83 = .ok (.aload_n 0, 1) := by decide +kernel
theorem dX2_delay_84 : decode cX2_delay 84 = .ok (.getfield 48, 3) := by decide +kernel
theorem dX2_delay_87 : decode cX2_delay 87 = .ok (.iconst 4, 1) := by decide +kernel
theorem dX2_delay_88 : decode cX2_delay 88 = .ok (.iload_n 1, 1) := by decide +kernel
theorem dX2_delay_89 : decode cX2_delay 89 = .ok (.imul, 1) := by decide +kernel
theorem dX2_delay_90 : decode cX2_delay 90 = .ok (.iload 4, 2) := by decide +kernel
theorem dX2_delay_92 : decode cX2_delay 92 = .ok (.iadd, 1) := by decide +kernel
theorem dX2_delay_93 : decode cX2_delay 93 = .ok (.iconst 1, 1) := by decide +kernel
theorem dX2_delay_94 : decode cX2_delay 94 = .ok (.isub, 1) := by decide +kernel
theorem dX2_delay_95 : decode cX2_delay 95 = .ok (.iaload, 1) := by decide +kernel
theorem dX2_delay_96 : decode cX2_delay 96 = .ok (.iload_n 2, 1) := by decide +kernel
theorem dX2_delay_97 : decode cX2_delay 97 = .ok (.if_icmp .le 57, 3) := by decide +kernel
theorem dX2_delay_100 : decode cX2_delay 100 = .ok (.aload_n 0, 1) := by decide +kernel
theorem dX2_delay_101 : decode cX2_delay 101 = .ok (.getfield 48, 3) := by decide +kernel
theorem dX2_delay_104 : decode cX2_delay 104 = .ok (.iconst 4, 1) := by decide +kernel
theorem dX2_delay_105 : decode cX2_delay 105 = .ok (.iload_n 1, 1) := by decide +kernel
theorem dX2_delay_106 : decode cX2_delay 106 = .ok (.imul, 1) := by decide +kernel
theorem dX2_delay_107 : decode cX2_delay 107 = .ok (.iload 4, 2) := by decide +kernel
theorem dX2_delay_109 : decode cX2_delay 109 = .ok (.iadd, 1) := by decide +kernel
theorem dX2_delay_110 : decode cX2_delay 110 = .ok (.aload_n 0, 1) := by decide +kernel
theorem dX2_delay_111 : decode cX2_delay 111 = .ok (.getfield 48, 3) := by decide +kernel
theorem dX2_delay_114 : decode cX2_delay 114 = .ok (.iconst 4, 1) := by decide +kernel
theorem dX2_delay_115 : decode cX2_delay 115 = .ok (.iload_n 1, 1) := by decide +kernel
theorem dX2_delay_116 : decode cX2_delay 116 = .ok (.imul, 1) := by decide +kernel
theorem dX2_delay_117 : decode cX2_delay 117 = .ok (.iload 4, 2) := by decide +kernel
theorem dX2_delay_119 : decode cX2_delay 119 = .ok (.iadd, 1) := by decide +kernel
theorem dX2_delay_120 : decode cX2_delay 120 = .ok (.iconst 1, 1) := by decide +kernel
theorem dX2_delay_121 : decode cX2_delay 121 = .ok (.isub, 1) := by decide +kernel
theorem dX2_delay_122 : decode cX2_delay 122 = .ok (.iaload, 1) := by decide +kernel
theorem dX2_delay_123 : decode cX2_delay 123 = .ok (.iastore, 1) := by decide +kernel
theorem dX2_delay_124 : decode cX2_delay 124 = .ok (.aload_n 0, 1) := by decide +kernel
theorem dX2_delay_125 : decode cX2_delay 125 = .ok (.getfield 51, 3) := by decide +kernel
theorem dX2_delay_128 : decode cX2_delay 128 = .ok (.iconst 4, 1) := by decide +kernel
theorem dX2_delay_129 : decode cX2_delay 129 = .ok (.iload_n 1, 1) := by decide +kernel
theorem dX2_delay_130 : decode cX2_delay 130 = .ok (.imul, 1) := by decide +kernel
theorem dX2_delay_131 : decode cX2_delay 131 = .ok (.iload 4, 2) := by decide +kernel
theorem dX2_delay_133 : decode cX2_delay 133 = .ok (.iadd, 1) := by decide +kernel
theorem dX2_delay_134 : decode cX2_delay 134 = .ok (.aload_n 0, 1) := by decide +kernel
theorem dX2_delay_135 : decode cX2_delay 135 = .ok (.getfield 51, 3) := by decide +kernel
theorem dX2_delay_138 : decode cX2_delay 138 = .ok (.iconst 4, 1) := by decide +kernel
theorem dX2_delay_139 : decode cX2_delay 139 = .ok (.iload_n 1, 1) := by decide +kernel
theorem dX2_delay_140 : decode cX2_delay 140 = .ok (.imul, 1) := by decide +kernel
theorem dX2_delay_141 : decode cX2_delay 141 = .ok (.iload 4, 2) := by decide +kernel
theorem dX2_delay_143 : decode cX2_delay 143 = .ok (.iadd, 1) := by decide +kernel
theorem dX2_delay_144 : decode cX2_delay 144 = .ok (.iconst 1, 1) := by decide +kernel
theorem dX2_delay_145 : decode cX2_delay 145 = .ok (.isub, 1) := by decide +kernel
theorem dX2_delay_146 : decode cX2_delay 146 = .ok (.iaload, 1) := by decide +kernel
theorem dX2_delay_147 : decode cX2_delay 147 = .ok (.iastore, 1) := by decide +kernel
theorem dX2_delay_148 : decode cX2_delay 148 = .ok (.iinc 4 (-1), 3) := by decide +kernel
theorem dX2_delay_151 : decode cX2_delay 151 = .ok (.goto (-73), 3) := by decide +kernel
theorem dX2_delay_154 : decode cX2_delay 154 = .ok (.aload_n 0, 1) := by decide +kernel
theorem dX2_delay_155 : decode cX2_delay 155 = .ok (.getfield 48, 3) := by decide +kernel
theorem dX2_delay_158 : decode cX2_delay 158 = .ok (.iconst 4, 1) := by decide +kernel
theorem dX2_delay_159 : decode cX2_delay 159 = .ok (.iload_n 1, 1) := by decide +kernel
theorem dX2_delay_160 : decode cX2_delay 160 = .ok (.imul, 1) := by decide +kernel
theorem dX2_delay_161 : decode cX2_delay 161 = .ok (.iload 4, 2) := by decide +kernel
theorem dX2_delay_163 : decode cX2_delay 163 = .ok (.iadd, 1) := by decide +kernel
theorem dX2_delay_164 : decode cX2_delay 164 = .ok (.iload_n 2, 1) := by decide +kernel
theorem dX2_delay_165 : decode cX2_delay 165 = .ok (.iastore, 1) := by decide +kernel
theorem dX2_delay_166 : decode cX2_delay 166 = .ok (.aload_n 0, 1) := by decide +kernel
theorem dX2_delay_167 : decode cX2_delay 167 = .ok (.getfield 51, 3) := by decide +kernel
theorem dX2_delay_170 : decode cX2_delay 170 = .ok (.iconst 4, 1) := by decide +kernel
theorem dX2_delay_171 : decode cX2_delay 171 = .ok (.iload_n 1, 1) := by decide +kernel
theorem dX2_delay_172 : decode cX2_delay 172 = .ok (.imul, 1) := by decide +kernel
theorem dX2_delay_173 : decode cX2_delay 173 = .ok (.iload 4, 2) := by decide +kernel
theorem dX2_delay_175 : decode cX2_delay 175 = .ok (.iadd, 1) := by decide +kernel
theorem dX2_delay_176 : decode cX2_delay 176 = .ok (.iload_n 3, 1) := by decide +kernel
theorem dX2_delay_177 : decode cX2_delay 177 = .ok (.iastore, 1) := by decide +kernel
theorem dX2_delay_178 : decode cX2_delay 178 = .ok (.aload_n 0, 1) := by decide +kernel
theorem dX2_delay_179 : decode cX2_delay 179 = .ok (.getfield 45, 3) := by decide +kernel
theorem dX2_delay_182 : decode cX2_delay 182 = .ok (.iload_n 1, 1) := by decide +kernel
theorem dX2_delay_183 : decode cX2_delay 183 = .ok (.dup2, 1) := by decide +kernel
theorem dX2_delay_184 : decode cX2_delay 184 = .ok (.iaload, 1) := by decide +kernel
theorem dX2_delay_185 : decode cX2_delay 185 = .ok (.iconst 1, 1) := by decide +kernel
theorem dX2_delay_186 : decode cX2_delay 186 = .ok (.iadd, 1) := by decide +kernel
theorem dX2_delay_187 : decode cX2_delay 187 = .ok (.iastore, 1) := by decide +kernel
theorem dX2_delay_188 : decode cX2_delay 188 = .ok (.aload_n 0, 1) := by decide +kernel
theorem dX2_delay_189 : decode cX2_delay 189 = .ok (.getfield 45, 3) := by decide +kernel
theorem dX2_delay_192 : decode cX2_delay 192 = .ok (.iload_n 1, 1) := by decide +kernel
theorem dX2_delay_193 : decode cX2_delay 193 = .ok (.iaload, 1) := by decide +kernel
theorem dX2_delay_194 : decode cX2_delay 194 = .ok (.ireturn, 1) := by decide +kernel
theorem dX2_pours_0 : decode cX2_pours 0 = .ok (.aload_n 0, 1) := by decide +kernel
theorem dX2_pours_1 : decode cX2_pours 1 = .ok (.iconst 0, 1) := by decide +kernel
theorem dX2_pours_2 : decode cX2_pours 2 = .ok (.putfield 66, 3) := by decide +kernel
theorem dX2_pours_5 : decode cX2_pours 5 = .ok (.iconst 0, 1) := by decide +kernel
theorem dX2_pours_6 : decode cX2_pours 6 = .ok (.istore_n 1, 1) := by decide +kernel
theorem dX2_pours_7 : decode cX2_pours 7 = .ok (.iconst 0, 1) := by decide +kernel
theorem dX2_pours_8 : decode cX2_pours 8 = .ok (.istore_n 2, 1) := by decide +kernel
theorem dX2_pours_9 : decode cX2_pours 9 = .ok (.iload_n 2, 1) := by decide +kernel
theorem dX2_pours_10 : decode cX2_pours 10 = .ok (.bipush 10, 2) := by decide +kernel
theorem dX2_pours_12 : decode cX2_pours 12 = .ok (.if_icmp .ge 26, 3) := by decide +kernel
theorem dX2_pours_15 : decode cX2_pours 15 = .ok (.iload_n 1, 1) := by decide +kernel
theorem dX2_pours_16 : decode cX2_pours 16 = .ok (.aload_n 0, 1) := by decide +kernel
theorem dX2_pours_17 : decode cX2_pours 17 = .ok (.getfield 29, 3) := by decide +kernel
theorem dX2_pours_20 : decode cX2_pours 20 = .ok (.iload_n 2, 1) := by decide +kernel
theorem dX2_pours_21 : decode cX2_pours 21 = .ok (.baload, 1) := by decide +kernel
theorem dX2_pours_22 : decode cX2_pours 22 = .ok (.ifCond .eq 7, 3) := by decide +kernel
theorem dX2_pours_25 : decode cX2_pours 25 = .ok (.iconst 1, 1) := by decide +kernel
theorem dX2_pours_26 : decode cX2_pours 26 = .ok (.goto 4, 3) := by decide +kernel
theorem dX2_pours_29 : decode cX2_pours 29 = .ok (.iconst 0, 1) := by decide +kernel
theorem dX2_pours_30 : decode cX2_pours 30 = .ok (.iadd, 1) := by decide +kernel
theorem dX2_pours_31 : decode cX2_pours 31 = .ok (.istore_n 1, 1) := by decide +kernel
theorem dX2_pours_32 : decode cX2_pours 32 = .ok (.iinc 2 1, 3) := by decide +kernel
theorem dX2_pours_35 : decode cX2_pours 35 = .ok (.goto (-26), 3) := by decide +kernel
theorem dX2_pours_38 : decode cX2_pours 38 = .ok (.iload_n 1, 1) := by decide +kernel
theorem dX2_pours_39 : decode cX2_pours 39 = .ok (.ireturn, 1) := by decide +kernel
set_option maxRecDepth 20000 in
theorem ggX2_isAsked_X2_isPour : GoodIn wsX2_isAsked wsX2_isPour := goodIn_r _ [6, 7, 8, 9, 5, 10, 53, 54, 55, 56, 57, 58, 59, 60, 61, 62, 63, 64, 65, 66, 67, 68, 69, 70, 71] (by decide +kernel) (by decide +kernel)
set_option maxRecDepth 20000 in
theorem gX2_isAsked_X2_isPour : GoodIn wsX2_isAsked (wsV RX2 125 RX2 yX2_isPour wsX2_isPour) := goodIn_app (goodIn_of _ (by decide +kernel)) ggX2_isAsked_X2_isPour
set_option maxRecDepth 20000 in
theorem ggX2_isAsked_X2_works : GoodIn wsX2_isAsked wsX2_works := goodIn_r _ [14, 15, 16, 17, 18, 19, 20, 21, 22, 23, 24, 5, 25, 26, 27, 28, 29, 30, 31, 32, 33, 34, 35, 36, 37, 38, 39, 40, 41, 42, 43, 44, 45, 46, 47, 48, 49, 50, 51, 52, 8, 9, 10, 53, 54, 55, 56, 57, 58, 59, 60, 61, 62, 63, 64, 65, 66, 67, 68, 69, 70, 71] (by decide +kernel) (by decide +kernel)
set_option maxRecDepth 20000 in
theorem gX2_isAsked_X2_works : GoodIn wsX2_isAsked (wsV RX2 98 RX2 yX2_works wsX2_works) := goodIn_app (goodIn_of _ (by decide +kernel)) ggX2_isAsked_X2_works
theorem dX2_isAsked_0 : decode cX2_isAsked 0 = .ok (.aload_n 0, 1) := by decide +kernel
theorem dX2_isAsked_1 : decode cX2_isAsked 1 = .ok (.aload_n 0, 1) := by decide +kernel
theorem dX2_isAsked_2 : decode cX2_isAsked 2 = .ok (.iload_n 1, 1) := by decide +kernel
theorem dX2_isAsked_3 : decode cX2_isAsked 3 = .ok (.invokevirtual 125, 3) := by decide +kernel
theorem dX2_isAsked_6 : decode cX2_isAsked 6 = .ok (.ifCond .eq 7, 3) := by decide +kernel
theorem dX2_isAsked_9 : decode cX2_isAsked 9 = .ok (.iconst 0, 1) := by decide +kernel
theorem dX2_isAsked_10 : decode cX2_isAsked 10 = .ok (.goto 4, 3) := by decide +kernel
theorem dX2_isAsked_13 : decode cX2_isAsked 13 = .ok (.iconst 1, 1) := by decide +kernel
theorem dX2_isAsked_14 : decode cX2_isAsked 14 = .ok (.putfield 66, 3) := by decide +kernel
theorem dX2_isAsked_17 : decode cX2_isAsked 17 = .ok (.aload_n 0, 1) := by decide +kernel
theorem dX2_isAsked_18 : decode cX2_isAsked 18 = .ok (.getfield 66, 3) := by decide +kernel
theorem dX2_isAsked_21 : decode cX2_isAsked 21 = .ok (.ifCond .ne 8, 3) := by decide +kernel
theorem dX2_isAsked_24 : decode cX2_isAsked 24 = .ok (.aload_n 0, 1) := by decide +kernel
theorem dX2_isAsked_25 : decode cX2_isAsked 25 = .ok (.iload_n 1, 1) := by decide +kernel
theorem dX2_isAsked_26 : decode cX2_isAsked 26 = .ok (.invokevirtual 98, 3) := by decide +kernel
theorem dX2_isAsked_29 : decode cX2_isAsked 29 = .ok (.aload_n 0, 1) := by decide +kernel
theorem dX2_isAsked_30 : decode cX2_isAsked 30 = .ok (.getfield 66, 3) := by decide +kernel
theorem dX2_isAsked_33 : decode cX2_isAsked 33 = .ok (.ifCond .ne 7, 3) := by decide +kernel
theorem dX2_isAsked_36 : decode cX2_isAsked 36 = .ok (.iconst 1, 1) := by decide +kernel
theorem dX2_isAsked_37 : decode cX2_isAsked 37 = .ok (.goto 4, 3) := by decide +kernel
theorem dX2_isAsked_40 : decode cX2_isAsked 40 = .ok (.iconst 0, 1) := by decide +kernel
theorem dX2_isAsked_41 : decode cX2_isAsked 41 = .ok (.ireturn, 1) := by decide +kernel
set_option maxRecDepth 20000 in
theorem ggX2_endOf_X2_isAsked : GoodIn wsX2_endOf wsX2_isAsked := goodIn_r _ [5, 6, 7, 8, 9, 4, 10, 11, 12, 13, 14, 15, 16, 17, 18, 19, 20, 21, 22, 23, 24, 25, 26, 27, 28, 29, 30, 31, 32, 33, 34, 35, 36, 37, 38, 39, 40, 41, 42, 43, 44, 45, 46, 47, 48, 49, 50, 51, 52, 53, 54, 55, 56, 57, 58, 59, 60, 61, 62, 63, 64, 65, 66, 67, 68, 69, 70, 71, 72, 73, 74, 75] (by decide +kernel) (by decide +kernel)
set_option maxRecDepth 20000 in
theorem gX2_endOf_X2_isAsked : GoodIn wsX2_endOf (wsV RX2 128 RX2 yX2_isAsked wsX2_isAsked) := goodIn_app (goodIn_of _ (by decide +kernel)) ggX2_endOf_X2_isAsked
set_option maxRecDepth 20000 in
theorem ggX2_endOf_X2_end : GoodIn wsX2_endOf wsX2_end := goodIn_r _ [29, 20, 30, 31, 32, 33, 4, 34, 35, 36, 37, 38, 39, 40, 41, 42, 57, 58, 59, 60, 61, 62, 63, 64, 65, 66, 67, 68, 69, 70, 71, 72, 73, 74, 75] (by decide +kernel) (by decide +kernel)
set_option maxRecDepth 20000 in
theorem gX2_endOf_X2_end : GoodIn wsX2_endOf (wsV RX2 92 RX2 yX2_end wsX2_end) := goodIn_app (goodIn_of _ (by decide +kernel)) ggX2_endOf_X2_end
theorem dX2_endOf_0 : decode cX2_endOf 0 = .ok (.aload_n 0, 1) := by decide +kernel
theorem dX2_endOf_1 : decode cX2_endOf 1 = .ok (.iload_n 1, 1) := by decide +kernel
theorem dX2_endOf_2 : decode cX2_endOf 2 = .ok (.invokevirtual 128, 3) := by decide +kernel
theorem dX2_endOf_5 : decode cX2_endOf 5 = .ok (.ifCond .eq 11, 3) := by decide +kernel
theorem dX2_endOf_8 : decode cX2_endOf 8 = .ok (.aload_n 0, 1) := by decide +kernel
theorem dX2_endOf_9 : decode cX2_endOf 9 = .ok (.iload_n 1, 1) := by decide +kernel
theorem dX2_endOf_10 : decode cX2_endOf 10 = .ok (.invokevirtual 92, 3) := by decide +kernel
theorem dX2_endOf_13 : decode cX2_endOf 13 = .ok (.goto 4, 3) := by decide +kernel
theorem dX2_endOf_16 : decode cX2_endOf 16 = .ok (.iconst 0, 1) := by decide +kernel
theorem dX2_endOf_17 : decode cX2_endOf 17 = .ok (.ireturn, 1) := by decide +kernel
set_option maxRecDepth 20000 in
theorem ggX2_coldJoints_X2_isAsked : GoodIn wsX2_coldJoints wsX2_isAsked := goodIn_r _ [9, 10, 11, 12, 13, 8, 14, 15, 16, 17, 18, 19, 20, 21, 22, 23, 2, 24, 25, 26, 27, 28, 29, 30, 31, 32, 33, 34, 35, 36, 37, 38, 39, 40, 41, 42, 43, 1, 4, 44, 45, 46, 47, 48, 49, 50, 51, 52, 53, 54, 55, 56, 57, 62, 63, 64, 65, 66, 67, 68, 69, 70, 71, 72, 73, 74, 75, 76, 77, 78, 79, 80] (by decide +kernel) (by decide +kernel)
set_option maxRecDepth 20000 in
theorem gX2_coldJoints_X2_isAsked : GoodIn wsX2_coldJoints (wsV RX2 128 RX2 yX2_isAsked wsX2_isAsked) := goodIn_app (goodIn_of _ (by decide +kernel)) ggX2_coldJoints_X2_isAsked
set_option maxRecDepth 20000 in
theorem ggX2_coldJoints_X2_rate : GoodIn wsX2_coldJoints wsX2_rate := goodIn_r _ [37, 38, 39, 62, 63, 64, 65, 66, 67, 68, 69, 70, 71, 72, 73, 74, 75, 76, 77, 78, 79, 80] (by decide +kernel) (by decide +kernel)
set_option maxRecDepth 20000 in
theorem gX2_coldJoints_X2_rate : GoodIn wsX2_coldJoints (wsV RX2 85 RX2 yX2_rate wsX2_rate) := goodIn_app (goodIn_of _ (by decide +kernel)) ggX2_coldJoints_X2_rate
set_option maxRecDepth 20000 in
theorem ggX2_coldJoints_X2_sum : GoodIn wsX2_coldJoints wsX2_sum := goodIn_r _ [61, 50, 51, 52, 8, 53, 54, 55, 56, 57, 16, 17, 18, 62, 63, 64, 65, 66, 67, 68, 69, 70, 71, 72, 73, 74, 75, 76, 77, 78, 79, 80] (by decide +kernel) (by decide +kernel)
set_option maxRecDepth 20000 in
theorem gX2_coldJoints_X2_sum : GoodIn wsX2_coldJoints (wsV RX2 109 RX2 yX2_sum wsX2_sum) := goodIn_app (goodIn_of _ (by decide +kernel)) ggX2_coldJoints_X2_sum
theorem dX2_coldJoints_0 : decode cX2_coldJoints 0 = .ok (.iconst 0, 1) := by decide +kernel
theorem dX2_coldJoints_1 : decode cX2_coldJoints 1 = .ok (.istore_n 2, 1) := by decide +kernel
theorem dX2_coldJoints_2 : decode cX2_coldJoints 2 = .ok (.iconst 0, 1) := by decide +kernel
theorem dX2_coldJoints_3 : decode cX2_coldJoints 3 = .ok (.istore_n 3, 1) := by decide +kernel
theorem dX2_coldJoints_4 : decode cX2_coldJoints 4 = .ok (.aload_n 0, 1) := by decide +kernel
theorem dX2_coldJoints_5 : decode cX2_coldJoints 5 = .ok (.iload_n 1, 1) := by decide +kernel
theorem dX2_coldJoints_6 : decode cX2_coldJoints 6 = .ok (.invokevirtual 128, 3) := by decide +kernel
theorem dX2_coldJoints_9 : decode cX2_coldJoints 9 = .ok (.istore 4, 2) := by decide +kernel
theorem dX2_coldJoints_11 : decode cX2_coldJoints 11 = .ok (.iconst 0, 1) := by decide +kernel
theorem dX2_coldJoints_12 : decode cX2_coldJoints 12 = .ok (.istore 5, 2) := by decide +kernel
theorem dX2_coldJoints_14 : decode cX2_coldJoints 14 = .ok (.iload 4, 2) := by decide +kernel
theorem dX2_coldJoints_16 : decode cX2_coldJoints 16 = .ok (.ifCond .eq 89, 3) := by decide +kernel
theorem dX2_coldJoints_19 : decode cX2_coldJoints 19 = .ok (.iload 5, 2) := by decide +kernel
theorem dX2_coldJoints_21 : decode cX2_coldJoints 21 = .ok (.aload_n 0, 1) := by decide +kernel
theorem dX2_coldJoints_22 : decode cX2_coldJoints 22 = .ok (.getfield 45, 3) := by decide +kernel
theorem dX2_coldJoints_25 : decode cX2_coldJoints 25 = .ok (.iload_n 1, 1) := by decide +kernel
theorem dX2_coldJoints_26 : decode cX2_coldJoints 26 = .ok (.iaload, 1) := by decide +kernel
theorem dX2_coldJoints_27 : decode cX2_coldJoints 27 = .ok (.if_icmp .ge 78, 3) := by decide +kernel
theorem dX2_coldJoints_30 : decode cX2_coldJoints 30 = .ok (.aload_n 0, 1) := by decide +kernel
theorem dX2_coldJoints_31 : decode cX2_coldJoints 31 = .ok (.getfield 33, 3) := by decide +kernel
theorem dX2_coldJoints_34 : decode cX2_coldJoints 34 = .ok (.iload_n 1, 1) := by decide +kernel
theorem dX2_coldJoints_35 : decode cX2_coldJoints 35 = .ok (.iaload, 1) := by decide +kernel
theorem dX2_coldJoints_36 : decode cX2_coldJoints 36 = .ok (.aload_n 0, 1) := by decide +kernel
theorem dX2_coldJoints_37 : decode cX2_coldJoints 37 = .ok (.getfield 48, 3) := by decide +kernel
theorem dX2_coldJoints_40 : decode cX2_coldJoints 40 = .ok (.iconst 4, 1) := by decide +kernel
theorem dX2_coldJoints_41 : decode cX2_coldJoints 41 = .ok (.iload_n 1, 1) := by decide +kernel
theorem dX2_coldJoints_42 : decode cX2_coldJoints 42 = .ok (.imul, 1) := by decide +kernel
theorem dX2_coldJoints_43 : decode cX2_coldJoints 43 = .ok (.iload 5, 2) := by decide +kernel
theorem dX2_coldJoints_45 : decode cX2_coldJoints 45 = .ok (.iadd, 1) := by decide +kernel
theorem dX2_coldJoints_46 : decode cX2_coldJoints 46 = .ok (.iaload, 1) := by decide +kernel
theorem dX2_coldJoints_47 : decode cX2_coldJoints 47 = .ok (.aload_n 0, 1) := by decide +kernel
theorem dX2_coldJoints_48 : decode cX2_coldJoints 48 = .ok (.invokevirtual 85, 3) := by decide +kernel
theorem dX2_coldJoints_51 : decode cX2_coldJoints 51 = .ok (.idiv, 1) := by decide +kernel
theorem dX2_coldJoints_52 : decode cX2_coldJoints 52 = .ok (.iadd, 1) := by decide +kernel
theorem dX2_coldJoints_53 : decode cX2_coldJoints 53 = .ok (.iload_n 3, 1) := by decide +kernel
theorem dX2_coldJoints_54 : decode cX2_coldJoints 54 = .ok (.iadd, 1) := by decide +kernel
theorem dX2_coldJoints_55 : decode cX2_coldJoints 55 = .ok (.istore 6, 2) := by decide +kernel
theorem dX2_coldJoints_57 : decode cX2_coldJoints 57 = .ok (.aload_n 0, 1) := by decide +kernel
theorem dX2_coldJoints_58 : decode cX2_coldJoints 58 = .ok (.getfield 51, 3) := by decide +kernel
theorem dX2_coldJoints_61 : decode cX2_coldJoints 61 = .ok (.iconst 4, 1) := by decide +kernel
theorem dX2_coldJoints_62 : decode cX2_coldJoints 62 = .ok (.iload_n 1, 1) := by decide +kernel
theorem dX2_coldJoints_63 : decode cX2_coldJoints 63 = .ok (.imul, 1) := by decide +kernel
theorem dX2_coldJoints_64 : decode cX2_coldJoints 64 = .ok (.iload 5, 2) := by decide +kernel
theorem dX2_coldJoints_66 : decode cX2_coldJoints 66 = .ok (.iadd, 1) := by decide +kernel
theorem dX2_coldJoints_67 : decode cX2_coldJoints 67 = .ok (.iaload, 1) := by decide +kernel
theorem dX2_coldJoints_68 : decode cX2_coldJoints 68 = .ok (.istore 7, 2) := by decide +kernel
theorem dX2_coldJoints_70 : decode cX2_coldJoints 70 = .ok (.iload_n 2, 1) := by decide +kernel
theorem dX2_coldJoints_71 : decode cX2_coldJoints 71 = .ok (.aload_n 0, 1) := by decide +kernel
theorem dX2_coldJoints_72 : decode cX2_coldJoints 72 = .ok (.iload 6, 2) := by decide +kernel
theorem dX2_coldJoints_74 : decode cX2_coldJoints 74 = .ok (.iload 6, 2) := by decide +kernel
theorem dX2_coldJoints_76 : decode cX2_coldJoints 76 = .ok (.iload 7, 2) := by decide +kernel
theorem dX2_coldJoints_78 : decode cX2_coldJoints 78 = .ok (.iadd, 1) := by decide +kernel
theorem dX2_coldJoints_79 : decode cX2_coldJoints 79 = .ok (.invokevirtual 109, 3) := by decide +kernel
theorem dX2_coldJoints_82 : decode cX2_coldJoints 82 = .ok (.bipush 90, 2) := by decide +kernel
theorem dX2_coldJoints_84 : decode cX2_coldJoints 84 = .ok (.if_icmp .lt 7, 3) := by decide +kernel
theorem dX2_coldJoints_87 : decode cX2_coldJoints 87 = .ok (.iconst 1, 1) := by decide +kernel
theorem dX2_coldJoints_88 : decode cX2_coldJoints 88 = .ok (.goto 4, 3) := by decide +kernel
theorem dX2_coldJoints_91 : decode cX2_coldJoints 91 = .ok (.iconst 0, 1) := by decide +kernel
theorem dX2_coldJoints_92 : decode cX2_coldJoints 92 = .ok (.iadd, 1) := by decide +kernel
theorem dX2_coldJoints_93 : decode cX2_coldJoints 93 = .ok (.istore_n 2, 1) := by decide +kernel
theorem dX2_coldJoints_94 : decode cX2_coldJoints 94 = .ok (.iload_n 3, 1) := by decide +kernel
theorem dX2_coldJoints_95 : decode cX2_coldJoints 95 = .ok (.iload 7, 2) := by decide +kernel
theorem dX2_coldJoints_97 : decode cX2_coldJoints 97 = .ok (.iadd, 1) := by decide +kernel
theorem dX2_coldJoints_98 : decode cX2_coldJoints 98 = .ok (.istore_n 3, 1) := by decide +kernel
theorem dX2_coldJoints_99 : decode cX2_coldJoints 99 = .ok (.iinc 5 1, 3) := by decide +kernel
theorem dX2_coldJoints_102 : decode cX2_coldJoints 102 = .ok (.goto (-88), 3) := by decide +kernel
theorem dX2_coldJoints_105 : decode cX2_coldJoints 105 = .ok (.iload_n 2, 1) := by decide +kernel
theorem dX2_coldJoints_106 : decode cX2_coldJoints 106 = .ok (.ireturn, 1) := by decide +kernel
set_option maxRecDepth 20000 in
theorem ggX2_struck_X2_isAsked : GoodIn wsX2_struck wsX2_isAsked := goodIn_r _ [6, 7, 8, 9, 10, 5, 11, 12, 13, 14, 15, 16, 17, 18, 19, 20, 21, 22, 1, 23, 24, 25, 26, 27, 28, 29, 30, 31, 32, 33, 34, 35, 36, 37, 38, 39, 40, 41, 42, 43, 44, 45, 46, 47, 48, 49, 50, 51, 52, 53, 54, 55, 56, 57, 58, 59, 60, 61, 62, 63, 64, 65, 66, 67, 68, 69, 70, 71, 72, 73, 74, 75] (by decide +kernel) (by decide +kernel)
set_option maxRecDepth 20000 in
theorem gX2_struck_X2_isAsked : GoodIn wsX2_struck (wsV RX2 128 RX2 yX2_isAsked wsX2_isAsked) := goodIn_app (goodIn_of _ (by decide +kernel)) ggX2_struck_X2_isAsked
theorem dX2_struck_0 : decode cX2_struck 0 = .ok (.aload_n 0, 1) := by decide +kernel
theorem dX2_struck_1 : decode cX2_struck 1 = .ok (.iload_n 1, 1) := by decide +kernel
theorem dX2_struck_2 : decode cX2_struck 2 = .ok (.invokevirtual 128, 3) := by decide +kernel
theorem dX2_struck_5 : decode cX2_struck 5 = .ok (.ifCond .eq 12, 3) := by decide +kernel
theorem dX2_struck_8 : decode cX2_struck 8 = .ok (.aload_n 0, 1) := by decide +kernel
theorem dX2_struck_9 : decode cX2_struck 9 = .ok (.getfield 57, 3) := by decide +kernel
theorem dX2_struck_12 : decode cX2_struck 12 = .ok (.iload_n 1, 1) := by decide +kernel
theorem dX2_struck_13 : decode cX2_struck 13 = .ok (.iaload, 1) := by decide +kernel
theorem dX2_struck_14 : decode cX2_struck 14 = .ok (.goto 4, 3) := by decide +kernel
theorem dX2_struck_17 : decode cX2_struck 17 = .ok (.iconst 0, 1) := by decide +kernel
theorem dX2_struck_18 : decode cX2_struck 18 = .ok (.ireturn, 1) := by decide +kernel
set_option maxRecDepth 20000 in
theorem ggX2_freeFrom_X2_isAsked : GoodIn wsX2_freeFrom wsX2_isAsked := goodIn_r _ [6, 7, 8, 9, 10, 5, 11, 12, 13, 14, 15, 16, 17, 18, 19, 20, 21, 22, 23, 24, 1, 25, 26, 27, 28, 29, 30, 31, 32, 33, 34, 35, 36, 37, 38, 39, 40, 41, 42, 43, 44, 45, 46, 47, 48, 49, 50, 51, 52, 53, 54, 55, 56, 57, 58, 59, 60, 61, 62, 63, 64, 65, 66, 67, 68, 69, 70, 71, 72, 73, 74, 75] (by decide +kernel) (by decide +kernel)
set_option maxRecDepth 20000 in
theorem gX2_freeFrom_X2_isAsked : GoodIn wsX2_freeFrom (wsV RX2 128 RX2 yX2_isAsked wsX2_isAsked) := goodIn_app (goodIn_of _ (by decide +kernel)) ggX2_freeFrom_X2_isAsked
theorem dX2_freeFrom_0 : decode cX2_freeFrom 0 = .ok (.aload_n 0, 1) := by decide +kernel
theorem dX2_freeFrom_1 : decode cX2_freeFrom 1 = .ok (.iload_n 1, 1) := by decide +kernel
theorem dX2_freeFrom_2 : decode cX2_freeFrom 2 = .ok (.invokevirtual 128, 3) := by decide +kernel
theorem dX2_freeFrom_5 : decode cX2_freeFrom 5 = .ok (.ifCond .ne 7, 3) := by decide +kernel
theorem dX2_freeFrom_8 : decode cX2_freeFrom 8 = .ok (.iconst 0, 1) := by decide +kernel
theorem dX2_freeFrom_9 : decode cX2_freeFrom 9 = .ok (.goto 25, 3) := by decide +kernel
theorem dX2_freeFrom_12 : decode cX2_freeFrom 12 = .ok (.aload_n 0, 1) := by decide +kernel
theorem dX2_freeFrom_13 : decode cX2_freeFrom 13 = .ok (.getfield 60, 3) := by decide +kernel
theorem dX2_freeFrom_16 : decode cX2_freeFrom 16 = .ok (.iload_n 1, 1) := by decide +kernel
theorem dX2_freeFrom_17 : decode cX2_freeFrom 17 = .ok (.iaload, 1) := by decide +kernel
theorem dX2_freeFrom_18 : decode cX2_freeFrom 18 = .ok (.sipush 1000, 3) := by decide +kernel
theorem dX2_freeFrom_21 : decode cX2_freeFrom 21 = .ok (.if_icmp .ge 12, 3) := by decide +kernel
theorem dX2_freeFrom_24 : decode cX2_freeFrom 24 = .ok (.aload_n 0, 1) := by decide +kernel
theorem dX2_freeFrom_25 : decode cX2_freeFrom 25 = .ok (.getfield 60, 3) := by decide +kernel
theorem dX2_freeFrom_28 : decode cX2_freeFrom 28 = .ok (.iload_n 1, 1) := by decide +kernel
theorem dX2_freeFrom_29 : decode cX2_freeFrom 29 = .ok (.iaload, 1) := by decide +kernel
theorem dX2_freeFrom_30 : decode cX2_freeFrom 30 = .ok (.goto 4, 3) := by decide +kernel
theorem dX2_freeFrom_33 : decode cX2_freeFrom 33 = .ok (.iconst (-1), 1) := by decide +kernel
theorem dX2_freeFrom_34 : decode cX2_freeFrom 34 = .ok (.ireturn, 1) := by decide +kernel
set_option maxRecDepth 20000 in
theorem ggX2_need_X2_isHour : GoodIn wsX2_need wsX2_isHour := goodIn_r _ [5, 6, 7, 4, 8] (by decide +kernel) (by decide +kernel)
set_option maxRecDepth 20000 in
theorem gX2_need_X2_isHour : GoodIn wsX2_need (va_wsS RX2 73 yX2_isHour wsX2_isHour) := goodIn_app (goodIn_of _ (by decide +kernel)) ggX2_need_X2_isHour
set_option maxRecDepth 20000 in
theorem ggX2_need_X2_worksAll : GoodIn wsX2_need wsX2_worksAll := goodIn_r _ [12, 13, 14, 15, 16, 4, 17, 18, 19, 20, 21, 22, 23, 24, 25, 26, 27, 28, 29, 30, 31, 32, 33, 34, 35, 36, 37, 38, 39, 40, 41, 42, 43, 44, 45, 46, 47, 48, 49, 50, 51, 52, 2, 3, 5, 6, 7, 8, 62, 63, 64, 65, 66, 67, 68, 69, 70, 71, 72, 73, 74, 75, 76, 77, 78, 79, 80] (by decide +kernel) (by decide +kernel)
set_option maxRecDepth 20000 in
theorem gX2_need_X2_worksAll : GoodIn wsX2_need (wsV RX2 131 RX2 yX2_worksAll wsX2_worksAll) := goodIn_app (goodIn_of _ (by decide +kernel)) ggX2_need_X2_worksAll
set_option maxRecDepth 20000 in
theorem ggX2_need_X2_needOf : GoodIn wsX2_need wsX2_needOf := goodIn_r _ [56, 57, 58, 59, 60, 4, 61, 13, 18, 23, 62, 63, 64, 65, 66, 67, 68, 69, 70, 71, 72, 73, 74, 75, 76, 77, 78, 79, 80] (by decide +kernel) (by decide +kernel)
set_option maxRecDepth 20000 in
theorem gX2_need_X2_needOf : GoodIn wsX2_need (wsV RX2 134 RX2 yX2_needOf wsX2_needOf) := goodIn_app (goodIn_of _ (by decide +kernel)) ggX2_need_X2_needOf
theorem dX2_need_0 : decode cX2_need 0 = .ok (.aload_n 0, 1) := by decide +kernel
theorem dX2_need_1 : decode cX2_need 1 = .ok (.iload_n 1, 1) := by decide +kernel
theorem dX2_need_2 : decode cX2_need 2 = .ok (.invokestatic 73, 3) := by decide +kernel
theorem dX2_need_5 : decode cX2_need 5 = .ok (.ifCond .eq 7, 3) := by decide +kernel
theorem dX2_need_8 : decode cX2_need 8 = .ok (.iconst 0, 1) := by decide +kernel
theorem dX2_need_9 : decode cX2_need 9 = .ok (.goto 4, 3) := by decide +kernel
theorem dX2_need_12 : decode cX2_need 12 = .ok (.iconst 1, 1) := by decide +kernel
theorem dX2_need_13 : decode cX2_need 13 = .ok (.putfield 66, 3) := by decide +kernel
theorem dX2_need_16 : decode cX2_need 16 = .ok (.aload_n 0, 1) := by decide +kernel
theorem dX2_need_17 : decode cX2_need 17 = .ok (.invokevirtual 131, 3) := by decide +kernel
theorem dX2_need_20 : decode cX2_need 20 = .ok (.aload_n 0, 1) := by decide +kernel
theorem dX2_need_21 : decode cX2_need 21 = .ok (.getfield 66, 3) := by decide +kernel
theorem dX2_need_24 : decode cX2_need 24 = .ok (.ifCond .le 7, 3) := by decide +kernel
theorem dX2_need_27 : decode cX2_need 27 = .ok (.iconst 0, 1) := by decide +kernel
theorem dX2_need_28 : decode cX2_need 28 = .ok (.goto 8, 3) := by decide +kernel
theorem dX2_need_31 : decode cX2_need 31 = .ok (.aload_n 0, 1) := by decide +kernel
theorem dX2_need_32 : decode cX2_need 32 = .ok (.iload_n 1, 1) := by decide +kernel
theorem dX2_need_33 : decode cX2_need 33 = .ok (.invokevirtual 134, 3) := by decide +kernel
theorem dX2_need_36 : decode cX2_need 36 = .ok (.ireturn, 1) := by decide +kernel
set_option maxRecDepth 20000 in
theorem ggX2_most_X2_worksAll : GoodIn wsX2_most wsX2_worksAll := goodIn_r _ [5, 6, 7, 8, 9, 4, 10, 11, 12, 13, 14, 15, 16, 17, 18, 19, 20, 21, 22, 23, 24, 25, 26, 27, 28, 29, 30, 31, 32, 33, 34, 35, 36, 37, 38, 39, 40, 41, 42, 43, 44, 45, 46, 47, 48, 49, 50, 51, 61, 62, 63, 64, 65, 66, 67, 68, 69, 70, 71, 72, 73, 74, 75, 76, 77, 78, 79] (by decide +kernel) (by decide +kernel)
set_option maxRecDepth 20000 in
theorem gX2_most_X2_worksAll : GoodIn wsX2_most (wsV RX2 131 RX2 yX2_worksAll wsX2_worksAll) := goodIn_app (goodIn_of _ (by decide +kernel)) ggX2_most_X2_worksAll
set_option maxRecDepth 20000 in
theorem ggX2_most_X2_needOf : GoodIn wsX2_most wsX2_needOf := goodIn_r _ [55, 56, 57, 58, 59, 4, 60, 6, 11, 16, 61, 62, 63, 64, 65, 66, 67, 68, 69, 70, 71, 72, 73, 74, 75, 76, 77, 78, 79] (by decide +kernel) (by decide +kernel)
set_option maxRecDepth 20000 in
theorem gX2_most_X2_needOf : GoodIn wsX2_most (wsV RX2 134 RX2 yX2_needOf wsX2_needOf) := goodIn_app (goodIn_of _ (by decide +kernel)) ggX2_most_X2_needOf
theorem dX2_most_0 : decode cX2_most 0 = .ok (.aload_n 0, 1) := by decide +kernel
theorem dX2_most_1 : decode cX2_most 1 = .ok (.invokevirtual 131, 3) := by decide +kernel
theorem dX2_most_4 : decode cX2_most 4 = .ok (.iconst 0, 1) := by decide +kernel
theorem dX2_most_5 : decode cX2_most 5 = .ok (.istore_n 1, 1) := by decide +kernel
theorem dX2_most_6 : decode cX2_most 6 = .ok (.iconst 0, 1) := by decide +kernel
theorem dX2_most_7 : decode cX2_most 7 = .ok (.istore_n 2, 1) := by decide +kernel
theorem dX2_most_8 : decode cX2_most 8 = .ok (.iload_n 2, 1) := by decide +kernel
theorem dX2_most_9 : decode cX2_most 9 = .ok (.sipush 1000, 3) := by decide +kernel
theorem dX2_most_12 : decode cX2_most 12 = .ok (.if_icmp .ge 28, 3) := by decide +kernel
theorem dX2_most_15 : decode cX2_most 15 = .ok (.aload_n 0, 1) := by decide +kernel
theorem dX2_most_16 : decode cX2_most 16 = .ok (.iload_n 2, 1) := by decide +kernel
theorem dX2_most_17 : decode cX2_most 17 = .ok (.invokevirtual 134, 3) := by decide +kernel
theorem dX2_most_20 : decode cX2_most 20 = .ok (.iload_n 1, 1) := by decide +kernel
theorem dX2_most_21 : decode cX2_most 21 = .ok (.if_icmp .le 11, 3) := by decide +kernel
theorem dX2_most_24 : decode cX2_most 24 = .ok (.aload_n 0, 1) := by decide +kernel
theorem dX2_most_25 : decode cX2_most 25 = .ok (.iload_n 2, 1) := by decide +kernel
theorem dX2_most_26 : decode cX2_most 26 = .ok (.invokevirtual 134, 3) := by decide +kernel
theorem dX2_most_29 : decode cX2_most 29 = .ok (.goto 4, 3) := by decide +kernel
theorem dX2_most_32 : decode cX2_most 32 = .ok (.iload_n 1, 1) := by decide +kernel
theorem dX2_most_33 : decode cX2_most 33 = .ok (.istore_n 1, 1) := by decide +kernel
theorem dX2_most_34 : decode cX2_most 34 = .ok (.iinc 2 1, 3) := by decide +kernel
theorem dX2_most_37 : decode cX2_most 37 = .ok (.goto (-29), 3) := by decide +kernel
theorem dX2_most_40 : decode cX2_most 40 = .ok (.iload_n 1, 1) := by decide +kernel
theorem dX2_most_41 : decode cX2_most 41 = .ok (.ireturn, 1) := by decide +kernel
set_option maxRecDepth 20000 in
theorem ggX2_peak_X2_most : GoodIn wsX2_peak wsX2_most := goodIn_r _ [6, 7, 8, 9, 5, 10, 11, 12, 13, 14, 15, 16, 17, 18, 19, 20, 21, 22, 23, 24, 25, 26, 27, 28, 29, 30, 31, 32, 33, 34, 35, 36, 37, 38, 39, 40, 41, 42, 43, 44, 45, 46, 47, 48, 49, 50, 51, 52, 53, 54, 55, 56, 57, 58, 59, 60, 61, 62, 63, 64, 65, 66, 67, 68, 69, 70, 71, 72, 73, 74, 75, 76, 77, 78, 79, 80, 81, 82, 83, 84] (by decide +kernel) (by decide +kernel)
set_option maxRecDepth 20000 in
theorem gX2_peak_X2_most : GoodIn wsX2_peak (wsV RX2 137 RX2 yX2_most wsX2_most) := goodIn_app (goodIn_of _ (by decide +kernel)) ggX2_peak_X2_most
theorem dX2_peak_0 : decode cX2_peak 0 = .ok (.aload_n 0, 1) := by decide +kernel
theorem dX2_peak_1 : decode cX2_peak 1 = .ok (.iconst 0, 1) := by decide +kernel
theorem dX2_peak_2 : decode cX2_peak 2 = .ok (.putfield 66, 3) := by decide +kernel
theorem dX2_peak_5 : decode cX2_peak 5 = .ok (.aload_n 0, 1) := by decide +kernel
theorem dX2_peak_6 : decode cX2_peak 6 = .ok (.invokevirtual 137, 3) := by decide +kernel
theorem dX2_peak_9 : decode cX2_peak 9 = .ok (.ireturn, 1) := by decide +kernel
set_option maxRecDepth 20000 in
theorem ggX2_peakByOverlaps_X2_most : GoodIn wsX2_peakByOverlaps wsX2_most := goodIn_r _ [6, 7, 8, 9, 5, 10, 11, 12, 13, 14, 15, 16, 17, 18, 19, 20, 21, 22, 23, 24, 25, 26, 27, 28, 29, 30, 31, 32, 33, 34, 35, 36, 37, 38, 39, 40, 41, 42, 43, 44, 45, 46, 47, 48, 49, 50, 51, 52, 53, 54, 55, 56, 57, 58, 59, 60, 61, 62, 63, 64, 65, 66, 67, 68, 69, 70, 71, 72, 73, 74, 75, 76, 77, 78, 79, 80, 81, 82, 83, 84] (by decide +kernel) (by decide +kernel)
set_option maxRecDepth 20000 in
theorem gX2_peakByOverlaps_X2_most : GoodIn wsX2_peakByOverlaps (wsV RX2 137 RX2 yX2_most wsX2_most) := goodIn_app (goodIn_of _ (by decide +kernel)) ggX2_peakByOverlaps_X2_most
theorem dX2_peakByOverlaps_0 : decode cX2_peakByOverlaps 0 = .ok (.aload_n 0, 1) := by decide +kernel
theorem dX2_peakByOverlaps_1 : decode cX2_peakByOverlaps 1 = .ok (.iconst 0, 1) := by decide +kernel
theorem dX2_peakByOverlaps_2 : decode cX2_peakByOverlaps 2 = .ok (.putfield 66, 3) := by decide +kernel
theorem dX2_peakByOverlaps_5 : decode cX2_peakByOverlaps 5 = .ok (.aload_n 0, 1) := by decide +kernel
theorem dX2_peakByOverlaps_6 : decode cX2_peakByOverlaps 6 = .ok (.invokevirtual 137, 3) := by decide +kernel
theorem dX2_peakByOverlaps_9 : decode cX2_peakByOverlaps 9 = .ok (.ireturn, 1) := by decide +kernel
set_option maxRecDepth 20000 in
theorem ggX2_firstShort_X2_worksAll : GoodIn wsX2_firstShort wsX2_worksAll := goodIn_r _ [7, 8, 9, 10, 11, 6, 12, 13, 14, 15, 16, 17, 18, 19, 20, 21, 22, 23, 24, 25, 26, 27, 28, 29, 30, 31, 32, 33, 34, 35, 36, 37, 38, 39, 40, 41, 42, 43, 44, 45, 46, 47, 48, 49, 50, 51, 52, 53, 63, 64, 65, 66, 67, 68, 69, 70, 71, 72, 73, 74, 75, 76, 77, 78, 79, 80, 81] (by decide +kernel) (by decide +kernel)
set_option maxRecDepth 20000 in
theorem gX2_firstShort_X2_worksAll : GoodIn wsX2_firstShort (wsV RX2 131 RX2 yX2_worksAll wsX2_worksAll) := goodIn_app (goodIn_of _ (by decide +kernel)) ggX2_firstShort_X2_worksAll
set_option maxRecDepth 20000 in
theorem ggX2_firstShort_X2_needOf : GoodIn wsX2_firstShort wsX2_needOf := goodIn_r _ [57, 58, 59, 60, 61, 6, 62, 8, 13, 18, 63, 64, 65, 66, 67, 68, 69, 70, 71, 72, 73, 74, 75, 76, 77, 78, 79, 80, 81] (by decide +kernel) (by decide +kernel)
set_option maxRecDepth 20000 in
theorem gX2_firstShort_X2_needOf : GoodIn wsX2_firstShort (wsV RX2 134 RX2 yX2_needOf wsX2_needOf) := goodIn_app (goodIn_of _ (by decide +kernel)) ggX2_firstShort_X2_needOf
theorem dX2_firstShort_0 : decode cX2_firstShort 0 = .ok (.aload_n 0, 1) := by decide +kernel
theorem dX2_firstShort_1 : decode cX2_firstShort 1 = .ok (.iconst 0, 1) := by decide +kernel
theorem dX2_firstShort_2 : decode cX2_firstShort 2 = .ok (.putfield 66, 3) := by decide +kernel
theorem dX2_firstShort_5 : decode cX2_firstShort 5 = .ok (.aload_n 0, 1) := by decide +kernel
theorem dX2_firstShort_6 : decode cX2_firstShort 6 = .ok (.invokevirtual 131, 3) := by decide +kernel
theorem dX2_firstShort_9 : decode cX2_firstShort 9 = .ok (.iconst (-1), 1) := by decide +kernel
theorem dX2_firstShort_10 : decode cX2_firstShort 10 = .ok (.istore_n 1, 1) := by decide +kernel
theorem dX2_firstShort_11 : decode cX2_firstShort 11 = .ok (.sipush 999, 3) := by decide +kernel
theorem dX2_firstShort_14 : decode cX2_firstShort 14 = .ok (.istore_n 2, 1) := by decide +kernel
theorem dX2_firstShort_15 : decode cX2_firstShort 15 = .ok (.iload_n 2, 1) := by decide +kernel
theorem dX2_firstShort_16 : decode cX2_firstShort 16 = .ok (.ifCond .lt 27, 3) := by decide +kernel
theorem dX2_firstShort_19 : decode cX2_firstShort 19 = .ok (.aload_n 0, 1) := by decide +kernel
theorem dX2_firstShort_20 : decode cX2_firstShort 20 = .ok (.iload_n 2, 1) := by decide +kernel
theorem dX2_firstShort_21 : decode cX2_firstShort 21 = .ok (.invokevirtual 134, 3) := by decide +kernel
theorem dX2_firstShort_24 : decode cX2_firstShort 24 = .ok (.aload_n 0, 1) := by decide +kernel
theorem dX2_firstShort_25 : decode cX2_firstShort 25 = .ok (.getfield 13, 3) := by decide +kernel
theorem dX2_firstShort_28 : decode cX2_firstShort 28 = .ok (.if_icmp .le 7, 3) := by decide +kernel
theorem dX2_firstShort_31 : decode cX2_firstShort 31 = .ok (.iload_n 2, 1) := by decide +kernel
theorem dX2_firstShort_32 : decode cX2_firstShort 32 = .ok (.goto 4, 3) := by decide +kernel
theorem dX2_firstShort_35 : decode cX2_firstShort 35 = .ok (.iload_n 1, 1) := by decide +kernel
theorem dX2_firstShort_36 : decode cX2_firstShort 36 = .ok (.istore_n 1, 1) := by decide +kernel
theorem dX2_firstShort_37 : decode cX2_firstShort 37 = .ok (.iinc 2 (-1), 3) := by decide +kernel
theorem dX2_firstShort_40 : decode cX2_firstShort 40 = .ok (.goto (-25), 3) := by decide +kernel
theorem dX2_firstShort_43 : decode cX2_firstShort 43 = .ok (.iload_n 1, 1) := by decide +kernel
theorem dX2_firstShort_44 : decode cX2_firstShort 44 = .ok (.ireturn, 1) := by decide +kernel
set_option maxRecDepth 20000 in
theorem ggX2_fits_X2_works : GoodIn wsX2_fits wsX2_works := goodIn_r _ [9, 1, 10, 11, 12, 13, 2, 14, 15, 16, 17, 8, 18, 19, 20, 21, 22, 23, 24, 25, 26, 27, 28, 29, 30, 31, 32, 33, 34, 35, 36, 37, 38, 39, 40, 41, 42, 43, 44, 45, 46, 47, 48, 58, 59, 60, 61, 62, 63, 64, 65, 66, 67, 68, 69, 70, 71, 72, 73, 74, 75, 76] (by decide +kernel) (by decide +kernel)
set_option maxRecDepth 20000 in
theorem gX2_fits_X2_works : GoodIn wsX2_fits (wsV RX2 98 RX2 yX2_works wsX2_works) := goodIn_app (goodIn_of _ (by decide +kernel)) ggX2_fits_X2_works
set_option maxRecDepth 20000 in
theorem ggX2_fits_X2_needOf : GoodIn wsX2_fits wsX2_needOf := goodIn_r _ [52, 3, 53, 54, 55, 8, 56, 57, 1, 2, 58, 59, 60, 61, 62, 63, 64, 65, 66, 67, 68, 69, 70, 71, 72, 73, 74, 75, 76] (by decide +kernel) (by decide +kernel)
set_option maxRecDepth 20000 in
theorem gX2_fits_X2_needOf : GoodIn wsX2_fits (wsV RX2 134 RX2 yX2_needOf wsX2_needOf) := goodIn_app (goodIn_of _ (by decide +kernel)) ggX2_fits_X2_needOf
theorem dX2_fits_0 : decode cX2_fits 0 = .ok (.aload_n 0, 1) := by decide +kernel
theorem dX2_fits_1 : decode cX2_fits 1 = .ok (.bipush 10, 2) := by decide +kernel
theorem dX2_fits_3 : decode cX2_fits 3 = .ok (.invokevirtual 98, 3) := by decide +kernel
theorem dX2_fits_6 : decode cX2_fits 6 = .ok (.iconst 1, 1) := by decide +kernel
theorem dX2_fits_7 : decode cX2_fits 7 = .ok (.istore_n 1, 1) := by decide +kernel
theorem dX2_fits_8 : decode cX2_fits 8 = .ok (.aload_n 0, 1) := by decide +kernel
theorem dX2_fits_9 : decode cX2_fits 9 = .ok (.getfield 54, 3) := by decide +kernel
theorem dX2_fits_12 : decode cX2_fits 12 = .ok (.bipush 10, 2) := by decide +kernel
theorem dX2_fits_14 : decode cX2_fits 14 = .ok (.iaload, 1) := by decide +kernel
theorem dX2_fits_15 : decode cX2_fits 15 = .ok (.istore_n 2, 1) := by decide +kernel
theorem dX2_fits_16 : decode cX2_fits 16 = .ok (.iload_n 2, 1) := by decide +kernel
theorem dX2_fits_17 : decode cX2_fits 17 = .ok (.sipush 1000, 3) := by decide +kernel
theorem dX2_fits_20 : decode cX2_fits 20 = .ok (.if_icmp .ge 50, 3) := by decide +kernel
theorem dX2_fits_23 : decode cX2_fits 23 = .ok (.iload_n 2, 1) := by decide +kernel
theorem dX2_fits_24 : decode cX2_fits 24 = .ok (.aload_n 0, 1) := by decide +kernel
theorem dX2_fits_25 : decode cX2_fits 25 = .ok (.getfield 60, 3) := by decide +kernel
theorem dX2_fits_28 : decode cX2_fits 28 = .ok (.bipush 10, 2) := by decide +kernel
theorem dX2_fits_30 : decode cX2_fits 30 = .ok (.iaload, 1) := by decide +kernel
theorem dX2_fits_31 : decode cX2_fits 31 = .ok (.if_icmp .ge 39, 3) := by decide +kernel
theorem dX2_fits_34 : decode cX2_fits 34 = .ok (.iload_n 1, 1) := by decide +kernel
theorem dX2_fits_35 : decode cX2_fits 35 = .ok (.ifCond .eq 35, 3) := by decide +kernel
theorem dX2_fits_38 : decode cX2_fits 38 = .ok (.aload_n 0, 1) := by decide +kernel
theorem dX2_fits_39 : decode cX2_fits 39 = .ok (.iload_n 2, 1) := by decide +kernel
theorem dX2_fits_40 : decode cX2_fits 40 = .ok (.invokevirtual 134, 3) := by decide +kernel
theorem dX2_fits_43 : decode cX2_fits 43 = .ok (.aload_n 0, 1) := by decide +kernel
theorem dX2_fits_44 : decode cX2_fits 44 = .ok (.getfield 39, 3) := by decide +kernel
theorem dX2_fits_47 : decode cX2_fits 47 = .ok (.bipush 10, 2) := by decide +kernel
theorem dX2_fits_49 : decode cX2_fits 49 = .ok (.iaload, 1) := by decide +kernel
theorem dX2_fits_50 : decode cX2_fits 50 = .ok (.iadd, 1) := by decide +kernel
theorem dX2_fits_51 : decode cX2_fits 51 = .ok (.aload_n 0, 1) := by decide +kernel
theorem dX2_fits_52 : decode cX2_fits 52 = .ok (.getfield 13, 3) := by decide +kernel
theorem dX2_fits_55 : decode cX2_fits 55 = .ok (.if_icmp .gt 7, 3) := by decide +kernel
theorem dX2_fits_58 : decode cX2_fits 58 = .ok (.iconst 1, 1) := by decide +kernel
theorem dX2_fits_59 : decode cX2_fits 59 = .ok (.goto 4, 3) := by decide +kernel
theorem dX2_fits_62 : decode cX2_fits 62 = .ok (.iconst 0, 1) := by decide +kernel
theorem dX2_fits_63 : decode cX2_fits 63 = .ok (.istore_n 1, 1) := by decide +kernel
theorem dX2_fits_64 : decode cX2_fits 64 = .ok (.iinc 2 1, 3) := by decide +kernel
theorem dX2_fits_67 : decode cX2_fits 67 = .ok (.goto (-51), 3) := by decide +kernel
theorem dX2_fits_70 : decode cX2_fits 70 = .ok (.iload_n 1, 1) := by decide +kernel
theorem dX2_fits_71 : decode cX2_fits 71 = .ok (.ireturn, 1) := by decide +kernel
set_option maxRecDepth 20000 in
theorem ggX2_earliest_X2_isPlan : GoodIn wsX2_earliest wsX2_isPlan := goodIn_r _ [5, 6, 7, 4, 8] (by decide +kernel) (by decide +kernel)
set_option maxRecDepth 20000 in
theorem gX2_earliest_X2_isPlan : GoodIn wsX2_earliest (va_wsS RX2 117 yX2_isPlan wsX2_isPlan) := goodIn_app (goodIn_of _ (by decide +kernel)) ggX2_earliest_X2_isPlan
set_option maxRecDepth 20000 in
theorem ggX2_earliest_X2_worksAll : GoodIn wsX2_earliest wsX2_worksAll := goodIn_r _ [12, 13, 14, 15, 16, 4, 17, 18, 19, 20, 21, 22, 23, 24, 25, 26, 27, 28, 29, 30, 31, 32, 33, 34, 35, 36, 37, 38, 39, 40, 41, 42, 43, 44, 45, 46, 47, 48, 49, 50, 51, 52, 53, 54, 55, 6, 7, 8, 74, 75, 76, 77, 78, 79, 80, 81, 82, 83, 84, 85, 86, 87, 88, 89, 90, 91, 92] (by decide +kernel) (by decide +kernel)
set_option maxRecDepth 20000 in
theorem gX2_earliest_X2_worksAll : GoodIn wsX2_earliest (wsV RX2 131 RX2 yX2_worksAll wsX2_worksAll) := goodIn_app (goodIn_of _ (by decide +kernel)) ggX2_earliest_X2_worksAll
set_option maxRecDepth 20000 in
theorem ggX2_earliest_X2_lays : GoodIn wsX2_earliest wsX2_lays := goodIn_r _ [59, 19, 29, 60, 22, 40, 74, 75, 76, 77, 78, 79, 80, 81, 82, 83, 84, 85, 86, 87, 88, 89, 90, 91, 92] (by decide +kernel) (by decide +kernel)
set_option maxRecDepth 20000 in
theorem gX2_earliest_X2_lays : GoodIn wsX2_earliest (wsV RX2 121 RX2 yX2_lays wsX2_lays) := goodIn_app (goodIn_of _ (by decide +kernel)) ggX2_earliest_X2_lays
set_option maxRecDepth 20000 in
theorem ggX2_earliest_X2_fits : GoodIn wsX2_earliest wsX2_fits := goodIn_r _ [64, 18, 23, 60, 65, 14, 15, 16, 4, 17, 19, 20, 21, 22, 24, 25, 26, 27, 28, 29, 30, 31, 32, 33, 34, 35, 36, 37, 38, 39, 40, 41, 42, 43, 44, 45, 46, 47, 48, 49, 50, 51, 52, 53, 54, 55, 6, 7, 8, 66, 67, 68, 69, 70, 71, 72, 73, 13, 74, 75, 76, 77, 78, 79, 80, 81, 82, 83, 84, 85, 86, 87, 88, 89, 90, 91, 92] (by decide +kernel) (by decide +kernel)
set_option maxRecDepth 20000 in
theorem gX2_earliest_X2_fits : GoodIn wsX2_earliest (wsV RX2 140 RX2 yX2_fits wsX2_fits) := goodIn_app (goodIn_of _ (by decide +kernel)) ggX2_earliest_X2_fits
theorem dX2_earliest_0 : decode cX2_earliest 0 = .ok (.aload_n 0, 1) := by decide +kernel
theorem dX2_earliest_1 : decode cX2_earliest 1 = .ok (.iload_n 1, 1) := by decide +kernel
theorem dX2_earliest_2 : decode cX2_earliest 2 = .ok (.iload_n 2, 1) := by decide +kernel
theorem dX2_earliest_3 : decode cX2_earliest 3 = .ok (.iload_n 3, 1) := by decide +kernel
theorem dX2_earliest_4 : decode cX2_earliest 4 = .ok (.iload 4, 2) := by decide +kernel
theorem dX2_earliest_6 : decode cX2_earliest 6 = .ok (.invokestatic 117, 3) := by decide +kernel
theorem dX2_earliest_9 : decode cX2_earliest 9 = .ok (.ifCond .eq 7, 3) := by decide +kernel
theorem dX2_earliest_12 : decode cX2_earliest 12 = .ok (.iconst 0, 1) := by decide +kernel
theorem dX2_earliest_13 : decode cX2_earliest 13 = .ok (.goto 4, 3) := by decide +kernel
theorem dX2_earliest_16 : decode cX2_earliest 16 = .ok (.iconst 1, 1) := by decide +kernel
theorem dX2_earliest_17 : decode cX2_earliest 17 = .ok (.putfield 66, 3) := by decide +kernel
theorem dX2_earliest_20 : decode cX2_earliest 20 = .ok (.aload_n 0, 1) := by decide +kernel
theorem dX2_earliest_21 : decode cX2_earliest 21 = .ok (.getfield 66, 3) := by decide +kernel
theorem dX2_earliest_24 : decode cX2_earliest 24 = .ok (.ifCond .le 5, 3) := by decide +kernel
theorem dX2_earliest_27 : decode cX2_earliest 27 = .ok (.iconst 0, 1) := by decide +kernel
theorem dX2_earliest_28 : decode cX2_earliest 28 = .ok (.ireturn, 1) := by decide +kernel
theorem dX2_earliest_29 : decode cX2_earliest 29 = .ok (.aload_n 0, 1) := by decide +kernel
theorem dX2_earliest_30 : decode cX2_earliest 30 = .ok (.invokevirtual 131, 3) := by decide +kernel
theorem dX2_earliest_33 : decode cX2_earliest 33 = .ok (.iload_n 1, 1) := by decide +kernel
theorem dX2_earliest_34 : decode cX2_earliest 34 = .ok (.istore 5, 2) := by decide +kernel
theorem dX2_earliest_36 : decode cX2_earliest 36 = .ok (.aload_n 0, 1) := by decide +kernel
theorem dX2_earliest_37 : decode cX2_earliest 37 = .ok (.bipush 10, 2) := by decide +kernel
theorem dX2_earliest_39 : decode cX2_earliest 39 = .ok (.iload 5, 2) := by decide +kernel
theorem dX2_earliest_41 : decode cX2_earliest 41 = .ok (.iload_n 2, 1) := by decide +kernel
theorem dX2_earliest_42 : decode cX2_earliest 42 = .ok (.iload_n 3, 1) := by decide +kernel
theorem dX2_earliest_43 : decode cX2_earliest 43 = .ok (.iload 4, 2) := by decide +kernel
theorem dX2_earliest_45 : decode cX2_earliest 45 = .ok (.invokevirtual 121, 3) := by decide +kernel
theorem dX2_earliest_48 : decode cX2_earliest 48 = .ok (.iload 5, 2) := by decide +kernel
theorem dX2_earliest_50 : decode cX2_earliest 50 = .ok (.sipush 900, 3) := by decide +kernel
theorem dX2_earliest_53 : decode cX2_earliest 53 = .ok (.if_icmp .gt 28, 3) := by decide +kernel
theorem dX2_earliest_56 : decode cX2_earliest 56 = .ok (.aload_n 0, 1) := by decide +kernel
theorem dX2_earliest_57 : decode cX2_earliest 57 = .ok (.invokevirtual 140, 3) := by decide +kernel
theorem dX2_earliest_60 : decode cX2_earliest 60 = .ok (.ifCond .ne 21, 3) := by decide +kernel
theorem dX2_earliest_63 : decode cX2_earliest 63 = .ok (.iinc 5 1, 3) := by decide +kernel
theorem dX2_earliest_66 : decode cX2_earliest 66 = .ok (.aload_n 0, 1) := by decide +kernel
theorem dX2_earliest_67 : decode cX2_earliest 67 = .ok (.bipush 10, 2) := by decide +kernel
theorem dX2_earliest_69 : decode cX2_earliest 69 = .ok (.iload 5, 2) := by decide +kernel
theorem dX2_earliest_71 : decode cX2_earliest 71 = .ok (.iload_n 2, 1) := by decide +kernel
theorem dX2_earliest_72 : decode cX2_earliest 72 = .ok (.iload_n 3, 1) := by decide +kernel
theorem dX2_earliest_73 : decode cX2_earliest 73 = .ok (.iload 4, 2) := by decide +kernel
theorem dX2_earliest_75 : decode cX2_earliest 75 = .ok (.invokevirtual 121, 3) := by decide +kernel
theorem dX2_earliest_78 : decode cX2_earliest 78 = .ok (.goto (-30), 3) := by decide +kernel
theorem dX2_earliest_81 : decode cX2_earliest 81 = .ok (.iload 5, 2) := by decide +kernel
theorem dX2_earliest_83 : decode cX2_earliest 83 = .ok (.sipush 900, 3) := by decide +kernel
theorem dX2_earliest_86 : decode cX2_earliest 86 = .ok (.if_icmp .gt 8, 3) := by decide +kernel
theorem dX2_earliest_89 : decode cX2_earliest 89 = .ok (.iload 5, 2) := by decide +kernel
theorem dX2_earliest_91 : decode cX2_earliest 91 = .ok (.goto 4, 3) := by decide +kernel
theorem dX2_earliest_94 : decode cX2_earliest 94 = .ok (.iconst (-1), 1) := by decide +kernel
theorem dX2_earliest_95 : decode cX2_earliest 95 = .ok (.ireturn, 1) := by decide +kernel
set_option maxRecDepth 20000 in
theorem ggX2_isTaken_X2_isBusy : GoodIn wsX2_isTaken wsX2_isBusy := goodIn_r _ [6, 7, 8, 9, 10, 11, 12, 13, 14, 15, 16, 17, 18, 19, 20, 21, 22, 23, 24, 25, 26, 27, 28] (by decide +kernel) (by decide +kernel)
set_option maxRecDepth 20000 in
theorem gX2_isTaken_X2_isBusy : GoodIn wsX2_isTaken (wsV RX2 102 RX2 yX2_isBusy wsX2_isBusy) := goodIn_app (goodIn_of _ (by decide +kernel)) ggX2_isTaken_X2_isBusy
theorem dX2_isTaken_0 : decode cX2_isTaken 0 = .ok (.iconst 0, 1) := by decide +kernel
theorem dX2_isTaken_1 : decode cX2_isTaken 1 = .ok (.istore_n 3, 1) := by decide +kernel
theorem dX2_isTaken_2 : decode cX2_isTaken 2 = .ok (.iconst 0, 1) := by decide +kernel
theorem dX2_isTaken_3 : decode cX2_isTaken 3 = .ok (.istore 4, 2) := by decide +kernel
theorem dX2_isTaken_5 : decode cX2_isTaken 5 = .ok (.iload 4, 2) := by decide +kernel
theorem dX2_isTaken_7 : decode cX2_isTaken 7 = .ok (.bipush 10, 2) := by decide +kernel
theorem dX2_isTaken_9 : decode cX2_isTaken 9 = .ok (.if_icmp .ge 44, 3) := by decide +kernel
theorem dX2_isTaken_12 : decode cX2_isTaken 12 = .ok (.iload_n 3, 1) := by decide +kernel
theorem dX2_isTaken_13 : decode cX2_isTaken 13 = .ok (.ifCond .ne 28, 3) := by decide +kernel
theorem dX2_isTaken_16 : decode cX2_isTaken 16 = .ok (.aload_n 0, 1) := by decide +kernel
theorem dX2_isTaken_17 : decode cX2_isTaken 17 = .ok (.getfield 63, 3) := by decide +kernel
theorem dX2_isTaken_20 : decode cX2_isTaken 20 = .ok (.bipush 60, 2) := by decide +kernel
theorem dX2_isTaken_22 : decode cX2_isTaken 22 = .ok (.iload 4, 2) := by decide +kernel
theorem dX2_isTaken_24 : decode cX2_isTaken 24 = .ok (.imul, 1) := by decide +kernel
theorem dX2_isTaken_25 : decode cX2_isTaken 25 = .ok (.iload_n 1, 1) := by decide +kernel
theorem dX2_isTaken_26 : decode cX2_isTaken 26 = .ok (.iadd, 1) := by decide +kernel
theorem dX2_isTaken_27 : decode cX2_isTaken 27 = .ok (.baload, 1) := by decide +kernel
theorem dX2_isTaken_28 : decode cX2_isTaken 28 = .ok (.ifCond .eq 17, 3) := by decide +kernel
theorem dX2_isTaken_31 : decode cX2_isTaken 31 = .ok (.aload_n 0, 1) := by decide +kernel
theorem dX2_isTaken_32 : decode cX2_isTaken 32 = .ok (.iload 4, 2) := by decide +kernel
theorem dX2_isTaken_34 : decode cX2_isTaken 34 = .ok (.iload_n 2, 1) := by decide +kernel
theorem dX2_isTaken_35 : decode cX2_isTaken 35 = .ok (.invokevirtual 102, 3) := by decide +kernel
theorem dX2_isTaken_38 : decode cX2_isTaken 38 = .ok (.ifCond .eq 7, 3) := by decide +kernel
theorem dX2_isTaken_41 : decode cX2_isTaken 41 = .ok (.iconst 1, 1) := by decide +kernel
theorem dX2_isTaken_42 : decode cX2_isTaken 42 = .ok (.goto 4, 3) := by decide +kernel
theorem dX2_isTaken_45 : decode cX2_isTaken 45 = .ok (.iconst 0, 1) := by decide +kernel
theorem dX2_isTaken_46 : decode cX2_isTaken 46 = .ok (.istore_n 3, 1) := by decide +kernel
theorem dX2_isTaken_47 : decode cX2_isTaken 47 = .ok (.iinc 4 1, 3) := by decide +kernel
theorem dX2_isTaken_50 : decode cX2_isTaken 50 = .ok (.goto (-45), 3) := by decide +kernel
theorem dX2_isTaken_53 : decode cX2_isTaken 53 = .ok (.iload_n 3, 1) := by decide +kernel
theorem dX2_isTaken_54 : decode cX2_isTaken 54 = .ok (.ireturn, 1) := by decide +kernel
set_option maxRecDepth 20000 in
theorem ggX2_gives_X2_worksAll : GoodIn wsX2_gives wsX2_worksAll := goodIn_r _ [10, 2, 11, 12, 13, 9, 14, 3, 15, 16, 17, 18, 19, 20, 21, 22, 23, 24, 25, 26, 27, 28, 29, 30, 31, 32, 33, 34, 35, 36, 37, 38, 39, 40, 41, 42, 43, 44, 45, 46, 47, 48, 49, 50, 51, 52, 53, 54, 63, 64, 65, 66, 67, 68, 69, 70, 71, 72, 73, 74, 75, 76, 77, 78, 79, 80, 81] (by decide +kernel) (by decide +kernel)
set_option maxRecDepth 20000 in
theorem gX2_gives_X2_worksAll : GoodIn wsX2_gives (wsV RX2 131 RX2 yX2_worksAll wsX2_worksAll) := goodIn_app (goodIn_of _ (by decide +kernel)) ggX2_gives_X2_worksAll
set_option maxRecDepth 20000 in
theorem ggX2_gives_X2_isTaken : GoodIn wsX2_gives wsX2_isTaken := goodIn_r _ [58, 1, 59, 60, 61, 9, 62, 2, 3, 19, 63, 64, 65, 66, 67, 68, 69, 70, 71, 72, 73, 74, 75, 76, 77, 78, 79, 80, 81] (by decide +kernel) (by decide +kernel)
set_option maxRecDepth 20000 in
theorem gX2_gives_X2_isTaken : GoodIn wsX2_gives (wsV RX2 144 RX2 yX2_isTaken wsX2_isTaken) := goodIn_app (goodIn_of _ (by decide +kernel)) ggX2_gives_X2_isTaken
theorem dX2_gives_0 : decode cX2_gives 0 = .ok (.aload_n 0, 1) := by decide +kernel
theorem dX2_gives_1 : decode cX2_gives 1 = .ok (.invokevirtual 131, 3) := by decide +kernel
theorem dX2_gives_4 : decode cX2_gives 4 = .ok (.iconst 0, 1) := by decide +kernel
theorem dX2_gives_5 : decode cX2_gives 5 = .ok (.istore_n 1, 1) := by decide +kernel
theorem dX2_gives_6 : decode cX2_gives 6 = .ok (.iload_n 1, 1) := by decide +kernel
theorem dX2_gives_7 : decode cX2_gives 7 = .ok (.sipush 600, 3) := by decide +kernel
theorem dX2_gives_10 : decode cX2_gives 10 = .ok (.if_icmp .ge 16, 3) := by decide +kernel
theorem dX2_gives_13 : decode cX2_gives 13 = .ok (.aload_n 0, 1) := by decide +kernel
theorem dX2_gives_14 : decode cX2_gives 14 = .ok (.getfield 63, 3) := by decide +kernel
theorem dX2_gives_17 : decode cX2_gives 17 = .ok (.iload_n 1, 1) := by decide +kernel
theorem dX2_gives_18 : decode cX2_gives 18 = .ok (.iconst 0, 1) := by decide +kernel
theorem dX2_gives_19 : decode cX2_gives 19 = .ok (.bastore, 1) := by decide +kernel
theorem dX2_gives_20 : decode cX2_gives 20 = .ok (.iinc 1 1, 3) := by decide +kernel
theorem dX2_gives_23 : decode cX2_gives 23 = .ok (.goto (-17), 3) := by decide +kernel
theorem dX2_gives_26 : decode cX2_gives 26 = .ok (.iconst 0, 1) := by decide +kernel
theorem dX2_gives_27 : decode cX2_gives 27 = .ok (.istore_n 1, 1) := by decide +kernel
theorem dX2_gives_28 : decode cX2_gives 28 = .ok (.iload_n 1, 1) := by decide +kernel
theorem dX2_gives_29 : decode cX2_gives 29 = .ok (.sipush 1000, 3) := by decide +kernel
theorem dX2_gives_32 : decode cX2_gives 32 = .ok (.if_icmp .ge 101, 3) := by decide +kernel
theorem dX2_gives_35 : decode cX2_gives 35 = .ok (.iconst 0, 1) := by decide +kernel
theorem dX2_gives_36 : decode cX2_gives 36 = .ok (.istore_n 2, 1) := by decide +kernel
theorem dX2_gives_37 : decode cX2_gives 37 = .ok (.iload_n 2, 1) := by decide +kernel
theorem dX2_gives_38 : decode cX2_gives 38 = .ok (.bipush 10, 2) := by decide +kernel
theorem dX2_gives_40 : decode cX2_gives 40 = .ok (.if_icmp .ge 87, 3) := by decide +kernel
theorem dX2_gives_43 : decode cX2_gives 43 = .ok (.aload_n 0, 1) := by decide +kernel
theorem dX2_gives_44 : decode cX2_gives 44 = .ok (.getfield 29, 3) := by decide +kernel
theorem dX2_gives_47 : decode cX2_gives 47 = .ok (.iload_n 2, 1) := by decide +kernel
theorem dX2_gives_48 : decode cX2_gives 48 = .ok (.baload, 1) := by decide +kernel
theorem dX2_gives_49 : decode cX2_gives 49 = .ok (.ifCond .eq 22, 3) := by decide +kernel
theorem dX2_gives_52 : decode cX2_gives 52 = .ok (.aload_n 0, 1) := by decide +kernel
theorem dX2_gives_53 : decode cX2_gives 53 = .ok (.getfield 54, 3) := by decide +kernel
theorem dX2_gives_56 : decode cX2_gives 56 = .ok (.iload_n 2, 1) := by decide +kernel
theorem dX2_gives_57 : decode cX2_gives 57 = .ok (.iaload, 1) := by decide +kernel
theorem dX2_gives_58 : decode cX2_gives 58 = .ok (.iload_n 1, 1) := by decide +kernel
theorem dX2_gives_59 : decode cX2_gives 59 = .ok (.if_icmp .ne 12, 3) := by decide +kernel
theorem dX2_gives_62 : decode cX2_gives 62 = .ok (.aload_n 0, 1) := by decide +kernel
theorem dX2_gives_63 : decode cX2_gives 63 = .ok (.getfield 39, 3) := by decide +kernel
theorem dX2_gives_66 : decode cX2_gives 66 = .ok (.iload_n 2, 1) := by decide +kernel
theorem dX2_gives_67 : decode cX2_gives 67 = .ok (.iaload, 1) := by decide +kernel
theorem dX2_gives_68 : decode cX2_gives 68 = .ok (.goto 4, 3) := by decide +kernel
theorem dX2_gives_71 : decode cX2_gives 71 = .ok (.iconst 0, 1) := by decide +kernel
theorem dX2_gives_72 : decode cX2_gives 72 = .ok (.istore_n 3, 1) := by decide +kernel
theorem dX2_gives_73 : decode cX2_gives 73 = .ok (.iconst 0, 1) := by decide +kernel
theorem dX2_gives_74 : decode cX2_gives 74 = .ok (.istore 4, 2) := by decide +kernel
theorem dX2_gives_76 : decode cX2_gives 76 = .ok (.iload 4, 2) := by decide +kernel
theorem dX2_gives_78 : decode cX2_gives 78 = .ok (.aload_n 0, 1) := by decide +kernel
theorem dX2_gives_79 : decode cX2_gives 79 = .ok (.getfield 13, 3) := by decide +kernel
theorem dX2_gives_82 : decode cX2_gives 82 = .ok (.if_icmp .ge 39, 3) := by decide +kernel
theorem dX2_gives_85 : decode cX2_gives 85 = .ok (.iload_n 3, 1) := by decide +kernel
theorem dX2_gives_86 : decode cX2_gives 86 = .ok (.ifCond .le 35, 3) := by decide +kernel
theorem dX2_gives_89 : decode cX2_gives 89 = .ok (.aload_n 0, 1) := by decide +kernel
theorem dX2_gives_90 : decode cX2_gives 90 = .ok (.iload 4, 2) := by decide +kernel
theorem dX2_gives_92 : decode cX2_gives 92 = .ok (.iload_n 1, 1) := by decide +kernel
theorem dX2_gives_93 : decode cX2_gives 93 = .ok (.invokevirtual 144, 3) := by decide +kernel
theorem dX2_gives_96 : decode cX2_gives 96 = .ok (.ifCond .ne 19, 3) := by decide +kernel
theorem dX2_gives_99 : decode cX2_gives 99 = .ok (.aload_n 0, 1) := by decide +kernel
theorem dX2_gives_100 : decode cX2_gives 100 = .ok (.getfield 63, 3) := by decide +kernel
theorem dX2_gives_103 : decode cX2_gives 103 = .ok (.bipush 60, 2) := by decide +kernel
theorem dX2_gives_105 : decode cX2_gives 105 = .ok (.iload_n 2, 1) := by decide +kernel
theorem dX2_gives_106 : decode cX2_gives 106 = .ok (.imul, 1) := by decide +kernel
theorem dX2_gives_107 : decode cX2_gives 107 = .ok (.iload 4, 2) := by decide +kernel
theorem dX2_gives_109 : decode cX2_gives 109 = .ok (.iadd, 1) := by decide +kernel
theorem dX2_gives_110 : decode cX2_gives 110 = .ok (.iconst 1, 1) := by decide +kernel
theorem dX2_gives_111 : decode cX2_gives 111 = .ok (.bastore, 1) := by decide +kernel
theorem dX2_gives_112 : decode cX2_gives 112 = .ok (.iinc 3 (-1), 3) := by decide +kernel
theorem dX2_gives_115 : decode cX2_gives 115 = .ok (.iinc 4 1, 3) := by decide +kernel
theorem dX2_gives_118 : decode cX2_gives 118 = .ok (.goto (-42), 3) := by decide +kernel
theorem dX2_gives_121 : decode cX2_gives 121 = .ok (.iinc 2 1, 3) := by decide +kernel
theorem dX2_gives_124 : decode cX2_gives 124 = .ok (.goto (-87), 3) := by decide +kernel
theorem dX2_gives_127 : decode cX2_gives 127 = .ok (.iinc 1 1, 3) := by decide +kernel
theorem dX2_gives_130 : decode cX2_gives 130 = .ok (.goto (-102), 3) := by decide +kernel
theorem dX2_gives_133 : decode cX2_gives 133 = .ok (.return_, 1) := by decide +kernel
set_option maxRecDepth 20000 in
theorem ggX2_panelsOf_X2_isPour : GoodIn wsX2_panelsOf wsX2_isPour := goodIn_r _ [7, 8, 9, 10, 6, 11, 72, 73, 74, 75, 76, 77, 78, 79, 80, 81, 82, 83, 84, 85, 86, 87, 88, 89, 90] (by decide +kernel) (by decide +kernel)
set_option maxRecDepth 20000 in
theorem gX2_panelsOf_X2_isPour : GoodIn wsX2_panelsOf (wsV RX2 125 RX2 yX2_isPour wsX2_isPour) := goodIn_app (goodIn_of _ (by decide +kernel)) ggX2_panelsOf_X2_isPour
set_option maxRecDepth 20000 in
theorem ggX2_panelsOf_X2_gives : GoodIn wsX2_panelsOf wsX2_gives := goodIn_r _ [15, 2, 8, 16, 17, 18, 19, 20, 21, 6, 22, 23, 24, 25, 26, 27, 28, 29, 30, 31, 32, 33, 34, 35, 36, 37, 38, 39, 40, 41, 42, 43, 44, 45, 46, 47, 48, 49, 50, 51, 52, 53, 54, 55, 56, 57, 58, 59, 60, 61, 62, 63, 9, 10, 11, 64, 65, 66, 67, 68, 69, 70, 71, 72, 73, 74, 75, 76, 77, 78, 79, 80, 81, 82, 83, 84, 85, 86, 87, 88, 89, 90] (by decide +kernel) (by decide +kernel)
set_option maxRecDepth 20000 in
theorem gX2_panelsOf_X2_gives : GoodIn wsX2_panelsOf (wsV RX2 147 RX2 yX2_gives wsX2_gives) := goodIn_app (goodIn_of _ (by decide +kernel)) ggX2_panelsOf_X2_gives
theorem dX2_panelsOf_0 : decode cX2_panelsOf 0 = .ok (.aload_n 0, 1) := by decide +kernel
theorem dX2_panelsOf_1 : decode cX2_panelsOf 1 = .ok (.aload_n 0, 1) := by decide +kernel
theorem dX2_panelsOf_2 : decode cX2_panelsOf 2 = .ok (.iload_n 1, 1) := by decide +kernel
theorem dX2_panelsOf_3 : decode cX2_panelsOf 3 = .ok (.invokevirtual 125, 3) := by decide +kernel
theorem dX2_panelsOf_6 : decode cX2_panelsOf 6 = .ok (.ifCond .eq 7, 3) := by decide +kernel
theorem dX2_panelsOf_9 : decode cX2_panelsOf 9 = .ok (.iconst 0, 1) := by decide +kernel
theorem dX2_panelsOf_10 : decode cX2_panelsOf 10 = .ok (.goto 4, 3) := by decide +kernel
theorem dX2_panelsOf_13 : decode cX2_panelsOf 13 = .ok (.iconst 1, 1) := by decide +kernel
theorem dX2_panelsOf_14 : decode cX2_panelsOf 14 = .ok (.putfield 66, 3) := by decide +kernel
theorem dX2_panelsOf_17 : decode cX2_panelsOf 17 = .ok (.aload_n 0, 1) := by decide +kernel
theorem dX2_panelsOf_18 : decode cX2_panelsOf 18 = .ok (.invokevirtual 147, 3) := by decide +kernel
theorem dX2_panelsOf_21 : decode cX2_panelsOf 21 = .ok (.iconst 0, 1) := by decide +kernel
theorem dX2_panelsOf_22 : decode cX2_panelsOf 22 = .ok (.istore_n 2, 1) := by decide +kernel
theorem dX2_panelsOf_23 : decode cX2_panelsOf 23 = .ok (.iconst 0, 1) := by decide +kernel
theorem dX2_panelsOf_24 : decode cX2_panelsOf 24 = .ok (.istore_n 3, 1) := by decide +kernel
theorem dX2_panelsOf_25 : decode cX2_panelsOf 25 = .ok (.iload_n 3, 1) := by decide +kernel
theorem dX2_panelsOf_26 : decode cX2_panelsOf 26 = .ok (.bipush 60, 2) := by decide +kernel
theorem dX2_panelsOf_28 : decode cX2_panelsOf 28 = .ok (.if_icmp .ge 38, 3) := by decide +kernel
theorem dX2_panelsOf_31 : decode cX2_panelsOf 31 = .ok (.aload_n 0, 1) := by decide +kernel
theorem dX2_panelsOf_32 : decode cX2_panelsOf 32 = .ok (.getfield 66, 3) := by decide +kernel
theorem dX2_panelsOf_35 : decode cX2_panelsOf 35 = .ok (.ifCond .ne 31, 3) := by decide +kernel
theorem dX2_panelsOf_38 : decode cX2_panelsOf 38 = .ok (.iload_n 2, 1) := by decide +kernel
theorem dX2_panelsOf_39 : decode cX2_panelsOf 39 = .ok (.aload_n 0, 1) := by decide +kernel
theorem dX2_panelsOf_40 : decode cX2_panelsOf 40 = .ok (.getfield 63, 3) := by decide +kernel
theorem dX2_panelsOf_43 : decode cX2_panelsOf 43 = .ok (.bipush 60, 2) := by decide +kernel
theorem dX2_panelsOf_45 : decode cX2_panelsOf 45 = .ok (.iload_n 1, 1) := by decide +kernel
theorem dX2_panelsOf_46 : decode cX2_panelsOf 46 = .ok (.imul, 1) := by decide +kernel
theorem dX2_panelsOf_47 : decode cX2_panelsOf 47 = .ok (.iload_n 3, 1) := by decide +kernel
theorem dX2_panelsOf_48 : decode cX2_panelsOf 48 = .ok (.iadd, 1) := by decide +kernel
theorem dX2_panelsOf_49 : decode cX2_panelsOf 49 = .ok (.baload, 1) := by decide +kernel
theorem dX2_panelsOf_50 : decode cX2_panelsOf 50 = .ok (.ifCond .eq 7, 3) := by decide +kernel
theorem dX2_panelsOf_53 : decode cX2_panelsOf 53 = .ok (.iconst 1, 1) := by decide +kernel
theorem dX2_panelsOf_54 : decode cX2_panelsOf 54 = .ok (.goto 4, 3) := by decide +kernel
theorem dX2_panelsOf_57 : decode cX2_panelsOf 57 = .ok (.iconst 0, 1) := by decide +kernel
theorem dX2_panelsOf_58 : decode cX2_panelsOf 58 = .ok (.iadd, 1) := by decide +kernel
theorem dX2_panelsOf_59 : decode cX2_panelsOf 59 = .ok (.istore_n 2, 1) := by decide +kernel
end
section
theorem dX2_panelsOf_60 : decode cX2_panelsOf 60 = .ok (.iinc 3 1, 3) := by decide +kernel
theorem dX2_panelsOf_63 : decode cX2_panelsOf 63 = .ok (.goto (-38), 3) := by decide +kernel
theorem dX2_panelsOf_66 : decode cX2_panelsOf 66 = .ok (.iload_n 2, 1) := by decide +kernel
theorem dX2_panelsOf_67 : decode cX2_panelsOf 67 = .ok (.ireturn, 1) := by decide +kernel
set_option maxRecDepth 20000 in
theorem ggX2_pourOf_X2_in : GoodIn wsX2_pourOf wsX2_in := goodIn_r _ [7] (by decide +kernel) (by decide +kernel)
set_option maxRecDepth 20000 in
theorem gX2_pourOf_X2_in : GoodIn wsX2_pourOf (va_wsS RX2 69 yX2_in wsX2_in) := goodIn_app (goodIn_of _ (by decide +kernel)) ggX2_pourOf_X2_in
set_option maxRecDepth 20000 in
theorem ggX2_pourOf_X2_isHour : GoodIn wsX2_pourOf wsX2_isHour := goodIn_r _ [10, 4, 5, 6, 7] (by decide +kernel) (by decide +kernel)
set_option maxRecDepth 20000 in
theorem gX2_pourOf_X2_isHour : GoodIn wsX2_pourOf (va_wsS RX2 73 yX2_isHour wsX2_isHour) := goodIn_app (goodIn_of _ (by decide +kernel)) ggX2_pourOf_X2_isHour
set_option maxRecDepth 20000 in
theorem ggX2_pourOf_X2_gives : GoodIn wsX2_pourOf wsX2_gives := goodIn_r _ [14, 3, 15, 16, 17, 1, 18, 19, 20, 6, 21, 22, 23, 24, 25, 26, 27, 28, 29, 30, 31, 32, 33, 34, 35, 36, 37, 38, 39, 40, 41, 42, 43, 44, 45, 46, 47, 48, 49, 50, 51, 52, 53, 54, 55, 56, 57, 58, 59, 8, 9, 10, 4, 5, 7, 60, 61, 62, 63, 64, 65, 66, 67, 68, 69, 70, 71, 72, 73, 74, 75, 76, 77, 78, 79, 80, 81, 82, 83, 84, 85, 86] (by decide +kernel) (by decide +kernel)
set_option maxRecDepth 20000 in
theorem gX2_pourOf_X2_gives : GoodIn wsX2_pourOf (wsV RX2 147 RX2 yX2_gives wsX2_gives) := goodIn_app (goodIn_of _ (by decide +kernel)) ggX2_pourOf_X2_gives
set_option maxRecDepth 20000 in
theorem ggX2_pourOf_X2_isBusy : GoodIn wsX2_pourOf wsX2_isBusy := goodIn_r _ [67, 15, 16, 30, 68, 69, 70, 71, 72, 73, 74, 75, 76, 77, 78, 79, 80, 81, 82, 83, 84, 85, 86] (by decide +kernel) (by decide +kernel)
set_option maxRecDepth 20000 in
theorem gX2_pourOf_X2_isBusy : GoodIn wsX2_pourOf (wsV RX2 102 RX2 yX2_isBusy wsX2_isBusy) := goodIn_app (goodIn_of _ (by decide +kernel)) ggX2_pourOf_X2_isBusy
theorem dX2_pourOf_0 : decode cX2_pourOf 0 = .ok (.aload_n 0, 1) := by decide +kernel
theorem dX2_pourOf_1 : decode cX2_pourOf 1 = .ok (.iload_n 1, 1) := by decide +kernel
theorem dX2_pourOf_2 : decode cX2_pourOf 2 = .ok (.iconst 0, 1) := by decide +kernel
theorem dX2_pourOf_3 : decode cX2_pourOf 3 = .ok (.aload_n 0, 1) := by decide +kernel
theorem dX2_pourOf_4 : decode cX2_pourOf 4 = .ok (.getfield 13, 3) := by decide +kernel
theorem dX2_pourOf_7 : decode cX2_pourOf 7 = .ok (.iconst 1, 1) := by decide +kernel
theorem dX2_pourOf_8 : decode cX2_pourOf 8 = .ok (.isub, 1) := by decide +kernel
theorem dX2_pourOf_9 : decode cX2_pourOf 9 = .ok (.invokestatic 69, 3) := by decide +kernel
theorem dX2_pourOf_12 : decode cX2_pourOf 12 = .ok (.ifCond .eq 14, 3) := by decide +kernel
theorem dX2_pourOf_15 : decode cX2_pourOf 15 = .ok (.iload_n 2, 1) := by decide +kernel
theorem dX2_pourOf_16 : decode cX2_pourOf 16 = .ok (.invokestatic 73, 3) := by decide +kernel
theorem dX2_pourOf_19 : decode cX2_pourOf 19 = .ok (.ifCond .eq 7, 3) := by decide +kernel
theorem dX2_pourOf_22 : decode cX2_pourOf 22 = .ok (.iconst 0, 1) := by decide +kernel
theorem dX2_pourOf_23 : decode cX2_pourOf 23 = .ok (.goto 4, 3) := by decide +kernel
theorem dX2_pourOf_26 : decode cX2_pourOf 26 = .ok (.iconst 1, 1) := by decide +kernel
theorem dX2_pourOf_27 : decode cX2_pourOf 27 = .ok (.putfield 66, 3) := by decide +kernel
theorem dX2_pourOf_30 : decode cX2_pourOf 30 = .ok (.aload_n 0, 1) := by decide +kernel
theorem dX2_pourOf_31 : decode cX2_pourOf 31 = .ok (.invokevirtual 147, 3) := by decide +kernel
theorem dX2_pourOf_34 : decode cX2_pourOf 34 = .ok (.iconst (-1), 1) := by decide +kernel
theorem dX2_pourOf_35 : decode cX2_pourOf 35 = .ok (.istore_n 3, 1) := by decide +kernel
theorem dX2_pourOf_36 : decode cX2_pourOf 36 = .ok (.iconst 0, 1) := by decide +kernel
theorem dX2_pourOf_37 : decode cX2_pourOf 37 = .ok (.istore 4, 2) := by decide +kernel
theorem dX2_pourOf_39 : decode cX2_pourOf 39 = .ok (.iload 4, 2) := by decide +kernel
theorem dX2_pourOf_41 : decode cX2_pourOf 41 = .ok (.bipush 10, 2) := by decide +kernel
theorem dX2_pourOf_43 : decode cX2_pourOf 43 = .ok (.if_icmp .ge 48, 3) := by decide +kernel
theorem dX2_pourOf_46 : decode cX2_pourOf 46 = .ok (.aload_n 0, 1) := by decide +kernel
theorem dX2_pourOf_47 : decode cX2_pourOf 47 = .ok (.getfield 66, 3) := by decide +kernel
theorem dX2_pourOf_50 : decode cX2_pourOf 50 = .ok (.ifCond .ne 41, 3) := by decide +kernel
theorem dX2_pourOf_53 : decode cX2_pourOf 53 = .ok (.aload_n 0, 1) := by decide +kernel
theorem dX2_pourOf_54 : decode cX2_pourOf 54 = .ok (.getfield 63, 3) := by decide +kernel
theorem dX2_pourOf_57 : decode cX2_pourOf 57 = .ok (.bipush 60, 2) := by decide +kernel
theorem dX2_pourOf_59 : decode cX2_pourOf 59 = .ok (.iload 4, 2) := by decide +kernel
theorem dX2_pourOf_61 : decode cX2_pourOf 61 = .ok (.imul, 1) := by decide +kernel
theorem dX2_pourOf_62 : decode cX2_pourOf 62 = .ok (.iload_n 1, 1) := by decide +kernel
theorem dX2_pourOf_63 : decode cX2_pourOf 63 = .ok (.iadd, 1) := by decide +kernel
theorem dX2_pourOf_64 : decode cX2_pourOf 64 = .ok (.baload, 1) := by decide +kernel
theorem dX2_pourOf_65 : decode cX2_pourOf 65 = .ok (.ifCond .eq 18, 3) := by decide +kernel
theorem dX2_pourOf_68 : decode cX2_pourOf 68 = .ok (.aload_n 0, 1) := by decide +kernel
theorem dX2_pourOf_69 : decode cX2_pourOf 69 = .ok (.iload 4, 2) := by decide +kernel
theorem dX2_pourOf_71 : decode cX2_pourOf 71 = .ok (.iload_n 2, 1) := by decide +kernel
theorem dX2_pourOf_72 : decode cX2_pourOf 72 = .ok (.invokevirtual 102, 3) := by decide +kernel
theorem dX2_pourOf_75 : decode cX2_pourOf 75 = .ok (.ifCond .eq 8, 3) := by decide +kernel
theorem dX2_pourOf_78 : decode cX2_pourOf 78 = .ok (.iload 4, 2) := by decide +kernel
theorem dX2_pourOf_80 : decode cX2_pourOf 80 = .ok (.goto 4, 3) := by decide +kernel
theorem dX2_pourOf_83 : decode cX2_pourOf 83 = .ok (.iload_n 3, 1) := by decide +kernel
theorem dX2_pourOf_84 : decode cX2_pourOf 84 = .ok (.istore_n 3, 1) := by decide +kernel
theorem dX2_pourOf_85 : decode cX2_pourOf 85 = .ok (.iinc 4 1, 3) := by decide +kernel
theorem dX2_pourOf_88 : decode cX2_pourOf 88 = .ok (.goto (-49), 3) := by decide +kernel
theorem dX2_pourOf_91 : decode cX2_pourOf 91 = .ok (.aload_n 0, 1) := by decide +kernel
theorem dX2_pourOf_92 : decode cX2_pourOf 92 = .ok (.getfield 66, 3) := by decide +kernel
theorem dX2_pourOf_95 : decode cX2_pourOf 95 = .ok (.ifCond .le 7, 3) := by decide +kernel
theorem dX2_pourOf_98 : decode cX2_pourOf 98 = .ok (.iconst 0, 1) := by decide +kernel
theorem dX2_pourOf_99 : decode cX2_pourOf 99 = .ok (.goto 4, 3) := by decide +kernel
theorem dX2_pourOf_102 : decode cX2_pourOf 102 = .ok (.iload_n 3, 1) := by decide +kernel
theorem dX2_pourOf_103 : decode cX2_pourOf 103 = .ok (.ireturn, 1) := by decide +kernel
theorem dJ13_bitCount_95d88_0 : decode cJ13_bitCount_95d88 0 = .ok (.lload_n 0, 1) := by decide +kernel
theorem dJ13_bitCount_95d88_1 : decode cJ13_bitCount_95d88 1 = .ok (.lload_n 0, 1) := by decide +kernel
theorem dJ13_bitCount_95d88_2 : decode cJ13_bitCount_95d88 2 = .ok (.iconst 1, 1) := by decide +kernel
theorem dJ13_bitCount_95d88_3 : decode cJ13_bitCount_95d88 3 = .ok (.lushr, 1) := by decide +kernel
theorem dJ13_bitCount_95d88_4 : decode cJ13_bitCount_95d88 4 = .ok (.ldc2_w 314, 3) := by decide +kernel
theorem dJ13_bitCount_95d88_7 : decode cJ13_bitCount_95d88 7 = .ok (.land, 1) := by decide +kernel
theorem dJ13_bitCount_95d88_8 : decode cJ13_bitCount_95d88 8 = .ok (.lsub, 1) := by decide +kernel
theorem dJ13_bitCount_95d88_9 : decode cJ13_bitCount_95d88 9 = .ok (.lstore_n 0, 1) := by decide +kernel
theorem dJ13_bitCount_95d88_10 : decode cJ13_bitCount_95d88 10 = .ok (.lload_n 0, 1) := by decide +kernel
theorem dJ13_bitCount_95d88_11 : decode cJ13_bitCount_95d88 11 = .ok (.ldc2_w 316, 3) := by decide +kernel
theorem dJ13_bitCount_95d88_14 : decode cJ13_bitCount_95d88 14 = .ok (.land, 1) := by decide +kernel
theorem dJ13_bitCount_95d88_15 : decode cJ13_bitCount_95d88 15 = .ok (.lload_n 0, 1) := by decide +kernel
theorem dJ13_bitCount_95d88_16 : decode cJ13_bitCount_95d88 16 = .ok (.iconst 2, 1) := by decide +kernel
theorem dJ13_bitCount_95d88_17 : decode cJ13_bitCount_95d88 17 = .ok (.lushr, 1) := by decide +kernel
theorem dJ13_bitCount_95d88_18 : decode cJ13_bitCount_95d88 18 = .ok (.ldc2_w 316, 3) := by decide +kernel
theorem dJ13_bitCount_95d88_21 : decode cJ13_bitCount_95d88 21 = .ok (.land, 1) := by decide +kernel
theorem dJ13_bitCount_95d88_22 : decode cJ13_bitCount_95d88 22 = .ok (.ladd, 1) := by decide +kernel
theorem dJ13_bitCount_95d88_23 : decode cJ13_bitCount_95d88 23 = .ok (.lstore_n 0, 1) := by decide +kernel
theorem dJ13_bitCount_95d88_24 : decode cJ13_bitCount_95d88 24 = .ok (.lload_n 0, 1) := by decide +kernel
theorem dJ13_bitCount_95d88_25 : decode cJ13_bitCount_95d88 25 = .ok (.lload_n 0, 1) := by decide +kernel
theorem dJ13_bitCount_95d88_26 : decode cJ13_bitCount_95d88 26 = .ok (.iconst 4, 1) := by decide +kernel
theorem dJ13_bitCount_95d88_27 : decode cJ13_bitCount_95d88 27 = .ok (.lushr, 1) := by decide +kernel
theorem dJ13_bitCount_95d88_28 : decode cJ13_bitCount_95d88 28 = .ok (.ladd, 1) := by decide +kernel
theorem dJ13_bitCount_95d88_29 : decode cJ13_bitCount_95d88 29 = .ok (.ldc2_w 318, 3) := by decide +kernel
theorem dJ13_bitCount_95d88_32 : decode cJ13_bitCount_95d88 32 = .ok (.land, 1) := by decide +kernel
theorem dJ13_bitCount_95d88_33 : decode cJ13_bitCount_95d88 33 = .ok (.lstore_n 0, 1) := by decide +kernel
theorem dJ13_bitCount_95d88_34 : decode cJ13_bitCount_95d88 34 = .ok (.lload_n 0, 1) := by decide +kernel
theorem dJ13_bitCount_95d88_35 : decode cJ13_bitCount_95d88 35 = .ok (.lload_n 0, 1) := by decide +kernel
theorem dJ13_bitCount_95d88_36 : decode cJ13_bitCount_95d88 36 = .ok (.bipush 8, 2) := by decide +kernel
theorem dJ13_bitCount_95d88_38 : decode cJ13_bitCount_95d88 38 = .ok (.lushr, 1) := by decide +kernel
theorem dJ13_bitCount_95d88_39 : decode cJ13_bitCount_95d88 39 = .ok (.ladd, 1) := by decide +kernel
theorem dJ13_bitCount_95d88_40 : decode cJ13_bitCount_95d88 40 = .ok (.lstore_n 0, 1) := by decide +kernel
theorem dJ13_bitCount_95d88_41 : decode cJ13_bitCount_95d88 41 = .ok (.lload_n 0, 1) := by decide +kernel
theorem dJ13_bitCount_95d88_42 : decode cJ13_bitCount_95d88 42 = .ok (.lload_n 0, 1) := by decide +kernel
theorem dJ13_bitCount_95d88_43 : decode cJ13_bitCount_95d88 43 = .ok (.bipush 16, 2) := by decide +kernel
theorem dJ13_bitCount_95d88_45 : decode cJ13_bitCount_95d88 45 = .ok (.lushr, 1) := by decide +kernel
theorem dJ13_bitCount_95d88_46 : decode cJ13_bitCount_95d88 46 = .ok (.ladd, 1) := by decide +kernel
theorem dJ13_bitCount_95d88_47 : decode cJ13_bitCount_95d88 47 = .ok (.lstore_n 0, 1) := by decide +kernel
theorem dJ13_bitCount_95d88_48 : decode cJ13_bitCount_95d88 48 = .ok (.lload_n 0, 1) := by decide +kernel
theorem dJ13_bitCount_95d88_49 : decode cJ13_bitCount_95d88 49 = .ok (.lload_n 0, 1) := by decide +kernel
theorem dJ13_bitCount_95d88_50 : decode cJ13_bitCount_95d88 50 = .ok (.bipush 32, 2) := by decide +kernel
theorem dJ13_bitCount_95d88_52 : decode cJ13_bitCount_95d88 52 = .ok (.lushr, 1) := by decide +kernel
theorem dJ13_bitCount_95d88_53 : decode cJ13_bitCount_95d88 53 = .ok (.ladd, 1) := by decide +kernel
theorem dJ13_bitCount_95d88_54 : decode cJ13_bitCount_95d88 54 = .ok (.lstore_n 0, 1) := by decide +kernel
theorem dJ13_bitCount_95d88_55 : decode cJ13_bitCount_95d88 55 = .ok (.lload_n 0, 1) := by decide +kernel
theorem dJ13_bitCount_95d88_56 : decode cJ13_bitCount_95d88 56 = .ok (.l2i, 1) := by decide +kernel
theorem dJ13_bitCount_95d88_57 : decode cJ13_bitCount_95d88 57 = .ok (.bipush 127, 2) := by decide +kernel
theorem dJ13_bitCount_95d88_59 : decode cJ13_bitCount_95d88 59 = .ok (.iand, 1) := by decide +kernel
theorem dJ13_bitCount_95d88_60 : decode cJ13_bitCount_95d88 60 = .ok (.ireturn, 1) := by decide +kernel
theorem dJ9_max_7cf53_0 : decode cJ9_max_7cf53 0 = .ok (.iload_n 0, 1) := by decide +kernel
theorem dJ9_max_7cf53_1 : decode cJ9_max_7cf53 1 = .ok (.iload_n 1, 1) := by decide +kernel
theorem dJ9_max_7cf53_2 : decode cJ9_max_7cf53 2 = .ok (.if_icmp .lt 7, 3) := by decide +kernel
theorem dJ9_max_7cf53_5 : decode cJ9_max_7cf53 5 = .ok (.iload_n 0, 1) := by decide +kernel
theorem dJ9_max_7cf53_6 : decode cJ9_max_7cf53 6 = .ok (.goto 4, 3) := by decide +kernel
theorem dJ9_max_7cf53_9 : decode cJ9_max_7cf53 9 = .ok (.iload_n 1, 1) := by decide +kernel
theorem dJ9_max_7cf53_10 : decode cJ9_max_7cf53 10 = .ok (.ireturn, 1) := by decide +kernel
theorem dJ9_min_7cf53_0 : decode cJ9_min_7cf53 0 = .ok (.iload_n 0, 1) := by decide +kernel
theorem dJ9_min_7cf53_1 : decode cJ9_min_7cf53 1 = .ok (.iload_n 1, 1) := by decide +kernel
theorem dJ9_min_7cf53_2 : decode cJ9_min_7cf53 2 = .ok (.if_icmp .gt 7, 3) := by decide +kernel
theorem dJ9_min_7cf53_5 : decode cJ9_min_7cf53 5 = .ok (.iload_n 0, 1) := by decide +kernel
theorem dJ9_min_7cf53_6 : decode cJ9_min_7cf53 6 = .ok (.goto 4, 3) := by decide +kernel
theorem dJ9_min_7cf53_9 : decode cJ9_min_7cf53 9 = .ok (.iload_n 1, 1) := by decide +kernel
theorem dJ9_min_7cf53_10 : decode cJ9_min_7cf53 10 = .ok (.ireturn, 1) := by decide +kernel
theorem dJ7_fill_53178_0 : decode cJ7_fill_53178 0 = .ok (.iconst 0, 1) := by decide +kernel
theorem dJ7_fill_53178_1 : decode cJ7_fill_53178 1 = .ok (.istore_n 2, 1) := by decide +kernel
theorem dJ7_fill_53178_2 : decode cJ7_fill_53178 2 = .ok (.aload_n 0, 1) := by decide +kernel
theorem dJ7_fill_53178_3 : decode cJ7_fill_53178 3 = .ok (.arraylength, 1) := by decide +kernel
theorem dJ7_fill_53178_4 : decode cJ7_fill_53178 4 = .ok (.istore_n 3, 1) := by decide +kernel
theorem dJ7_fill_53178_5 : decode cJ7_fill_53178 5 = .ok (.iload_n 2, 1) := by decide +kernel
theorem dJ7_fill_53178_6 : decode cJ7_fill_53178 6 = .ok (.iload_n 3, 1) := by decide +kernel
theorem dJ7_fill_53178_7 : decode cJ7_fill_53178 7 = .ok (.if_icmp .ge 13, 3) := by decide +kernel
theorem dJ7_fill_53178_10 : decode cJ7_fill_53178 10 = .ok (.aload_n 0, 1) := by decide +kernel
theorem dJ7_fill_53178_11 : decode cJ7_fill_53178 11 = .ok (.iload_n 2, 1) := by decide +kernel
theorem dJ7_fill_53178_12 : decode cJ7_fill_53178 12 = .ok (.iload_n 1, 1) := by decide +kernel
theorem dJ7_fill_53178_13 : decode cJ7_fill_53178 13 = .ok (.iastore, 1) := by decide +kernel
theorem dJ7_fill_53178_14 : decode cJ7_fill_53178 14 = .ok (.iinc 2 1, 3) := by decide +kernel
theorem dJ7_fill_53178_17 : decode cJ7_fill_53178 17 = .ok (.goto (-12), 3) := by decide +kernel
theorem dJ7_fill_53178_20 : decode cJ7_fill_53178 20 = .ok (.return_, 1) := by decide +kernel
set_option maxRecDepth 20000 in
theorem ggL_setTemperature_X1_setTemperature : GoodIn wsL_setTemperature wsX1_setTemperature := goodIn_ca (goodIn_ca (goodIn_r _ [7, 8, 9, 10, 6, 11, 12, 13, 14, 15, 16, 17, 18, 19, 20, 21, 22, 23, 24, 25, 26, 27, 28, 29, 30, 31, 32, 33, 34, 35, 36, 37, 38, 39, 40, 41, 42, 43, 44, 45, 46, 47, 48, 49, 50, 51, 52, 53, 54, 55, 56, 57, 58, 59, 60, 61, 62, 63, 64, 65, 66, 67, 68, 69, 70, 71, 72, 73, 74, 75, 76, 77, 78, 79, 80, 81, 82, 83, 84, 85, 86, 87, 88, 89, 90, 91, 92, 93, 94, 95, 96, 97, 98, 99, 100, 101, 102, 103, 104] (by decide +kernel) (by decide +kernel)) (goodIn_sub (fun _ h => List.mem_cons_of_mem _ (List.mem_append_left _ (List.mem_append_right _ h))) (by decide +kernel))) (goodIn_sub (fun _ h => List.mem_cons_of_mem _ (List.mem_append_right _ h)) (by decide +kernel))
set_option maxRecDepth 20000 in
theorem gL_setTemperature_X1_setTemperature : GoodIn wsL_setTemperature (wsV RL 7 RX1 yX1_setTemperature wsX1_setTemperature) := goodIn_app (goodIn_of _ (by decide +kernel)) ggL_setTemperature_X1_setTemperature
theorem dL_setTemperature_0 : decode cL_setTemperature 0 = .ok (.aload_n 0, 1) := by decide +kernel
theorem dL_setTemperature_1 : decode cL_setTemperature 1 = .ok (.iload_n 1, 1) := by decide +kernel
theorem dL_setTemperature_2 : decode cL_setTemperature 2 = .ok (.iload_n 2, 1) := by decide +kernel
theorem dL_setTemperature_3 : decode cL_setTemperature 3 = .ok (.iload_n 3, 1) := by decide +kernel
theorem dL_setTemperature_4 : decode cL_setTemperature 4 = .ok (.invokevirtual 7, 3) := by decide +kernel
theorem dL_setTemperature_7 : decode cL_setTemperature 7 = .ok (.goto 11, 3) := by decide +kernel
theorem dL_setTemperature_10 : decode cL_setTemperature 10 = .ok (.astore 4, 2) := by decide +kernel
theorem dL_setTemperature_12 : decode cL_setTemperature 12 = .ok (.iconst 1, 1) := by decide +kernel
theorem dL_setTemperature_13 : decode cL_setTemperature 13 = .ok (.ireturn, 1) := by decide +kernel
theorem dL_setTemperature_14 : decode cL_setTemperature 14 = .ok (.astore 4, 2) := by decide +kernel
theorem dL_setTemperature_16 : decode cL_setTemperature 16 = .ok (.iconst 2, 1) := by decide +kernel
theorem dL_setTemperature_17 : decode cL_setTemperature 17 = .ok (.ireturn, 1) := by decide +kernel
theorem dL_setTemperature_18 : decode cL_setTemperature 18 = .ok (.iconst 0, 1) := by decide +kernel
theorem dL_setTemperature_19 : decode cL_setTemperature 19 = .ok (.ireturn, 1) := by decide +kernel
set_option maxRecDepth 20000 in
theorem ggL_temperature_X1_temperature : GoodIn wsL_temperature wsX1_temperature := goodIn_ca (goodIn_r _ [6, 7, 8, 9, 5, 10, 11, 12, 13, 14, 15, 16, 17, 18, 19, 20, 21, 22, 23, 24] (by decide +kernel) (by decide +kernel)) (goodIn_sub (fun _ h => List.mem_cons_of_mem _ (List.mem_append_right _ h)) (by decide +kernel))
set_option maxRecDepth 20000 in
theorem gL_temperature_X1_temperature : GoodIn wsL_temperature (wsV RL 17 RX1 yX1_temperature wsX1_temperature) := goodIn_app (goodIn_of _ (by decide +kernel)) ggL_temperature_X1_temperature
theorem dL_temperature_0 : decode cL_temperature 0 = .ok (.aload_n 2, 1) := by decide +kernel
theorem dL_temperature_1 : decode cL_temperature 1 = .ok (.iconst 0, 1) := by decide +kernel
theorem dL_temperature_2 : decode cL_temperature 2 = .ok (.aload_n 0, 1) := by decide +kernel
theorem dL_temperature_3 : decode cL_temperature 3 = .ok (.iload_n 1, 1) := by decide +kernel
theorem dL_temperature_4 : decode cL_temperature 4 = .ok (.invokevirtual 17, 3) := by decide +kernel
theorem dL_temperature_7 : decode cL_temperature 7 = .ok (.i2l, 1) := by decide +kernel
theorem dL_temperature_8 : decode cL_temperature 8 = .ok (.lastore, 1) := by decide +kernel
theorem dL_temperature_9 : decode cL_temperature 9 = .ok (.goto 6, 3) := by decide +kernel
theorem dL_temperature_12 : decode cL_temperature 12 = .ok (.astore_n 3, 1) := by decide +kernel
theorem dL_temperature_13 : decode cL_temperature 13 = .ok (.iconst 1, 1) := by decide +kernel
theorem dL_temperature_14 : decode cL_temperature 14 = .ok (.ireturn, 1) := by decide +kernel
theorem dL_temperature_15 : decode cL_temperature 15 = .ok (.iconst 0, 1) := by decide +kernel
theorem dL_temperature_16 : decode cL_temperature 16 = .ok (.ireturn, 1) := by decide +kernel
set_option maxRecDepth 20000 in
theorem ggL_maturity_X1_maturity : GoodIn wsL_maturity wsX1_maturity := goodIn_ca (goodIn_r _ [6, 7, 8, 5, 9, 10, 11, 12, 13, 14, 15, 16, 17, 18, 19, 20, 21, 22, 23, 24, 25, 26, 27, 28, 29, 30, 31, 32] (by decide +kernel) (by decide +kernel)) (goodIn_sub (fun _ h => List.mem_cons_of_mem _ (List.mem_append_right _ h)) (by decide +kernel))
set_option maxRecDepth 20000 in
theorem gL_maturity_X1_maturity : GoodIn wsL_maturity (wsV RL 21 RX1 yX1_maturity wsX1_maturity) := goodIn_app (goodIn_of _ (by decide +kernel)) ggL_maturity_X1_maturity
theorem dL_maturity_0 : decode cL_maturity 0 = .ok (.aload_n 3, 1) := by decide +kernel
theorem dL_maturity_1 : decode cL_maturity 1 = .ok (.iconst 0, 1) := by decide +kernel
theorem dL_maturity_2 : decode cL_maturity 2 = .ok (.aload_n 0, 1) := by decide +kernel
theorem dL_maturity_3 : decode cL_maturity 3 = .ok (.iload_n 1, 1) := by decide +kernel
theorem dL_maturity_4 : decode cL_maturity 4 = .ok (.iload_n 2, 1) := by decide +kernel
theorem dL_maturity_5 : decode cL_maturity 5 = .ok (.invokevirtual 21, 3) := by decide +kernel
theorem dL_maturity_8 : decode cL_maturity 8 = .ok (.i2l, 1) := by decide +kernel
theorem dL_maturity_9 : decode cL_maturity 9 = .ok (.lastore, 1) := by decide +kernel
theorem dL_maturity_10 : decode cL_maturity 10 = .ok (.goto 7, 3) := by decide +kernel
theorem dL_maturity_13 : decode cL_maturity 13 = .ok (.astore 4, 2) := by decide +kernel
theorem dL_maturity_15 : decode cL_maturity 15 = .ok (.iconst 1, 1) := by decide +kernel
theorem dL_maturity_16 : decode cL_maturity 16 = .ok (.ireturn, 1) := by decide +kernel
theorem dL_maturity_17 : decode cL_maturity 17 = .ok (.iconst 0, 1) := by decide +kernel
theorem dL_maturity_18 : decode cL_maturity 18 = .ok (.ireturn, 1) := by decide +kernel
set_option maxRecDepth 20000 in
theorem ggL_strength_X1_strength : GoodIn wsL_strength wsX1_strength := goodIn_ca (goodIn_r _ [6, 7, 8, 9, 5, 10, 11, 12, 13, 14, 15, 16, 17, 18, 19] (by decide +kernel) (by decide +kernel)) (goodIn_sub (fun _ h => List.mem_cons_of_mem _ (List.mem_append_right _ h)) (by decide +kernel))
set_option maxRecDepth 20000 in
theorem gL_strength_X1_strength : GoodIn wsL_strength (wsV RL 25 RX1 yX1_strength wsX1_strength) := goodIn_app (goodIn_of _ (by decide +kernel)) ggL_strength_X1_strength
theorem dL_strength_0 : decode cL_strength 0 = .ok (.aload_n 2, 1) := by decide +kernel
theorem dL_strength_1 : decode cL_strength 1 = .ok (.iconst 0, 1) := by decide +kernel
theorem dL_strength_2 : decode cL_strength 2 = .ok (.aload_n 0, 1) := by decide +kernel
theorem dL_strength_3 : decode cL_strength 3 = .ok (.iload_n 1, 1) := by decide +kernel
theorem dL_strength_4 : decode cL_strength 4 = .ok (.invokevirtual 25, 3) := by decide +kernel
theorem dL_strength_7 : decode cL_strength 7 = .ok (.i2l, 1) := by decide +kernel
theorem dL_strength_8 : decode cL_strength 8 = .ok (.lastore, 1) := by decide +kernel
theorem dL_strength_9 : decode cL_strength 9 = .ok (.goto 6, 3) := by decide +kernel
theorem dL_strength_12 : decode cL_strength 12 = .ok (.astore_n 3, 1) := by decide +kernel
theorem dL_strength_13 : decode cL_strength 13 = .ok (.iconst 1, 1) := by decide +kernel
theorem dL_strength_14 : decode cL_strength 14 = .ok (.ireturn, 1) := by decide +kernel
theorem dL_strength_15 : decode cL_strength 15 = .ok (.iconst 0, 1) := by decide +kernel
theorem dL_strength_16 : decode cL_strength 16 = .ok (.ireturn, 1) := by decide +kernel
set_option maxRecDepth 20000 in
theorem ggL_setPanels_X1_setPanels : GoodIn wsL_setPanels wsX1_setPanels := goodIn_ca (goodIn_r _ [6, 7, 8, 9, 5, 10, 11, 12, 13, 14, 15, 16, 17, 18, 19, 20, 21, 22, 23, 24] (by decide +kernel) (by decide +kernel)) (goodIn_sub (fun _ h => List.mem_cons_of_mem _ (List.mem_append_right _ h)) (by decide +kernel))
set_option maxRecDepth 20000 in
theorem gL_setPanels_X1_setPanels : GoodIn wsL_setPanels (wsV RL 28 RX1 yX1_setPanels wsX1_setPanels) := goodIn_app (goodIn_of _ (by decide +kernel)) ggL_setPanels_X1_setPanels
theorem dL_setPanels_0 : decode cL_setPanels 0 = .ok (.aload_n 2, 1) := by decide +kernel
theorem dL_setPanels_1 : decode cL_setPanels 1 = .ok (.iconst 0, 1) := by decide +kernel
theorem dL_setPanels_2 : decode cL_setPanels 2 = .ok (.aload_n 0, 1) := by decide +kernel
theorem dL_setPanels_3 : decode cL_setPanels 3 = .ok (.iload_n 1, 1) := by decide +kernel
theorem dL_setPanels_4 : decode cL_setPanels 4 = .ok (.invokevirtual 28, 3) := by decide +kernel
theorem dL_setPanels_7 : decode cL_setPanels 7 = .ok (.i2l, 1) := by decide +kernel
theorem dL_setPanels_8 : decode cL_setPanels 8 = .ok (.lastore, 1) := by decide +kernel
theorem dL_setPanels_9 : decode cL_setPanels 9 = .ok (.goto 6, 3) := by decide +kernel
theorem dL_setPanels_12 : decode cL_setPanels 12 = .ok (.astore_n 3, 1) := by decide +kernel
theorem dL_setPanels_13 : decode cL_setPanels 13 = .ok (.iconst 1, 1) := by decide +kernel
theorem dL_setPanels_14 : decode cL_setPanels 14 = .ok (.ireturn, 1) := by decide +kernel
theorem dL_setPanels_15 : decode cL_setPanels 15 = .ok (.iconst 0, 1) := by decide +kernel
theorem dL_setPanels_16 : decode cL_setPanels 16 = .ok (.ireturn, 1) := by decide +kernel
set_option maxRecDepth 20000 in
theorem ggL_setRates_X1_setRates : GoodIn wsL_setRates wsX1_setRates := goodIn_ca (goodIn_r _ [6, 7, 8, 9, 10, 11, 12, 13, 5, 14, 15, 16, 17, 18, 19, 20, 21, 22, 23, 24, 25, 26, 27, 28, 29, 30, 31, 32, 33, 34, 35, 36, 37, 38, 39, 40, 41, 42, 43, 44, 45, 46, 47, 48, 49, 50, 51, 52, 53, 54, 55, 56, 57, 58, 59, 60, 61, 62, 63, 64, 65, 66, 67, 68, 69, 70, 71, 72, 73, 74, 75, 76, 77, 78, 79, 80, 81, 82, 83, 84, 85, 86, 87, 88, 89, 90] (by decide +kernel) (by decide +kernel)) (goodIn_sub (fun _ h => List.mem_cons_of_mem _ (List.mem_append_right _ h)) (by decide +kernel))
set_option maxRecDepth 20000 in
theorem gL_setRates_X1_setRates : GoodIn wsL_setRates (wsV RL 31 RX1 yX1_setRates wsX1_setRates) := goodIn_app (goodIn_of _ (by decide +kernel)) ggL_setRates_X1_setRates
theorem dL_setRates_0 : decode cL_setRates 0 = .ok (.aload_n 3, 1) := by decide +kernel
theorem dL_setRates_1 : decode cL_setRates 1 = .ok (.iconst 0, 1) := by decide +kernel
theorem dL_setRates_2 : decode cL_setRates 2 = .ok (.aload_n 0, 1) := by decide +kernel
theorem dL_setRates_3 : decode cL_setRates 3 = .ok (.iload_n 1, 1) := by decide +kernel
theorem dL_setRates_4 : decode cL_setRates 4 = .ok (.iload_n 2, 1) := by decide +kernel
theorem dL_setRates_5 : decode cL_setRates 5 = .ok (.invokevirtual 31, 3) := by decide +kernel
theorem dL_setRates_8 : decode cL_setRates 8 = .ok (.i2l, 1) := by decide +kernel
theorem dL_setRates_9 : decode cL_setRates 9 = .ok (.lastore, 1) := by decide +kernel
theorem dL_setRates_10 : decode cL_setRates 10 = .ok (.goto 7, 3) := by decide +kernel
theorem dL_setRates_13 : decode cL_setRates 13 = .ok (.astore 4, 2) := by decide +kernel
theorem dL_setRates_15 : decode cL_setRates 15 = .ok (.iconst 1, 1) := by decide +kernel
theorem dL_setRates_16 : decode cL_setRates 16 = .ok (.ireturn, 1) := by decide +kernel
theorem dL_setRates_17 : decode cL_setRates 17 = .ok (.iconst 0, 1) := by decide +kernel
theorem dL_setRates_18 : decode cL_setRates 18 = .ok (.ireturn, 1) := by decide +kernel
set_option maxRecDepth 20000 in
theorem ggL_setCrew_X1_setCrew : GoodIn wsL_setCrew wsX1_setCrew := goodIn_ca (goodIn_r _ [6, 7, 8, 9, 10, 5, 11, 12, 13, 14, 15, 16, 17, 18, 19, 20, 21, 22, 23, 24, 25, 26, 27, 28, 29, 30, 31, 32, 33, 34, 35, 36, 37, 38, 39, 40, 41, 42, 43, 44, 45, 46, 47, 48, 49, 50, 51, 52, 53, 54, 55, 56, 57, 58, 59, 60, 61, 62, 63, 64, 65, 66, 67, 68, 69, 70, 71, 72, 73, 74, 75, 76, 77, 78, 79, 80, 81, 82, 83, 84, 85, 86, 87, 88, 89, 90] (by decide +kernel) (by decide +kernel)) (goodIn_sub (fun _ h => List.mem_cons_of_mem _ (List.mem_append_right _ h)) (by decide +kernel))
set_option maxRecDepth 20000 in
theorem gL_setCrew_X1_setCrew : GoodIn wsL_setCrew (wsV RL 34 RX1 yX1_setCrew wsX1_setCrew) := goodIn_app (goodIn_of _ (by decide +kernel)) ggL_setCrew_X1_setCrew
theorem dL_setCrew_0 : decode cL_setCrew 0 = .ok (.aload_n 0, 1) := by decide +kernel
theorem dL_setCrew_1 : decode cL_setCrew 1 = .ok (.iload_n 1, 1) := by decide +kernel
theorem dL_setCrew_2 : decode cL_setCrew 2 = .ok (.iload_n 2, 1) := by decide +kernel
theorem dL_setCrew_3 : decode cL_setCrew 3 = .ok (.invokevirtual 34, 3) := by decide +kernel
theorem dL_setCrew_6 : decode cL_setCrew 6 = .ok (.goto 6, 3) := by decide +kernel
theorem dL_setCrew_9 : decode cL_setCrew 9 = .ok (.astore_n 3, 1) := by decide +kernel
theorem dL_setCrew_10 : decode cL_setCrew 10 = .ok (.iconst 1, 1) := by decide +kernel
theorem dL_setCrew_11 : decode cL_setCrew 11 = .ok (.ireturn, 1) := by decide +kernel
theorem dL_setCrew_12 : decode cL_setCrew 12 = .ok (.iconst 0, 1) := by decide +kernel
theorem dL_setCrew_13 : decode cL_setCrew 13 = .ok (.ireturn, 1) := by decide +kernel
set_option maxRecDepth 20000 in
theorem ggL_plan_X1_plan : GoodIn wsL_plan wsX1_plan := goodIn_ca (goodIn_ca (goodIn_r _ [7, 8, 9, 10, 11, 12, 13, 14, 15, 6, 16, 17, 18, 19, 20, 21, 22, 23, 24, 25, 26, 27, 28, 29, 30, 31, 32, 33, 34, 35, 36, 37, 38, 39, 40, 41, 42, 43, 44, 45, 46, 47, 48, 49, 50, 51, 52, 53, 54, 55, 56, 57, 58, 59, 60, 61, 62, 63, 64, 65, 66, 67, 68, 69, 70, 71, 72, 73, 74, 75, 76, 77, 78, 79, 80, 81, 82, 83, 84, 85, 86, 87, 88, 89, 90, 91, 92, 93, 94, 95, 96, 97, 98, 99, 100, 101, 102, 103, 104, 105, 106, 107, 108, 109, 110, 111, 112] (by decide +kernel) (by decide +kernel)) (goodIn_sub (fun _ h => List.mem_cons_of_mem _ (List.mem_append_left _ (List.mem_append_right _ h))) (by decide +kernel))) (goodIn_sub (fun _ h => List.mem_cons_of_mem _ (List.mem_append_right _ h)) (by decide +kernel))
set_option maxRecDepth 20000 in
theorem gL_plan_X1_plan : GoodIn wsL_plan (wsV RL 38 RX1 yX1_plan wsX1_plan) := goodIn_app (goodIn_of _ (by decide +kernel)) ggL_plan_X1_plan
theorem dL_plan_0 : decode cL_plan 0 = .ok (.aload 5, 2) := by decide +kernel
theorem dL_plan_2 : decode cL_plan 2 = .ok (.iconst 0, 1) := by decide +kernel
theorem dL_plan_3 : decode cL_plan 3 = .ok (.aload_n 0, 1) := by decide +kernel
theorem dL_plan_4 : decode cL_plan 4 = .ok (.iload_n 1, 1) := by decide +kernel
theorem dL_plan_5 : decode cL_plan 5 = .ok (.iload_n 2, 1) := by decide +kernel
theorem dL_plan_6 : decode cL_plan 6 = .ok (.iload_n 3, 1) := by decide +kernel
theorem dL_plan_7 : decode cL_plan 7 = .ok (.iload 4, 2) := by decide +kernel
theorem dL_plan_9 : decode cL_plan 9 = .ok (.invokevirtual 38, 3) := by decide +kernel
theorem dL_plan_12 : decode cL_plan 12 = .ok (.i2l, 1) := by decide +kernel
theorem dL_plan_13 : decode cL_plan 13 = .ok (.lastore, 1) := by decide +kernel
theorem dL_plan_14 : decode cL_plan 14 = .ok (.goto 11, 3) := by decide +kernel
theorem dL_plan_17 : decode cL_plan 17 = .ok (.astore 6, 2) := by decide +kernel
theorem dL_plan_19 : decode cL_plan 19 = .ok (.iconst 1, 1) := by decide +kernel
theorem dL_plan_20 : decode cL_plan 20 = .ok (.ireturn, 1) := by decide +kernel
theorem dL_plan_21 : decode cL_plan 21 = .ok (.astore 6, 2) := by decide +kernel
theorem dL_plan_23 : decode cL_plan 23 = .ok (.iconst 2, 1) := by decide +kernel
theorem dL_plan_24 : decode cL_plan 24 = .ok (.ireturn, 1) := by decide +kernel
theorem dL_plan_25 : decode cL_plan 25 = .ok (.iconst 0, 1) := by decide +kernel
theorem dL_plan_26 : decode cL_plan 26 = .ok (.ireturn, 1) := by decide +kernel
set_option maxRecDepth 20000 in
theorem ggL_move_X1_move : GoodIn wsL_move wsX1_move := goodIn_ca (goodIn_ca (goodIn_r _ [7, 8, 9, 10, 6, 11, 12, 13, 14, 15, 16, 17, 18, 19, 20, 21, 22, 23, 24, 25, 26, 27, 28, 29, 30, 31, 32, 33, 34, 35, 36, 37, 38, 39, 40, 41, 42, 43, 44, 45, 46, 47, 48, 49, 50, 51, 52, 53, 54, 55, 56, 57, 58, 59, 60, 61, 62, 63, 64, 65, 66, 67, 68, 69, 70, 71, 72, 73, 74, 75, 76, 77, 78, 79, 80, 81, 82, 83, 84, 85, 86, 87, 88, 89, 90, 91, 92, 93, 94, 95, 96] (by decide +kernel) (by decide +kernel)) (goodIn_sub (fun _ h => List.mem_cons_of_mem _ (List.mem_append_left _ (List.mem_append_right _ h))) (by decide +kernel))) (goodIn_sub (fun _ h => List.mem_cons_of_mem _ (List.mem_append_right _ h)) (by decide +kernel))
set_option maxRecDepth 20000 in
theorem gL_move_X1_move : GoodIn wsL_move (wsV RL 44 RX1 yX1_move wsX1_move) := goodIn_app (goodIn_of _ (by decide +kernel)) ggL_move_X1_move
theorem dL_move_0 : decode cL_move 0 = .ok (.aload_n 3, 1) := by decide +kernel
theorem dL_move_1 : decode cL_move 1 = .ok (.iconst 0, 1) := by decide +kernel
theorem dL_move_2 : decode cL_move 2 = .ok (.aload_n 0, 1) := by decide +kernel
theorem dL_move_3 : decode cL_move 3 = .ok (.iload_n 1, 1) := by decide +kernel
theorem dL_move_4 : decode cL_move 4 = .ok (.iload_n 2, 1) := by decide +kernel
theorem dL_move_5 : decode cL_move 5 = .ok (.invokevirtual 44, 3) := by decide +kernel
theorem dL_move_8 : decode cL_move 8 = .ok (.i2l, 1) := by decide +kernel
theorem dL_move_9 : decode cL_move 9 = .ok (.lastore, 1) := by decide +kernel
theorem dL_move_10 : decode cL_move 10 = .ok (.goto 11, 3) := by decide +kernel
theorem dL_move_13 : decode cL_move 13 = .ok (.astore 4, 2) := by decide +kernel
theorem dL_move_15 : decode cL_move 15 = .ok (.iconst 1, 1) := by decide +kernel
theorem dL_move_16 : decode cL_move 16 = .ok (.ireturn, 1) := by decide +kernel
theorem dL_move_17 : decode cL_move 17 = .ok (.astore 4, 2) := by decide +kernel
theorem dL_move_19 : decode cL_move 19 = .ok (.iconst 2, 1) := by decide +kernel
theorem dL_move_20 : decode cL_move 20 = .ok (.ireturn, 1) := by decide +kernel
theorem dL_move_21 : decode cL_move 21 = .ok (.iconst 0, 1) := by decide +kernel
theorem dL_move_22 : decode cL_move 22 = .ok (.ireturn, 1) := by decide +kernel
set_option maxRecDepth 20000 in
theorem ggL_cancel_X1_cancel : GoodIn wsL_cancel wsX1_cancel := goodIn_ca (goodIn_r _ [6, 7, 8, 9, 10, 5, 11, 12, 13, 14, 15, 16, 17, 18, 19, 20, 21, 22, 23, 24, 25, 26, 27, 28, 29, 30, 31, 32, 33, 34, 35, 36, 37, 38] (by decide +kernel) (by decide +kernel)) (goodIn_sub (fun _ h => List.mem_cons_of_mem _ (List.mem_append_right _ h)) (by decide +kernel))
set_option maxRecDepth 20000 in
theorem gL_cancel_X1_cancel : GoodIn wsL_cancel (wsV RL 49 RX1 yX1_cancel wsX1_cancel) := goodIn_app (goodIn_of _ (by decide +kernel)) ggL_cancel_X1_cancel
theorem dL_cancel_0 : decode cL_cancel 0 = .ok (.aload_n 2, 1) := by decide +kernel
theorem dL_cancel_1 : decode cL_cancel 1 = .ok (.iconst 0, 1) := by decide +kernel
theorem dL_cancel_2 : decode cL_cancel 2 = .ok (.aload_n 0, 1) := by decide +kernel
theorem dL_cancel_3 : decode cL_cancel 3 = .ok (.iload_n 1, 1) := by decide +kernel
theorem dL_cancel_4 : decode cL_cancel 4 = .ok (.invokevirtual 49, 3) := by decide +kernel
theorem dL_cancel_7 : decode cL_cancel 7 = .ok (.i2l, 1) := by decide +kernel
theorem dL_cancel_8 : decode cL_cancel 8 = .ok (.lastore, 1) := by decide +kernel
theorem dL_cancel_9 : decode cL_cancel 9 = .ok (.goto 6, 3) := by decide +kernel
theorem dL_cancel_12 : decode cL_cancel 12 = .ok (.astore_n 3, 1) := by decide +kernel
theorem dL_cancel_13 : decode cL_cancel 13 = .ok (.iconst 1, 1) := by decide +kernel
theorem dL_cancel_14 : decode cL_cancel 14 = .ok (.ireturn, 1) := by decide +kernel
theorem dL_cancel_15 : decode cL_cancel 15 = .ok (.iconst 0, 1) := by decide +kernel
theorem dL_cancel_16 : decode cL_cancel 16 = .ok (.ireturn, 1) := by decide +kernel
set_option maxRecDepth 20000 in
theorem ggL_delay_X1_delay : GoodIn wsL_delay wsX1_delay := goodIn_ca (goodIn_ca (goodIn_ca (goodIn_r _ [8, 9, 10, 11, 12, 13, 7, 14, 15, 16, 17, 18, 19, 20, 21, 22, 23, 24, 25, 26, 27, 28, 29, 30, 31, 32, 33, 34, 35, 36, 37, 38, 39, 40, 41, 42, 43, 44, 45, 46, 47, 48, 49, 50, 51, 52, 53, 54, 55, 56, 57, 58, 59, 60, 61, 62, 63, 64, 65, 66, 67, 68, 69, 70, 71, 72, 73, 74, 75, 76, 77, 78, 79, 80, 81, 82, 83, 84, 85, 86, 87, 88, 89, 90, 91, 92, 93, 94, 95, 96, 97, 98, 99, 100, 101, 102, 103] (by decide +kernel) (by decide +kernel)) (goodIn_sub (fun _ h => List.mem_cons_of_mem _ (List.mem_append_left _ (List.mem_append_left _ (List.mem_append_right _ h)))) (by decide +kernel))) (goodIn_sub (fun _ h => List.mem_cons_of_mem _ (List.mem_append_left _ (List.mem_append_right _ h))) (by decide +kernel))) (goodIn_sub (fun _ h => List.mem_cons_of_mem _ (List.mem_append_right _ h)) (by decide +kernel))
set_option maxRecDepth 20000 in
theorem gL_delay_X1_delay : GoodIn wsL_delay (wsV RL 52 RX1 yX1_delay wsX1_delay) := goodIn_app (goodIn_of _ (by decide +kernel)) ggL_delay_X1_delay
theorem dL_delay_0 : decode cL_delay 0 = .ok (.aload 4, 2) := by decide +kernel
theorem dL_delay_2 : decode cL_delay 2 = .ok (.iconst 0, 1) := by decide +kernel
theorem dL_delay_3 : decode cL_delay 3 = .ok (.aload_n 0, 1) := by decide +kernel
theorem dL_delay_4 : decode cL_delay 4 = .ok (.iload_n 1, 1) := by decide +kernel
theorem dL_delay_5 : decode cL_delay 5 = .ok (.iload_n 2, 1) := by decide +kernel
theorem dL_delay_6 : decode cL_delay 6 = .ok (.iload_n 3, 1) := by decide +kernel
theorem dL_delay_7 : decode cL_delay 7 = .ok (.invokevirtual 52, 3) := by decide +kernel
theorem dL_delay_10 : decode cL_delay 10 = .ok (.i2l, 1) := by decide +kernel
theorem dL_delay_11 : decode cL_delay 11 = .ok (.lastore, 1) := by decide +kernel
theorem dL_delay_12 : decode cL_delay 12 = .ok (.goto 15, 3) := by decide +kernel
theorem dL_delay_15 : decode cL_delay 15 = .ok (.astore 5, 2) := by decide +kernel
theorem dL_delay_17 : decode cL_delay 17 = .ok (.iconst 1, 1) := by decide +kernel
theorem dL_delay_18 : decode cL_delay 18 = .ok (.ireturn, 1) := by decide +kernel
theorem dL_delay_19 : decode cL_delay 19 = .ok (.astore 5, 2) := by decide +kernel
theorem dL_delay_21 : decode cL_delay 21 = .ok (.iconst 2, 1) := by decide +kernel
theorem dL_delay_22 : decode cL_delay 22 = .ok (.ireturn, 1) := by decide +kernel
theorem dL_delay_23 : decode cL_delay 23 = .ok (.astore 5, 2) := by decide +kernel
theorem dL_delay_25 : decode cL_delay 25 = .ok (.iconst 3, 1) := by decide +kernel
theorem dL_delay_26 : decode cL_delay 26 = .ok (.ireturn, 1) := by decide +kernel
theorem dL_delay_27 : decode cL_delay 27 = .ok (.iconst 0, 1) := by decide +kernel
theorem dL_delay_28 : decode cL_delay 28 = .ok (.ireturn, 1) := by decide +kernel
set_option maxRecDepth 20000 in
theorem ggL_endOf_X1_endOf : GoodIn wsL_endOf wsX1_endOf := goodIn_ca (goodIn_r _ [6, 7, 8, 9, 5, 10, 11, 12, 13, 14, 15, 16, 17, 18, 19, 20, 21, 22, 23, 24, 25, 26, 27, 28, 29, 30, 31, 32, 33, 34, 35, 36, 37, 38] (by decide +kernel) (by decide +kernel)) (goodIn_sub (fun _ h => List.mem_cons_of_mem _ (List.mem_append_right _ h)) (by decide +kernel))
set_option maxRecDepth 20000 in
theorem gL_endOf_X1_endOf : GoodIn wsL_endOf (wsV RL 56 RX1 yX1_endOf wsX1_endOf) := goodIn_app (goodIn_of _ (by decide +kernel)) ggL_endOf_X1_endOf
theorem dL_endOf_0 : decode cL_endOf 0 = .ok (.aload_n 2, 1) := by decide +kernel
theorem dL_endOf_1 : decode cL_endOf 1 = .ok (.iconst 0, 1) := by decide +kernel
theorem dL_endOf_2 : decode cL_endOf 2 = .ok (.aload_n 0, 1) := by decide +kernel
theorem dL_endOf_3 : decode cL_endOf 3 = .ok (.iload_n 1, 1) := by decide +kernel
theorem dL_endOf_4 : decode cL_endOf 4 = .ok (.invokevirtual 56, 3) := by decide +kernel
theorem dL_endOf_7 : decode cL_endOf 7 = .ok (.i2l, 1) := by decide +kernel
theorem dL_endOf_8 : decode cL_endOf 8 = .ok (.lastore, 1) := by decide +kernel
theorem dL_endOf_9 : decode cL_endOf 9 = .ok (.goto 6, 3) := by decide +kernel
theorem dL_endOf_12 : decode cL_endOf 12 = .ok (.astore_n 3, 1) := by decide +kernel
theorem dL_endOf_13 : decode cL_endOf 13 = .ok (.iconst 1, 1) := by decide +kernel
theorem dL_endOf_14 : decode cL_endOf 14 = .ok (.ireturn, 1) := by decide +kernel
theorem dL_endOf_15 : decode cL_endOf 15 = .ok (.iconst 0, 1) := by decide +kernel
theorem dL_endOf_16 : decode cL_endOf 16 = .ok (.ireturn, 1) := by decide +kernel
set_option maxRecDepth 20000 in
theorem ggL_coldJoints_X1_coldJoints : GoodIn wsL_coldJoints wsX1_coldJoints := goodIn_ca (goodIn_r _ [6, 7, 8, 9, 5, 10, 11, 12, 13, 14, 15, 16, 17, 18, 19, 20, 21, 22, 23, 24, 25, 26, 27, 28, 29, 30, 31, 32, 33, 34, 35, 36, 37, 38, 39, 40, 41, 42, 43, 44, 45, 46, 47, 48, 49, 50, 51, 52] (by decide +kernel) (by decide +kernel)) (goodIn_sub (fun _ h => List.mem_cons_of_mem _ (List.mem_append_right _ h)) (by decide +kernel))
set_option maxRecDepth 20000 in
theorem gL_coldJoints_X1_coldJoints : GoodIn wsL_coldJoints (wsV RL 59 RX1 yX1_coldJoints wsX1_coldJoints) := goodIn_app (goodIn_of _ (by decide +kernel)) ggL_coldJoints_X1_coldJoints
theorem dL_coldJoints_0 : decode cL_coldJoints 0 = .ok (.aload_n 2, 1) := by decide +kernel
theorem dL_coldJoints_1 : decode cL_coldJoints 1 = .ok (.iconst 0, 1) := by decide +kernel
theorem dL_coldJoints_2 : decode cL_coldJoints 2 = .ok (.aload_n 0, 1) := by decide +kernel
theorem dL_coldJoints_3 : decode cL_coldJoints 3 = .ok (.iload_n 1, 1) := by decide +kernel
theorem dL_coldJoints_4 : decode cL_coldJoints 4 = .ok (.invokevirtual 59, 3) := by decide +kernel
theorem dL_coldJoints_7 : decode cL_coldJoints 7 = .ok (.i2l, 1) := by decide +kernel
theorem dL_coldJoints_8 : decode cL_coldJoints 8 = .ok (.lastore, 1) := by decide +kernel
theorem dL_coldJoints_9 : decode cL_coldJoints 9 = .ok (.goto 6, 3) := by decide +kernel
theorem dL_coldJoints_12 : decode cL_coldJoints 12 = .ok (.astore_n 3, 1) := by decide +kernel
theorem dL_coldJoints_13 : decode cL_coldJoints 13 = .ok (.iconst 1, 1) := by decide +kernel
theorem dL_coldJoints_14 : decode cL_coldJoints 14 = .ok (.ireturn, 1) := by decide +kernel
theorem dL_coldJoints_15 : decode cL_coldJoints 15 = .ok (.iconst 0, 1) := by decide +kernel
theorem dL_coldJoints_16 : decode cL_coldJoints 16 = .ok (.ireturn, 1) := by decide +kernel
set_option maxRecDepth 20000 in
theorem ggL_struck_X1_struck : GoodIn wsL_struck wsX1_struck := goodIn_ca (goodIn_r _ [6, 7, 8, 9, 5, 10, 11, 12, 13, 14, 15, 16, 17, 18, 19, 20, 21, 22, 23, 24, 25, 26, 27, 28, 29, 30, 31, 32, 33, 34, 35, 36, 37, 38] (by decide +kernel) (by decide +kernel)) (goodIn_sub (fun _ h => List.mem_cons_of_mem _ (List.mem_append_right _ h)) (by decide +kernel))
set_option maxRecDepth 20000 in
theorem gL_struck_X1_struck : GoodIn wsL_struck (wsV RL 62 RX1 yX1_struck wsX1_struck) := goodIn_app (goodIn_of _ (by decide +kernel)) ggL_struck_X1_struck
theorem dL_struck_0 : decode cL_struck 0 = .ok (.aload_n 2, 1) := by decide +kernel
theorem dL_struck_1 : decode cL_struck 1 = .ok (.iconst 0, 1) := by decide +kernel
theorem dL_struck_2 : decode cL_struck 2 = .ok (.aload_n 0, 1) := by decide +kernel
theorem dL_struck_3 : decode cL_struck 3 = .ok (.iload_n 1, 1) := by decide +kernel
theorem dL_struck_4 : decode cL_struck 4 = .ok (.invokevirtual 62, 3) := by decide +kernel
theorem dL_struck_7 : decode cL_struck 7 = .ok (.i2l, 1) := by decide +kernel
theorem dL_struck_8 : decode cL_struck 8 = .ok (.lastore, 1) := by decide +kernel
theorem dL_struck_9 : decode cL_struck 9 = .ok (.goto 6, 3) := by decide +kernel
theorem dL_struck_12 : decode cL_struck 12 = .ok (.astore_n 3, 1) := by decide +kernel
theorem dL_struck_13 : decode cL_struck 13 = .ok (.iconst 1, 1) := by decide +kernel
theorem dL_struck_14 : decode cL_struck 14 = .ok (.ireturn, 1) := by decide +kernel
theorem dL_struck_15 : decode cL_struck 15 = .ok (.iconst 0, 1) := by decide +kernel
theorem dL_struck_16 : decode cL_struck 16 = .ok (.ireturn, 1) := by decide +kernel
set_option maxRecDepth 20000 in
theorem ggL_freeFrom_X1_freeFrom : GoodIn wsL_freeFrom wsX1_freeFrom := goodIn_ca (goodIn_r _ [6, 7, 8, 9, 5, 10, 11, 12, 13, 14, 15, 16, 17, 18, 19, 20, 21, 22, 23, 24, 25, 26, 27, 28, 29, 30, 31, 32, 33, 34, 35, 36, 37, 38] (by decide +kernel) (by decide +kernel)) (goodIn_sub (fun _ h => List.mem_cons_of_mem _ (List.mem_append_right _ h)) (by decide +kernel))
set_option maxRecDepth 20000 in
theorem gL_freeFrom_X1_freeFrom : GoodIn wsL_freeFrom (wsV RL 65 RX1 yX1_freeFrom wsX1_freeFrom) := goodIn_app (goodIn_of _ (by decide +kernel)) ggL_freeFrom_X1_freeFrom
theorem dL_freeFrom_0 : decode cL_freeFrom 0 = .ok (.aload_n 2, 1) := by decide +kernel
theorem dL_freeFrom_1 : decode cL_freeFrom 1 = .ok (.iconst 0, 1) := by decide +kernel
theorem dL_freeFrom_2 : decode cL_freeFrom 2 = .ok (.aload_n 0, 1) := by decide +kernel
theorem dL_freeFrom_3 : decode cL_freeFrom 3 = .ok (.iload_n 1, 1) := by decide +kernel
theorem dL_freeFrom_4 : decode cL_freeFrom 4 = .ok (.invokevirtual 65, 3) := by decide +kernel
theorem dL_freeFrom_7 : decode cL_freeFrom 7 = .ok (.i2l, 1) := by decide +kernel
theorem dL_freeFrom_8 : decode cL_freeFrom 8 = .ok (.lastore, 1) := by decide +kernel
theorem dL_freeFrom_9 : decode cL_freeFrom 9 = .ok (.goto 6, 3) := by decide +kernel
theorem dL_freeFrom_12 : decode cL_freeFrom 12 = .ok (.astore_n 3, 1) := by decide +kernel
theorem dL_freeFrom_13 : decode cL_freeFrom 13 = .ok (.iconst 1, 1) := by decide +kernel
theorem dL_freeFrom_14 : decode cL_freeFrom 14 = .ok (.ireturn, 1) := by decide +kernel
theorem dL_freeFrom_15 : decode cL_freeFrom 15 = .ok (.iconst 0, 1) := by decide +kernel
theorem dL_freeFrom_16 : decode cL_freeFrom 16 = .ok (.ireturn, 1) := by decide +kernel
set_option maxRecDepth 20000 in
theorem ggL_need_X1_need : GoodIn wsL_need wsX1_need := goodIn_ca (goodIn_r _ [6, 7, 8, 5, 9, 10, 11, 12, 13, 14, 15, 16, 17, 18, 19, 20, 21, 22, 23, 24, 25, 26, 27, 28, 29, 30, 31, 32, 33, 34, 35, 36, 37, 38, 39, 40, 41, 42, 43, 44, 45, 46, 47] (by decide +kernel) (by decide +kernel)) (goodIn_sub (fun _ h => List.mem_cons_of_mem _ (List.mem_append_right _ h)) (by decide +kernel))
set_option maxRecDepth 20000 in
theorem gL_need_X1_need : GoodIn wsL_need (wsV RL 68 RX1 yX1_need wsX1_need) := goodIn_app (goodIn_of _ (by decide +kernel)) ggL_need_X1_need
theorem dL_need_0 : decode cL_need 0 = .ok (.aload_n 2, 1) := by decide +kernel
theorem dL_need_1 : decode cL_need 1 = .ok (.iconst 0, 1) := by decide +kernel
theorem dL_need_2 : decode cL_need 2 = .ok (.aload_n 0, 1) := by decide +kernel
theorem dL_need_3 : decode cL_need 3 = .ok (.iload_n 1, 1) := by decide +kernel
theorem dL_need_4 : decode cL_need 4 = .ok (.invokevirtual 68, 3) := by decide +kernel
theorem dL_need_7 : decode cL_need 7 = .ok (.i2l, 1) := by decide +kernel
theorem dL_need_8 : decode cL_need 8 = .ok (.lastore, 1) := by decide +kernel
theorem dL_need_9 : decode cL_need 9 = .ok (.goto 6, 3) := by decide +kernel
theorem dL_need_12 : decode cL_need 12 = .ok (.astore_n 3, 1) := by decide +kernel
theorem dL_need_13 : decode cL_need 13 = .ok (.iconst 1, 1) := by decide +kernel
theorem dL_need_14 : decode cL_need 14 = .ok (.ireturn, 1) := by decide +kernel
theorem dL_need_15 : decode cL_need 15 = .ok (.iconst 0, 1) := by decide +kernel
theorem dL_need_16 : decode cL_need 16 = .ok (.ireturn, 1) := by decide +kernel
set_option maxRecDepth 20000 in
theorem ggL_earliest_X1_earliest : GoodIn wsL_earliest wsX1_earliest := goodIn_ca (goodIn_r _ [6, 7, 8, 9, 5, 10, 11, 12, 13, 14, 15, 16, 17, 18, 19, 20, 21, 22, 23, 24, 25, 26, 27, 28, 29, 30, 31, 32, 33, 34, 35, 36, 37, 38, 39, 40, 41, 42, 43, 44, 45, 46, 47, 48, 49, 50, 51, 52, 53, 54, 55, 56, 57, 58, 59, 60, 61, 62, 63, 64, 65, 66, 67, 68, 69, 70, 71, 72, 73, 74, 75, 76, 77, 78, 79, 80, 81, 82, 83, 84, 85, 86, 87, 88, 89, 90, 91, 92, 93, 94, 95, 96, 97, 98, 99, 100, 101, 102, 103] (by decide +kernel) (by decide +kernel)) (goodIn_sub (fun _ h => List.mem_cons_of_mem _ (List.mem_append_right _ h)) (by decide +kernel))
set_option maxRecDepth 20000 in
theorem gL_earliest_X1_earliest : GoodIn wsL_earliest (wsV RL 71 RX1 yX1_earliest wsX1_earliest) := goodIn_app (goodIn_of _ (by decide +kernel)) ggL_earliest_X1_earliest
theorem dL_earliest_0 : decode cL_earliest 0 = .ok (.aload 5, 2) := by decide +kernel
theorem dL_earliest_2 : decode cL_earliest 2 = .ok (.iconst 0, 1) := by decide +kernel
theorem dL_earliest_3 : decode cL_earliest 3 = .ok (.aload_n 0, 1) := by decide +kernel
theorem dL_earliest_4 : decode cL_earliest 4 = .ok (.iload_n 1, 1) := by decide +kernel
theorem dL_earliest_5 : decode cL_earliest 5 = .ok (.iload_n 2, 1) := by decide +kernel
theorem dL_earliest_6 : decode cL_earliest 6 = .ok (.iload_n 3, 1) := by decide +kernel
theorem dL_earliest_7 : decode cL_earliest 7 = .ok (.iload 4, 2) := by decide +kernel
theorem dL_earliest_9 : decode cL_earliest 9 = .ok (.invokevirtual 71, 3) := by decide +kernel
theorem dL_earliest_12 : decode cL_earliest 12 = .ok (.i2l, 1) := by decide +kernel
theorem dL_earliest_13 : decode cL_earliest 13 = .ok (.lastore, 1) := by decide +kernel
theorem dL_earliest_14 : decode cL_earliest 14 = .ok (.goto 7, 3) := by decide +kernel
theorem dL_earliest_17 : decode cL_earliest 17 = .ok (.astore 6, 2) := by decide +kernel
theorem dL_earliest_19 : decode cL_earliest 19 = .ok (.iconst 1, 1) := by decide +kernel
theorem dL_earliest_20 : decode cL_earliest 20 = .ok (.ireturn, 1) := by decide +kernel
theorem dL_earliest_21 : decode cL_earliest 21 = .ok (.iconst 0, 1) := by decide +kernel
theorem dL_earliest_22 : decode cL_earliest 22 = .ok (.ireturn, 1) := by decide +kernel
set_option maxRecDepth 20000 in
theorem ggL_panelsOf_X1_panelsOf : GoodIn wsL_panelsOf wsX1_panelsOf := goodIn_ca (goodIn_r _ [6, 7, 8, 9, 5, 10, 11, 12, 13, 14, 15, 16, 17, 18, 19, 20, 21, 22, 23, 24, 25, 26, 27, 28, 29, 30, 31, 32, 33, 34, 35, 36, 37, 38, 39, 40, 41, 42, 43, 44, 45, 46, 47, 48, 49, 50, 51, 52, 53, 54, 55, 56, 57, 58, 59, 60, 61, 62, 63, 64, 65, 66, 67, 68] (by decide +kernel) (by decide +kernel)) (goodIn_sub (fun _ h => List.mem_cons_of_mem _ (List.mem_append_right _ h)) (by decide +kernel))
set_option maxRecDepth 20000 in
theorem gL_panelsOf_X1_panelsOf : GoodIn wsL_panelsOf (wsV RL 74 RX1 yX1_panelsOf wsX1_panelsOf) := goodIn_app (goodIn_of _ (by decide +kernel)) ggL_panelsOf_X1_panelsOf
theorem dL_panelsOf_0 : decode cL_panelsOf 0 = .ok (.aload_n 2, 1) := by decide +kernel
theorem dL_panelsOf_1 : decode cL_panelsOf 1 = .ok (.iconst 0, 1) := by decide +kernel
theorem dL_panelsOf_2 : decode cL_panelsOf 2 = .ok (.aload_n 0, 1) := by decide +kernel
theorem dL_panelsOf_3 : decode cL_panelsOf 3 = .ok (.iload_n 1, 1) := by decide +kernel
theorem dL_panelsOf_4 : decode cL_panelsOf 4 = .ok (.invokevirtual 74, 3) := by decide +kernel
theorem dL_panelsOf_7 : decode cL_panelsOf 7 = .ok (.i2l, 1) := by decide +kernel
theorem dL_panelsOf_8 : decode cL_panelsOf 8 = .ok (.lastore, 1) := by decide +kernel
theorem dL_panelsOf_9 : decode cL_panelsOf 9 = .ok (.goto 6, 3) := by decide +kernel
theorem dL_panelsOf_12 : decode cL_panelsOf 12 = .ok (.astore_n 3, 1) := by decide +kernel
theorem dL_panelsOf_13 : decode cL_panelsOf 13 = .ok (.iconst 1, 1) := by decide +kernel
theorem dL_panelsOf_14 : decode cL_panelsOf 14 = .ok (.ireturn, 1) := by decide +kernel
theorem dL_panelsOf_15 : decode cL_panelsOf 15 = .ok (.iconst 0, 1) := by decide +kernel
theorem dL_panelsOf_16 : decode cL_panelsOf 16 = .ok (.ireturn, 1) := by decide +kernel
set_option maxRecDepth 20000 in
theorem ggL_pourOf_X1_pourOf : GoodIn wsL_pourOf wsX1_pourOf := goodIn_ca (goodIn_r _ [6, 7, 8, 9, 10, 11, 12, 5, 13, 14, 15, 16, 17, 18, 19, 20, 21, 22, 23, 24, 25, 26, 27, 28, 29, 30, 31, 32, 33, 34, 35, 36, 37, 38, 39, 40, 41, 42, 43, 44, 45, 46, 47, 48, 49, 50, 51, 52, 53, 54, 55, 56, 57, 58, 59, 60] (by decide +kernel) (by decide +kernel)) (goodIn_sub (fun _ h => List.mem_cons_of_mem _ (List.mem_append_right _ h)) (by decide +kernel))
set_option maxRecDepth 20000 in
theorem gL_pourOf_X1_pourOf : GoodIn wsL_pourOf (wsV RL 77 RX1 yX1_pourOf wsX1_pourOf) := goodIn_app (goodIn_of _ (by decide +kernel)) ggL_pourOf_X1_pourOf
theorem dL_pourOf_0 : decode cL_pourOf 0 = .ok (.aload_n 3, 1) := by decide +kernel
theorem dL_pourOf_1 : decode cL_pourOf 1 = .ok (.iconst 0, 1) := by decide +kernel
theorem dL_pourOf_2 : decode cL_pourOf 2 = .ok (.aload_n 0, 1) := by decide +kernel
theorem dL_pourOf_3 : decode cL_pourOf 3 = .ok (.iload_n 1, 1) := by decide +kernel
theorem dL_pourOf_4 : decode cL_pourOf 4 = .ok (.iload_n 2, 1) := by decide +kernel
theorem dL_pourOf_5 : decode cL_pourOf 5 = .ok (.invokevirtual 77, 3) := by decide +kernel
theorem dL_pourOf_8 : decode cL_pourOf 8 = .ok (.i2l, 1) := by decide +kernel
theorem dL_pourOf_9 : decode cL_pourOf 9 = .ok (.lastore, 1) := by decide +kernel
theorem dL_pourOf_10 : decode cL_pourOf 10 = .ok (.goto 7, 3) := by decide +kernel
theorem dL_pourOf_13 : decode cL_pourOf 13 = .ok (.astore 4, 2) := by decide +kernel
theorem dL_pourOf_15 : decode cL_pourOf 15 = .ok (.iconst 1, 1) := by decide +kernel
theorem dL_pourOf_16 : decode cL_pourOf 16 = .ok (.ireturn, 1) := by decide +kernel
theorem dL_pourOf_17 : decode cL_pourOf 17 = .ok (.iconst 0, 1) := by decide +kernel
theorem dL_pourOf_18 : decode cL_pourOf 18 = .ok (.ireturn, 1) := by decide +kernel
set_option maxRecDepth 20000 in
theorem ggL_law_X1_init : GoodIn wsL_law wsX1_init := goodIn_r _ [9, 10, 11, 12, 13, 14, 15, 16, 17, 18, 19, 20, 21, 22, 23, 24, 25, 26, 27, 28, 29, 30, 2, 31, 32, 33, 34, 35, 530, 531, 532, 533, 534, 535, 536, 537, 538] (by decide +kernel) (by decide +kernel)
set_option maxRecDepth 20000 in
theorem gL_law_X1_init : GoodIn wsL_law (wsX1_init) := ggL_law_X1_init
set_option maxRecDepth 20000 in
theorem ggL_law_X2_init : GoodIn wsL_law wsX2_init := goodIn_r _ [38, 39, 11, 12, 13, 40, 41, 42, 43, 44, 45, 46, 47, 48, 49, 50, 51, 52, 53, 54, 55, 56, 57, 58, 539, 540, 541, 542, 543, 544, 545, 546, 547, 548, 549, 550, 551, 552, 553, 554, 555, 556, 557] (by decide +kernel) (by decide +kernel)
set_option maxRecDepth 20000 in
theorem gL_law_X2_init : GoodIn wsL_law (wsX2_init) := ggL_law_X2_init
set_option maxRecDepth 20000 in
theorem ggL_law_L_setTemperature : GoodIn wsL_law wsL_setTemperature := goodIn_ca (goodIn_ca (goodIn_r _ [62, 63, 64, 65, 66, 67, 2, 68, 14, 69, 70, 71, 72, 73, 74, 75, 76, 77, 78, 79, 80, 81, 82, 83, 84, 28, 29, 30, 31, 15, 32, 33, 34, 35, 85, 86, 87, 88, 19, 89, 90, 91, 92, 93, 94, 95, 96, 21, 97, 98, 99, 100, 101, 102, 103, 104, 105, 106, 107, 108, 109, 110, 111, 112, 113, 114, 115, 116, 117, 118, 119, 120, 121, 122, 123, 124, 125, 22, 126, 127, 128, 129, 23, 530, 531, 532, 533, 534, 535, 536, 537, 538, 558, 559, 560, 561, 562, 563, 564, 565, 566, 567, 568, 569, 570] (by decide +kernel) (by decide +kernel)) (goodIn_sub (fun _ h => List.mem_append_left _ (List.mem_append_left _ (List.mem_append_left _ (List.mem_append_right _ h)))) (by decide +kernel))) (goodIn_sub (fun _ h => List.mem_append_left _ (List.mem_append_left _ (List.mem_append_right _ h))) (by decide +kernel))
set_option maxRecDepth 20000 in
theorem gL_law_L_setTemperature : GoodIn wsL_law (va_wsS RL 84 yL_setTemperature wsL_setTemperature) := goodIn_app (goodIn_of _ (by decide +kernel)) ggL_law_L_setTemperature
set_option maxRecDepth 20000 in
theorem ggL_law_X2_setTemperature : GoodIn wsL_law wsX2_setTemperature := goodIn_r _ [133, 134, 40, 135, 136, 5, 137, 138, 139, 140, 539, 540, 541, 542, 543, 544, 545, 546, 547, 548, 549, 550, 551, 552, 553, 554, 555, 556, 557] (by decide +kernel) (by decide +kernel)
set_option maxRecDepth 20000 in
theorem gL_law_X2_setTemperature : GoodIn wsL_law (wsV RL 89 RX2 yX2_setTemperature wsX2_setTemperature) := goodIn_app (goodIn_of _ (by decide +kernel)) ggL_law_X2_setTemperature
set_option maxRecDepth 20000 in
theorem ggL_law_X2_thrown : GoodIn wsL_law wsX2_thrown := goodIn_r _ [144, 134, 539, 540, 541, 542, 543, 544, 545, 546, 547, 548, 549, 550, 551, 552, 553, 554, 555, 556, 557] (by decide +kernel) (by decide +kernel)
set_option maxRecDepth 20000 in
theorem gL_law_X2_thrown : GoodIn wsL_law (wsV RL 90 RX2 yX2_thrown wsX2_thrown) := goodIn_app (goodIn_of _ (by decide +kernel)) ggL_law_X2_thrown
set_option maxRecDepth 20000 in
theorem ggL_law_L_temperature : GoodIn wsL_law wsL_temperature := goodIn_ca (goodIn_r _ [147, 63, 148, 149, 150, 2, 151, 14, 69, 70, 71, 72, 73, 74, 75, 76, 530, 531, 532, 533, 534, 535, 536, 537, 538] (by decide +kernel) (by decide +kernel)) (goodIn_sub (fun _ h => List.mem_append_left _ (List.mem_append_left _ (List.mem_append_left _ (List.mem_append_right _ h)))) (by decide +kernel))
set_option maxRecDepth 20000 in
theorem gL_law_L_temperature : GoodIn wsL_law (va_wsS RL 94 yL_temperature wsL_temperature) := goodIn_app (goodIn_of _ (by decide +kernel)) ggL_law_L_temperature
set_option maxRecDepth 20000 in
theorem ggL_law_X2_temperature : GoodIn wsL_law wsX2_temperature := goodIn_r _ [155, 134, 40, 135, 136, 5, 137, 138, 139, 140, 156, 157, 158, 159, 539, 540, 541, 542, 543, 544, 545, 546, 547, 548, 549, 550, 551, 552, 553, 554, 555, 556, 557] (by decide +kernel) (by decide +kernel)
set_option maxRecDepth 20000 in
theorem gL_law_X2_temperature : GoodIn wsL_law (wsV RL 97 RX2 yX2_temperature wsX2_temperature) := goodIn_app (goodIn_of _ (by decide +kernel)) ggL_law_X2_temperature
set_option maxRecDepth 20000 in
theorem ggL_law_L_maturity : GoodIn wsL_law wsL_maturity := goodIn_ca (goodIn_r _ [162, 63, 163, 164, 165, 2, 166, 69, 70, 71, 72, 73, 74, 75, 76, 111, 112, 113, 114, 115, 116, 34, 117, 15, 530, 531, 532, 533, 534, 535, 536, 537, 538] (by decide +kernel) (by decide +kernel)) (goodIn_sub (fun _ h => List.mem_append_left _ (List.mem_append_left _ (List.mem_append_left _ (List.mem_append_right _ h)))) (by decide +kernel))
set_option maxRecDepth 20000 in
theorem gL_law_L_maturity : GoodIn wsL_law (va_wsS RL 98 yL_maturity wsL_maturity) := goodIn_app (goodIn_of _ (by decide +kernel)) ggL_law_L_maturity
set_option maxRecDepth 20000 in
theorem ggL_law_X2_maturity : GoodIn wsL_law wsX2_maturity := goodIn_r _ [170, 134, 135, 136, 5, 137, 138, 139, 140, 171, 172, 173, 174, 175, 176, 177, 178, 40, 539, 540, 541, 542, 543, 544, 545, 546, 547, 548, 549, 550, 551, 552, 553, 554, 555, 556, 557] (by decide +kernel) (by decide +kernel)
set_option maxRecDepth 20000 in
theorem gL_law_X2_maturity : GoodIn wsL_law (wsV RL 101 RX2 yX2_maturity wsX2_maturity) := goodIn_app (goodIn_of _ (by decide +kernel)) ggL_law_X2_maturity
set_option maxRecDepth 20000 in
theorem ggL_law_L_strength : GoodIn wsL_law wsL_strength := goodIn_ca (goodIn_r _ [181, 64, 182, 183, 184, 2, 185, 186, 82, 83, 84, 77, 78, 79, 80, 81, 118, 119, 120, 121] (by decide +kernel) (by decide +kernel)) (goodIn_sub (fun _ h => List.mem_append_left _ (List.mem_append_left _ (List.mem_append_right _ h))) (by decide +kernel))
set_option maxRecDepth 20000 in
theorem gL_law_L_strength : GoodIn wsL_law (va_wsS RL 102 yL_strength wsL_strength) := goodIn_app (goodIn_of _ (by decide +kernel)) ggL_law_L_strength
set_option maxRecDepth 20000 in
theorem ggL_law_X2_strength : GoodIn wsL_law wsX2_strength := goodIn_r _ [190, 134, 191, 138, 139, 5, 140, 192, 193, 194, 195, 196, 197, 156, 157, 158, 159, 539, 540, 541, 542, 543, 544, 545, 546, 547, 548, 549, 550, 551, 552, 553, 554, 555, 556, 557] (by decide +kernel) (by decide +kernel)
set_option maxRecDepth 20000 in
theorem gL_law_X2_strength : GoodIn wsL_law (wsV RL 104 RX2 yX2_strength wsX2_strength) := goodIn_app (goodIn_of _ (by decide +kernel)) ggL_law_X2_strength
set_option maxRecDepth 20000 in
theorem ggL_law_L_setPanels : GoodIn wsL_law wsL_setPanels := goodIn_ca (goodIn_r _ [200, 64, 201, 202, 203, 2, 204, 20, 82, 83, 84, 77, 78, 79, 80, 81, 530, 531, 532, 533, 534, 535, 536, 537, 538] (by decide +kernel) (by decide +kernel)) (goodIn_sub (fun _ h => List.mem_append_left _ (List.mem_append_left _ (List.mem_append_right _ h))) (by decide +kernel))
set_option maxRecDepth 20000 in
theorem gL_law_L_setPanels : GoodIn wsL_law (va_wsS RL 105 yL_setPanels wsL_setPanels) := goodIn_app (goodIn_of _ (by decide +kernel)) ggL_law_L_setPanels
set_option maxRecDepth 20000 in
theorem ggL_law_X2_setPanels : GoodIn wsL_law wsX2_setPanels := goodIn_r _ [208, 134, 41, 138, 139, 5, 140, 539, 540, 541, 542, 543, 544, 545, 546, 547, 548, 549, 550, 551, 552, 553, 554, 555, 556, 557] (by decide +kernel) (by decide +kernel)
set_option maxRecDepth 20000 in
theorem gL_law_X2_setPanels : GoodIn wsL_law (wsV RL 107 RX2 yX2_setPanels wsX2_setPanels) := goodIn_app (goodIn_of _ (by decide +kernel)) ggL_law_X2_setPanels
set_option maxRecDepth 20000 in
theorem ggL_law_L_setRates : GoodIn wsL_law wsL_setRates := goodIn_ca (goodIn_r _ [211, 64, 212, 213, 214, 2, 215, 115, 116, 34, 117, 21, 82, 83, 84, 77, 78, 79, 80, 81, 85, 86, 87, 88, 19, 89, 90, 91, 92, 93, 94, 95, 96, 97, 98, 99, 100, 101, 102, 103, 104, 105, 106, 107, 108, 109, 110, 111, 112, 113, 114, 15, 118, 119, 120, 121, 122, 123, 124, 125, 22, 32, 33, 35, 126, 127, 128, 129, 23, 530, 531, 532, 533, 534, 535, 536, 537, 538, 558, 559, 560, 561, 562, 563, 564, 565, 566, 567, 568, 569, 570] (by decide +kernel) (by decide +kernel)) (goodIn_sub (fun _ h => List.mem_append_left _ (List.mem_append_left _ (List.mem_append_right _ h))) (by decide +kernel))
set_option maxRecDepth 20000 in
theorem gL_law_L_setRates : GoodIn wsL_law (va_wsS RL 108 yL_setRates wsL_setRates) := goodIn_app (goodIn_of _ (by decide +kernel)) ggL_law_L_setRates
set_option maxRecDepth 20000 in
theorem ggL_law_X2_setRates : GoodIn wsL_law wsX2_setRates := goodIn_r _ [219, 134, 42, 43, 138, 139, 5, 140, 220, 221, 222, 223, 539, 540, 541, 542, 543, 544, 545, 546, 547, 548, 549, 550, 551, 552, 553, 554, 555, 556, 557] (by decide +kernel) (by decide +kernel)
set_option maxRecDepth 20000 in
theorem gL_law_X2_setRates : GoodIn wsL_law (wsV RL 110 RX2 yX2_setRates wsX2_setRates) := goodIn_app (goodIn_of _ (by decide +kernel)) ggL_law_X2_setRates
set_option maxRecDepth 20000 in
theorem ggL_law_L_setCrew : GoodIn wsL_law wsL_setCrew := goodIn_ca (goodIn_r _ [226, 64, 227, 228, 229, 2, 230, 22, 23, 82, 83, 84, 77, 78, 79, 80, 81, 85, 86, 87, 88, 19, 89, 90, 91, 92, 93, 94, 95, 96, 21, 97, 98, 99, 100, 101, 102, 103, 104, 105, 106, 107, 108, 109, 110, 111, 112, 113, 114, 115, 116, 34, 117, 15, 118, 119, 120, 121, 122, 123, 124, 125, 32, 33, 35, 126, 127, 128, 129, 530, 531, 532, 533, 534, 535, 536, 537, 538, 558, 559, 560, 561, 562, 563, 564, 565, 566, 567, 568, 569, 570] (by decide +kernel) (by decide +kernel)) (goodIn_sub (fun _ h => List.mem_append_left _ (List.mem_append_left _ (List.mem_append_right _ h))) (by decide +kernel))
set_option maxRecDepth 20000 in
theorem gL_law_L_setCrew : GoodIn wsL_law (va_wsS RL 111 yL_setCrew wsL_setCrew) := goodIn_app (goodIn_of _ (by decide +kernel)) ggL_law_L_setCrew
set_option maxRecDepth 20000 in
theorem ggL_law_X2_setCrew : GoodIn wsL_law wsX2_setCrew := goodIn_r _ [234, 134, 44, 45, 138, 139, 5, 140, 539, 540, 541, 542, 543, 544, 545, 546, 547, 548, 549, 550, 551, 552, 553, 554, 555, 556, 557] (by decide +kernel) (by decide +kernel)
set_option maxRecDepth 20000 in
theorem gL_law_X2_setCrew : GoodIn wsL_law (wsV RL 114 RX2 yX2_setCrew wsX2_setCrew) := goodIn_app (goodIn_of _ (by decide +kernel)) ggL_law_X2_setCrew
set_option maxRecDepth 20000 in
theorem ggL_law_L_plan : GoodIn wsL_law wsL_plan := goodIn_ca (goodIn_ca (goodIn_r _ [237, 64, 238, 239, 240, 241, 2, 242, 243, 244, 18, 245, 102, 19, 246, 247, 248, 82, 83, 84, 77, 78, 79, 80, 81, 249, 250, 251, 252, 253, 254, 255, 256, 257, 258, 11, 12, 13, 259, 106, 260, 261, 262, 263, 89, 90, 91, 92, 93, 94, 95, 96, 21, 97, 98, 99, 100, 101, 103, 104, 105, 107, 108, 109, 110, 111, 112, 113, 114, 115, 116, 34, 117, 15, 118, 119, 120, 121, 122, 123, 124, 125, 22, 32, 33, 35, 126, 127, 128, 129, 23, 558, 559, 560, 561, 562, 563, 564, 565, 566, 567, 568, 569, 570, 530, 531, 532, 533, 534, 535, 536, 537, 538] (by decide +kernel) (by decide +kernel)) (goodIn_sub (fun _ h => List.mem_append_left _ (List.mem_append_right _ h)) (by decide +kernel))) (goodIn_sub (fun _ h => List.mem_append_left _ (List.mem_append_left _ (List.mem_append_right _ h))) (by decide +kernel))
set_option maxRecDepth 20000 in
theorem gL_law_L_plan : GoodIn wsL_law (va_wsS RL 115 yL_plan wsL_plan) := goodIn_app (goodIn_of _ (by decide +kernel)) ggL_law_L_plan
set_option maxRecDepth 20000 in
theorem ggL_law_X2_plan : GoodIn wsL_law wsX2_plan := goodIn_r _ [267, 134, 47, 268, 269, 270, 5, 271, 272, 273, 274, 138, 139, 140, 275, 276, 277, 278, 48, 49, 50, 51, 52, 539, 540, 541, 542, 543, 544, 545, 546, 547, 548, 549, 550, 551, 552, 553, 554, 555, 556, 557] (by decide +kernel) (by decide +kernel)
set_option maxRecDepth 20000 in
theorem gL_law_X2_plan : GoodIn wsL_law (wsV RL 118 RX2 yX2_plan wsX2_plan) := goodIn_app (goodIn_of _ (by decide +kernel)) ggL_law_X2_plan
set_option maxRecDepth 20000 in
theorem ggL_law_L_move : GoodIn wsL_law wsL_move := goodIn_ca (goodIn_ca (goodIn_r _ [281, 282, 64, 283, 284, 285, 2, 286, 287, 288, 289, 290, 291, 292, 19, 253, 254, 255, 82, 83, 84, 77, 78, 79, 80, 81, 89, 90, 91, 92, 93, 94, 95, 96, 21, 97, 98, 99, 100, 101, 102, 103, 104, 105, 106, 107, 108, 109, 110, 111, 112, 113, 114, 115, 116, 34, 117, 15, 118, 119, 120, 121, 122, 123, 124, 125, 22, 32, 33, 35, 126, 127, 128, 129, 23, 558, 559, 560, 561, 562, 563, 564, 565, 566, 567, 568, 569, 570, 530, 531, 532, 533, 534, 535, 536, 537, 538] (by decide +kernel) (by decide +kernel)) (goodIn_sub (fun _ h => List.mem_append_right _ h) (by decide +kernel))) (goodIn_sub (fun _ h => List.mem_append_left _ (List.mem_append_left _ (List.mem_append_right _ h))) (by decide +kernel))
set_option maxRecDepth 20000 in
theorem gL_law_L_move : GoodIn wsL_law (va_wsS RL 119 yL_move wsL_move) := goodIn_app (goodIn_of _ (by decide +kernel)) ggL_law_L_move
set_option maxRecDepth 20000 in
theorem ggL_law_X2_move : GoodIn wsL_law wsX2_move := goodIn_r _ [296, 134, 48, 297, 298, 299, 5, 300, 47, 138, 139, 140, 539, 540, 541, 542, 543, 544, 545, 546, 547, 548, 549, 550, 551, 552, 553, 554, 555, 556, 557] (by decide +kernel) (by decide +kernel)
set_option maxRecDepth 20000 in
theorem gL_law_X2_move : GoodIn wsL_law (wsV RL 121 RX2 yX2_move wsX2_move) := goodIn_app (goodIn_of _ (by decide +kernel)) ggL_law_X2_move
set_option maxRecDepth 20000 in
theorem ggL_law_L_cancel : GoodIn wsL_law wsL_cancel := goodIn_ca (goodIn_r _ [303, 282, 304, 305, 306, 2, 307, 19, 287, 288, 289, 290, 291, 292, 253, 254, 255, 530, 531, 532, 533, 534, 535, 536, 537, 538, 558, 559, 560, 561, 562, 563, 564, 565, 566, 567, 568, 569, 570] (by decide +kernel) (by decide +kernel)) (goodIn_sub (fun _ h => List.mem_append_right _ h) (by decide +kernel))
set_option maxRecDepth 20000 in
theorem gL_law_L_cancel : GoodIn wsL_law (va_wsS RL 122 yL_cancel wsL_cancel) := goodIn_app (goodIn_of _ (by decide +kernel)) ggL_law_L_cancel
set_option maxRecDepth 20000 in
theorem ggL_law_X2_cancel : GoodIn wsL_law wsX2_cancel := goodIn_r _ [311, 134, 47, 50, 297, 298, 299, 5, 300, 138, 139, 140, 539, 540, 541, 542, 543, 544, 545, 546, 547, 548, 549, 550, 551, 552, 553, 554, 555, 556, 557] (by decide +kernel) (by decide +kernel)
set_option maxRecDepth 20000 in
theorem gL_law_X2_cancel : GoodIn wsL_law (wsV RL 124 RX2 yX2_cancel wsX2_cancel) := goodIn_app (goodIn_of _ (by decide +kernel)) ggL_law_X2_cancel
set_option maxRecDepth 20000 in
theorem ggL_law_L_delay : GoodIn wsL_law wsL_delay := goodIn_ca (goodIn_ca (goodIn_ca (goodIn_r _ [314, 282, 64, 238, 315, 316, 317, 2, 318, 243, 244, 287, 288, 289, 290, 291, 292, 19, 253, 254, 255, 82, 83, 84, 77, 78, 79, 80, 81, 319, 102, 320, 321, 105, 259, 106, 89, 90, 91, 92, 93, 94, 95, 96, 21, 97, 98, 99, 100, 101, 103, 104, 107, 108, 109, 110, 111, 112, 113, 114, 115, 116, 34, 117, 15, 118, 119, 120, 121, 122, 123, 124, 125, 22, 32, 33, 35, 126, 127, 128, 129, 23, 558, 559, 560, 561, 562, 563, 564, 565, 566, 567, 568, 569, 570, 530, 531, 532, 533, 534, 535, 536, 537, 538] (by decide +kernel) (by decide +kernel)) (goodIn_sub (fun _ h => List.mem_append_left _ (List.mem_append_right _ h)) (by decide +kernel))) (goodIn_sub (fun _ h => List.mem_append_right _ h) (by decide +kernel))) (goodIn_sub (fun _ h => List.mem_append_left _ (List.mem_append_left _ (List.mem_append_right _ h))) (by decide +kernel))
set_option maxRecDepth 20000 in
theorem gL_law_L_delay : GoodIn wsL_law (va_wsS RL 125 yL_delay wsL_delay) := goodIn_app (goodIn_of _ (by decide +kernel)) ggL_law_L_delay
set_option maxRecDepth 20000 in
theorem ggL_law_X2_delay : GoodIn wsL_law wsX2_delay := goodIn_r _ [325, 49, 52, 134, 53, 54, 297, 298, 299, 5, 300, 47, 138, 139, 140, 539, 540, 541, 542, 543, 544, 545, 546, 547, 548, 549, 550, 551, 552, 553, 554, 555, 556, 557] (by decide +kernel) (by decide +kernel)
set_option maxRecDepth 20000 in
theorem gL_law_X2_delay : GoodIn wsL_law (wsV RL 128 RX2 yX2_delay wsX2_delay) := goodIn_app (goodIn_of _ (by decide +kernel)) ggL_law_X2_delay
set_option maxRecDepth 20000 in
theorem ggL_law_X1_pours : GoodIn wsL_law wsX1_pours := goodIn_r _ [329, 19, 530, 531, 532, 533, 534, 535, 536, 537, 538] (by decide +kernel) (by decide +kernel)
set_option maxRecDepth 20000 in
theorem gL_law_X1_pours : GoodIn wsL_law (wsV RL 129 RX1 yX1_pours wsX1_pours) := goodIn_app (goodIn_of _ (by decide +kernel)) ggL_law_X1_pours
set_option maxRecDepth 20000 in
theorem ggL_law_X2_pours : GoodIn wsL_law wsX2_pours := goodIn_r _ [333, 134, 47, 539, 540, 541, 542, 543, 544, 545, 546, 547, 548, 549, 550, 551, 552, 553, 554, 555, 556, 557] (by decide +kernel) (by decide +kernel)
set_option maxRecDepth 20000 in
theorem gL_law_X2_pours : GoodIn wsL_law (wsV RL 132 RX2 yX2_pours wsX2_pours) := goodIn_app (goodIn_of _ (by decide +kernel)) ggL_law_X2_pours
set_option maxRecDepth 20000 in
theorem ggL_law_L_endOf : GoodIn wsL_law wsL_endOf := goodIn_ca (goodIn_r _ [336, 282, 337, 338, 339, 2, 340, 287, 288, 289, 290, 291, 292, 19, 253, 254, 255, 558, 559, 560, 561, 562, 563, 564, 565, 566, 567, 568, 569, 570, 530, 531, 532, 533, 534, 535, 536, 537, 538] (by decide +kernel) (by decide +kernel)) (goodIn_sub (fun _ h => List.mem_append_right _ h) (by decide +kernel))
set_option maxRecDepth 20000 in
theorem gL_law_L_endOf : GoodIn wsL_law (va_wsS RL 133 yL_endOf wsL_endOf) := goodIn_app (goodIn_of _ (by decide +kernel)) ggL_law_L_endOf
set_option maxRecDepth 20000 in
theorem ggL_law_X2_endOf : GoodIn wsL_law wsX2_endOf := goodIn_r _ [344, 345, 346, 347, 5, 348, 134, 297, 298, 299, 300, 47, 138, 139, 140, 349, 350, 351, 352, 55, 48, 44, 56, 51, 57, 45, 353, 354, 355, 356, 49, 220, 221, 222, 223, 42, 43, 357, 358, 359, 360, 52, 54, 192, 193, 194, 195, 196, 197, 175, 176, 177, 178, 40, 135, 136, 137, 539, 540, 541, 542, 543, 544, 545, 546, 547, 548, 549, 550, 551, 552, 553, 554, 555, 556, 557] (by decide +kernel) (by decide +kernel)
set_option maxRecDepth 20000 in
theorem gL_law_X2_endOf : GoodIn wsL_law (wsV RL 135 RX2 yX2_endOf wsX2_endOf) := goodIn_app (goodIn_of _ (by decide +kernel)) ggL_law_X2_endOf
set_option maxRecDepth 20000 in
theorem ggL_law_L_coldJoints : GoodIn wsL_law wsL_coldJoints := goodIn_ca (goodIn_r _ [363, 282, 364, 365, 366, 2, 367, 287, 288, 289, 290, 291, 292, 19, 253, 254, 255, 97, 98, 99, 100, 21, 111, 112, 113, 114, 115, 116, 34, 117, 15, 558, 559, 560, 561, 562, 563, 564, 565, 566, 567, 568, 569, 570, 530, 531, 532, 533, 534, 535, 536, 537, 538] (by decide +kernel) (by decide +kernel)) (goodIn_sub (fun _ h => List.mem_append_right _ h) (by decide +kernel))
set_option maxRecDepth 20000 in
theorem gL_law_L_coldJoints : GoodIn wsL_law (va_wsS RL 136 yL_coldJoints wsL_coldJoints) := goodIn_app (goodIn_of _ (by decide +kernel)) ggL_law_L_coldJoints
set_option maxRecDepth 20000 in
theorem ggL_law_X2_coldJoints : GoodIn wsL_law wsX2_coldJoints := goodIn_r _ [371, 52, 48, 53, 54, 345, 346, 347, 5, 348, 134, 297, 298, 299, 300, 47, 138, 139, 140, 349, 350, 351, 352, 55, 44, 56, 51, 57, 45, 353, 354, 355, 356, 49, 220, 221, 222, 223, 42, 43, 357, 358, 359, 360, 192, 193, 194, 195, 196, 197, 175, 176, 177, 178, 40, 135, 136, 137, 171, 172, 173, 174, 539, 540, 541, 542, 543, 544, 545, 546, 547, 548, 549, 550, 551, 552, 553, 554, 555, 556, 557] (by decide +kernel) (by decide +kernel)
set_option maxRecDepth 20000 in
theorem gL_law_X2_coldJoints : GoodIn wsL_law (wsV RL 138 RX2 yX2_coldJoints wsX2_coldJoints) := goodIn_app (goodIn_of _ (by decide +kernel)) ggL_law_X2_coldJoints
set_option maxRecDepth 20000 in
theorem ggL_law_L_struck : GoodIn wsL_law wsL_struck := goodIn_ca (goodIn_r _ [374, 282, 375, 376, 377, 2, 378, 287, 288, 289, 290, 291, 292, 19, 253, 254, 255, 558, 559, 560, 561, 562, 563, 564, 565, 566, 567, 568, 569, 570, 530, 531, 532, 533, 534, 535, 536, 537, 538] (by decide +kernel) (by decide +kernel)) (goodIn_sub (fun _ h => List.mem_append_right _ h) (by decide +kernel))
set_option maxRecDepth 20000 in
theorem gL_law_L_struck : GoodIn wsL_law (va_wsS RL 139 yL_struck wsL_struck) := goodIn_app (goodIn_of _ (by decide +kernel)) ggL_law_L_struck
set_option maxRecDepth 20000 in
theorem ggL_law_X2_struck : GoodIn wsL_law wsX2_struck := goodIn_r _ [382, 56, 345, 346, 347, 5, 348, 134, 297, 298, 299, 300, 47, 138, 139, 140, 349, 350, 351, 352, 55, 48, 44, 51, 57, 45, 353, 354, 355, 356, 49, 220, 221, 222, 223, 42, 43, 357, 358, 359, 360, 52, 54, 192, 193, 194, 195, 196, 197, 175, 176, 177, 178, 40, 135, 136, 137, 539, 540, 541, 542, 543, 544, 545, 546, 547, 548, 549, 550, 551, 552, 553, 554, 555, 556, 557] (by decide +kernel) (by decide +kernel)
set_option maxRecDepth 20000 in
theorem gL_law_X2_struck : GoodIn wsL_law (wsV RL 141 RX2 yX2_struck wsX2_struck) := goodIn_app (goodIn_of _ (by decide +kernel)) ggL_law_X2_struck
set_option maxRecDepth 20000 in
theorem ggL_law_L_freeFrom : GoodIn wsL_law wsL_freeFrom := goodIn_ca (goodIn_r _ [385, 282, 386, 387, 388, 2, 389, 287, 288, 289, 290, 291, 292, 19, 253, 254, 255, 558, 559, 560, 561, 562, 563, 564, 565, 566, 567, 568, 569, 570, 530, 531, 532, 533, 534, 535, 536, 537, 538] (by decide +kernel) (by decide +kernel)) (goodIn_sub (fun _ h => List.mem_append_right _ h) (by decide +kernel))
set_option maxRecDepth 20000 in
theorem gL_law_L_freeFrom : GoodIn wsL_law (va_wsS RL 142 yL_freeFrom wsL_freeFrom) := goodIn_app (goodIn_of _ (by decide +kernel)) ggL_law_L_freeFrom
set_option maxRecDepth 20000 in
theorem ggL_law_X2_freeFrom : GoodIn wsL_law wsX2_freeFrom := goodIn_r _ [393, 57, 345, 346, 347, 5, 348, 134, 297, 298, 299, 300, 47, 138, 139, 140, 349, 350, 351, 352, 55, 48, 44, 56, 51, 45, 353, 354, 355, 356, 49, 220, 221, 222, 223, 42, 43, 357, 358, 359, 360, 52, 54, 192, 193, 194, 195, 196, 197, 175, 176, 177, 178, 40, 135, 136, 137, 539, 540, 541, 542, 543, 544, 545, 546, 547, 548, 549, 550, 551, 552, 553, 554, 555, 556, 557] (by decide +kernel) (by decide +kernel)
set_option maxRecDepth 20000 in
theorem gL_law_X2_freeFrom : GoodIn wsL_law (wsV RL 144 RX2 yX2_freeFrom wsX2_freeFrom) := goodIn_app (goodIn_of _ (by decide +kernel)) ggL_law_X2_freeFrom
set_option maxRecDepth 20000 in
theorem ggL_law_L_need : GoodIn wsL_law wsL_need := goodIn_ca (goodIn_r _ [396, 63, 397, 398, 399, 2, 400, 69, 70, 71, 72, 73, 74, 75, 76, 401, 402, 403, 404, 19, 405, 102, 406, 407, 408, 409, 530, 531, 532, 533, 534, 535, 536, 537, 538, 558, 559, 560, 561, 562, 563, 564, 565, 566, 567, 568, 569, 570] (by decide +kernel) (by decide +kernel)) (goodIn_sub (fun _ h => List.mem_append_left _ (List.mem_append_left _ (List.mem_append_left _ (List.mem_append_right _ h)))) (by decide +kernel))
set_option maxRecDepth 20000 in
theorem gL_law_L_need : GoodIn wsL_law (va_wsS RL 145 yL_need wsL_need) := goodIn_app (goodIn_of _ (by decide +kernel)) ggL_law_L_need
set_option maxRecDepth 20000 in
theorem ggL_law_X2_need : GoodIn wsL_law wsX2_need := goodIn_r _ [413, 134, 135, 136, 5, 137, 138, 139, 140, 414, 415, 416, 417, 47, 349, 350, 351, 352, 55, 48, 44, 56, 51, 57, 45, 353, 354, 355, 356, 49, 220, 221, 222, 223, 42, 43, 357, 358, 359, 360, 52, 54, 192, 193, 194, 195, 196, 197, 175, 176, 177, 178, 40, 418, 419, 420, 421, 50, 422, 423, 424, 425, 539, 540, 541, 542, 543, 544, 545, 546, 547, 548, 549, 550, 551, 552, 553, 554, 555, 556, 557] (by decide +kernel) (by decide +kernel)
set_option maxRecDepth 20000 in
theorem gL_law_X2_need : GoodIn wsL_law (wsV RL 147 RX2 yX2_need wsX2_need) := goodIn_app (goodIn_of _ (by decide +kernel)) ggL_law_X2_need
set_option maxRecDepth 20000 in
theorem ggL_law_X1_peak : GoodIn wsL_law wsX1_peak := goodIn_r _ [429, 16, 32, 33, 34, 35, 430, 431, 432, 2, 433, 401, 402, 403, 404, 19, 405, 102, 406, 407, 408, 409, 530, 531, 532, 533, 534, 535, 536, 537, 538, 558, 559, 560, 561, 562, 563, 564, 565, 566, 567, 568, 569, 570] (by decide +kernel) (by decide +kernel)
set_option maxRecDepth 20000 in
theorem gL_law_X1_peak : GoodIn wsL_law (wsV RL 148 RX1 yX1_peak wsX1_peak) := goodIn_app (goodIn_of _ (by decide +kernel)) ggL_law_X1_peak
set_option maxRecDepth 20000 in
theorem ggL_law_X2_peak : GoodIn wsL_law wsX2_peak := goodIn_r _ [437, 134, 438, 439, 440, 5, 441, 414, 415, 416, 417, 47, 349, 350, 351, 352, 55, 48, 44, 56, 51, 57, 45, 353, 354, 355, 356, 49, 220, 221, 222, 223, 42, 43, 357, 358, 359, 360, 52, 54, 192, 193, 194, 195, 196, 197, 175, 176, 177, 178, 40, 135, 136, 137, 138, 139, 140, 418, 419, 420, 421, 50, 422, 423, 424, 425, 539, 540, 541, 542, 543, 544, 545, 546, 547, 548, 549, 550, 551, 552, 553, 554, 555, 556, 557] (by decide +kernel) (by decide +kernel)
set_option maxRecDepth 20000 in
theorem gL_law_X2_peak : GoodIn wsL_law (wsV RL 151 RX2 yX2_peak wsX2_peak) := goodIn_app (goodIn_of _ (by decide +kernel)) ggL_law_X2_peak
set_option maxRecDepth 20000 in
theorem ggL_law_X1_peakByOverlaps : GoodIn wsL_law wsX1_peakByOverlaps := goodIn_r _ [445, 19, 32, 33, 34, 35, 401, 402, 403, 2, 404, 405, 102, 406, 407, 408, 409, 530, 531, 532, 533, 534, 535, 536, 537, 538, 558, 559, 560, 561, 562, 563, 564, 565, 566, 567, 568, 569, 570] (by decide +kernel) (by decide +kernel)
set_option maxRecDepth 20000 in
theorem gL_law_X1_peakByOverlaps : GoodIn wsL_law (wsV RL 152 RX1 yX1_peakByOverlaps wsX1_peakByOverlaps) := goodIn_app (goodIn_of _ (by decide +kernel)) ggL_law_X1_peakByOverlaps
set_option maxRecDepth 20000 in
theorem ggL_law_X2_peakByOverlaps : GoodIn wsL_law wsX2_peakByOverlaps := goodIn_r _ [449, 134, 438, 439, 440, 5, 441, 414, 415, 416, 417, 47, 349, 350, 351, 352, 55, 48, 44, 56, 51, 57, 45, 353, 354, 355, 356, 49, 220, 221, 222, 223, 42, 43, 357, 358, 359, 360, 52, 54, 192, 193, 194, 195, 196, 197, 175, 176, 177, 178, 40, 135, 136, 137, 138, 139, 140, 418, 419, 420, 421, 50, 422, 423, 424, 425, 539, 540, 541, 542, 543, 544, 545, 546, 547, 548, 549, 550, 551, 552, 553, 554, 555, 556, 557] (by decide +kernel) (by decide +kernel)
set_option maxRecDepth 20000 in
theorem gL_law_X2_peakByOverlaps : GoodIn wsL_law (wsV RL 155 RX2 yX2_peakByOverlaps wsX2_peakByOverlaps) := goodIn_app (goodIn_of _ (by decide +kernel)) ggL_law_X2_peakByOverlaps
set_option maxRecDepth 20000 in
theorem ggL_law_X1_firstShort : GoodIn wsL_law wsX1_firstShort := goodIn_r _ [453, 16, 20, 430, 431, 432, 2, 433, 401, 402, 403, 404, 19, 405, 102, 406, 407, 408, 409, 530, 531, 532, 533, 534, 535, 536, 537, 538, 558, 559, 560, 561, 562, 563, 564, 565, 566, 567, 568, 569, 570] (by decide +kernel) (by decide +kernel)
set_option maxRecDepth 20000 in
theorem gL_law_X1_firstShort : GoodIn wsL_law (wsV RL 156 RX1 yX1_firstShort wsX1_firstShort) := goodIn_app (goodIn_of _ (by decide +kernel)) ggL_law_X1_firstShort
set_option maxRecDepth 20000 in
theorem ggL_law_X2_firstShort : GoodIn wsL_law wsX2_firstShort := goodIn_r _ [457, 134, 41, 414, 415, 416, 5, 417, 47, 349, 350, 351, 352, 55, 48, 44, 56, 51, 57, 45, 353, 354, 355, 356, 49, 220, 221, 222, 223, 42, 43, 357, 358, 359, 360, 52, 54, 192, 193, 194, 195, 196, 197, 175, 176, 177, 178, 40, 135, 136, 137, 138, 139, 140, 418, 419, 420, 421, 50, 422, 423, 424, 425, 539, 540, 541, 542, 543, 544, 545, 546, 547, 548, 549, 550, 551, 552, 553, 554, 555, 556, 557] (by decide +kernel) (by decide +kernel)
set_option maxRecDepth 20000 in
theorem gL_law_X2_firstShort : GoodIn wsL_law (wsV RL 159 RX2 yX2_firstShort wsX2_firstShort) := goodIn_app (goodIn_of _ (by decide +kernel)) ggL_law_X2_firstShort
set_option maxRecDepth 20000 in
theorem ggL_law_L_earliest : GoodIn wsL_law wsL_earliest := goodIn_ca (goodIn_r _ [460, 64, 461, 462, 463, 2, 464, 17, 246, 247, 248, 82, 83, 84, 77, 78, 79, 80, 81, 430, 431, 432, 433, 16, 401, 402, 403, 404, 19, 405, 102, 406, 407, 408, 409, 465, 466, 467, 468, 20, 93, 94, 95, 96, 21, 97, 98, 99, 100, 122, 123, 124, 125, 22, 32, 33, 34, 35, 107, 108, 109, 110, 111, 112, 113, 114, 115, 116, 117, 15, 118, 119, 120, 121, 126, 127, 128, 129, 23, 74, 75, 76, 530, 531, 532, 533, 534, 535, 536, 537, 538, 558, 559, 560, 561, 562, 563, 564, 565, 566, 567, 568, 569, 570] (by decide +kernel) (by decide +kernel)) (goodIn_sub (fun _ h => List.mem_append_left _ (List.mem_append_left _ (List.mem_append_right _ h))) (by decide +kernel))
set_option maxRecDepth 20000 in
theorem gL_law_L_earliest : GoodIn wsL_law (va_wsS RL 160 yL_earliest wsL_earliest) := goodIn_app (goodIn_of _ (by decide +kernel)) ggL_law_L_earliest
set_option maxRecDepth 20000 in
theorem ggL_law_X2_earliest : GoodIn wsL_law wsX2_earliest := goodIn_r _ [472, 134, 272, 273, 5, 274, 138, 139, 140, 414, 415, 416, 417, 47, 349, 350, 351, 352, 55, 48, 44, 56, 51, 57, 45, 353, 354, 355, 356, 49, 220, 221, 222, 223, 42, 43, 357, 358, 359, 360, 52, 54, 192, 193, 194, 195, 196, 197, 175, 176, 177, 178, 40, 135, 136, 137, 275, 276, 277, 278, 50, 473, 474, 475, 476, 41, 418, 419, 420, 421, 422, 423, 424, 425, 539, 540, 541, 542, 543, 544, 545, 546, 547, 548, 549, 550, 551, 552, 553, 554, 555, 556, 557] (by decide +kernel) (by decide +kernel)
set_option maxRecDepth 20000 in
theorem gL_law_X2_earliest : GoodIn wsL_law (wsV RL 162 RX2 yX2_earliest wsX2_earliest) := goodIn_app (goodIn_of _ (by decide +kernel)) ggL_law_X2_earliest
set_option maxRecDepth 20000 in
theorem ggL_law_L_panelsOf : GoodIn wsL_law wsL_panelsOf := goodIn_ca (goodIn_r _ [479, 282, 480, 481, 482, 2, 483, 287, 288, 289, 290, 291, 292, 19, 253, 254, 255, 484, 485, 486, 487, 488, 489, 490, 491, 492, 493, 494, 495, 405, 102, 406, 407, 408, 409, 496, 497, 498, 499, 20, 500, 501, 502, 503, 504, 505, 506, 558, 559, 560, 561, 562, 563, 564, 565, 566, 567, 568, 569, 570, 530, 531, 532, 533, 534, 535, 536, 537, 538] (by decide +kernel) (by decide +kernel)) (goodIn_sub (fun _ h => List.mem_append_right _ h) (by decide +kernel))
set_option maxRecDepth 20000 in
theorem gL_law_L_panelsOf : GoodIn wsL_law (va_wsS RL 163 yL_panelsOf wsL_panelsOf) := goodIn_app (goodIn_of _ (by decide +kernel)) ggL_law_L_panelsOf
set_option maxRecDepth 20000 in
theorem ggL_law_X2_panelsOf : GoodIn wsL_law wsX2_panelsOf := goodIn_r _ [510, 134, 58, 297, 298, 299, 5, 300, 47, 138, 139, 140, 511, 512, 513, 514, 55, 50, 41, 414, 415, 416, 417, 349, 350, 351, 352, 48, 44, 56, 51, 57, 45, 353, 354, 355, 356, 49, 220, 221, 222, 223, 42, 43, 357, 358, 359, 360, 52, 54, 192, 193, 194, 195, 196, 197, 175, 176, 177, 178, 40, 135, 136, 137, 515, 516, 517, 518, 422, 423, 424, 425, 539, 540, 541, 542, 543, 544, 545, 546, 547, 548, 549, 550, 551, 552, 553, 554, 555, 556, 557] (by decide +kernel) (by decide +kernel)
set_option maxRecDepth 20000 in
theorem gL_law_X2_panelsOf : GoodIn wsL_law (wsV RL 165 RX2 yX2_panelsOf wsX2_panelsOf) := goodIn_app (goodIn_of _ (by decide +kernel)) ggL_law_X2_panelsOf
set_option maxRecDepth 20000 in
theorem ggL_law_L_pourOf : GoodIn wsL_law wsL_pourOf := goodIn_ca (goodIn_r _ [521, 63, 522, 523, 524, 2, 525, 72, 73, 20, 19, 69, 70, 71, 74, 75, 76, 484, 485, 486, 487, 488, 489, 490, 491, 492, 493, 494, 495, 405, 102, 406, 407, 408, 409, 496, 497, 498, 499, 530, 531, 532, 533, 534, 535, 536, 537, 538, 558, 559, 560, 561, 562, 563, 564, 565, 566, 567, 568, 569, 570] (by decide +kernel) (by decide +kernel)) (goodIn_sub (fun _ h => List.mem_append_left _ (List.mem_append_left _ (List.mem_append_left _ (List.mem_append_right _ h)))) (by decide +kernel))
set_option maxRecDepth 20000 in
theorem gL_law_L_pourOf : GoodIn wsL_law (va_wsS RL 166 yL_pourOf wsL_pourOf) := goodIn_app (goodIn_of _ (by decide +kernel)) ggL_law_L_pourOf
set_option maxRecDepth 20000 in
theorem ggL_law_X2_pourOf : GoodIn wsL_law wsX2_pourOf := goodIn_r _ [529, 41, 134, 58, 138, 139, 5, 140, 135, 136, 137, 511, 512, 513, 514, 47, 55, 50, 414, 415, 416, 417, 349, 350, 351, 352, 48, 44, 56, 51, 57, 45, 353, 354, 355, 356, 49, 220, 221, 222, 223, 42, 43, 357, 358, 359, 360, 52, 54, 192, 193, 194, 195, 196, 197, 175, 176, 177, 178, 40, 515, 516, 517, 518, 422, 423, 424, 425, 539, 540, 541, 542, 543, 544, 545, 546, 547, 548, 549, 550, 551, 552, 553, 554, 555, 556, 557] (by decide +kernel) (by decide +kernel)
set_option maxRecDepth 20000 in
theorem gL_law_X2_pourOf : GoodIn wsL_law (wsV RL 168 RX2 yX2_pourOf wsX2_pourOf) := goodIn_app (goodIn_of _ (by decide +kernel)) ggL_law_X2_pourOf
theorem dL_law_0 : decode cL_law 0 = .ok (.new 8, 3) := by decide +kernel
theorem dL_law_3 : decode cL_law 3 = .ok (.dup, 1) := by decide +kernel
theorem dL_law_4 : decode cL_law 4 = .ok (.invokespecial 80, 3) := by decide +kernel
theorem dL_law_7 : decode cL_law 7 = .ok (.astore_n 1, 1) := by decide +kernel
theorem dL_law_8 : decode cL_law 8 = .ok (.new 81, 3) := by decide +kernel
theorem dL_law_11 : decode cL_law 11 = .ok (.dup, 1) := by decide +kernel
theorem dL_law_12 : decode cL_law 12 = .ok (.invokespecial 83, 3) := by decide +kernel
theorem dL_law_15 : decode cL_law 15 = .ok (.astore_n 2, 1) := by decide +kernel
theorem dL_law_16 : decode cL_law 16 = .ok (.iconst 1, 1) := by decide +kernel
theorem dL_law_17 : decode cL_law 17 = .ok (.newarray .long, 2) := by decide +kernel
theorem dL_law_19 : decode cL_law 19 = .ok (.astore_n 3, 1) := by decide +kernel
theorem dL_law_20 : decode cL_law 20 = .ok (.iconst 0, 1) := by decide +kernel
theorem dL_law_21 : decode cL_law 21 = .ok (.istore 4, 2) := by decide +kernel
theorem dL_law_23 : decode cL_law 23 = .ok (.iload 4, 2) := by decide +kernel
theorem dL_law_25 : decode cL_law 25 = .ok (.aload_n 0, 1) := by decide +kernel
theorem dL_law_26 : decode cL_law 26 = .ok (.arraylength, 1) := by decide +kernel
theorem dL_law_27 : decode cL_law 27 = .ok (.iconst 5, 1) := by decide +kernel
theorem dL_law_28 : decode cL_law 28 = .ok (.isub, 1) := by decide +kernel
theorem dL_law_29 : decode cL_law 29 = .ok (.if_icmp .gt 1377, 3) := by decide +kernel
theorem dL_law_32 : decode cL_law 32 = .ok (.aload_n 0, 1) := by decide +kernel
theorem dL_law_33 : decode cL_law 33 = .ok (.iload 4, 2) := by decide +kernel
theorem dL_law_35 : decode cL_law 35 = .ok (.iaload, 1) := by decide +kernel
theorem dL_law_36 : decode cL_law 36 = .ok (.bipush 31, 2) := by decide +kernel
theorem dL_law_38 : decode cL_law 38 = .ok (.iand, 1) := by decide +kernel
theorem dL_law_39 : decode cL_law 39 = .ok (.tableswitch 1361 0 22 #[105, 165, 221, 289, 345, 401, 469, 517, 609, 677, 733, 813, 826, 882, 938, 994, 1050, 1106, 1119, 1132, 1145, 1237, 1293], 105) := by decide +kernel
theorem dL_law_144 : decode cL_law 144 = .ok (.aload_n 1, 1) := by decide +kernel
theorem dL_law_145 : decode cL_law 145 = .ok (.aload_n 0, 1) := by decide +kernel
theorem dL_law_146 : decode cL_law 146 = .ok (.iload 4, 2) := by decide +kernel
theorem dL_law_148 : decode cL_law 148 = .ok (.iconst 1, 1) := by decide +kernel
theorem dL_law_149 : decode cL_law 149 = .ok (.iadd, 1) := by decide +kernel
theorem dL_law_150 : decode cL_law 150 = .ok (.iaload, 1) := by decide +kernel
theorem dL_law_151 : decode cL_law 151 = .ok (.aload_n 0, 1) := by decide +kernel
theorem dL_law_152 : decode cL_law 152 = .ok (.iload 4, 2) := by decide +kernel
theorem dL_law_154 : decode cL_law 154 = .ok (.iconst 2, 1) := by decide +kernel
theorem dL_law_155 : decode cL_law 155 = .ok (.iadd, 1) := by decide +kernel
theorem dL_law_156 : decode cL_law 156 = .ok (.iaload, 1) := by decide +kernel
theorem dL_law_157 : decode cL_law 157 = .ok (.aload_n 0, 1) := by decide +kernel
theorem dL_law_158 : decode cL_law 158 = .ok (.iload 4, 2) := by decide +kernel
theorem dL_law_160 : decode cL_law 160 = .ok (.iconst 3, 1) := by decide +kernel
theorem dL_law_161 : decode cL_law 161 = .ok (.iadd, 1) := by decide +kernel
theorem dL_law_162 : decode cL_law 162 = .ok (.iaload, 1) := by decide +kernel
theorem dL_law_163 : decode cL_law 163 = .ok (.invokestatic 84, 3) := by decide +kernel
theorem dL_law_166 : decode cL_law 166 = .ok (.istore 5, 2) := by decide +kernel
theorem dL_law_168 : decode cL_law 168 = .ok (.aload_n 2, 1) := by decide +kernel
theorem dL_law_169 : decode cL_law 169 = .ok (.aload_n 0, 1) := by decide +kernel
theorem dL_law_170 : decode cL_law 170 = .ok (.iload 4, 2) := by decide +kernel
theorem dL_law_172 : decode cL_law 172 = .ok (.iconst 1, 1) := by decide +kernel
theorem dL_law_173 : decode cL_law 173 = .ok (.iadd, 1) := by decide +kernel
theorem dL_law_174 : decode cL_law 174 = .ok (.iaload, 1) := by decide +kernel
theorem dL_law_175 : decode cL_law 175 = .ok (.aload_n 0, 1) := by decide +kernel
theorem dL_law_176 : decode cL_law 176 = .ok (.iload 4, 2) := by decide +kernel
theorem dL_law_178 : decode cL_law 178 = .ok (.iconst 2, 1) := by decide +kernel
theorem dL_law_179 : decode cL_law 179 = .ok (.iadd, 1) := by decide +kernel
theorem dL_law_180 : decode cL_law 180 = .ok (.iaload, 1) := by decide +kernel
theorem dL_law_181 : decode cL_law 181 = .ok (.aload_n 0, 1) := by decide +kernel
theorem dL_law_182 : decode cL_law 182 = .ok (.iload 4, 2) := by decide +kernel
theorem dL_law_184 : decode cL_law 184 = .ok (.iconst 3, 1) := by decide +kernel
theorem dL_law_185 : decode cL_law 185 = .ok (.iadd, 1) := by decide +kernel
theorem dL_law_186 : decode cL_law 186 = .ok (.iaload, 1) := by decide +kernel
theorem dL_law_187 : decode cL_law 187 = .ok (.invokevirtual 89, 3) := by decide +kernel
theorem dL_law_190 : decode cL_law 190 = .ok (.aload_n 2, 1) := by decide +kernel
theorem dL_law_191 : decode cL_law 191 = .ok (.invokevirtual 90, 3) := by decide +kernel
theorem dL_law_194 : decode cL_law 194 = .ok (.iload 5, 2) := by decide +kernel
theorem dL_law_196 : decode cL_law 196 = .ok (.if_icmp .eq 5, 3) := by decide +kernel
theorem dL_law_199 : decode cL_law 199 = .ok (.iconst 0, 1) := by decide +kernel
theorem dL_law_200 : decode cL_law 200 = .ok (.ireturn, 1) := by decide +kernel
theorem dL_law_201 : decode cL_law 201 = .ok (.goto 1199, 3) := by decide +kernel
theorem dL_law_204 : decode cL_law 204 = .ok (.aload_n 1, 1) := by decide +kernel
theorem dL_law_205 : decode cL_law 205 = .ok (.aload_n 0, 1) := by decide +kernel
theorem dL_law_206 : decode cL_law 206 = .ok (.iload 4, 2) := by decide +kernel
theorem dL_law_208 : decode cL_law 208 = .ok (.iconst 1, 1) := by decide +kernel
theorem dL_law_209 : decode cL_law 209 = .ok (.iadd, 1) := by decide +kernel
theorem dL_law_210 : decode cL_law 210 = .ok (.iaload, 1) := by decide +kernel
theorem dL_law_211 : decode cL_law 211 = .ok (.aload_n 3, 1) := by decide +kernel
theorem dL_law_212 : decode cL_law 212 = .ok (.invokestatic 94, 3) := by decide +kernel
theorem dL_law_215 : decode cL_law 215 = .ok (.istore 5, 2) := by decide +kernel
theorem dL_law_217 : decode cL_law 217 = .ok (.aload_n 2, 1) := by decide +kernel
theorem dL_law_218 : decode cL_law 218 = .ok (.aload_n 0, 1) := by decide +kernel
theorem dL_law_219 : decode cL_law 219 = .ok (.iload 4, 2) := by decide +kernel
theorem dL_law_221 : decode cL_law 221 = .ok (.iconst 1, 1) := by decide +kernel
theorem dL_law_222 : decode cL_law 222 = .ok (.iadd, 1) := by decide +kernel
theorem dL_law_223 : decode cL_law 223 = .ok (.iaload, 1) := by decide +kernel
theorem dL_law_224 : decode cL_law 224 = .ok (.invokevirtual 97, 3) := by decide +kernel
theorem dL_law_227 : decode cL_law 227 = .ok (.istore 6, 2) := by decide +kernel
theorem dL_law_229 : decode cL_law 229 = .ok (.aload_n 2, 1) := by decide +kernel
theorem dL_law_230 : decode cL_law 230 = .ok (.invokevirtual 90, 3) := by decide +kernel
theorem dL_law_233 : decode cL_law 233 = .ok (.iload 5, 2) := by decide +kernel
theorem dL_law_235 : decode cL_law 235 = .ok (.if_icmp .eq 5, 3) := by decide +kernel
theorem dL_law_238 : decode cL_law 238 = .ok (.iconst 0, 1) := by decide +kernel
theorem dL_law_239 : decode cL_law 239 = .ok (.ireturn, 1) := by decide +kernel
theorem dL_law_240 : decode cL_law 240 = .ok (.iload 5, 2) := by decide +kernel
theorem dL_law_242 : decode cL_law 242 = .ok (.ifCond .ne 15, 3) := by decide +kernel
theorem dL_law_245 : decode cL_law 245 = .ok (.aload_n 3, 1) := by decide +kernel
theorem dL_law_246 : decode cL_law 246 = .ok (.iconst 0, 1) := by decide +kernel
theorem dL_law_247 : decode cL_law 247 = .ok (.laload, 1) := by decide +kernel
theorem dL_law_248 : decode cL_law 248 = .ok (.iload 6, 2) := by decide +kernel
theorem dL_law_250 : decode cL_law 250 = .ok (.i2l, 1) := by decide +kernel
theorem dL_law_251 : decode cL_law 251 = .ok (.lcmp, 1) := by decide +kernel
theorem dL_law_252 : decode cL_law 252 = .ok (.ifCond .eq 5, 3) := by decide +kernel
theorem dL_law_255 : decode cL_law 255 = .ok (.iconst 0, 1) := by decide +kernel
theorem dL_law_256 : decode cL_law 256 = .ok (.ireturn, 1) := by decide +kernel
theorem dL_law_257 : decode cL_law 257 = .ok (.goto 1143, 3) := by decide +kernel
theorem dL_law_260 : decode cL_law 260 = .ok (.aload_n 1, 1) := by decide +kernel
theorem dL_law_261 : decode cL_law 261 = .ok (.aload_n 0, 1) := by decide +kernel
theorem dL_law_262 : decode cL_law 262 = .ok (.iload 4, 2) := by decide +kernel
theorem dL_law_264 : decode cL_law 264 = .ok (.iconst 1, 1) := by decide +kernel
theorem dL_law_265 : decode cL_law 265 = .ok (.iadd, 1) := by decide +kernel
theorem dL_law_266 : decode cL_law 266 = .ok (.iaload, 1) := by decide +kernel
theorem dL_law_267 : decode cL_law 267 = .ok (.aload_n 0, 1) := by decide +kernel
theorem dL_law_268 : decode cL_law 268 = .ok (.iload 4, 2) := by decide +kernel
theorem dL_law_270 : decode cL_law 270 = .ok (.iconst 2, 1) := by decide +kernel
theorem dL_law_271 : decode cL_law 271 = .ok (.iadd, 1) := by decide +kernel
theorem dL_law_272 : decode cL_law 272 = .ok (.iaload, 1) := by decide +kernel
theorem dL_law_273 : decode cL_law 273 = .ok (.aload_n 3, 1) := by decide +kernel
theorem dL_law_274 : decode cL_law 274 = .ok (.invokestatic 98, 3) := by decide +kernel
theorem dL_law_277 : decode cL_law 277 = .ok (.istore 5, 2) := by decide +kernel
theorem dL_law_279 : decode cL_law 279 = .ok (.aload_n 2, 1) := by decide +kernel
theorem dL_law_280 : decode cL_law 280 = .ok (.aload_n 0, 1) := by decide +kernel
theorem dL_law_281 : decode cL_law 281 = .ok (.iload 4, 2) := by decide +kernel
theorem dL_law_283 : decode cL_law 283 = .ok (.iconst 1, 1) := by decide +kernel
theorem dL_law_284 : decode cL_law 284 = .ok (.iadd, 1) := by decide +kernel
theorem dL_law_285 : decode cL_law 285 = .ok (.iaload, 1) := by decide +kernel
theorem dL_law_286 : decode cL_law 286 = .ok (.aload_n 0, 1) := by decide +kernel
theorem dL_law_287 : decode cL_law 287 = .ok (.iload 4, 2) := by decide +kernel
theorem dL_law_289 : decode cL_law 289 = .ok (.iconst 2, 1) := by decide +kernel
theorem dL_law_290 : decode cL_law 290 = .ok (.iadd, 1) := by decide +kernel
theorem dL_law_291 : decode cL_law 291 = .ok (.iaload, 1) := by decide +kernel
theorem dL_law_292 : decode cL_law 292 = .ok (.invokevirtual 101, 3) := by decide +kernel
theorem dL_law_295 : decode cL_law 295 = .ok (.istore 6, 2) := by decide +kernel
theorem dL_law_297 : decode cL_law 297 = .ok (.aload_n 2, 1) := by decide +kernel
theorem dL_law_298 : decode cL_law 298 = .ok (.invokevirtual 90, 3) := by decide +kernel
theorem dL_law_301 : decode cL_law 301 = .ok (.iload 5, 2) := by decide +kernel
theorem dL_law_303 : decode cL_law 303 = .ok (.if_icmp .eq 5, 3) := by decide +kernel
theorem dL_law_306 : decode cL_law 306 = .ok (.iconst 0, 1) := by decide +kernel
theorem dL_law_307 : decode cL_law 307 = .ok (.ireturn, 1) := by decide +kernel
theorem dL_law_308 : decode cL_law 308 = .ok (.iload 5, 2) := by decide +kernel
theorem dL_law_310 : decode cL_law 310 = .ok (.ifCond .ne 15, 3) := by decide +kernel
theorem dL_law_313 : decode cL_law 313 = .ok (.aload_n 3, 1) := by decide +kernel
theorem dL_law_314 : decode cL_law 314 = .ok (.iconst 0, 1) := by decide +kernel
theorem dL_law_315 : decode cL_law 315 = .ok (.laload, 1) := by decide +kernel
theorem dL_law_316 : decode cL_law 316 = .ok (.iload 6, 2) := by decide +kernel
theorem dL_law_318 : decode cL_law 318 = .ok (.i2l, 1) := by decide +kernel
theorem dL_law_319 : decode cL_law 319 = .ok (.lcmp, 1) := by decide +kernel
theorem dL_law_320 : decode cL_law 320 = .ok (.ifCond .eq 5, 3) := by decide +kernel
theorem dL_law_323 : decode cL_law 323 = .ok (.iconst 0, 1) := by decide +kernel
theorem dL_law_324 : decode cL_law 324 = .ok (.ireturn, 1) := by decide +kernel
theorem dL_law_325 : decode cL_law 325 = .ok (.goto 1075, 3) := by decide +kernel
theorem dL_law_328 : decode cL_law 328 = .ok (.aload_n 1, 1) := by decide +kernel
theorem dL_law_329 : decode cL_law 329 = .ok (.aload_n 0, 1) := by decide +kernel
theorem dL_law_330 : decode cL_law 330 = .ok (.iload 4, 2) := by decide +kernel
theorem dL_law_332 : decode cL_law 332 = .ok (.iconst 1, 1) := by decide +kernel
theorem dL_law_333 : decode cL_law 333 = .ok (.iadd, 1) := by decide +kernel
theorem dL_law_334 : decode cL_law 334 = .ok (.iaload, 1) := by decide +kernel
theorem dL_law_335 : decode cL_law 335 = .ok (.aload_n 3, 1) := by decide +kernel
theorem dL_law_336 : decode cL_law 336 = .ok (.invokestatic 102, 3) := by decide +kernel
theorem dL_law_339 : decode cL_law 339 = .ok (.istore 5, 2) := by decide +kernel
theorem dL_law_341 : decode cL_law 341 = .ok (.aload_n 2, 1) := by decide +kernel
theorem dL_law_342 : decode cL_law 342 = .ok (.aload_n 0, 1) := by decide +kernel
theorem dL_law_343 : decode cL_law 343 = .ok (.iload 4, 2) := by decide +kernel
theorem dL_law_345 : decode cL_law 345 = .ok (.iconst 1, 1) := by decide +kernel
theorem dL_law_346 : decode cL_law 346 = .ok (.iadd, 1) := by decide +kernel
theorem dL_law_347 : decode cL_law 347 = .ok (.iaload, 1) := by decide +kernel
theorem dL_law_348 : decode cL_law 348 = .ok (.invokevirtual 104, 3) := by decide +kernel
theorem dL_law_351 : decode cL_law 351 = .ok (.istore 6, 2) := by decide +kernel
theorem dL_law_353 : decode cL_law 353 = .ok (.aload_n 2, 1) := by decide +kernel
theorem dL_law_354 : decode cL_law 354 = .ok (.invokevirtual 90, 3) := by decide +kernel
theorem dL_law_357 : decode cL_law 357 = .ok (.iload 5, 2) := by decide +kernel
theorem dL_law_359 : decode cL_law 359 = .ok (.if_icmp .eq 5, 3) := by decide +kernel
theorem dL_law_362 : decode cL_law 362 = .ok (.iconst 0, 1) := by decide +kernel
theorem dL_law_363 : decode cL_law 363 = .ok (.ireturn, 1) := by decide +kernel
theorem dL_law_364 : decode cL_law 364 = .ok (.iload 5, 2) := by decide +kernel
theorem dL_law_366 : decode cL_law 366 = .ok (.ifCond .ne 15, 3) := by decide +kernel
theorem dL_law_369 : decode cL_law 369 = .ok (.aload_n 3, 1) := by decide +kernel
theorem dL_law_370 : decode cL_law 370 = .ok (.iconst 0, 1) := by decide +kernel
theorem dL_law_371 : decode cL_law 371 = .ok (.laload, 1) := by decide +kernel
theorem dL_law_372 : decode cL_law 372 = .ok (.iload 6, 2) := by decide +kernel
theorem dL_law_374 : decode cL_law 374 = .ok (.i2l, 1) := by decide +kernel
theorem dL_law_375 : decode cL_law 375 = .ok (.lcmp, 1) := by decide +kernel
theorem dL_law_376 : decode cL_law 376 = .ok (.ifCond .eq 5, 3) := by decide +kernel
theorem dL_law_379 : decode cL_law 379 = .ok (.iconst 0, 1) := by decide +kernel
theorem dL_law_380 : decode cL_law 380 = .ok (.ireturn, 1) := by decide +kernel
theorem dL_law_381 : decode cL_law 381 = .ok (.goto 1019, 3) := by decide +kernel
theorem dL_law_384 : decode cL_law 384 = .ok (.aload_n 1, 1) := by decide +kernel
theorem dL_law_385 : decode cL_law 385 = .ok (.aload_n 0, 1) := by decide +kernel
theorem dL_law_386 : decode cL_law 386 = .ok (.iload 4, 2) := by decide +kernel
theorem dL_law_388 : decode cL_law 388 = .ok (.iconst 1, 1) := by decide +kernel
theorem dL_law_389 : decode cL_law 389 = .ok (.iadd, 1) := by decide +kernel
theorem dL_law_390 : decode cL_law 390 = .ok (.iaload, 1) := by decide +kernel
theorem dL_law_391 : decode cL_law 391 = .ok (.aload_n 3, 1) := by decide +kernel
theorem dL_law_392 : decode cL_law 392 = .ok (.invokestatic 105, 3) := by decide +kernel
theorem dL_law_395 : decode cL_law 395 = .ok (.istore 5, 2) := by decide +kernel
theorem dL_law_397 : decode cL_law 397 = .ok (.aload_n 2, 1) := by decide +kernel
theorem dL_law_398 : decode cL_law 398 = .ok (.aload_n 0, 1) := by decide +kernel
theorem dL_law_399 : decode cL_law 399 = .ok (.iload 4, 2) := by decide +kernel
theorem dL_law_401 : decode cL_law 401 = .ok (.iconst 1, 1) := by decide +kernel
theorem dL_law_402 : decode cL_law 402 = .ok (.iadd, 1) := by decide +kernel
theorem dL_law_403 : decode cL_law 403 = .ok (.iaload, 1) := by decide +kernel
theorem dL_law_404 : decode cL_law 404 = .ok (.invokevirtual 107, 3) := by decide +kernel
theorem dL_law_407 : decode cL_law 407 = .ok (.istore 6, 2) := by decide +kernel
theorem dL_law_409 : decode cL_law 409 = .ok (.aload_n 2, 1) := by decide +kernel
theorem dL_law_410 : decode cL_law 410 = .ok (.invokevirtual 90, 3) := by decide +kernel
theorem dL_law_413 : decode cL_law 413 = .ok (.iload 5, 2) := by decide +kernel
theorem dL_law_415 : decode cL_law 415 = .ok (.if_icmp .eq 5, 3) := by decide +kernel
theorem dL_law_418 : decode cL_law 418 = .ok (.iconst 0, 1) := by decide +kernel
theorem dL_law_419 : decode cL_law 419 = .ok (.ireturn, 1) := by decide +kernel
theorem dL_law_420 : decode cL_law 420 = .ok (.iload 5, 2) := by decide +kernel
theorem dL_law_422 : decode cL_law 422 = .ok (.ifCond .ne 15, 3) := by decide +kernel
theorem dL_law_425 : decode cL_law 425 = .ok (.aload_n 3, 1) := by decide +kernel
theorem dL_law_426 : decode cL_law 426 = .ok (.iconst 0, 1) := by decide +kernel
theorem dL_law_427 : decode cL_law 427 = .ok (.laload, 1) := by decide +kernel
theorem dL_law_428 : decode cL_law 428 = .ok (.iload 6, 2) := by decide +kernel
theorem dL_law_430 : decode cL_law 430 = .ok (.i2l, 1) := by decide +kernel
theorem dL_law_431 : decode cL_law 431 = .ok (.lcmp, 1) := by decide +kernel
theorem dL_law_432 : decode cL_law 432 = .ok (.ifCond .eq 5, 3) := by decide +kernel
theorem dL_law_435 : decode cL_law 435 = .ok (.iconst 0, 1) := by decide +kernel
theorem dL_law_436 : decode cL_law 436 = .ok (.ireturn, 1) := by decide +kernel
theorem dL_law_437 : decode cL_law 437 = .ok (.goto 963, 3) := by decide +kernel
theorem dL_law_440 : decode cL_law 440 = .ok (.aload_n 1, 1) := by decide +kernel
theorem dL_law_441 : decode cL_law 441 = .ok (.aload_n 0, 1) := by decide +kernel
theorem dL_law_442 : decode cL_law 442 = .ok (.iload 4, 2) := by decide +kernel
theorem dL_law_444 : decode cL_law 444 = .ok (.iconst 1, 1) := by decide +kernel
theorem dL_law_445 : decode cL_law 445 = .ok (.iadd, 1) := by decide +kernel
theorem dL_law_446 : decode cL_law 446 = .ok (.iaload, 1) := by decide +kernel
theorem dL_law_447 : decode cL_law 447 = .ok (.aload_n 0, 1) := by decide +kernel
theorem dL_law_448 : decode cL_law 448 = .ok (.iload 4, 2) := by decide +kernel
theorem dL_law_450 : decode cL_law 450 = .ok (.iconst 2, 1) := by decide +kernel
theorem dL_law_451 : decode cL_law 451 = .ok (.iadd, 1) := by decide +kernel
theorem dL_law_452 : decode cL_law 452 = .ok (.iaload, 1) := by decide +kernel
theorem dL_law_453 : decode cL_law 453 = .ok (.aload_n 3, 1) := by decide +kernel
theorem dL_law_454 : decode cL_law 454 = .ok (.invokestatic 108, 3) := by decide +kernel
theorem dL_law_457 : decode cL_law 457 = .ok (.istore 5, 2) := by decide +kernel
theorem dL_law_459 : decode cL_law 459 = .ok (.aload_n 2, 1) := by decide +kernel
theorem dL_law_460 : decode cL_law 460 = .ok (.aload_n 0, 1) := by decide +kernel
theorem dL_law_461 : decode cL_law 461 = .ok (.iload 4, 2) := by decide +kernel
theorem dL_law_463 : decode cL_law 463 = .ok (.iconst 1, 1) := by decide +kernel
theorem dL_law_464 : decode cL_law 464 = .ok (.iadd, 1) := by decide +kernel
theorem dL_law_465 : decode cL_law 465 = .ok (.iaload, 1) := by decide +kernel
theorem dL_law_466 : decode cL_law 466 = .ok (.aload_n 0, 1) := by decide +kernel
theorem dL_law_467 : decode cL_law 467 = .ok (.iload 4, 2) := by decide +kernel
theorem dL_law_469 : decode cL_law 469 = .ok (.iconst 2, 1) := by decide +kernel
theorem dL_law_470 : decode cL_law 470 = .ok (.iadd, 1) := by decide +kernel
theorem dL_law_471 : decode cL_law 471 = .ok (.iaload, 1) := by decide +kernel
theorem dL_law_472 : decode cL_law 472 = .ok (.invokevirtual 110, 3) := by decide +kernel
theorem dL_law_475 : decode cL_law 475 = .ok (.istore 6, 2) := by decide +kernel
theorem dL_law_477 : decode cL_law 477 = .ok (.aload_n 2, 1) := by decide +kernel
theorem dL_law_478 : decode cL_law 478 = .ok (.invokevirtual 90, 3) := by decide +kernel
theorem dL_law_481 : decode cL_law 481 = .ok (.iload 5, 2) := by decide +kernel
theorem dL_law_483 : decode cL_law 483 = .ok (.if_icmp .eq 5, 3) := by decide +kernel
theorem dL_law_486 : decode cL_law 486 = .ok (.iconst 0, 1) := by decide +kernel
theorem dL_law_487 : decode cL_law 487 = .ok (.ireturn, 1) := by decide +kernel
theorem dL_law_488 : decode cL_law 488 = .ok (.iload 5, 2) := by decide +kernel
theorem dL_law_490 : decode cL_law 490 = .ok (.ifCond .ne 15, 3) := by decide +kernel
theorem dL_law_493 : decode cL_law 493 = .ok (.aload_n 3, 1) := by decide +kernel
theorem dL_law_494 : decode cL_law 494 = .ok (.iconst 0, 1) := by decide +kernel
theorem dL_law_495 : decode cL_law 495 = .ok (.laload, 1) := by decide +kernel
theorem dL_law_496 : decode cL_law 496 = .ok (.iload 6, 2) := by decide +kernel
theorem dL_law_498 : decode cL_law 498 = .ok (.i2l, 1) := by decide +kernel
theorem dL_law_499 : decode cL_law 499 = .ok (.lcmp, 1) := by decide +kernel
theorem dL_law_500 : decode cL_law 500 = .ok (.ifCond .eq 5, 3) := by decide +kernel
theorem dL_law_503 : decode cL_law 503 = .ok (.iconst 0, 1) := by decide +kernel
theorem dL_law_504 : decode cL_law 504 = .ok (.ireturn, 1) := by decide +kernel
theorem dL_law_505 : decode cL_law 505 = .ok (.goto 895, 3) := by decide +kernel
theorem dL_law_508 : decode cL_law 508 = .ok (.aload_n 1, 1) := by decide +kernel
theorem dL_law_509 : decode cL_law 509 = .ok (.aload_n 0, 1) := by decide +kernel
theorem dL_law_510 : decode cL_law 510 = .ok (.iload 4, 2) := by decide +kernel
theorem dL_law_512 : decode cL_law 512 = .ok (.iconst 1, 1) := by decide +kernel
theorem dL_law_513 : decode cL_law 513 = .ok (.iadd, 1) := by decide +kernel
theorem dL_law_514 : decode cL_law 514 = .ok (.iaload, 1) := by decide +kernel
theorem dL_law_515 : decode cL_law 515 = .ok (.aload_n 0, 1) := by decide +kernel
theorem dL_law_516 : decode cL_law 516 = .ok (.iload 4, 2) := by decide +kernel
theorem dL_law_518 : decode cL_law 518 = .ok (.iconst 2, 1) := by decide +kernel
theorem dL_law_519 : decode cL_law 519 = .ok (.iadd, 1) := by decide +kernel
theorem dL_law_520 : decode cL_law 520 = .ok (.iaload, 1) := by decide +kernel
theorem dL_law_521 : decode cL_law 521 = .ok (.invokestatic 111, 3) := by decide +kernel
theorem dL_law_524 : decode cL_law 524 = .ok (.istore 5, 2) := by decide +kernel
theorem dL_law_526 : decode cL_law 526 = .ok (.aload_n 2, 1) := by decide +kernel
theorem dL_law_527 : decode cL_law 527 = .ok (.aload_n 0, 1) := by decide +kernel
theorem dL_law_528 : decode cL_law 528 = .ok (.iload 4, 2) := by decide +kernel
theorem dL_law_530 : decode cL_law 530 = .ok (.iconst 1, 1) := by decide +kernel
theorem dL_law_531 : decode cL_law 531 = .ok (.iadd, 1) := by decide +kernel
theorem dL_law_532 : decode cL_law 532 = .ok (.iaload, 1) := by decide +kernel
theorem dL_law_533 : decode cL_law 533 = .ok (.aload_n 0, 1) := by decide +kernel
theorem dL_law_534 : decode cL_law 534 = .ok (.iload 4, 2) := by decide +kernel
theorem dL_law_536 : decode cL_law 536 = .ok (.iconst 2, 1) := by decide +kernel
theorem dL_law_537 : decode cL_law 537 = .ok (.iadd, 1) := by decide +kernel
theorem dL_law_538 : decode cL_law 538 = .ok (.iaload, 1) := by decide +kernel
theorem dL_law_539 : decode cL_law 539 = .ok (.invokevirtual 114, 3) := by decide +kernel
theorem dL_law_542 : decode cL_law 542 = .ok (.aload_n 2, 1) := by decide +kernel
theorem dL_law_543 : decode cL_law 543 = .ok (.invokevirtual 90, 3) := by decide +kernel
theorem dL_law_546 : decode cL_law 546 = .ok (.iload 5, 2) := by decide +kernel
theorem dL_law_548 : decode cL_law 548 = .ok (.if_icmp .eq 5, 3) := by decide +kernel
theorem dL_law_551 : decode cL_law 551 = .ok (.iconst 0, 1) := by decide +kernel
theorem dL_law_552 : decode cL_law 552 = .ok (.ireturn, 1) := by decide +kernel
theorem dL_law_553 : decode cL_law 553 = .ok (.goto 847, 3) := by decide +kernel
theorem dL_law_556 : decode cL_law 556 = .ok (.aload_n 1, 1) := by decide +kernel
theorem dL_law_557 : decode cL_law 557 = .ok (.aload_n 0, 1) := by decide +kernel
theorem dL_law_558 : decode cL_law 558 = .ok (.iload 4, 2) := by decide +kernel
theorem dL_law_560 : decode cL_law 560 = .ok (.iconst 1, 1) := by decide +kernel
theorem dL_law_561 : decode cL_law 561 = .ok (.iadd, 1) := by decide +kernel
theorem dL_law_562 : decode cL_law 562 = .ok (.iaload, 1) := by decide +kernel
theorem dL_law_563 : decode cL_law 563 = .ok (.aload_n 0, 1) := by decide +kernel
theorem dL_law_564 : decode cL_law 564 = .ok (.iload 4, 2) := by decide +kernel
theorem dL_law_566 : decode cL_law 566 = .ok (.iconst 2, 1) := by decide +kernel
theorem dL_law_567 : decode cL_law 567 = .ok (.iadd, 1) := by decide +kernel
theorem dL_law_568 : decode cL_law 568 = .ok (.iaload, 1) := by decide +kernel
theorem dL_law_569 : decode cL_law 569 = .ok (.aload_n 0, 1) := by decide +kernel
theorem dL_law_570 : decode cL_law 570 = .ok (.iload 4, 2) := by decide +kernel
theorem dL_law_572 : decode cL_law 572 = .ok (.iconst 3, 1) := by decide +kernel
theorem dL_law_573 : decode cL_law 573 = .ok (.iadd, 1) := by decide +kernel
theorem dL_law_574 : decode cL_law 574 = .ok (.iaload, 1) := by decide +kernel
theorem dL_law_575 : decode cL_law 575 = .ok (.aload_n 0, 1) := by decide +kernel
theorem dL_law_576 : decode cL_law 576 = .ok (.iload 4, 2) := by decide +kernel
theorem dL_law_578 : decode cL_law 578 = .ok (.iconst 4, 1) := by decide +kernel
theorem dL_law_579 : decode cL_law 579 = .ok (.iadd, 1) := by decide +kernel
theorem dL_law_580 : decode cL_law 580 = .ok (.iaload, 1) := by decide +kernel
theorem dL_law_581 : decode cL_law 581 = .ok (.aload_n 3, 1) := by decide +kernel
theorem dL_law_582 : decode cL_law 582 = .ok (.invokestatic 115, 3) := by decide +kernel
theorem dL_law_585 : decode cL_law 585 = .ok (.istore 5, 2) := by decide +kernel
theorem dL_law_587 : decode cL_law 587 = .ok (.aload_n 2, 1) := by decide +kernel
theorem dL_law_588 : decode cL_law 588 = .ok (.aload_n 0, 1) := by decide +kernel
theorem dL_law_589 : decode cL_law 589 = .ok (.iload 4, 2) := by decide +kernel
theorem dL_law_591 : decode cL_law 591 = .ok (.iconst 1, 1) := by decide +kernel
theorem dL_law_592 : decode cL_law 592 = .ok (.iadd, 1) := by decide +kernel
theorem dL_law_593 : decode cL_law 593 = .ok (.iaload, 1) := by decide +kernel
theorem dL_law_594 : decode cL_law 594 = .ok (.aload_n 0, 1) := by decide +kernel
theorem dL_law_595 : decode cL_law 595 = .ok (.iload 4, 2) := by decide +kernel
theorem dL_law_597 : decode cL_law 597 = .ok (.iconst 2, 1) := by decide +kernel
theorem dL_law_598 : decode cL_law 598 = .ok (.iadd, 1) := by decide +kernel
theorem dL_law_599 : decode cL_law 599 = .ok (.iaload, 1) := by decide +kernel
theorem dL_law_600 : decode cL_law 600 = .ok (.aload_n 0, 1) := by decide +kernel
theorem dL_law_601 : decode cL_law 601 = .ok (.iload 4, 2) := by decide +kernel
theorem dL_law_603 : decode cL_law 603 = .ok (.iconst 3, 1) := by decide +kernel
theorem dL_law_604 : decode cL_law 604 = .ok (.iadd, 1) := by decide +kernel
theorem dL_law_605 : decode cL_law 605 = .ok (.iaload, 1) := by decide +kernel
theorem dL_law_606 : decode cL_law 606 = .ok (.aload_n 0, 1) := by decide +kernel
theorem dL_law_607 : decode cL_law 607 = .ok (.iload 4, 2) := by decide +kernel
theorem dL_law_609 : decode cL_law 609 = .ok (.iconst 4, 1) := by decide +kernel
theorem dL_law_610 : decode cL_law 610 = .ok (.iadd, 1) := by decide +kernel
theorem dL_law_611 : decode cL_law 611 = .ok (.iaload, 1) := by decide +kernel
theorem dL_law_612 : decode cL_law 612 = .ok (.invokevirtual 118, 3) := by decide +kernel
theorem dL_law_615 : decode cL_law 615 = .ok (.istore 6, 2) := by decide +kernel
theorem dL_law_617 : decode cL_law 617 = .ok (.aload_n 2, 1) := by decide +kernel
theorem dL_law_618 : decode cL_law 618 = .ok (.invokevirtual 90, 3) := by decide +kernel
theorem dL_law_621 : decode cL_law 621 = .ok (.iload 5, 2) := by decide +kernel
theorem dL_law_623 : decode cL_law 623 = .ok (.if_icmp .eq 5, 3) := by decide +kernel
theorem dL_law_626 : decode cL_law 626 = .ok (.iconst 0, 1) := by decide +kernel
theorem dL_law_627 : decode cL_law 627 = .ok (.ireturn, 1) := by decide +kernel
theorem dL_law_628 : decode cL_law 628 = .ok (.iload 5, 2) := by decide +kernel
theorem dL_law_630 : decode cL_law 630 = .ok (.ifCond .ne 15, 3) := by decide +kernel
theorem dL_law_633 : decode cL_law 633 = .ok (.aload_n 3, 1) := by decide +kernel
theorem dL_law_634 : decode cL_law 634 = .ok (.iconst 0, 1) := by decide +kernel
theorem dL_law_635 : decode cL_law 635 = .ok (.laload, 1) := by decide +kernel
theorem dL_law_636 : decode cL_law 636 = .ok (.iload 6, 2) := by decide +kernel
theorem dL_law_638 : decode cL_law 638 = .ok (.i2l, 1) := by decide +kernel
theorem dL_law_639 : decode cL_law 639 = .ok (.lcmp, 1) := by decide +kernel
theorem dL_law_640 : decode cL_law 640 = .ok (.ifCond .eq 5, 3) := by decide +kernel
theorem dL_law_643 : decode cL_law 643 = .ok (.iconst 0, 1) := by decide +kernel
theorem dL_law_644 : decode cL_law 644 = .ok (.ireturn, 1) := by decide +kernel
theorem dL_law_645 : decode cL_law 645 = .ok (.goto 755, 3) := by decide +kernel
theorem dL_law_648 : decode cL_law 648 = .ok (.aload_n 1, 1) := by decide +kernel
theorem dL_law_649 : decode cL_law 649 = .ok (.aload_n 0, 1) := by decide +kernel
theorem dL_law_650 : decode cL_law 650 = .ok (.iload 4, 2) := by decide +kernel
theorem dL_law_652 : decode cL_law 652 = .ok (.iconst 1, 1) := by decide +kernel
theorem dL_law_653 : decode cL_law 653 = .ok (.iadd, 1) := by decide +kernel
theorem dL_law_654 : decode cL_law 654 = .ok (.iaload, 1) := by decide +kernel
theorem dL_law_655 : decode cL_law 655 = .ok (.aload_n 0, 1) := by decide +kernel
theorem dL_law_656 : decode cL_law 656 = .ok (.iload 4, 2) := by decide +kernel
theorem dL_law_658 : decode cL_law 658 = .ok (.iconst 2, 1) := by decide +kernel
theorem dL_law_659 : decode cL_law 659 = .ok (.iadd, 1) := by decide +kernel
theorem dL_law_660 : decode cL_law 660 = .ok (.iaload, 1) := by decide +kernel
theorem dL_law_661 : decode cL_law 661 = .ok (.aload_n 3, 1) := by decide +kernel
theorem dL_law_662 : decode cL_law 662 = .ok (.invokestatic 119, 3) := by decide +kernel
theorem dL_law_665 : decode cL_law 665 = .ok (.istore 5, 2) := by decide +kernel
theorem dL_law_667 : decode cL_law 667 = .ok (.aload_n 2, 1) := by decide +kernel
theorem dL_law_668 : decode cL_law 668 = .ok (.aload_n 0, 1) := by decide +kernel
theorem dL_law_669 : decode cL_law 669 = .ok (.iload 4, 2) := by decide +kernel
theorem dL_law_671 : decode cL_law 671 = .ok (.iconst 1, 1) := by decide +kernel
theorem dL_law_672 : decode cL_law 672 = .ok (.iadd, 1) := by decide +kernel
theorem dL_law_673 : decode cL_law 673 = .ok (.iaload, 1) := by decide +kernel
theorem dL_law_674 : decode cL_law 674 = .ok (.aload_n 0, 1) := by decide +kernel
theorem dL_law_675 : decode cL_law 675 = .ok (.iload 4, 2) := by decide +kernel
theorem dL_law_677 : decode cL_law 677 = .ok (.iconst 2, 1) := by decide +kernel
theorem dL_law_678 : decode cL_law 678 = .ok (.iadd, 1) := by decide +kernel
theorem dL_law_679 : decode cL_law 679 = .ok (.iaload, 1) := by decide +kernel
theorem dL_law_680 : decode cL_law 680 = .ok (.invokevirtual 121, 3) := by decide +kernel
theorem dL_law_683 : decode cL_law 683 = .ok (.istore 6, 2) := by decide +kernel
theorem dL_law_685 : decode cL_law 685 = .ok (.aload_n 2, 1) := by decide +kernel
theorem dL_law_686 : decode cL_law 686 = .ok (.invokevirtual 90, 3) := by decide +kernel
theorem dL_law_689 : decode cL_law 689 = .ok (.iload 5, 2) := by decide +kernel
theorem dL_law_691 : decode cL_law 691 = .ok (.if_icmp .eq 5, 3) := by decide +kernel
theorem dL_law_694 : decode cL_law 694 = .ok (.iconst 0, 1) := by decide +kernel
theorem dL_law_695 : decode cL_law 695 = .ok (.ireturn, 1) := by decide +kernel
theorem dL_law_696 : decode cL_law 696 = .ok (.iload 5, 2) := by decide +kernel
theorem dL_law_698 : decode cL_law 698 = .ok (.ifCond .ne 15, 3) := by decide +kernel
theorem dL_law_701 : decode cL_law 701 = .ok (.aload_n 3, 1) := by decide +kernel
theorem dL_law_702 : decode cL_law 702 = .ok (.iconst 0, 1) := by decide +kernel
theorem dL_law_703 : decode cL_law 703 = .ok (.laload, 1) := by decide +kernel
theorem dL_law_704 : decode cL_law 704 = .ok (.iload 6, 2) := by decide +kernel
theorem dL_law_706 : decode cL_law 706 = .ok (.i2l, 1) := by decide +kernel
theorem dL_law_707 : decode cL_law 707 = .ok (.lcmp, 1) := by decide +kernel
theorem dL_law_708 : decode cL_law 708 = .ok (.ifCond .eq 5, 3) := by decide +kernel
theorem dL_law_711 : decode cL_law 711 = .ok (.iconst 0, 1) := by decide +kernel
theorem dL_law_712 : decode cL_law 712 = .ok (.ireturn, 1) := by decide +kernel
theorem dL_law_713 : decode cL_law 713 = .ok (.goto 687, 3) := by decide +kernel
theorem dL_law_716 : decode cL_law 716 = .ok (.aload_n 1, 1) := by decide +kernel
theorem dL_law_717 : decode cL_law 717 = .ok (.aload_n 0, 1) := by decide +kernel
theorem dL_law_718 : decode cL_law 718 = .ok (.iload 4, 2) := by decide +kernel
theorem dL_law_720 : decode cL_law 720 = .ok (.iconst 1, 1) := by decide +kernel
theorem dL_law_721 : decode cL_law 721 = .ok (.iadd, 1) := by decide +kernel
theorem dL_law_722 : decode cL_law 722 = .ok (.iaload, 1) := by decide +kernel
theorem dL_law_723 : decode cL_law 723 = .ok (.aload_n 3, 1) := by decide +kernel
theorem dL_law_724 : decode cL_law 724 = .ok (.invokestatic 122, 3) := by decide +kernel
theorem dL_law_727 : decode cL_law 727 = .ok (.istore 5, 2) := by decide +kernel
theorem dL_law_729 : decode cL_law 729 = .ok (.aload_n 2, 1) := by decide +kernel
theorem dL_law_730 : decode cL_law 730 = .ok (.aload_n 0, 1) := by decide +kernel
theorem dL_law_731 : decode cL_law 731 = .ok (.iload 4, 2) := by decide +kernel
theorem dL_law_733 : decode cL_law 733 = .ok (.iconst 1, 1) := by decide +kernel
theorem dL_law_734 : decode cL_law 734 = .ok (.iadd, 1) := by decide +kernel
theorem dL_law_735 : decode cL_law 735 = .ok (.iaload, 1) := by decide +kernel
theorem dL_law_736 : decode cL_law 736 = .ok (.invokevirtual 124, 3) := by decide +kernel
theorem dL_law_739 : decode cL_law 739 = .ok (.istore 6, 2) := by decide +kernel
theorem dL_law_741 : decode cL_law 741 = .ok (.aload_n 2, 1) := by decide +kernel
theorem dL_law_742 : decode cL_law 742 = .ok (.invokevirtual 90, 3) := by decide +kernel
theorem dL_law_745 : decode cL_law 745 = .ok (.iload 5, 2) := by decide +kernel
theorem dL_law_747 : decode cL_law 747 = .ok (.if_icmp .eq 5, 3) := by decide +kernel
theorem dL_law_750 : decode cL_law 750 = .ok (.iconst 0, 1) := by decide +kernel
theorem dL_law_751 : decode cL_law 751 = .ok (.ireturn, 1) := by decide +kernel
theorem dL_law_752 : decode cL_law 752 = .ok (.iload 5, 2) := by decide +kernel
theorem dL_law_754 : decode cL_law 754 = .ok (.ifCond .ne 15, 3) := by decide +kernel
theorem dL_law_757 : decode cL_law 757 = .ok (.aload_n 3, 1) := by decide +kernel
theorem dL_law_758 : decode cL_law 758 = .ok (.iconst 0, 1) := by decide +kernel
theorem dL_law_759 : decode cL_law 759 = .ok (.laload, 1) := by decide +kernel
theorem dL_law_760 : decode cL_law 760 = .ok (.iload 6, 2) := by decide +kernel
theorem dL_law_762 : decode cL_law 762 = .ok (.i2l, 1) := by decide +kernel
theorem dL_law_763 : decode cL_law 763 = .ok (.lcmp, 1) := by decide +kernel
theorem dL_law_764 : decode cL_law 764 = .ok (.ifCond .eq 5, 3) := by decide +kernel
theorem dL_law_767 : decode cL_law 767 = .ok (.iconst 0, 1) := by decide +kernel
theorem dL_law_768 : decode cL_law 768 = .ok (.ireturn, 1) := by decide +kernel
theorem dL_law_769 : decode cL_law 769 = .ok (.goto 631, 3) := by decide +kernel
theorem dL_law_772 : decode cL_law 772 = .ok (.aload_n 1, 1) := by decide +kernel
theorem dL_law_773 : decode cL_law 773 = .ok (.aload_n 0, 1) := by decide +kernel
theorem dL_law_774 : decode cL_law 774 = .ok (.iload 4, 2) := by decide +kernel
theorem dL_law_776 : decode cL_law 776 = .ok (.iconst 1, 1) := by decide +kernel
theorem dL_law_777 : decode cL_law 777 = .ok (.iadd, 1) := by decide +kernel
theorem dL_law_778 : decode cL_law 778 = .ok (.iaload, 1) := by decide +kernel
theorem dL_law_779 : decode cL_law 779 = .ok (.aload_n 0, 1) := by decide +kernel
theorem dL_law_780 : decode cL_law 780 = .ok (.iload 4, 2) := by decide +kernel
theorem dL_law_782 : decode cL_law 782 = .ok (.iconst 2, 1) := by decide +kernel
theorem dL_law_783 : decode cL_law 783 = .ok (.iadd, 1) := by decide +kernel
theorem dL_law_784 : decode cL_law 784 = .ok (.iaload, 1) := by decide +kernel
theorem dL_law_785 : decode cL_law 785 = .ok (.aload_n 0, 1) := by decide +kernel
theorem dL_law_786 : decode cL_law 786 = .ok (.iload 4, 2) := by decide +kernel
theorem dL_law_788 : decode cL_law 788 = .ok (.iconst 3, 1) := by decide +kernel
theorem dL_law_789 : decode cL_law 789 = .ok (.iadd, 1) := by decide +kernel
theorem dL_law_790 : decode cL_law 790 = .ok (.iaload, 1) := by decide +kernel
theorem dL_law_791 : decode cL_law 791 = .ok (.aload_n 3, 1) := by decide +kernel
theorem dL_law_792 : decode cL_law 792 = .ok (.invokestatic 125, 3) := by decide +kernel
theorem dL_law_795 : decode cL_law 795 = .ok (.istore 5, 2) := by decide +kernel
theorem dL_law_797 : decode cL_law 797 = .ok (.aload_n 2, 1) := by decide +kernel
theorem dL_law_798 : decode cL_law 798 = .ok (.aload_n 0, 1) := by decide +kernel
theorem dL_law_799 : decode cL_law 799 = .ok (.iload 4, 2) := by decide +kernel
theorem dL_law_801 : decode cL_law 801 = .ok (.iconst 1, 1) := by decide +kernel
theorem dL_law_802 : decode cL_law 802 = .ok (.iadd, 1) := by decide +kernel
theorem dL_law_803 : decode cL_law 803 = .ok (.iaload, 1) := by decide +kernel
theorem dL_law_804 : decode cL_law 804 = .ok (.aload_n 0, 1) := by decide +kernel
theorem dL_law_805 : decode cL_law 805 = .ok (.iload 4, 2) := by decide +kernel
theorem dL_law_807 : decode cL_law 807 = .ok (.iconst 2, 1) := by decide +kernel
theorem dL_law_808 : decode cL_law 808 = .ok (.iadd, 1) := by decide +kernel
theorem dL_law_809 : decode cL_law 809 = .ok (.iaload, 1) := by decide +kernel
theorem dL_law_810 : decode cL_law 810 = .ok (.aload_n 0, 1) := by decide +kernel
theorem dL_law_811 : decode cL_law 811 = .ok (.iload 4, 2) := by decide +kernel
theorem dL_law_813 : decode cL_law 813 = .ok (.iconst 3, 1) := by decide +kernel
theorem dL_law_814 : decode cL_law 814 = .ok (.iadd, 1) := by decide +kernel
theorem dL_law_815 : decode cL_law 815 = .ok (.iaload, 1) := by decide +kernel
theorem dL_law_816 : decode cL_law 816 = .ok (.invokevirtual 128, 3) := by decide +kernel
theorem dL_law_819 : decode cL_law 819 = .ok (.istore 6, 2) := by decide +kernel
theorem dL_law_821 : decode cL_law 821 = .ok (.aload_n 2, 1) := by decide +kernel
theorem dL_law_822 : decode cL_law 822 = .ok (.invokevirtual 90, 3) := by decide +kernel
theorem dL_law_825 : decode cL_law 825 = .ok (.iload 5, 2) := by decide +kernel
theorem dL_law_827 : decode cL_law 827 = .ok (.if_icmp .eq 5, 3) := by decide +kernel
theorem dL_law_830 : decode cL_law 830 = .ok (.iconst 0, 1) := by decide +kernel
theorem dL_law_831 : decode cL_law 831 = .ok (.ireturn, 1) := by decide +kernel
theorem dL_law_832 : decode cL_law 832 = .ok (.iload 5, 2) := by decide +kernel
theorem dL_law_834 : decode cL_law 834 = .ok (.ifCond .ne 15, 3) := by decide +kernel
theorem dL_law_837 : decode cL_law 837 = .ok (.aload_n 3, 1) := by decide +kernel
theorem dL_law_838 : decode cL_law 838 = .ok (.iconst 0, 1) := by decide +kernel
theorem dL_law_839 : decode cL_law 839 = .ok (.laload, 1) := by decide +kernel
theorem dL_law_840 : decode cL_law 840 = .ok (.iload 6, 2) := by decide +kernel
theorem dL_law_842 : decode cL_law 842 = .ok (.i2l, 1) := by decide +kernel
theorem dL_law_843 : decode cL_law 843 = .ok (.lcmp, 1) := by decide +kernel
theorem dL_law_844 : decode cL_law 844 = .ok (.ifCond .eq 5, 3) := by decide +kernel
theorem dL_law_847 : decode cL_law 847 = .ok (.iconst 0, 1) := by decide +kernel
theorem dL_law_848 : decode cL_law 848 = .ok (.ireturn, 1) := by decide +kernel
theorem dL_law_849 : decode cL_law 849 = .ok (.goto 551, 3) := by decide +kernel
theorem dL_law_852 : decode cL_law 852 = .ok (.aload_n 1, 1) := by decide +kernel
theorem dL_law_853 : decode cL_law 853 = .ok (.invokevirtual 129, 3) := by decide +kernel
theorem dL_law_856 : decode cL_law 856 = .ok (.aload_n 2, 1) := by decide +kernel
theorem dL_law_857 : decode cL_law 857 = .ok (.invokevirtual 132, 3) := by decide +kernel
theorem dL_law_860 : decode cL_law 860 = .ok (.if_icmp .eq 540, 3) := by decide +kernel
theorem dL_law_863 : decode cL_law 863 = .ok (.iconst 0, 1) := by decide +kernel
theorem dL_law_864 : decode cL_law 864 = .ok (.ireturn, 1) := by decide +kernel
theorem dL_law_865 : decode cL_law 865 = .ok (.aload_n 1, 1) := by decide +kernel
theorem dL_law_866 : decode cL_law 866 = .ok (.aload_n 0, 1) := by decide +kernel
theorem dL_law_867 : decode cL_law 867 = .ok (.iload 4, 2) := by decide +kernel
theorem dL_law_869 : decode cL_law 869 = .ok (.iconst 1, 1) := by decide +kernel
theorem dL_law_870 : decode cL_law 870 = .ok (.iadd, 1) := by decide +kernel
theorem dL_law_871 : decode cL_law 871 = .ok (.iaload, 1) := by decide +kernel
theorem dL_law_872 : decode cL_law 872 = .ok (.aload_n 3, 1) := by decide +kernel
theorem dL_law_873 : decode cL_law 873 = .ok (.invokestatic 133, 3) := by decide +kernel
theorem dL_law_876 : decode cL_law 876 = .ok (.istore 5, 2) := by decide +kernel
theorem dL_law_878 : decode cL_law 878 = .ok (.aload_n 2, 1) := by decide +kernel
theorem dL_law_879 : decode cL_law 879 = .ok (.aload_n 0, 1) := by decide +kernel
theorem dL_law_880 : decode cL_law 880 = .ok (.iload 4, 2) := by decide +kernel
theorem dL_law_882 : decode cL_law 882 = .ok (.iconst 1, 1) := by decide +kernel
theorem dL_law_883 : decode cL_law 883 = .ok (.iadd, 1) := by decide +kernel
theorem dL_law_884 : decode cL_law 884 = .ok (.iaload, 1) := by decide +kernel
theorem dL_law_885 : decode cL_law 885 = .ok (.invokevirtual 135, 3) := by decide +kernel
theorem dL_law_888 : decode cL_law 888 = .ok (.istore 6, 2) := by decide +kernel
theorem dL_law_890 : decode cL_law 890 = .ok (.aload_n 2, 1) := by decide +kernel
theorem dL_law_891 : decode cL_law 891 = .ok (.invokevirtual 90, 3) := by decide +kernel
theorem dL_law_894 : decode cL_law 894 = .ok (.iload 5, 2) := by decide +kernel
theorem dL_law_896 : decode cL_law 896 = .ok (.if_icmp .eq 5, 3) := by decide +kernel
theorem dL_law_899 : decode cL_law 899 = .ok (.iconst 0, 1) := by decide +kernel
theorem dL_law_900 : decode cL_law 900 = .ok (.ireturn, 1) := by decide +kernel
theorem dL_law_901 : decode cL_law 901 = .ok (.iload 5, 2) := by decide +kernel
theorem dL_law_903 : decode cL_law 903 = .ok (.ifCond .ne 15, 3) := by decide +kernel
theorem dL_law_906 : decode cL_law 906 = .ok (.aload_n 3, 1) := by decide +kernel
theorem dL_law_907 : decode cL_law 907 = .ok (.iconst 0, 1) := by decide +kernel
theorem dL_law_908 : decode cL_law 908 = .ok (.laload, 1) := by decide +kernel
theorem dL_law_909 : decode cL_law 909 = .ok (.iload 6, 2) := by decide +kernel
theorem dL_law_911 : decode cL_law 911 = .ok (.i2l, 1) := by decide +kernel
theorem dL_law_912 : decode cL_law 912 = .ok (.lcmp, 1) := by decide +kernel
theorem dL_law_913 : decode cL_law 913 = .ok (.ifCond .eq 5, 3) := by decide +kernel
theorem dL_law_916 : decode cL_law 916 = .ok (.iconst 0, 1) := by decide +kernel
theorem dL_law_917 : decode cL_law 917 = .ok (.ireturn, 1) := by decide +kernel
theorem dL_law_918 : decode cL_law 918 = .ok (.goto 482, 3) := by decide +kernel
theorem dL_law_921 : decode cL_law 921 = .ok (.aload_n 1, 1) := by decide +kernel
theorem dL_law_922 : decode cL_law 922 = .ok (.aload_n 0, 1) := by decide +kernel
theorem dL_law_923 : decode cL_law 923 = .ok (.iload 4, 2) := by decide +kernel
theorem dL_law_925 : decode cL_law 925 = .ok (.iconst 1, 1) := by decide +kernel
theorem dL_law_926 : decode cL_law 926 = .ok (.iadd, 1) := by decide +kernel
theorem dL_law_927 : decode cL_law 927 = .ok (.iaload, 1) := by decide +kernel
theorem dL_law_928 : decode cL_law 928 = .ok (.aload_n 3, 1) := by decide +kernel
theorem dL_law_929 : decode cL_law 929 = .ok (.invokestatic 136, 3) := by decide +kernel
theorem dL_law_932 : decode cL_law 932 = .ok (.istore 5, 2) := by decide +kernel
theorem dL_law_934 : decode cL_law 934 = .ok (.aload_n 2, 1) := by decide +kernel
theorem dL_law_935 : decode cL_law 935 = .ok (.aload_n 0, 1) := by decide +kernel
theorem dL_law_936 : decode cL_law 936 = .ok (.iload 4, 2) := by decide +kernel
theorem dL_law_938 : decode cL_law 938 = .ok (.iconst 1, 1) := by decide +kernel
theorem dL_law_939 : decode cL_law 939 = .ok (.iadd, 1) := by decide +kernel
theorem dL_law_940 : decode cL_law 940 = .ok (.iaload, 1) := by decide +kernel
theorem dL_law_941 : decode cL_law 941 = .ok (.invokevirtual 138, 3) := by decide +kernel
theorem dL_law_944 : decode cL_law 944 = .ok (.istore 6, 2) := by decide +kernel
theorem dL_law_946 : decode cL_law 946 = .ok (.aload_n 2, 1) := by decide +kernel
theorem dL_law_947 : decode cL_law 947 = .ok (.invokevirtual 90, 3) := by decide +kernel
theorem dL_law_950 : decode cL_law 950 = .ok (.iload 5, 2) := by decide +kernel
theorem dL_law_952 : decode cL_law 952 = .ok (.if_icmp .eq 5, 3) := by decide +kernel
theorem dL_law_955 : decode cL_law 955 = .ok (.iconst 0, 1) := by decide +kernel
theorem dL_law_956 : decode cL_law 956 = .ok (.ireturn, 1) := by decide +kernel
theorem dL_law_957 : decode cL_law 957 = .ok (.iload 5, 2) := by decide +kernel
theorem dL_law_959 : decode cL_law 959 = .ok (.ifCond .ne 15, 3) := by decide +kernel
theorem dL_law_962 : decode cL_law 962 = .ok (.aload_n 3, 1) := by decide +kernel
theorem dL_law_963 : decode cL_law 963 = .ok (.iconst 0, 1) := by decide +kernel
theorem dL_law_964 : decode cL_law 964 = .ok (.laload, 1) := by decide +kernel
theorem dL_law_965 : decode cL_law 965 = .ok (.iload 6, 2) := by decide +kernel
theorem dL_law_967 : decode cL_law 967 = .ok (.i2l, 1) := by decide +kernel
theorem dL_law_968 : decode cL_law 968 = .ok (.lcmp, 1) := by decide +kernel
theorem dL_law_969 : decode cL_law 969 = .ok (.ifCond .eq 5, 3) := by decide +kernel
theorem dL_law_972 : decode cL_law 972 = .ok (.iconst 0, 1) := by decide +kernel
theorem dL_law_973 : decode cL_law 973 = .ok (.ireturn, 1) := by decide +kernel
theorem dL_law_974 : decode cL_law 974 = .ok (.goto 426, 3) := by decide +kernel
theorem dL_law_977 : decode cL_law 977 = .ok (.aload_n 1, 1) := by decide +kernel
theorem dL_law_978 : decode cL_law 978 = .ok (.aload_n 0, 1) := by decide +kernel
theorem dL_law_979 : decode cL_law 979 = .ok (.iload 4, 2) := by decide +kernel
theorem dL_law_981 : decode cL_law 981 = .ok (.iconst 1, 1) := by decide +kernel
theorem dL_law_982 : decode cL_law 982 = .ok (.iadd, 1) := by decide +kernel
theorem dL_law_983 : decode cL_law 983 = .ok (.iaload, 1) := by decide +kernel
theorem dL_law_984 : decode cL_law 984 = .ok (.aload_n 3, 1) := by decide +kernel
theorem dL_law_985 : decode cL_law 985 = .ok (.invokestatic 139, 3) := by decide +kernel
theorem dL_law_988 : decode cL_law 988 = .ok (.istore 5, 2) := by decide +kernel
theorem dL_law_990 : decode cL_law 990 = .ok (.aload_n 2, 1) := by decide +kernel
theorem dL_law_991 : decode cL_law 991 = .ok (.aload_n 0, 1) := by decide +kernel
theorem dL_law_992 : decode cL_law 992 = .ok (.iload 4, 2) := by decide +kernel
theorem dL_law_994 : decode cL_law 994 = .ok (.iconst 1, 1) := by decide +kernel
theorem dL_law_995 : decode cL_law 995 = .ok (.iadd, 1) := by decide +kernel
theorem dL_law_996 : decode cL_law 996 = .ok (.iaload, 1) := by decide +kernel
theorem dL_law_997 : decode cL_law 997 = .ok (.invokevirtual 141, 3) := by decide +kernel
theorem dL_law_1000 : decode cL_law 1000 = .ok (.istore 6, 2) := by decide +kernel
theorem dL_law_1002 : decode cL_law 1002 = .ok (.aload_n 2, 1) := by decide +kernel
theorem dL_law_1003 : decode cL_law 1003 = .ok (.invokevirtual 90, 3) := by decide +kernel
theorem dL_law_1006 : decode cL_law 1006 = .ok (.iload 5, 2) := by decide +kernel
theorem dL_law_1008 : decode cL_law 1008 = .ok (.if_icmp .eq 5, 3) := by decide +kernel
theorem dL_law_1011 : decode cL_law 1011 = .ok (.iconst 0, 1) := by decide +kernel
theorem dL_law_1012 : decode cL_law 1012 = .ok (.ireturn, 1) := by decide +kernel
theorem dL_law_1013 : decode cL_law 1013 = .ok (.iload 5, 2) := by decide +kernel
theorem dL_law_1015 : decode cL_law 1015 = .ok (.ifCond .ne 15, 3) := by decide +kernel
theorem dL_law_1018 : decode cL_law 1018 = .ok (.aload_n 3, 1) := by decide +kernel
theorem dL_law_1019 : decode cL_law 1019 = .ok (.iconst 0, 1) := by decide +kernel
theorem dL_law_1020 : decode cL_law 1020 = .ok (.laload, 1) := by decide +kernel
theorem dL_law_1021 : decode cL_law 1021 = .ok (.iload 6, 2) := by decide +kernel
theorem dL_law_1023 : decode cL_law 1023 = .ok (.i2l, 1) := by decide +kernel
theorem dL_law_1024 : decode cL_law 1024 = .ok (.lcmp, 1) := by decide +kernel
theorem dL_law_1025 : decode cL_law 1025 = .ok (.ifCond .eq 5, 3) := by decide +kernel
theorem dL_law_1028 : decode cL_law 1028 = .ok (.iconst 0, 1) := by decide +kernel
theorem dL_law_1029 : decode cL_law 1029 = .ok (.ireturn, 1) := by decide +kernel
theorem dL_law_1030 : decode cL_law 1030 = .ok (.goto 370, 3) := by decide +kernel
theorem dL_law_1033 : decode cL_law 1033 = .ok (.aload_n 1, 1) := by decide +kernel
theorem dL_law_1034 : decode cL_law 1034 = .ok (.aload_n 0, 1) := by decide +kernel
theorem dL_law_1035 : decode cL_law 1035 = .ok (.iload 4, 2) := by decide +kernel
theorem dL_law_1037 : decode cL_law 1037 = .ok (.iconst 1, 1) := by decide +kernel
theorem dL_law_1038 : decode cL_law 1038 = .ok (.iadd, 1) := by decide +kernel
theorem dL_law_1039 : decode cL_law 1039 = .ok (.iaload, 1) := by decide +kernel
theorem dL_law_1040 : decode cL_law 1040 = .ok (.aload_n 3, 1) := by decide +kernel
theorem dL_law_1041 : decode cL_law 1041 = .ok (.invokestatic 142, 3) := by decide +kernel
theorem dL_law_1044 : decode cL_law 1044 = .ok (.istore 5, 2) := by decide +kernel
theorem dL_law_1046 : decode cL_law 1046 = .ok (.aload_n 2, 1) := by decide +kernel
theorem dL_law_1047 : decode cL_law 1047 = .ok (.aload_n 0, 1) := by decide +kernel
theorem dL_law_1048 : decode cL_law 1048 = .ok (.iload 4, 2) := by decide +kernel
theorem dL_law_1050 : decode cL_law 1050 = .ok (.iconst 1, 1) := by decide +kernel
theorem dL_law_1051 : decode cL_law 1051 = .ok (.iadd, 1) := by decide +kernel
theorem dL_law_1052 : decode cL_law 1052 = .ok (.iaload, 1) := by decide +kernel
theorem dL_law_1053 : decode cL_law 1053 = .ok (.invokevirtual 144, 3) := by decide +kernel
theorem dL_law_1056 : decode cL_law 1056 = .ok (.istore 6, 2) := by decide +kernel
theorem dL_law_1058 : decode cL_law 1058 = .ok (.aload_n 2, 1) := by decide +kernel
theorem dL_law_1059 : decode cL_law 1059 = .ok (.invokevirtual 90, 3) := by decide +kernel
theorem dL_law_1062 : decode cL_law 1062 = .ok (.iload 5, 2) := by decide +kernel
theorem dL_law_1064 : decode cL_law 1064 = .ok (.if_icmp .eq 5, 3) := by decide +kernel
theorem dL_law_1067 : decode cL_law 1067 = .ok (.iconst 0, 1) := by decide +kernel
theorem dL_law_1068 : decode cL_law 1068 = .ok (.ireturn, 1) := by decide +kernel
theorem dL_law_1069 : decode cL_law 1069 = .ok (.iload 5, 2) := by decide +kernel
theorem dL_law_1071 : decode cL_law 1071 = .ok (.ifCond .ne 15, 3) := by decide +kernel
theorem dL_law_1074 : decode cL_law 1074 = .ok (.aload_n 3, 1) := by decide +kernel
theorem dL_law_1075 : decode cL_law 1075 = .ok (.iconst 0, 1) := by decide +kernel
theorem dL_law_1076 : decode cL_law 1076 = .ok (.laload, 1) := by decide +kernel
theorem dL_law_1077 : decode cL_law 1077 = .ok (.iload 6, 2) := by decide +kernel
theorem dL_law_1079 : decode cL_law 1079 = .ok (.i2l, 1) := by decide +kernel
theorem dL_law_1080 : decode cL_law 1080 = .ok (.lcmp, 1) := by decide +kernel
theorem dL_law_1081 : decode cL_law 1081 = .ok (.ifCond .eq 5, 3) := by decide +kernel
theorem dL_law_1084 : decode cL_law 1084 = .ok (.iconst 0, 1) := by decide +kernel
theorem dL_law_1085 : decode cL_law 1085 = .ok (.ireturn, 1) := by decide +kernel
theorem dL_law_1086 : decode cL_law 1086 = .ok (.goto 314, 3) := by decide +kernel
theorem dL_law_1089 : decode cL_law 1089 = .ok (.aload_n 1, 1) := by decide +kernel
theorem dL_law_1090 : decode cL_law 1090 = .ok (.aload_n 0, 1) := by decide +kernel
theorem dL_law_1091 : decode cL_law 1091 = .ok (.iload 4, 2) := by decide +kernel
theorem dL_law_1093 : decode cL_law 1093 = .ok (.iconst 1, 1) := by decide +kernel
theorem dL_law_1094 : decode cL_law 1094 = .ok (.iadd, 1) := by decide +kernel
theorem dL_law_1095 : decode cL_law 1095 = .ok (.iaload, 1) := by decide +kernel
theorem dL_law_1096 : decode cL_law 1096 = .ok (.aload_n 3, 1) := by decide +kernel
theorem dL_law_1097 : decode cL_law 1097 = .ok (.invokestatic 145, 3) := by decide +kernel
theorem dL_law_1100 : decode cL_law 1100 = .ok (.istore 5, 2) := by decide +kernel
theorem dL_law_1102 : decode cL_law 1102 = .ok (.aload_n 2, 1) := by decide +kernel
theorem dL_law_1103 : decode cL_law 1103 = .ok (.aload_n 0, 1) := by decide +kernel
theorem dL_law_1104 : decode cL_law 1104 = .ok (.iload 4, 2) := by decide +kernel
theorem dL_law_1106 : decode cL_law 1106 = .ok (.iconst 1, 1) := by decide +kernel
theorem dL_law_1107 : decode cL_law 1107 = .ok (.iadd, 1) := by decide +kernel
theorem dL_law_1108 : decode cL_law 1108 = .ok (.iaload, 1) := by decide +kernel
theorem dL_law_1109 : decode cL_law 1109 = .ok (.invokevirtual 147, 3) := by decide +kernel
theorem dL_law_1112 : decode cL_law 1112 = .ok (.istore 6, 2) := by decide +kernel
theorem dL_law_1114 : decode cL_law 1114 = .ok (.aload_n 2, 1) := by decide +kernel
theorem dL_law_1115 : decode cL_law 1115 = .ok (.invokevirtual 90, 3) := by decide +kernel
theorem dL_law_1118 : decode cL_law 1118 = .ok (.iload 5, 2) := by decide +kernel
theorem dL_law_1120 : decode cL_law 1120 = .ok (.if_icmp .eq 5, 3) := by decide +kernel
theorem dL_law_1123 : decode cL_law 1123 = .ok (.iconst 0, 1) := by decide +kernel
theorem dL_law_1124 : decode cL_law 1124 = .ok (.ireturn, 1) := by decide +kernel
theorem dL_law_1125 : decode cL_law 1125 = .ok (.iload 5, 2) := by decide +kernel
theorem dL_law_1127 : decode cL_law 1127 = .ok (.ifCond .ne 15, 3) := by decide +kernel
theorem dL_law_1130 : decode cL_law 1130 = .ok (.aload_n 3, 1) := by decide +kernel
theorem dL_law_1131 : decode cL_law 1131 = .ok (.iconst 0, 1) := by decide +kernel
theorem dL_law_1132 : decode cL_law 1132 = .ok (.laload, 1) := by decide +kernel
theorem dL_law_1133 : decode cL_law 1133 = .ok (.iload 6, 2) := by decide +kernel
theorem dL_law_1135 : decode cL_law 1135 = .ok (.i2l, 1) := by decide +kernel
theorem dL_law_1136 : decode cL_law 1136 = .ok (.lcmp, 1) := by decide +kernel
theorem dL_law_1137 : decode cL_law 1137 = .ok (.ifCond .eq 5, 3) := by decide +kernel
theorem dL_law_1140 : decode cL_law 1140 = .ok (.iconst 0, 1) := by decide +kernel
theorem dL_law_1141 : decode cL_law 1141 = .ok (.ireturn, 1) := by decide +kernel
theorem dL_law_1142 : decode cL_law 1142 = .ok (.goto 258, 3) := by decide +kernel
theorem dL_law_1145 : decode cL_law 1145 = .ok (.aload_n 1, 1) := by decide +kernel
theorem dL_law_1146 : decode cL_law 1146 = .ok (.invokevirtual 148, 3) := by decide +kernel
theorem dL_law_1149 : decode cL_law 1149 = .ok (.aload_n 2, 1) := by decide +kernel
theorem dL_law_1150 : decode cL_law 1150 = .ok (.invokevirtual 151, 3) := by decide +kernel
theorem dL_law_1153 : decode cL_law 1153 = .ok (.if_icmp .eq 247, 3) := by decide +kernel
theorem dL_law_1156 : decode cL_law 1156 = .ok (.iconst 0, 1) := by decide +kernel
theorem dL_law_1157 : decode cL_law 1157 = .ok (.ireturn, 1) := by decide +kernel
theorem dL_law_1158 : decode cL_law 1158 = .ok (.aload_n 1, 1) := by decide +kernel
theorem dL_law_1159 : decode cL_law 1159 = .ok (.invokevirtual 152, 3) := by decide +kernel
theorem dL_law_1162 : decode cL_law 1162 = .ok (.aload_n 2, 1) := by decide +kernel
theorem dL_law_1163 : decode cL_law 1163 = .ok (.invokevirtual 155, 3) := by decide +kernel
theorem dL_law_1166 : decode cL_law 1166 = .ok (.if_icmp .eq 234, 3) := by decide +kernel
theorem dL_law_1169 : decode cL_law 1169 = .ok (.iconst 0, 1) := by decide +kernel
theorem dL_law_1170 : decode cL_law 1170 = .ok (.ireturn, 1) := by decide +kernel
theorem dL_law_1171 : decode cL_law 1171 = .ok (.aload_n 1, 1) := by decide +kernel
theorem dL_law_1172 : decode cL_law 1172 = .ok (.invokevirtual 156, 3) := by decide +kernel
theorem dL_law_1175 : decode cL_law 1175 = .ok (.aload_n 2, 1) := by decide +kernel
theorem dL_law_1176 : decode cL_law 1176 = .ok (.invokevirtual 159, 3) := by decide +kernel
theorem dL_law_1179 : decode cL_law 1179 = .ok (.if_icmp .eq 221, 3) := by decide +kernel
theorem dL_law_1182 : decode cL_law 1182 = .ok (.iconst 0, 1) := by decide +kernel
theorem dL_law_1183 : decode cL_law 1183 = .ok (.ireturn, 1) := by decide +kernel
theorem dL_law_1184 : decode cL_law 1184 = .ok (.aload_n 1, 1) := by decide +kernel
theorem dL_law_1185 : decode cL_law 1185 = .ok (.aload_n 0, 1) := by decide +kernel
theorem dL_law_1186 : decode cL_law 1186 = .ok (.iload 4, 2) := by decide +kernel
theorem dL_law_1188 : decode cL_law 1188 = .ok (.iconst 1, 1) := by decide +kernel
theorem dL_law_1189 : decode cL_law 1189 = .ok (.iadd, 1) := by decide +kernel
theorem dL_law_1190 : decode cL_law 1190 = .ok (.iaload, 1) := by decide +kernel
theorem dL_law_1191 : decode cL_law 1191 = .ok (.aload_n 0, 1) := by decide +kernel
theorem dL_law_1192 : decode cL_law 1192 = .ok (.iload 4, 2) := by decide +kernel
theorem dL_law_1194 : decode cL_law 1194 = .ok (.iconst 2, 1) := by decide +kernel
theorem dL_law_1195 : decode cL_law 1195 = .ok (.iadd, 1) := by decide +kernel
theorem dL_law_1196 : decode cL_law 1196 = .ok (.iaload, 1) := by decide +kernel
theorem dL_law_1197 : decode cL_law 1197 = .ok (.aload_n 0, 1) := by decide +kernel
theorem dL_law_1198 : decode cL_law 1198 = .ok (.iload 4, 2) := by decide +kernel
theorem dL_law_1200 : decode cL_law 1200 = .ok (.iconst 3, 1) := by decide +kernel
theorem dL_law_1201 : decode cL_law 1201 = .ok (.iadd, 1) := by decide +kernel
theorem dL_law_1202 : decode cL_law 1202 = .ok (.iaload, 1) := by decide +kernel
theorem dL_law_1203 : decode cL_law 1203 = .ok (.aload_n 0, 1) := by decide +kernel
theorem dL_law_1204 : decode cL_law 1204 = .ok (.iload 4, 2) := by decide +kernel
theorem dL_law_1206 : decode cL_law 1206 = .ok (.iconst 4, 1) := by decide +kernel
theorem dL_law_1207 : decode cL_law 1207 = .ok (.iadd, 1) := by decide +kernel
theorem dL_law_1208 : decode cL_law 1208 = .ok (.iaload, 1) := by decide +kernel
theorem dL_law_1209 : decode cL_law 1209 = .ok (.aload_n 3, 1) := by decide +kernel
theorem dL_law_1210 : decode cL_law 1210 = .ok (.invokestatic 160, 3) := by decide +kernel
theorem dL_law_1213 : decode cL_law 1213 = .ok (.istore 5, 2) := by decide +kernel
theorem dL_law_1215 : decode cL_law 1215 = .ok (.aload_n 2, 1) := by decide +kernel
theorem dL_law_1216 : decode cL_law 1216 = .ok (.aload_n 0, 1) := by decide +kernel
theorem dL_law_1217 : decode cL_law 1217 = .ok (.iload 4, 2) := by decide +kernel
theorem dL_law_1219 : decode cL_law 1219 = .ok (.iconst 1, 1) := by decide +kernel
theorem dL_law_1220 : decode cL_law 1220 = .ok (.iadd, 1) := by decide +kernel
theorem dL_law_1221 : decode cL_law 1221 = .ok (.iaload, 1) := by decide +kernel
theorem dL_law_1222 : decode cL_law 1222 = .ok (.aload_n 0, 1) := by decide +kernel
theorem dL_law_1223 : decode cL_law 1223 = .ok (.iload 4, 2) := by decide +kernel
theorem dL_law_1225 : decode cL_law 1225 = .ok (.iconst 2, 1) := by decide +kernel
theorem dL_law_1226 : decode cL_law 1226 = .ok (.iadd, 1) := by decide +kernel
theorem dL_law_1227 : decode cL_law 1227 = .ok (.iaload, 1) := by decide +kernel
theorem dL_law_1228 : decode cL_law 1228 = .ok (.aload_n 0, 1) := by decide +kernel
theorem dL_law_1229 : decode cL_law 1229 = .ok (.iload 4, 2) := by decide +kernel
theorem dL_law_1231 : decode cL_law 1231 = .ok (.iconst 3, 1) := by decide +kernel
theorem dL_law_1232 : decode cL_law 1232 = .ok (.iadd, 1) := by decide +kernel
theorem dL_law_1233 : decode cL_law 1233 = .ok (.iaload, 1) := by decide +kernel
theorem dL_law_1234 : decode cL_law 1234 = .ok (.aload_n 0, 1) := by decide +kernel
theorem dL_law_1235 : decode cL_law 1235 = .ok (.iload 4, 2) := by decide +kernel
theorem dL_law_1237 : decode cL_law 1237 = .ok (.iconst 4, 1) := by decide +kernel
theorem dL_law_1238 : decode cL_law 1238 = .ok (.iadd, 1) := by decide +kernel
theorem dL_law_1239 : decode cL_law 1239 = .ok (.iaload, 1) := by decide +kernel
theorem dL_law_1240 : decode cL_law 1240 = .ok (.invokevirtual 162, 3) := by decide +kernel
theorem dL_law_1243 : decode cL_law 1243 = .ok (.istore 6, 2) := by decide +kernel
theorem dL_law_1245 : decode cL_law 1245 = .ok (.aload_n 2, 1) := by decide +kernel
theorem dL_law_1246 : decode cL_law 1246 = .ok (.invokevirtual 90, 3) := by decide +kernel
theorem dL_law_1249 : decode cL_law 1249 = .ok (.iload 5, 2) := by decide +kernel
theorem dL_law_1251 : decode cL_law 1251 = .ok (.if_icmp .eq 5, 3) := by decide +kernel
theorem dL_law_1254 : decode cL_law 1254 = .ok (.iconst 0, 1) := by decide +kernel
theorem dL_law_1255 : decode cL_law 1255 = .ok (.ireturn, 1) := by decide +kernel
theorem dL_law_1256 : decode cL_law 1256 = .ok (.iload 5, 2) := by decide +kernel
theorem dL_law_1258 : decode cL_law 1258 = .ok (.ifCond .ne 15, 3) := by decide +kernel
theorem dL_law_1261 : decode cL_law 1261 = .ok (.aload_n 3, 1) := by decide +kernel
theorem dL_law_1262 : decode cL_law 1262 = .ok (.iconst 0, 1) := by decide +kernel
theorem dL_law_1263 : decode cL_law 1263 = .ok (.laload, 1) := by decide +kernel
theorem dL_law_1264 : decode cL_law 1264 = .ok (.iload 6, 2) := by decide +kernel
theorem dL_law_1266 : decode cL_law 1266 = .ok (.i2l, 1) := by decide +kernel
theorem dL_law_1267 : decode cL_law 1267 = .ok (.lcmp, 1) := by decide +kernel
theorem dL_law_1268 : decode cL_law 1268 = .ok (.ifCond .eq 5, 3) := by decide +kernel
theorem dL_law_1271 : decode cL_law 1271 = .ok (.iconst 0, 1) := by decide +kernel
theorem dL_law_1272 : decode cL_law 1272 = .ok (.ireturn, 1) := by decide +kernel
theorem dL_law_1273 : decode cL_law 1273 = .ok (.goto 127, 3) := by decide +kernel
theorem dL_law_1276 : decode cL_law 1276 = .ok (.aload_n 1, 1) := by decide +kernel
theorem dL_law_1277 : decode cL_law 1277 = .ok (.aload_n 0, 1) := by decide +kernel
theorem dL_law_1278 : decode cL_law 1278 = .ok (.iload 4, 2) := by decide +kernel
theorem dL_law_1280 : decode cL_law 1280 = .ok (.iconst 1, 1) := by decide +kernel
theorem dL_law_1281 : decode cL_law 1281 = .ok (.iadd, 1) := by decide +kernel
theorem dL_law_1282 : decode cL_law 1282 = .ok (.iaload, 1) := by decide +kernel
theorem dL_law_1283 : decode cL_law 1283 = .ok (.aload_n 3, 1) := by decide +kernel
theorem dL_law_1284 : decode cL_law 1284 = .ok (.invokestatic 163, 3) := by decide +kernel
theorem dL_law_1287 : decode cL_law 1287 = .ok (.istore 5, 2) := by decide +kernel
theorem dL_law_1289 : decode cL_law 1289 = .ok (.aload_n 2, 1) := by decide +kernel
theorem dL_law_1290 : decode cL_law 1290 = .ok (.aload_n 0, 1) := by decide +kernel
theorem dL_law_1291 : decode cL_law 1291 = .ok (.iload 4, 2) := by decide +kernel
theorem dL_law_1293 : decode cL_law 1293 = .ok (.iconst 1, 1) := by decide +kernel
theorem dL_law_1294 : decode cL_law 1294 = .ok (.iadd, 1) := by decide +kernel
theorem dL_law_1295 : decode cL_law 1295 = .ok (.iaload, 1) := by decide +kernel
theorem dL_law_1296 : decode cL_law 1296 = .ok (.invokevirtual 165, 3) := by decide +kernel
theorem dL_law_1299 : decode cL_law 1299 = .ok (.istore 6, 2) := by decide +kernel
theorem dL_law_1301 : decode cL_law 1301 = .ok (.aload_n 2, 1) := by decide +kernel
theorem dL_law_1302 : decode cL_law 1302 = .ok (.invokevirtual 90, 3) := by decide +kernel
theorem dL_law_1305 : decode cL_law 1305 = .ok (.iload 5, 2) := by decide +kernel
theorem dL_law_1307 : decode cL_law 1307 = .ok (.if_icmp .eq 5, 3) := by decide +kernel
theorem dL_law_1310 : decode cL_law 1310 = .ok (.iconst 0, 1) := by decide +kernel
theorem dL_law_1311 : decode cL_law 1311 = .ok (.ireturn, 1) := by decide +kernel
theorem dL_law_1312 : decode cL_law 1312 = .ok (.iload 5, 2) := by decide +kernel
theorem dL_law_1314 : decode cL_law 1314 = .ok (.ifCond .ne 15, 3) := by decide +kernel
theorem dL_law_1317 : decode cL_law 1317 = .ok (.aload_n 3, 1) := by decide +kernel
theorem dL_law_1318 : decode cL_law 1318 = .ok (.iconst 0, 1) := by decide +kernel
theorem dL_law_1319 : decode cL_law 1319 = .ok (.laload, 1) := by decide +kernel
theorem dL_law_1320 : decode cL_law 1320 = .ok (.iload 6, 2) := by decide +kernel
theorem dL_law_1322 : decode cL_law 1322 = .ok (.i2l, 1) := by decide +kernel
theorem dL_law_1323 : decode cL_law 1323 = .ok (.lcmp, 1) := by decide +kernel
theorem dL_law_1324 : decode cL_law 1324 = .ok (.ifCond .eq 5, 3) := by decide +kernel
theorem dL_law_1327 : decode cL_law 1327 = .ok (.iconst 0, 1) := by decide +kernel
theorem dL_law_1328 : decode cL_law 1328 = .ok (.ireturn, 1) := by decide +kernel
theorem dL_law_1329 : decode cL_law 1329 = .ok (.goto 71, 3) := by decide +kernel
theorem dL_law_1332 : decode cL_law 1332 = .ok (.aload_n 1, 1) := by decide +kernel
theorem dL_law_1333 : decode cL_law 1333 = .ok (.aload_n 0, 1) := by decide +kernel
theorem dL_law_1334 : decode cL_law 1334 = .ok (.iload 4, 2) := by decide +kernel
theorem dL_law_1336 : decode cL_law 1336 = .ok (.iconst 1, 1) := by decide +kernel
theorem dL_law_1337 : decode cL_law 1337 = .ok (.iadd, 1) := by decide +kernel
theorem dL_law_1338 : decode cL_law 1338 = .ok (.iaload, 1) := by decide +kernel
theorem dL_law_1339 : decode cL_law 1339 = .ok (.aload_n 0, 1) := by decide +kernel
theorem dL_law_1340 : decode cL_law 1340 = .ok (.iload 4, 2) := by decide +kernel
theorem dL_law_1342 : decode cL_law 1342 = .ok (.iconst 2, 1) := by decide +kernel
theorem dL_law_1343 : decode cL_law 1343 = .ok (.iadd, 1) := by decide +kernel
theorem dL_law_1344 : decode cL_law 1344 = .ok (.iaload, 1) := by decide +kernel
theorem dL_law_1345 : decode cL_law 1345 = .ok (.aload_n 3, 1) := by decide +kernel
theorem dL_law_1346 : decode cL_law 1346 = .ok (.invokestatic 166, 3) := by decide +kernel
theorem dL_law_1349 : decode cL_law 1349 = .ok (.istore 5, 2) := by decide +kernel
theorem dL_law_1351 : decode cL_law 1351 = .ok (.aload_n 2, 1) := by decide +kernel
theorem dL_law_1352 : decode cL_law 1352 = .ok (.aload_n 0, 1) := by decide +kernel
theorem dL_law_1353 : decode cL_law 1353 = .ok (.iload 4, 2) := by decide +kernel
theorem dL_law_1355 : decode cL_law 1355 = .ok (.iconst 1, 1) := by decide +kernel
theorem dL_law_1356 : decode cL_law 1356 = .ok (.iadd, 1) := by decide +kernel
theorem dL_law_1357 : decode cL_law 1357 = .ok (.iaload, 1) := by decide +kernel
theorem dL_law_1358 : decode cL_law 1358 = .ok (.aload_n 0, 1) := by decide +kernel
theorem dL_law_1359 : decode cL_law 1359 = .ok (.iload 4, 2) := by decide +kernel
theorem dL_law_1361 : decode cL_law 1361 = .ok (.iconst 2, 1) := by decide +kernel
theorem dL_law_1362 : decode cL_law 1362 = .ok (.iadd, 1) := by decide +kernel
theorem dL_law_1363 : decode cL_law 1363 = .ok (.iaload, 1) := by decide +kernel
theorem dL_law_1364 : decode cL_law 1364 = .ok (.invokevirtual 168, 3) := by decide +kernel
theorem dL_law_1367 : decode cL_law 1367 = .ok (.istore 6, 2) := by decide +kernel
theorem dL_law_1369 : decode cL_law 1369 = .ok (.aload_n 2, 1) := by decide +kernel
theorem dL_law_1370 : decode cL_law 1370 = .ok (.invokevirtual 90, 3) := by decide +kernel
theorem dL_law_1373 : decode cL_law 1373 = .ok (.iload 5, 2) := by decide +kernel
theorem dL_law_1375 : decode cL_law 1375 = .ok (.if_icmp .eq 5, 3) := by decide +kernel
theorem dL_law_1378 : decode cL_law 1378 = .ok (.iconst 0, 1) := by decide +kernel
theorem dL_law_1379 : decode cL_law 1379 = .ok (.ireturn, 1) := by decide +kernel
theorem dL_law_1380 : decode cL_law 1380 = .ok (.iload 5, 2) := by decide +kernel
theorem dL_law_1382 : decode cL_law 1382 = .ok (.ifCond .ne 15, 3) := by decide +kernel
theorem dL_law_1385 : decode cL_law 1385 = .ok (.aload_n 3, 1) := by decide +kernel
theorem dL_law_1386 : decode cL_law 1386 = .ok (.iconst 0, 1) := by decide +kernel
theorem dL_law_1387 : decode cL_law 1387 = .ok (.laload, 1) := by decide +kernel
theorem dL_law_1388 : decode cL_law 1388 = .ok (.iload 6, 2) := by decide +kernel
theorem dL_law_1390 : decode cL_law 1390 = .ok (.i2l, 1) := by decide +kernel
theorem dL_law_1391 : decode cL_law 1391 = .ok (.lcmp, 1) := by decide +kernel
theorem dL_law_1392 : decode cL_law 1392 = .ok (.ifCond .eq 5, 3) := by decide +kernel
theorem dL_law_1395 : decode cL_law 1395 = .ok (.iconst 0, 1) := by decide +kernel
theorem dL_law_1396 : decode cL_law 1396 = .ok (.ireturn, 1) := by decide +kernel
theorem dL_law_1397 : decode cL_law 1397 = .ok (.goto 3, 3) := by decide +kernel
theorem dL_law_1400 : decode cL_law 1400 = .ok (.iinc 4 5, 3) := by decide +kernel
theorem dL_law_1403 : decode cL_law 1403 = .ok (.goto (-1380), 3) := by decide +kernel
theorem dL_law_1406 : decode cL_law 1406 = .ok (.iconst 1, 1) := by decide +kernel
theorem dL_law_1407 : decode cL_law 1407 = .ok (.ireturn, 1) := by decide +kernel
abbrev vwCl : List vw_C := [(RX0, TX0, 13), (RX1, TX1, 9), (RX2, TX2, 19)]
end
section
/-! ===== integers: every int of the machine is iI of an integer ===== -/
def iI (z : Int) : Int32 := Int32.ofInt z
abbrev zr (a : Int) : Prop := -2147483648 ≤ a ∧ a < 2147483648
theorem iI_T {z : Int} (h : zr z) : (iI z).toInt = z := Int32.toInt_ofInt_of_le (by omega) (by omega)
theorem iI_of (x : Int32) : ∃ z : Int, -2147483648 ≤ z ∧ z < 2147483648 ∧ x = iI z := by
  have h1 := Int32.le_toInt x
  have h2 := Int32.toInt_lt x
  exact ⟨x.toInt, by omega, by omega, (Int32.ofInt_toInt x).symm⟩
theorem iI_add (a b : Int) : iI a + iI b = iI (a + b) := (Int32.ofInt_add a b).symm
theorem iI_sub (a b : Int) : iI a - iI b = iI (a - b) := (Int32.ofInt_sub a b).symm
theorem iI_mul (a b : Int) : iI a * iI b = iI (a * b) := (Int32.ofInt_mul a b).symm
theorem iI_lt {a b : Int} (ha : zr a) (hb : zr b) : iI a < iI b ↔ a < b := by rw [Int32.lt_iff_toInt_lt, iI_T ha, iI_T hb]
theorem iI_le {a b : Int} (ha : zr a) (hb : zr b) : iI a ≤ iI b ↔ a ≤ b := by rw [Int32.le_iff_toInt_le, iI_T ha, iI_T hb]
theorem iI_eq {a b : Int} (ha : zr a) (hb : zr b) : iI a = iI b ↔ a = b := by rw [← Int32.toInt_inj, iI_T ha, iI_T hb]
theorem iI_c {a : Int} (ha : zr a) : (iI a).toNatClampNeg = a.toNat := by rw [← Int32.toNat_toInt, iI_T ha]
theorem iI_n (n : Nat) : Int32.ofNat n = iI n := Int32.ofInt_eq_ofNat.symm
theorem iI_0 : (0 : Int32) = iI 0 := by decide
theorem iI_div {a b : Int} (ha : 0 ≤ a) (ha2 : a < 2147483648) (hb : 0 < b) (hb2 : b < 2147483648) : iI a / iI b = iI (a / b) := by
  obtain ⟨n, rfl⟩ := Int.eq_ofNat_of_zero_le ha
  obtain ⟨d, rfl⟩ := Int.eq_ofNat_of_zero_le (Int.le_of_lt hb)
  have h := pk_div (a := n) (d := d) (by omega) (by omega) (by omega)
  have e1 : nI n = iI n := iI_n n
  have e2 : nI d = iI d := iI_n d
  have e3 : nI (n / d) = iI ((n / d : Nat) : Int) := iI_n _
  rw [e1, e2, e3] at h
  rw [h]
  rfl
theorem iI_in {z : Int} {n : Nat} (h0 : 0 ≤ z) (h1 : z < n) (hn : n < 2147483648) : vp_in (iI z) n := by
  rw [vp_in_iff, iI_T ⟨by omega, by omega⟩]
  exact ⟨h0, h1⟩
theorem iI_if {P : Prop} [Decidable P] (a b : Int) : (if P then iI a else iI b) = iI (if P then a else b) := by split <;> rfl
theorem zupd (f : Nat → Int) (k : Nat) (v : Int) : upd (fun j => iI (f j)) k (iI v) = fun j => iI (va_up f k v j) := by
  funext j
  unfold upd va_up
  split <;> rfl
section ZROW
variable {p : Program} {l : Launch} {e : Env} {R : Room} {s : State} {m : MethodId} {args : Array Value} {below : List Frame} {meth : Method} {c : Code} {H : Heap} {locs : List Loc} {cells slots : Nat} {Q : State → Prop}
variable {cc : ByteArray} {pc : Nat} {ls : Array Slot} {rest : List Value}
theorem zi_const (hx : p.tables.exec = Jvm.exec) (hb : c.code = cc) {n : Int} (hdg : decode cc pc = .ok (.iconst n, 1)) (k : W p l e R s m args below meth c H locs cells slots Q (F0 m (pc + 1) ls (.int (iI n) :: rest))) : W p l e R s m args below meth c H locs cells slots Q (F0 m pc ls rest) := lv_iconst hx hb hdg rfl k
theorem zi_bipush (hx : p.tables.exec = Jvm.exec) (hb : c.code = cc) {n : Int} (hdg : decode cc pc = .ok (.bipush n, 2)) (hv : (Int8.ofInt n).toInt32 = iI n) (k : W p l e R s m args below meth c H locs cells slots Q (F0 m (pc + 2) ls (.int (iI n) :: rest))) : W p l e R s m args below meth c H locs cells slots Q (F0 m pc ls rest) := lv_bipush hx hb hdg hv k
theorem zi_sipush (hx : p.tables.exec = Jvm.exec) (hb : c.code = cc) {n : Int} (hdg : decode cc pc = .ok (.sipush n, 3)) (hv : (Int16.ofInt n).toInt32 = iI n) (k : W p l e R s m args below meth c H locs cells slots Q (F0 m (pc + 3) ls (.int (iI n) :: rest))) : W p l e R s m args below meth c H locs cells slots Q (F0 m pc ls rest) := lv_sipush hx hb hdg hv k
theorem zi_add (hx : p.tables.exec = Jvm.exec) (hb : c.code = cc) {a b : Int} (hdg : decode cc pc = .ok (.iadd, 1)) (k : W p l e R s m args below meth c H locs cells slots Q (F0 m (pc + 1) ls (.int (iI (a + b)) :: rest))) : W p l e R s m args below meth c H locs cells slots Q (F0 m pc ls (.int (iI b) :: .int (iI a) :: rest)) := lv_iadd hx hb hdg (by rw [iI_add]; exact k)
theorem zi_sub (hx : p.tables.exec = Jvm.exec) (hb : c.code = cc) {a b : Int} (hdg : decode cc pc = .ok (.isub, 1)) (k : W p l e R s m args below meth c H locs cells slots Q (F0 m (pc + 1) ls (.int (iI (a - b)) :: rest))) : W p l e R s m args below meth c H locs cells slots Q (F0 m pc ls (.int (iI b) :: .int (iI a) :: rest)) := lv_isub hx hb hdg (by rw [iI_sub]; exact k)
theorem zi_mul (hx : p.tables.exec = Jvm.exec) (hb : c.code = cc) {a b : Int} (hdg : decode cc pc = .ok (.imul, 1)) (k : W p l e R s m args below meth c H locs cells slots Q (F0 m (pc + 1) ls (.int (iI (a * b)) :: rest))) : W p l e R s m args below meth c H locs cells slots Q (F0 m pc ls (.int (iI b) :: .int (iI a) :: rest)) := lv_imul hx hb hdg (by rw [iI_mul]; exact k)
theorem zi_div (hx : p.tables.exec = Jvm.exec) (hb : c.code = cc) {a b : Int} (hdg : decode cc pc = .ok (.idiv, 1)) (ha : 0 ≤ a) (ha2 : a < 2147483648) (hb1 : 0 < b) (hb2 : b < 2147483648) (k : W p l e R s m args below meth c H locs cells slots Q (F0 m (pc + 1) ls (.int (iI (a / b)) :: rest))) : W p l e R s m args below meth c H locs cells slots Q (F0 m pc ls (.int (iI b) :: .int (iI a) :: rest)) := lv_idiv hx hb hdg (by rw [iI_0, iI_eq ⟨by omega, by omega⟩ ⟨by omega, by omega⟩]; omega) (by rw [iI_div ha ha2 hb1 hb2]; exact k)
theorem zi_iinc (hx : p.tables.exec = Jvm.exec) (hb : c.code = cc) {i nL k : Nat} {n z : Int} {lv lv' : List (Nat × Value)} (hdg : decode cc pc = .ok (.iinc i n, 3)) (h : lv_has ls nL lv) (hk : lv[k]? = some (i, .int (iI z))) (hn : i < nL) (hl : (i, Value.int (iI (z + n))) :: lv.filter (fun q => !(q.1 == i) && !(q.1 + 1 == i && q.2.category == 2)) = lv') (kk : ∀ ls' : Array Slot, lv_has ls' nL lv' → W p l e R s m args below meth c H locs cells slots Q (F0 m (pc + 3) ls' rest)) : W p l e R s m args below meth c H locs cells slots Q (F0 m pc ls rest) := lv_iinc hx hb hdg h hk (v := iI (z + n)) (by rw [← iI_add]; rfl) hn hl kk
theorem zc_lt (hx : p.tables.exec = Jvm.exec) (hb : c.code = cc) {a b : Int} {off : Int} {tgt : Nat} (hdg : decode cc pc = .ok (.if_icmp .lt off, 3)) (ht : (pc : Int) + off = (tgt : Int)) (ha : zr a) (hb2 : zr b) (kt : a < b → W p l e R s m args below meth c H locs cells slots Q (F0 m tgt ls rest)) (kf : b ≤ a → W p l e R s m args below meth c H locs cells slots Q (F0 m (pc + 3) ls rest)) : W p l e R s m args below meth c H locs cells slots Q (F0 m pc ls (.int (iI b) :: .int (iI a) :: rest)) := lv_icmp_lt hx hb hdg ht (fun h => kt ((iI_lt ha hb2).mp h)) (fun h => kf (by rw [iI_lt ha hb2] at h; omega))
theorem zc_ge (hx : p.tables.exec = Jvm.exec) (hb : c.code = cc) {a b : Int} {off : Int} {tgt : Nat} (hdg : decode cc pc = .ok (.if_icmp .ge off, 3)) (ht : (pc : Int) + off = (tgt : Int)) (ha : zr a) (hb2 : zr b) (kt : b ≤ a → W p l e R s m args below meth c H locs cells slots Q (F0 m tgt ls rest)) (kf : a < b → W p l e R s m args below meth c H locs cells slots Q (F0 m (pc + 3) ls rest)) : W p l e R s m args below meth c H locs cells slots Q (F0 m pc ls (.int (iI b) :: .int (iI a) :: rest)) := lv_icmp_ge hx hb hdg ht (fun h => kt ((iI_le hb2 ha).mp h)) (fun h => kf (by rw [iI_le hb2 ha] at h; omega))
theorem zc_gt (hx : p.tables.exec = Jvm.exec) (hb : c.code = cc) {a b : Int} {off : Int} {tgt : Nat} (hdg : decode cc pc = .ok (.if_icmp .gt off, 3)) (ht : (pc : Int) + off = (tgt : Int)) (ha : zr a) (hb2 : zr b) (kt : b < a → W p l e R s m args below meth c H locs cells slots Q (F0 m tgt ls rest)) (kf : a ≤ b → W p l e R s m args below meth c H locs cells slots Q (F0 m (pc + 3) ls rest)) : W p l e R s m args below meth c H locs cells slots Q (F0 m pc ls (.int (iI b) :: .int (iI a) :: rest)) := lv_icmp_gt hx hb hdg ht (fun h => kt ((iI_lt hb2 ha).mp h)) (fun h => kf (by rw [iI_lt hb2 ha] at h; omega))
theorem zc_le (hx : p.tables.exec = Jvm.exec) (hb : c.code = cc) {a b : Int} {off : Int} {tgt : Nat} (hdg : decode cc pc = .ok (.if_icmp .le off, 3)) (ht : (pc : Int) + off = (tgt : Int)) (ha : zr a) (hb2 : zr b) (kt : a ≤ b → W p l e R s m args below meth c H locs cells slots Q (F0 m tgt ls rest)) (kf : b < a → W p l e R s m args below meth c H locs cells slots Q (F0 m (pc + 3) ls rest)) : W p l e R s m args below meth c H locs cells slots Q (F0 m pc ls (.int (iI b) :: .int (iI a) :: rest)) := lv_icmp_le hx hb hdg ht (fun h => kt ((iI_le ha hb2).mp h)) (fun h => kf (by rw [iI_le ha hb2] at h; omega))
theorem zc_eq (hx : p.tables.exec = Jvm.exec) (hb : c.code = cc) {a b : Int} {off : Int} {tgt : Nat} (hdg : decode cc pc = .ok (.if_icmp .eq off, 3)) (ht : (pc : Int) + off = (tgt : Int)) (ha : zr a) (hb2 : zr b) (kt : a = b → W p l e R s m args below meth c H locs cells slots Q (F0 m tgt ls rest)) (kf : a ≠ b → W p l e R s m args below meth c H locs cells slots Q (F0 m (pc + 3) ls rest)) : W p l e R s m args below meth c H locs cells slots Q (F0 m pc ls (.int (iI b) :: .int (iI a) :: rest)) := lv_icmp_eq hx hb hdg ht (fun h => kt ((iI_eq ha hb2).mp h)) (fun h => kf (by rw [iI_eq ha hb2] at h; exact h))
theorem zc_ne (hx : p.tables.exec = Jvm.exec) (hb : c.code = cc) {a b : Int} {off : Int} {tgt : Nat} (hdg : decode cc pc = .ok (.if_icmp .ne off, 3)) (ht : (pc : Int) + off = (tgt : Int)) (ha : zr a) (hb2 : zr b) (kt : a ≠ b → W p l e R s m args below meth c H locs cells slots Q (F0 m tgt ls rest)) (kf : a = b → W p l e R s m args below meth c H locs cells slots Q (F0 m (pc + 3) ls rest)) : W p l e R s m args below meth c H locs cells slots Q (F0 m pc ls (.int (iI b) :: .int (iI a) :: rest)) := lv_icmp_ne hx hb hdg ht (fun h => kt (by rw [iI_eq ha hb2] at h; exact h)) (fun h => kf (by rw [iI_eq ha hb2] at h; omega))
theorem zf_lt (hx : p.tables.exec = Jvm.exec) (hb : c.code = cc) {a : Int} {off : Int} {tgt : Nat} (hdg : decode cc pc = .ok (.ifCond .lt off, 3)) (ht : (pc : Int) + off = (tgt : Int)) (ha : zr a) (kt : a < 0 → W p l e R s m args below meth c H locs cells slots Q (F0 m tgt ls rest)) (kf : 0 ≤ a → W p l e R s m args below meth c H locs cells slots Q (F0 m (pc + 3) ls rest)) : W p l e R s m args below meth c H locs cells slots Q (F0 m pc ls (.int (iI a) :: rest)) := lv_if_lt hx hb hdg ht (fun h => kt (by rw [iI_0, iI_lt ha ⟨by omega, by omega⟩] at h; exact h)) (fun h => kf (by rw [iI_0, iI_lt ha ⟨by omega, by omega⟩] at h; omega))
theorem zf_ge (hx : p.tables.exec = Jvm.exec) (hb : c.code = cc) {a : Int} {off : Int} {tgt : Nat} (hdg : decode cc pc = .ok (.ifCond .ge off, 3)) (ht : (pc : Int) + off = (tgt : Int)) (ha : zr a) (kt : 0 ≤ a → W p l e R s m args below meth c H locs cells slots Q (F0 m tgt ls rest)) (kf : a < 0 → W p l e R s m args below meth c H locs cells slots Q (F0 m (pc + 3) ls rest)) : W p l e R s m args below meth c H locs cells slots Q (F0 m pc ls (.int (iI a) :: rest)) := lv_if_ge hx hb hdg ht (fun h => kt (by rw [iI_0, iI_le ⟨by omega, by omega⟩ ha] at h; exact h)) (fun h => kf (by rw [iI_0, iI_le ⟨by omega, by omega⟩ ha] at h; omega))
theorem zf_gt (hx : p.tables.exec = Jvm.exec) (hb : c.code = cc) {a : Int} {off : Int} {tgt : Nat} (hdg : decode cc pc = .ok (.ifCond .gt off, 3)) (ht : (pc : Int) + off = (tgt : Int)) (ha : zr a) (kt : 0 < a → W p l e R s m args below meth c H locs cells slots Q (F0 m tgt ls rest)) (kf : a ≤ 0 → W p l e R s m args below meth c H locs cells slots Q (F0 m (pc + 3) ls rest)) : W p l e R s m args below meth c H locs cells slots Q (F0 m pc ls (.int (iI a) :: rest)) := lv_if_gt hx hb hdg ht (fun h => kt (by rw [iI_0, iI_lt ⟨by omega, by omega⟩ ha] at h; exact h)) (fun h => kf (by rw [iI_0, iI_lt ⟨by omega, by omega⟩ ha] at h; omega))
theorem zf_le (hx : p.tables.exec = Jvm.exec) (hb : c.code = cc) {a : Int} {off : Int} {tgt : Nat} (hdg : decode cc pc = .ok (.ifCond .le off, 3)) (ht : (pc : Int) + off = (tgt : Int)) (ha : zr a) (kt : a ≤ 0 → W p l e R s m args below meth c H locs cells slots Q (F0 m tgt ls rest)) (kf : 0 < a → W p l e R s m args below meth c H locs cells slots Q (F0 m (pc + 3) ls rest)) : W p l e R s m args below meth c H locs cells slots Q (F0 m pc ls (.int (iI a) :: rest)) := lv_if_le hx hb hdg ht (fun h => kt (by rw [iI_0, iI_le ha ⟨by omega, by omega⟩] at h; exact h)) (fun h => kf (by rw [iI_0, iI_le ha ⟨by omega, by omega⟩] at h; omega))
theorem zf_eq (hx : p.tables.exec = Jvm.exec) (hb : c.code = cc) {a : Int} {off : Int} {tgt : Nat} (hdg : decode cc pc = .ok (.ifCond .eq off, 3)) (ht : (pc : Int) + off = (tgt : Int)) (ha : zr a) (kt : a = 0 → W p l e R s m args below meth c H locs cells slots Q (F0 m tgt ls rest)) (kf : a ≠ 0 → W p l e R s m args below meth c H locs cells slots Q (F0 m (pc + 3) ls rest)) : W p l e R s m args below meth c H locs cells slots Q (F0 m pc ls (.int (iI a) :: rest)) := lv_if_eq hx hb hdg ht (fun h => kt (by rw [iI_0, iI_eq ha ⟨by omega, by omega⟩] at h; exact h)) (fun h => kf (by rw [iI_0, iI_eq ha ⟨by omega, by omega⟩] at h; exact h))
theorem zf_ne (hx : p.tables.exec = Jvm.exec) (hb : c.code = cc) {a : Int} {off : Int} {tgt : Nat} (hdg : decode cc pc = .ok (.ifCond .ne off, 3)) (ht : (pc : Int) + off = (tgt : Int)) (ha : zr a) (kt : a ≠ 0 → W p l e R s m args below meth c H locs cells slots Q (F0 m tgt ls rest)) (kf : a = 0 → W p l e R s m args below meth c H locs cells slots Q (F0 m (pc + 3) ls rest)) : W p l e R s m args below meth c H locs cells slots Q (F0 m pc ls (.int (iI a) :: rest)) := lv_if_ne hx hb hdg ht (fun h => kt (by rw [iI_0, iI_eq ha ⟨by omega, by omega⟩] at h; exact h)) (fun h => kf (by rw [iI_0, iI_eq ha ⟨by omega, by omega⟩] at h; omega))
theorem zi_top {a : Int} (k : ∀ z : Int, z = a → W p l e R s m args below meth c H locs cells slots Q (F0 m pc ls (.int (iI z) :: rest))) : W p l e R s m args below meth c H locs cells slots Q (F0 m pc ls (.int (iI a) :: rest)) := k a rfl
end ZROW
end
section
/-! ===== the world by roles: cell of role k stands at address ad k ===== -/
def zL (ad : Nat → Nat) (e : Nat → Option va_E) : va_W := (List.range 64).filterMap (fun k => (e k).map (fun v => (ad k, v)))
def zW (D : va_G) (A : Nat → Prop) (ad : Nat → Nat) (e : Nat → Option va_E) (H : Heap) : Prop :=
  (∀ (k : Nat) (v : va_E), e k = some v → k < 64 ∧ va_at D vwCl (ad k, v) H ∧ A (ad k)) ∧ ∀ (i j : Nat) (v w : va_E), e i = some v → e j = some w → ad i = ad j → i = j
section ZWS
variable {D : va_G} {A : Nat → Prop} {ad : Nat → Nat} {e : Nat → Option va_E} {H H1 : Heap}
theorem zL_mem {q : Nat × va_E} : q ∈ zL ad e ↔ ∃ k v, k < 64 ∧ e k = some v ∧ q = (ad k, v) := by
  unfold zL
  rw [List.mem_filterMap]
  constructor
  · rintro ⟨k, hk, h⟩
    rw [Option.map_eq_some_iff] at h
    obtain ⟨v, h1, h2⟩ := h
    exact ⟨k, v, List.mem_range.mp hk, h1, h2.symm⟩
  · rintro ⟨k, v, hk, h1, rfl⟩
    exact ⟨k, List.mem_range.mpr hk, by rw [h1]; rfl⟩
theorem zW.P (h : zW D A ad e H) : va_P D vwCl (zL ad e) H := fun k q hk => by
  obtain ⟨r, v, hr, h1, rfl⟩ := zL_mem.mp (List.mem_of_getElem? hk)
  exact (h.1 r v h1).2.1
theorem zW.dd (h : zW D A ad e H) : va_D A (zL ad e) := by
  have pw : (zL ad e).Pairwise (fun p q => p.1 ≠ q.1) := by
    unfold zL
    rw [List.pairwise_filterMap]
    refine List.Pairwise.imp ?_ List.pairwise_lt_range
    intro a b hab x hx y hy hxy
    rw [Option.map_eq_some_iff] at hx hy
    obtain ⟨v, h1, rfl⟩ := hx
    obtain ⟨w, h2, rfl⟩ := hy
    have := h.2 a b v w h1 h2 hxy
    omega
  refine ⟨fun i j x y hi hj hxy => ?_, fun k q hk => ?_⟩
  · rw [List.pairwise_iff_getElem] at pw
    obtain ⟨li, ei⟩ := List.getElem?_eq_some_iff.mp hi
    obtain ⟨lj, ej⟩ := List.getElem?_eq_some_iff.mp hj
    rcases Nat.lt_trichotomy i j with q | q | q
    · exact absurd (by rw [ei, ej]; exact hxy) (pw i j li lj q)
    · exact q
    · exact absurd (by rw [ei, ej]; exact hxy.symm) (pw j i lj li q)
  · obtain ⟨r, v, hr, h1, rfl⟩ := zL_mem.mp (List.mem_of_getElem? hk)
    exact (h.1 r v h1).2.2
theorem zW.ix (h : zW D A ad e H) {k : Nat} {v : va_E} (he : e k = some v) : ∃ i : Nat, (zL ad e)[i]? = some (ad k, v) := List.getElem?_of_mem (zL_mem.mpr ⟨k, v, (h.1 k v he).1, he, rfl⟩)
theorem zW.one (h : zW D A ad e H) {k : Nat} {v : va_E} (he : e k = some v) : va_P D vwCl [(ad k, v)] H := fun i q hi => by
  have h1 := List.mem_of_getElem? hi
  rw [List.mem_singleton] at h1
  subst h1
  exact (h.1 k v he).2.1
theorem zW.back (h : zW D A ad e H) {i k : Nat} {v0 v : va_E} (hi : (zL ad e)[i]? = some (ad k, v0)) (he : e k = some v0) (hP : va_P D vwCl ((zL ad e).set i (ad k, v)) H1) : zW D A ad (va_up e k (some v)) H1 := by
  have li := (List.getElem?_eq_some_iff.mp hi).1
  refine ⟨fun r x hr => ?_, fun a b x y ha hb hab => ?_⟩
  · unfold va_up at hr
    by_cases hk : r = k
    · subst hk
      rw [if_pos rfl] at hr
      cases hr
      exact ⟨(h.1 r v0 he).1, hP i (ad r, v) (by rw [List.getElem?_set_self li]), (h.1 r v0 he).2.2⟩
    · rw [if_neg hk] at hr
      obtain ⟨j, hj⟩ := h.ix hr
      have hij : i ≠ j := fun q => by
        subst q
        rw [hi] at hj
        injection hj with hj
        injection hj with hj1 hj2
        exact hk (h.2 r k x v0 hr he hj1.symm)
      exact ⟨(h.1 r x hr).1, hP j (ad r, x) (by rw [List.getElem?_set_ne hij]; exact hj), (h.1 r x hr).2.2⟩
  · have key : ∀ (z : Nat) (x : va_E), va_up e k (some v) z = some x → ∃ x', e z = some x' := by
      intro z x hz
      unfold va_up at hz
      by_cases hk : z = k
      · exact ⟨v0, by rw [hk]; exact he⟩
      · rw [if_neg hk] at hz
        exact ⟨x, hz⟩
    obtain ⟨x', hx'⟩ := key a x ha
    obtain ⟨y', hy'⟩ := key b y hb
    exact h.2 a b x' y' hx' hy' hab
theorem zW.kept {B : Nat → Prop} (h : zW D A ad e H) (hq : ∀ q : Nat, q < H.size → ¬ B q → H1[q]? = H[q]?) (hB : ∀ (k : Nat) (v : va_E), e k = some v → ¬ B (ad k)) : zW D A ad e H1 := ⟨fun k v hk => ⟨(h.1 k v hk).1, (h.1 k v hk).2.1.kept (hq _ (h.1 k v hk).2.1.lt (hB k v hk)), (h.1 k v hk).2.2⟩, h.2⟩
theorem zW.reA {B : Nat → Prop} (h : zW D A ad e H) (hB : ∀ (k : Nat) (v : va_E), e k = some v → B (ad k)) : zW D B ad e H := ⟨fun k v hk => ⟨(h.1 k v hk).1, (h.1 k v hk).2.1, hB k v hk⟩, h.2⟩
theorem zW.cong {e2 : Nat → Option va_E} (h : zW D A ad e H) (he : ∀ k, e2 k = e k) : zW D A ad e2 H := by
  have : e2 = e := funext he
  rw [this]
  exact h
end ZWS
/-! ===== what every method's start may say of the tables, the statics, the classes ===== -/
def zTy (cy : Nat → ClassId) : List (ClassId × FieldType) := [(cy 0, .int), (cy 1, .boolean), (cy 2, .object RX0), (cy 3, .long)]
def zNest : List Cond := [.methodLinkNest RX1 184 yX0_isBusy RX1, .methodLinkNest RX1 196 yX0_hoursOfBreaks RX1, .methodLinkNest RX1 94 yX0_init RX1, .fieldLinkNest RX1 110 RX0 "volume" "I" RX1, .fieldLinkNest RX1 107 RX0 "panels" "I" RX1, .fieldLinkNest RX1 199 RX0 "wanted" "I" RX1, .fieldLinkNest RX1 104 RX0 "start" "I" RX1, .fieldLinkNest RX1 113 RX0 "breaks" "I" RX1, .fieldLinkNest RX1 120 RX0 "end" "I" RX1, .fieldLinkNest RX1 132 RX0 "strike" "I" RX1, .fieldLinkNest RX1 147 RX0 "busyFrom" "I" RX1, .fieldLinkNest RX1 135 RX0 "busyUntil" "I" RX1, .fieldLinkNest RX1 171 RX0 "given" "J" RX1, .fieldLinkNest RX1 202 RX0 "served" "Z" RX1, .methodLinkNest RX1 116 yX0_addBreak RX1]
def zSteps : Nat → Value := fun j => .int (iI (match j with | 0 => 0 | 1 => 500 | 2 => 1200 | 3 => 2500 | _ => 5000))
def zNc : List (String × String) := [("java/lang/IllegalArgumentException", "java/lang/IndexOutOfBoundsException"), ("java/lang/IllegalStateException", "java/lang/IllegalArgumentException"), ("java/lang/IllegalArgumentException", "java/util/NoSuchElementException"), ("java/lang/IllegalStateException", "java/util/NoSuchElementException")]
def EN (D : va_G) (cy : Nat → ClassId) (A : Nat → Prop) (U : State) (H : Heap) : Prop :=
  va_K D vwCl (zTy cy) U ∧ (∀ w ∈ zNest, va_Nw w U) ∧ (∃ t : Nat, va_Z RX1 "STEPS" "[I" (.ref t) A U H ∧ va_T .int t 5 zSteps A U H) ∧ vx_Zq Bundle.tN "UNASSIGNED_STACK" Bundle.steD A U H ∧ vx_Zq Bundle.tN "SUPPRESSED_SENTINEL" Bundle.listD A U H ∧ ∀ q ∈ zNc, va_Nc q.1 q.2 U
section ZEN
variable {D : va_G} {cy : Nat → ClassId} {A : Nat → Prop} {s U : State} {H H1 : Heap}
theorem EN.move (h : EN D cy A s H) (hW : s.WarmedH U.vm) : EN D cy A U H := by
  obtain ⟨h1, h2, ⟨t, h3, h4⟩, h5, h6, h7⟩ := h
  refine ⟨va_K.moved hW.alike h1, ?_, ⟨t, va_Z.moved hW.alike h3, va_T.moved hW.alike h4⟩, vx_Zq.moved hW.alike h5, vx_Zq.moved hW.alike h6, fun q hq => va_Nc.moved hW.alike (h7 q hq)⟩
  intro w hw
  have h := h2 w hw
  simp only [zNest, List.mem_cons, List.not_mem_nil, or_false] at hw
  rcases hw with rfl | rfl | rfl | rfl | rfl | rfl | rfl | rfl | rfl | rfl | rfl | rfl | rfl | rfl | rfl <;> first | exact va_Nw.warmM hW h | exact va_Nw.warmF hW h
theorem EN.kept (h : EN D cy A U H) (hq : ∀ a : Nat, a < H.size → ¬ A a → H1[a]? = H[a]?) : EN D cy A U H1 := by
  obtain ⟨h1, h2, ⟨t, h3, h4⟩, h5, h6, h7⟩ := h
  exact ⟨h1, h2, ⟨t, h3.kept hq, h4.kept hq⟩, h5.kept hq, h6.kept hq, h7⟩
theorem EN.narrow {B : Nat → Prop} (h : EN D cy A U H) (hq : ∀ a : Nat, B a → A a) : EN D cy B U H := by
  obtain ⟨h1, h2, ⟨t, h3, h4⟩, h5, h6, h7⟩ := h
  exact ⟨h1, h2, ⟨t, h3.narrow hq, h4.narrow hq⟩, h5.narrow hq, h6.narrow hq, h7⟩
theorem EN.at {locs : List Loc} (h : EN D cy A s s.heap) (hS : va_S A s.heap H locs) : EN D cy A s H := h.kept hS.2.1
end ZEN
/-! ===== contracts ===== -/
abbrev zPc (D : va_G) (cy : Nat → ClassId) (A : Nat → Prop) (av : List Value) (H0 : Heap) : Array Value → State → Prop := va_Pc av (fun U => U.heap = H0 ∧ EN D cy A U H0)
abbrev zQi (post : Int → Heap → Prop) (A : Nat → Prop) : Array Value → State → Outcome → State → Prop := va_Qi (fun (r : Int32) (H1 : Heap) => ∃ z : Int, zr z ∧ r = iI z ∧ post z H1) (fun (H1 : Heap) (t : State) => t.heap = H1) A
abbrev zQl (post : Int64 → Heap → Prop) (A : Nat → Prop) : Array Value → State → Outcome → State → Prop := va_Ql post (fun (H1 : Heap) (t : State) => t.heap = H1) A
abbrev zQv (post : Heap → Prop) (A : Nat → Prop) : Array Value → State → Outcome → State → Prop := va_Qv post (fun (H1 : Heap) (t : State) => t.heap = H1) A
abbrev zQq (post : Option Nat → Heap → Prop) (A : Nat → Prop) : Array Value → State → Outcome → State → Prop := va_Qq post (fun (H1 : Heap) (t : State) => t.heap = H1) A
/-- thrown: the class by its name, what was there before is as it was -/
abbrev zX (E0 : String) (H0 : Heap) (A : Nat → Prop) : String → State → State → Prop := vx_X (fun _ : Unit => True) (fun E (_ : Unit) (t : State) => E = E0 ∧ H0.size ≤ t.heap.size ∧ ∀ q : Nat, q < H0.size → t.heap[q]? = H0[q]?) A
theorem zBlind {D : va_G} {cy : Nat → ClassId} {A : Nat → Prop} {av : List Value} {H0 : Heap} : FrameBlind (zPc D cy A av H0) := fun _ U _ _ q => ⟨q.1, q.2.1, EN.move (s := U) q.2.2 (State.WarmedH.refl U)⟩
section ZC
variable {p : Program} {l : Launch} {e : Env} {R : Room} {s : State} {m : MethodId} {args : Array Value} {below : List Frame} {meth : Method} {c : Code} {H : Heap} {locs : List Loc} {cells slots : Nat} {Q : State → Prop}
variable {cc : ByteArray} {pc : Nat} {ls : Array Slot} {rest : List Value} {D : va_G} {cy : Nat → ClassId} {A : Nat → Prop} {ad : Nat → Nat} {ew : Nat → Option va_E}
theorem zPS {As : List Value} (hE : EN D cy A s s.heap) (hS : va_S A s.heap H locs) : PreS s H (zPc D cy A As H) As := ⟨zBlind, fun U hU hW => ⟨rfl, hU, (hE.at hS).move hW⟩⟩
theorem zPV {As : List Value} {k0 ci : Nat} {q : vw_C} {fs : List Value} (hE : EN D cy A s s.heap) (hS : va_S A s.heap H locs) (hw : zW D A ad ew H) (hc : vwCl[ci]? = some q) (he : ew k0 = some (.inr (ci, fs))) : PreV s H q.1 (ad k0) (zPc D cy A (.ref (ad k0) :: As) H) As := ⟨zBlind, va_recv hE.1 (hw.one he) hc (q0 := 0) rfl, fun U hU hW => ⟨rfl, hU, (hE.at hS).move hW⟩⟩
theorem zget (hx : p.tables.exec = Jvm.exec) (hb : c.code = cc) {own C : String} {T : u_T} {N ci index : Nat} {Ts : List Cond} (hts : ∀ w ∈ Ts, w.before args s = true) (hin : ∀ w ∈ u_ws C T N, w ∈ Ts) (hown : s.vm.findClass own = some m.cls) (hE : EN D cy A s s.heap) (hw : zW D A ad ew H) (k0 : Nat) {fs : List Value} (he : ew k0 = some (.inr (ci, fs))) (hc : vwCl[ci]? = some (C, T, N)) (k : Nat) (hk : k < N) (hlink : (Cond.fieldLink own index (T k).1 (T k).2.1 (T k).2.2.1).before args s = true) {v : Value} (hv : fs[k]? = some v) (hdg : decode cc pc = .ok (.getfield index, 3))
    (kk : W p l e R s m args below meth c H locs cells slots Q (F0 m (pc + 3) ls (v :: rest))) : W p l e R s m args below meth c H locs cells slots Q (F0 m pc ls (.ref (ad k0) :: rest)) := va_get hx hb hts hin hown hE.1 (hw.one he) 0 rfl hc k hk hlink (fun _ h => h) hv hdg kk
theorem zgetN (hx : p.tables.exec = Jvm.exec) (hb : c.code = cc) {own C host : String} {T : u_T} {N ci index : Nat} {Ts : List Cond} (hts : ∀ w ∈ Ts, w.before args s = true) (hin : ∀ w ∈ u_ws C T N, w ∈ Ts) (hown : s.vm.findClass own = some m.cls) (hE : EN D cy A s s.heap) (hw : zW D A ad ew H) (k0 : Nat) {fs : List Value} (he : ew k0 = some (.inr (ci, fs))) (hc : vwCl[ci]? = some (C, T, N)) (k : Nat) (hk : k < N) (hlink : Cond.fieldLinkNest own index (T k).1 (T k).2.1 (T k).2.2.1 host ∈ zNest) {v : Value} (hv : fs[k]? = some v) (hdg : decode cc pc = .ok (.getfield index, 3))
    (kk : W p l e R s m args below meth c H locs cells slots Q (F0 m (pc + 3) ls (v :: rest))) : W p l e R s m args below meth c H locs cells slots Q (F0 m pc ls (.ref (ad k0) :: rest)) := va_getN hx hb hts hin hown hE.1 (hw.one he) 0 rfl hc k hk (va_Nw.use rfl (hE.2.1 _ hlink)) (fun _ h => h) hv hdg kk
theorem zput (hx : p.tables.exec = Jvm.exec) (hb : c.code = cc) {own C : String} {T : u_T} {N ci index : Nat} {Ts : List Cond} (hts : ∀ w ∈ Ts, w.before args s = true) (hin : ∀ w ∈ u_ws C T N, w ∈ Ts) (ty0 : Nat → FieldType) (hty : ∀ k, k < N → parseFieldDescriptor (T k).2.2.1 = some (ty0 k)) (hnm : ∀ a, a < N → ∀ b, b < N → a ≠ b → (T a).2.1 ≠ (T b).2.1) (hown : s.vm.findClass own = some m.cls) (hE : EN D cy A s s.heap) (hS : va_S A s.heap H locs) (hw : zW D A ad ew H) (k0 : Nat) {fs : List Value} (he : ew k0 = some (.inr (ci, fs))) (hc : vwCl[ci]? = some (C, T, N)) (k : Nat) (hk : k < N) (hlink : (Cond.fieldLink own index (T k).1 (T k).2.1 (T k).2.2.1).before args s = true) (hfin : (T k).2.2.2 = false) {ty : FieldType} {v : Value} (hd : parseFieldDescriptor (T k).2.2.1 = some ty) (hn : narrow ty v = v) (hfit : fits ty v = true) (hl : k < fs.length) (hdg : decode cc pc = .ok (.putfield index, 3))
    (kk : ∀ (H1 : Heap) (locs1 : List Loc), zW D A ad (va_up ew k0 (some (.inr (ci, fs.set k v)))) H1 → va_S A s.heap H1 locs1 → W p l e R s m args below meth c H1 locs1 cells slots Q (F0 m (pc + 3) ls rest)) : W p l e R s m args below meth c H locs cells slots Q (F0 m pc ls (v :: .ref (ad k0) :: rest)) := by
  obtain ⟨i, hi⟩ := hw.ix he
  exact va_put hx hb hts hin ty0 hty hnm hown hE.1 hw.P hw.dd hS i hi hc k hk hlink (fun _ h => h) hfin hd hn hfit hl hdg (fun H1 locs1 hP _ hS1 => kk H1 locs1 (hw.back hi he hP) hS1)
theorem zputF (hx : p.tables.exec = Jvm.exec) (hb : c.code = cc) {own C : String} {T : u_T} {N ci index : Nat} {Ts : List Cond} (hts : ∀ w ∈ Ts, w.before args s = true) (hin : ∀ w ∈ u_ws C T N, w ∈ Ts) (ty0 : Nat → FieldType) (hty : ∀ k, k < N → parseFieldDescriptor (T k).2.2.1 = some (ty0 k)) (hnm : ∀ a, a < N → ∀ b, b < N → a ≠ b → (T a).2.1 ≠ (T b).2.1) (hown : s.vm.findClass own = some m.cls) (hE : EN D cy A s s.heap) (hS : va_S A s.heap H locs) (hw : zW D A ad ew H) (k0 : Nat) {fs : List Value} (he : ew k0 = some (.inr (ci, fs))) (hc : vwCl[ci]? = some (C, T, N)) (k : Nat) (hk : k < N) (hlink : (Cond.fieldLink own index (T k).1 (T k).2.1 (T k).2.2.1).before args s = true) (hfin : (T k).2.2.2 = true) (hin2 : meth.name = "<init>") (hdecl : (T k).1 = own) {ty : FieldType} {v : Value} (hd : parseFieldDescriptor (T k).2.2.1 = some ty) (hn : narrow ty v = v) (hfit : fits ty v = true) (hl : k < fs.length) (hdg : decode cc pc = .ok (.putfield index, 3))
    (kk : ∀ (H1 : Heap) (locs1 : List Loc), zW D A ad (va_up ew k0 (some (.inr (ci, fs.set k v)))) H1 → va_S A s.heap H1 locs1 → W p l e R s m args below meth c H1 locs1 cells slots Q (F0 m (pc + 3) ls rest)) : W p l e R s m args below meth c H locs cells slots Q (F0 m pc ls (v :: .ref (ad k0) :: rest)) := by
  obtain ⟨i, hi⟩ := hw.ix he
  exact va_putF hx hb hts hin ty0 hty hnm hown hE.1 hw.P hw.dd hS i hi hc k hk hlink (fun _ h => h) hfin hin2 hdecl hd hn hfit hl hdg (fun H1 locs1 hP _ hS1 => kk H1 locs1 (hw.back hi he hP) hS1)
theorem zputN (hx : p.tables.exec = Jvm.exec) (hb : c.code = cc) {own C host : String} {T : u_T} {N ci index : Nat} {Ts : List Cond} (hts : ∀ w ∈ Ts, w.before args s = true) (hin : ∀ w ∈ u_ws C T N, w ∈ Ts) (ty0 : Nat → FieldType) (hty : ∀ k, k < N → parseFieldDescriptor (T k).2.2.1 = some (ty0 k)) (hnm : ∀ a, a < N → ∀ b, b < N → a ≠ b → (T a).2.1 ≠ (T b).2.1) (hown : s.vm.findClass own = some m.cls) (hE : EN D cy A s s.heap) (hS : va_S A s.heap H locs) (hw : zW D A ad ew H) (k0 : Nat) {fs : List Value} (he : ew k0 = some (.inr (ci, fs))) (hc : vwCl[ci]? = some (C, T, N)) (k : Nat) (hk : k < N) (hlink : Cond.fieldLinkNest own index (T k).1 (T k).2.1 (T k).2.2.1 host ∈ zNest) (hfin : (T k).2.2.2 = false) {ty : FieldType} {v : Value} (hd : parseFieldDescriptor (T k).2.2.1 = some ty) (hn : narrow ty v = v) (hfit : fits ty v = true) (hl : k < fs.length) (hdg : decode cc pc = .ok (.putfield index, 3))
    (kk : ∀ (H1 : Heap) (locs1 : List Loc), zW D A ad (va_up ew k0 (some (.inr (ci, fs.set k v)))) H1 → va_S A s.heap H1 locs1 → W p l e R s m args below meth c H1 locs1 cells slots Q (F0 m (pc + 3) ls rest)) : W p l e R s m args below meth c H locs cells slots Q (F0 m pc ls (v :: .ref (ad k0) :: rest)) := by
  obtain ⟨i, hi⟩ := hw.ix he
  exact va_putN hx hb hts hin ty0 hty hnm hown hE.1 hw.P hw.dd hS i hi hc k hk (va_Nw.use rfl (hE.2.1 _ hlink)) (fun _ h => h) hfin hd hn hfit hl hdg (fun H1 locs1 hP _ hS1 => kk H1 locs1 (hw.back hi he hP) hS1)
theorem ziald (hx : p.tables.exec = Jvm.exec) (hb : c.code = cc) (hE : EN D cy A s s.heap) (hw : zW D A ad ew H) (k0 : Nat) {n : Nat} {f : Nat → Int} (he : ew k0 = some (.inl (cy 0, n, .inl (fun j => iI (f j))))) {z : Int} (kz : Nat) (hz : z = (kz : Int)) (h1 : kz < n) (hn : n < 2147483648) (hdg : decode cc pc = .ok (.iaload, 1))
    (kk : W p l e R s m args below meth c H locs cells slots Q (F0 m (pc + 1) ls (.int (iI (f kz)) :: rest))) : W p l e R s m args below meth c H locs cells slots Q (F0 m pc ls (.int (iI z) :: .ref (ad k0) :: rest)) := va_iald hx hb hE.1 (hw.one he) 0 0 rfl rfl (iI_in (z := z) (by omega) (by omega) hn) hdg (by rw [iI_c ⟨by omega, by omega⟩, hz, Int.toNat_natCast]; exact kk)
theorem zzald (hx : p.tables.exec = Jvm.exec) (hb : c.code = cc) (hE : EN D cy A s s.heap) (hw : zW D A ad ew H) (k0 : Nat) {n : Nat} {f : Nat → Int} (he : ew k0 = some (.inl (cy 1, n, .inl (fun j => iI (f j))))) {z : Int} (kz : Nat) (hz : z = (kz : Int)) (h1 : kz < n) (hn : n < 2147483648) (hdg : decode cc pc = .ok (.baload, 1))
    (kk : W p l e R s m args below meth c H locs cells slots Q (F0 m (pc + 1) ls (.int (iI (f kz)) :: rest))) : W p l e R s m args below meth c H locs cells slots Q (F0 m pc ls (.int (iI z) :: .ref (ad k0) :: rest)) := va_zald hx hb hE.1 (hw.one he) 0 1 rfl rfl (iI_in (z := z) (by omega) (by omega) hn) hdg (by rw [iI_c ⟨by omega, by omega⟩, hz, Int.toNat_natCast]; exact kk)
theorem zaald (hx : p.tables.exec = Jvm.exec) (hb : c.code = cc) (hE : EN D cy A s s.heap) (hw : zW D A ad ew H) (k0 : Nat) {n : Nat} {f : Nat → Option Nat} (he : ew k0 = some (.inl (cy 2, n, .inr (.inr (.inr (.inr f)))))) {z : Int} (kz : Nat) (hz : z = (kz : Int)) (h1 : kz < n) (hn : n < 2147483648) (hdg : decode cc pc = .ok (.aaload, 1))
    (kk : W p l e R s m args below meth c H locs cells slots Q (F0 m (pc + 1) ls (va_rf (f kz) :: rest))) : W p l e R s m args below meth c H locs cells slots Q (F0 m pc ls (.int (iI z) :: .ref (ad k0) :: rest)) := va_aldq hx hb hE.1 (hw.one he) 0 2 rfl rfl (iI_in (z := z) (by omega) (by omega) hn) hdg (by rw [iI_c ⟨by omega, by omega⟩, hz, Int.toNat_natCast]; exact kk)
theorem zalen (hx : p.tables.exec = Jvm.exec) (hb : c.code = cc) (hE : EN D cy A s s.heap) (hw : zW D A ad ew H) (k0 t0 : Nat) {cA : ClassId} {x : vp_A} (he : ew k0 = some (.inl (cA, x))) {ty : FieldType} (ht : (zTy cy)[t0]? = some (cA, ty)) {z : Int} (hz : (x.1 : Int) = z) (hdg : decode cc pc = .ok (.arraylength, 1))
    (kk : W p l e R s m args below meth c H locs cells slots Q (F0 m (pc + 1) ls (.int (iI z) :: rest))) : W p l e R s m args below meth c H locs cells slots Q (F0 m pc ls (.ref (ad k0) :: rest)) := va_alen hx hb hE.1 (hw.one he) 0 t0 rfl ht (by rw [iI_n, hz]) hdg kk
theorem ziast (hx : p.tables.exec = Jvm.exec) (hb : c.code = cc) (hE : EN D cy A s s.heap) (hS : va_S A s.heap H locs) (hw : zW D A ad ew H) (k0 : Nat) {n : Nat} {f : Nat → Int} (he : ew k0 = some (.inl (cy 0, n, .inl (fun j => iI (f j))))) {z x : Int} (kz : Nat) (hz : z = (kz : Int)) (h1 : kz < n) (hn : n < 2147483648) (hdg : decode cc pc = .ok (.iastore, 1))
    (kk : ∀ (H1 : Heap) (locs1 : List Loc), zW D A ad (va_up ew k0 (some (.inl (cy 0, n, .inl (fun j => iI (va_up f kz x j)))))) H1 → va_S A s.heap H1 locs1 → W p l e R s m args below meth c H1 locs1 cells slots Q (F0 m (pc + 1) ls rest)) : W p l e R s m args below meth c H locs cells slots Q (F0 m pc ls (.int (iI x) :: .int (iI z) :: .ref (ad k0) :: rest)) := by
  obtain ⟨i, hi⟩ := hw.ix he
  refine va_iast hx hb hE.1 hw.P hw.dd hS i 0 hi rfl (iI_in (z := z) (by omega) (by omega) hn) hdg (fun H1 locs1 hP _ hS1 => kk H1 locs1 ?_ hS1)
  rw [iI_c ⟨by omega, by omega⟩, hz, Int.toNat_natCast, zupd] at hP
  exact hw.back hi he hP
theorem zzast (hx : p.tables.exec = Jvm.exec) (hb : c.code = cc) (hE : EN D cy A s s.heap) (hS : va_S A s.heap H locs) (hw : zW D A ad ew H) (k0 : Nat) {n : Nat} {f : Nat → Int} (he : ew k0 = some (.inl (cy 1, n, .inl (fun j => iI (f j))))) {z x : Int} (hx01 : x = 0 ∨ x = 1) (kz : Nat) (hz : z = (kz : Int)) (h1 : kz < n) (hn : n < 2147483648) (hdg : decode cc pc = .ok (.bastore, 1))
    (kk : ∀ (H1 : Heap) (locs1 : List Loc), zW D A ad (va_up ew k0 (some (.inl (cy 1, n, .inl (fun j => iI (va_up f kz x j)))))) H1 → va_S A s.heap H1 locs1 → W p l e R s m args below meth c H1 locs1 cells slots Q (F0 m (pc + 1) ls rest)) : W p l e R s m args below meth c H locs cells slots Q (F0 m pc ls (.int (iI x) :: .int (iI z) :: .ref (ad k0) :: rest)) := by
  obtain ⟨i, hi⟩ := hw.ix he
  refine va_zast hx hb hE.1 hw.P hw.dd hS i 1 hi rfl (iI_in (z := z) (by omega) (by omega) hn) hdg (fun H1 locs1 hP _ hS1 => kk H1 locs1 ?_ hS1)
  have hb : vp_nar .boolean (iI x) = iI x := by rcases hx01 with rfl | rfl <;> decide
  rw [iI_c ⟨by omega, by omega⟩, hz, Int.toNat_natCast, hb, zupd] at hP
  exact hw.back hi he hP
theorem zaastN (hx : p.tables.exec = Jvm.exec) (hb : c.code = cc) (hE : EN D cy A s s.heap) (hS : va_S A s.heap H locs) (hw : zW D A ad ew H) (k0 : Nat) {n : Nat} {f : Nat → Option Nat} (he : ew k0 = some (.inl (cy 2, n, .inr (.inr (.inr (.inr f)))))) {z : Int} (kz : Nat) (hz : z = (kz : Int)) (h1 : kz < n) (hn : n < 2147483648) (hdg : decode cc pc = .ok (.aastore, 1))
    (kk : ∀ (H1 : Heap) (locs1 : List Loc), zW D A ad (va_up ew k0 (some (.inl (cy 2, n, .inr (.inr (.inr (.inr (va_up f kz none)))))))) H1 → va_S A s.heap H1 locs1 → W p l e R s m args below meth c H1 locs1 cells slots Q (F0 m (pc + 1) ls rest)) : W p l e R s m args below meth c H locs cells slots Q (F0 m pc ls (.null :: .int (iI z) :: .ref (ad k0) :: rest)) := by
  obtain ⟨i, hi⟩ := hw.ix he
  refine va_astqN hx hb hE.1 hw.P hw.dd hS i 2 hi rfl (iI_in (z := z) (by omega) (by omega) hn) hdg (fun H1 locs1 hP _ hS1 => kk H1 locs1 ?_ hS1)
  rw [iI_c ⟨by omega, by omega⟩, hz, Int.toNat_natCast] at hP
  exact hw.back hi he hP
theorem zaast (hx : p.tables.exec = Jvm.exec) (hb : c.code = cc) (hE : EN D cy A s s.heap) (hS : va_S A s.heap H locs) (hw : zW D A ad ew H) (k0 : Nat) {n : Nat} {f : Nat → Option Nat} (he : ew k0 = some (.inl (cy 2, n, .inr (.inr (.inr (.inr f)))))) (kv : Nat) {fs : List Value} (hev : ew kv = some (.inr (0, fs))) {z : Int} (kz : Nat) (hz : z = (kz : Int)) (h1 : kz < n) (hn : n < 2147483648) (hdg : decode cc pc = .ok (.aastore, 1))
    (kk : ∀ (H1 : Heap) (locs1 : List Loc), zW D A ad (va_up ew k0 (some (.inl (cy 2, n, .inr (.inr (.inr (.inr (va_up f kz (some (ad kv))))))))) ) H1 → va_S A s.heap H1 locs1 → W p l e R s m args below meth c H1 locs1 cells slots Q (F0 m (pc + 1) ls rest)) : W p l e R s m args below meth c H locs cells slots Q (F0 m pc ls (.ref (ad kv) :: .int (iI z) :: .ref (ad k0) :: rest)) := by
  obtain ⟨i, hi⟩ := hw.ix he
  obtain ⟨j, hj⟩ := hw.ix hev
  refine va_astq hx hb hE.1 hw.P hw.dd hS i 2 j 0 (r := (RX0, TX0, 13)) hi rfl hj rfl (iI_in (z := z) (by omega) (by omega) hn) hdg (fun H1 locs1 hP _ hS1 => kk H1 locs1 ?_ hS1)
  rw [iI_c ⟨by omega, by omega⟩, hz, Int.toNat_natCast] at hP
  exact hw.back hi he hP
variable {a : Array Value} {mc ms : Nat} {st0 : List Value}
theorem zcalli {post : Int → Heap → Prop} (hr : va_Run p l e R s m args below meth c H locs cells slots mc ms (F0 m pc ls st0) rest (zQi post A a) A) (hS : va_S A s.heap H locs)
    (kk : ∀ (z : Int) (H1 : Heap) (locs1 : List Loc), zr z → post z H1 → H.size ≤ H1.size → (∀ q : Nat, q < H.size → ¬ A q → H1[q]? = H[q]?) → va_S A s.heap H1 locs1 → W p l e R s m args below meth c H1 locs1 (cells + mc) (slots + ms) Q (F0 m (pc + 3) ls (.int (iI z) :: rest))) : W p l e R s m args below meth c H locs cells slots Q (F0 m pc ls st0) := by
  refine va_calli hr hS (fun _ _ h => h) (fun _ h => h) (fun r u t H1 locs1 ht _ hp hB hz hk hS1 => ?_)
  obtain ⟨z, hz1, rfl, hp⟩ := hp
  have e1 : u = H1 := hB.symm.trans ht
  subst e1
  exact kk z u locs1 hz1 hp hz hk hS1
theorem zcalll {post : Int64 → Heap → Prop} (hr : va_Run p l e R s m args below meth c H locs cells slots mc ms (F0 m pc ls st0) rest (zQl post A a) A) (hS : va_S A s.heap H locs)
    (kk : ∀ (z : Int64) (H1 : Heap) (locs1 : List Loc), post z H1 → H.size ≤ H1.size → (∀ q : Nat, q < H.size → ¬ A q → H1[q]? = H[q]?) → va_S A s.heap H1 locs1 → W p l e R s m args below meth c H1 locs1 (cells + mc) (slots + ms) Q (F0 m (pc + 3) ls (.long z :: rest))) : W p l e R s m args below meth c H locs cells slots Q (F0 m pc ls st0) := by
  refine va_calll hr hS (fun _ _ h => h) (fun _ h => h) (fun r u t H1 locs1 ht _ hp hB hz hk hS1 => ?_)
  have e1 : u = H1 := hB.symm.trans ht
  subst e1
  exact kk r u locs1 hp hz hk hS1
theorem zcallv {post : Heap → Prop} (hr : va_Run p l e R s m args below meth c H locs cells slots mc ms (F0 m pc ls st0) rest (zQv post A a) A) (hS : va_S A s.heap H locs)
    (kk : ∀ (H1 : Heap) (locs1 : List Loc), post H1 → H.size ≤ H1.size → (∀ q : Nat, q < H.size → ¬ A q → H1[q]? = H[q]?) → va_S A s.heap H1 locs1 → W p l e R s m args below meth c H1 locs1 (cells + mc) (slots + ms) Q (F0 m (pc + 3) ls rest)) : W p l e R s m args below meth c H locs cells slots Q (F0 m pc ls st0) := by
  refine va_callv hr hS (fun _ _ h => h) (fun _ h => h) (fun u t H1 locs1 ht _ hp hB hz hk hS1 => ?_)
  have e1 : u = H1 := hB.symm.trans ht
  subst e1
  exact kk u locs1 hp hz hk hS1
theorem zcallq {post : Option Nat → Heap → Prop} (hr : va_Run p l e R s m args below meth c H locs cells slots mc ms (F0 m pc ls st0) rest (zQq post A a) A) (hS : va_S A s.heap H locs)
    (kk : ∀ (z : Option Nat) (H1 : Heap) (locs1 : List Loc), post z H1 → H.size ≤ H1.size → (∀ q : Nat, q < H.size → ¬ A q → H1[q]? = H[q]?) → va_S A s.heap H1 locs1 → W p l e R s m args below meth c H1 locs1 (cells + mc) (slots + ms) Q (F0 m (pc + 3) ls (va_rf z :: rest))) : W p l e R s m args below meth c H locs cells slots Q (F0 m pc ls st0) := by
  refine va_callq hr hS (fun _ _ h => h) (fun _ h => h) (fun r u t H1 locs1 ht _ hp hB hz hk hS1 => ?_)
  have e1 : u = H1 := hB.symm.trans ht
  subst e1
  exact kk r u locs1 hp hz hk hS1
theorem ziret {post : Int → Heap → Prop} (hx : p.tables.exec = Jvm.exec) (hb : c.code = cc) (hr : meth.sig.returnType = some .int) (hlocks : meth.locks = false) (hS : va_S A s.heap H locs) (hc : cells ≤ mc) (hs : slots ≤ ms) {z : Int} (hz : zr z) (hp : post z H) (hdg : decode cc pc = .ok (.ireturn, 1)) : W p l e R s m args below meth c H locs cells slots (MQ below (zQi post A) args s mc ms A) (F0 m pc ls [.int (iI z)]) := W.widen hc hs (W.iret hx hb hr (fun _ ht _ => ⟨⟨_, _, rfl, ⟨z, hz, rfl, hp⟩, ht⟩, hS.F ht⟩) hS.2.2 hdg hlocks)
theorem zzret {post : Int → Heap → Prop} (hx : p.tables.exec = Jvm.exec) (hb : c.code = cc) (hr : meth.sig.returnType = some .boolean) (hlocks : meth.locks = false) (hS : va_S A s.heap H locs) (hc : cells ≤ mc) (hs : slots ≤ ms) {z : Int} (hz : z = 0 ∨ z = 1) (hp : post z H) (hdg : decode cc pc = .ok (.ireturn, 1)) : W p l e R s m args below meth c H locs cells slots (MQ below (zQi post A) args s mc ms A) (F0 m pc ls [.int (iI z)]) := W.widen hc hs (W.zret hx hb hr (by rcases hz with rfl | rfl <;> decide) (fun _ ht _ => ⟨⟨_, _, rfl, ⟨z, ⟨by omega, by omega⟩, rfl, hp⟩, ht⟩, hS.F ht⟩) hS.2.2 hdg hlocks)
theorem zvret {post : Heap → Prop} (hx : p.tables.exec = Jvm.exec) (hb : c.code = cc) (hr : meth.sig.returnType = none) (hlocks : meth.locks = false) (hS : va_S A s.heap H locs) (hc : cells ≤ mc) (hs : slots ≤ ms) (hp : post H) (hdg : decode cc pc = .ok (.return_, 1)) : W p l e R s m args below meth c H locs cells slots (MQ below (zQv post A) args s mc ms A) (F0 m pc ls []) := W.widen hc hs (W.vret hx hb hr (fun _ ht _ => ⟨⟨_, rfl, hp, ht⟩, hS.F ht⟩) hS.2.2 hdg hlocks)
theorem zlret {post : Int64 → Heap → Prop} (hx : p.tables.exec = Jvm.exec) (hb : c.code = cc) (hr : meth.sig.returnType = some .long) (hlocks : meth.locks = false) (hS : va_S A s.heap H locs) (hc : cells ≤ mc) (hs : slots ≤ ms) {z : Int64} (hp : post z H) (hdg : decode cc pc = .ok (.lreturn, 1)) : W p l e R s m args below meth c H locs cells slots (MQ below (zQl post A) args s mc ms A) (F0 m pc ls [.long z]) := W.widen hc hs (W.lret hx hb hr (fun _ ht _ => ⟨⟨_, _, rfl, hp, ht⟩, hS.F ht⟩) hS.2.2 hdg hlocks)
theorem zaret {post : Option Nat → Heap → Prop} {n : String} (hx : p.tables.exec = Jvm.exec) (hb : c.code = cc) (hr : meth.sig.returnType = some (.object n)) (hlocks : meth.locks = false) (hS : va_S A s.heap H locs) (hc : cells ≤ mc) (hs : slots ≤ ms) {z : Option Nat} (hp : post z H) (hdg : decode cc pc = .ok (.areturn, 1)) : W p l e R s m args below meth c H locs cells slots (MQ below (zQq post A) args s mc ms A) (F0 m pc ls [va_rf z]) := W.widen hc hs (W.aret hx hb hr (Or.inl ⟨_, rfl⟩) (by cases z; exact Or.inl rfl; exact Or.inr ⟨_, rfl⟩) (fun _ ht _ => ⟨⟨_, _, rfl, hp, ht⟩, hS.F ht⟩) hS.2.2 hdg hlocks)
end ZC
end
section
/-! ===== the two objects as pictures ===== -/
/-- a pour: its ints by field, its two rows, the mask -/
abbrev PS : Type := (Nat → Int) × (Nat → Int) × (Nat → Int) × Int64
def yP (ad : Nat → Nat) (i : Nat) (p : PS) : List Value := [.int (iI (p.1 0)), .int (iI (p.1 1)), .int (iI (p.1 2)), .int (iI (p.1 3)), .int (iI (p.1 4)), .ref (ad (11 + 3 * i)), .ref (ad (12 + 3 * i)), .int (iI (p.1 7)), .int (iI (p.1 8)), .int (iI (p.1 9)), .int (iI (p.1 10)), .long p.2.2.2, .int (iI (p.1 12))]
def yO (ad : Nat → Nat) (yi : Nat → Int) : List Value := [.ref (ad 1), .ref (ad 2), .ref (ad 3), .ref (ad 4), .ref (ad 5), .int (iI (yi 5)), .int (iI (yi 6)), .int (iI (yi 7)), .int (iI (yi 8))]
def yR (ad : Nat → Nat) (pr : Nat → Option PS) : Nat → Option Nat := fun i => (pr i).map (fun _ => ad (10 + 3 * i))
def yE (cy : Nat → ClassId) (ad : Nat → Nat) (ya : Nat → Nat → Int) (yi : Nat → Int) (pr : Nat → Option PS) : Nat → Option va_E := fun k =>
  if k = 0 then some (.inr (1, yO ad yi))
  else if k = 1 then some (.inl (cy 0, 1000, .inl (fun j => iI (ya 0 j))))
  else if k = 2 then some (.inl (cy 0, 1001, .inl (fun j => iI (ya 1 j))))
  else if k = 3 then some (.inl (cy 0, 1000, .inl (fun j => iI (ya 2 j))))
  else if k = 4 then some (.inl (cy 0, 1001, .inl (fun j => iI (ya 3 j))))
  else if k = 5 then some (.inl (cy 2, 10, .inr (.inr (.inr (.inr (yR ad pr))))))
  else if k < 10 then none
  else if k < 40 then (pr ((k - 10) / 3)).map (fun p => if k % 3 = 1 then .inr (0, yP ad ((k - 10) / 3) p) else if k % 3 = 2 then .inl (cy 0, 4, .inl (fun j => iI (p.2.1 j))) else .inl (cy 0, 4, .inl (fun j => iI (p.2.2.1 j))))
  else none
section YE
variable {cy : Nat → ClassId} {ad : Nat → Nat} {ya : Nat → Nat → Int} {yi : Nat → Int} {pr : Nat → Option PS}
theorem yE_0 : yE cy ad ya yi pr 0 = some (.inr (1, yO ad yi)) := rfl
theorem yE_1 : yE cy ad ya yi pr 1 = some (.inl (cy 0, 1000, .inl (fun j => iI (ya 0 j)))) := rfl
theorem yE_2 : yE cy ad ya yi pr 2 = some (.inl (cy 0, 1001, .inl (fun j => iI (ya 1 j)))) := rfl
theorem yE_3 : yE cy ad ya yi pr 3 = some (.inl (cy 0, 1000, .inl (fun j => iI (ya 2 j)))) := rfl
theorem yE_4 : yE cy ad ya yi pr 4 = some (.inl (cy 0, 1001, .inl (fun j => iI (ya 3 j)))) := rfl
theorem yE_5 : yE cy ad ya yi pr 5 = some (.inl (cy 2, 10, .inr (.inr (.inr (.inr (yR ad pr)))))) := rfl
theorem yE_hi {k : Nat} (h1 : 10 ≤ k) (h2 : k < 40) : yE cy ad ya yi pr k = (pr ((k - 10) / 3)).map (fun p => if k % 3 = 1 then .inr (0, yP ad ((k - 10) / 3) p) else if k % 3 = 2 then .inl (cy 0, 4, .inl (fun j => iI (p.2.1 j))) else .inl (cy 0, 4, .inl (fun j => iI (p.2.2.1 j)))) := by
  unfold yE
  rw [if_neg (by omega), if_neg (by omega), if_neg (by omega), if_neg (by omega), if_neg (by omega), if_neg (by omega), if_neg (by omega), if_pos h2]
theorem yE_p {i : Nat} (hi : i < 10) {p : PS} (hp : pr i = some p) : yE cy ad ya yi pr (10 + 3 * i) = some (.inr (0, yP ad i p)) := by
  rw [yE_hi (by omega) (by omega), show (10 + 3 * i - 10) / 3 = i by omega, hp, Option.map_some, if_pos (by omega)]
theorem yE_q {i : Nat} (hi : i < 10) {p : PS} (hp : pr i = some p) : yE cy ad ya yi pr (11 + 3 * i) = some (.inl (cy 0, 4, .inl (fun j => iI (p.2.1 j)))) := by
  rw [yE_hi (by omega) (by omega), show (11 + 3 * i - 10) / 3 = i by omega, hp, Option.map_some, if_neg (by omega), if_pos (by omega)]
theorem yE_r {i : Nat} (hi : i < 10) {p : PS} (hp : pr i = some p) : yE cy ad ya yi pr (12 + 3 * i) = some (.inl (cy 0, 4, .inl (fun j => iI (p.2.2.1 j)))) := by
  rw [yE_hi (by omega) (by omega), show (12 + 3 * i - 10) / 3 = i by omega, hp, Option.map_some, if_neg (by omega), if_neg (by omega)]
theorem yR_0 {i : Nat} (h : pr i = none) : va_rf (yR ad pr i) = .null := by unfold yR; rw [h]; rfl
theorem yR_1 {i : Nat} {p : PS} (h : pr i = some p) : va_rf (yR ad pr i) = .ref (ad (10 + 3 * i)) := by unfold yR; rw [h]; rfl
theorem up_same {α : Type} (f : Nat → α) (k : Nat) (v : α) : va_up f k v k = v := if_pos rfl
theorem up_ne {α : Type} (f : Nat → α) {k j : Nat} (v : α) (h : j ≠ k) : va_up f k v j = f j := if_neg h
/-- an int array of the yard is written -/
theorem yU_a (a : Nat) (ha : a < 4) (i : Nat) (v : Int) {n : Nat} (h : yE cy ad ya yi pr (a + 1) = some (.inl (cy 0, n, .inl (fun j => iI (ya a j))))) : ∀ k, yE cy ad (va_up ya a (va_up (ya a) i v)) yi pr k = va_up (yE cy ad ya yi pr) (a + 1) (some (.inl (cy 0, n, .inl (fun j => iI (va_up (ya a) i v j))))) k := by
  intro k
  by_cases hk : k = a + 1
  · subst hk
    rw [up_same]
    rcases (show a = 0 ∨ a = 1 ∨ a = 2 ∨ a = 3 by omega) with rfl | rfl | rfl | rfl <;> (simp only [yE] at h ⊢; simp [up_same] at h ⊢; first | exact h | simp [h])
  · rw [up_ne _ _ hk]
    rcases (show a = 0 ∨ a = 1 ∨ a = 2 ∨ a = 3 by omega) with rfl | rfl | rfl | rfl <;>
    · unfold yE
      by_cases h0 : k = 0
      · simp [h0]
      by_cases h1 : k = 1
      · simp_all [va_up]
      by_cases h2 : k = 2
      · simp_all [va_up]
      by_cases h3 : k = 3
      · simp_all [va_up]
      by_cases h4 : k = 4
      · simp_all [va_up]
      simp [h0, h1, h2, h3, h4]
/-- an int of the yard is written -/
theorem yU_i (j : Nat) (hj : j = 5 ∨ j = 6 ∨ j = 7 ∨ j = 8) (v : Int) : ∀ k, yE cy ad ya (va_up yi j v) pr k = va_up (yE cy ad ya yi pr) 0 (some (.inr (1, (yO ad yi).set j (.int (iI v))))) k := by
  intro k
  by_cases hk : k = 0
  · subst hk
    rw [up_same, yE_0]
    rcases hj with rfl | rfl | rfl | rfl <;> simp [yO, va_up]
  · rw [up_ne _ _ hk]
    unfold yE
    simp [hk]
theorem yR_up {i : Nat} {p p2 : PS} (hp : pr i = some p) : yR ad (va_up pr i (some p2)) = yR ad pr := by
  funext j
  unfold yR va_up
  by_cases h : j = i
  · subst h; simp [hp]
  · simp [h]
/-- what a pour's three cells are when one of them changes -/
theorem yU_p {i : Nat} (hi : i < 10) {p p2 : PS} (hp : pr i = some p) (w : va_E) (r : Nat) (hr : r < 3) (hw : (if r = 0 then .inr (0, yP ad i p2) else if r = 1 then .inl (cy 0, 4, .inl (fun j => iI (p2.2.1 j))) else .inl (cy 0, 4, .inl (fun j => iI (p2.2.2.1 j)))) = w)
    (h0 : r ≠ 0 → yP ad i p2 = yP ad i p) (h1 : r ≠ 1 → p2.2.1 = p.2.1) (h2 : r ≠ 2 → p2.2.2.1 = p.2.2.1) : ∀ k, yE cy ad ya yi (va_up pr i (some p2)) k = va_up (yE cy ad ya yi pr) (10 + r + 3 * i) (some w) k := by
  intro k
  subst hw
  by_cases hk : k = 10 + r + 3 * i
  · subst hk
    rw [up_same, yE_hi (by omega) (by omega), show (10 + r + 3 * i - 10) / 3 = i by omega, up_same, Option.map_some]
    rcases (show r = 0 ∨ r = 1 ∨ r = 2 by omega) with rfl | rfl | rfl
    · rw [if_pos (by omega), if_pos rfl]
    · rw [if_neg (by omega), if_pos (by omega), if_neg (by omega), if_pos rfl]
    · rw [if_neg (by omega), if_neg (by omega), if_neg (by omega), if_neg (by omega)]
  · rw [up_ne _ _ hk]
    by_cases hl : 10 ≤ k ∧ k < 40
    · rw [yE_hi hl.1 hl.2, yE_hi hl.1 hl.2]
      by_cases hq : (k - 10) / 3 = i
      · rw [hq, up_same, hp, Option.map_some, Option.map_some]
        rcases (show k % 3 = 1 ∨ k % 3 = 2 ∨ k % 3 = 0 by omega) with h | h | h
        · rw [if_pos h, if_pos h, h0 (by omega)]
        · rw [if_neg (by omega), if_pos h, if_neg (by omega), if_pos h, h1 (by omega)]
        · rw [if_neg (by omega), if_neg (by omega), if_neg (by omega), if_neg (by omega), h2 (by omega)]
      · rw [up_ne _ _ hq]
    · unfold yE
      rw [yR_up hp]
      by_cases h10 : k < 10
      · simp [h10]
      · have : ¬ k < 40 := by omega
        simp [h10, this]
theorem yU_f {i : Nat} (hi : i < 10) {p : PS} (hp : pr i = some p) (j : Nat) (hj : j < 13) (hj2 : j ≠ 5 ∧ j ≠ 6 ∧ j ≠ 11) (v : Int) : ∀ k, yE cy ad ya yi (va_up pr i (some (va_up p.1 j v, p.2))) k = va_up (yE cy ad ya yi pr) (10 + 3 * i) (some (.inr (0, (yP ad i p).set j (.int (iI v))))) k :=
  yU_p hi hp _ 0 (by omega) (by
    rw [if_pos rfl]
    rcases (show j = 0 ∨ j = 1 ∨ j = 2 ∨ j = 3 ∨ j = 4 ∨ j = 7 ∨ j = 8 ∨ j = 9 ∨ j = 10 ∨ j = 12 by omega) with rfl | rfl | rfl | rfl | rfl | rfl | rfl | rfl | rfl | rfl <;> simp [yP, va_up]) (fun h => absurd rfl h) (fun _ => rfl) (fun _ => rfl)
theorem yU_g {i : Nat} (hi : i < 10) {p : PS} (hp : pr i = some p) (v : Int64) : ∀ k, yE cy ad ya yi (va_up pr i (some (p.1, p.2.1, p.2.2.1, v))) k = va_up (yE cy ad ya yi pr) (10 + 3 * i) (some (.inr (0, (yP ad i p).set 11 (.long v)))) k :=
  yU_p hi hp _ 0 (by omega) (by rw [if_pos rfl]; simp [yP]) (fun h => absurd rfl h) (fun _ => rfl) (fun _ => rfl)
theorem yU_q {i : Nat} (hi : i < 10) {p : PS} (hp : pr i = some p) (x : Nat) (v : Int) : ∀ k, yE cy ad ya yi (va_up pr i (some (p.1, va_up p.2.1 x v, p.2.2))) k = va_up (yE cy ad ya yi pr) (11 + 3 * i) (some (.inl (cy 0, 4, .inl (fun j => iI (va_up p.2.1 x v j))))) k := by
  have h := yU_p (cy := cy) (ad := ad) (ya := ya) (yi := yi) hi hp (p2 := (p.1, va_up p.2.1 x v, p.2.2)) _ 1 (by omega) rfl (fun _ => rfl) (fun h => absurd rfl h) (fun _ => rfl)
  rw [if_neg (by omega), if_pos rfl, show 10 + 1 + 3 * i = 11 + 3 * i by omega] at h
  exact h
theorem yU_r {i : Nat} (hi : i < 10) {p : PS} (hp : pr i = some p) (x : Nat) (v : Int) : ∀ k, yE cy ad ya yi (va_up pr i (some (p.1, p.2.1, va_up p.2.2.1 x v, p.2.2.2))) k = va_up (yE cy ad ya yi pr) (12 + 3 * i) (some (.inl (cy 0, 4, .inl (fun j => iI (va_up p.2.2.1 x v j))))) k := by
  have h := yU_p (cy := cy) (ad := ad) (ya := ya) (yi := yi) hi hp (p2 := (p.1, p.2.1, va_up p.2.2.1 x v, p.2.2.2)) _ 2 (by omega) rfl (fun _ => rfl) (fun _ => rfl) (fun h => absurd rfl h)
  rw [if_neg (by omega), if_neg (by omega), show 10 + 2 + 3 * i = 12 + 3 * i by omega] at h
  exact h
end YE
/-- the reference: its ints by field, its rows by field -/
def mO (ad : Nat → Nat) (mi : Nat → Int) : List Value := [.int (iI (mi 0)), .ref (ad 1), .int (iI (mi 2)), .int (iI (mi 3)), .int (iI (mi 4)), .int (iI (mi 5)), .int (iI (mi 6)), .ref (ad 7), .ref (ad 8), .ref (ad 9), .ref (ad 10), .ref (ad 11), .ref (ad 12), .ref (ad 13), .ref (ad 14), .ref (ad 15), .ref (ad 16), .ref (ad 17), .ref (ad 18)]
/-- a row's class and length -/
def mK (cy : Nat → ClassId) (k : Nat) : Option (ClassId × Nat) := match k with
  | 1 => some (cy 0, 1000)
  | 7 => some (cy 1, 11)
  | 8 => some (cy 0, 11)
  | 9 => some (cy 0, 11)
  | 10 => some (cy 0, 11)
  | 11 => some (cy 0, 11)
  | 12 => some (cy 0, 11)
  | 13 => some (cy 0, 44)
  | 14 => some (cy 0, 44)
  | 15 => some (cy 0, 11)
  | 16 => some (cy 0, 11)
  | 17 => some (cy 0, 11)
  | 18 => some (cy 1, 600)
  | _ => none
def mE (cy : Nat → ClassId) (ad : Nat → Nat) (mi : Nat → Int) (ma : Nat → Nat → Int) : Nat → Option va_E := fun k =>
  if k = 0 then some (.inr (2, mO ad mi)) else (mK cy k).map (fun q => .inl (q.1, q.2, .inl (fun j => iI (ma k j))))
section ME
variable {cy : Nat → ClassId} {ad : Nat → Nat} {mi : Nat → Int} {ma : Nat → Nat → Int}
theorem mE_0 : mE cy ad mi ma 0 = some (.inr (2, mO ad mi)) := rfl
theorem mE_a (k : Nat) {q : ClassId × Nat} (h0 : k ≠ 0) (h : mK cy k = some q) : mE cy ad mi ma k = some (.inl (q.1, q.2, .inl (fun j => iI (ma k j)))) := by
  unfold mE
  rw [if_neg h0, h]
  rfl
theorem mU_a (k : Nat) {q : ClassId × Nat} (h0 : k ≠ 0) (h : mK cy k = some q) (i : Nat) (v : Int) : ∀ r, mE cy ad mi (va_up ma k (va_up (ma k) i v)) r = va_up (mE cy ad mi ma) k (some (.inl (q.1, q.2, .inl (fun j => iI (va_up (ma k) i v j))))) r := by
  intro r
  by_cases hr : r = k
  · subst hr
    rw [up_same, mE_a r h0 h, up_same]
  · rw [up_ne _ _ hr]
    unfold mE
    rw [up_ne _ _ hr]
theorem mU_i (j : Nat) (hj : j = 0 ∨ j = 2 ∨ j = 3 ∨ j = 4 ∨ j = 5 ∨ j = 6) (v : Int) : ∀ r, mE cy ad (va_up mi j v) ma r = va_up (mE cy ad mi ma) 0 (some (.inr (2, (mO ad mi).set j (.int (iI v))))) r := by
  intro r
  by_cases hr : r = 0
  · subst hr
    rw [up_same, mE_0]
    rcases hj with rfl | rfl | rfl | rfl | rfl | rfl <;> simp [mO, va_up]
  · rw [up_ne _ _ hr]
    unfold mE
    rw [if_neg hr, if_neg hr]
end ME
end
section
/-! ===== what the document's words are worth, in integers ===== -/
theorem iI_max (a b : Int) (ha : zr a) (hb : zr b) : (if iI a < iI b then iI b else iI a) = iI (max a b) := by
  by_cases h : a < b
  · rw [if_pos ((iI_lt ha hb).mpr h), Int.max_eq_right (by omega)]
  · rw [if_neg (fun q => h ((iI_lt ha hb).mp q)), Int.max_eq_left (by omega)]
theorem iI_min (a b : Int) (ha : zr a) (hb : zr b) : (if iI b < iI a then iI b else iI a) = iI (min a b) := by
  by_cases h : b < a
  · rw [if_pos ((iI_lt hb ha).mpr h), Int.min_eq_right (by omega)]
  · rw [if_neg (fun q => h ((iI_lt hb ha).mp q)), Int.min_eq_left (by omega)]
/-- the gain of an hour of that temperature -/
def gn (t : Int) : Int := if t + 10 < 0 then 0 else t + 10
/-- the gains of the first n hours together; hours from 1000 on have none -/
def gs (T : Nat → Int) : Nat → Int
  | 0 => 0
  | n + 1 => gs T n + (if n < 1000 then gn (T n) else 0)
def gAt (T : Nat → Int) (h : Int) : Int := if 0 ≤ h ∧ h < 1000 then gn (T h.toNat) else 0
/-- the maturity from an hour to another one -/
def mat (T : Nat → Int) (a b : Int) : Int := if a < b then gs T b.toNat - gs T a.toNat else 0
def strg (m : Int) : Int := if 5000 ≤ m then 100 else if 2500 ≤ m then 75 + 25 * (m - 2500) / 2500 else if 1200 ≤ m then 50 + 25 * (m - 1200) / 1300 else if 500 ≤ m then 25 + 25 * (m - 500) / 700 else 25 * m / 500
/-- temperatures as they may be -/
def tOK (T : Nat → Int) : Prop := ∀ j, j < 1000 → -40 ≤ T j ∧ T j ≤ 50
theorem gn_b {t : Int} (h1 : -40 ≤ t) (h2 : t ≤ 50) : 0 ≤ gn t ∧ gn t ≤ 60 := by
  unfold gn
  split <;> omega
theorem gs_b {T : Nat → Int} (h : tOK T) : ∀ n, 0 ≤ gs T n ∧ gs T n ≤ 60 * n ∧ gs T n ≤ 60000
  | 0 => by simp [gs]
  | n + 1 => by
    have h1 := gs_b h n
    simp only [gs]
    by_cases hn : n < 1000
    · rw [if_pos hn]
      have h2 := gn_b (h n hn).1 (h n hn).2
      omega
    · rw [if_neg hn]
      omega
theorem gs_m {T : Nat → Int} (h : tOK T) (a : Nat) : ∀ d, gs T a ≤ gs T (a + d)
  | 0 => Int.le_refl _
  | d + 1 => by
    have h1 := gs_m h a d
    show gs T a ≤ gs T (a + d) + (if a + d < 1000 then gn (T (a + d)) else 0)
    by_cases hn : a + d < 1000
    · rw [if_pos hn]
      have h2 := gn_b (h _ hn).1 (h _ hn).2
      omega
    · rw [if_neg hn]
      omega
theorem gs_le {T : Nat → Int} (h : tOK T) {a b : Nat} (hab : a ≤ b) : gs T a ≤ gs T b := by
  have := gs_m h a (b - a)
  rwa [show a + (b - a) = b by omega] at this
theorem gs_top {T : Nat → Int} (b : Nat) : gs T (1000 + b) = gs T 1000 := by
  induction b with
  | zero => rfl
  | succ b ih =>
    show gs T (1000 + b) + (if 1000 + b < 1000 then gn (T (1000 + b)) else 0) = gs T 1000
    rw [if_neg (by omega), ih]
    omega
theorem gs_cap {T : Nat → Int} (b : Nat) (h : 1000 ≤ b) : gs T b = gs T 1000 := by
  have := gs_top (T := T) (b - 1000)
  rwa [show 1000 + (b - 1000) = b by omega] at this
theorem mat_b {T : Nat → Int} (h : tOK T) (a b : Int) : 0 ≤ mat T a b ∧ mat T a b ≤ 60000 := by
  unfold mat
  split
  · have h1 := gs_le h (a := a.toNat) (b := b.toNat) (by omega)
    have h2 := gs_b h a.toNat
    have h3 := gs_b h b.toNat
    omega
  · omega
theorem mat_s {T : Nat → Int} (a b : Int) (h0 : 0 ≤ a) (h : a ≤ b) : mat T a (b + 1) = mat T a b + gAt T b := by
  have e : gs T (b + 1).toNat = gs T b.toNat + (if b.toNat < 1000 then gn (T b.toNat) else 0) := by
    rw [show (b + 1).toNat = b.toNat + 1 by omega]
    rfl
  have e2 : gAt T b = (if b.toNat < 1000 then gn (T b.toNat) else 0) := by
    unfold gAt
    by_cases hb : b < 1000
    · rw [if_pos ⟨by omega, hb⟩, if_pos (by omega)]
    · rw [if_neg (by omega), if_neg (by omega)]
  unfold mat
  rw [if_pos (by omega), e, e2]
  by_cases hl : a < b
  · rw [if_pos hl]
    omega
  · rw [if_neg hl, show a = b by omega]
    omega
theorem mat_0 {T : Nat → Int} (a : Int) : mat T a a = 0 := by
  unfold mat
  rw [if_neg (by omega)]
theorem mat_m {T : Nat → Int} (h : tOK T) {a b d : Int} (hbd : b ≤ d) : mat T a b ≤ mat T a d := by
  unfold mat
  by_cases h1 : a < b
  · rw [if_pos h1, if_pos (by omega)]
    have := gs_le h (a := b.toNat) (b := d.toNat) (by omega)
    omega
  · rw [if_neg h1]
    split
    · have := gs_le h (a := a.toNat) (b := d.toNat) (by omega)
      omega
    · omega
theorem mat_cap {T : Nat → Int} (a b : Int) (h0 : 0 ≤ a) : mat T a b = if a < min b 1000 then gs T (min b 1000).toNat - gs T a.toNat else 0 := by
  unfold mat
  by_cases h1 : a < b
  · rw [if_pos h1]
    by_cases h2 : b ≤ 1000
    · rw [if_pos (by omega), show min b 1000 = b by omega]
    · rw [show min b 1000 = 1000 by omega, gs_cap b.toNat (by omega)]
      by_cases h3 : a < 1000
      · rw [if_pos h3]
        rfl
      · rw [if_neg h3, gs_cap a.toNat (by omega)]
        omega
  · rw [if_neg h1, if_neg (by omega)]
theorem strg_b {m : Int} (h : 0 ≤ m) : 0 ≤ strg m ∧ strg m ≤ 100 := by
  unfold strg
  repeat' split
  all_goals omega
theorem strg_m {a b : Int} (h0 : 0 ≤ a) (h : a ≤ b) : strg a ≤ strg b := by
  unfold strg
  repeat' split
  all_goals omega
end
section
theorem gAt_b {T : Nat → Int} (h : tOK T) (x : Int) : 0 ≤ gAt T x ∧ gAt T x ≤ 60 := by
  unfold gAt
  split
  · have := h x.toNat (by omega)
    exact gn_b this.1 this.2
  · omega
/-- a sum of the first n -/
def sl (f : Nat → Int) : Nat → Int
  | 0 => 0
  | n + 1 => sl f n + f n
theorem sl_c {f g : Nat → Int} : ∀ {n : Nat}, (∀ k, k < n → f k = g k) → sl f n = sl g n
  | 0, _ => rfl
  | n + 1, h => by
    show sl f n + f n = sl g n + g n
    rw [sl_c (fun k hk => h k (by omega)), h n (by omega)]
theorem sl_b {f : Nat → Int} {a b : Int} : ∀ {n : Nat}, (∀ k, k < n → a ≤ f k ∧ f k ≤ b) → a * n ≤ sl f n ∧ sl f n ≤ b * n
  | 0, _ => by simp [sl]
  | n + 1, h => by
    have h1 := sl_b (f := f) (a := a) (b := b) (n := n) (fun k hk => h k (by omega))
    have h2 := h n (by omega)
    have e1 : a * ((n + 1 : Nat) : Int) = a * n + a := by rw [Int.natCast_add, Int.mul_add]; simp
    have e2 : b * ((n + 1 : Nat) : Int) = b * n + b := by rw [Int.natCast_add, Int.mul_add]; simp
    show _ ≤ sl f n + f n ∧ sl f n + f n ≤ _
    omega
def endS (rt st vol : Int) (ln : Nat → Int) (nb : Int) : Int := st + (vol + rt - 1) / rt + sl ln nb.toNat
def fnd (P : Int → Prop) [DecidablePred P] : Int → Nat → Int
  | h, 0 => h
  | h, n + 1 => if P h then h else fnd P (h + 1) n
theorem fnd_s (P : Int → Prop) [DecidablePred P] {h : Int} (hh : h < 1000) : fnd P h (1000 - h).toNat = if P h then h else fnd P (h + 1) (1000 - (h + 1)).toNat := by
  rw [show (1000 - h).toNat = (1000 - (h + 1)).toNat + 1 by omega]
  rfl
theorem fnd_e (P : Int → Prop) [DecidablePred P] {h : Int} (hh : 1000 ≤ h) : fnd P h (1000 - h).toNat = h := by
  rw [show (1000 - h).toNat = 0 by omega]
  rfl
theorem fnd_b (P : Int → Prop) [DecidablePred P] : ∀ (n : Nat) (h : Int), h ≤ fnd P h n ∧ fnd P h n ≤ h + n ∧ (fnd P h n < h + n → P (fnd P h n)) ∧ ∀ x, h ≤ x → x < fnd P h n → ¬ P x
  | 0, h => ⟨Int.le_refl _, by simp [fnd], fun q => by simp [fnd] at q, fun x h1 h2 => by simp [fnd] at h2; omega⟩
  | n + 1, h => by
    obtain ⟨h1, h2, h3, h4⟩ := fnd_b P n (h + 1)
    show h ≤ (if P h then h else fnd P (h + 1) n) ∧ (if P h then h else fnd P (h + 1) n) ≤ h + (n + 1 : Nat) ∧ ((if P h then h else fnd P (h + 1) n) < h + (n + 1 : Nat) → P (if P h then h else fnd P (h + 1) n)) ∧ ∀ x, h ≤ x → x < (if P h then h else fnd P (h + 1) n) → ¬ P x
    by_cases hP : P h
    · simp only [if_pos hP]
      refine ⟨Int.le_refl _, by omega, fun _ => hP, fun x a b => by omega⟩
    · simp only [if_neg hP]
      refine ⟨by omega, by omega, fun q => h3 (by omega), fun x a b => ?_⟩
      by_cases hx : x = h
      · rw [hx]; exact hP
      · exact h4 x (by omega) b
/-- the hour of striking; 1000 or more: never -/
def strikeS (T : Nat → Int) (w e : Int) : Int := fnd (fun h => w ≤ strg (mat T e h)) e (1000 - e).toNat
theorem strikeS_b (T : Nat → Int) (w e : Int) : e ≤ strikeS T w e ∧ (e ≤ 1000 → strikeS T w e ≤ 1000) ∧ (strikeS T w e < 1000 → w ≤ strg (mat T e (strikeS T w e))) ∧ ∀ x, e ≤ x → x < strikeS T w e → strg (mat T e x) < w := by
  obtain ⟨h1, h2, h3, h4⟩ := fnd_b (fun h => w ≤ strg (mat T e h)) (1000 - e).toNat e
  refine ⟨h1, fun h => ?_, fun h => h3 ?_, fun x a b => by have := h4 x a b; omega⟩
  · unfold strikeS; omega
  · unfold strikeS at h; omega
def standS (su st : Int) : Int := if st < su then 0 else st - su
def freeS (cl k : Int) : Int := if k < 1000 then k + cl else 1000
/-- the bounds of what is told of a pour -/
def pOK (ma : Nat → Nat → Int) (p : Nat) : Prop := (0 ≤ ma 8 p ∧ ma 8 p ≤ 900) ∧ (1 ≤ ma 9 p ∧ ma 9 p ≤ 200) ∧ (1 ≤ ma 10 p ∧ ma 10 p ≤ 30) ∧ (1 ≤ ma 11 p ∧ ma 11 p ≤ 100) ∧ (0 ≤ ma 12 p ∧ ma 12 p ≤ 4) ∧ ∀ k : Nat, (k : Int) < ma 12 p → (0 ≤ ma 13 (4 * p + k) ∧ ma 13 (4 * p + k) ≤ 199) ∧ 1 ≤ ma 14 (4 * p + k) ∧ ma 14 (4 * p + k) ≤ 9
def gOK (mi : Nat → Int) : Prop := (0 ≤ mi 2 ∧ mi 2 ≤ 60) ∧ (1 ≤ mi 3 ∧ mi 3 ≤ 50) ∧ (1 ≤ mi 4 ∧ mi 4 ≤ 50) ∧ (0 ≤ mi 5 ∧ mi 5 ≤ 24) ∧ 0 ≤ mi 6 ∧ mi 6 ≤ 24
def mOK (mi : Nat → Int) (ma : Nat → Nat → Int) : Prop := tOK (ma 1) ∧ gOK mi ∧ (∀ j, j < 11 → ma 7 j = 0 ∨ ma 7 j = 1) ∧ ∀ p, p < 10 → ma 7 p = 1 → pOK ma p
def endM (mi : Nat → Int) (ma : Nat → Nat → Int) (p : Nat) : Int := endS (min (mi 3) (mi 4)) (ma 8 p) (ma 9 p) (fun k => ma 14 (4 * p + k)) (ma 12 p)
theorem div_b {a b : Int} (ha : 0 ≤ a) (hb : 1 ≤ b) : 0 ≤ a / b ∧ a / b ≤ a := ⟨Int.ediv_nonneg ha (by omega), by
  have h1 := Int.mul_ediv_self_le (x := a) (k := b) (by omega)
  have h2 : 0 ≤ a / b := Int.ediv_nonneg ha (by omega)
  have h3 : 1 * (a / b) ≤ b * (a / b) := Int.mul_le_mul_of_nonneg_right hb h2
  omega⟩
theorem endM_b {mi : Nat → Int} {ma : Nat → Nat → Int} {p : Nat} (hg : gOK mi) (hp : pOK ma p) : 0 ≤ sl (fun k => ma 14 (4 * p + k)) (ma 12 p).toNat ∧ sl (fun k => ma 14 (4 * p + k)) (ma 12 p).toNat ≤ 36 ∧ 0 ≤ (ma 9 p + min (mi 3) (mi 4) - 1) / min (mi 3) (mi 4) ∧ (ma 9 p + min (mi 3) (mi 4) - 1) / min (mi 3) (mi 4) ≤ 249 ∧ 0 ≤ endM mi ma p ∧ endM mi ma p ≤ 1185 := by
  obtain ⟨h1, h2, h3, h4, h5, h6⟩ := hp
  obtain ⟨g1, g2, g3, g4, g5⟩ := hg
  have hs := sl_b (f := fun k => ma 14 (4 * p + k)) (a := 0) (b := 9) (n := (ma 12 p).toNat) (fun k hk => by have := h6 k (by omega); constructor <;> (try simp only []) <;> omega)
  have hd := div_b (a := ma 9 p + min (mi 3) (mi 4) - 1) (b := min (mi 3) (mi 4)) (by omega) (by omega)
  unfold endM endS
  refine ⟨by omega, by omega, hd.1, by omega, by omega, by omega⟩
/-- the rows of a pour's working out -/
def wV (mi : Nat → Int) (ma : Nat → Nat → Int) (p : Nat) (mb : Nat → Nat → Int) : Prop := mb 15 p = standS (mi 5) (ma 8 p) ∧ mb 16 p = (if strikeS (ma 1) (ma 11 p) (endM mi ma p) < 1000 then strikeS (ma 1) (ma 11 p) (endM mi ma p) else -1) ∧ mb 17 p = freeS (mi 6) (strikeS (ma 1) (ma 11 p) (endM mi ma p))
def rU (k p : Nat) (ma mb : Nat → Nat → Int) : Prop := ∀ r j, (r ≠ k ∨ j ≠ p) → mb r j = ma r j
theorem rU_r {k p : Nat} {ma : Nat → Nat → Int} : rU k p ma ma := fun _ _ _ => rfl
theorem rU_s {k p : Nat} {ma mb mc : Nat → Nat → Int} {v : Int} (h : rU k p ma mb) (e : mc = va_up mb k (va_up (mb k) p v)) : rU k p ma mc ∧ mc k p = v := by
  subst e
  refine ⟨fun r j hj => ?_, by rw [up_same, up_same]⟩
  by_cases hr : r = k
  · subst hr
    rw [up_same, up_ne _ _ (by rcases hj with q | q; exact absurd rfl q; exact q)]
    exact h r j hj
  · rw [up_ne _ _ hr]
    exact h r j hj
theorem rU_row {k p r : Nat} {ma mb : Nat → Nat → Int} (h : rU k p ma mb) (hr : r ≠ k) : mb r = ma r := funext fun j => h r j (Or.inl hr)
/-- only the rows 15, 16, 17 at p may differ -/
def wU (p : Nat) (ma mb : Nat → Nat → Int) : Prop := ∀ r j, (r < 15 ∨ 17 < r ∨ j ≠ p) → mb r j = ma r j
/-- .. at places below 10 -/
def aU (ma mb : Nat → Nat → Int) : Prop := ∀ r j, (r < 15 ∨ 17 < r ∨ 10 ≤ j) → mb r j = ma r j
theorem wU_row {p r : Nat} {ma mb : Nat → Nat → Int} (h : wU p ma mb) (hr : r < 15 ∨ 17 < r) : mb r = ma r := funext fun j => h r j (by omega)
theorem aU_row {r : Nat} {ma mb : Nat → Nat → Int} (h : aU ma mb) (hr : r < 15 ∨ 17 < r) : mb r = ma r := funext fun j => h r j (by omega)
theorem pOK_c {ma mb : Nat → Nat → Int} {p : Nat} (h8 : mb 8 = ma 8) (h9 : mb 9 = ma 9) (h10 : mb 10 = ma 10) (h11 : mb 11 = ma 11) (h12 : mb 12 = ma 12) (h13 : mb 13 = ma 13) (h14 : mb 14 = ma 14) : pOK mb p ↔ pOK ma p := by
  unfold pOK
  rw [h8, h9, h10, h11, h12, h13, h14]
theorem endM_c {mi : Nat → Int} {ma mb : Nat → Nat → Int} {p : Nat} (h8 : mb 8 = ma 8) (h9 : mb 9 = ma 9) (h12 : mb 12 = ma 12) (h14 : mb 14 = ma 14) : endM mi mb p = endM mi ma p := by
  unfold endM
  rw [h8, h9, h12, h14]
/-- the need of an hour, as the rows 15 and 17 say -/
def nsum (ma : Nat → Nat → Int) (h : Int) : Nat → Int
  | 0 => 0
  | p + 1 => nsum ma h p + (if ma 7 p = 1 ∧ ma 15 p ≤ h ∧ h < ma 17 p then ma 10 p else 0)
theorem nsum_b {ma : Nat → Nat → Int} {h : Int} : ∀ {n : Nat}, (∀ p, p < n → ma 7 p = 1 → 1 ≤ ma 10 p ∧ ma 10 p ≤ 30) → 0 ≤ nsum ma h n ∧ nsum ma h n ≤ 30 * n
  | 0, _ => by simp [nsum]
  | n + 1, hp => by
    have h1 := nsum_b (ma := ma) (h := h) (n := n) (fun p q => hp p (by omega))
    have h2 := hp n (by omega)
    simp only [nsum]
    split
    · rename_i hc
      have := h2 hc.1
      omega
    · omega
theorem up_up {α : Type} (f : Nat → α) (k : Nat) (v w : α) : va_up (va_up f k v) k w = va_up f k w := by
  funext j
  unfold va_up
  split <;> rfl
end
section
set_option maxHeartbeats 4000000 in
set_option maxRecDepth 100000 in
theorem c_X2_in (l : Launch) (D : va_G) (cy : Nat → ClassId) (A : Nat → Prop) (ad : Nat → Nat) (H0 : Heap) (v a b : Int) (h1 : zr v) (h2 : zr a) (h3 : zr b) : Met l yX2_in wsX2_in ({ frames := 0, cells := 0, slots := 0, locals := 0 }) (zPc D cy A [.int (iI (v)), .int (iI (a)), .int (iI (b))] H0) (zQi (fun z H1 => H1 = H0 ∧ ((z = 1 ∧ a ≤ v ∧ v ≤ b) ∨ (z = 0 ∧ (v < a ∨ b < v)))) A) 0 0 A := by
  refine Met.ofW (cc := cX2_in) (maxL := 3) (ret := (some .boolean)) (by decide) rfl ?_
  intro pg en s mt args below meth c s₁ B hml hv
  obtain ⟨rfl, hH, hE⟩ := hv
  subst hH
  have hx := B.exec
  have hb := B.bytes
  have hr := B.returns
  have hts := atoms_spec (ws := wsX2_in) B.pre
  have hown : s.vm.findClass RX2 = some mt.cls := findClass_of_methodNamed B.named
  have hlocks := B.notSynchronized
  have hS : va_S A s.heap s.heap [] := va_S.rf
  have hl := lv_entry ([.int (iI (v)), .int (iI (a)), .int (iI (b))]) (n := 3) (Nat.le_of_ble_eq_true rfl)
  rw [lg_entry_eq]
  generalize (lg_sl ([.int (iI (v)), .int (iI (a)), .int (iI (b))]) ++ List.replicate (3 - (lg_sl ([.int (iI (v)), .int (iI (a)), .int (iI (b))])).length) Slot.unset).toArray = ls at hl ⊢
  have hl : lv_has ls 3 [(0, .int (iI (v))), (1, .int (iI (a))), (2, .int (iI (b)))] := hl
  refine lv_iload_n hx hb dX2_in_0 rfl (lv_at hl 0 rfl) ?_
  refine lv_iload_n hx hb dX2_in_1 rfl (lv_at hl 1 rfl) ?_
  refine zc_lt (tgt := 14) hx hb dX2_in_2 (by decide) (by first | decide | (constructor <;> omega)) (by first | decide | (constructor <;> omega)) (fun c_2 => ?_) (fun c_2 => ?_)
  · refine zi_const hx hb dX2_in_14 ?_
    refine zzret hx hb hr hlocks hS (Nat.le_of_ble_eq_true rfl) (Nat.le_of_ble_eq_true rfl) (by omega) ?_ dX2_in_15
    exact ⟨rfl, by omega⟩
  · refine lv_iload_n hx hb dX2_in_5 rfl (lv_at hl 0 rfl) ?_
    refine lv_iload_n hx hb dX2_in_6 rfl (lv_at hl 2 rfl) ?_
    refine zc_gt (tgt := 14) hx hb dX2_in_7 (by decide) (by first | decide | (constructor <;> omega)) (by first | decide | (constructor <;> omega)) (fun c_7 => ?_) (fun c_7 => ?_)
    · refine zi_const hx hb dX2_in_14 ?_
      refine zzret hx hb hr hlocks hS (Nat.le_of_ble_eq_true rfl) (Nat.le_of_ble_eq_true rfl) (by omega) ?_ dX2_in_15
      exact ⟨rfl, by omega⟩
    · refine zi_const hx hb dX2_in_10 ?_
      refine lv_goto (tgt := 15) hx hb dX2_in_11 (by decide) ?_
      refine zzret hx hb hr hlocks hS (Nat.le_of_ble_eq_true rfl) (Nat.le_of_ble_eq_true rfl) (by omega) ?_ dX2_in_15
      exact ⟨rfl, by omega⟩

set_option maxHeartbeats 4000000 in
set_option maxRecDepth 100000 in
theorem c_X2_isHour (l : Launch) (D : va_G) (cy : Nat → ClassId) (A : Nat → Prop) (ad : Nat → Nat) (H0 : Heap) (h : Int) (h1 : zr h) : Met l yX2_isHour wsX2_isHour ({ frames := 1, cells := 0, slots := 0, locals := 22 }) (zPc D cy A [.int (iI (h))] H0) (zQi (fun z H1 => H1 = H0 ∧ ((z = 1 ∧ 0 ≤ h ∧ h < 1000) ∨ (z = 0 ∧ (h < 0 ∨ 1000 ≤ h)))) A) 0 0 A := by
  refine Met.ofW (cc := cX2_isHour) (maxL := 1) (ret := (some .boolean)) (by decide) rfl ?_
  intro pg en s mt args below meth c s₁ B hml hv
  obtain ⟨rfl, hH, hE⟩ := hv
  subst hH
  have hx := B.exec
  have hb := B.bytes
  have hr := B.returns
  have hts := atoms_spec (ws := wsX2_isHour) B.pre
  have hown : s.vm.findClass RX2 = some mt.cls := findClass_of_methodNamed B.named
  have hlocks := B.notSynchronized
  have hS : va_S A s.heap s.heap [] := va_S.rf
  have hl := lv_entry ([.int (iI (h))]) (n := 1) (Nat.le_of_ble_eq_true rfl)
  rw [lg_entry_eq]
  generalize (lg_sl ([.int (iI (h))]) ++ List.replicate (1 - (lg_sl ([.int (iI (h))])).length) Slot.unset).toArray = ls at hl ⊢
  have hl : lv_has ls 1 [(0, .int (iI (h)))] := hl
  refine lv_iload_n hx hb dX2_isHour_0 rfl (lv_at hl 0 rfl) ?_
  refine zi_const hx hb dX2_isHour_1 ?_
  refine zi_sipush hx hb dX2_isHour_2 (by decide) ?_
  refine zcalli (va_runS (As := [.int (iI (h)), .int (iI (0)), .int (iI (999))]) (rest := []) ⟨hx, hb, hml, hown, hts⟩ (c_X2_in l D cy A ad _ (h) (0) (999) (by first | decide | (constructor <;> omega)) (by first | decide | (constructor <;> omega)) (by first | decide | (constructor <;> omega))) (va_cwS 3 hts gX2_isHour_X2_in rfl rfl rfl (by decide +kernel) ⟨(Nat.le_of_ble_eq_true rfl), (Nat.le_of_ble_eq_true rfl)⟩) (zPS hE hS) rfl rfl hl.1 rfl (lv_room (Nat.le_of_ble_eq_true rfl)) dX2_isHour_5 ⟨(Nat.le_of_ble_eq_true rfl), (Nat.le_of_ble_eq_true rfl)⟩) hS (fun z_5 H1 locs hz_5 hq hz1 hk1 hS => ?_)
  obtain ⟨hqe, hv_5⟩ := hq
  replace hqe := hqe.symm
  subst hqe
  refine zzret hx hb hr hlocks hS (Nat.le_of_ble_eq_true rfl) (Nat.le_of_ble_eq_true rfl) (by omega) ?_ dX2_isHour_8
  exact ⟨rfl, by omega⟩

set_option maxHeartbeats 4000000 in
set_option maxRecDepth 100000 in
theorem c_X2_isPour (l : Launch) (D : va_G) (cy : Nat → ClassId) (A : Nat → Prop) (ad : Nat → Nat) (mi : Nat → Int) (ma : Nat → Nat → Int) (H0 : Heap) (p : Int) (hw : zW D A ad (mE cy ad mi ma) H0) (h1 : zr p) (hb7 : ∀ j, j < 11 → ma 7 j = 0 ∨ ma 7 j = 1) : Met l yX2_isPour wsX2_isPour ({ frames := 1, cells := 0, slots := 0, locals := 22 }) (zPc D cy A [.ref (ad 0), .int (iI (p))] H0) (zQi (fun z H1 => H1 = H0 ∧ ((z = 1 ∧ 0 ≤ p ∧ p < 10 ∧ ma 7 p.toNat = 1) ∨ (z = 0 ∧ (p < 0 ∨ 10 ≤ p ∨ ma 7 p.toNat = 0)))) A) 0 0 A := by
  refine Met.ofW (cc := cX2_isPour) (maxL := 2) (ret := (some .boolean)) (by decide) rfl ?_
  intro pg en s mt args below meth c s₁ B hml hv
  obtain ⟨rfl, hH, hE⟩ := hv
  subst hH
  have hx := B.exec
  have hb := B.bytes
  have hr := B.returns
  have hts := atoms_spec (ws := wsX2_isPour) B.pre
  have hown : s.vm.findClass RX2 = some mt.cls := findClass_of_methodNamed B.named
  have hlocks := B.notSynchronized
  have hinX2 : ∀ w ∈ u_ws RX2 TX2 19, w ∈ wsX2_isPour := by decide +kernel
  have hS : va_S A s.heap s.heap [] := va_S.rf
  have hl := lv_entry ([.ref (ad 0), .int (iI (p))]) (n := 2) (Nat.le_of_ble_eq_true rfl)
  rw [lg_entry_eq]
  generalize (lg_sl ([.ref (ad 0), .int (iI (p))]) ++ List.replicate (2 - (lg_sl ([.ref (ad 0), .int (iI (p))])).length) Slot.unset).toArray = ls at hl ⊢
  have hl : lv_has ls 2 [(0, .ref (ad 0)), (1, .int (iI (p)))] := hl
  refine lv_iload_n hx hb dX2_isPour_0 rfl (lv_at hl 1 rfl) ?_
  refine zi_const hx hb dX2_isPour_1 ?_
  refine zi_bipush hx hb dX2_isPour_2 (by decide) ?_
  refine zcalli (va_runS (As := [.int (iI (p)), .int (iI (0)), .int (iI (9))]) (rest := []) ⟨hx, hb, hml, hown, hts⟩ (c_X2_in l D cy A ad _ (p) (0) (9) (by first | decide | (constructor <;> omega)) (by first | decide | (constructor <;> omega)) (by first | decide | (constructor <;> omega))) (va_cwS 3 hts gX2_isPour_X2_in rfl rfl rfl (by decide +kernel) ⟨(Nat.le_of_ble_eq_true rfl), (Nat.le_of_ble_eq_true rfl)⟩) (zPS hE hS) rfl rfl hl.1 rfl (lv_room (Nat.le_of_ble_eq_true rfl)) dX2_isPour_4 ⟨(Nat.le_of_ble_eq_true rfl), (Nat.le_of_ble_eq_true rfl)⟩) hS (fun z_4 H1 locs hz_4 hq hz1 hk1 hS => ?_)
  obtain ⟨hqe, hv_4⟩ := hq
  replace hqe := hqe.symm
  subst hqe
  refine zf_eq (tgt := 23) hx hb dX2_isPour_7 (by decide) (by first | decide | (constructor <;> omega)) (fun c_7 => ?_) (fun c_7 => ?_)
  · refine zi_const hx hb dX2_isPour_23 ?_
    refine zzret hx hb hr hlocks hS (Nat.le_of_ble_eq_true rfl) (Nat.le_of_ble_eq_true rfl) (by omega) ?_ dX2_isPour_24
    exact ⟨rfl, by omega⟩
  · refine lv_aload_n hx hb dX2_isPour_10 rfl (lv_at hl 0 rfl) ?_
    refine zget (C := RX2) (T := TX2) (N := 19) hx hb hts hinX2 hown hE hw 0 mE_0 rfl 7 (by decide) (hts (.fieldLink RX2 29 "FormworkYardModel" "isThere" "[Z") (by decide +kernel)) rfl dX2_isPour_11 ?_
    refine lv_iload_n hx hb dX2_isPour_14 rfl (lv_at hl 1 rfl) ?_
    refine zzald hx hb hE hw 7 (mE_a 7 (by decide) rfl) (p).toNat (by omega) (by omega) (by omega) dX2_isPour_15 ?_
    refine zi_top (fun v_15 hv_15 => ?_)
    have hB := hb7 p.toNat (by omega)
    refine zf_eq (tgt := 23) hx hb dX2_isPour_16 (by decide) (by first | decide | (constructor <;> omega)) (fun c_16 => ?_) (fun c_16 => ?_)
    · refine zi_const hx hb dX2_isPour_23 ?_
      refine zzret hx hb hr hlocks hS (Nat.le_of_ble_eq_true rfl) (Nat.le_of_ble_eq_true rfl) (by omega) ?_ dX2_isPour_24
      exact ⟨rfl, by omega⟩
    · refine zi_const hx hb dX2_isPour_19 ?_
      refine lv_goto (tgt := 24) hx hb dX2_isPour_20 (by decide) ?_
      refine zzret hx hb hr hlocks hS (Nat.le_of_ble_eq_true rfl) (Nat.le_of_ble_eq_true rfl) (by omega) ?_ dX2_isPour_24
      exact ⟨rfl, by omega⟩

set_option maxHeartbeats 4000000 in
set_option maxRecDepth 100000 in
theorem c_X2_gain (l : Launch) (D : va_G) (cy : Nat → ClassId) (A : Nat → Prop) (ad : Nat → Nat) (mi : Nat → Int) (ma : Nat → Nat → Int) (H0 : Heap) (h : Int) (hw : zW D A ad (mE cy ad mi ma) H0) (h1 : zr h) (ht : tOK (ma 1)) : Met l yX2_gain wsX2_gain ({ frames := 2, cells := 0, slots := 0, locals := 42 }) (zPc D cy A [.ref (ad 0), .int (iI (h))] H0) (zQi (fun z H1 => H1 = H0 ∧ z = gAt (ma 1) h) A) 0 0 A := by
  refine Met.ofW (cc := cX2_gain) (maxL := 3) (ret := (some .int)) (by decide) rfl ?_
  intro pg en s mt args below meth c s₁ B hml hv
  obtain ⟨rfl, hH, hE⟩ := hv
  subst hH
  have hx := B.exec
  have hb := B.bytes
  have hr := B.returns
  have hts := atoms_spec (ws := wsX2_gain) B.pre
  have hown : s.vm.findClass RX2 = some mt.cls := findClass_of_methodNamed B.named
  have hlocks := B.notSynchronized
  have hinX2 : ∀ w ∈ u_ws RX2 TX2 19, w ∈ wsX2_gain := by decide +kernel
  have hS : va_S A s.heap s.heap [] := va_S.rf
  have hl := lv_entry ([.ref (ad 0), .int (iI (h))]) (n := 3) (Nat.le_of_ble_eq_true rfl)
  rw [lg_entry_eq]
  generalize (lg_sl ([.ref (ad 0), .int (iI (h))]) ++ List.replicate (3 - (lg_sl ([.ref (ad 0), .int (iI (h))])).length) Slot.unset).toArray = ls at hl ⊢
  have hl : lv_has ls 3 [(0, .ref (ad 0)), (1, .int (iI (h)))] := hl
  refine lv_iload_n hx hb dX2_gain_0 rfl (lv_at hl 1 rfl) ?_
  refine zcalli (va_runS (As := [.int (iI (h))]) (rest := []) ⟨hx, hb, hml, hown, hts⟩ (c_X2_isHour l D cy A ad _ (h) (by first | decide | (constructor <;> omega))) (va_cwS 1 hts gX2_gain_X2_isHour rfl rfl rfl (by decide +kernel) ⟨(Nat.le_of_ble_eq_true rfl), (Nat.le_of_ble_eq_true rfl)⟩) (zPS hE hS) rfl rfl hl.1 rfl (lv_room (Nat.le_of_ble_eq_true rfl)) dX2_gain_1 ⟨(Nat.le_of_ble_eq_true rfl), (Nat.le_of_ble_eq_true rfl)⟩) hS (fun z_1 H1 locs hz_1 hq hz1 hk1 hS => ?_)
  obtain ⟨hqe, hv_1⟩ := hq
  replace hqe := hqe.symm
  subst hqe
  refine zf_eq (tgt := 19) hx hb dX2_gain_4 (by decide) (by first | decide | (constructor <;> omega)) (fun c_4 => ?_) (fun c_4 => ?_)
  · refine zi_const hx hb dX2_gain_19 ?_
    refine lv_istore_n (lv' := [(2, .int (iI (0))), (0, .ref (ad 0)), (1, .int (iI (h)))]) hx hb dX2_gain_20 rfl hl (by decide) rfl (fun ls hl => ?_)
    refine lv_iload_n hx hb dX2_gain_21 rfl (lv_at hl 0 rfl) ?_
    refine zf_ge (tgt := 29) hx hb dX2_gain_22 (by decide) (by first | decide | (constructor <;> omega)) (fun c_22 => ?_) (fun c_22 => ?_)
    · refine lv_iload_n hx hb dX2_gain_29 rfl (lv_at hl 0 rfl) ?_
      refine ziret hx hb hr hlocks hS (Nat.le_of_ble_eq_true rfl) (Nat.le_of_ble_eq_true rfl) (by first | decide | (constructor <;> omega)) ?_ dX2_gain_30
      refine ⟨rfl, ?_⟩
      unfold gAt gn
      repeat' split
      all_goals omega
    · exfalso; omega
  · refine lv_aload_n hx hb dX2_gain_7 rfl (lv_at hl 0 rfl) ?_
    refine zget (C := RX2) (T := TX2) (N := 19) hx hb hts hinX2 hown hE hw 0 mE_0 rfl 1 (by decide) (hts (.fieldLink RX2 7 "FormworkYardModel" "temperatures" "[I") (by decide +kernel)) rfl dX2_gain_8 ?_
    refine lv_iload_n hx hb dX2_gain_11 rfl (lv_at hl 1 rfl) ?_
    refine ziald hx hb hE hw 1 (mE_a 1 (by decide) rfl) (h).toNat (by omega) (by omega) (by omega) dX2_gain_12 ?_
    refine zi_top (fun v_12 hv_12 => ?_)
    have hT := ht h.toNat (by omega)
    refine zi_bipush hx hb dX2_gain_13 (by decide) ?_
    refine zi_add hx hb dX2_gain_15 ?_
    refine lv_goto (tgt := 20) hx hb dX2_gain_16 (by decide) ?_
    refine zi_top (fun x_20 hx_20 => ?_)
    refine lv_istore_n (lv' := [(2, .int (iI (x_20))), (0, .ref (ad 0)), (1, .int (iI (h)))]) hx hb dX2_gain_20 rfl hl (by decide) rfl (fun ls hl => ?_)
    refine lv_iload_n hx hb dX2_gain_21 rfl (lv_at hl 0 rfl) ?_
    refine zf_ge (tgt := 29) hx hb dX2_gain_22 (by decide) (by first | decide | (constructor <;> omega)) (fun c_22 => ?_) (fun c_22 => ?_)
    · refine lv_iload_n hx hb dX2_gain_29 rfl (lv_at hl 0 rfl) ?_
      refine ziret hx hb hr hlocks hS (Nat.le_of_ble_eq_true rfl) (Nat.le_of_ble_eq_true rfl) (by first | decide | (constructor <;> omega)) ?_ dX2_gain_30
      refine ⟨rfl, ?_⟩
      unfold gAt gn
      repeat' split
      all_goals omega
    · refine zi_const hx hb dX2_gain_25 ?_
      refine lv_goto (tgt := 30) hx hb dX2_gain_26 (by decide) ?_
      refine ziret hx hb hr hlocks hS (Nat.le_of_ble_eq_true rfl) (Nat.le_of_ble_eq_true rfl) (by first | decide | (constructor <;> omega)) ?_ dX2_gain_30
      refine ⟨rfl, ?_⟩
      unfold gAt gn
      repeat' split
      all_goals omega

set_option maxHeartbeats 4000000 in
set_option maxRecDepth 100000 in
theorem c_X2_sum (l : Launch) (D : va_G) (cy : Nat → ClassId) (A : Nat → Prop) (ad : Nat → Nat) (mi : Nat → Int) (ma : Nat → Nat → Int) (H0 : Heap) (a b : Int) (hw : zW D A ad (mE cy ad mi ma) H0) (h1 : 0 ≤ a ∧ a ≤ 3000) (h2 : -3000 ≤ b ∧ b ≤ 3000) (ht : tOK (ma 1)) : Met l yX2_sum wsX2_sum ({ frames := 3, cells := 0, slots := 0, locals := 64 }) (zPc D cy A [.ref (ad 0), .int (iI (a)), .int (iI (b))] H0) (zQi (fun z H1 => H1 = H0 ∧ z = mat (ma 1) a b) A) 0 0 A := by
  refine Met.ofW (cc := cX2_sum) (maxL := 5) (ret := (some .int)) (by decide) rfl ?_
  intro pg en s mt args below meth c s₁ B hml hv
  obtain ⟨rfl, hH, hE⟩ := hv
  subst hH
  have hx := B.exec
  have hb := B.bytes
  have hr := B.returns
  have hts := atoms_spec (ws := wsX2_sum) B.pre
  have hown : s.vm.findClass RX2 = some mt.cls := findClass_of_methodNamed B.named
  have hlocks := B.notSynchronized
  have hS : va_S A s.heap s.heap [] := va_S.rf
  have hl := lv_entry ([.ref (ad 0), .int (iI (a)), .int (iI (b))]) (n := 5) (Nat.le_of_ble_eq_true rfl)
  rw [lg_entry_eq]
  generalize (lg_sl ([.ref (ad 0), .int (iI (a)), .int (iI (b))]) ++ List.replicate (5 - (lg_sl ([.ref (ad 0), .int (iI (a)), .int (iI (b))])).length) Slot.unset).toArray = ls at hl ⊢
  have hl : lv_has ls 5 [(0, .ref (ad 0)), (1, .int (iI (a))), (2, .int (iI (b)))] := hl
  refine zi_const hx hb dX2_sum_0 ?_
  refine lv_istore_n (lv' := [(3, .int (iI (0))), (0, .ref (ad 0)), (1, .int (iI (a))), (2, .int (iI (b)))]) hx hb dX2_sum_1 rfl hl (by decide) rfl (fun ls hl => ?_)
  refine lv_iload_n hx hb dX2_sum_2 rfl (lv_at hl 2 rfl) ?_
  refine lv_istore (lv' := [(4, .int (iI (a))), (3, .int (iI (0))), (0, .ref (ad 0)), (1, .int (iI (a))), (2, .int (iI (b)))]) hx hb dX2_sum_3 hl (by decide) rfl (fun ls hl => ?_)
  have loop_5 : ∀ (n : Nat) (h w : Int) (locs : List Loc) (ls : Array Slot), (b - h).toNat < n → (a ≤ h) → (h ≤ max a b) → (w = mat (ma 1) a h) → va_S A s.heap s.heap locs → lv_has ls 5 [(4, .int (iI (h))), (3, .int (iI (w))), (0, .ref (ad 0)), (1, .int (iI (a))), (2, .int (iI (b)))] → W pg l en (headSpec wsX2_sum ({ frames := 3, cells := 0, slots := 0, locals := 64 })).room s mt ([.ref (ad 0), .int (iI (a)), .int (iI (b))] : List Value).toArray below meth c s.heap locs 0 0 (MQ below (zQi (fun z H1 => H1 = s.heap ∧ z = mat (ma 1) a b) A) ([.ref (ad 0), .int (iI (a)), .int (iI (b))] : List Value).toArray s 0 0 A) (F0 mt 5 ls []) := by
    intro n
    induction n with
    | zero =>
      intro h w locs ls hm hi hj hk
      exfalso; omega
    | succ n ih =>
      intro h w locs ls hm hi hj hk hS hl
      have hmb := mat_b ht a h
      refine lv_iload hx hb dX2_sum_5 (lv_at hl 0 rfl) ?_
      refine lv_iload_n hx hb dX2_sum_7 rfl (lv_at hl 4 rfl) ?_
      refine zc_ge (tgt := 26) hx hb dX2_sum_8 (by decide) (by first | decide | (constructor <;> omega)) (by first | decide | (constructor <;> omega)) (fun c_8 => ?_) (fun c_8 => ?_)
      · refine lv_iload_n hx hb dX2_sum_26 rfl (lv_at hl 1 rfl) ?_
        refine ziret hx hb hr hlocks hS (Nat.le_of_ble_eq_true rfl) (Nat.le_of_ble_eq_true rfl) (by first | decide | (constructor <;> omega)) ?_ dX2_sum_27
        refine ⟨rfl, ?_⟩
        by_cases hab : a < b
        · rw [hk, show h = b by omega]
        · rw [hk, show h = a by omega, mat_0]; unfold mat; rw [if_neg hab]
      · refine lv_iload_n hx hb dX2_sum_11 rfl (lv_at hl 1 rfl) ?_
        refine lv_aload_n hx hb dX2_sum_12 rfl (lv_at hl 2 rfl) ?_
        refine lv_iload hx hb dX2_sum_13 (lv_at hl 0 rfl) ?_
        refine zcalli (va_runV (As := [.int (iI (h))]) (rest := [.int (iI (w))]) ⟨hx, hb, hml, hown, hts⟩ (c_X2_gain l D cy A ad mi ma _ (h) hw (by first | decide | (constructor <;> omega)) ht) (cwV 1 hts gX2_sum_X2_gain rfl rfl rfl (by decide +kernel) ⟨(Nat.le_of_ble_eq_true rfl), (Nat.le_of_ble_eq_true rfl)⟩) (zPV hE hS hw (ci := 2) (k0 := 0) rfl mE_0) rfl rfl hl.1 rfl (lv_room (Nat.le_of_ble_eq_true rfl)) dX2_sum_15 ⟨(Nat.le_of_ble_eq_true rfl), (Nat.le_of_ble_eq_true rfl)⟩) hS (fun z_15 H1 locs hz_15 hq hz1 hk1 hS => ?_)
        obtain ⟨hqe, hv_15⟩ := hq
        replace hqe := hqe.symm
        subst hqe
        refine zi_add hx hb dX2_sum_18 ?_
        refine zi_top (fun x_19 hx_19 => ?_)
        refine lv_istore_n (lv' := [(3, .int (iI (x_19))), (4, .int (iI (h))), (0, .ref (ad 0)), (1, .int (iI (a))), (2, .int (iI (b)))]) hx hb dX2_sum_19 rfl hl (by decide) rfl (fun ls hl => ?_)
        refine zi_iinc (lv' := [(4, .int (iI (h + 1))), (3, .int (iI (x_19))), (0, .ref (ad 0)), (1, .int (iI (a))), (2, .int (iI (b)))]) hx hb dX2_sum_20 hl (k := 1) rfl (by decide) rfl (fun ls hl => ?_)
        refine lv_goto (tgt := 5) hx hb dX2_sum_23 (by decide) ?_
        exact ih (h + 1) x_19 _ _ (by omega) (by omega) (by omega) (by rw [mat_s _ _ (by omega) (by omega)]; omega) hS (lv_sub hl [0, 1, 2, 3, 4] rfl)
  exact loop_5 ((b - a).toNat + 1) a 0 _ _ (by omega) (by omega) (by omega) (by rw [mat_0]) hS (lv_sub hl [0, 1, 2, 3, 4] rfl)

set_option maxHeartbeats 4000000 in
set_option maxRecDepth 100000 in
theorem c_X2_between (l : Launch) (D : va_G) (cy : Nat → ClassId) (A : Nat → Prop) (ad : Nat → Nat) (H0 : Heap) (v a b f : Int) (h1 : 0 ≤ v - a) (h2 : v - a ≤ 1000000) (h3 : 1 ≤ b - a) (h4 : b - a ≤ 5000) (h5 : 0 ≤ f ∧ f ≤ 100) : Met l yX2_between wsX2_between ({ frames := 0, cells := 0, slots := 0, locals := 0 }) (zPc D cy A [.int (iI (v)), .int (iI (a)), .int (iI (b)), .int (iI (f))] H0) (zQi (fun z H1 => H1 = H0 ∧ z = f + 25 * (v - a) / (b - a)) A) 0 0 A := by
  refine Met.ofW (cc := cX2_between) (maxL := 4) (ret := (some .int)) (by decide) rfl ?_
  intro pg en s mt args below meth c s₁ B hml hv
  obtain ⟨rfl, hH, hE⟩ := hv
  subst hH
  have hx := B.exec
  have hb := B.bytes
  have hr := B.returns
  have hts := atoms_spec (ws := wsX2_between) B.pre
  have hown : s.vm.findClass RX2 = some mt.cls := findClass_of_methodNamed B.named
  have hlocks := B.notSynchronized
  have hS : va_S A s.heap s.heap [] := va_S.rf
  have hl := lv_entry ([.int (iI (v)), .int (iI (a)), .int (iI (b)), .int (iI (f))]) (n := 4) (Nat.le_of_ble_eq_true rfl)
  rw [lg_entry_eq]
  generalize (lg_sl ([.int (iI (v)), .int (iI (a)), .int (iI (b)), .int (iI (f))]) ++ List.replicate (4 - (lg_sl ([.int (iI (v)), .int (iI (a)), .int (iI (b)), .int (iI (f))])).length) Slot.unset).toArray = ls at hl ⊢
  have hl : lv_has ls 4 [(0, .int (iI (v))), (1, .int (iI (a))), (2, .int (iI (b))), (3, .int (iI (f)))] := hl
  refine lv_iload_n hx hb dX2_between_0 rfl (lv_at hl 3 rfl) ?_
  refine zi_bipush hx hb dX2_between_1 (by decide) ?_
  refine lv_iload_n hx hb dX2_between_3 rfl (lv_at hl 0 rfl) ?_
  refine lv_iload_n hx hb dX2_between_4 rfl (lv_at hl 1 rfl) ?_
  refine zi_sub hx hb dX2_between_5 ?_
  refine zi_mul hx hb dX2_between_6 ?_
  refine lv_iload_n hx hb dX2_between_7 rfl (lv_at hl 2 rfl) ?_
  refine lv_iload_n hx hb dX2_between_8 rfl (lv_at hl 1 rfl) ?_
  refine zi_sub hx hb dX2_between_9 ?_
  refine zi_div hx hb dX2_between_10 (by omega) (by omega) (by omega) (by omega) ?_
  refine zi_add hx hb dX2_between_11 ?_
  have hd := div_b (a := 25 * (v - a)) (b := b - a) (by omega) (by omega)
  refine ziret hx hb hr hlocks hS (Nat.le_of_ble_eq_true rfl) (Nat.le_of_ble_eq_true rfl) (by first | decide | (constructor <;> omega)) ?_ dX2_between_12
  exact ⟨rfl, rfl⟩

set_option maxHeartbeats 4000000 in
set_option maxRecDepth 100000 in
theorem c_X2_strong (l : Launch) (D : va_G) (cy : Nat → ClassId) (A : Nat → Prop) (ad : Nat → Nat) (H0 : Heap) (v : Int) (h1 : 0 ≤ v ∧ v ≤ 1000000) : Met l yX2_strong wsX2_strong ({ frames := 1, cells := 0, slots := 0, locals := 23 }) (zPc D cy A [.int (iI (v))] H0) (zQi (fun z H1 => H1 = H0 ∧ z = strg v) A) 0 0 A := by
  refine Met.ofW (cc := cX2_strong) (maxL := 1) (ret := (some .int)) (by decide) rfl ?_
  intro pg en s mt args below meth c s₁ B hml hv
  obtain ⟨rfl, hH, hE⟩ := hv
  subst hH
  have hx := B.exec
  have hb := B.bytes
  have hr := B.returns
  have hts := atoms_spec (ws := wsX2_strong) B.pre
  have hown : s.vm.findClass RX2 = some mt.cls := findClass_of_methodNamed B.named
  have hlocks := B.notSynchronized
  have hS : va_S A s.heap s.heap [] := va_S.rf
  have hl := lv_entry ([.int (iI (v))]) (n := 1) (Nat.le_of_ble_eq_true rfl)
  rw [lg_entry_eq]
  generalize (lg_sl ([.int (iI (v))]) ++ List.replicate (1 - (lg_sl ([.int (iI (v))])).length) Slot.unset).toArray = ls at hl ⊢
  have hl : lv_has ls 1 [(0, .int (iI (v)))] := hl
  refine lv_iload_n hx hb dX2_strong_0 rfl (lv_at hl 0 rfl) ?_
  refine zi_sipush hx hb dX2_strong_1 (by decide) ?_
  refine zc_lt (tgt := 12) hx hb dX2_strong_4 (by decide) (by first | decide | (constructor <;> omega)) (by first | decide | (constructor <;> omega)) (fun c_4 => ?_) (fun c_4 => ?_)
  · refine lv_iload_n hx hb dX2_strong_12 rfl (lv_at hl 0 rfl) ?_
    refine zi_sipush hx hb dX2_strong_13 (by decide) ?_
    refine zc_lt (tgt := 34) hx hb dX2_strong_16 (by decide) (by first | decide | (constructor <;> omega)) (by first | decide | (constructor <;> omega)) (fun c_16 => ?_) (fun c_16 => ?_)
    · refine lv_iload_n hx hb dX2_strong_34 rfl (lv_at hl 0 rfl) ?_
      refine zi_sipush hx hb dX2_strong_35 (by decide) ?_
      refine zc_lt (tgt := 56) hx hb dX2_strong_38 (by decide) (by first | decide | (constructor <;> omega)) (by first | decide | (constructor <;> omega)) (fun c_38 => ?_) (fun c_38 => ?_)
      · refine lv_iload_n hx hb dX2_strong_56 rfl (lv_at hl 0 rfl) ?_
        refine zi_sipush hx hb dX2_strong_57 (by decide) ?_
        refine zc_lt (tgt := 78) hx hb dX2_strong_60 (by decide) (by first | decide | (constructor <;> omega)) (by first | decide | (constructor <;> omega)) (fun c_60 => ?_) (fun c_60 => ?_)
        · refine lv_iload_n hx hb dX2_strong_78 rfl (lv_at hl 0 rfl) ?_
          refine zi_const hx hb dX2_strong_79 ?_
          refine zi_sipush hx hb dX2_strong_80 (by decide) ?_
          refine zi_const hx hb dX2_strong_83 ?_
          refine zcalli (va_runS (As := [.int (iI (v)), .int (iI (0)), .int (iI (500)), .int (iI (0))]) (rest := []) ⟨hx, hb, hml, hown, hts⟩ (c_X2_between l D cy A ad _ (v) (0) (500) (0) (by omega) (by omega) (by omega) (by omega) (by omega)) (va_cwS 4 hts gX2_strong_X2_between rfl rfl rfl (by decide +kernel) ⟨(Nat.le_of_ble_eq_true rfl), (Nat.le_of_ble_eq_true rfl)⟩) (zPS hE hS) rfl rfl hl.1 rfl (lv_room (Nat.le_of_ble_eq_true rfl)) dX2_strong_84 ⟨(Nat.le_of_ble_eq_true rfl), (Nat.le_of_ble_eq_true rfl)⟩) hS (fun z_84 H1 locs hz_84 hq hz1 hk1 hS => ?_)
          obtain ⟨hqe, hv_84⟩ := hq
          replace hqe := hqe.symm
          subst hqe
          simp only [Int.reduceSub, Int.sub_zero] at hv_84
          refine ziret hx hb hr hlocks hS (Nat.le_of_ble_eq_true rfl) (Nat.le_of_ble_eq_true rfl) (by first | decide | (constructor <;> omega)) ?_ dX2_strong_87
          refine ⟨rfl, ?_⟩
          unfold strg
          repeat' split
          all_goals omega
        · refine lv_iload_n hx hb dX2_strong_63 rfl (lv_at hl 0 rfl) ?_
          refine zi_sipush hx hb dX2_strong_64 (by decide) ?_
          refine zi_sipush hx hb dX2_strong_67 (by decide) ?_
          refine zi_bipush hx hb dX2_strong_70 (by decide) ?_
          refine zcalli (va_runS (As := [.int (iI (v)), .int (iI (500)), .int (iI (1200)), .int (iI (25))]) (rest := []) ⟨hx, hb, hml, hown, hts⟩ (c_X2_between l D cy A ad _ (v) (500) (1200) (25) (by omega) (by omega) (by omega) (by omega) (by omega)) (va_cwS 4 hts gX2_strong_X2_between rfl rfl rfl (by decide +kernel) ⟨(Nat.le_of_ble_eq_true rfl), (Nat.le_of_ble_eq_true rfl)⟩) (zPS hE hS) rfl rfl hl.1 rfl (lv_room (Nat.le_of_ble_eq_true rfl)) dX2_strong_72 ⟨(Nat.le_of_ble_eq_true rfl), (Nat.le_of_ble_eq_true rfl)⟩) hS (fun z_72 H1 locs hz_72 hq hz1 hk1 hS => ?_)
          obtain ⟨hqe, hv_72⟩ := hq
          replace hqe := hqe.symm
          subst hqe
          simp only [Int.reduceSub, Int.sub_zero] at hv_72
          refine lv_goto (tgt := 87) hx hb dX2_strong_75 (by decide) ?_
          refine ziret hx hb hr hlocks hS (Nat.le_of_ble_eq_true rfl) (Nat.le_of_ble_eq_true rfl) (by first | decide | (constructor <;> omega)) ?_ dX2_strong_87
          refine ⟨rfl, ?_⟩
          unfold strg
          repeat' split
          all_goals omega
      · refine lv_iload_n hx hb dX2_strong_41 rfl (lv_at hl 0 rfl) ?_
        refine zi_sipush hx hb dX2_strong_42 (by decide) ?_
        refine zi_sipush hx hb dX2_strong_45 (by decide) ?_
        refine zi_bipush hx hb dX2_strong_48 (by decide) ?_
        refine zcalli (va_runS (As := [.int (iI (v)), .int (iI (1200)), .int (iI (2500)), .int (iI (50))]) (rest := []) ⟨hx, hb, hml, hown, hts⟩ (c_X2_between l D cy A ad _ (v) (1200) (2500) (50) (by omega) (by omega) (by omega) (by omega) (by omega)) (va_cwS 4 hts gX2_strong_X2_between rfl rfl rfl (by decide +kernel) ⟨(Nat.le_of_ble_eq_true rfl), (Nat.le_of_ble_eq_true rfl)⟩) (zPS hE hS) rfl rfl hl.1 rfl (lv_room (Nat.le_of_ble_eq_true rfl)) dX2_strong_50 ⟨(Nat.le_of_ble_eq_true rfl), (Nat.le_of_ble_eq_true rfl)⟩) hS (fun z_50 H1 locs hz_50 hq hz1 hk1 hS => ?_)
        obtain ⟨hqe, hv_50⟩ := hq
        replace hqe := hqe.symm
        subst hqe
        simp only [Int.reduceSub, Int.sub_zero] at hv_50
        refine lv_goto (tgt := 87) hx hb dX2_strong_53 (by decide) ?_
        refine ziret hx hb hr hlocks hS (Nat.le_of_ble_eq_true rfl) (Nat.le_of_ble_eq_true rfl) (by first | decide | (constructor <;> omega)) ?_ dX2_strong_87
        refine ⟨rfl, ?_⟩
        unfold strg
        repeat' split
        all_goals omega
    · refine lv_iload_n hx hb dX2_strong_19 rfl (lv_at hl 0 rfl) ?_
      refine zi_sipush hx hb dX2_strong_20 (by decide) ?_
      refine zi_sipush hx hb dX2_strong_23 (by decide) ?_
      refine zi_bipush hx hb dX2_strong_26 (by decide) ?_
      refine zcalli (va_runS (As := [.int (iI (v)), .int (iI (2500)), .int (iI (5000)), .int (iI (75))]) (rest := []) ⟨hx, hb, hml, hown, hts⟩ (c_X2_between l D cy A ad _ (v) (2500) (5000) (75) (by omega) (by omega) (by omega) (by omega) (by omega)) (va_cwS 4 hts gX2_strong_X2_between rfl rfl rfl (by decide +kernel) ⟨(Nat.le_of_ble_eq_true rfl), (Nat.le_of_ble_eq_true rfl)⟩) (zPS hE hS) rfl rfl hl.1 rfl (lv_room (Nat.le_of_ble_eq_true rfl)) dX2_strong_28 ⟨(Nat.le_of_ble_eq_true rfl), (Nat.le_of_ble_eq_true rfl)⟩) hS (fun z_28 H1 locs hz_28 hq hz1 hk1 hS => ?_)
      obtain ⟨hqe, hv_28⟩ := hq
      replace hqe := hqe.symm
      subst hqe
      simp only [Int.reduceSub, Int.sub_zero] at hv_28
      refine lv_goto (tgt := 87) hx hb dX2_strong_31 (by decide) ?_
      refine ziret hx hb hr hlocks hS (Nat.le_of_ble_eq_true rfl) (Nat.le_of_ble_eq_true rfl) (by first | decide | (constructor <;> omega)) ?_ dX2_strong_87
      refine ⟨rfl, ?_⟩
      unfold strg
      repeat' split
      all_goals omega
  · refine zi_bipush hx hb dX2_strong_7 (by decide) ?_
    refine lv_goto (tgt := 87) hx hb dX2_strong_9 (by decide) ?_
    refine ziret hx hb hr hlocks hS (Nat.le_of_ble_eq_true rfl) (Nat.le_of_ble_eq_true rfl) (by first | decide | (constructor <;> omega)) ?_ dX2_strong_87
    refine ⟨rfl, ?_⟩
    unfold strg
    repeat' split
    all_goals omega

set_option maxHeartbeats 4000000 in
set_option maxRecDepth 100000 in
theorem c_X2_rate (l : Launch) (D : va_G) (cy : Nat → ClassId) (A : Nat → Prop) (ad : Nat → Nat) (mi : Nat → Int) (ma : Nat → Nat → Int) (H0 : Heap) (hw : zW D A ad (mE cy ad mi ma) H0) (hg : gOK mi) : Met l yX2_rate wsX2_rate ({ frames := 0, cells := 0, slots := 0, locals := 0 }) (zPc D cy A [.ref (ad 0)] H0) (zQi (fun z H1 => H1 = H0 ∧ z = min (mi 3) (mi 4)) A) 0 0 A := by
  refine Met.ofW (cc := cX2_rate) (maxL := 1) (ret := (some .int)) (by decide) rfl ?_
  intro pg en s mt args below meth c s₁ B hml hv
  obtain ⟨rfl, hH, hE⟩ := hv
  subst hH
  have hx := B.exec
  have hb := B.bytes
  have hr := B.returns
  have hts := atoms_spec (ws := wsX2_rate) B.pre
  have hown : s.vm.findClass RX2 = some mt.cls := findClass_of_methodNamed B.named
  have hlocks := B.notSynchronized
  have hinX2 : ∀ w ∈ u_ws RX2 TX2 19, w ∈ wsX2_rate := by decide +kernel
  have hS : va_S A s.heap s.heap [] := va_S.rf
  have hl := lv_entry ([.ref (ad 0)]) (n := 1) (Nat.le_of_ble_eq_true rfl)
  rw [lg_entry_eq]
  generalize (lg_sl ([.ref (ad 0)]) ++ List.replicate (1 - (lg_sl ([.ref (ad 0)])).length) Slot.unset).toArray = ls at hl ⊢
  have hl : lv_has ls 1 [(0, .ref (ad 0))] := hl
  obtain ⟨g1, g2, g3, g4, g5⟩ := id hg
  refine lv_aload_n hx hb dX2_rate_0 rfl (lv_at hl 0 rfl) ?_
  refine zget (C := RX2) (T := TX2) (N := 19) hx hb hts hinX2 hown hE hw 0 mE_0 rfl 3 (by decide) (hts (.fieldLink RX2 17 "FormworkYardModel" "trucks" "I") (by decide +kernel)) rfl dX2_rate_1 ?_
  refine lv_aload_n hx hb dX2_rate_4 rfl (lv_at hl 0 rfl) ?_
  refine zget (C := RX2) (T := TX2) (N := 19) hx hb hts hinX2 hown hE hw 0 mE_0 rfl 4 (by decide) (hts (.fieldLink RX2 20 "FormworkYardModel" "pump" "I") (by decide +kernel)) rfl dX2_rate_5 ?_
  refine zc_ge (tgt := 18) hx hb dX2_rate_8 (by decide) (by first | decide | (constructor <;> omega)) (by first | decide | (constructor <;> omega)) (fun c_8 => ?_) (fun c_8 => ?_)
  · refine lv_aload_n hx hb dX2_rate_18 rfl (lv_at hl 0 rfl) ?_
    refine zget (C := RX2) (T := TX2) (N := 19) hx hb hts hinX2 hown hE hw 0 mE_0 rfl 4 (by decide) (hts (.fieldLink RX2 20 "FormworkYardModel" "pump" "I") (by decide +kernel)) rfl dX2_rate_19 ?_
    refine ziret hx hb hr hlocks hS (Nat.le_of_ble_eq_true rfl) (Nat.le_of_ble_eq_true rfl) (by first | decide | (constructor <;> omega)) ?_ dX2_rate_22
    exact ⟨rfl, by omega⟩
  · refine lv_aload_n hx hb dX2_rate_11 rfl (lv_at hl 0 rfl) ?_
    refine zget (C := RX2) (T := TX2) (N := 19) hx hb hts hinX2 hown hE hw 0 mE_0 rfl 3 (by decide) (hts (.fieldLink RX2 17 "FormworkYardModel" "trucks" "I") (by decide +kernel)) rfl dX2_rate_12 ?_
    refine lv_goto (tgt := 22) hx hb dX2_rate_15 (by decide) ?_
    refine ziret hx hb hr hlocks hS (Nat.le_of_ble_eq_true rfl) (Nat.le_of_ble_eq_true rfl) (by first | decide | (constructor <;> omega)) ?_ dX2_rate_22
    exact ⟨rfl, by omega⟩

set_option maxHeartbeats 4000000 in
set_option maxRecDepth 100000 in
theorem c_X2_delays (l : Launch) (D : va_G) (cy : Nat → ClassId) (A : Nat → Prop) (ad : Nat → Nat) (mi : Nat → Int) (ma : Nat → Nat → Int) (H0 : Heap) (p : Nat) (hw : zW D A ad (mE cy ad mi ma) H0) (hp : p < 11) (hpo : pOK ma p) : Met l yX2_delays wsX2_delays ({ frames := 0, cells := 0, slots := 0, locals := 0 }) (zPc D cy A [.ref (ad 0), .int (iI ((p : Int)))] H0) (zQi (fun z H1 => H1 = H0 ∧ z = sl (fun k => ma 14 (4 * p + k)) (ma 12 p).toNat) A) 0 0 A := by
  refine Met.ofW (cc := cX2_delays) (maxL := 4) (ret := (some .int)) (by decide) rfl ?_
  intro pg en s mt args below meth c s₁ B hml hv
  obtain ⟨rfl, hH, hE⟩ := hv
  subst hH
  have hx := B.exec
  have hb := B.bytes
  have hr := B.returns
  have hts := atoms_spec (ws := wsX2_delays) B.pre
  have hown : s.vm.findClass RX2 = some mt.cls := findClass_of_methodNamed B.named
  have hlocks := B.notSynchronized
  have hinX2 : ∀ w ∈ u_ws RX2 TX2 19, w ∈ wsX2_delays := by decide +kernel
  have hS : va_S A s.heap s.heap [] := va_S.rf
  have hl := lv_entry ([.ref (ad 0), .int (iI ((p : Int)))]) (n := 4) (Nat.le_of_ble_eq_true rfl)
  rw [lg_entry_eq]
  generalize (lg_sl ([.ref (ad 0), .int (iI ((p : Int)))]) ++ List.replicate (4 - (lg_sl ([.ref (ad 0), .int (iI ((p : Int)))])).length) Slot.unset).toArray = ls at hl ⊢
  have hl : lv_has ls 4 [(0, .ref (ad 0)), (1, .int (iI ((p : Int))))] := hl
  obtain ⟨q1, q2, q3, q4, q5, q6⟩ := id hpo
  refine zi_const hx hb dX2_delays_0 ?_
  refine lv_istore_n (lv' := [(2, .int (iI (0))), (0, .ref (ad 0)), (1, .int (iI ((p : Int))))]) hx hb dX2_delays_1 rfl hl (by decide) rfl (fun ls hl => ?_)
  refine zi_const hx hb dX2_delays_2 ?_
  refine lv_istore_n (lv' := [(3, .int (iI (0))), (2, .int (iI (0))), (0, .ref (ad 0)), (1, .int (iI ((p : Int))))]) hx hb dX2_delays_3 rfl hl (by decide) rfl (fun ls hl => ?_)
  have loop_4 : ∀ (n : Nat) (k : Nat) (w : Int) (locs : List Loc) (ls : Array Slot), (ma 12 p).toNat - k < n → (k ≤ (ma 12 p).toNat) → (w = sl (fun k => ma 14 (4 * p + k)) k) → va_S A s.heap s.heap locs → lv_has ls 4 [(3, .int (iI ((k : Int)))), (2, .int (iI (w))), (0, .ref (ad 0)), (1, .int (iI ((p : Int))))] → W pg l en (headSpec wsX2_delays ({ frames := 0, cells := 0, slots := 0, locals := 0 })).room s mt ([.ref (ad 0), .int (iI ((p : Int)))] : List Value).toArray below meth c s.heap locs 0 0 (MQ below (zQi (fun z H1 => H1 = s.heap ∧ z = sl (fun k => ma 14 (4 * p + k)) (ma 12 p).toNat) A) ([.ref (ad 0), .int (iI ((p : Int)))] : List Value).toArray s 0 0 A) (F0 mt 4 ls []) := by
    intro n
    induction n with
    | zero =>
      intro k w locs ls hm hk hs
      exfalso; omega
    | succ n ih =>
      intro k w locs ls hm hk hs hS hl
      have hbb := sl_b (f := fun k => ma 14 (4 * p + k)) (a := 0) (b := 9) (n := k) (fun i hi => by have := q6 i (by omega); constructor <;> (try simp only []) <;> omega)
      refine lv_iload_n hx hb dX2_delays_4 rfl (lv_at hl 0 rfl) ?_
      refine lv_aload_n hx hb dX2_delays_5 rfl (lv_at hl 2 rfl) ?_
      refine zget (C := RX2) (T := TX2) (N := 19) hx hb hts hinX2 hown hE hw 0 mE_0 rfl 12 (by decide) (hts (.fieldLink RX2 45 "FormworkYardModel" "breakMany" "[I") (by decide +kernel)) rfl dX2_delays_6 ?_
      refine lv_iload_n hx hb dX2_delays_9 rfl (lv_at hl 3 rfl) ?_
      refine ziald hx hb hE hw 12 (mE_a 12 (by decide) rfl) p rfl (by omega) (by omega) dX2_delays_10 ?_
      refine zi_top (fun v_10 hv_10 => ?_)
      refine zc_ge (tgt := 33) hx hb dX2_delays_11 (by decide) (by first | decide | (constructor <;> omega)) (by first | decide | (constructor <;> omega)) (fun c_11 => ?_) (fun c_11 => ?_)
      · refine lv_iload_n hx hb dX2_delays_33 rfl (lv_at hl 1 rfl) ?_
        refine ziret hx hb hr hlocks hS (Nat.le_of_ble_eq_true rfl) (Nat.le_of_ble_eq_true rfl) (by first | decide | (constructor <;> omega)) ?_ dX2_delays_34
        exact ⟨rfl, by rw [hs, show k = (ma 12 p).toNat by omega]⟩
      · refine lv_iload_n hx hb dX2_delays_14 rfl (lv_at hl 1 rfl) ?_
        refine lv_aload_n hx hb dX2_delays_15 rfl (lv_at hl 2 rfl) ?_
        refine zget (C := RX2) (T := TX2) (N := 19) hx hb hts hinX2 hown hE hw 0 mE_0 rfl 14 (by decide) (hts (.fieldLink RX2 51 "FormworkYardModel" "lasts" "[I") (by decide +kernel)) rfl dX2_delays_16 ?_
        refine zi_const hx hb dX2_delays_19 ?_
        refine lv_iload_n hx hb dX2_delays_20 rfl (lv_at hl 3 rfl) ?_
        refine zi_mul hx hb dX2_delays_21 ?_
        refine lv_iload_n hx hb dX2_delays_22 rfl (lv_at hl 0 rfl) ?_
        refine zi_add hx hb dX2_delays_23 ?_
        refine ziald hx hb hE hw 14 (mE_a 14 (by decide) rfl) (4 * p + k) (by omega) (by omega) (by omega) dX2_delays_24 ?_
        refine zi_top (fun v_24 hv_24 => ?_)
        refine zi_add hx hb dX2_delays_25 ?_
        refine zi_top (fun x_26 hx_26 => ?_)
        refine lv_istore_n (lv' := [(2, .int (iI (x_26))), (3, .int (iI ((k : Int)))), (0, .ref (ad 0)), (1, .int (iI ((p : Int))))]) hx hb dX2_delays_26 rfl hl (by decide) rfl (fun ls hl => ?_)
        refine zi_iinc (lv' := [(3, .int (iI ((k : Int) + 1))), (2, .int (iI (x_26))), (0, .ref (ad 0)), (1, .int (iI ((p : Int))))]) hx hb dX2_delays_27 hl (k := 1) rfl (by decide) rfl (fun ls hl => ?_)
        refine lv_goto (tgt := 4) hx hb dX2_delays_30 (by decide) ?_
        exact ih (k + 1) x_26 _ _ (by omega) (by omega) (by simp only [sl]; omega) hS (lv_sub hl [0, 1, 2, 3] rfl)
  exact loop_4 ((ma 12 p).toNat + 1) 0 0 _ _ (by omega) (by omega) rfl hS (lv_sub hl [0, 1, 2, 3] rfl)

set_option maxHeartbeats 4000000 in
set_option maxRecDepth 100000 in
theorem c_X2_end (l : Launch) (D : va_G) (cy : Nat → ClassId) (A : Nat → Prop) (ad : Nat → Nat) (mi : Nat → Int) (ma : Nat → Nat → Int) (H0 : Heap) (p : Nat) (hw : zW D A ad (mE cy ad mi ma) H0) (hp : p < 11) (hg : gOK mi) (hpo : pOK ma p) : Met l yX2_end wsX2_end ({ frames := 1, cells := 0, slots := 0, locals := 23 }) (zPc D cy A [.ref (ad 0), .int (iI ((p : Int)))] H0) (zQi (fun z H1 => H1 = H0 ∧ z = endM mi ma p) A) 0 0 A := by
  refine Met.ofW (cc := cX2_end) (maxL := 2) (ret := (some .int)) (by decide) rfl ?_
  intro pg en s mt args below meth c s₁ B hml hv
  obtain ⟨rfl, hH, hE⟩ := hv
  subst hH
  have hx := B.exec
  have hb := B.bytes
  have hr := B.returns
  have hts := atoms_spec (ws := wsX2_end) B.pre
  have hown : s.vm.findClass RX2 = some mt.cls := findClass_of_methodNamed B.named
  have hlocks := B.notSynchronized
  have hinX2 : ∀ w ∈ u_ws RX2 TX2 19, w ∈ wsX2_end := by decide +kernel
  have hS : va_S A s.heap s.heap [] := va_S.rf
  have hl := lv_entry ([.ref (ad 0), .int (iI ((p : Int)))]) (n := 2) (Nat.le_of_ble_eq_true rfl)
  rw [lg_entry_eq]
  generalize (lg_sl ([.ref (ad 0), .int (iI ((p : Int)))]) ++ List.replicate (2 - (lg_sl ([.ref (ad 0), .int (iI ((p : Int)))])).length) Slot.unset).toArray = ls at hl ⊢
  have hl : lv_has ls 2 [(0, .ref (ad 0)), (1, .int (iI ((p : Int))))] := hl
  obtain ⟨q1, q2, q3, q4, q5, q6⟩ := id hpo
  obtain ⟨g1, g2, g3, g4, g5⟩ := id hg
  obtain ⟨e1, e2, e3, e4, e5, e6⟩ := endM_b hg hpo
  refine lv_aload_n hx hb dX2_end_0 rfl (lv_at hl 0 rfl) ?_
  refine zget (C := RX2) (T := TX2) (N := 19) hx hb hts hinX2 hown hE hw 0 mE_0 rfl 8 (by decide) (hts (.fieldLink RX2 33 "FormworkYardModel" "starts" "[I") (by decide +kernel)) rfl dX2_end_1 ?_
  refine lv_iload_n hx hb dX2_end_4 rfl (lv_at hl 1 rfl) ?_
  refine ziald hx hb hE hw 8 (mE_a 8 (by decide) rfl) p rfl (by omega) (by omega) dX2_end_5 ?_
  refine zi_top (fun v_5 hv_5 => ?_)
  refine lv_aload_n hx hb dX2_end_6 rfl (lv_at hl 0 rfl) ?_
  refine zget (C := RX2) (T := TX2) (N := 19) hx hb hts hinX2 hown hE hw 0 mE_0 rfl 9 (by decide) (hts (.fieldLink RX2 36 "FormworkYardModel" "volumes" "[I") (by decide +kernel)) rfl dX2_end_7 ?_
  refine lv_iload_n hx hb dX2_end_10 rfl (lv_at hl 1 rfl) ?_
  refine ziald hx hb hE hw 9 (mE_a 9 (by decide) rfl) p rfl (by omega) (by omega) dX2_end_11 ?_
  refine zi_top (fun v_11 hv_11 => ?_)
  refine lv_aload_n hx hb dX2_end_12 rfl (lv_at hl 0 rfl) ?_
  refine zcalli (va_runV (As := []) (rest := [.int (iI (v_11)), .int (iI (v_5))]) ⟨hx, hb, hml, hown, hts⟩ (c_X2_rate l D cy A ad mi ma _ hw hg) (cwV 0 hts gX2_end_X2_rate rfl rfl rfl (by decide +kernel) ⟨(Nat.le_of_ble_eq_true rfl), (Nat.le_of_ble_eq_true rfl)⟩) (zPV hE hS hw (ci := 2) (k0 := 0) rfl mE_0) rfl rfl hl.1 rfl (lv_room (Nat.le_of_ble_eq_true rfl)) dX2_end_13 ⟨(Nat.le_of_ble_eq_true rfl), (Nat.le_of_ble_eq_true rfl)⟩) hS (fun z_13 H1 locs hz_13 hq hz1 hk1 hS => ?_)
  obtain ⟨hqe, hv_13⟩ := hq
  replace hqe := hqe.symm
  subst hqe
  refine zi_add hx hb dX2_end_16 ?_
  refine zi_const hx hb dX2_end_17 ?_
  refine zi_sub hx hb dX2_end_18 ?_
  refine lv_aload_n hx hb dX2_end_19 rfl (lv_at hl 0 rfl) ?_
  refine zcalli (va_runV (As := []) (rest := [.int (iI ((v_11 + z_13) - 1)), .int (iI (v_5))]) ⟨hx, hb, hml, hown, hts⟩ (c_X2_rate l D cy A ad mi ma _ hw hg) (cwV 0 hts gX2_end_X2_rate rfl rfl rfl (by decide +kernel) ⟨(Nat.le_of_ble_eq_true rfl), (Nat.le_of_ble_eq_true rfl)⟩) (zPV hE hS hw (ci := 2) (k0 := 0) rfl mE_0) rfl rfl hl.1 rfl (lv_room (Nat.le_of_ble_eq_true rfl)) dX2_end_20 ⟨(Nat.le_of_ble_eq_true rfl), (Nat.le_of_ble_eq_true rfl)⟩) hS (fun z_20 H1 locs hz_20 hq hz1 hk1 hS => ?_)
  obtain ⟨hqe, hv_20⟩ := hq
  replace hqe := hqe.symm
  subst hqe
  refine zi_div hx hb dX2_end_23 (by omega) (by omega) (by omega) (by omega) ?_
  refine zi_add hx hb dX2_end_24 ?_
  refine lv_aload_n hx hb dX2_end_25 rfl (lv_at hl 0 rfl) ?_
  refine lv_iload_n hx hb dX2_end_26 rfl (lv_at hl 1 rfl) ?_
  refine zcalli (va_runV (As := [.int (iI ((p : Int)))]) (rest := [.int (iI (v_5 + (((v_11 + z_13) - 1) / z_20)))]) ⟨hx, hb, hml, hown, hts⟩ (c_X2_delays l D cy A ad mi ma _ p hw (by omega) hpo) (cwV 1 hts gX2_end_X2_delays rfl rfl rfl (by decide +kernel) ⟨(Nat.le_of_ble_eq_true rfl), (Nat.le_of_ble_eq_true rfl)⟩) (zPV hE hS hw (ci := 2) (k0 := 0) rfl mE_0) rfl rfl hl.1 rfl (lv_room (Nat.le_of_ble_eq_true rfl)) dX2_end_27 ⟨(Nat.le_of_ble_eq_true rfl), (Nat.le_of_ble_eq_true rfl)⟩) hS (fun z_27 H1 locs hz_27 hq hz1 hk1 hS => ?_)
  obtain ⟨hqe, hv_27⟩ := hq
  replace hqe := hqe.symm
  subst hqe
  have hE2 : v_5 + (v_11 + z_13 - 1) / z_20 + z_27 = endM mi ma p := by rw [hv_5, hv_11, hv_13, hv_20, hv_27]; rfl
  have hE3 : (v_11 + z_13 - 1) / z_20 = (ma 9 p + min (mi 3) (mi 4) - 1) / min (mi 3) (mi 4) := by rw [hv_11, hv_13, hv_20]
  refine zi_add hx hb dX2_end_30 ?_
  refine ziret hx hb hr hlocks hS (Nat.le_of_ble_eq_true rfl) (Nat.le_of_ble_eq_true rfl) (by first | decide | (constructor <;> omega)) ?_ dX2_end_31
  exact ⟨rfl, hE2⟩

set_option maxHeartbeats 4000000 in
set_option maxRecDepth 100000 in
theorem c_X2_works (l : Launch) (D : va_G) (cy : Nat → ClassId) (A : Nat → Prop) (ad : Nat → Nat) (mi : Nat → Int) (ma : Nat → Nat → Int) (H0 : Heap) (p : Nat) (hw : zW D A ad (mE cy ad mi ma) H0) (hp : p < 11) (ht : tOK (ma 1)) (hg : gOK mi) (hpo : pOK ma p) : Met l yX2_works wsX2_works ({ frames := 3, cells := 0, slots := 0, locals := 64 }) (zPc D cy A [.ref (ad 0), .int (iI ((p : Int)))] H0) (zQv (fun H1 => ∃ mb, zW D A ad (mE cy ad mi mb) H1 ∧ wU p ma mb ∧ wV mi ma p mb) A) 0 0 A := by
  refine Met.ofW (cc := cX2_works) (maxL := 4) (ret := none) (by decide) rfl ?_
  intro pg en s mt args below meth c s₁ B hml hv
  obtain ⟨rfl, hH, hE⟩ := hv
  subst hH
  have hx := B.exec
  have hb := B.bytes
  have hr := B.returns
  have hts := atoms_spec (ws := wsX2_works) B.pre
  have hown : s.vm.findClass RX2 = some mt.cls := findClass_of_methodNamed B.named
  have hlocks := B.notSynchronized
  have hinX2 : ∀ w ∈ u_ws RX2 TX2 19, w ∈ wsX2_works := by decide +kernel
  have hS : va_S A s.heap s.heap [] := va_S.rf
  have hl := lv_entry ([.ref (ad 0), .int (iI ((p : Int)))]) (n := 4) (Nat.le_of_ble_eq_true rfl)
  rw [lg_entry_eq]
  generalize (lg_sl ([.ref (ad 0), .int (iI ((p : Int)))]) ++ List.replicate (4 - (lg_sl ([.ref (ad 0), .int (iI ((p : Int)))])).length) Slot.unset).toArray = ls at hl ⊢
  have hl : lv_has ls 4 [(0, .ref (ad 0)), (1, .int (iI ((p : Int))))] := hl
  obtain ⟨q1, q2, q3, q4, q5, q6⟩ := id hpo
  obtain ⟨g1, g2, g3, g4, g5⟩ := id hg
  obtain ⟨e1, e2, e3, e4, e5, e6⟩ := endM_b hg hpo
  refine lv_aload_n hx hb dX2_works_0 rfl (lv_at hl 0 rfl) ?_
  refine zget (C := RX2) (T := TX2) (N := 19) hx hb hts hinX2 hown hE hw 0 mE_0 rfl 15 (by decide) (hts (.fieldLink RX2 54 "FormworkYardModel" "stands" "[I") (by decide +kernel)) rfl dX2_works_1 ?_
  refine lv_iload_n hx hb dX2_works_4 rfl (lv_at hl 1 rfl) ?_
  refine lv_aload_n hx hb dX2_works_5 rfl (lv_at hl 0 rfl) ?_
  refine zget (C := RX2) (T := TX2) (N := 19) hx hb hts hinX2 hown hE hw 0 mE_0 rfl 8 (by decide) (hts (.fieldLink RX2 33 "FormworkYardModel" "starts" "[I") (by decide +kernel)) rfl dX2_works_6 ?_
  refine lv_iload_n hx hb dX2_works_9 rfl (lv_at hl 1 rfl) ?_
  refine ziald hx hb hE hw 8 (mE_a 8 (by decide) rfl) p rfl (by omega) (by omega) dX2_works_10 ?_
  refine zi_top (fun v_10 hv_10 => ?_)
  refine lv_aload_n hx hb dX2_works_11 rfl (lv_at hl 0 rfl) ?_
  refine zget (C := RX2) (T := TX2) (N := 19) hx hb hts hinX2 hown hE hw 0 mE_0 rfl 5 (by decide) (hts (.fieldLink RX2 23 "FormworkYardModel" "setUp" "I") (by decide +kernel)) rfl dX2_works_12 ?_
  refine zc_ge (tgt := 22) hx hb dX2_works_15 (by decide) (by first | decide | (constructor <;> omega)) (by first | decide | (constructor <;> omega)) (fun c_15 => ?_) (fun c_15 => ?_)
  · refine lv_aload_n hx hb dX2_works_22 rfl (lv_at hl 0 rfl) ?_
    refine zget (C := RX2) (T := TX2) (N := 19) hx hb hts hinX2 hown hE hw 0 mE_0 rfl 8 (by decide) (hts (.fieldLink RX2 33 "FormworkYardModel" "starts" "[I") (by decide +kernel)) rfl dX2_works_23 ?_
    refine lv_iload_n hx hb dX2_works_26 rfl (lv_at hl 1 rfl) ?_
    refine ziald hx hb hE hw 8 (mE_a 8 (by decide) rfl) p rfl (by omega) (by omega) dX2_works_27 ?_
    refine zi_top (fun v_27 hv_27 => ?_)
    refine lv_aload_n hx hb dX2_works_28 rfl (lv_at hl 0 rfl) ?_
    refine zget (C := RX2) (T := TX2) (N := 19) hx hb hts hinX2 hown hE hw 0 mE_0 rfl 5 (by decide) (hts (.fieldLink RX2 23 "FormworkYardModel" "setUp" "I") (by decide +kernel)) rfl dX2_works_29 ?_
    refine zi_sub hx hb dX2_works_32 ?_
    refine ziast hx hb hE hS hw 15 (mE_a 15 (by decide) rfl) p rfl (by omega) (by omega) dX2_works_33 (fun H locs hw hS => ?_)
    have hw := hw.cong (mU_a 15 (by decide) rfl (p) (v_27 - (mi 5)))
    obtain ⟨ma_1, hma_1⟩ : ∃ z : Nat → Nat → Int, z = (va_up ma 15 (va_up (ma 15) (p) (v_27 - (mi 5)))) := ⟨_, rfl⟩
    rw [← hma_1] at hw
    refine lv_aload_n hx hb dX2_works_34 rfl (lv_at hl 0 rfl) ?_
    refine zget (C := RX2) (T := TX2) (N := 19) hx hb hts hinX2 hown hE hw 0 mE_0 rfl 16 (by decide) (hts (.fieldLink RX2 57 "FormworkYardModel" "strikes" "[I") (by decide +kernel)) rfl dX2_works_35 ?_
    refine lv_iload_n hx hb dX2_works_38 rfl (lv_at hl 1 rfl) ?_
    refine zi_const hx hb dX2_works_39 ?_
    refine ziast hx hb hE hS hw 16 (mE_a 16 (by decide) rfl) p rfl (by omega) (by omega) dX2_works_40 (fun H locs hw hS => ?_)
    have hw := hw.cong (mU_a 16 (by decide) rfl (p) ((-1)))
    obtain ⟨ma_2, hma_2⟩ : ∃ z : Nat → Nat → Int, z = (va_up ma_1 16 (va_up (ma_1 16) (p) ((-1)))) := ⟨_, rfl⟩
    rw [← hma_2] at hw
    refine zi_const hx hb dX2_works_41 ?_
    refine lv_istore_n (lv' := [(2, .int (iI (0))), (0, .ref (ad 0)), (1, .int (iI ((p : Int))))]) hx hb dX2_works_42 rfl hl (by decide) rfl (fun ls hl => ?_)
    have hA1 := rU_s (k := 15) (p := p) rU_r hma_1
    have hB1 := rU_s (k := 16) (p := p) rU_r hma_2
    have hrow : ∀ r, r ≠ 15 → r ≠ 16 → ma_2 r = ma r := fun r h1 h2 => (rU_row hB1.1 h2).trans (rU_row hA1.1 h1)
    have hpo2 : pOK ma_2 p := (pOK_c (hrow 8 (by decide) (by decide)) (hrow 9 (by decide) (by decide)) (hrow 10 (by decide) (by decide)) (hrow 11 (by decide) (by decide)) (hrow 12 (by decide) (by decide)) (hrow 13 (by decide) (by decide)) (hrow 14 (by decide) (by decide))).mpr hpo
    refine lv_aload_n hx hb dX2_works_43 rfl (lv_at hl 1 rfl) ?_
    refine lv_iload_n hx hb dX2_works_44 rfl (lv_at hl 2 rfl) ?_
    refine zcalli (va_runV (As := [.int (iI ((p : Int)))]) (rest := []) ⟨hx, hb, hml, hown, hts⟩ (c_X2_end l D cy A ad mi ma_2 _ p hw (by omega) hg hpo2) (cwV 1 hts gX2_works_X2_end rfl rfl rfl (by decide +kernel) ⟨(Nat.le_of_ble_eq_true rfl), (Nat.le_of_ble_eq_true rfl)⟩) (zPV hE hS hw (ci := 2) (k0 := 0) rfl mE_0) rfl rfl hl.1 rfl (lv_room (Nat.le_of_ble_eq_true rfl)) dX2_works_45 ⟨(Nat.le_of_ble_eq_true rfl), (Nat.le_of_ble_eq_true rfl)⟩) hS (fun z_45 H1 locs hz_45 hq hz1 hk1 hS => ?_)
    obtain ⟨hqe, hv_45⟩ := hq
    replace hqe := hqe.symm
    subst hqe
    have hE45 : z_45 = endM mi ma p := hv_45.trans (endM_c (hrow 8 (by decide) (by decide)) (hrow 9 (by decide) (by decide)) (hrow 12 (by decide) (by decide)) (hrow 14 (by decide) (by decide)))
    refine lv_istore_n (lv' := [(3, .int (iI (z_45))), (2, .int (iI (0))), (0, .ref (ad 0)), (1, .int (iI ((p : Int))))]) hx hb dX2_works_48 rfl hl (by decide) rfl (fun ls hl => ?_)
    have loop_49 : ∀ (n : Nat) (h w : Int) (mb : Nat → Nat → Int) (H : Heap) (locs : List Loc) (ls : Array Slot), (1000 - h).toNat < n → (rU 16 p ma_2 mb) → (endM mi ma p ≤ h) → (h ≤ max (endM mi ma p) 1000) → (w = mat (ma 1) (endM mi ma p) h) → ((mb 16 p = -1 ∧ fnd (fun x => ma 11 p ≤ strg (mat (ma 1) (endM mi ma p) x)) h (1000 - h).toNat = strikeS (ma 1) (ma 11 p) (endM mi ma p)) ∨ (0 ≤ mb 16 p ∧ mb 16 p < 1000 ∧ mb 16 p = strikeS (ma 1) (ma 11 p) (endM mi ma p))) → zW D A ad (mE cy ad mi mb) H → va_S A s.heap H locs → lv_has ls 4 [(3, .int (iI (h))), (2, .int (iI (w))), (0, .ref (ad 0)), (1, .int (iI ((p : Int))))] → W pg l en (headSpec wsX2_works ({ frames := 3, cells := 0, slots := 0, locals := 64 })).room s mt ([.ref (ad 0), .int (iI ((p : Int)))] : List Value).toArray below meth c H locs 0 0 (MQ below (zQv (fun H1 => ∃ mb, zW D A ad (mE cy ad mi mb) H1 ∧ wU p ma mb ∧ wV mi ma p mb) A) ([.ref (ad 0), .int (iI ((p : Int)))] : List Value).toArray s 0 0 A) (F0 mt 49 ls []) := by
      intro n
      induction n with
      | zero =>
        intro h w mb H locs ls hm hU hi hj hk hs
        exfalso; omega
      | succ n ih =>
        intro h w mb H locs ls hm hU hi hj hk hs hw hS hl
        have hmb := mat_b ht (endM mi ma p) h
        have hr1 : mb 1 = ma 1 := (rU_row hU (by decide)).trans (hrow 1 (by decide) (by decide))
        have hr11 : mb 11 = ma 11 := (rU_row hU (by decide)).trans (hrow 11 (by decide) (by decide))
        have ht2 : tOK (mb 1) := by rw [hr1]; exact ht
        have hst := strg_b hmb.1
        refine lv_iload_n hx hb dX2_works_49 rfl (lv_at hl 0 rfl) ?_
        refine zi_sipush hx hb dX2_works_50 (by decide) ?_
        refine zc_ge (tgt := 104) hx hb dX2_works_53 (by decide) (by first | decide | (constructor <;> omega)) (by first | decide | (constructor <;> omega)) (fun c_53 => ?_) (fun c_53 => ?_)
        · have hfin : (mb 16 p = -1 ∧ 1000 ≤ strikeS (ma 1) (ma 11 p) (endM mi ma p)) ∨ (0 ≤ mb 16 p ∧ mb 16 p < 1000 ∧ mb 16 p = strikeS (ma 1) (ma 11 p) (endM mi ma p)) := by rcases hs with hs | hs; have h2 := hs.2; rw [fnd_e _ (by omega)] at h2; omega; omega
          have hm6 : 0 ≤ mi 6 ∧ mi 6 ≤ 24 := by omega
          refine lv_aload_n hx hb dX2_works_104 rfl (lv_at hl 2 rfl) ?_
          refine zget (C := RX2) (T := TX2) (N := 19) hx hb hts hinX2 hown hE hw 0 mE_0 rfl 17 (by decide) (hts (.fieldLink RX2 60 "FormworkYardModel" "frees" "[I") (by decide +kernel)) rfl dX2_works_105 ?_
          refine lv_iload_n hx hb dX2_works_108 rfl (lv_at hl 3 rfl) ?_
          refine lv_aload_n hx hb dX2_works_109 rfl (lv_at hl 2 rfl) ?_
          refine zget (C := RX2) (T := TX2) (N := 19) hx hb hts hinX2 hown hE hw 0 mE_0 rfl 16 (by decide) (hts (.fieldLink RX2 57 "FormworkYardModel" "strikes" "[I") (by decide +kernel)) rfl dX2_works_110 ?_
          refine lv_iload_n hx hb dX2_works_113 rfl (lv_at hl 3 rfl) ?_
          refine ziald hx hb hE hw 16 (mE_a 16 (by decide) rfl) p rfl (by omega) (by omega) dX2_works_114 ?_
          refine zi_top (fun v_114 hv_114 => ?_)
          refine zi_const hx hb dX2_works_115 ?_
          refine zc_ne (tgt := 125) hx hb dX2_works_116 (by decide) (by first | decide | (constructor <;> omega)) (by first | decide | (constructor <;> omega)) (fun c_116 => ?_) (fun c_116 => ?_)
          · refine lv_aload_n hx hb dX2_works_125 rfl (lv_at hl 2 rfl) ?_
            refine zget (C := RX2) (T := TX2) (N := 19) hx hb hts hinX2 hown hE hw 0 mE_0 rfl 16 (by decide) (hts (.fieldLink RX2 57 "FormworkYardModel" "strikes" "[I") (by decide +kernel)) rfl dX2_works_126 ?_
            refine lv_iload_n hx hb dX2_works_129 rfl (lv_at hl 3 rfl) ?_
            refine ziald hx hb hE hw 16 (mE_a 16 (by decide) rfl) p rfl (by omega) (by omega) dX2_works_130 ?_
            refine zi_top (fun v_130 hv_130 => ?_)
            refine lv_aload_n hx hb dX2_works_131 rfl (lv_at hl 2 rfl) ?_
            refine zget (C := RX2) (T := TX2) (N := 19) hx hb hts hinX2 hown hE hw 0 mE_0 rfl 6 (by decide) (hts (.fieldLink RX2 26 "FormworkYardModel" "cleaning" "I") (by decide +kernel)) rfl dX2_works_132 ?_
            refine zi_add hx hb dX2_works_135 ?_
            refine ziast hx hb hE hS hw 17 (mE_a 17 (by decide) rfl) p rfl (by omega) (by omega) dX2_works_136 (fun H locs hw hS => ?_)
            have hw := hw.cong (mU_a 17 (by decide) rfl (p) (v_130 + (mi 6)))
            obtain ⟨ma_3, hma_3⟩ : ∃ z : Nat → Nat → Int, z = (va_up mb 17 (va_up (mb 17) (p) (v_130 + (mi 6)))) := ⟨_, rfl⟩
            rw [← hma_3] at hw
            refine zvret hx hb hr hlocks hS (Nat.le_of_ble_eq_true rfl) (Nat.le_of_ble_eq_true rfl) ?_ dX2_works_137
            have hC1 := rU_s (k := 17) (p := p) rU_r hma_3
            refine ⟨_, hw, fun r j hj => ?_, ?_, ?_, ?_⟩
            · rw [hC1.1 r j (by omega), hU r j (by omega), hB1.1 r j (by omega), hA1.1 r j (by omega)]
            · rw [hC1.1 15 p (by omega), hU 15 p (by omega), hB1.1 15 p (by omega), hA1.2]; unfold standS; split <;> omega
            · rw [hC1.1 16 p (by omega)]; split <;> omega
            · rw [hC1.2]; unfold freeS; split <;> omega
          · refine zi_sipush hx hb dX2_works_119 (by decide) ?_
            refine lv_goto (tgt := 136) hx hb dX2_works_122 (by decide) ?_
            refine ziast hx hb hE hS hw 17 (mE_a 17 (by decide) rfl) p rfl (by omega) (by omega) dX2_works_136 (fun H locs hw hS => ?_)
            have hw := hw.cong (mU_a 17 (by decide) rfl (p) (1000))
            obtain ⟨ma_4, hma_4⟩ : ∃ z : Nat → Nat → Int, z = (va_up mb 17 (va_up (mb 17) (p) (1000))) := ⟨_, rfl⟩
            rw [← hma_4] at hw
            refine zvret hx hb hr hlocks hS (Nat.le_of_ble_eq_true rfl) (Nat.le_of_ble_eq_true rfl) ?_ dX2_works_137
            have hC1 := rU_s (k := 17) (p := p) rU_r hma_4
            refine ⟨_, hw, fun r j hj => ?_, ?_, ?_, ?_⟩
            · rw [hC1.1 r j (by omega), hU r j (by omega), hB1.1 r j (by omega), hA1.1 r j (by omega)]
            · rw [hC1.1 15 p (by omega), hU 15 p (by omega), hB1.1 15 p (by omega), hA1.2]; unfold standS; split <;> omega
            · rw [hC1.1 16 p (by omega)]; split <;> omega
            · rw [hC1.2]; unfold freeS; split <;> omega
        · refine lv_aload_n hx hb dX2_works_56 rfl (lv_at hl 2 rfl) ?_
          refine zget (C := RX2) (T := TX2) (N := 19) hx hb hts hinX2 hown hE hw 0 mE_0 rfl 16 (by decide) (hts (.fieldLink RX2 57 "FormworkYardModel" "strikes" "[I") (by decide +kernel)) rfl dX2_works_57 ?_
          refine lv_iload_n hx hb dX2_works_60 rfl (lv_at hl 3 rfl) ?_
          refine ziald hx hb hE hw 16 (mE_a 16 (by decide) rfl) p rfl (by omega) (by omega) dX2_works_61 ?_
          refine zi_top (fun v_61 hv_61 => ?_)
          refine zi_const hx hb dX2_works_62 ?_
          refine zc_ne (tgt := 104) hx hb dX2_works_63 (by decide) (by first | decide | (constructor <;> omega)) (by first | decide | (constructor <;> omega)) (fun c_63 => ?_) (fun c_63 => ?_)
          · have hfin : (mb 16 p = -1 ∧ 1000 ≤ strikeS (ma 1) (ma 11 p) (endM mi ma p)) ∨ (0 ≤ mb 16 p ∧ mb 16 p < 1000 ∧ mb 16 p = strikeS (ma 1) (ma 11 p) (endM mi ma p)) := by rcases hs with hs | hs; omega; omega
            have hm6 : 0 ≤ mi 6 ∧ mi 6 ≤ 24 := by omega
            refine lv_aload_n hx hb dX2_works_104 rfl (lv_at hl 2 rfl) ?_
            refine zget (C := RX2) (T := TX2) (N := 19) hx hb hts hinX2 hown hE hw 0 mE_0 rfl 17 (by decide) (hts (.fieldLink RX2 60 "FormworkYardModel" "frees" "[I") (by decide +kernel)) rfl dX2_works_105 ?_
            refine lv_iload_n hx hb dX2_works_108 rfl (lv_at hl 3 rfl) ?_
            refine lv_aload_n hx hb dX2_works_109 rfl (lv_at hl 2 rfl) ?_
            refine zget (C := RX2) (T := TX2) (N := 19) hx hb hts hinX2 hown hE hw 0 mE_0 rfl 16 (by decide) (hts (.fieldLink RX2 57 "FormworkYardModel" "strikes" "[I") (by decide +kernel)) rfl dX2_works_110 ?_
            refine lv_iload_n hx hb dX2_works_113 rfl (lv_at hl 3 rfl) ?_
            refine ziald hx hb hE hw 16 (mE_a 16 (by decide) rfl) p rfl (by omega) (by omega) dX2_works_114 ?_
            refine zi_top (fun v_114 hv_114 => ?_)
            refine zi_const hx hb dX2_works_115 ?_
            refine zc_ne (tgt := 125) hx hb dX2_works_116 (by decide) (by first | decide | (constructor <;> omega)) (by first | decide | (constructor <;> omega)) (fun c_116 => ?_) (fun c_116 => ?_)
            · refine lv_aload_n hx hb dX2_works_125 rfl (lv_at hl 2 rfl) ?_
              refine zget (C := RX2) (T := TX2) (N := 19) hx hb hts hinX2 hown hE hw 0 mE_0 rfl 16 (by decide) (hts (.fieldLink RX2 57 "FormworkYardModel" "strikes" "[I") (by decide +kernel)) rfl dX2_works_126 ?_
              refine lv_iload_n hx hb dX2_works_129 rfl (lv_at hl 3 rfl) ?_
              refine ziald hx hb hE hw 16 (mE_a 16 (by decide) rfl) p rfl (by omega) (by omega) dX2_works_130 ?_
              refine zi_top (fun v_130 hv_130 => ?_)
              refine lv_aload_n hx hb dX2_works_131 rfl (lv_at hl 2 rfl) ?_
              refine zget (C := RX2) (T := TX2) (N := 19) hx hb hts hinX2 hown hE hw 0 mE_0 rfl 6 (by decide) (hts (.fieldLink RX2 26 "FormworkYardModel" "cleaning" "I") (by decide +kernel)) rfl dX2_works_132 ?_
              refine zi_add hx hb dX2_works_135 ?_
              refine ziast hx hb hE hS hw 17 (mE_a 17 (by decide) rfl) p rfl (by omega) (by omega) dX2_works_136 (fun H locs hw hS => ?_)
              have hw := hw.cong (mU_a 17 (by decide) rfl (p) (v_130 + (mi 6)))
              obtain ⟨ma_5, hma_5⟩ : ∃ z : Nat → Nat → Int, z = (va_up mb 17 (va_up (mb 17) (p) (v_130 + (mi 6)))) := ⟨_, rfl⟩
              rw [← hma_5] at hw
              refine zvret hx hb hr hlocks hS (Nat.le_of_ble_eq_true rfl) (Nat.le_of_ble_eq_true rfl) ?_ dX2_works_137
              have hC1 := rU_s (k := 17) (p := p) rU_r hma_5
              refine ⟨_, hw, fun r j hj => ?_, ?_, ?_, ?_⟩
              · rw [hC1.1 r j (by omega), hU r j (by omega), hB1.1 r j (by omega), hA1.1 r j (by omega)]
              · rw [hC1.1 15 p (by omega), hU 15 p (by omega), hB1.1 15 p (by omega), hA1.2]; unfold standS; split <;> omega
              · rw [hC1.1 16 p (by omega)]; split <;> omega
              · rw [hC1.2]; unfold freeS; split <;> omega
            · refine zi_sipush hx hb dX2_works_119 (by decide) ?_
              refine lv_goto (tgt := 136) hx hb dX2_works_122 (by decide) ?_
              refine ziast hx hb hE hS hw 17 (mE_a 17 (by decide) rfl) p rfl (by omega) (by omega) dX2_works_136 (fun H locs hw hS => ?_)
              have hw := hw.cong (mU_a 17 (by decide) rfl (p) (1000))
              obtain ⟨ma_6, hma_6⟩ : ∃ z : Nat → Nat → Int, z = (va_up mb 17 (va_up (mb 17) (p) (1000))) := ⟨_, rfl⟩
              rw [← hma_6] at hw
              refine zvret hx hb hr hlocks hS (Nat.le_of_ble_eq_true rfl) (Nat.le_of_ble_eq_true rfl) ?_ dX2_works_137
              have hC1 := rU_s (k := 17) (p := p) rU_r hma_6
              refine ⟨_, hw, fun r j hj => ?_, ?_, ?_, ?_⟩
              · rw [hC1.1 r j (by omega), hU r j (by omega), hB1.1 r j (by omega), hA1.1 r j (by omega)]
              · rw [hC1.1 15 p (by omega), hU 15 p (by omega), hB1.1 15 p (by omega), hA1.2]; unfold standS; split <;> omega
              · rw [hC1.1 16 p (by omega)]; split <;> omega
              · rw [hC1.2]; unfold freeS; split <;> omega
          · refine lv_aload_n hx hb dX2_works_66 rfl (lv_at hl 2 rfl) ?_
            refine zget (C := RX2) (T := TX2) (N := 19) hx hb hts hinX2 hown hE hw 0 mE_0 rfl 16 (by decide) (hts (.fieldLink RX2 57 "FormworkYardModel" "strikes" "[I") (by decide +kernel)) rfl dX2_works_67 ?_
            refine lv_iload_n hx hb dX2_works_70 rfl (lv_at hl 3 rfl) ?_
            refine lv_iload_n hx hb dX2_works_71 rfl (lv_at hl 1 rfl) ?_
            refine zcalli (va_runS (As := [.int (iI (w))]) (rest := [.int (iI ((p : Int))), .ref (ad 16)]) ⟨hx, hb, hml, hown, hts⟩ (c_X2_strong l D cy A ad _ (w) (by omega)) (va_cwS 1 hts gX2_works_X2_strong rfl rfl rfl (by decide +kernel) ⟨(Nat.le_of_ble_eq_true rfl), (Nat.le_of_ble_eq_true rfl)⟩) (zPS hE hS) rfl rfl hl.1 rfl (lv_room (Nat.le_of_ble_eq_true rfl)) dX2_works_72 ⟨(Nat.le_of_ble_eq_true rfl), (Nat.le_of_ble_eq_true rfl)⟩) hS (fun z_72 H1 locs hz_72 hq hz1 hk1 hS => ?_)
            obtain ⟨hqe, hv_72⟩ := hq
            replace hqe := hqe.symm
            subst hqe
            refine lv_aload_n hx hb dX2_works_75 rfl (lv_at hl 2 rfl) ?_
            refine zget (C := RX2) (T := TX2) (N := 19) hx hb hts hinX2 hown hE hw 0 mE_0 rfl 11 (by decide) (hts (.fieldLink RX2 42 "FormworkYardModel" "wanted" "[I") (by decide +kernel)) rfl dX2_works_76 ?_
            refine lv_iload_n hx hb dX2_works_79 rfl (lv_at hl 3 rfl) ?_
            refine ziald hx hb hE hw 11 (mE_a 11 (by decide) rfl) p rfl (by omega) (by omega) dX2_works_80 ?_
            refine zi_top (fun v_80 hv_80 => ?_)
            rw [hr11] at hv_80
            refine zc_lt (tgt := 88) hx hb dX2_works_81 (by decide) (by first | decide | (constructor <;> omega)) (by first | decide | (constructor <;> omega)) (fun c_81 => ?_) (fun c_81 => ?_)
            · refine zi_const hx hb dX2_works_88 ?_
              refine ziast hx hb hE hS hw 16 (mE_a 16 (by decide) rfl) p rfl (by omega) (by omega) dX2_works_89 (fun H locs hw hS => ?_)
              have hw := hw.cong (mU_a 16 (by decide) rfl (p) ((-1)))
              obtain ⟨ma_7, hma_7⟩ : ∃ z : Nat → Nat → Int, z = (va_up mb 16 (va_up (mb 16) (p) ((-1)))) := ⟨_, rfl⟩
              rw [← hma_7] at hw
              have ht3 : tOK (ma_7 1) := by rw [rU_row (rU_s hU hma_7).1 (show (1:Nat) ≠ 16 by decide), hrow 1 (by decide) (by decide)]; exact ht
              refine lv_iload_n hx hb dX2_works_90 rfl (lv_at hl 1 rfl) ?_
              refine lv_aload_n hx hb dX2_works_91 rfl (lv_at hl 2 rfl) ?_
              refine lv_iload_n hx hb dX2_works_92 rfl (lv_at hl 0 rfl) ?_
              refine zcalli (va_runV (As := [.int (iI (h))]) (rest := [.int (iI (w))]) ⟨hx, hb, hml, hown, hts⟩ (c_X2_gain l D cy A ad mi ma_7 _ (h) hw (by first | decide | (constructor <;> omega)) ht3) (cwV 1 hts gX2_works_X2_gain rfl rfl rfl (by decide +kernel) ⟨(Nat.le_of_ble_eq_true rfl), (Nat.le_of_ble_eq_true rfl)⟩) (zPV hE hS hw (ci := 2) (k0 := 0) rfl mE_0) rfl rfl hl.1 rfl (lv_room (Nat.le_of_ble_eq_true rfl)) dX2_works_93 ⟨(Nat.le_of_ble_eq_true rfl), (Nat.le_of_ble_eq_true rfl)⟩) hS (fun z_93 H1 locs hz_93 hq hz1 hk1 hS => ?_)
              obtain ⟨hqe, hv_93⟩ := hq
              replace hqe := hqe.symm
              subst hqe
              refine zi_add hx hb dX2_works_96 ?_
              refine zi_top (fun x_97 hx_97 => ?_)
              refine lv_istore_n (lv' := [(2, .int (iI (x_97))), (3, .int (iI (h))), (0, .ref (ad 0)), (1, .int (iI ((p : Int))))]) hx hb dX2_works_97 rfl hl (by decide) rfl (fun ls hl => ?_)
              refine zi_iinc (lv' := [(3, .int (iI (h + 1))), (2, .int (iI (x_97))), (0, .ref (ad 0)), (1, .int (iI ((p : Int))))]) hx hb dX2_works_98 hl (k := 1) rfl (by decide) rfl (fun ls hl => ?_)
              refine lv_goto (tgt := 49) hx hb dX2_works_101 (by decide) ?_
              have hS1 := rU_s hU hma_7
              have hgA := gAt_b ht h
              have hr1b : ma_7 1 = ma 1 := (rU_row hS1.1 (by decide)).trans (hrow 1 (by decide) (by decide))
              rw [hr1b] at hv_93
              have hP : strg (mat (ma 1) (endM mi ma p) h) = z_72 := by rw [hv_72, hk]
              have hfs : fnd (fun x => ma 11 p ≤ strg (mat (ma 1) (endM mi ma p) x)) h (1000 - h).toNat = strikeS (ma 1) (ma 11 p) (endM mi ma p) := by rcases hs with hs | hs; exact hs.2; exact absurd hs.1 (by omega)
              rw [fnd_s _ (by omega), if_neg (by rw [hP]; omega)] at hfs
              exact ih (h + 1) x_97 ma_7 _ _ _ (by omega) hS1.1 (by omega) (by omega) (by rw [mat_s _ _ (by omega) (by omega)]; omega) (by rw [hS1.2]; exact Or.inl ⟨rfl, hfs⟩) hw hS (lv_sub hl [0, 1, 2, 3] rfl)
            · refine lv_iload_n hx hb dX2_works_84 rfl (lv_at hl 0 rfl) ?_
              refine lv_goto (tgt := 89) hx hb dX2_works_85 (by decide) ?_
              refine ziast hx hb hE hS hw 16 (mE_a 16 (by decide) rfl) p rfl (by omega) (by omega) dX2_works_89 (fun H locs hw hS => ?_)
              have hw := hw.cong (mU_a 16 (by decide) rfl (p) (h))
              obtain ⟨ma_8, hma_8⟩ : ∃ z : Nat → Nat → Int, z = (va_up mb 16 (va_up (mb 16) (p) (h))) := ⟨_, rfl⟩
              rw [← hma_8] at hw
              have ht3 : tOK (ma_8 1) := by rw [rU_row (rU_s hU hma_8).1 (show (1:Nat) ≠ 16 by decide), hrow 1 (by decide) (by decide)]; exact ht
              refine lv_iload_n hx hb dX2_works_90 rfl (lv_at hl 1 rfl) ?_
              refine lv_aload_n hx hb dX2_works_91 rfl (lv_at hl 2 rfl) ?_
              refine lv_iload_n hx hb dX2_works_92 rfl (lv_at hl 0 rfl) ?_
              refine zcalli (va_runV (As := [.int (iI (h))]) (rest := [.int (iI (w))]) ⟨hx, hb, hml, hown, hts⟩ (c_X2_gain l D cy A ad mi ma_8 _ (h) hw (by first | decide | (constructor <;> omega)) ht3) (cwV 1 hts gX2_works_X2_gain rfl rfl rfl (by decide +kernel) ⟨(Nat.le_of_ble_eq_true rfl), (Nat.le_of_ble_eq_true rfl)⟩) (zPV hE hS hw (ci := 2) (k0 := 0) rfl mE_0) rfl rfl hl.1 rfl (lv_room (Nat.le_of_ble_eq_true rfl)) dX2_works_93 ⟨(Nat.le_of_ble_eq_true rfl), (Nat.le_of_ble_eq_true rfl)⟩) hS (fun z_93 H1 locs hz_93 hq hz1 hk1 hS => ?_)
              obtain ⟨hqe, hv_93⟩ := hq
              replace hqe := hqe.symm
              subst hqe
              refine zi_add hx hb dX2_works_96 ?_
              refine zi_top (fun x_97 hx_97 => ?_)
              refine lv_istore_n (lv' := [(2, .int (iI (x_97))), (3, .int (iI (h))), (0, .ref (ad 0)), (1, .int (iI ((p : Int))))]) hx hb dX2_works_97 rfl hl (by decide) rfl (fun ls hl => ?_)
              refine zi_iinc (lv' := [(3, .int (iI (h + 1))), (2, .int (iI (x_97))), (0, .ref (ad 0)), (1, .int (iI ((p : Int))))]) hx hb dX2_works_98 hl (k := 1) rfl (by decide) rfl (fun ls hl => ?_)
              refine lv_goto (tgt := 49) hx hb dX2_works_101 (by decide) ?_
              have hS1 := rU_s hU hma_8
              have hgA := gAt_b ht h
              have hr1b : ma_8 1 = ma 1 := (rU_row hS1.1 (by decide)).trans (hrow 1 (by decide) (by decide))
              rw [hr1b] at hv_93
              have hP : strg (mat (ma 1) (endM mi ma p) h) = z_72 := by rw [hv_72, hk]
              have hfs : fnd (fun x => ma 11 p ≤ strg (mat (ma 1) (endM mi ma p) x)) h (1000 - h).toNat = strikeS (ma 1) (ma 11 p) (endM mi ma p) := by rcases hs with hs | hs; exact hs.2; exact absurd hs.1 (by omega)
              rw [fnd_s _ (by omega), if_pos (by rw [hP]; omega)] at hfs
              exact ih (h + 1) x_97 ma_8 _ _ _ (by omega) hS1.1 (by omega) (by omega) (by rw [mat_s _ _ (by omega) (by omega)]; omega) (by rw [hS1.2]; exact Or.inr ⟨by omega, by omega, hfs⟩) hw hS (lv_sub hl [0, 1, 2, 3] rfl)
    exact loop_49 ((1000 - endM mi ma p).toNat + 1) z_45 0 ma_2 _ _ _ (by omega) rU_r (by omega) (by omega) (by rw [hE45, mat_0]) (Or.inl ⟨hB1.2, by rw [hE45]; rfl⟩) hw hS (lv_sub hl [0, 1, 2, 3] rfl)
  · refine zi_const hx hb dX2_works_18 ?_
    refine lv_goto (tgt := 33) hx hb dX2_works_19 (by decide) ?_
    refine ziast hx hb hE hS hw 15 (mE_a 15 (by decide) rfl) p rfl (by omega) (by omega) dX2_works_33 (fun H locs hw hS => ?_)
    have hw := hw.cong (mU_a 15 (by decide) rfl (p) (0))
    obtain ⟨ma_9, hma_9⟩ : ∃ z : Nat → Nat → Int, z = (va_up ma 15 (va_up (ma 15) (p) (0))) := ⟨_, rfl⟩
    rw [← hma_9] at hw
    refine lv_aload_n hx hb dX2_works_34 rfl (lv_at hl 0 rfl) ?_
    refine zget (C := RX2) (T := TX2) (N := 19) hx hb hts hinX2 hown hE hw 0 mE_0 rfl 16 (by decide) (hts (.fieldLink RX2 57 "FormworkYardModel" "strikes" "[I") (by decide +kernel)) rfl dX2_works_35 ?_
    refine lv_iload_n hx hb dX2_works_38 rfl (lv_at hl 1 rfl) ?_
    refine zi_const hx hb dX2_works_39 ?_
    refine ziast hx hb hE hS hw 16 (mE_a 16 (by decide) rfl) p rfl (by omega) (by omega) dX2_works_40 (fun H locs hw hS => ?_)
    have hw := hw.cong (mU_a 16 (by decide) rfl (p) ((-1)))
    obtain ⟨ma_10, hma_10⟩ : ∃ z : Nat → Nat → Int, z = (va_up ma_9 16 (va_up (ma_9 16) (p) ((-1)))) := ⟨_, rfl⟩
    rw [← hma_10] at hw
    refine zi_const hx hb dX2_works_41 ?_
    refine lv_istore_n (lv' := [(2, .int (iI (0))), (0, .ref (ad 0)), (1, .int (iI ((p : Int))))]) hx hb dX2_works_42 rfl hl (by decide) rfl (fun ls hl => ?_)
    have hA1 := rU_s (k := 15) (p := p) rU_r hma_9
    have hB1 := rU_s (k := 16) (p := p) rU_r hma_10
    have hrow : ∀ r, r ≠ 15 → r ≠ 16 → ma_10 r = ma r := fun r h1 h2 => (rU_row hB1.1 h2).trans (rU_row hA1.1 h1)
    have hpo2 : pOK ma_10 p := (pOK_c (hrow 8 (by decide) (by decide)) (hrow 9 (by decide) (by decide)) (hrow 10 (by decide) (by decide)) (hrow 11 (by decide) (by decide)) (hrow 12 (by decide) (by decide)) (hrow 13 (by decide) (by decide)) (hrow 14 (by decide) (by decide))).mpr hpo
    refine lv_aload_n hx hb dX2_works_43 rfl (lv_at hl 1 rfl) ?_
    refine lv_iload_n hx hb dX2_works_44 rfl (lv_at hl 2 rfl) ?_
    refine zcalli (va_runV (As := [.int (iI ((p : Int)))]) (rest := []) ⟨hx, hb, hml, hown, hts⟩ (c_X2_end l D cy A ad mi ma_10 _ p hw (by omega) hg hpo2) (cwV 1 hts gX2_works_X2_end rfl rfl rfl (by decide +kernel) ⟨(Nat.le_of_ble_eq_true rfl), (Nat.le_of_ble_eq_true rfl)⟩) (zPV hE hS hw (ci := 2) (k0 := 0) rfl mE_0) rfl rfl hl.1 rfl (lv_room (Nat.le_of_ble_eq_true rfl)) dX2_works_45 ⟨(Nat.le_of_ble_eq_true rfl), (Nat.le_of_ble_eq_true rfl)⟩) hS (fun z_45 H1 locs hz_45 hq hz1 hk1 hS => ?_)
    obtain ⟨hqe, hv_45⟩ := hq
    replace hqe := hqe.symm
    subst hqe
    have hE45 : z_45 = endM mi ma p := hv_45.trans (endM_c (hrow 8 (by decide) (by decide)) (hrow 9 (by decide) (by decide)) (hrow 12 (by decide) (by decide)) (hrow 14 (by decide) (by decide)))
    refine lv_istore_n (lv' := [(3, .int (iI (z_45))), (2, .int (iI (0))), (0, .ref (ad 0)), (1, .int (iI ((p : Int))))]) hx hb dX2_works_48 rfl hl (by decide) rfl (fun ls hl => ?_)
    have loop_49 : ∀ (n : Nat) (h w : Int) (mb : Nat → Nat → Int) (H : Heap) (locs : List Loc) (ls : Array Slot), (1000 - h).toNat < n → (rU 16 p ma_10 mb) → (endM mi ma p ≤ h) → (h ≤ max (endM mi ma p) 1000) → (w = mat (ma 1) (endM mi ma p) h) → ((mb 16 p = -1 ∧ fnd (fun x => ma 11 p ≤ strg (mat (ma 1) (endM mi ma p) x)) h (1000 - h).toNat = strikeS (ma 1) (ma 11 p) (endM mi ma p)) ∨ (0 ≤ mb 16 p ∧ mb 16 p < 1000 ∧ mb 16 p = strikeS (ma 1) (ma 11 p) (endM mi ma p))) → zW D A ad (mE cy ad mi mb) H → va_S A s.heap H locs → lv_has ls 4 [(3, .int (iI (h))), (2, .int (iI (w))), (0, .ref (ad 0)), (1, .int (iI ((p : Int))))] → W pg l en (headSpec wsX2_works ({ frames := 3, cells := 0, slots := 0, locals := 64 })).room s mt ([.ref (ad 0), .int (iI ((p : Int)))] : List Value).toArray below meth c H locs 0 0 (MQ below (zQv (fun H1 => ∃ mb, zW D A ad (mE cy ad mi mb) H1 ∧ wU p ma mb ∧ wV mi ma p mb) A) ([.ref (ad 0), .int (iI ((p : Int)))] : List Value).toArray s 0 0 A) (F0 mt 49 ls []) := by
      intro n
      induction n with
      | zero =>
        intro h w mb H locs ls hm hU hi hj hk hs
        exfalso; omega
      | succ n ih =>
        intro h w mb H locs ls hm hU hi hj hk hs hw hS hl
        have hmb := mat_b ht (endM mi ma p) h
        have hr1 : mb 1 = ma 1 := (rU_row hU (by decide)).trans (hrow 1 (by decide) (by decide))
        have hr11 : mb 11 = ma 11 := (rU_row hU (by decide)).trans (hrow 11 (by decide) (by decide))
        have ht2 : tOK (mb 1) := by rw [hr1]; exact ht
        have hst := strg_b hmb.1
        refine lv_iload_n hx hb dX2_works_49 rfl (lv_at hl 0 rfl) ?_
        refine zi_sipush hx hb dX2_works_50 (by decide) ?_
        refine zc_ge (tgt := 104) hx hb dX2_works_53 (by decide) (by first | decide | (constructor <;> omega)) (by first | decide | (constructor <;> omega)) (fun c_53 => ?_) (fun c_53 => ?_)
        · have hfin : (mb 16 p = -1 ∧ 1000 ≤ strikeS (ma 1) (ma 11 p) (endM mi ma p)) ∨ (0 ≤ mb 16 p ∧ mb 16 p < 1000 ∧ mb 16 p = strikeS (ma 1) (ma 11 p) (endM mi ma p)) := by rcases hs with hs | hs; have h2 := hs.2; rw [fnd_e _ (by omega)] at h2; omega; omega
          have hm6 : 0 ≤ mi 6 ∧ mi 6 ≤ 24 := by omega
          refine lv_aload_n hx hb dX2_works_104 rfl (lv_at hl 2 rfl) ?_
          refine zget (C := RX2) (T := TX2) (N := 19) hx hb hts hinX2 hown hE hw 0 mE_0 rfl 17 (by decide) (hts (.fieldLink RX2 60 "FormworkYardModel" "frees" "[I") (by decide +kernel)) rfl dX2_works_105 ?_
          refine lv_iload_n hx hb dX2_works_108 rfl (lv_at hl 3 rfl) ?_
          refine lv_aload_n hx hb dX2_works_109 rfl (lv_at hl 2 rfl) ?_
          refine zget (C := RX2) (T := TX2) (N := 19) hx hb hts hinX2 hown hE hw 0 mE_0 rfl 16 (by decide) (hts (.fieldLink RX2 57 "FormworkYardModel" "strikes" "[I") (by decide +kernel)) rfl dX2_works_110 ?_
          refine lv_iload_n hx hb dX2_works_113 rfl (lv_at hl 3 rfl) ?_
          refine ziald hx hb hE hw 16 (mE_a 16 (by decide) rfl) p rfl (by omega) (by omega) dX2_works_114 ?_
          refine zi_top (fun v_114 hv_114 => ?_)
          refine zi_const hx hb dX2_works_115 ?_
          refine zc_ne (tgt := 125) hx hb dX2_works_116 (by decide) (by first | decide | (constructor <;> omega)) (by first | decide | (constructor <;> omega)) (fun c_116 => ?_) (fun c_116 => ?_)
          · refine lv_aload_n hx hb dX2_works_125 rfl (lv_at hl 2 rfl) ?_
            refine zget (C := RX2) (T := TX2) (N := 19) hx hb hts hinX2 hown hE hw 0 mE_0 rfl 16 (by decide) (hts (.fieldLink RX2 57 "FormworkYardModel" "strikes" "[I") (by decide +kernel)) rfl dX2_works_126 ?_
            refine lv_iload_n hx hb dX2_works_129 rfl (lv_at hl 3 rfl) ?_
            refine ziald hx hb hE hw 16 (mE_a 16 (by decide) rfl) p rfl (by omega) (by omega) dX2_works_130 ?_
            refine zi_top (fun v_130 hv_130 => ?_)
            refine lv_aload_n hx hb dX2_works_131 rfl (lv_at hl 2 rfl) ?_
            refine zget (C := RX2) (T := TX2) (N := 19) hx hb hts hinX2 hown hE hw 0 mE_0 rfl 6 (by decide) (hts (.fieldLink RX2 26 "FormworkYardModel" "cleaning" "I") (by decide +kernel)) rfl dX2_works_132 ?_
            refine zi_add hx hb dX2_works_135 ?_
            refine ziast hx hb hE hS hw 17 (mE_a 17 (by decide) rfl) p rfl (by omega) (by omega) dX2_works_136 (fun H locs hw hS => ?_)
            have hw := hw.cong (mU_a 17 (by decide) rfl (p) (v_130 + (mi 6)))
            obtain ⟨ma_11, hma_11⟩ : ∃ z : Nat → Nat → Int, z = (va_up mb 17 (va_up (mb 17) (p) (v_130 + (mi 6)))) := ⟨_, rfl⟩
            rw [← hma_11] at hw
            refine zvret hx hb hr hlocks hS (Nat.le_of_ble_eq_true rfl) (Nat.le_of_ble_eq_true rfl) ?_ dX2_works_137
            have hC1 := rU_s (k := 17) (p := p) rU_r hma_11
            refine ⟨_, hw, fun r j hj => ?_, ?_, ?_, ?_⟩
            · rw [hC1.1 r j (by omega), hU r j (by omega), hB1.1 r j (by omega), hA1.1 r j (by omega)]
            · rw [hC1.1 15 p (by omega), hU 15 p (by omega), hB1.1 15 p (by omega), hA1.2]; unfold standS; split <;> omega
            · rw [hC1.1 16 p (by omega)]; split <;> omega
            · rw [hC1.2]; unfold freeS; split <;> omega
          · refine zi_sipush hx hb dX2_works_119 (by decide) ?_
            refine lv_goto (tgt := 136) hx hb dX2_works_122 (by decide) ?_
            refine ziast hx hb hE hS hw 17 (mE_a 17 (by decide) rfl) p rfl (by omega) (by omega) dX2_works_136 (fun H locs hw hS => ?_)
            have hw := hw.cong (mU_a 17 (by decide) rfl (p) (1000))
            obtain ⟨ma_12, hma_12⟩ : ∃ z : Nat → Nat → Int, z = (va_up mb 17 (va_up (mb 17) (p) (1000))) := ⟨_, rfl⟩
            rw [← hma_12] at hw
            refine zvret hx hb hr hlocks hS (Nat.le_of_ble_eq_true rfl) (Nat.le_of_ble_eq_true rfl) ?_ dX2_works_137
            have hC1 := rU_s (k := 17) (p := p) rU_r hma_12
            refine ⟨_, hw, fun r j hj => ?_, ?_, ?_, ?_⟩
            · rw [hC1.1 r j (by omega), hU r j (by omega), hB1.1 r j (by omega), hA1.1 r j (by omega)]
            · rw [hC1.1 15 p (by omega), hU 15 p (by omega), hB1.1 15 p (by omega), hA1.2]; unfold standS; split <;> omega
            · rw [hC1.1 16 p (by omega)]; split <;> omega
            · rw [hC1.2]; unfold freeS; split <;> omega
        · refine lv_aload_n hx hb dX2_works_56 rfl (lv_at hl 2 rfl) ?_
          refine zget (C := RX2) (T := TX2) (N := 19) hx hb hts hinX2 hown hE hw 0 mE_0 rfl 16 (by decide) (hts (.fieldLink RX2 57 "FormworkYardModel" "strikes" "[I") (by decide +kernel)) rfl dX2_works_57 ?_
          refine lv_iload_n hx hb dX2_works_60 rfl (lv_at hl 3 rfl) ?_
          refine ziald hx hb hE hw 16 (mE_a 16 (by decide) rfl) p rfl (by omega) (by omega) dX2_works_61 ?_
          refine zi_top (fun v_61 hv_61 => ?_)
          refine zi_const hx hb dX2_works_62 ?_
          refine zc_ne (tgt := 104) hx hb dX2_works_63 (by decide) (by first | decide | (constructor <;> omega)) (by first | decide | (constructor <;> omega)) (fun c_63 => ?_) (fun c_63 => ?_)
          · have hfin : (mb 16 p = -1 ∧ 1000 ≤ strikeS (ma 1) (ma 11 p) (endM mi ma p)) ∨ (0 ≤ mb 16 p ∧ mb 16 p < 1000 ∧ mb 16 p = strikeS (ma 1) (ma 11 p) (endM mi ma p)) := by rcases hs with hs | hs; omega; omega
            have hm6 : 0 ≤ mi 6 ∧ mi 6 ≤ 24 := by omega
            refine lv_aload_n hx hb dX2_works_104 rfl (lv_at hl 2 rfl) ?_
            refine zget (C := RX2) (T := TX2) (N := 19) hx hb hts hinX2 hown hE hw 0 mE_0 rfl 17 (by decide) (hts (.fieldLink RX2 60 "FormworkYardModel" "frees" "[I") (by decide +kernel)) rfl dX2_works_105 ?_
            refine lv_iload_n hx hb dX2_works_108 rfl (lv_at hl 3 rfl) ?_
            refine lv_aload_n hx hb dX2_works_109 rfl (lv_at hl 2 rfl) ?_
            refine zget (C := RX2) (T := TX2) (N := 19) hx hb hts hinX2 hown hE hw 0 mE_0 rfl 16 (by decide) (hts (.fieldLink RX2 57 "FormworkYardModel" "strikes" "[I") (by decide +kernel)) rfl dX2_works_110 ?_
            refine lv_iload_n hx hb dX2_works_113 rfl (lv_at hl 3 rfl) ?_
            refine ziald hx hb hE hw 16 (mE_a 16 (by decide) rfl) p rfl (by omega) (by omega) dX2_works_114 ?_
            refine zi_top (fun v_114 hv_114 => ?_)
            refine zi_const hx hb dX2_works_115 ?_
            refine zc_ne (tgt := 125) hx hb dX2_works_116 (by decide) (by first | decide | (constructor <;> omega)) (by first | decide | (constructor <;> omega)) (fun c_116 => ?_) (fun c_116 => ?_)
            · refine lv_aload_n hx hb dX2_works_125 rfl (lv_at hl 2 rfl) ?_
              refine zget (C := RX2) (T := TX2) (N := 19) hx hb hts hinX2 hown hE hw 0 mE_0 rfl 16 (by decide) (hts (.fieldLink RX2 57 "FormworkYardModel" "strikes" "[I") (by decide +kernel)) rfl dX2_works_126 ?_
              refine lv_iload_n hx hb dX2_works_129 rfl (lv_at hl 3 rfl) ?_
              refine ziald hx hb hE hw 16 (mE_a 16 (by decide) rfl) p rfl (by omega) (by omega) dX2_works_130 ?_
              refine zi_top (fun v_130 hv_130 => ?_)
              refine lv_aload_n hx hb dX2_works_131 rfl (lv_at hl 2 rfl) ?_
              refine zget (C := RX2) (T := TX2) (N := 19) hx hb hts hinX2 hown hE hw 0 mE_0 rfl 6 (by decide) (hts (.fieldLink RX2 26 "FormworkYardModel" "cleaning" "I") (by decide +kernel)) rfl dX2_works_132 ?_
              refine zi_add hx hb dX2_works_135 ?_
              refine ziast hx hb hE hS hw 17 (mE_a 17 (by decide) rfl) p rfl (by omega) (by omega) dX2_works_136 (fun H locs hw hS => ?_)
              have hw := hw.cong (mU_a 17 (by decide) rfl (p) (v_130 + (mi 6)))
              obtain ⟨ma_13, hma_13⟩ : ∃ z : Nat → Nat → Int, z = (va_up mb 17 (va_up (mb 17) (p) (v_130 + (mi 6)))) := ⟨_, rfl⟩
              rw [← hma_13] at hw
              refine zvret hx hb hr hlocks hS (Nat.le_of_ble_eq_true rfl) (Nat.le_of_ble_eq_true rfl) ?_ dX2_works_137
              have hC1 := rU_s (k := 17) (p := p) rU_r hma_13
              refine ⟨_, hw, fun r j hj => ?_, ?_, ?_, ?_⟩
              · rw [hC1.1 r j (by omega), hU r j (by omega), hB1.1 r j (by omega), hA1.1 r j (by omega)]
              · rw [hC1.1 15 p (by omega), hU 15 p (by omega), hB1.1 15 p (by omega), hA1.2]; unfold standS; split <;> omega
              · rw [hC1.1 16 p (by omega)]; split <;> omega
              · rw [hC1.2]; unfold freeS; split <;> omega
            · refine zi_sipush hx hb dX2_works_119 (by decide) ?_
              refine lv_goto (tgt := 136) hx hb dX2_works_122 (by decide) ?_
              refine ziast hx hb hE hS hw 17 (mE_a 17 (by decide) rfl) p rfl (by omega) (by omega) dX2_works_136 (fun H locs hw hS => ?_)
              have hw := hw.cong (mU_a 17 (by decide) rfl (p) (1000))
              obtain ⟨ma_14, hma_14⟩ : ∃ z : Nat → Nat → Int, z = (va_up mb 17 (va_up (mb 17) (p) (1000))) := ⟨_, rfl⟩
              rw [← hma_14] at hw
              refine zvret hx hb hr hlocks hS (Nat.le_of_ble_eq_true rfl) (Nat.le_of_ble_eq_true rfl) ?_ dX2_works_137
              have hC1 := rU_s (k := 17) (p := p) rU_r hma_14
              refine ⟨_, hw, fun r j hj => ?_, ?_, ?_, ?_⟩
              · rw [hC1.1 r j (by omega), hU r j (by omega), hB1.1 r j (by omega), hA1.1 r j (by omega)]
              · rw [hC1.1 15 p (by omega), hU 15 p (by omega), hB1.1 15 p (by omega), hA1.2]; unfold standS; split <;> omega
              · rw [hC1.1 16 p (by omega)]; split <;> omega
              · rw [hC1.2]; unfold freeS; split <;> omega
          · refine lv_aload_n hx hb dX2_works_66 rfl (lv_at hl 2 rfl) ?_
            refine zget (C := RX2) (T := TX2) (N := 19) hx hb hts hinX2 hown hE hw 0 mE_0 rfl 16 (by decide) (hts (.fieldLink RX2 57 "FormworkYardModel" "strikes" "[I") (by decide +kernel)) rfl dX2_works_67 ?_
            refine lv_iload_n hx hb dX2_works_70 rfl (lv_at hl 3 rfl) ?_
            refine lv_iload_n hx hb dX2_works_71 rfl (lv_at hl 1 rfl) ?_
            refine zcalli (va_runS (As := [.int (iI (w))]) (rest := [.int (iI ((p : Int))), .ref (ad 16)]) ⟨hx, hb, hml, hown, hts⟩ (c_X2_strong l D cy A ad _ (w) (by omega)) (va_cwS 1 hts gX2_works_X2_strong rfl rfl rfl (by decide +kernel) ⟨(Nat.le_of_ble_eq_true rfl), (Nat.le_of_ble_eq_true rfl)⟩) (zPS hE hS) rfl rfl hl.1 rfl (lv_room (Nat.le_of_ble_eq_true rfl)) dX2_works_72 ⟨(Nat.le_of_ble_eq_true rfl), (Nat.le_of_ble_eq_true rfl)⟩) hS (fun z_72 H1 locs hz_72 hq hz1 hk1 hS => ?_)
            obtain ⟨hqe, hv_72⟩ := hq
            replace hqe := hqe.symm
            subst hqe
            refine lv_aload_n hx hb dX2_works_75 rfl (lv_at hl 2 rfl) ?_
            refine zget (C := RX2) (T := TX2) (N := 19) hx hb hts hinX2 hown hE hw 0 mE_0 rfl 11 (by decide) (hts (.fieldLink RX2 42 "FormworkYardModel" "wanted" "[I") (by decide +kernel)) rfl dX2_works_76 ?_
            refine lv_iload_n hx hb dX2_works_79 rfl (lv_at hl 3 rfl) ?_
            refine ziald hx hb hE hw 11 (mE_a 11 (by decide) rfl) p rfl (by omega) (by omega) dX2_works_80 ?_
            refine zi_top (fun v_80 hv_80 => ?_)
            rw [hr11] at hv_80
            refine zc_lt (tgt := 88) hx hb dX2_works_81 (by decide) (by first | decide | (constructor <;> omega)) (by first | decide | (constructor <;> omega)) (fun c_81 => ?_) (fun c_81 => ?_)
            · refine zi_const hx hb dX2_works_88 ?_
              refine ziast hx hb hE hS hw 16 (mE_a 16 (by decide) rfl) p rfl (by omega) (by omega) dX2_works_89 (fun H locs hw hS => ?_)
              have hw := hw.cong (mU_a 16 (by decide) rfl (p) ((-1)))
              obtain ⟨ma_15, hma_15⟩ : ∃ z : Nat → Nat → Int, z = (va_up mb 16 (va_up (mb 16) (p) ((-1)))) := ⟨_, rfl⟩
              rw [← hma_15] at hw
              have ht3 : tOK (ma_15 1) := by rw [rU_row (rU_s hU hma_15).1 (show (1:Nat) ≠ 16 by decide), hrow 1 (by decide) (by decide)]; exact ht
              refine lv_iload_n hx hb dX2_works_90 rfl (lv_at hl 1 rfl) ?_
              refine lv_aload_n hx hb dX2_works_91 rfl (lv_at hl 2 rfl) ?_
              refine lv_iload_n hx hb dX2_works_92 rfl (lv_at hl 0 rfl) ?_
              refine zcalli (va_runV (As := [.int (iI (h))]) (rest := [.int (iI (w))]) ⟨hx, hb, hml, hown, hts⟩ (c_X2_gain l D cy A ad mi ma_15 _ (h) hw (by first | decide | (constructor <;> omega)) ht3) (cwV 1 hts gX2_works_X2_gain rfl rfl rfl (by decide +kernel) ⟨(Nat.le_of_ble_eq_true rfl), (Nat.le_of_ble_eq_true rfl)⟩) (zPV hE hS hw (ci := 2) (k0 := 0) rfl mE_0) rfl rfl hl.1 rfl (lv_room (Nat.le_of_ble_eq_true rfl)) dX2_works_93 ⟨(Nat.le_of_ble_eq_true rfl), (Nat.le_of_ble_eq_true rfl)⟩) hS (fun z_93 H1 locs hz_93 hq hz1 hk1 hS => ?_)
              obtain ⟨hqe, hv_93⟩ := hq
              replace hqe := hqe.symm
              subst hqe
              refine zi_add hx hb dX2_works_96 ?_
              refine zi_top (fun x_97 hx_97 => ?_)
              refine lv_istore_n (lv' := [(2, .int (iI (x_97))), (3, .int (iI (h))), (0, .ref (ad 0)), (1, .int (iI ((p : Int))))]) hx hb dX2_works_97 rfl hl (by decide) rfl (fun ls hl => ?_)
              refine zi_iinc (lv' := [(3, .int (iI (h + 1))), (2, .int (iI (x_97))), (0, .ref (ad 0)), (1, .int (iI ((p : Int))))]) hx hb dX2_works_98 hl (k := 1) rfl (by decide) rfl (fun ls hl => ?_)
              refine lv_goto (tgt := 49) hx hb dX2_works_101 (by decide) ?_
              have hS1 := rU_s hU hma_15
              have hgA := gAt_b ht h
              have hr1b : ma_15 1 = ma 1 := (rU_row hS1.1 (by decide)).trans (hrow 1 (by decide) (by decide))
              rw [hr1b] at hv_93
              have hP : strg (mat (ma 1) (endM mi ma p) h) = z_72 := by rw [hv_72, hk]
              have hfs : fnd (fun x => ma 11 p ≤ strg (mat (ma 1) (endM mi ma p) x)) h (1000 - h).toNat = strikeS (ma 1) (ma 11 p) (endM mi ma p) := by rcases hs with hs | hs; exact hs.2; exact absurd hs.1 (by omega)
              rw [fnd_s _ (by omega), if_neg (by rw [hP]; omega)] at hfs
              exact ih (h + 1) x_97 ma_15 _ _ _ (by omega) hS1.1 (by omega) (by omega) (by rw [mat_s _ _ (by omega) (by omega)]; omega) (by rw [hS1.2]; exact Or.inl ⟨rfl, hfs⟩) hw hS (lv_sub hl [0, 1, 2, 3] rfl)
            · refine lv_iload_n hx hb dX2_works_84 rfl (lv_at hl 0 rfl) ?_
              refine lv_goto (tgt := 89) hx hb dX2_works_85 (by decide) ?_
              refine ziast hx hb hE hS hw 16 (mE_a 16 (by decide) rfl) p rfl (by omega) (by omega) dX2_works_89 (fun H locs hw hS => ?_)
              have hw := hw.cong (mU_a 16 (by decide) rfl (p) (h))
              obtain ⟨ma_16, hma_16⟩ : ∃ z : Nat → Nat → Int, z = (va_up mb 16 (va_up (mb 16) (p) (h))) := ⟨_, rfl⟩
              rw [← hma_16] at hw
              have ht3 : tOK (ma_16 1) := by rw [rU_row (rU_s hU hma_16).1 (show (1:Nat) ≠ 16 by decide), hrow 1 (by decide) (by decide)]; exact ht
              refine lv_iload_n hx hb dX2_works_90 rfl (lv_at hl 1 rfl) ?_
              refine lv_aload_n hx hb dX2_works_91 rfl (lv_at hl 2 rfl) ?_
              refine lv_iload_n hx hb dX2_works_92 rfl (lv_at hl 0 rfl) ?_
              refine zcalli (va_runV (As := [.int (iI (h))]) (rest := [.int (iI (w))]) ⟨hx, hb, hml, hown, hts⟩ (c_X2_gain l D cy A ad mi ma_16 _ (h) hw (by first | decide | (constructor <;> omega)) ht3) (cwV 1 hts gX2_works_X2_gain rfl rfl rfl (by decide +kernel) ⟨(Nat.le_of_ble_eq_true rfl), (Nat.le_of_ble_eq_true rfl)⟩) (zPV hE hS hw (ci := 2) (k0 := 0) rfl mE_0) rfl rfl hl.1 rfl (lv_room (Nat.le_of_ble_eq_true rfl)) dX2_works_93 ⟨(Nat.le_of_ble_eq_true rfl), (Nat.le_of_ble_eq_true rfl)⟩) hS (fun z_93 H1 locs hz_93 hq hz1 hk1 hS => ?_)
              obtain ⟨hqe, hv_93⟩ := hq
              replace hqe := hqe.symm
              subst hqe
              refine zi_add hx hb dX2_works_96 ?_
              refine zi_top (fun x_97 hx_97 => ?_)
              refine lv_istore_n (lv' := [(2, .int (iI (x_97))), (3, .int (iI (h))), (0, .ref (ad 0)), (1, .int (iI ((p : Int))))]) hx hb dX2_works_97 rfl hl (by decide) rfl (fun ls hl => ?_)
              refine zi_iinc (lv' := [(3, .int (iI (h + 1))), (2, .int (iI (x_97))), (0, .ref (ad 0)), (1, .int (iI ((p : Int))))]) hx hb dX2_works_98 hl (k := 1) rfl (by decide) rfl (fun ls hl => ?_)
              refine lv_goto (tgt := 49) hx hb dX2_works_101 (by decide) ?_
              have hS1 := rU_s hU hma_16
              have hgA := gAt_b ht h
              have hr1b : ma_16 1 = ma 1 := (rU_row hS1.1 (by decide)).trans (hrow 1 (by decide) (by decide))
              rw [hr1b] at hv_93
              have hP : strg (mat (ma 1) (endM mi ma p) h) = z_72 := by rw [hv_72, hk]
              have hfs : fnd (fun x => ma 11 p ≤ strg (mat (ma 1) (endM mi ma p) x)) h (1000 - h).toNat = strikeS (ma 1) (ma 11 p) (endM mi ma p) := by rcases hs with hs | hs; exact hs.2; exact absurd hs.1 (by omega)
              rw [fnd_s _ (by omega), if_pos (by rw [hP]; omega)] at hfs
              exact ih (h + 1) x_97 ma_16 _ _ _ (by omega) hS1.1 (by omega) (by omega) (by rw [mat_s _ _ (by omega) (by omega)]; omega) (by rw [hS1.2]; exact Or.inr ⟨by omega, by omega, hfs⟩) hw hS (lv_sub hl [0, 1, 2, 3] rfl)
    exact loop_49 ((1000 - endM mi ma p).toNat + 1) z_45 0 ma_10 _ _ _ (by omega) rU_r (by omega) (by omega) (by rw [hE45, mat_0]) (Or.inl ⟨hB1.2, by rw [hE45]; rfl⟩) hw hS (lv_sub hl [0, 1, 2, 3] rfl)
end
section
theorem zWA {mi : Nat → Int} {ma mb mc : Nat → Nat → Int} {p : Nat} (hU : aU ma mb) (hw : wU p mb mc) (hv : wV mi mb p mc) (hV : ∀ q, q < p → ma 7 q = 1 → wV mi ma q mb) : ∀ q, q < p + 1 → ma 7 q = 1 → wV mi ma q mc := by
  intro q hq h7
  have e8 : mb 8 = ma 8 := aU_row hU (by decide)
  have e9 : mb 9 = ma 9 := aU_row hU (by decide)
  have e11 : mb 11 = ma 11 := aU_row hU (by decide)
  have e12 : mb 12 = ma 12 := aU_row hU (by decide)
  have e14 : mb 14 = ma 14 := aU_row hU (by decide)
  have e1 : mb 1 = ma 1 := aU_row hU (by decide)
  by_cases hp : q = p
  · subst hp
    unfold wV at hv ⊢
    rw [e1, e8, e11, endM_c e8 e9 e12 e14] at hv
    exact hv
  · have h := hV q (by omega) h7
    unfold wV at h ⊢
    rw [hw 15 q (by omega), hw 16 q (by omega), hw 17 q (by omega)]
    exact h
set_option maxHeartbeats 4000000 in
set_option maxRecDepth 100000 in
theorem c_X2_isBusy (l : Launch) (D : va_G) (cy : Nat → ClassId) (A : Nat → Prop) (ad : Nat → Nat) (mi : Nat → Int) (ma : Nat → Nat → Int) (H0 : Heap) (p : Nat) (h : Int) (hw : zW D A ad (mE cy ad mi ma) H0) (hp : p < 11) (h1 : zr h) (hb7 : ∀ j, j < 11 → ma 7 j = 0 ∨ ma 7 j = 1) (hr9 : ma 7 p = 1 → zr (ma 15 p) ∧ zr (ma 17 p)) : Met l yX2_isBusy wsX2_isBusy ({ frames := 0, cells := 0, slots := 0, locals := 0 }) (zPc D cy A [.ref (ad 0), .int (iI ((p : Int))), .int (iI (h))] H0) (zQi (fun z H1 => H1 = H0 ∧ ((z = 1 ∧ ma 7 p = 1 ∧ ma 15 p ≤ h ∧ h < ma 17 p) ∨ (z = 0 ∧ ¬ (ma 7 p = 1 ∧ ma 15 p ≤ h ∧ h < ma 17 p)))) A) 0 0 A := by
  refine Met.ofW (cc := cX2_isBusy) (maxL := 3) (ret := (some .boolean)) (by decide) rfl ?_
  intro pg en s mt args below meth c s₁ B hml hv
  obtain ⟨rfl, hH, hE⟩ := hv
  subst hH
  have hx := B.exec
  have hb := B.bytes
  have hr := B.returns
  have hts := atoms_spec (ws := wsX2_isBusy) B.pre
  have hown : s.vm.findClass RX2 = some mt.cls := findClass_of_methodNamed B.named
  have hlocks := B.notSynchronized
  have hinX2 : ∀ w ∈ u_ws RX2 TX2 19, w ∈ wsX2_isBusy := by decide +kernel
  have hS : va_S A s.heap s.heap [] := va_S.rf
  have hl := lv_entry ([.ref (ad 0), .int (iI ((p : Int))), .int (iI (h))]) (n := 3) (Nat.le_of_ble_eq_true rfl)
  rw [lg_entry_eq]
  generalize (lg_sl ([.ref (ad 0), .int (iI ((p : Int))), .int (iI (h))]) ++ List.replicate (3 - (lg_sl ([.ref (ad 0), .int (iI ((p : Int))), .int (iI (h))])).length) Slot.unset).toArray = ls at hl ⊢
  have hl : lv_has ls 3 [(0, .ref (ad 0)), (1, .int (iI ((p : Int)))), (2, .int (iI (h)))] := hl
  refine lv_aload_n hx hb dX2_isBusy_0 rfl (lv_at hl 0 rfl) ?_
  refine zget (C := RX2) (T := TX2) (N := 19) hx hb hts hinX2 hown hE hw 0 mE_0 rfl 7 (by decide) (hts (.fieldLink RX2 29 "FormworkYardModel" "isThere" "[Z") (by decide +kernel)) rfl dX2_isBusy_1 ?_
  refine lv_iload_n hx hb dX2_isBusy_4 rfl (lv_at hl 1 rfl) ?_
  refine zzald hx hb hE hw 7 (mE_a 7 (by decide) rfl) p rfl (by omega) (by omega) dX2_isBusy_5 ?_
  refine zi_top (fun v_5 hv_5 => ?_)
  have hB := hb7 p (by omega)
  refine zf_eq (tgt := 33) hx hb dX2_isBusy_6 (by decide) (by first | decide | (constructor <;> omega)) (fun c_6 => ?_) (fun c_6 => ?_)
  · refine zi_const hx hb dX2_isBusy_33 ?_
    refine zzret hx hb hr hlocks hS (Nat.le_of_ble_eq_true rfl) (Nat.le_of_ble_eq_true rfl) (by omega) ?_ dX2_isBusy_34
    exact ⟨rfl, by omega⟩
  · have hR := hr9 (by omega)
    refine lv_iload_n hx hb dX2_isBusy_9 rfl (lv_at hl 2 rfl) ?_
    refine lv_aload_n hx hb dX2_isBusy_10 rfl (lv_at hl 0 rfl) ?_
    refine zget (C := RX2) (T := TX2) (N := 19) hx hb hts hinX2 hown hE hw 0 mE_0 rfl 15 (by decide) (hts (.fieldLink RX2 54 "FormworkYardModel" "stands" "[I") (by decide +kernel)) rfl dX2_isBusy_11 ?_
    refine lv_iload_n hx hb dX2_isBusy_14 rfl (lv_at hl 1 rfl) ?_
    refine ziald hx hb hE hw 15 (mE_a 15 (by decide) rfl) p rfl (by omega) (by omega) dX2_isBusy_15 ?_
    refine zi_top (fun v_15 hv_15 => ?_)
    refine zc_lt (tgt := 33) hx hb dX2_isBusy_16 (by decide) (by first | decide | (constructor <;> omega)) (by first | decide | (constructor <;> omega)) (fun c_16 => ?_) (fun c_16 => ?_)
    · refine zi_const hx hb dX2_isBusy_33 ?_
      refine zzret hx hb hr hlocks hS (Nat.le_of_ble_eq_true rfl) (Nat.le_of_ble_eq_true rfl) (by omega) ?_ dX2_isBusy_34
      exact ⟨rfl, by omega⟩
    · refine lv_iload_n hx hb dX2_isBusy_19 rfl (lv_at hl 2 rfl) ?_
      refine lv_aload_n hx hb dX2_isBusy_20 rfl (lv_at hl 0 rfl) ?_
      refine zget (C := RX2) (T := TX2) (N := 19) hx hb hts hinX2 hown hE hw 0 mE_0 rfl 17 (by decide) (hts (.fieldLink RX2 60 "FormworkYardModel" "frees" "[I") (by decide +kernel)) rfl dX2_isBusy_21 ?_
      refine lv_iload_n hx hb dX2_isBusy_24 rfl (lv_at hl 1 rfl) ?_
      refine ziald hx hb hE hw 17 (mE_a 17 (by decide) rfl) p rfl (by omega) (by omega) dX2_isBusy_25 ?_
      refine zi_top (fun v_25 hv_25 => ?_)
      refine zc_ge (tgt := 33) hx hb dX2_isBusy_26 (by decide) (by first | decide | (constructor <;> omega)) (by first | decide | (constructor <;> omega)) (fun c_26 => ?_) (fun c_26 => ?_)
      · refine zi_const hx hb dX2_isBusy_33 ?_
        refine zzret hx hb hr hlocks hS (Nat.le_of_ble_eq_true rfl) (Nat.le_of_ble_eq_true rfl) (by omega) ?_ dX2_isBusy_34
        exact ⟨rfl, by omega⟩
      · refine zi_const hx hb dX2_isBusy_29 ?_
        refine lv_goto (tgt := 34) hx hb dX2_isBusy_30 (by decide) ?_
        refine zzret hx hb hr hlocks hS (Nat.le_of_ble_eq_true rfl) (Nat.le_of_ble_eq_true rfl) (by omega) ?_ dX2_isBusy_34
        exact ⟨rfl, by omega⟩

set_option maxHeartbeats 4000000 in
set_option maxRecDepth 100000 in
theorem c_X2_worksAll (l : Launch) (D : va_G) (cy : Nat → ClassId) (A : Nat → Prop) (ad : Nat → Nat) (mi : Nat → Int) (ma : Nat → Nat → Int) (H0 : Heap) (hw : zW D A ad (mE cy ad mi ma) H0) (hm0 : mOK mi ma) : Met l yX2_worksAll wsX2_worksAll ({ frames := 4, cells := 0, slots := 0, locals := 87 }) (zPc D cy A [.ref (ad 0)] H0) (zQv (fun H1 => ∃ mb, zW D A ad (mE cy ad mi mb) H1 ∧ aU ma mb ∧ ∀ q, q < 10 → ma 7 q = 1 → wV mi ma q mb) A) 0 0 A := by
  refine Met.ofW (cc := cX2_worksAll) (maxL := 2) (ret := none) (by decide) rfl ?_
  intro pg en s mt args below meth c s₁ B hml hv
  obtain ⟨rfl, hH, hE⟩ := hv
  subst hH
  have hx := B.exec
  have hb := B.bytes
  have hr := B.returns
  have hts := atoms_spec (ws := wsX2_worksAll) B.pre
  have hown : s.vm.findClass RX2 = some mt.cls := findClass_of_methodNamed B.named
  have hlocks := B.notSynchronized
  have hinX2 : ∀ w ∈ u_ws RX2 TX2 19, w ∈ wsX2_worksAll := by decide +kernel
  have hS : va_S A s.heap s.heap [] := va_S.rf
  have hl := lv_entry ([.ref (ad 0)]) (n := 2) (Nat.le_of_ble_eq_true rfl)
  rw [lg_entry_eq]
  generalize (lg_sl ([.ref (ad 0)]) ++ List.replicate (2 - (lg_sl ([.ref (ad 0)])).length) Slot.unset).toArray = ls at hl ⊢
  have hl : lv_has ls 2 [(0, .ref (ad 0))] := hl
  obtain ⟨ht, hg, hb7, hpo⟩ := id hm0
  refine zi_const hx hb dX2_worksAll_0 ?_
  refine lv_istore_n (lv' := [(1, .int (iI (0))), (0, .ref (ad 0))]) hx hb dX2_worksAll_1 rfl hl (by decide) rfl (fun ls hl => ?_)
  have loop_2 : ∀ (n : Nat) (p : Nat) (mb : Nat → Nat → Int) (H : Heap) (locs : List Loc) (ls : Array Slot), 10 - p < n → (p ≤ 10) → (aU ma mb) → (∀ q, q < p → ma 7 q = 1 → wV mi ma q mb) → zW D A ad (mE cy ad mi mb) H → va_S A s.heap H locs → lv_has ls 2 [(1, .int (iI ((p : Int)))), (0, .ref (ad 0))] → W pg l en (headSpec wsX2_worksAll ({ frames := 4, cells := 0, slots := 0, locals := 87 })).room s mt ([.ref (ad 0)] : List Value).toArray below meth c H locs 0 0 (MQ below (zQv (fun H1 => ∃ mb, zW D A ad (mE cy ad mi mb) H1 ∧ aU ma mb ∧ ∀ q, q < 10 → ma 7 q = 1 → wV mi ma q mb) A) ([.ref (ad 0)] : List Value).toArray s 0 0 A) (F0 mt 2 ls []) := by
    intro n
    induction n with
    | zero =>
      intro p mb H locs ls hm hp10 hU hV
      exfalso; omega
    | succ n ih =>
      intro p mb H locs ls hm hp10 hU hV hw hS hl
      have r7 : mb 7 = ma 7 := aU_row hU (by decide)
      refine lv_iload_n hx hb dX2_worksAll_2 rfl (lv_at hl 0 rfl) ?_
      refine zi_bipush hx hb dX2_worksAll_3 (by decide) ?_
      refine zc_ge (tgt := 28) hx hb dX2_worksAll_5 (by decide) (by first | decide | (constructor <;> omega)) (by first | decide | (constructor <;> omega)) (fun c_5 => ?_) (fun c_5 => ?_)
      · refine zvret hx hb hr hlocks hS (Nat.le_of_ble_eq_true rfl) (Nat.le_of_ble_eq_true rfl) ?_ dX2_worksAll_28
        exact ⟨_, hw, hU, fun q hq h7 => hV q (by omega) h7⟩
      · refine lv_aload_n hx hb dX2_worksAll_8 rfl (lv_at hl 1 rfl) ?_
        refine zget (C := RX2) (T := TX2) (N := 19) hx hb hts hinX2 hown hE hw 0 mE_0 rfl 7 (by decide) (hts (.fieldLink RX2 29 "FormworkYardModel" "isThere" "[Z") (by decide +kernel)) rfl dX2_worksAll_9 ?_
        refine lv_iload_n hx hb dX2_worksAll_12 rfl (lv_at hl 0 rfl) ?_
        refine zzald hx hb hE hw 7 (mE_a 7 (by decide) rfl) p rfl (by omega) (by omega) dX2_worksAll_13 ?_
        refine zi_top (fun v_13 hv_13 => ?_)
        rw [r7] at hv_13
        have hB := hb7 p (by omega)
        refine zf_eq (tgt := 22) hx hb dX2_worksAll_14 (by decide) (by first | decide | (constructor <;> omega)) (fun c_14 => ?_) (fun c_14 => ?_)
        · refine zi_iinc (lv' := [(1, .int (iI ((p : Int) + 1))), (0, .ref (ad 0))]) hx hb dX2_worksAll_22 hl (k := 0) rfl (by decide) rfl (fun ls hl => ?_)
          refine lv_goto (tgt := 2) hx hb dX2_worksAll_25 (by decide) ?_
          exact ih (p + 1) mb _ _ _ (by omega) (by omega) hU (fun q hq h7 => by rcases Nat.lt_or_ge q p with h | h; exact hV q h h7; exact absurd h7 (by have e : q = p := (by omega); subst e; omega)) hw hS (lv_sub hl [0, 1] rfl)
        · have hpo2 : pOK mb p := (pOK_c (aU_row hU (by decide)) (aU_row hU (by decide)) (aU_row hU (by decide)) (aU_row hU (by decide)) (aU_row hU (by decide)) (aU_row hU (by decide)) (aU_row hU (by decide))).mpr (hpo p (by omega) (by omega))
          have ht2 : tOK (mb 1) := by rw [aU_row hU (show (1:Nat) < 15 ∨ 17 < 1 by decide)]; exact ht
          refine lv_aload_n hx hb dX2_worksAll_17 rfl (lv_at hl 1 rfl) ?_
          refine lv_iload_n hx hb dX2_worksAll_18 rfl (lv_at hl 0 rfl) ?_
          refine zcallv (va_runV (As := [.int (iI ((p : Int)))]) (rest := []) ⟨hx, hb, hml, hown, hts⟩ (c_X2_works l D cy A ad mi mb _ p hw (by omega) ht2 hg hpo2) (cwV 1 hts gX2_worksAll_X2_works rfl rfl rfl (by decide +kernel) ⟨(Nat.le_of_ble_eq_true rfl), (Nat.le_of_ble_eq_true rfl)⟩) (zPV hE hS hw (ci := 2) (k0 := 0) rfl mE_0) rfl rfl hl.1 rfl (lv_room (Nat.le_of_ble_eq_true rfl)) dX2_worksAll_19 ⟨(Nat.le_of_ble_eq_true rfl), (Nat.le_of_ble_eq_true rfl)⟩) hS (fun H1 locs hq hz1 hk1 hS => ?_)
          obtain ⟨ma_w19, hw, hwU_19, hwV_19⟩ := hq
          refine zi_iinc (lv' := [(1, .int (iI ((p : Int) + 1))), (0, .ref (ad 0))]) hx hb dX2_worksAll_22 hl (k := 0) rfl (by decide) rfl (fun ls hl => ?_)
          refine lv_goto (tgt := 2) hx hb dX2_worksAll_25 (by decide) ?_
          have hU2 : aU ma ma_w19 := fun r j hj => by rw [hwU_19 r j (by omega), hU r j hj]
          have hV2 : ∀ q, q < p + 1 → ma 7 q = 1 → wV mi ma q ma_w19 := zWA hU hwU_19 hwV_19 hV
          exact ih (p + 1) ma_w19 _ _ _ (by omega) (by omega) hU2 hV2 hw hS (lv_sub hl [0, 1] rfl)
  exact loop_2 11 0 ma _ _ _ (by omega) (by omega) (fun _ _ _ => rfl) (fun q hq => absurd hq (Nat.not_lt_zero q)) hw hS (lv_sub hl [0, 1] rfl)

set_option maxHeartbeats 4000000 in
set_option maxRecDepth 100000 in
theorem c_X2_needOf (l : Launch) (D : va_G) (cy : Nat → ClassId) (A : Nat → Prop) (ad : Nat → Nat) (mi : Nat → Int) (ma : Nat → Nat → Int) (H0 : Heap) (h : Int) (hw : zW D A ad (mE cy ad mi ma) H0) (h1 : zr h) (hb7 : ∀ j, j < 11 → ma 7 j = 0 ∨ ma 7 j = 1) (hr9 : ∀ q, q < 10 → ma 7 q = 1 → zr (ma 15 q) ∧ zr (ma 17 q) ∧ 1 ≤ ma 10 q ∧ ma 10 q ≤ 30) : Met l yX2_needOf wsX2_needOf ({ frames := 1, cells := 0, slots := 0, locals := 22 }) (zPc D cy A [.ref (ad 0), .int (iI (h))] H0) (zQi (fun z H1 => H1 = H0 ∧ z = nsum ma h 10) A) 0 0 A := by
  refine Met.ofW (cc := cX2_needOf) (maxL := 4) (ret := (some .int)) (by decide) rfl ?_
  intro pg en s mt args below meth c s₁ B hml hv
  obtain ⟨rfl, hH, hE⟩ := hv
  subst hH
  have hx := B.exec
  have hb := B.bytes
  have hr := B.returns
  have hts := atoms_spec (ws := wsX2_needOf) B.pre
  have hown : s.vm.findClass RX2 = some mt.cls := findClass_of_methodNamed B.named
  have hlocks := B.notSynchronized
  have hinX2 : ∀ w ∈ u_ws RX2 TX2 19, w ∈ wsX2_needOf := by decide +kernel
  have hS : va_S A s.heap s.heap [] := va_S.rf
  have hl := lv_entry ([.ref (ad 0), .int (iI (h))]) (n := 4) (Nat.le_of_ble_eq_true rfl)
  rw [lg_entry_eq]
  generalize (lg_sl ([.ref (ad 0), .int (iI (h))]) ++ List.replicate (4 - (lg_sl ([.ref (ad 0), .int (iI (h))])).length) Slot.unset).toArray = ls at hl ⊢
  have hl : lv_has ls 4 [(0, .ref (ad 0)), (1, .int (iI (h)))] := hl
  refine zi_const hx hb dX2_needOf_0 ?_
  refine lv_istore_n (lv' := [(2, .int (iI (0))), (0, .ref (ad 0)), (1, .int (iI (h)))]) hx hb dX2_needOf_1 rfl hl (by decide) rfl (fun ls hl => ?_)
  refine zi_const hx hb dX2_needOf_2 ?_
  refine lv_istore_n (lv' := [(3, .int (iI (0))), (2, .int (iI (0))), (0, .ref (ad 0)), (1, .int (iI (h)))]) hx hb dX2_needOf_3 rfl hl (by decide) rfl (fun ls hl => ?_)
  have loop_4 : ∀ (n : Nat) (p : Nat) (w : Int) (locs : List Loc) (ls : Array Slot), 10 - p < n → (p ≤ 10) → (w = nsum ma h p) → va_S A s.heap s.heap locs → lv_has ls 4 [(3, .int (iI ((p : Int)))), (2, .int (iI (w))), (0, .ref (ad 0)), (1, .int (iI (h)))] → W pg l en (headSpec wsX2_needOf ({ frames := 1, cells := 0, slots := 0, locals := 22 })).room s mt ([.ref (ad 0), .int (iI (h))] : List Value).toArray below meth c s.heap locs 0 0 (MQ below (zQi (fun z H1 => H1 = s.heap ∧ z = nsum ma h 10) A) ([.ref (ad 0), .int (iI (h))] : List Value).toArray s 0 0 A) (F0 mt 4 ls []) := by
    intro n
    induction n with
    | zero =>
      intro p w locs ls hm hp10 hk
      exfalso; omega
    | succ n ih =>
      intro p w locs ls hm hp10 hk hS hl
      have hns := nsum_b (ma := ma) (h := h) (n := p) (fun q hq h7 => (hr9 q (by omega) h7).2.2)
      refine lv_iload_n hx hb dX2_needOf_4 rfl (lv_at hl 0 rfl) ?_
      refine zi_bipush hx hb dX2_needOf_5 (by decide) ?_
      refine zc_ge (tgt := 38) hx hb dX2_needOf_7 (by decide) (by first | decide | (constructor <;> omega)) (by first | decide | (constructor <;> omega)) (fun c_7 => ?_) (fun c_7 => ?_)
      · refine lv_iload_n hx hb dX2_needOf_38 rfl (lv_at hl 1 rfl) ?_
        refine ziret hx hb hr hlocks hS (Nat.le_of_ble_eq_true rfl) (Nat.le_of_ble_eq_true rfl) (by first | decide | (constructor <;> omega)) ?_ dX2_needOf_39
        exact ⟨rfl, by rw [hk, show p = 10 by omega]⟩
      · refine lv_iload_n hx hb dX2_needOf_10 rfl (lv_at hl 1 rfl) ?_
        refine lv_aload_n hx hb dX2_needOf_11 rfl (lv_at hl 2 rfl) ?_
        refine lv_iload_n hx hb dX2_needOf_12 rfl (lv_at hl 0 rfl) ?_
        refine lv_iload_n hx hb dX2_needOf_13 rfl (lv_at hl 3 rfl) ?_
        refine zcalli (va_runV (As := [.int (iI ((p : Int))), .int (iI (h))]) (rest := [.int (iI (w))]) ⟨hx, hb, hml, hown, hts⟩ (c_X2_isBusy l D cy A ad mi ma _ p (h) hw (by omega) (by first | decide | (constructor <;> omega)) hb7 (fun q => ⟨(hr9 _ (by omega) q).1, (hr9 _ (by omega) q).2.1⟩)) (cwV 2 hts gX2_needOf_X2_isBusy rfl rfl rfl (by decide +kernel) ⟨(Nat.le_of_ble_eq_true rfl), (Nat.le_of_ble_eq_true rfl)⟩) (zPV hE hS hw (ci := 2) (k0 := 0) rfl mE_0) rfl rfl hl.1 rfl (lv_room (Nat.le_of_ble_eq_true rfl)) dX2_needOf_14 ⟨(Nat.le_of_ble_eq_true rfl), (Nat.le_of_ble_eq_true rfl)⟩) hS (fun z_14 H1 locs hz_14 hq hz1 hk1 hS => ?_)
        obtain ⟨hqe, hv_14⟩ := hq
        replace hqe := hqe.symm
        subst hqe
        refine zf_eq (tgt := 29) hx hb dX2_needOf_17 (by decide) (by first | decide | (constructor <;> omega)) (fun c_17 => ?_) (fun c_17 => ?_)
        · refine zi_const hx hb dX2_needOf_29 ?_
          refine zi_add hx hb dX2_needOf_30 ?_
          refine zi_top (fun x_31 hx_31 => ?_)
          refine lv_istore_n (lv' := [(2, .int (iI (x_31))), (3, .int (iI ((p : Int)))), (0, .ref (ad 0)), (1, .int (iI (h)))]) hx hb dX2_needOf_31 rfl hl (by decide) rfl (fun ls hl => ?_)
          refine zi_iinc (lv' := [(3, .int (iI ((p : Int) + 1))), (2, .int (iI (x_31))), (0, .ref (ad 0)), (1, .int (iI (h)))]) hx hb dX2_needOf_32 hl (k := 1) rfl (by decide) rfl (fun ls hl => ?_)
          refine lv_goto (tgt := 4) hx hb dX2_needOf_35 (by decide) ?_
          exact ih (p + 1) x_31 _ _ (by omega) (by omega) (by simp only [nsum]; rw [if_neg (by omega)]; omega) hS (lv_sub hl [0, 1, 2, 3] rfl)
        · refine lv_aload_n hx hb dX2_needOf_20 rfl (lv_at hl 2 rfl) ?_
          refine zget (C := RX2) (T := TX2) (N := 19) hx hb hts hinX2 hown hE hw 0 mE_0 rfl 10 (by decide) (hts (.fieldLink RX2 39 "FormworkYardModel" "needs" "[I") (by decide +kernel)) rfl dX2_needOf_21 ?_
          refine lv_iload_n hx hb dX2_needOf_24 rfl (lv_at hl 0 rfl) ?_
          refine ziald hx hb hE hw 10 (mE_a 10 (by decide) rfl) p rfl (by omega) (by omega) dX2_needOf_25 ?_
          refine zi_top (fun v_25 hv_25 => ?_)
          refine lv_goto (tgt := 30) hx hb dX2_needOf_26 (by decide) ?_
          refine zi_add hx hb dX2_needOf_30 ?_
          refine zi_top (fun x_31 hx_31 => ?_)
          refine lv_istore_n (lv' := [(2, .int (iI (x_31))), (3, .int (iI ((p : Int)))), (0, .ref (ad 0)), (1, .int (iI (h)))]) hx hb dX2_needOf_31 rfl hl (by decide) rfl (fun ls hl => ?_)
          refine zi_iinc (lv' := [(3, .int (iI ((p : Int) + 1))), (2, .int (iI (x_31))), (0, .ref (ad 0)), (1, .int (iI (h)))]) hx hb dX2_needOf_32 hl (k := 1) rfl (by decide) rfl (fun ls hl => ?_)
          refine lv_goto (tgt := 4) hx hb dX2_needOf_35 (by decide) ?_
          exact ih (p + 1) x_31 _ _ (by omega) (by omega) (by simp only [nsum]; rw [if_pos (by omega)]; omega) hS (lv_sub hl [0, 1, 2, 3] rfl)
  exact loop_4 11 0 0 _ _ (by omega) (by omega) rfl hS (lv_sub hl [0, 1, 2, 3] rfl)

set_option maxHeartbeats 4000000 in
set_option maxRecDepth 100000 in
theorem c_X2_thrown (l : Launch) (D : va_G) (cy : Nat → ClassId) (A : Nat → Prop) (ad : Nat → Nat) (mi : Nat → Int) (ma : Nat → Nat → Int) (H0 : Heap) (hw : zW D A ad (mE cy ad mi ma) H0) (h0 : zr (mi 0)) : Met l yX2_thrown wsX2_thrown ({ frames := 0, cells := 0, slots := 0, locals := 0 }) (zPc D cy A [.ref (ad 0)] H0) (zQi (fun z H1 => H1 = H0 ∧ z = mi 0) A) 0 0 A := by
  refine Met.ofW (cc := cX2_thrown) (maxL := 1) (ret := (some .int)) (by decide) rfl ?_
  intro pg en s mt args below meth c s₁ B hml hv
  obtain ⟨rfl, hH, hE⟩ := hv
  subst hH
  have hx := B.exec
  have hb := B.bytes
  have hr := B.returns
  have hts := atoms_spec (ws := wsX2_thrown) B.pre
  have hown : s.vm.findClass RX2 = some mt.cls := findClass_of_methodNamed B.named
  have hlocks := B.notSynchronized
  have hinX2 : ∀ w ∈ u_ws RX2 TX2 19, w ∈ wsX2_thrown := by decide +kernel
  have hS : va_S A s.heap s.heap [] := va_S.rf
  have hl := lv_entry ([.ref (ad 0)]) (n := 1) (Nat.le_of_ble_eq_true rfl)
  rw [lg_entry_eq]
  generalize (lg_sl ([.ref (ad 0)]) ++ List.replicate (1 - (lg_sl ([.ref (ad 0)])).length) Slot.unset).toArray = ls at hl ⊢
  have hl : lv_has ls 1 [(0, .ref (ad 0))] := hl
  refine lv_aload_n hx hb dX2_thrown_0 rfl (lv_at hl 0 rfl) ?_
  refine zget (C := RX2) (T := TX2) (N := 19) hx hb hts hinX2 hown hE hw 0 mE_0 rfl 0 (by decide) (hts (.fieldLink RX2 66 "FormworkYardModel" "thrown" "I") (by decide +kernel)) rfl dX2_thrown_1 ?_
  refine ziret hx hb hr hlocks hS (Nat.le_of_ble_eq_true rfl) (Nat.le_of_ble_eq_true rfl) (by first | decide | (constructor <;> omega)) ?_ dX2_thrown_4
  exact ⟨rfl, rfl⟩

set_option maxHeartbeats 4000000 in
set_option maxRecDepth 100000 in
theorem c_X2_fails (l : Launch) (D : va_G) (cy : Nat → ClassId) (A : Nat → Prop) (ad : Nat → Nat) (mi : Nat → Int) (ma : Nat → Nat → Int) (H0 : Heap) (k : Int) (hw : zW D A ad (mE cy ad mi ma) H0) (h1 : zr k) : Met l yX2_fails wsX2_fails ({ frames := 0, cells := 0, slots := 0, locals := 0 }) (zPc D cy A [.ref (ad 0), .int (iI (k))] H0) (zQi (fun z H1 => zW D A ad (mE cy ad (va_up mi 0 k) ma) H1 ∧ z = 0) A) 0 0 A := by
  refine Met.ofW (cc := cX2_fails) (maxL := 2) (ret := (some .int)) (by decide) rfl ?_
  intro pg en s mt args below meth c s₁ B hml hv
  obtain ⟨rfl, hH, hE⟩ := hv
  subst hH
  have hx := B.exec
  have hb := B.bytes
  have hr := B.returns
  have hts := atoms_spec (ws := wsX2_fails) B.pre
  have hown : s.vm.findClass RX2 = some mt.cls := findClass_of_methodNamed B.named
  have hlocks := B.notSynchronized
  have hinX2 : ∀ w ∈ u_ws RX2 TX2 19, w ∈ wsX2_fails := by decide +kernel
  have hS : va_S A s.heap s.heap [] := va_S.rf
  have hl := lv_entry ([.ref (ad 0), .int (iI (k))]) (n := 2) (Nat.le_of_ble_eq_true rfl)
  rw [lg_entry_eq]
  generalize (lg_sl ([.ref (ad 0), .int (iI (k))]) ++ List.replicate (2 - (lg_sl ([.ref (ad 0), .int (iI (k))])).length) Slot.unset).toArray = ls at hl ⊢
  have hl : lv_has ls 2 [(0, .ref (ad 0)), (1, .int (iI (k)))] := hl
  refine lv_aload_n hx hb dX2_fails_0 rfl (lv_at hl 0 rfl) ?_
  refine lv_iload_n hx hb dX2_fails_1 rfl (lv_at hl 1 rfl) ?_
  refine zput (C := RX2) (T := TX2) (N := 19) hx hb hts hinX2 tyX2 tyX2_ok nmX2 hown hE hS hw 0 mE_0 rfl 0 (by decide) (hts (.fieldLink RX2 66 "FormworkYardModel" "thrown" "I") (by decide +kernel)) rfl (ty := .int) (by decide +kernel) rfl rfl (Nat.le_of_ble_eq_true rfl) dX2_fails_2 (fun H locs hw hS => ?_)
  have hw := hw.cong (mU_i 0 (by decide) (k))
  refine zi_const hx hb dX2_fails_5 ?_
  refine ziret hx hb hr hlocks hS (Nat.le_of_ble_eq_true rfl) (Nat.le_of_ble_eq_true rfl) (by first | decide | (constructor <;> omega)) ?_ dX2_fails_6
  exact ⟨hw, rfl⟩

set_option maxHeartbeats 4000000 in
set_option maxRecDepth 100000 in
theorem c_X2_temperature (l : Launch) (D : va_G) (cy : Nat → ClassId) (A : Nat → Prop) (ad : Nat → Nat) (mi : Nat → Int) (ma : Nat → Nat → Int) (H0 : Heap) (h : Int) (hw : zW D A ad (mE cy ad mi ma) H0) (h1 : zr h) (ht : tOK (ma 1)) : Met l yX2_temperature wsX2_temperature ({ frames := 2, cells := 0, slots := 0, locals := 42 }) (zPc D cy A [.ref (ad 0), .int (iI (h))] H0) (zQi (fun z H1 => ∃ c, zW D A ad (mE cy ad (va_up mi 0 c) ma) H1 ∧ c = (if 0 ≤ h ∧ h < 1000 then 0 else 1) ∧ (c = 0 → z = ma 1 h.toNat)) A) 0 0 A := by
  refine Met.ofW (cc := cX2_temperature) (maxL := 2) (ret := (some .int)) (by decide) rfl ?_
  intro pg en s mt args below meth c s₁ B hml hv
  obtain ⟨rfl, hH, hE⟩ := hv
  subst hH
  have hx := B.exec
  have hb := B.bytes
  have hr := B.returns
  have hts := atoms_spec (ws := wsX2_temperature) B.pre
  have hown : s.vm.findClass RX2 = some mt.cls := findClass_of_methodNamed B.named
  have hlocks := B.notSynchronized
  have hinX2 : ∀ w ∈ u_ws RX2 TX2 19, w ∈ wsX2_temperature := by decide +kernel
  have hS : va_S A s.heap s.heap [] := va_S.rf
  have hl := lv_entry ([.ref (ad 0), .int (iI (h))]) (n := 2) (Nat.le_of_ble_eq_true rfl)
  rw [lg_entry_eq]
  generalize (lg_sl ([.ref (ad 0), .int (iI (h))]) ++ List.replicate (2 - (lg_sl ([.ref (ad 0), .int (iI (h))])).length) Slot.unset).toArray = ls at hl ⊢
  have hl : lv_has ls 2 [(0, .ref (ad 0)), (1, .int (iI (h)))] := hl
  refine lv_aload_n hx hb dX2_temperature_0 rfl (lv_at hl 0 rfl) ?_
  refine zi_const hx hb dX2_temperature_1 ?_
  refine zput (C := RX2) (T := TX2) (N := 19) hx hb hts hinX2 tyX2 tyX2_ok nmX2 hown hE hS hw 0 mE_0 rfl 0 (by decide) (hts (.fieldLink RX2 66 "FormworkYardModel" "thrown" "I") (by decide +kernel)) rfl (ty := .int) (by decide +kernel) rfl rfl (Nat.le_of_ble_eq_true rfl) dX2_temperature_2 (fun H locs hw hS => ?_)
  have hw := hw.cong (mU_i 0 (by decide) (0))
  refine lv_iload_n hx hb dX2_temperature_5 rfl (lv_at hl 1 rfl) ?_
  refine zcalli (va_runS (As := [.int (iI (h))]) (rest := []) ⟨hx, hb, hml, hown, hts⟩ (c_X2_isHour l D cy A ad _ (h) (by first | decide | (constructor <;> omega))) (va_cwS 1 hts gX2_temperature_X2_isHour rfl rfl rfl (by decide +kernel) ⟨(Nat.le_of_ble_eq_true rfl), (Nat.le_of_ble_eq_true rfl)⟩) (zPS hE hS) rfl rfl hl.1 rfl (lv_room (Nat.le_of_ble_eq_true rfl)) dX2_temperature_6 ⟨(Nat.le_of_ble_eq_true rfl), (Nat.le_of_ble_eq_true rfl)⟩) hS (fun z_6 H1 locs hz_6 hq hz1 hk1 hS => ?_)
  obtain ⟨hqe, hv_6⟩ := hq
  replace hqe := hqe.symm
  subst hqe
  refine zf_eq (tgt := 21) hx hb dX2_temperature_9 (by decide) (by first | decide | (constructor <;> omega)) (fun c_9 => ?_) (fun c_9 => ?_)
  · refine lv_aload_n hx hb dX2_temperature_21 rfl (lv_at hl 0 rfl) ?_
    refine zi_const hx hb dX2_temperature_22 ?_
    refine zcalli (va_runV (As := [.int (iI (1))]) (rest := []) ⟨hx, hb, hml, hown, hts⟩ (c_X2_fails l D cy A ad (va_up mi 0 (0)) ma _ (1) hw (by first | decide | (constructor <;> omega))) (cwV 1 hts gX2_temperature_X2_fails rfl rfl rfl (by decide +kernel) ⟨(Nat.le_of_ble_eq_true rfl), (Nat.le_of_ble_eq_true rfl)⟩) (zPV hE hS hw (ci := 2) (k0 := 0) rfl mE_0) rfl rfl hl.1 rfl (lv_room (Nat.le_of_ble_eq_true rfl)) dX2_temperature_23 ⟨(Nat.le_of_ble_eq_true rfl), (Nat.le_of_ble_eq_true rfl)⟩) hS (fun z_23 H1 locs hz_23 hq hz1 hk1 hS => ?_)
    obtain ⟨hw, hv_23⟩ := hq
    subst hv_23
    rw [up_up] at hw
    refine ziret hx hb hr hlocks hS (Nat.le_of_ble_eq_true rfl) (Nat.le_of_ble_eq_true rfl) (by first | decide | (constructor <;> omega)) ?_ dX2_temperature_26
    refine ⟨_, hw, ?_, ?_⟩
    · (repeat' split) <;> omega
    · intro hc; first | rfl | omega
  · refine lv_aload_n hx hb dX2_temperature_12 rfl (lv_at hl 0 rfl) ?_
    refine zget (C := RX2) (T := TX2) (N := 19) hx hb hts hinX2 hown hE hw 0 mE_0 rfl 1 (by decide) (hts (.fieldLink RX2 7 "FormworkYardModel" "temperatures" "[I") (by decide +kernel)) rfl dX2_temperature_13 ?_
    refine lv_iload_n hx hb dX2_temperature_16 rfl (lv_at hl 1 rfl) ?_
    refine ziald hx hb hE hw 1 (mE_a 1 (by decide) rfl) (h).toNat (by omega) (by omega) (by omega) dX2_temperature_17 ?_
    refine zi_top (fun v_17 hv_17 => ?_)
    have hT := ht h.toNat (by omega)
    refine lv_goto (tgt := 26) hx hb dX2_temperature_18 (by decide) ?_
    refine ziret hx hb hr hlocks hS (Nat.le_of_ble_eq_true rfl) (Nat.le_of_ble_eq_true rfl) (by first | decide | (constructor <;> omega)) ?_ dX2_temperature_26
    refine ⟨_, hw, ?_, ?_⟩
    · (repeat' split) <;> omega
    · intro hc; first | rfl | omega

set_option maxHeartbeats 4000000 in
set_option maxRecDepth 100000 in
theorem c_X2_maturity (l : Launch) (D : va_G) (cy : Nat → ClassId) (A : Nat → Prop) (ad : Nat → Nat) (mi : Nat → Int) (ma : Nat → Nat → Int) (H0 : Heap) (a b : Int) (hw : zW D A ad (mE cy ad mi ma) H0) (h1 : zr a) (h2 : zr b) (ht : tOK (ma 1)) : Met l yX2_maturity wsX2_maturity ({ frames := 4, cells := 0, slots := 0, locals := 88 }) (zPc D cy A [.ref (ad 0), .int (iI (a)), .int (iI (b))] H0) (zQi (fun z H1 => ∃ c, zW D A ad (mE cy ad (va_up mi 0 c) ma) H1 ∧ c = (if (0 ≤ a ∧ a < 1000) ∧ (0 ≤ b ∧ b < 1000) then 0 else 1) ∧ (c = 0 → z = mat (ma 1) a b)) A) 0 0 A := by
  refine Met.ofW (cc := cX2_maturity) (maxL := 3) (ret := (some .int)) (by decide) rfl ?_
  intro pg en s mt args below meth c s₁ B hml hv
  obtain ⟨rfl, hH, hE⟩ := hv
  subst hH
  have hx := B.exec
  have hb := B.bytes
  have hr := B.returns
  have hts := atoms_spec (ws := wsX2_maturity) B.pre
  have hown : s.vm.findClass RX2 = some mt.cls := findClass_of_methodNamed B.named
  have hlocks := B.notSynchronized
  have hinX2 : ∀ w ∈ u_ws RX2 TX2 19, w ∈ wsX2_maturity := by decide +kernel
  have hS : va_S A s.heap s.heap [] := va_S.rf
  have hl := lv_entry ([.ref (ad 0), .int (iI (a)), .int (iI (b))]) (n := 3) (Nat.le_of_ble_eq_true rfl)
  rw [lg_entry_eq]
  generalize (lg_sl ([.ref (ad 0), .int (iI (a)), .int (iI (b))]) ++ List.replicate (3 - (lg_sl ([.ref (ad 0), .int (iI (a)), .int (iI (b))])).length) Slot.unset).toArray = ls at hl ⊢
  have hl : lv_has ls 3 [(0, .ref (ad 0)), (1, .int (iI (a))), (2, .int (iI (b)))] := hl
  refine lv_aload_n hx hb dX2_maturity_0 rfl (lv_at hl 0 rfl) ?_
  refine lv_iload_n hx hb dX2_maturity_1 rfl (lv_at hl 1 rfl) ?_
  refine zcalli (va_runS (As := [.int (iI (a))]) (rest := [.ref (ad 0)]) ⟨hx, hb, hml, hown, hts⟩ (c_X2_isHour l D cy A ad _ (a) (by first | decide | (constructor <;> omega))) (va_cwS 1 hts gX2_maturity_X2_isHour rfl rfl rfl (by decide +kernel) ⟨(Nat.le_of_ble_eq_true rfl), (Nat.le_of_ble_eq_true rfl)⟩) (zPS hE hS) rfl rfl hl.1 rfl (lv_room (Nat.le_of_ble_eq_true rfl)) dX2_maturity_2 ⟨(Nat.le_of_ble_eq_true rfl), (Nat.le_of_ble_eq_true rfl)⟩) hS (fun z_2 H1 locs hz_2 hq hz1 hk1 hS => ?_)
  obtain ⟨hqe, hv_2⟩ := hq
  replace hqe := hqe.symm
  subst hqe
  refine zf_eq (tgt := 19) hx hb dX2_maturity_5 (by decide) (by first | decide | (constructor <;> omega)) (fun c_5 => ?_) (fun c_5 => ?_)
  · refine zi_const hx hb dX2_maturity_19 ?_
    refine zput (C := RX2) (T := TX2) (N := 19) hx hb hts hinX2 tyX2 tyX2_ok nmX2 hown hE hS hw 0 mE_0 rfl 0 (by decide) (hts (.fieldLink RX2 66 "FormworkYardModel" "thrown" "I") (by decide +kernel)) rfl (ty := .int) (by decide +kernel) rfl rfl (Nat.le_of_ble_eq_true rfl) dX2_maturity_20 (fun H locs hw hS => ?_)
    have hw := hw.cong (mU_i 0 (by decide) (1))
    refine lv_aload_n hx hb dX2_maturity_23 rfl (lv_at hl 0 rfl) ?_
    refine zget (C := RX2) (T := TX2) (N := 19) hx hb hts hinX2 hown hE hw 0 mE_0 rfl 0 (by decide) (hts (.fieldLink RX2 66 "FormworkYardModel" "thrown" "I") (by decide +kernel)) rfl dX2_maturity_24 ?_
    refine zi_top (fun v_24 hv_24 => ?_)
    simp [va_up] at hv_24
    subst hv_24
    refine zf_le (tgt := 34) hx hb dX2_maturity_27 (by decide) (by first | decide | (constructor <;> omega)) (fun c_27 => ?_) (fun c_27 => ?_)
    · exfalso; omega
    · refine zi_const hx hb dX2_maturity_30 ?_
      refine lv_goto (tgt := 40) hx hb dX2_maturity_31 (by decide) ?_
      refine ziret hx hb hr hlocks hS (Nat.le_of_ble_eq_true rfl) (Nat.le_of_ble_eq_true rfl) (by first | decide | (constructor <;> omega)) ?_ dX2_maturity_40
      refine ⟨_, hw, ?_, ?_⟩
      · (repeat' split) <;> omega
      · intro hc; first | rfl | omega
  · refine lv_iload_n hx hb dX2_maturity_8 rfl (lv_at hl 2 rfl) ?_
    refine zcalli (va_runS (As := [.int (iI (b))]) (rest := [.ref (ad 0)]) ⟨hx, hb, hml, hown, hts⟩ (c_X2_isHour l D cy A ad _ (b) (by first | decide | (constructor <;> omega))) (va_cwS 1 hts gX2_maturity_X2_isHour rfl rfl rfl (by decide +kernel) ⟨(Nat.le_of_ble_eq_true rfl), (Nat.le_of_ble_eq_true rfl)⟩) (zPS hE hS) rfl rfl hl.1 rfl (lv_room (Nat.le_of_ble_eq_true rfl)) dX2_maturity_9 ⟨(Nat.le_of_ble_eq_true rfl), (Nat.le_of_ble_eq_true rfl)⟩) hS (fun z_9 H1 locs hz_9 hq hz1 hk1 hS => ?_)
    obtain ⟨hqe, hv_9⟩ := hq
    replace hqe := hqe.symm
    subst hqe
    refine zf_eq (tgt := 19) hx hb dX2_maturity_12 (by decide) (by first | decide | (constructor <;> omega)) (fun c_12 => ?_) (fun c_12 => ?_)
    · refine zi_const hx hb dX2_maturity_19 ?_
      refine zput (C := RX2) (T := TX2) (N := 19) hx hb hts hinX2 tyX2 tyX2_ok nmX2 hown hE hS hw 0 mE_0 rfl 0 (by decide) (hts (.fieldLink RX2 66 "FormworkYardModel" "thrown" "I") (by decide +kernel)) rfl (ty := .int) (by decide +kernel) rfl rfl (Nat.le_of_ble_eq_true rfl) dX2_maturity_20 (fun H locs hw hS => ?_)
      have hw := hw.cong (mU_i 0 (by decide) (1))
      refine lv_aload_n hx hb dX2_maturity_23 rfl (lv_at hl 0 rfl) ?_
      refine zget (C := RX2) (T := TX2) (N := 19) hx hb hts hinX2 hown hE hw 0 mE_0 rfl 0 (by decide) (hts (.fieldLink RX2 66 "FormworkYardModel" "thrown" "I") (by decide +kernel)) rfl dX2_maturity_24 ?_
      refine zi_top (fun v_24 hv_24 => ?_)
      simp [va_up] at hv_24
      subst hv_24
      refine zf_le (tgt := 34) hx hb dX2_maturity_27 (by decide) (by first | decide | (constructor <;> omega)) (fun c_27 => ?_) (fun c_27 => ?_)
      · exfalso; omega
      · refine zi_const hx hb dX2_maturity_30 ?_
        refine lv_goto (tgt := 40) hx hb dX2_maturity_31 (by decide) ?_
        refine ziret hx hb hr hlocks hS (Nat.le_of_ble_eq_true rfl) (Nat.le_of_ble_eq_true rfl) (by first | decide | (constructor <;> omega)) ?_ dX2_maturity_40
        refine ⟨_, hw, ?_, ?_⟩
        · (repeat' split) <;> omega
        · intro hc; first | rfl | omega
    · refine zi_const hx hb dX2_maturity_15 ?_
      refine lv_goto (tgt := 20) hx hb dX2_maturity_16 (by decide) ?_
      refine zput (C := RX2) (T := TX2) (N := 19) hx hb hts hinX2 tyX2 tyX2_ok nmX2 hown hE hS hw 0 mE_0 rfl 0 (by decide) (hts (.fieldLink RX2 66 "FormworkYardModel" "thrown" "I") (by decide +kernel)) rfl (ty := .int) (by decide +kernel) rfl rfl (Nat.le_of_ble_eq_true rfl) dX2_maturity_20 (fun H locs hw hS => ?_)
      have hw := hw.cong (mU_i 0 (by decide) (0))
      refine lv_aload_n hx hb dX2_maturity_23 rfl (lv_at hl 0 rfl) ?_
      refine zget (C := RX2) (T := TX2) (N := 19) hx hb hts hinX2 hown hE hw 0 mE_0 rfl 0 (by decide) (hts (.fieldLink RX2 66 "FormworkYardModel" "thrown" "I") (by decide +kernel)) rfl dX2_maturity_24 ?_
      refine zi_top (fun v_24 hv_24 => ?_)
      simp [va_up] at hv_24
      subst hv_24
      refine zf_le (tgt := 34) hx hb dX2_maturity_27 (by decide) (by first | decide | (constructor <;> omega)) (fun c_27 => ?_) (fun c_27 => ?_)
      · refine lv_aload_n hx hb dX2_maturity_34 rfl (lv_at hl 0 rfl) ?_
        refine lv_iload_n hx hb dX2_maturity_35 rfl (lv_at hl 1 rfl) ?_
        refine lv_iload_n hx hb dX2_maturity_36 rfl (lv_at hl 2 rfl) ?_
        refine zcalli (va_runV (As := [.int (iI (a)), .int (iI (b))]) (rest := []) ⟨hx, hb, hml, hown, hts⟩ (c_X2_sum l D cy A ad (va_up mi 0 (0)) ma _ (a) (b) hw (by constructor <;> omega) (by constructor <;> omega) ht) (cwV 2 hts gX2_maturity_X2_sum rfl rfl rfl (by decide +kernel) ⟨(Nat.le_of_ble_eq_true rfl), (Nat.le_of_ble_eq_true rfl)⟩) (zPV hE hS hw (ci := 2) (k0 := 0) rfl mE_0) rfl rfl hl.1 rfl (lv_room (Nat.le_of_ble_eq_true rfl)) dX2_maturity_37 ⟨(Nat.le_of_ble_eq_true rfl), (Nat.le_of_ble_eq_true rfl)⟩) hS (fun z_37 H1 locs hz_37 hq hz1 hk1 hS => ?_)
        obtain ⟨hqe, hv_37⟩ := hq
        replace hqe := hqe.symm
        subst hqe
        refine ziret hx hb hr hlocks hS (Nat.le_of_ble_eq_true rfl) (Nat.le_of_ble_eq_true rfl) (by first | decide | (constructor <;> omega)) ?_ dX2_maturity_40
        refine ⟨_, hw, ?_, ?_⟩
        · (repeat' split) <;> omega
        · intro hc; first | rfl | omega
      · exfalso; omega

set_option maxHeartbeats 4000000 in
set_option maxRecDepth 100000 in
theorem c_X2_strength (l : Launch) (D : va_G) (cy : Nat → ClassId) (A : Nat → Prop) (ad : Nat → Nat) (mi : Nat → Int) (ma : Nat → Nat → Int) (H0 : Heap) (v : Int) (hw : zW D A ad (mE cy ad mi ma) H0) (h1 : zr v) : Met l yX2_strength wsX2_strength ({ frames := 2, cells := 0, slots := 0, locals := 43 }) (zPc D cy A [.ref (ad 0), .int (iI (v))] H0) (zQi (fun z H1 => ∃ c, zW D A ad (mE cy ad (va_up mi 0 c) ma) H1 ∧ c = (if 0 ≤ v ∧ v ≤ 1000000 then 0 else 1) ∧ (c = 0 → z = strg v)) A) 0 0 A := by
  refine Met.ofW (cc := cX2_strength) (maxL := 2) (ret := (some .int)) (by decide) rfl ?_
  intro pg en s mt args below meth c s₁ B hml hv
  obtain ⟨rfl, hH, hE⟩ := hv
  subst hH
  have hx := B.exec
  have hb := B.bytes
  have hr := B.returns
  have hts := atoms_spec (ws := wsX2_strength) B.pre
  have hown : s.vm.findClass RX2 = some mt.cls := findClass_of_methodNamed B.named
  have hlocks := B.notSynchronized
  have hinX2 : ∀ w ∈ u_ws RX2 TX2 19, w ∈ wsX2_strength := by decide +kernel
  have hS : va_S A s.heap s.heap [] := va_S.rf
  have hl := lv_entry ([.ref (ad 0), .int (iI (v))]) (n := 2) (Nat.le_of_ble_eq_true rfl)
  rw [lg_entry_eq]
  generalize (lg_sl ([.ref (ad 0), .int (iI (v))]) ++ List.replicate (2 - (lg_sl ([.ref (ad 0), .int (iI (v))])).length) Slot.unset).toArray = ls at hl ⊢
  have hl : lv_has ls 2 [(0, .ref (ad 0)), (1, .int (iI (v)))] := hl
  refine lv_aload_n hx hb dX2_strength_0 rfl (lv_at hl 0 rfl) ?_
  refine zi_const hx hb dX2_strength_1 ?_
  refine zput (C := RX2) (T := TX2) (N := 19) hx hb hts hinX2 tyX2 tyX2_ok nmX2 hown hE hS hw 0 mE_0 rfl 0 (by decide) (hts (.fieldLink RX2 66 "FormworkYardModel" "thrown" "I") (by decide +kernel)) rfl (ty := .int) (by decide +kernel) rfl rfl (Nat.le_of_ble_eq_true rfl) dX2_strength_2 (fun H locs hw hS => ?_)
  have hw := hw.cong (mU_i 0 (by decide) (0))
  refine lv_iload_n hx hb dX2_strength_5 rfl (lv_at hl 1 rfl) ?_
  refine zi_const hx hb dX2_strength_6 ?_
  refine lv_ldc (v := iI 1000000) hx hb hown (hts (.constant RX2 113 (iI 1000000)) (by decide +kernel)) dX2_strength_7 ?_
  refine zcalli (va_runS (As := [.int (iI (v)), .int (iI (0)), .int (iI (1000000))]) (rest := []) ⟨hx, hb, hml, hown, hts⟩ (c_X2_in l D cy A ad _ (v) (0) (1000000) (by first | decide | (constructor <;> omega)) (by first | decide | (constructor <;> omega)) (by first | decide | (constructor <;> omega))) (va_cwS 3 hts gX2_strength_X2_in rfl rfl rfl (by decide +kernel) ⟨(Nat.le_of_ble_eq_true rfl), (Nat.le_of_ble_eq_true rfl)⟩) (zPS hE hS) rfl rfl hl.1 rfl (lv_room (Nat.le_of_ble_eq_true rfl)) dX2_strength_9 ⟨(Nat.le_of_ble_eq_true rfl), (Nat.le_of_ble_eq_true rfl)⟩) hS (fun z_9 H1 locs hz_9 hq hz1 hk1 hS => ?_)
  obtain ⟨hqe, hv_9⟩ := hq
  replace hqe := hqe.symm
  subst hqe
  refine zf_eq (tgt := 22) hx hb dX2_strength_12 (by decide) (by first | decide | (constructor <;> omega)) (fun c_12 => ?_) (fun c_12 => ?_)
  · refine lv_aload_n hx hb dX2_strength_22 rfl (lv_at hl 0 rfl) ?_
    refine zi_const hx hb dX2_strength_23 ?_
    refine zcalli (va_runV (As := [.int (iI (1))]) (rest := []) ⟨hx, hb, hml, hown, hts⟩ (c_X2_fails l D cy A ad (va_up mi 0 (0)) ma _ (1) hw (by first | decide | (constructor <;> omega))) (cwV 1 hts gX2_strength_X2_fails rfl rfl rfl (by decide +kernel) ⟨(Nat.le_of_ble_eq_true rfl), (Nat.le_of_ble_eq_true rfl)⟩) (zPV hE hS hw (ci := 2) (k0 := 0) rfl mE_0) rfl rfl hl.1 rfl (lv_room (Nat.le_of_ble_eq_true rfl)) dX2_strength_24 ⟨(Nat.le_of_ble_eq_true rfl), (Nat.le_of_ble_eq_true rfl)⟩) hS (fun z_24 H1 locs hz_24 hq hz1 hk1 hS => ?_)
    obtain ⟨hw, hv_24⟩ := hq
    subst hv_24
    rw [up_up] at hw
    refine ziret hx hb hr hlocks hS (Nat.le_of_ble_eq_true rfl) (Nat.le_of_ble_eq_true rfl) (by first | decide | (constructor <;> omega)) ?_ dX2_strength_27
    refine ⟨_, hw, ?_, ?_⟩
    · (repeat' split) <;> omega
    · intro hc; first | rfl | omega
  · refine lv_iload_n hx hb dX2_strength_15 rfl (lv_at hl 1 rfl) ?_
    refine zcalli (va_runS (As := [.int (iI (v))]) (rest := []) ⟨hx, hb, hml, hown, hts⟩ (c_X2_strong l D cy A ad _ (v) (by omega)) (va_cwS 1 hts gX2_strength_X2_strong rfl rfl rfl (by decide +kernel) ⟨(Nat.le_of_ble_eq_true rfl), (Nat.le_of_ble_eq_true rfl)⟩) (zPS hE hS) rfl rfl hl.1 rfl (lv_room (Nat.le_of_ble_eq_true rfl)) dX2_strength_16 ⟨(Nat.le_of_ble_eq_true rfl), (Nat.le_of_ble_eq_true rfl)⟩) hS (fun z_16 H1 locs hz_16 hq hz1 hk1 hS => ?_)
    obtain ⟨hqe, hv_16⟩ := hq
    replace hqe := hqe.symm
    subst hqe
    refine lv_goto (tgt := 27) hx hb dX2_strength_19 (by decide) ?_
    refine ziret hx hb hr hlocks hS (Nat.le_of_ble_eq_true rfl) (Nat.le_of_ble_eq_true rfl) (by first | decide | (constructor <;> omega)) ?_ dX2_strength_27
    refine ⟨_, hw, ?_, ?_⟩
    · (repeat' split) <;> omega
    · intro hc; first | rfl | omega

set_option maxHeartbeats 4000000 in
set_option maxRecDepth 100000 in
theorem c_X2_setPanels (l : Launch) (D : va_G) (cy : Nat → ClassId) (A : Nat → Prop) (ad : Nat → Nat) (mi : Nat → Int) (ma : Nat → Nat → Int) (H0 : Heap) (v : Int) (hw : zW D A ad (mE cy ad mi ma) H0) (h1 : zr v) (hg : gOK mi) : Met l yX2_setPanels wsX2_setPanels ({ frames := 1, cells := 0, slots := 0, locals := 22 }) (zPc D cy A [.ref (ad 0), .int (iI (v))] H0) (zQi (fun z H1 => ∃ c mi2, zW D A ad (mE cy ad mi2 ma) H1 ∧ c = (if 0 ≤ v ∧ v ≤ 60 then 0 else 1) ∧ ((c ≠ 0 ∧ mi2 = va_up mi 0 c) ∨ (c = 0 ∧ mi2 = va_up (va_up mi 0 0) 2 v ∧ z = mi 2))) A) 0 0 A := by
  refine Met.ofW (cc := cX2_setPanels) (maxL := 3) (ret := (some .int)) (by decide) rfl ?_
  intro pg en s mt args below meth c s₁ B hml hv
  obtain ⟨rfl, hH, hE⟩ := hv
  subst hH
  have hx := B.exec
  have hb := B.bytes
  have hr := B.returns
  have hts := atoms_spec (ws := wsX2_setPanels) B.pre
  have hown : s.vm.findClass RX2 = some mt.cls := findClass_of_methodNamed B.named
  have hlocks := B.notSynchronized
  have hinX2 : ∀ w ∈ u_ws RX2 TX2 19, w ∈ wsX2_setPanels := by decide +kernel
  have hS : va_S A s.heap s.heap [] := va_S.rf
  have hl := lv_entry ([.ref (ad 0), .int (iI (v))]) (n := 3) (Nat.le_of_ble_eq_true rfl)
  rw [lg_entry_eq]
  generalize (lg_sl ([.ref (ad 0), .int (iI (v))]) ++ List.replicate (3 - (lg_sl ([.ref (ad 0), .int (iI (v))])).length) Slot.unset).toArray = ls at hl ⊢
  have hl : lv_has ls 3 [(0, .ref (ad 0)), (1, .int (iI (v)))] := hl
  obtain ⟨g1, g2, g3, g4, g5⟩ := id hg
  refine lv_aload_n hx hb dX2_setPanels_0 rfl (lv_at hl 0 rfl) ?_
  refine lv_iload_n hx hb dX2_setPanels_1 rfl (lv_at hl 1 rfl) ?_
  refine zi_const hx hb dX2_setPanels_2 ?_
  refine zi_bipush hx hb dX2_setPanels_3 (by decide) ?_
  refine zcalli (va_runS (As := [.int (iI (v)), .int (iI (0)), .int (iI (60))]) (rest := [.ref (ad 0)]) ⟨hx, hb, hml, hown, hts⟩ (c_X2_in l D cy A ad _ (v) (0) (60) (by first | decide | (constructor <;> omega)) (by first | decide | (constructor <;> omega)) (by first | decide | (constructor <;> omega))) (va_cwS 3 hts gX2_setPanels_X2_in rfl rfl rfl (by decide +kernel) ⟨(Nat.le_of_ble_eq_true rfl), (Nat.le_of_ble_eq_true rfl)⟩) (zPS hE hS) rfl rfl hl.1 rfl (lv_room (Nat.le_of_ble_eq_true rfl)) dX2_setPanels_5 ⟨(Nat.le_of_ble_eq_true rfl), (Nat.le_of_ble_eq_true rfl)⟩) hS (fun z_5 H1 locs hz_5 hq hz1 hk1 hS => ?_)
  obtain ⟨hqe, hv_5⟩ := hq
  replace hqe := hqe.symm
  subst hqe
  refine zf_eq (tgt := 15) hx hb dX2_setPanels_8 (by decide) (by first | decide | (constructor <;> omega)) (fun c_8 => ?_) (fun c_8 => ?_)
  · refine zi_const hx hb dX2_setPanels_15 ?_
    refine zput (C := RX2) (T := TX2) (N := 19) hx hb hts hinX2 tyX2 tyX2_ok nmX2 hown hE hS hw 0 mE_0 rfl 0 (by decide) (hts (.fieldLink RX2 66 "FormworkYardModel" "thrown" "I") (by decide +kernel)) rfl (ty := .int) (by decide +kernel) rfl rfl (Nat.le_of_ble_eq_true rfl) dX2_setPanels_16 (fun H locs hw hS => ?_)
    have hw := hw.cong (mU_i 0 (by decide) (1))
    refine lv_aload_n hx hb dX2_setPanels_19 rfl (lv_at hl 0 rfl) ?_
    refine zget (C := RX2) (T := TX2) (N := 19) hx hb hts hinX2 hown hE hw 0 mE_0 rfl 0 (by decide) (hts (.fieldLink RX2 66 "FormworkYardModel" "thrown" "I") (by decide +kernel)) rfl dX2_setPanels_20 ?_
    refine zi_top (fun v_20 hv_20 => ?_)
    simp [va_up] at hv_20
    subst hv_20
    refine zf_le (tgt := 28) hx hb dX2_setPanels_23 (by decide) (by first | decide | (constructor <;> omega)) (fun c_23 => ?_) (fun c_23 => ?_)
    · exfalso; omega
    · refine zi_const hx hb dX2_setPanels_26 ?_
      refine ziret hx hb hr hlocks hS (Nat.le_of_ble_eq_true rfl) (Nat.le_of_ble_eq_true rfl) (by first | decide | (constructor <;> omega)) ?_ dX2_setPanels_27
      refine ⟨1, _, hw, by (repeat' split) <;> omega, ?_⟩
      exact Or.inl ⟨by decide, rfl⟩
  · refine zi_const hx hb dX2_setPanels_11 ?_
    refine lv_goto (tgt := 16) hx hb dX2_setPanels_12 (by decide) ?_
    refine zput (C := RX2) (T := TX2) (N := 19) hx hb hts hinX2 tyX2 tyX2_ok nmX2 hown hE hS hw 0 mE_0 rfl 0 (by decide) (hts (.fieldLink RX2 66 "FormworkYardModel" "thrown" "I") (by decide +kernel)) rfl (ty := .int) (by decide +kernel) rfl rfl (Nat.le_of_ble_eq_true rfl) dX2_setPanels_16 (fun H locs hw hS => ?_)
    have hw := hw.cong (mU_i 0 (by decide) (0))
    refine lv_aload_n hx hb dX2_setPanels_19 rfl (lv_at hl 0 rfl) ?_
    refine zget (C := RX2) (T := TX2) (N := 19) hx hb hts hinX2 hown hE hw 0 mE_0 rfl 0 (by decide) (hts (.fieldLink RX2 66 "FormworkYardModel" "thrown" "I") (by decide +kernel)) rfl dX2_setPanels_20 ?_
    refine zi_top (fun v_20 hv_20 => ?_)
    simp [va_up] at hv_20
    subst hv_20
    refine zf_le (tgt := 28) hx hb dX2_setPanels_23 (by decide) (by first | decide | (constructor <;> omega)) (fun c_23 => ?_) (fun c_23 => ?_)
    · refine lv_aload_n hx hb dX2_setPanels_28 rfl (lv_at hl 0 rfl) ?_
      refine zget (C := RX2) (T := TX2) (N := 19) hx hb hts hinX2 hown hE hw 0 mE_0 rfl 2 (by decide) (hts (.fieldLink RX2 13 "FormworkYardModel" "panels" "I") (by decide +kernel)) rfl dX2_setPanels_29 ?_
      refine zi_top (fun v_29 hv_29 => ?_)
      simp [va_up] at hv_29
      refine lv_istore_n (lv' := [(2, .int (iI (v_29))), (0, .ref (ad 0)), (1, .int (iI (v)))]) hx hb dX2_setPanels_32 rfl hl (by decide) rfl (fun ls hl => ?_)
      refine lv_aload_n hx hb dX2_setPanels_33 rfl (lv_at hl 1 rfl) ?_
      refine lv_iload_n hx hb dX2_setPanels_34 rfl (lv_at hl 2 rfl) ?_
      refine zput (C := RX2) (T := TX2) (N := 19) hx hb hts hinX2 tyX2 tyX2_ok nmX2 hown hE hS hw 0 mE_0 rfl 2 (by decide) (hts (.fieldLink RX2 13 "FormworkYardModel" "panels" "I") (by decide +kernel)) rfl (ty := .int) (by decide +kernel) rfl rfl (Nat.le_of_ble_eq_true rfl) dX2_setPanels_35 (fun H locs hw hS => ?_)
      have hw := hw.cong (mU_i 2 (by decide) (v))
      refine lv_iload_n hx hb dX2_setPanels_38 rfl (lv_at hl 0 rfl) ?_
      refine ziret hx hb hr hlocks hS (Nat.le_of_ble_eq_true rfl) (Nat.le_of_ble_eq_true rfl) (by first | decide | (constructor <;> omega)) ?_ dX2_setPanels_39
      refine ⟨0, _, hw, by (repeat' split) <;> omega, ?_⟩
      exact Or.inr ⟨rfl, rfl, by omega⟩
    · exfalso; omega

set_option maxHeartbeats 4000000 in
set_option maxRecDepth 100000 in
theorem c_X2_setRates (l : Launch) (D : va_G) (cy : Nat → ClassId) (A : Nat → Prop) (ad : Nat → Nat) (mi : Nat → Int) (ma : Nat → Nat → Int) (H0 : Heap) (v u : Int) (hw : zW D A ad (mE cy ad mi ma) H0) (h1 : zr v) (h2 : zr u) (hg : gOK mi) : Met l yX2_setRates wsX2_setRates ({ frames := 1, cells := 0, slots := 0, locals := 22 }) (zPc D cy A [.ref (ad 0), .int (iI (v)), .int (iI (u))] H0) (zQi (fun z H1 => ∃ c mi2, zW D A ad (mE cy ad mi2 ma) H1 ∧ c = (if (1 ≤ v ∧ v ≤ 50) ∧ (1 ≤ u ∧ u ≤ 50) then 0 else 1) ∧ ((c ≠ 0 ∧ mi2 = va_up mi 0 c) ∨ (c = 0 ∧ mi2 = va_up (va_up (va_up mi 0 0) 3 v) 4 u ∧ z = min v u))) A) 0 0 A := by
  refine Met.ofW (cc := cX2_setRates) (maxL := 3) (ret := (some .int)) (by decide) rfl ?_
  intro pg en s mt args below meth c s₁ B hml hv
  obtain ⟨rfl, hH, hE⟩ := hv
  subst hH
  have hx := B.exec
  have hb := B.bytes
  have hr := B.returns
  have hts := atoms_spec (ws := wsX2_setRates) B.pre
  have hown : s.vm.findClass RX2 = some mt.cls := findClass_of_methodNamed B.named
  have hlocks := B.notSynchronized
  have hinX2 : ∀ w ∈ u_ws RX2 TX2 19, w ∈ wsX2_setRates := by decide +kernel
  have hS : va_S A s.heap s.heap [] := va_S.rf
  have hl := lv_entry ([.ref (ad 0), .int (iI (v)), .int (iI (u))]) (n := 3) (Nat.le_of_ble_eq_true rfl)
  rw [lg_entry_eq]
  generalize (lg_sl ([.ref (ad 0), .int (iI (v)), .int (iI (u))]) ++ List.replicate (3 - (lg_sl ([.ref (ad 0), .int (iI (v)), .int (iI (u))])).length) Slot.unset).toArray = ls at hl ⊢
  have hl : lv_has ls 3 [(0, .ref (ad 0)), (1, .int (iI (v))), (2, .int (iI (u)))] := hl
  obtain ⟨g1, g2, g3, g4, g5⟩ := id hg
  refine lv_aload_n hx hb dX2_setRates_0 rfl (lv_at hl 0 rfl) ?_
  refine lv_iload_n hx hb dX2_setRates_1 rfl (lv_at hl 1 rfl) ?_
  refine zi_const hx hb dX2_setRates_2 ?_
  refine zi_bipush hx hb dX2_setRates_3 (by decide) ?_
  refine zcalli (va_runS (As := [.int (iI (v)), .int (iI (1)), .int (iI (50))]) (rest := [.ref (ad 0)]) ⟨hx, hb, hml, hown, hts⟩ (c_X2_in l D cy A ad _ (v) (1) (50) (by first | decide | (constructor <;> omega)) (by first | decide | (constructor <;> omega)) (by first | decide | (constructor <;> omega))) (va_cwS 3 hts gX2_setRates_X2_in rfl rfl rfl (by decide +kernel) ⟨(Nat.le_of_ble_eq_true rfl), (Nat.le_of_ble_eq_true rfl)⟩) (zPS hE hS) rfl rfl hl.1 rfl (lv_room (Nat.le_of_ble_eq_true rfl)) dX2_setRates_5 ⟨(Nat.le_of_ble_eq_true rfl), (Nat.le_of_ble_eq_true rfl)⟩) hS (fun z_5 H1 locs hz_5 hq hz1 hk1 hS => ?_)
  obtain ⟨hqe, hv_5⟩ := hq
  replace hqe := hqe.symm
  subst hqe
  refine zf_eq (tgt := 25) hx hb dX2_setRates_8 (by decide) (by first | decide | (constructor <;> omega)) (fun c_8 => ?_) (fun c_8 => ?_)
  · refine zi_const hx hb dX2_setRates_25 ?_
    refine zput (C := RX2) (T := TX2) (N := 19) hx hb hts hinX2 tyX2 tyX2_ok nmX2 hown hE hS hw 0 mE_0 rfl 0 (by decide) (hts (.fieldLink RX2 66 "FormworkYardModel" "thrown" "I") (by decide +kernel)) rfl (ty := .int) (by decide +kernel) rfl rfl (Nat.le_of_ble_eq_true rfl) dX2_setRates_26 (fun H locs hw hS => ?_)
    have hw := hw.cong (mU_i 0 (by decide) (1))
    refine lv_aload_n hx hb dX2_setRates_29 rfl (lv_at hl 0 rfl) ?_
    refine zget (C := RX2) (T := TX2) (N := 19) hx hb hts hinX2 hown hE hw 0 mE_0 rfl 0 (by decide) (hts (.fieldLink RX2 66 "FormworkYardModel" "thrown" "I") (by decide +kernel)) rfl dX2_setRates_30 ?_
    refine zi_top (fun v_30 hv_30 => ?_)
    simp [va_up] at hv_30
    subst hv_30
    refine zf_le (tgt := 38) hx hb dX2_setRates_33 (by decide) (by first | decide | (constructor <;> omega)) (fun c_33 => ?_) (fun c_33 => ?_)
    · exfalso; omega
    · refine zi_const hx hb dX2_setRates_36 ?_
      refine ziret hx hb hr hlocks hS (Nat.le_of_ble_eq_true rfl) (Nat.le_of_ble_eq_true rfl) (by first | decide | (constructor <;> omega)) ?_ dX2_setRates_37
      refine ⟨1, _, hw, by (repeat' split) <;> omega, ?_⟩
      exact Or.inl ⟨by decide, rfl⟩
  · refine lv_iload_n hx hb dX2_setRates_11 rfl (lv_at hl 2 rfl) ?_
    refine zi_const hx hb dX2_setRates_12 ?_
    refine zi_bipush hx hb dX2_setRates_13 (by decide) ?_
    refine zcalli (va_runS (As := [.int (iI (u)), .int (iI (1)), .int (iI (50))]) (rest := [.ref (ad 0)]) ⟨hx, hb, hml, hown, hts⟩ (c_X2_in l D cy A ad _ (u) (1) (50) (by first | decide | (constructor <;> omega)) (by first | decide | (constructor <;> omega)) (by first | decide | (constructor <;> omega))) (va_cwS 3 hts gX2_setRates_X2_in rfl rfl rfl (by decide +kernel) ⟨(Nat.le_of_ble_eq_true rfl), (Nat.le_of_ble_eq_true rfl)⟩) (zPS hE hS) rfl rfl hl.1 rfl (lv_room (Nat.le_of_ble_eq_true rfl)) dX2_setRates_15 ⟨(Nat.le_of_ble_eq_true rfl), (Nat.le_of_ble_eq_true rfl)⟩) hS (fun z_15 H1 locs hz_15 hq hz1 hk1 hS => ?_)
    obtain ⟨hqe, hv_15⟩ := hq
    replace hqe := hqe.symm
    subst hqe
    refine zf_eq (tgt := 25) hx hb dX2_setRates_18 (by decide) (by first | decide | (constructor <;> omega)) (fun c_18 => ?_) (fun c_18 => ?_)
    · refine zi_const hx hb dX2_setRates_25 ?_
      refine zput (C := RX2) (T := TX2) (N := 19) hx hb hts hinX2 tyX2 tyX2_ok nmX2 hown hE hS hw 0 mE_0 rfl 0 (by decide) (hts (.fieldLink RX2 66 "FormworkYardModel" "thrown" "I") (by decide +kernel)) rfl (ty := .int) (by decide +kernel) rfl rfl (Nat.le_of_ble_eq_true rfl) dX2_setRates_26 (fun H locs hw hS => ?_)
      have hw := hw.cong (mU_i 0 (by decide) (1))
      refine lv_aload_n hx hb dX2_setRates_29 rfl (lv_at hl 0 rfl) ?_
      refine zget (C := RX2) (T := TX2) (N := 19) hx hb hts hinX2 hown hE hw 0 mE_0 rfl 0 (by decide) (hts (.fieldLink RX2 66 "FormworkYardModel" "thrown" "I") (by decide +kernel)) rfl dX2_setRates_30 ?_
      refine zi_top (fun v_30 hv_30 => ?_)
      simp [va_up] at hv_30
      subst hv_30
      refine zf_le (tgt := 38) hx hb dX2_setRates_33 (by decide) (by first | decide | (constructor <;> omega)) (fun c_33 => ?_) (fun c_33 => ?_)
      · exfalso; omega
      · refine zi_const hx hb dX2_setRates_36 ?_
        refine ziret hx hb hr hlocks hS (Nat.le_of_ble_eq_true rfl) (Nat.le_of_ble_eq_true rfl) (by first | decide | (constructor <;> omega)) ?_ dX2_setRates_37
        refine ⟨1, _, hw, by (repeat' split) <;> omega, ?_⟩
        exact Or.inl ⟨by decide, rfl⟩
    · refine zi_const hx hb dX2_setRates_21 ?_
      refine lv_goto (tgt := 26) hx hb dX2_setRates_22 (by decide) ?_
      refine zput (C := RX2) (T := TX2) (N := 19) hx hb hts hinX2 tyX2 tyX2_ok nmX2 hown hE hS hw 0 mE_0 rfl 0 (by decide) (hts (.fieldLink RX2 66 "FormworkYardModel" "thrown" "I") (by decide +kernel)) rfl (ty := .int) (by decide +kernel) rfl rfl (Nat.le_of_ble_eq_true rfl) dX2_setRates_26 (fun H locs hw hS => ?_)
      have hw := hw.cong (mU_i 0 (by decide) (0))
      refine lv_aload_n hx hb dX2_setRates_29 rfl (lv_at hl 0 rfl) ?_
      refine zget (C := RX2) (T := TX2) (N := 19) hx hb hts hinX2 hown hE hw 0 mE_0 rfl 0 (by decide) (hts (.fieldLink RX2 66 "FormworkYardModel" "thrown" "I") (by decide +kernel)) rfl dX2_setRates_30 ?_
      refine zi_top (fun v_30 hv_30 => ?_)
      simp [va_up] at hv_30
      subst hv_30
      refine zf_le (tgt := 38) hx hb dX2_setRates_33 (by decide) (by first | decide | (constructor <;> omega)) (fun c_33 => ?_) (fun c_33 => ?_)
      · refine lv_aload_n hx hb dX2_setRates_38 rfl (lv_at hl 0 rfl) ?_
        refine lv_iload_n hx hb dX2_setRates_39 rfl (lv_at hl 1 rfl) ?_
        refine zput (C := RX2) (T := TX2) (N := 19) hx hb hts hinX2 tyX2 tyX2_ok nmX2 hown hE hS hw 0 mE_0 rfl 3 (by decide) (hts (.fieldLink RX2 17 "FormworkYardModel" "trucks" "I") (by decide +kernel)) rfl (ty := .int) (by decide +kernel) rfl rfl (Nat.le_of_ble_eq_true rfl) dX2_setRates_40 (fun H locs hw hS => ?_)
        have hw := hw.cong (mU_i 3 (by decide) (v))
        refine lv_aload_n hx hb dX2_setRates_43 rfl (lv_at hl 0 rfl) ?_
        refine lv_iload_n hx hb dX2_setRates_44 rfl (lv_at hl 2 rfl) ?_
        refine zput (C := RX2) (T := TX2) (N := 19) hx hb hts hinX2 tyX2 tyX2_ok nmX2 hown hE hS hw 0 mE_0 rfl 4 (by decide) (hts (.fieldLink RX2 20 "FormworkYardModel" "pump" "I") (by decide +kernel)) rfl (ty := .int) (by decide +kernel) rfl rfl (Nat.le_of_ble_eq_true rfl) dX2_setRates_45 (fun H locs hw hS => ?_)
        have hw := hw.cong (mU_i 4 (by decide) (u))
        refine lv_aload_n hx hb dX2_setRates_48 rfl (lv_at hl 0 rfl) ?_
        have hg2 : gOK (va_up (va_up (va_up mi 0 0) 3 v) 4 u) := by simp [gOK, va_up]; omega
        refine zcalli (va_runV (As := []) (rest := []) ⟨hx, hb, hml, hown, hts⟩ (c_X2_rate l D cy A ad (va_up (va_up (va_up mi 0 (0)) 3 (v)) 4 (u)) ma _ hw hg2) (cwV 0 hts gX2_setRates_X2_rate rfl rfl rfl (by decide +kernel) ⟨(Nat.le_of_ble_eq_true rfl), (Nat.le_of_ble_eq_true rfl)⟩) (zPV hE hS hw (ci := 2) (k0 := 0) rfl mE_0) rfl rfl hl.1 rfl (lv_room (Nat.le_of_ble_eq_true rfl)) dX2_setRates_49 ⟨(Nat.le_of_ble_eq_true rfl), (Nat.le_of_ble_eq_true rfl)⟩) hS (fun z_49 H1 locs hz_49 hq hz1 hk1 hS => ?_)
        obtain ⟨hqe, hv_49⟩ := hq
        replace hqe := hqe.symm
        subst hqe
        refine ziret hx hb hr hlocks hS (Nat.le_of_ble_eq_true rfl) (Nat.le_of_ble_eq_true rfl) (by first | decide | (constructor <;> omega)) ?_ dX2_setRates_52
        refine ⟨0, _, hw, by (repeat' split) <;> omega, ?_⟩
        exact Or.inr ⟨rfl, rfl, by simpa [va_up] using hv_49⟩
      · exfalso; omega

set_option maxHeartbeats 4000000 in
set_option maxRecDepth 100000 in
theorem c_X2_setCrew (l : Launch) (D : va_G) (cy : Nat → ClassId) (A : Nat → Prop) (ad : Nat → Nat) (mi : Nat → Int) (ma : Nat → Nat → Int) (H0 : Heap) (v u : Int) (hw : zW D A ad (mE cy ad mi ma) H0) (h1 : zr v) (h2 : zr u) : Met l yX2_setCrew wsX2_setCrew ({ frames := 1, cells := 0, slots := 0, locals := 22 }) (zPc D cy A [.ref (ad 0), .int (iI (v)), .int (iI (u))] H0) (zQv (fun H1 => ∃ c mi2, zW D A ad (mE cy ad mi2 ma) H1 ∧ c = (if (0 ≤ v ∧ v ≤ 24) ∧ (0 ≤ u ∧ u ≤ 24) then 0 else 1) ∧ ((c ≠ 0 ∧ mi2 = va_up mi 0 c) ∨ (c = 0 ∧ mi2 = va_up (va_up (va_up mi 0 0) 5 v) 6 u))) A) 0 0 A := by
  refine Met.ofW (cc := cX2_setCrew) (maxL := 3) (ret := none) (by decide) rfl ?_
  intro pg en s mt args below meth c s₁ B hml hv
  obtain ⟨rfl, hH, hE⟩ := hv
  subst hH
  have hx := B.exec
  have hb := B.bytes
  have hr := B.returns
  have hts := atoms_spec (ws := wsX2_setCrew) B.pre
  have hown : s.vm.findClass RX2 = some mt.cls := findClass_of_methodNamed B.named
  have hlocks := B.notSynchronized
  have hinX2 : ∀ w ∈ u_ws RX2 TX2 19, w ∈ wsX2_setCrew := by decide +kernel
  have hS : va_S A s.heap s.heap [] := va_S.rf
  have hl := lv_entry ([.ref (ad 0), .int (iI (v)), .int (iI (u))]) (n := 3) (Nat.le_of_ble_eq_true rfl)
  rw [lg_entry_eq]
  generalize (lg_sl ([.ref (ad 0), .int (iI (v)), .int (iI (u))]) ++ List.replicate (3 - (lg_sl ([.ref (ad 0), .int (iI (v)), .int (iI (u))])).length) Slot.unset).toArray = ls at hl ⊢
  have hl : lv_has ls 3 [(0, .ref (ad 0)), (1, .int (iI (v))), (2, .int (iI (u)))] := hl
  refine lv_aload_n hx hb dX2_setCrew_0 rfl (lv_at hl 0 rfl) ?_
  refine lv_iload_n hx hb dX2_setCrew_1 rfl (lv_at hl 1 rfl) ?_
  refine zi_const hx hb dX2_setCrew_2 ?_
  refine zi_bipush hx hb dX2_setCrew_3 (by decide) ?_
  refine zcalli (va_runS (As := [.int (iI (v)), .int (iI (0)), .int (iI (24))]) (rest := [.ref (ad 0)]) ⟨hx, hb, hml, hown, hts⟩ (c_X2_in l D cy A ad _ (v) (0) (24) (by first | decide | (constructor <;> omega)) (by first | decide | (constructor <;> omega)) (by first | decide | (constructor <;> omega))) (va_cwS 3 hts gX2_setCrew_X2_in rfl rfl rfl (by decide +kernel) ⟨(Nat.le_of_ble_eq_true rfl), (Nat.le_of_ble_eq_true rfl)⟩) (zPS hE hS) rfl rfl hl.1 rfl (lv_room (Nat.le_of_ble_eq_true rfl)) dX2_setCrew_5 ⟨(Nat.le_of_ble_eq_true rfl), (Nat.le_of_ble_eq_true rfl)⟩) hS (fun z_5 H1 locs hz_5 hq hz1 hk1 hS => ?_)
  obtain ⟨hqe, hv_5⟩ := hq
  replace hqe := hqe.symm
  subst hqe
  refine zf_eq (tgt := 25) hx hb dX2_setCrew_8 (by decide) (by first | decide | (constructor <;> omega)) (fun c_8 => ?_) (fun c_8 => ?_)
  · refine zi_const hx hb dX2_setCrew_25 ?_
    refine zput (C := RX2) (T := TX2) (N := 19) hx hb hts hinX2 tyX2 tyX2_ok nmX2 hown hE hS hw 0 mE_0 rfl 0 (by decide) (hts (.fieldLink RX2 66 "FormworkYardModel" "thrown" "I") (by decide +kernel)) rfl (ty := .int) (by decide +kernel) rfl rfl (Nat.le_of_ble_eq_true rfl) dX2_setCrew_26 (fun H locs hw hS => ?_)
    have hw := hw.cong (mU_i 0 (by decide) (1))
    refine lv_aload_n hx hb dX2_setCrew_29 rfl (lv_at hl 0 rfl) ?_
    refine zget (C := RX2) (T := TX2) (N := 19) hx hb hts hinX2 hown hE hw 0 mE_0 rfl 0 (by decide) (hts (.fieldLink RX2 66 "FormworkYardModel" "thrown" "I") (by decide +kernel)) rfl dX2_setCrew_30 ?_
    refine zi_top (fun v_30 hv_30 => ?_)
    simp [va_up] at hv_30
    subst hv_30
    refine zf_ne (tgt := 46) hx hb dX2_setCrew_33 (by decide) (by first | decide | (constructor <;> omega)) (fun c_33 => ?_) (fun c_33 => ?_)
    · refine zvret hx hb hr hlocks hS (Nat.le_of_ble_eq_true rfl) (Nat.le_of_ble_eq_true rfl) ?_ dX2_setCrew_46
      refine ⟨1, _, hw, by (repeat' split) <;> omega, ?_⟩
      exact Or.inl ⟨by decide, rfl⟩
    · exfalso; omega
  · refine lv_iload_n hx hb dX2_setCrew_11 rfl (lv_at hl 2 rfl) ?_
    refine zi_const hx hb dX2_setCrew_12 ?_
    refine zi_bipush hx hb dX2_setCrew_13 (by decide) ?_
    refine zcalli (va_runS (As := [.int (iI (u)), .int (iI (0)), .int (iI (24))]) (rest := [.ref (ad 0)]) ⟨hx, hb, hml, hown, hts⟩ (c_X2_in l D cy A ad _ (u) (0) (24) (by first | decide | (constructor <;> omega)) (by first | decide | (constructor <;> omega)) (by first | decide | (constructor <;> omega))) (va_cwS 3 hts gX2_setCrew_X2_in rfl rfl rfl (by decide +kernel) ⟨(Nat.le_of_ble_eq_true rfl), (Nat.le_of_ble_eq_true rfl)⟩) (zPS hE hS) rfl rfl hl.1 rfl (lv_room (Nat.le_of_ble_eq_true rfl)) dX2_setCrew_15 ⟨(Nat.le_of_ble_eq_true rfl), (Nat.le_of_ble_eq_true rfl)⟩) hS (fun z_15 H1 locs hz_15 hq hz1 hk1 hS => ?_)
    obtain ⟨hqe, hv_15⟩ := hq
    replace hqe := hqe.symm
    subst hqe
    refine zf_eq (tgt := 25) hx hb dX2_setCrew_18 (by decide) (by first | decide | (constructor <;> omega)) (fun c_18 => ?_) (fun c_18 => ?_)
    · refine zi_const hx hb dX2_setCrew_25 ?_
      refine zput (C := RX2) (T := TX2) (N := 19) hx hb hts hinX2 tyX2 tyX2_ok nmX2 hown hE hS hw 0 mE_0 rfl 0 (by decide) (hts (.fieldLink RX2 66 "FormworkYardModel" "thrown" "I") (by decide +kernel)) rfl (ty := .int) (by decide +kernel) rfl rfl (Nat.le_of_ble_eq_true rfl) dX2_setCrew_26 (fun H locs hw hS => ?_)
      have hw := hw.cong (mU_i 0 (by decide) (1))
      refine lv_aload_n hx hb dX2_setCrew_29 rfl (lv_at hl 0 rfl) ?_
      refine zget (C := RX2) (T := TX2) (N := 19) hx hb hts hinX2 hown hE hw 0 mE_0 rfl 0 (by decide) (hts (.fieldLink RX2 66 "FormworkYardModel" "thrown" "I") (by decide +kernel)) rfl dX2_setCrew_30 ?_
      refine zi_top (fun v_30 hv_30 => ?_)
      simp [va_up] at hv_30
      subst hv_30
      refine zf_ne (tgt := 46) hx hb dX2_setCrew_33 (by decide) (by first | decide | (constructor <;> omega)) (fun c_33 => ?_) (fun c_33 => ?_)
      · refine zvret hx hb hr hlocks hS (Nat.le_of_ble_eq_true rfl) (Nat.le_of_ble_eq_true rfl) ?_ dX2_setCrew_46
        refine ⟨1, _, hw, by (repeat' split) <;> omega, ?_⟩
        exact Or.inl ⟨by decide, rfl⟩
      · exfalso; omega
    · refine zi_const hx hb dX2_setCrew_21 ?_
      refine lv_goto (tgt := 26) hx hb dX2_setCrew_22 (by decide) ?_
      refine zput (C := RX2) (T := TX2) (N := 19) hx hb hts hinX2 tyX2 tyX2_ok nmX2 hown hE hS hw 0 mE_0 rfl 0 (by decide) (hts (.fieldLink RX2 66 "FormworkYardModel" "thrown" "I") (by decide +kernel)) rfl (ty := .int) (by decide +kernel) rfl rfl (Nat.le_of_ble_eq_true rfl) dX2_setCrew_26 (fun H locs hw hS => ?_)
      have hw := hw.cong (mU_i 0 (by decide) (0))
      refine lv_aload_n hx hb dX2_setCrew_29 rfl (lv_at hl 0 rfl) ?_
      refine zget (C := RX2) (T := TX2) (N := 19) hx hb hts hinX2 hown hE hw 0 mE_0 rfl 0 (by decide) (hts (.fieldLink RX2 66 "FormworkYardModel" "thrown" "I") (by decide +kernel)) rfl dX2_setCrew_30 ?_
      refine zi_top (fun v_30 hv_30 => ?_)
      simp [va_up] at hv_30
      subst hv_30
      refine zf_ne (tgt := 46) hx hb dX2_setCrew_33 (by decide) (by first | decide | (constructor <;> omega)) (fun c_33 => ?_) (fun c_33 => ?_)
      · exfalso; omega
      · refine lv_aload_n hx hb dX2_setCrew_36 rfl (lv_at hl 0 rfl) ?_
        refine lv_iload_n hx hb dX2_setCrew_37 rfl (lv_at hl 1 rfl) ?_
        refine zput (C := RX2) (T := TX2) (N := 19) hx hb hts hinX2 tyX2 tyX2_ok nmX2 hown hE hS hw 0 mE_0 rfl 5 (by decide) (hts (.fieldLink RX2 23 "FormworkYardModel" "setUp" "I") (by decide +kernel)) rfl (ty := .int) (by decide +kernel) rfl rfl (Nat.le_of_ble_eq_true rfl) dX2_setCrew_38 (fun H locs hw hS => ?_)
        have hw := hw.cong (mU_i 5 (by decide) (v))
        refine lv_aload_n hx hb dX2_setCrew_41 rfl (lv_at hl 0 rfl) ?_
        refine lv_iload_n hx hb dX2_setCrew_42 rfl (lv_at hl 2 rfl) ?_
        refine zput (C := RX2) (T := TX2) (N := 19) hx hb hts hinX2 tyX2 tyX2_ok nmX2 hown hE hS hw 0 mE_0 rfl 6 (by decide) (hts (.fieldLink RX2 26 "FormworkYardModel" "cleaning" "I") (by decide +kernel)) rfl (ty := .int) (by decide +kernel) rfl rfl (Nat.le_of_ble_eq_true rfl) dX2_setCrew_43 (fun H locs hw hS => ?_)
        have hw := hw.cong (mU_i 6 (by decide) (u))
        refine zvret hx hb hr hlocks hS (Nat.le_of_ble_eq_true rfl) (Nat.le_of_ble_eq_true rfl) ?_ dX2_setCrew_46
        refine ⟨0, _, hw, by (repeat' split) <;> omega, ?_⟩
        exact Or.inr ⟨rfl, rfl⟩

set_option maxHeartbeats 4000000 in
set_option maxRecDepth 100000 in
theorem c_X2_isPlan (l : Launch) (D : va_G) (cy : Nat → ClassId) (A : Nat → Prop) (ad : Nat → Nat) (H0 : Heap) (a b d f : Int) (h1 : zr a) (h2 : zr b) (h3 : zr d) (h4 : zr f) : Met l yX2_isPlan wsX2_isPlan ({ frames := 1, cells := 0, slots := 0, locals := 22 }) (zPc D cy A [.int (iI (a)), .int (iI (b)), .int (iI (d)), .int (iI (f))] H0) (zQi (fun z H1 => H1 = H0 ∧ ((z = 1 ∧ (0 ≤ a ∧ a ≤ 900) ∧ (1 ≤ b ∧ b ≤ 200) ∧ (1 ≤ d ∧ d ≤ 30) ∧ (1 ≤ f ∧ f ≤ 100)) ∨ (z = 0 ∧ ¬ ((0 ≤ a ∧ a ≤ 900) ∧ (1 ≤ b ∧ b ≤ 200) ∧ (1 ≤ d ∧ d ≤ 30) ∧ (1 ≤ f ∧ f ≤ 100))))) A) 0 0 A := by
  refine Met.ofW (cc := cX2_isPlan) (maxL := 4) (ret := (some .boolean)) (by decide) rfl ?_
  intro pg en s mt args below meth c s₁ B hml hv
  obtain ⟨rfl, hH, hE⟩ := hv
  subst hH
  have hx := B.exec
  have hb := B.bytes
  have hr := B.returns
  have hts := atoms_spec (ws := wsX2_isPlan) B.pre
  have hown : s.vm.findClass RX2 = some mt.cls := findClass_of_methodNamed B.named
  have hlocks := B.notSynchronized
  have hS : va_S A s.heap s.heap [] := va_S.rf
  have hl := lv_entry ([.int (iI (a)), .int (iI (b)), .int (iI (d)), .int (iI (f))]) (n := 4) (Nat.le_of_ble_eq_true rfl)
  rw [lg_entry_eq]
  generalize (lg_sl ([.int (iI (a)), .int (iI (b)), .int (iI (d)), .int (iI (f))]) ++ List.replicate (4 - (lg_sl ([.int (iI (a)), .int (iI (b)), .int (iI (d)), .int (iI (f))])).length) Slot.unset).toArray = ls at hl ⊢
  have hl : lv_has ls 4 [(0, .int (iI (a))), (1, .int (iI (b))), (2, .int (iI (d))), (3, .int (iI (f)))] := hl
  refine lv_iload_n hx hb dX2_isPlan_0 rfl (lv_at hl 0 rfl) ?_
  refine zi_const hx hb dX2_isPlan_1 ?_
  refine zi_sipush hx hb dX2_isPlan_2 (by decide) ?_
  refine zcalli (va_runS (As := [.int (iI (a)), .int (iI (0)), .int (iI (900))]) (rest := []) ⟨hx, hb, hml, hown, hts⟩ (c_X2_in l D cy A ad _ (a) (0) (900) (by first | decide | (constructor <;> omega)) (by first | decide | (constructor <;> omega)) (by first | decide | (constructor <;> omega))) (va_cwS 3 hts gX2_isPlan_X2_in rfl rfl rfl (by decide +kernel) ⟨(Nat.le_of_ble_eq_true rfl), (Nat.le_of_ble_eq_true rfl)⟩) (zPS hE hS) rfl rfl hl.1 rfl (lv_room (Nat.le_of_ble_eq_true rfl)) dX2_isPlan_5 ⟨(Nat.le_of_ble_eq_true rfl), (Nat.le_of_ble_eq_true rfl)⟩) hS (fun z_5 H1 locs hz_5 hq hz1 hk1 hS => ?_)
  obtain ⟨hqe, hv_5⟩ := hq
  replace hqe := hqe.symm
  subst hqe
  refine zf_eq (tgt := 46) hx hb dX2_isPlan_8 (by decide) (by first | decide | (constructor <;> omega)) (fun c_8 => ?_) (fun c_8 => ?_)
  · refine zi_const hx hb dX2_isPlan_46 ?_
    refine zzret hx hb hr hlocks hS (Nat.le_of_ble_eq_true rfl) (Nat.le_of_ble_eq_true rfl) (by omega) ?_ dX2_isPlan_47
    exact ⟨rfl, by omega⟩
  · refine lv_iload_n hx hb dX2_isPlan_11 rfl (lv_at hl 1 rfl) ?_
    refine zi_const hx hb dX2_isPlan_12 ?_
    refine zi_sipush hx hb dX2_isPlan_13 (by decide) ?_
    refine zcalli (va_runS (As := [.int (iI (b)), .int (iI (1)), .int (iI (200))]) (rest := []) ⟨hx, hb, hml, hown, hts⟩ (c_X2_in l D cy A ad _ (b) (1) (200) (by first | decide | (constructor <;> omega)) (by first | decide | (constructor <;> omega)) (by first | decide | (constructor <;> omega))) (va_cwS 3 hts gX2_isPlan_X2_in rfl rfl rfl (by decide +kernel) ⟨(Nat.le_of_ble_eq_true rfl), (Nat.le_of_ble_eq_true rfl)⟩) (zPS hE hS) rfl rfl hl.1 rfl (lv_room (Nat.le_of_ble_eq_true rfl)) dX2_isPlan_16 ⟨(Nat.le_of_ble_eq_true rfl), (Nat.le_of_ble_eq_true rfl)⟩) hS (fun z_16 H1 locs hz_16 hq hz1 hk1 hS => ?_)
    obtain ⟨hqe, hv_16⟩ := hq
    replace hqe := hqe.symm
    subst hqe
    refine zf_eq (tgt := 46) hx hb dX2_isPlan_19 (by decide) (by first | decide | (constructor <;> omega)) (fun c_19 => ?_) (fun c_19 => ?_)
    · refine zi_const hx hb dX2_isPlan_46 ?_
      refine zzret hx hb hr hlocks hS (Nat.le_of_ble_eq_true rfl) (Nat.le_of_ble_eq_true rfl) (by omega) ?_ dX2_isPlan_47
      exact ⟨rfl, by omega⟩
    · refine lv_iload_n hx hb dX2_isPlan_22 rfl (lv_at hl 2 rfl) ?_
      refine zi_const hx hb dX2_isPlan_23 ?_
      refine zi_bipush hx hb dX2_isPlan_24 (by decide) ?_
      refine zcalli (va_runS (As := [.int (iI (d)), .int (iI (1)), .int (iI (30))]) (rest := []) ⟨hx, hb, hml, hown, hts⟩ (c_X2_in l D cy A ad _ (d) (1) (30) (by first | decide | (constructor <;> omega)) (by first | decide | (constructor <;> omega)) (by first | decide | (constructor <;> omega))) (va_cwS 3 hts gX2_isPlan_X2_in rfl rfl rfl (by decide +kernel) ⟨(Nat.le_of_ble_eq_true rfl), (Nat.le_of_ble_eq_true rfl)⟩) (zPS hE hS) rfl rfl hl.1 rfl (lv_room (Nat.le_of_ble_eq_true rfl)) dX2_isPlan_26 ⟨(Nat.le_of_ble_eq_true rfl), (Nat.le_of_ble_eq_true rfl)⟩) hS (fun z_26 H1 locs hz_26 hq hz1 hk1 hS => ?_)
      obtain ⟨hqe, hv_26⟩ := hq
      replace hqe := hqe.symm
      subst hqe
      refine zf_eq (tgt := 46) hx hb dX2_isPlan_29 (by decide) (by first | decide | (constructor <;> omega)) (fun c_29 => ?_) (fun c_29 => ?_)
      · refine zi_const hx hb dX2_isPlan_46 ?_
        refine zzret hx hb hr hlocks hS (Nat.le_of_ble_eq_true rfl) (Nat.le_of_ble_eq_true rfl) (by omega) ?_ dX2_isPlan_47
        exact ⟨rfl, by omega⟩
      · refine lv_iload_n hx hb dX2_isPlan_32 rfl (lv_at hl 3 rfl) ?_
        refine zi_const hx hb dX2_isPlan_33 ?_
        refine zi_bipush hx hb dX2_isPlan_34 (by decide) ?_
        refine zcalli (va_runS (As := [.int (iI (f)), .int (iI (1)), .int (iI (100))]) (rest := []) ⟨hx, hb, hml, hown, hts⟩ (c_X2_in l D cy A ad _ (f) (1) (100) (by first | decide | (constructor <;> omega)) (by first | decide | (constructor <;> omega)) (by first | decide | (constructor <;> omega))) (va_cwS 3 hts gX2_isPlan_X2_in rfl rfl rfl (by decide +kernel) ⟨(Nat.le_of_ble_eq_true rfl), (Nat.le_of_ble_eq_true rfl)⟩) (zPS hE hS) rfl rfl hl.1 rfl (lv_room (Nat.le_of_ble_eq_true rfl)) dX2_isPlan_36 ⟨(Nat.le_of_ble_eq_true rfl), (Nat.le_of_ble_eq_true rfl)⟩) hS (fun z_36 H1 locs hz_36 hq hz1 hk1 hS => ?_)
        obtain ⟨hqe, hv_36⟩ := hq
        replace hqe := hqe.symm
        subst hqe
        refine zf_eq (tgt := 46) hx hb dX2_isPlan_39 (by decide) (by first | decide | (constructor <;> omega)) (fun c_39 => ?_) (fun c_39 => ?_)
        · refine zi_const hx hb dX2_isPlan_46 ?_
          refine zzret hx hb hr hlocks hS (Nat.le_of_ble_eq_true rfl) (Nat.le_of_ble_eq_true rfl) (by omega) ?_ dX2_isPlan_47
          exact ⟨rfl, by omega⟩
        · refine zi_const hx hb dX2_isPlan_42 ?_
          refine lv_goto (tgt := 47) hx hb dX2_isPlan_43 (by decide) ?_
          refine zzret hx hb hr hlocks hS (Nat.le_of_ble_eq_true rfl) (Nat.le_of_ble_eq_true rfl) (by omega) ?_ dX2_isPlan_47
          exact ⟨rfl, by omega⟩
end
