section
-- ===== PART A: goes FIRST, ahead of the names: the tables' words, and 'selects' of the private methods out of them =====
/-- a private method of a class that the tables say can be made, by its rows of tables_1 -/
def lw_okq (q : MethodName × Nat) : Prop := (q.1.cls ≠ "java/lang/invoke/MethodHandle" ∧ q.1.cls ≠ "java/lang/invoke/VarHandle") ∧ Cond.instantiable q.1.cls q.2 ∈ tables_1 ∧ Cond.privateMethod q.1 ∈ tables_1 ∧ Cond.instanceMethod q.1 ∈ tables_1
theorem lw_p0 : lw_okq (⟨"java/lang/Throwable", "fillInStackTrace", "(I)Ljava/lang/Throwable;"⟩, 6) := ⟨⟨by decide +kernel, by decide +kernel⟩, List.mem_of_getElem? (i := 216) (by decide +kernel), List.mem_of_getElem? (i := 214) (by decide +kernel), List.mem_of_getElem? (i := 215) (by decide +kernel)⟩
theorem lw_p1 : lw_okq (⟨"GatedLinks$Search", "fits", "(LGatedLinks$PlannedStream;I)Z"⟩, 3) := ⟨⟨by decide +kernel, by decide +kernel⟩, List.mem_of_getElem? (i := 28) (by decide +kernel), List.mem_of_getElem? (i := 379) (by decide +kernel), List.mem_of_getElem? (i := 380) (by decide +kernel)⟩
theorem lw_p2 : lw_okq (⟨"GatedLinks", "requireFound", "()V"⟩, 10) := ⟨⟨by decide +kernel, by decide +kernel⟩, List.mem_of_getElem? (i := 18) (by decide +kernel), List.mem_of_getElem? (i := 416) (by decide +kernel), List.mem_of_getElem? (i := 417) (by decide +kernel)⟩
theorem lw_p3 : lw_okq (⟨"GatedLinks", "passOneTick", "()V"⟩, 10) := ⟨⟨by decide +kernel, by decide +kernel⟩, List.mem_of_getElem? (i := 18) (by decide +kernel), List.mem_of_getElem? (i := 473) (by decide +kernel), List.mem_of_getElem? (i := 474) (by decide +kernel)⟩
theorem lw_p4 : lw_okq (⟨"GatedLinks", "isTimeToChange", "()Z"⟩, 10) := ⟨⟨by decide +kernel, by decide +kernel⟩, List.mem_of_getElem? (i := 18) (by decide +kernel), List.mem_of_getElem? (i := 477) (by decide +kernel), List.mem_of_getElem? (i := 478) (by decide +kernel)⟩
theorem lw_p5 : lw_okq (⟨"GatedLinks", "talking", "()I"⟩, 10) := ⟨⟨by decide +kernel, by decide +kernel⟩, List.mem_of_getElem? (i := 18) (by decide +kernel), List.mem_of_getElem? (i := 481) (by decide +kernel), List.mem_of_getElem? (i := 482) (by decide +kernel)⟩
theorem lw_p6 : lw_okq (⟨"GatedLinks", "comeIntoForce", "()V"⟩, 10) := ⟨⟨by decide +kernel, by decide +kernel⟩, List.mem_of_getElem? (i := 18) (by decide +kernel), List.mem_of_getElem? (i := 485) (by decide +kernel), List.mem_of_getElem? (i := 486) (by decide +kernel)⟩
theorem lw_p7 : lw_okq (⟨"GatedLinks$Talker", "beginsOnCut", "(I[LGatedLinks$Port;)Z"⟩, 10) := ⟨⟨by decide +kernel, by decide +kernel⟩, List.mem_of_getElem? (i := 51) (by decide +kernel), List.mem_of_getElem? (i := 505) (by decide +kernel), List.mem_of_getElem? (i := 506) (by decide +kernel)⟩
theorem lw_p8 : lw_okq (⟨"GatedLinks", "beginWaiting", "(I)V"⟩, 10) := ⟨⟨by decide +kernel, by decide +kernel⟩, List.mem_of_getElem? (i := 18) (by decide +kernel), List.mem_of_getElem? (i := 510) (by decide +kernel), List.mem_of_getElem? (i := 511) (by decide +kernel)⟩
theorem lw_p9 : lw_okq (⟨"GatedLinks", "requireInForce", "(I)V"⟩, 10) := ⟨⟨by decide +kernel, by decide +kernel⟩, List.mem_of_getElem? (i := 18) (by decide +kernel), List.mem_of_getElem? (i := 538) (by decide +kernel), List.mem_of_getElem? (i := 539) (by decide +kernel)⟩
theorem lw_p10 : lw_okq (⟨"GatedLinks", "loseAllOn", "(I)V"⟩, 10) := ⟨⟨by decide +kernel, by decide +kernel⟩, List.mem_of_getElem? (i := 18) (by decide +kernel), List.mem_of_getElem? (i := 558) (by decide +kernel), List.mem_of_getElem? (i := 559) (by decide +kernel)⟩
theorem lw_p11 : lw_okq (⟨"GatedLinks", "whatIsOn", "(I)I"⟩, 10) := ⟨⟨by decide +kernel, by decide +kernel⟩, List.mem_of_getElem? (i := 18) (by decide +kernel), List.mem_of_getElem? (i := 595) (by decide +kernel), List.mem_of_getElem? (i := 596) (by decide +kernel)⟩
theorem lw_p12 : lw_okq (⟨"GatedLinksModel", "isGood", "(I)Z"⟩, 31) := ⟨⟨by decide +kernel, by decide +kernel⟩, List.mem_of_getElem? (i := 615) (by decide +kernel), List.mem_of_getElem? (i := 739) (by decide +kernel), List.mem_of_getElem? (i := 740) (by decide +kernel)⟩
theorem lw_p13 : lw_okq (⟨"GatedLinksModel", "isOnTime", "(I)Z"⟩, 31) := ⟨⟨by decide +kernel, by decide +kernel⟩, List.mem_of_getElem? (i := 615) (by decide +kernel), List.mem_of_getElem? (i := 743) (by decide +kernel), List.mem_of_getElem? (i := 744) (by decide +kernel)⟩
theorem lw_p14 : lw_okq (⟨"GatedLinksModel", "begins", "(II)I"⟩, 31) := ⟨⟨by decide +kernel, by decide +kernel⟩, List.mem_of_getElem? (i := 615) (by decide +kernel), List.mem_of_getElem? (i := 747) (by decide +kernel), List.mem_of_getElem? (i := 748) (by decide +kernel)⟩
theorem lw_p15 : lw_okq (⟨"GatedLinksModel", "streamsMeet", "(II)Z"⟩, 31) := ⟨⟨by decide +kernel, by decide +kernel⟩, List.mem_of_getElem? (i := 615) (by decide +kernel), List.mem_of_getElem? (i := 751) (by decide +kernel), List.mem_of_getElem? (i := 752) (by decide +kernel)⟩
def lw_privs_1 : List (MethodName × Nat) := [(⟨"java/lang/Throwable", "fillInStackTrace", "(I)Ljava/lang/Throwable;"⟩, 6), (⟨"GatedLinks$Search", "fits", "(LGatedLinks$PlannedStream;I)Z"⟩, 3), (⟨"GatedLinks", "requireFound", "()V"⟩, 10), (⟨"GatedLinks", "passOneTick", "()V"⟩, 10), (⟨"GatedLinks", "isTimeToChange", "()Z"⟩, 10), (⟨"GatedLinks", "talking", "()I"⟩, 10), (⟨"GatedLinks", "comeIntoForce", "()V"⟩, 10), (⟨"GatedLinks$Talker", "beginsOnCut", "(I[LGatedLinks$Port;)Z"⟩, 10), (⟨"GatedLinks", "beginWaiting", "(I)V"⟩, 10), (⟨"GatedLinks", "requireInForce", "(I)V"⟩, 10), (⟨"GatedLinks", "loseAllOn", "(I)V"⟩, 10), (⟨"GatedLinks", "whatIsOn", "(I)I"⟩, 10), (⟨"GatedLinksModel", "isGood", "(I)Z"⟩, 31), (⟨"GatedLinksModel", "isOnTime", "(I)Z"⟩, 31), (⟨"GatedLinksModel", "begins", "(II)I"⟩, 31), (⟨"GatedLinksModel", "streamsMeet", "(II)Z"⟩, 31)]
theorem lw_r1 : ∀ q ∈ lw_privs_1, lw_okq q := List.forall_mem_cons.mpr ⟨lw_p0, List.forall_mem_cons.mpr ⟨lw_p1, List.forall_mem_cons.mpr ⟨lw_p2, List.forall_mem_cons.mpr ⟨lw_p3, List.forall_mem_cons.mpr ⟨lw_p4, List.forall_mem_cons.mpr ⟨lw_p5, List.forall_mem_cons.mpr ⟨lw_p6, List.forall_mem_cons.mpr ⟨lw_p7, List.forall_mem_cons.mpr ⟨lw_p8, List.forall_mem_cons.mpr ⟨lw_p9, List.forall_mem_cons.mpr ⟨lw_p10, List.forall_mem_cons.mpr ⟨lw_p11, List.forall_mem_cons.mpr ⟨lw_p12, List.forall_mem_cons.mpr ⟨lw_p13, List.forall_mem_cons.mpr ⟨lw_p14, List.forall_mem_cons.mpr ⟨lw_p15, fun _ h => absurd h List.not_mem_nil⟩⟩⟩⟩⟩⟩⟩⟩⟩⟩⟩⟩⟩⟩⟩⟩
theorem lw_p16 : lw_okq (⟨"GatedLinksModel", "keep", "()V"⟩, 31) := ⟨⟨by decide +kernel, by decide +kernel⟩, List.mem_of_getElem? (i := 615) (by decide +kernel), List.mem_of_getElem? (i := 761) (by decide +kernel), List.mem_of_getElem? (i := 762) (by decide +kernel)⟩
theorem lw_p17 : lw_okq (⟨"GatedLinksModel", "spanOf", "(III)I"⟩, 31) := ⟨⟨by decide +kernel, by decide +kernel⟩, List.mem_of_getElem? (i := 615) (by decide +kernel), List.mem_of_getElem? (i := 777) (by decide +kernel), List.mem_of_getElem? (i := 778) (by decide +kernel)⟩
theorem lw_p18 : lw_okq (⟨"GatedLinksModel", "beginsIn", "(III)I"⟩, 31) := ⟨⟨by decide +kernel, by decide +kernel⟩, List.mem_of_getElem? (i := 615) (by decide +kernel), List.mem_of_getElem? (i := 781) (by decide +kernel), List.mem_of_getElem? (i := 782) (by decide +kernel)⟩
theorem lw_p19 : lw_okq (⟨"GatedLinksModel", "copy", "(II)V"⟩, 31) := ⟨⟨by decide +kernel, by decide +kernel⟩, List.mem_of_getElem? (i := 615) (by decide +kernel), List.mem_of_getElem? (i := 789) (by decide +kernel), List.mem_of_getElem? (i := 790) (by decide +kernel)⟩
theorem lw_p20 : lw_okq (⟨"GatedLinksModel", "tickOnce", "()V"⟩, 31) := ⟨⟨by decide +kernel, by decide +kernel⟩, List.mem_of_getElem? (i := 615) (by decide +kernel), List.mem_of_getElem? (i := 797) (by decide +kernel), List.mem_of_getElem? (i := 798) (by decide +kernel)⟩
theorem lw_p21 : lw_okq (⟨"GatedLinksModel", "isQuiet", "()Z"⟩, 31) := ⟨⟨by decide +kernel, by decide +kernel⟩, List.mem_of_getElem? (i := 615) (by decide +kernel), List.mem_of_getElem? (i := 801) (by decide +kernel), List.mem_of_getElem? (i := 802) (by decide +kernel)⟩
theorem lw_p22 : lw_okq (⟨"GatedLinksModel", "comeIntoForce", "()V"⟩, 31) := ⟨⟨by decide +kernel, by decide +kernel⟩, List.mem_of_getElem? (i := 615) (by decide +kernel), List.mem_of_getElem? (i := 805) (by decide +kernel), List.mem_of_getElem? (i := 806) (by decide +kernel)⟩
theorem lw_p23 : lw_okq (⟨"GatedLinksModel", "talkAll", "()V"⟩, 31) := ⟨⟨by decide +kernel, by decide +kernel⟩, List.mem_of_getElem? (i := 615) (by decide +kernel), List.mem_of_getElem? (i := 809) (by decide +kernel), List.mem_of_getElem? (i := 810) (by decide +kernel)⟩
theorem lw_p24 : lw_okq (⟨"GatedLinksModel", "flyAll", "()V"⟩, 31) := ⟨⟨by decide +kernel, by decide +kernel⟩, List.mem_of_getElem? (i := 615) (by decide +kernel), List.mem_of_getElem? (i := 813) (by decide +kernel), List.mem_of_getElem? (i := 814) (by decide +kernel)⟩
theorem lw_p25 : lw_okq (⟨"GatedLinksModel", "isLost", "(I)Z"⟩, 31) := ⟨⟨by decide +kernel, by decide +kernel⟩, List.mem_of_getElem? (i := 615) (by decide +kernel), List.mem_of_getElem? (i := 817) (by decide +kernel), List.mem_of_getElem? (i := 818) (by decide +kernel)⟩
theorem lw_p26 : lw_okq (⟨"GatedLinksModel", "lastOf", "(I)I"⟩, 31) := ⟨⟨by decide +kernel, by decide +kernel⟩, List.mem_of_getElem? (i := 615) (by decide +kernel), List.mem_of_getElem? (i := 821) (by decide +kernel), List.mem_of_getElem? (i := 822) (by decide +kernel)⟩
theorem lw_p27 : lw_okq (⟨"GatedLinksModel", "linkOf", "(II)I"⟩, 31) := ⟨⟨by decide +kernel, by decide +kernel⟩, List.mem_of_getElem? (i := 615) (by decide +kernel), List.mem_of_getElem? (i := 825) (by decide +kernel), List.mem_of_getElem? (i := 826) (by decide +kernel)⟩
theorem lw_p28 : lw_okq (⟨"GatedLinksModel", "beginOf", "(II)I"⟩, 31) := ⟨⟨by decide +kernel, by decide +kernel⟩, List.mem_of_getElem? (i := 615) (by decide +kernel), List.mem_of_getElem? (i := 829) (by decide +kernel), List.mem_of_getElem? (i := 830) (by decide +kernel)⟩
theorem lw_p29 : lw_okq (⟨"GatedLinksModel", "remove", "(I)V"⟩, 31) := ⟨⟨by decide +kernel, by decide +kernel⟩, List.mem_of_getElem? (i := 615) (by decide +kernel), List.mem_of_getElem? (i := 833) (by decide +kernel), List.mem_of_getElem? (i := 834) (by decide +kernel)⟩
theorem lw_p30 : lw_okq (⟨"GatedLinksModel", "throughOf", "(II)I"⟩, 31) := ⟨⟨by decide +kernel, by decide +kernel⟩, List.mem_of_getElem? (i := 615) (by decide +kernel), List.mem_of_getElem? (i := 837) (by decide +kernel), List.mem_of_getElem? (i := 838) (by decide +kernel)⟩
theorem lw_p31 : lw_okq (⟨"GatedLinksModel", "serve", "(I)V"⟩, 31) := ⟨⟨by decide +kernel, by decide +kernel⟩, List.mem_of_getElem? (i := 615) (by decide +kernel), List.mem_of_getElem? (i := 841) (by decide +kernel), List.mem_of_getElem? (i := 842) (by decide +kernel)⟩
def lw_privs_2 : List (MethodName × Nat) := [(⟨"GatedLinksModel", "keep", "()V"⟩, 31), (⟨"GatedLinksModel", "spanOf", "(III)I"⟩, 31), (⟨"GatedLinksModel", "beginsIn", "(III)I"⟩, 31), (⟨"GatedLinksModel", "copy", "(II)V"⟩, 31), (⟨"GatedLinksModel", "tickOnce", "()V"⟩, 31), (⟨"GatedLinksModel", "isQuiet", "()Z"⟩, 31), (⟨"GatedLinksModel", "comeIntoForce", "()V"⟩, 31), (⟨"GatedLinksModel", "talkAll", "()V"⟩, 31), (⟨"GatedLinksModel", "flyAll", "()V"⟩, 31), (⟨"GatedLinksModel", "isLost", "(I)Z"⟩, 31), (⟨"GatedLinksModel", "lastOf", "(I)I"⟩, 31), (⟨"GatedLinksModel", "linkOf", "(II)I"⟩, 31), (⟨"GatedLinksModel", "beginOf", "(II)I"⟩, 31), (⟨"GatedLinksModel", "remove", "(I)V"⟩, 31), (⟨"GatedLinksModel", "throughOf", "(II)I"⟩, 31), (⟨"GatedLinksModel", "serve", "(I)V"⟩, 31)]
theorem lw_r2 : ∀ q ∈ lw_privs_2, lw_okq q := List.forall_mem_cons.mpr ⟨lw_p16, List.forall_mem_cons.mpr ⟨lw_p17, List.forall_mem_cons.mpr ⟨lw_p18, List.forall_mem_cons.mpr ⟨lw_p19, List.forall_mem_cons.mpr ⟨lw_p20, List.forall_mem_cons.mpr ⟨lw_p21, List.forall_mem_cons.mpr ⟨lw_p22, List.forall_mem_cons.mpr ⟨lw_p23, List.forall_mem_cons.mpr ⟨lw_p24, List.forall_mem_cons.mpr ⟨lw_p25, List.forall_mem_cons.mpr ⟨lw_p26, List.forall_mem_cons.mpr ⟨lw_p27, List.forall_mem_cons.mpr ⟨lw_p28, List.forall_mem_cons.mpr ⟨lw_p29, List.forall_mem_cons.mpr ⟨lw_p30, List.forall_mem_cons.mpr ⟨lw_p31, fun _ h => absurd h List.not_mem_nil⟩⟩⟩⟩⟩⟩⟩⟩⟩⟩⟩⟩⟩⟩⟩⟩
theorem lw_p32 : lw_okq (⟨"GatedLinksModel", "isFree", "(II)Z"⟩, 31) := ⟨⟨by decide +kernel, by decide +kernel⟩, List.mem_of_getElem? (i := 615) (by decide +kernel), List.mem_of_getElem? (i := 845) (by decide +kernel), List.mem_of_getElem? (i := 846) (by decide +kernel)⟩
theorem lw_p33 : lw_okq (⟨"GatedLinksModel", "isTalker", "(I)Z"⟩, 31) := ⟨⟨by decide +kernel, by decide +kernel⟩, List.mem_of_getElem? (i := 615) (by decide +kernel), List.mem_of_getElem? (i := 853) (by decide +kernel), List.mem_of_getElem? (i := 854) (by decide +kernel)⟩
theorem lw_p34 : lw_okq (⟨"GatedLinksModel", "isHit", "(II)Z"⟩, 31) := ⟨⟨by decide +kernel, by decide +kernel⟩, List.mem_of_getElem? (i := 615) (by decide +kernel), List.mem_of_getElem? (i := 865) (by decide +kernel), List.mem_of_getElem? (i := 866) (by decide +kernel)⟩
theorem lw_p35 : lw_okq (⟨"GatedLinksModel", "on", "(I)I"⟩, 31) := ⟨⟨by decide +kernel, by decide +kernel⟩, List.mem_of_getElem? (i := 615) (by decide +kernel), List.mem_of_getElem? (i := 881) (by decide +kernel), List.mem_of_getElem? (i := 882) (by decide +kernel)⟩
def lw_privs_3 : List (MethodName × Nat) := [(⟨"GatedLinksModel", "isFree", "(II)Z"⟩, 31), (⟨"GatedLinksModel", "isTalker", "(I)Z"⟩, 31), (⟨"GatedLinksModel", "isHit", "(II)Z"⟩, 31), (⟨"GatedLinksModel", "on", "(I)I"⟩, 31)]
theorem lw_r3 : ∀ q ∈ lw_privs_3, lw_okq q := List.forall_mem_cons.mpr ⟨lw_p32, List.forall_mem_cons.mpr ⟨lw_p33, List.forall_mem_cons.mpr ⟨lw_p34, List.forall_mem_cons.mpr ⟨lw_p35, fun _ h => absurd h List.not_mem_nil⟩⟩⟩⟩
def lw_privs : List (MethodName × Nat) := lw_privs_1 ++ (lw_privs_2 ++ (lw_privs_3))
def lw_tbl : List Cond := k2_sels lw_privs ++ tables_1
theorem lw_privs_ok : ∀ q ∈ lw_privs, lw_okq q := by
  show ∀ q ∈ lw_privs_1 ++ (lw_privs_2 ++ (lw_privs_3)), lw_okq q
  exact List.forall_mem_append.mpr ⟨lw_r1, List.forall_mem_append.mpr ⟨lw_r2, lw_r3⟩⟩
/-! ===== BEGIN words of one list among another's, by their places ===== -/
theorem goodIn_r {big : List Cond} (ws : List Cond) (ps : List Nat) (hp : ws = ps.filterMap (fun i => big[i]?)) (h : ws.all goodWord = true) : GoodIn big ws := by
  intro w hw
  have h1 := List.all_eq_true.mp h w hw
  rw [hp] at hw
  obtain ⟨i, -, hi⟩ := List.mem_filterMap.mp hw
  have hm : w ∈ big := by first | exact List.mem_of_getElem? hi | exact List.getElem?_mem hi
  exact ⟨hm, good_of_word h1⟩
theorem goodIn_app {big a b : List Cond} (ha : GoodIn big a) (hb : GoodIn big b) : GoodIn big (a ++ b) := fun w h => (List.mem_append.mp h).elim (ha w) (hb w)
theorem goodIn_ca {big a b : List Cond} {c : Cond} (ha : GoodIn big (c :: a)) (hb : GoodIn big b) : GoodIn big (c :: (a ++ b)) := fun w h => (List.mem_cons.mp h).elim (fun e => ha w (List.mem_cons.mpr (Or.inl e))) (fun h => (List.mem_append.mp h).elim (fun h => ha w (List.mem_cons.mpr (Or.inr h))) (hb w))
theorem goodIn_sub {big ws : List Cond} (hm : ∀ w ∈ ws, w ∈ big) (h : ws.all goodWord = true) : GoodIn big ws := fun w hw => ⟨hm w hw, good_of_word (List.all_eq_true.mp h w hw)⟩
/-! ===== END ===== -/

/-! ===== BEGIN new T[n][m]: the outer array a place, the inner ones among the pooled ===== -/
/-- f, but v at every address of l -/
def vr_up {α : Type} (f : Nat → α) (l : List Nat) (v : α) : Nat → α := fun a => if a ∈ l then v else f a
theorem vr_up_in {α : Type} {f : Nat → α} {l : List Nat} {v : α} {a : Nat} (h : a ∈ l) : vr_up f l v a = v := if_pos h
theorem vr_up_ne {α : Type} {f : Nat → α} {l : List Nat} {v : α} {a : Nat} (h : a ∉ l) : vr_up f l v a = f a := if_neg h
theorem vr_rows {L l : List Nat} {f : Nat → va_E} {e : va_E} (h : ∀ a, a ∈ l → a ∉ L) : va_pl L f ++ l.map (fun a => (a, e)) = va_pl (L ++ l) (vr_up f l e) := by
  unfold va_pl
  rw [List.map_append]
  congr 1
  · apply List.map_congr_left
    intro a ha
    rw [vr_up_ne (fun q => h a q ha)]
  · apply List.map_congr_left
    intro a ha
    rw [vr_up_in ha]
theorem vr_lay {X rows : va_W} {x : Nat × va_E} {pl : va_W} {D : va_G} {cl : List vw_C} {H : Heap} (hP : va_P D cl (((X ++ pl) ++ [x]) ++ rows) H) : va_P D cl ((X ++ [x]) ++ (pl ++ rows)) H := by
  rw [List.append_assoc (X ++ pl)] at hP
  have h := va_P.swap hP
  rw [← List.append_assoc X] at h
  have h2 := va_P.swap h
  rw [List.append_assoc (X ++ [x])] at h2
  exact h2
theorem vr_layD {X rows : va_W} {x : Nat × va_E} {pl : va_W} {A : Nat → Prop} (hD : va_D A (((X ++ pl) ++ [x]) ++ rows)) : va_D A ((X ++ [x]) ++ (pl ++ rows)) := by
  rw [List.append_assoc (X ++ pl)] at hD
  have h := va_D.swap hD
  rw [← List.append_assoc X] at h
  have h2 := va_D.swap h
  rw [List.append_assoc (X ++ [x])] at h2
  exact h2
theorem vr_outer (c : ClassId) (N h0 : Nat) : ∀ i : Nat, Jvm.Free.Multi.outerC c N h0 i = arrV c N (fun j => va_rf (if j < i then some (h0 + 1 + j) else none))
  | 0 => by
    show ({ cls := c, slots := Array.replicate N .null, vm := .none } : Cell) = _
    rw [arrV_new]
    refine congrArg (arrV c N) (funext fun j => ?_)
    simp [va_rf]
  | i + 1 => by
    show (Jvm.Free.Multi.outerC c N h0 i).setSlot i (.ref (h0 + 1 + i)) = _
    rw [vr_outer c N h0 i, arrV_store]
    refine congrArg (arrV c N) (funext fun j => ?_)
    by_cases e : j = i
    · subst e
      simp [updV, va_rf]
    · by_cases h : j < i
      · simp [updV, e, h, Nat.lt_succ_of_lt h]
      · simp [updV, e, h, show ¬ j < i + 1 by omega]
def va_AOA (ty : FieldType) (U : State) : Prop := (Cond.arrayOver (.array ty)).before #[] U = true
theorem va_AOA.of {ty : FieldType} {A : Array Value} {U : State} (h : (Cond.arrayOver (.array ty)).before A U = true) : va_AOA ty U := h
theorem va_AOA.use {ty : FieldType} {A : Array Value} {U : State} (h : va_AOA ty U) : (Cond.arrayOver (.array ty)).before A U = true := h
section VGM
variable {p : Program} {l : Launch} {e : Env} {R : Room} {s : State} {m : MethodId} {args : Array Value} {below : List Frame} {meth : Method} {c : Code} {H : Heap} {locs : List Loc} {cells slots : Nat} {Q : State → Prop}
variable {cc : ByteArray} {pc : Nat} {ls : Array Slot} {rest : List Value} {D : va_G} {cl : List vw_C} {A : Nat → Prop} {a : Nat} {tys : List (ClassId × FieldType)} {ws : va_W} {H0 : Heap}
theorem va_mna {X : va_W} {L : List Nat} {f : Nat → va_E} {cc : ByteArray} (hexec : p.tables.exec = Jvm.exec) (hb : c.code = cc) {own : String} {index : Nat} {ty : FieldType} {cy : ClassId} (hown : s.vm.findClass own = some m.cls) (hclink : (Cond.classLink own index ("[" ++ (FieldType.array ty).toString)).before args s = true) (hover : va_AOA ty s) (harr : (Cond.arrayClass ty).before args s = true) (hcy : s.vm.findClass (FieldType.array ty).toString = some cy)
    (hK : va_K D cl tys s) (hP : va_P D cl (X ++ va_pl L f) H) (hD : va_D A (X ++ va_pl L f)) (hS : va_S A H0 H locs) (hA : ∀ q, H0.size ≤ q → A q) {n k : Int32} {N' K' : Nat} {z : vp_A} (hn : ¬ n < 0) (hk : ¬ k < 0) (hN : n.toNatClampNeg = N') (hM : k.toNatClampNeg = K')
    (hb1 : N' * 4 ≤ 536870912) (hb2 : K' * componentBytes ty ≤ 536870912) (hb3 : K' ≤ 536870912) (hdf : fits ty (defaultValue ty) = true) (hdd : (defaultValue ty).isDefault = true) (hcells : cells + (1 + N') ≤ R.cells) (hslots : slots + (N' + N' * K') ≤ R.slots) (hz : ∀ c : ClassId, Jvm.Free.Multi.innerC c K' (defaultValue ty) = vp_cell c z) (hdg : decode cc pc = .ok (.multianewarray index 2, 4))
    (kk : ∀ (q : Nat) (r : Nat → Nat) (cA : ClassId) (H1 : Heap), (∀ i j : Nat, i < N' → j < N' → r i = r j → i = j) → (∀ i : Nat, i < N' → r i ∉ L) → va_K D cl (tys ++ [(cA, .array ty)]) s →
      va_P D cl ((X ++ [(q, .inl (cA, N', .inr (.inr (.inr (.inr (fun i => if i < N' then some (r i) else none))))))]) ++ va_pl (L ++ (List.range N').map r) (vr_up f ((List.range N').map r) (.inl (cy, z)))) H1 → va_D A ((X ++ [(q, .inl (cA, N', .inr (.inr (.inr (.inr (fun i => if i < N' then some (r i) else none))))))]) ++ va_pl (L ++ (List.range N').map r) (vr_up f ((List.range N').map r) (.inl (cy, z)))) → va_S A H0 H1 locs →
      W p l e R s m args below meth c H1 locs (cells + 1 + N') (slots + N' + N' * K') Q (F0 m (pc + 4) ls (.ref q :: rest))) : W p l e R s m args below meth c H locs cells slots Q (F0 m pc ls (.int k :: .int n :: rest)) := by
  subst hN
  subst hM
  intro T hT Xs
  obtain ⟨vm₁, cA, comp, -, fA, fC, hO, -, X', step⟩ := Xs.multianewarray2F hexec hown hclink (va_AOA.use hover) harr (g := F0 m pc ls (.int k :: .int n :: rest)) rfl (by rw [hb]; exact hdg) rfl hn hk hb1 hb2 hb3 hdf hdd hcells hslots
  have ec : some cy = some comp := hcy.symm.trans fC
  cases ec
  generalize hF : Jvm.Free.Multi.fill (T.setVm vm₁) cA cy n.toNatClampNeg k.toNatClampNeg (defaultValue ty) n.toNatClampNeg = F at X' step
  have hTh : (T.setVm vm₁).heap = H := hT
  obtain ⟨f1, f2, -, -⟩ := Jvm.Free.Multi.fill_facts (T.setVm vm₁) cA cy n.toNatClampNeg k.toNatClampNeg (defaultValue ty) n.toNatClampNeg
  rw [hF, hTh] at f1 f2
  have hold : ∀ x : Nat, x < H.size → F.heap[x]? = H[x]? := fun x hx => by
    have := Jvm.Free.Multi.fill_old (T.setVm vm₁) cA cy n.toNatClampNeg k.toNatClampNeg (defaultValue ty) (a := x) (by rw [hTh]; exact hx) n.toNatClampNeg
    rw [hF, hTh] at this
    exact this
  have hrow : ∀ j : Nat, j < n.toNatClampNeg → F.heap[H.size + 1 + j]? = some (vp_cell cy z) := fun j hj => by
    have := Jvm.Free.Multi.fill_inner (T.setVm vm₁) cA cy n.toNatClampNeg k.toNatClampNeg (defaultValue ty) n.toNatClampNeg j hj
    rw [hF, hTh, hz] at this
    exact this
  have hout : Jvm.Free.Multi.outerC cA n.toNatClampNeg H.size n.toNatClampNeg = vp_cell cA (n.toNatClampNeg, .inr (.inr (.inr (.inr (fun i => if i < n.toNatClampNeg then some (H.size + 1 + i) else none))))) := by
    rw [vp_cell_q]
    exact vr_outer cA n.toNatClampNeg H.size n.toNatClampNeg
  rw [hout] at f2
  have hlt : ∀ a, a ∈ L → a < H.size := fun a ha => by
    obtain ⟨k9, hk9⟩ := va_pl_get (X := X) (f := f) ha
    exact (hP k9 _ hk9).lt
  have hnl : ∀ i : Nat, i < n.toNatClampNeg → H.size + 1 + i ∉ L := fun i _ h => by
    have := hlt _ h
    omega
  have hnm : ∀ a, a ∈ (List.range n.toNatClampNeg).map (fun i => H.size + 1 + i) → a ∉ L := fun a ha h => by
    obtain ⟨i, -, rfl⟩ := List.mem_map.mp ha
    have := hlt _ h
    omega
  have hP0 : va_P D cl (X ++ va_pl L f) F.heap := hP.kept (fun k9 x hx => hold x.1 ((hP k9 x hx).lt))
  have hP1 : va_P D cl ((X ++ va_pl L f) ++ [(H.size, .inl (cA, n.toNatClampNeg, .inr (.inr (.inr (.inr (fun i => if i < n.toNatClampNeg then some (H.size + 1 + i) else none))))))]) F.heap := hP0.app (fun k9 x hx => by
    have h0 : k9 < 1 := (List.getElem?_eq_some_iff.mp hx).1
    rw [show k9 = 0 by omega] at hx
    cases hx
    exact f2)
  have hP2 : va_P D cl (((X ++ va_pl L f) ++ [(H.size, .inl (cA, n.toNatClampNeg, .inr (.inr (.inr (.inr (fun i => if i < n.toNatClampNeg then some (H.size + 1 + i) else none))))))]) ++ ((List.range n.toNatClampNeg).map (fun i => H.size + 1 + i)).map (fun a => (a, .inl (cy, z)))) F.heap := hP1.app (fun k9 x hx => by
    obtain ⟨a, ha, rfl⟩ := List.mem_map.mp (List.mem_of_getElem? hx)
    obtain ⟨i, hi, rfl⟩ := List.mem_map.mp ha
    exact hrow i (List.mem_range.mp hi))
  have hD2 : va_D A (((X ++ va_pl L f) ++ [(H.size, .inl (cA, n.toNatClampNeg, .inr (.inr (.inr (.inr (fun i => if i < n.toNatClampNeg then some (H.size + 1 + i) else none))))))]) ++ ((List.range n.toNatClampNeg).map (fun i => H.size + 1 + i)).map (fun a => (a, .inl (cy, z)))) := by
    have hD1 := hD.push (e := .inl (cA, n.toNatClampNeg, .inr (.inr (.inr (.inr (fun i => if i < n.toNatClampNeg then some (H.size + 1 + i) else none)))))) hP rfl (hA _ hS.1)
    generalize hW1 : (X ++ va_pl L f) ++ [(H.size, .inl (cA, n.toNatClampNeg, .inr (.inr (.inr (.inr (fun i => if i < n.toNatClampNeg then some (H.size + 1 + i) else none))))))] = W1 at hD1 hP1 ⊢
    have hle : ∀ (k9 : Nat) (x : Nat × va_E), W1[k9]? = some x → x.1 ≤ H.size := fun k9 x hx => by
      rw [← hW1] at hx
      by_cases hl : k9 < (X ++ va_pl L f).length
      · rw [List.getElem?_append_left hl] at hx
        exact Nat.le_of_lt ((hP k9 x hx).lt)
      · rw [List.getElem?_append_right (by omega)] at hx
        have h0 : k9 - (X ++ va_pl L f).length < 1 := (List.getElem?_eq_some_iff.mp hx).1
        rw [show k9 - (X ++ va_pl L f).length = 0 by omega] at hx
        cases hx
        exact Nat.le_refl _
    have hr : ∀ (k9 : Nat) (x : Nat × va_E), (((List.range n.toNatClampNeg).map (fun i => H.size + 1 + i)).map (fun a => ((a, .inl (cy, z)) : Nat × va_E)))[k9]? = some x → x.1 = H.size + 1 + k9 := fun k9 x hx => by
      rw [List.getElem?_map, List.getElem?_map] at hx
      by_cases h9 : k9 < n.toNatClampNeg
      · rw [List.getElem?_range h9] at hx
        cases hx
        rfl
      · have hn0 : (List.range n.toNatClampNeg)[k9]? = none := List.getElem?_eq_none (by rw [List.length_range]; omega)
        rw [hn0] at hx
        cases hx
    refine ⟨fun i j x y hi hj hxy => ?_, fun k9 x hx => ?_⟩
    · by_cases h1 : i < W1.length <;> by_cases h2 : j < W1.length
      · rw [List.getElem?_append_left h1] at hi
        rw [List.getElem?_append_left h2] at hj
        exact hD1.1 i j x y hi hj hxy
      · rw [List.getElem?_append_left h1] at hi
        rw [List.getElem?_append_right (by omega)] at hj
        have := hle _ _ hi
        have := hr _ _ hj
        omega
      · rw [List.getElem?_append_right (by omega)] at hi
        rw [List.getElem?_append_left h2] at hj
        have := hle _ _ hj
        have := hr _ _ hi
        omega
      · rw [List.getElem?_append_right (by omega)] at hi hj
        have := hr _ _ hi
        have := hr _ _ hj
        omega
    · by_cases h1 : k9 < W1.length
      · rw [List.getElem?_append_left h1] at hx
        exact hD1.2 k9 x hx
      · rw [List.getElem?_append_right (by omega)] at hx
        have := hr _ _ hx
        exact hA _ (by have := hS.1; omega)
  have hAr : ArrOfT s cA (.array ty) := fun N9 z9 => by
    obtain ⟨-, k9, hk9, cm9, hkk9⟩ := (hO 0 0 0).1
    exact ⟨(fun q hq => by cases hq), k9, hk9, cm9, hkk9⟩
  have hK2 : va_K D cl (tys ++ [(cA, .array ty)]) s := ⟨hK.1, fun k9 x hx => by
    by_cases hl : k9 < tys.length
    · rw [List.getElem?_append_left hl] at hx
      exact hK.2 k9 x hx
    · rw [List.getElem?_append_right (by omega)] at hx
      have h0 : k9 - tys.length < 1 := (List.getElem?_eq_some_iff.mp hx).1
      rw [show k9 - tys.length = 0 by omega] at hx
      cases hx
      exact ⟨hAr, fA⟩⟩
  obtain ⟨t, a1, b1⟩ := kk H.size (fun i => H.size + 1 + i) cA F.heap (fun i j _ _ h => by have h9 : H.size + 1 + i = H.size + 1 + j := h; omega) hnl hK2 (by rw [← vr_rows hnm]; exact vr_lay hP2) (by rw [← vr_rows hnm]; exact vr_layD hD2) ⟨by rw [f1]; have := hS.1; omega, fun x h1 h2 => (hold x (Nat.lt_of_lt_of_le h1 hS.1)).trans (hS.2.1 x h1 h2), hS.2.2⟩ F rfl X'
  refine ⟨t, step t ?_, b1⟩
  have e : T.heap.size = H.size := by rw [hT]
  rw [e]
  exact a1
end VGM
/-! ===== END ===== -/

/-! ===== BEGIN exceptions that leave a method, and their catching by the caller (launches without stack traces) ===== -/
section VXA
/-! The laws vx_back, vx_callV, vx_callS, vx_callSW, vx_throw0, vx_throwS follow proofs of the library, with one case more: JvmDerived/Free/Laws.lean (Back.of_free), Shelf42/LK1.lean (callV, callS), Shelf/KitTraced.lean (throwNew0V, throwNewS). -/
/-- where a method has thrown q: the class by its name, the cell, what was written, the world -/
def vx_T (XC : String → State → State → Prop) (st : State) (q : Addr) (t : State) (mc ms : Nat) (free : Addr → Prop) : Prop :=
  ∃ (E : String) (ce : Cell) (L : List Loc), XC E st t ∧ t.heap[q]? = some ce ∧ ce.vm = .none ∧ st.vm.findClass E = some ce.cls ∧ st.WarmedH t.vm ∧ st.sameButNew ({ t with vm := st.vm } : State) L mc ms ∧ ∀ z ∈ L, free z.base
def vx_Q (Qc : Array Value → State → Outcome → State → Prop) (XC : String → State → State → Prop) (mc ms : Nat) (free : Addr → Prop) : Array Value → State → Outcome → State → Prop := fun a st o t =>
  (Qc a st o t ∧ ∃ L, FrameEnd st o t L mc ms ∧ ∀ q ∈ L, free q.base) ∨ ∃ q, o = .threw q ∧ vx_T XC st q t mc ms free
/-- a callee that returns or throws -/
def vx_Met (l : Launch) (y : MethodName) (ws : List Cond) (rm : Room) (Pc : Array Value → State → Prop) (Qc : Array Value → State → Outcome → State → Prop) (XC : String → State → State → Prop) (mc ms : Nat) (free : Addr → Prop) : Prop :=
  MetFree l y (headSpec ws rm) Pc (fun _ _ _ _ _ => True) (vx_Q Qc XC mc ms free)
def vx_Post (XC : String → State → State → Prop) (mc ms : Nat) (free : Addr → Prop) : Pt → Array Value → Addr → Pt → Prop := fun A a q B =>
  ∃ (g : JFrame) (mk : MethodId) (t : State) (L : List Loc) (E : String) (ce : Cell), B.U.heap = t.heap ∧ B.U.vm = t.vm ∧ XC E (A.U.calling g mk a) t ∧ t.heap[q]? = some ce ∧ ce.vm = .none ∧ A.U.vm.findClass E = some ce.cls ∧ B.locs = A.locs ++ L ∧ (∀ z ∈ L, free z.base) ∧ B.cells = A.cells + mc ∧ B.slots = A.slots + ms
def vx_Back (l : Launch) (R : Room) (p : Program) (e : Env) (below : List Frame) (s : State) (sargs : Array Value) (y : MethodName) (len W9 : Nat)
    (Pre : Pt → Array Value → Prop) (Post : Pt → Array Value → Option Value → Pt → Prop) (PostX : Pt → Array Value → Addr → Pt → Prop) : Prop :=
  ∀ (m : MethodId) (meth : Method) (c : Code) (A : Pt) (g : JFrame) (ig : Instr) (mk : MethodId) (a : Array Value),
    Stand p l e R s m sargs below meth c A.U A.locs A.cells A.slots → g.method = m → g.locals.size = c.maxLocals → decode c.code g.pc = .ok (ig, len) →
    2 * g.monitorRoom + (g.stack.map fun v => v.category).sum ≤ W9 → A.U.methodNamed? y = some mk → Pre A a →
    (∃ (v : Option Value) (B : Pt), Stand p l e R s m sargs below meth c B.U B.locs B.cells B.slots ∧ Post A a v B ∧
      Steps p.tables e below (doInvoke e (A.U.setTop g) [] mk a).1 (B.U.setTop { g with pc := g.pc + len, stack := v.toList ++ g.stack })) ∨
    (∃ (q : Addr) (B : Pt), Stand p l e R s m sargs below meth c B.U B.locs B.cells B.slots ∧ PostX A a q B ∧
      Steps p.tables e below (doInvoke e (A.U.setTop g) [] mk a).1 ((B.U.setTop g).pushFrame (.throwing q)))
section Payer
variable {l : Launch} {R : Room} {p : Program} {e : Env} {below : List Frame} {s : State} {sargs : Array Value} {y : MethodName} {len W9 : Nat}
theorem vx_back {ws : List Cond} {rm : Room} {Pc : Array Value → State → Prop} {Qc : Array Value → State → Outcome → State → Prop} {XC : String → State → State → Prop} {mc ms : Nat} {free : Addr → Prop} {bytes : ByteArray} {maxL : Nat} {ret : Option FieldType}
    (hM : vx_Met l y ws rm Pc Qc XC mc ms free) (hblind : FrameBlind Pc) (hrc : rm.cells = mc) (hrs : rm.slots = ms)
    (hframes : rm.frames + 1 ≤ R.frames) (hlocals : W9 + (maxL + 11) + rm.locals ≤ R.locals)
    (hws : ∀ w ∈ ws, ∀ a' U, s.WarmedH U.vm → w.before a' U = true) (hcode : Cond.code y bytes maxL ret ∈ ws) (hinit : ∀ a' U, s.WarmedH U.vm → (Cond.initialized y.cls).before a' U = true) :
    vx_Back l R p e below s sargs y len W9 (PreOf R mc ms Pc) (PostOf Qc mc ms free) (vx_Post XC mc ms free) := by
  intro m meth c A g ig mk a X hg hsize hdg hW hn hp
  have h1 : (headSpec ws rm).pre.before a A.U = true := atoms_intro fun w hw => hws w hw _ _ X.warmed
  have h2 : (Cond.code y bytes maxL ret).before a A.U = true := hws _ hcode _ _ X.warmed
  have h3 : (Cond.initialized y.cls).before a A.U = true := hinit _ _ X.warmed
  have h4 : A.cells + (headSpec ws rm).room.cells ≤ R.cells := by rw [show (headSpec ws rm).room.cells = mc from hrc]; exact hp.1
  have h5 : A.slots + (headSpec ws rm).room.slots ≤ R.slots := by rw [show (headSpec ws rm).room.slots = ms from hrs]; exact hp.2.1
  have hPc : Pc a (A.U.calling g mk a) := hblind _ _ _ _ hp.2.2
  obtain ⟨U, Ls, c0, s0⟩ := A
  dsimp only [Pt.U, Pt.locs, Pt.cells, Pt.slots] at h1 h2 h3 h4 h5 X hn hPc ⊢
  obtain ⟨methY, cY, hmY, hcY, -, hlY, -, -, -, -⟩ := Cond.code_spec hn h2
  obtain ⟨kY, hkY, -⟩ := className_of_methodNamed hn
  have hinitY : kY.init = .initialized := Cond.initialized_spec (findClass_of_methodNamed hn) hkY h3
  have h : At U g.method c below := by rw [hg]; exact X.here
  have hlocals9 : W9 + (maxL + 11) + (headSpec ws rm).room.locals ≤ R.locals := hlocals
  have happ : (headSpec ws rm).appliesLoose y e.platform (U.calling g mk a) = true :=
    Spec.appliesLoose_calling (g := g) h hdg hn hkY hinitY
      (X.room_calling (g := g) (R' := (headSpec ws rm).room) hsize hmY hcY hframes (by rw [hlY]; omega) h4 h5) h1
  obtain ⟨mid, hmid⟩ := h.above
  have hfr : (U.setTop g).frames = (.java g :: mid) ++ below := by rw [State.frames_setTop' g h.top, hmid]; rfl
  obtain ⟨o, s₂, hsteps, -, hend, hq⟩ := Steps.callFree hM p X.admits X.cas X.clock (acts := []) hfr happ hPc trivial
  have hq' : vx_Q Qc XC mc ms free a (U.calling g mk a) o s₂ := hq
  rw [State.frames_setTop' g h.top] at hend
  obtain ⟨g₀, hg0⟩ := Option.isSome_iff_exists.mp h.top
  obtain ⟨r, hr⟩ := State.topJava?_eq_some.mp hg0
  have hr' : (({ U with heap := s₂.heap, slotsUsed := s₂.slotsUsed } : State).setVm s₂.vm).frames = .java g₀ :: r := hr
  rcases hq' with ⟨hqc, L, hfe, hL⟩ | ⟨q, rfl, E, ce, L, hx, hce, hcv, hcl, hW₂, hsm, hL⟩
  · obtain ⟨⟨v, rfl⟩, hW₂, e2, q2, q3, q4, q5, q6⟩ := id hfe
    have e3 : s₂ = ({ (U.calling g mk a).setFrames s₂.frames with heap := s₂.heap, slotsUsed := s₂.slotsUsed } : State).setVm s₂.vm := by
      have : s₂ = ({ s₂ with vm := (U.calling g mk a).vm } : State).setVm s₂.vm := rfl
      rw [e2] at this
      exact this
    obtain ⟨c₂, i₂, len₂, hc₂, hd₂, hf₂⟩ := hend
    have hW' : U.WarmedH s₂.vm := hW₂
    have hcc : c₂ = c := by
      have h1 : s₂.code? g.method = U.code? g.method := by
        rw [State.code?_eq, State.code?_eq, hW'.alike.method?]
      exact Option.some.inj (hc₂.symm.trans (h1.trans h.code))
    subst hcc
    have hlen : len₂ = len := by rw [hdg] at hd₂; cases hd₂; rfl
    subst hlen
    have hs₂ : s₂ = (({ U with heap := s₂.heap, slotsUsed := s₂.slotsUsed } : State).setVm s₂.vm).setTop { g with pc := g.pc + len₂, stack := v.toList ++ g.stack } := by
      refine e3.trans ?_
      rw [hf₂, State.calling_eq h.top, State.setFrames_setFrames, State.setTop_of_frames _ hr', hr]
      rfl
    have hsame : U.sameButNew ({ U with heap := s₂.heap, slotsUsed := s₂.slotsUsed } : State) L mc ms := by
      refine ⟨?_, q2, q3, q4, q5, q6⟩
      obtain ⟨t, ht, -⟩ := State.frames_cons hr
      show ({ U with heap := s₂.heap, slotsUsed := s₂.slotsUsed } : State) = { U.setFrames U.frames with heap := s₂.heap, slotsUsed := s₂.slotsUsed }
      rw [State.setFrames_self ht]
    subst hg
    refine Or.inl ⟨v, ⟨(({ U with heap := s₂.heap, slotsUsed := s₂.slotsUsed } : State).setVm s₂.vm), Ls ++ L, c0 + mc, s0 + ms⟩,
      ⟨X.admits, X.cas, X.clock, X.frames, X.room, X.hears, X.method, X.code, (X.here.setHeapUsed s₂.heap s₂.slotsUsed).setVm hW'.alike, X.tail, State.WarmedH.trans X.warmed hW', X.limits, X.bytes, X.same.trans (hsame.setVm s.vm)⟩,
      ⟨g, mk, s₂, L, rfl, rfl, hqc, rfl, hL, rfl, rfl⟩, ?_⟩
    show Steps p.tables e below _ ((({ U with heap := s₂.heap, slotsUsed := s₂.slotsUsed } : State).setVm s₂.vm).setTop { g with pc := g.pc + len₂, stack := v.toList ++ g.stack })
    rw [← hs₂]
    exact hsteps
  · obtain ⟨e2, q2, q3, q4, q5, q6⟩ := id hsm
    have e3 : s₂ = ({ (U.calling g mk a).setFrames s₂.frames with heap := s₂.heap, slotsUsed := s₂.slotsUsed } : State).setVm s₂.vm := by
      have : s₂ = ({ s₂ with vm := (U.calling g mk a).vm } : State).setVm s₂.vm := rfl
      rw [e2] at this
      exact this
    have hf₂ : s₂.frames = .throwing q :: .java g :: U.frames.tail := hend
    have hW' : U.WarmedH s₂.vm := hW₂
    have hs₂ : s₂ = ((({ U with heap := s₂.heap, slotsUsed := s₂.slotsUsed } : State).setVm s₂.vm).setTop g).pushFrame (.throwing q) := by
      refine e3.trans ?_
      rw [hf₂, State.calling_eq h.top, State.setFrames_setFrames, State.pushFrame, State.frames_setTop _ hr', State.setTop_of_frames _ hr', State.setFrames_setFrames, hr]
      rfl
    have hsame : U.sameButNew ({ U with heap := s₂.heap, slotsUsed := s₂.slotsUsed } : State) L mc ms := by
      refine ⟨?_, q2, q3, q4, q5, q6⟩
      obtain ⟨t, ht, -⟩ := State.frames_cons hr
      show ({ U with heap := s₂.heap, slotsUsed := s₂.slotsUsed } : State) = { U.setFrames U.frames with heap := s₂.heap, slotsUsed := s₂.slotsUsed }
      rw [State.setFrames_self ht]
    subst hg
    refine Or.inr ⟨q, ⟨(({ U with heap := s₂.heap, slotsUsed := s₂.slotsUsed } : State).setVm s₂.vm), Ls ++ L, c0 + mc, s0 + ms⟩,
      ⟨X.admits, X.cas, X.clock, X.frames, X.room, X.hears, X.method, X.code, (X.here.setHeapUsed s₂.heap s₂.slotsUsed).setVm hW'.alike, X.tail, State.WarmedH.trans X.warmed hW', X.limits, X.bytes, X.same.trans (hsame.setVm s.vm)⟩,
      ⟨g, mk, s₂, L, E, ce, rfl, rfl, hx, hce, hcv, hcl, rfl, hL, rfl, rfl⟩, ?_⟩
    show Steps p.tables e below _ (((({ U with heap := s₂.heap, slotsUsed := s₂.slotsUsed } : State).setVm s₂.vm).setTop g).pushFrame (.throwing q))
    rw [← hs₂]
    exact hsteps
end Payer
section Calls
variable {p : Program} {l : Launch} {e : Env} {R : Room} {s : State} {m : MethodId} {args : Array Value} {below : List Frame} {meth : Method} {c : Code} {T : State} {locs : List Loc} {cells slots : Nat}
theorem vx_callV (X : Stand p l e R s m args below meth c T locs cells slots) (hexec : p.tables.exec = Jvm.exec) {own C : String} {index : Nat} {y : MethodName} {bytes : ByteArray} {maxL : Nat} {ret : Option FieldType}
    (hown : s.vm.findClass own = some m.cls) (hlink : (Cond.methodLink own index y).before args s = true) (hinst : (Cond.instanceMethod y).before args s = true) (hsel : (Cond.selects C y y).before args s = true)
    (hcode : (Cond.code y bytes maxL ret).before args s = true) (hy : y.cls ≠ "java/lang/invoke/MethodHandle" ∧ y.cls ≠ "java/lang/invoke/VarHandle")
    {W9 : Nat} {Pre : Pt → Array Value → Prop} {Post : Pt → Array Value → Option Value → Pt → Prop} {PostX : Pt → Array Value → Addr → Pt → Prop} (hK : vx_Back l R p e below s args y 3 W9 Pre Post PostX)
    {b : Addr} {cellB : Cell} (hcell : T.heap[b]? = some cellB) (hobj : cellB.vm.isStatics = false) (hcls : s.vm.findClass C = some cellB.cls)
    {g : JFrame} (hg : g.method = m) (hsize : g.locals.size = c.maxLocals) {argsL rest : List Value} (hlen : ∀ sig, parseMethodDescriptor y.desc = some sig → argsL.length = sig.parameters.length)
    (hstack : g.stack = argsL.reverse ++ .ref b :: rest) (hW : 2 * g.monitorRoom + (rest.map fun v => v.category).sum ≤ W9) (hdg : decode c.code g.pc = .ok (.invokevirtual index, 3))
    (hpre : ∀ vm₁, s.WarmedH vm₁ → Pre ⟨T.setVm vm₁, locs, cells, slots⟩ (Value.ref b :: argsL).toArray) :
    (∃ (v : Option Value) (vm₁ : Vm) (B : Pt), s.WarmedH vm₁ ∧ Stand p l e R s m args below meth c B.U B.locs B.cells B.slots ∧ Post ⟨T.setVm vm₁, locs, cells, slots⟩ (Value.ref b :: argsL).toArray v B ∧
      ∀ target, Steps p.tables e below (B.U.setTop { g with pc := g.pc + 3, stack := v.toList ++ rest }) target → Steps p.tables e below (T.setTop g) target) ∨
    (∃ (q : Addr) (vm₁ : Vm) (B : Pt), s.WarmedH vm₁ ∧ Stand p l e R s m args below meth c B.U B.locs B.cells B.slots ∧ PostX ⟨T.setVm vm₁, locs, cells, slots⟩ (Value.ref b :: argsL).toArray q B ∧
      Steps p.tables e below (T.setTop g) ((B.U.setTop { g with stack := rest }).pushFrame (.throwing q))) := by
  obtain ⟨mk, methM, hnamed, hmethM, hstM, habM⟩ := Cond.instanceMethod_spec hinst
  obtain ⟨methM', cM, hmethM', -, -, -, -, -, -, hsigM⟩ := Cond.code_spec hnamed hcode
  cases hmethM.symm.trans hmethM'
  obtain ⟨c2, r2, m2, q1, q2, q3, q4, kP, hkP, hkPi⟩ := Cond.selects_spec hsel
  cases hcls.symm.trans q1
  cases (State.methodFound?_of_named hnamed hy).symm.trans q2
  cases hnamed.symm.trans q3
  have hselP : selectMethod e.platform s.vm cellB.cls mk = .method mk := by rw [Launch.admits_selectMethod X.admits]; exact q4
  obtain ⟨vm₁, X₁, hstep₁⟩ := X.invokevirtual hexec hown hlink hnamed hmethM hstM hkP hkPi hy (a := b) (cell := cellB) hcell
    (fun z h => by rw [h] at hobj; cases hobj) hselP hmethM habM hkP hkPi (g := g) hg (argsL := argsL) (rest := rest) (hlen _ hsigM) hstack hdg
  rcases hK m meth c ⟨T.setVm vm₁, locs, cells, slots⟩ { g with stack := rest } (.invokevirtual index) mk (Value.ref b :: argsL).toArray X₁ hg hsize hdg hW (X₁.named hnamed) (hpre vm₁ X₁.warmed) with ⟨v, B, X', hpost, hsteps⟩ | ⟨q, B, X', hpost, hsteps⟩
  · exact Or.inl ⟨v, vm₁, B, X₁.warmed, X', hpost, fun target h => hstep₁ _ fun acts => by rw [doInvoke_state]; exact hsteps.trans h⟩
  · exact Or.inr ⟨q, vm₁, B, X₁.warmed, X', hpost, hstep₁ _ fun acts => by rw [doInvoke_state]; exact hsteps⟩
theorem vx_callS (X : Stand p l e R s m args below meth c T locs cells slots) (hexec : p.tables.exec = Jvm.exec) {own : String} {index : Nat} {y : MethodName} {bytes : ByteArray} {maxL : Nat} {ret : Option FieldType}
    (hown : s.vm.findClass own = some m.cls) (hlink : (Cond.methodLink own index y).before args s = true) (hstat : (Cond.static y).before args s = true) (hinit : (Cond.initialized y.cls).before args s = true)
    (hcode : (Cond.code y bytes maxL ret).before args s = true) (hy : y.cls ≠ "java/lang/invoke/MethodHandle" ∧ y.cls ≠ "java/lang/invoke/VarHandle")
    {W9 : Nat} {Pre : Pt → Array Value → Prop} {Post : Pt → Array Value → Option Value → Pt → Prop} {PostX : Pt → Array Value → Addr → Pt → Prop} (hK : vx_Back l R p e below s args y 3 W9 Pre Post PostX)
    {g : JFrame} (hg : g.method = m) (hsize : g.locals.size = c.maxLocals) {argsL rest : List Value} (hlen : ∀ sig, parseMethodDescriptor y.desc = some sig → argsL.length = sig.parameters.length)
    (hstack : g.stack = argsL.reverse ++ rest) (hW : 2 * g.monitorRoom + (rest.map fun v => v.category).sum ≤ W9) (hdg : decode c.code g.pc = .ok (.invokestatic index, 3))
    (hpre : ∀ vm₁, s.WarmedH vm₁ → Pre ⟨T.setVm vm₁, locs, cells, slots⟩ argsL.toArray) :
    (∃ (v : Option Value) (vm₁ : Vm) (B : Pt), s.WarmedH vm₁ ∧ Stand p l e R s m args below meth c B.U B.locs B.cells B.slots ∧ Post ⟨T.setVm vm₁, locs, cells, slots⟩ argsL.toArray v B ∧
      ∀ target, Steps p.tables e below (B.U.setTop { g with pc := g.pc + 3, stack := v.toList ++ rest }) target → Steps p.tables e below (T.setTop g) target) ∨
    (∃ (q : Addr) (vm₁ : Vm) (B : Pt), s.WarmedH vm₁ ∧ Stand p l e R s m args below meth c B.U B.locs B.cells B.slots ∧ PostX ⟨T.setVm vm₁, locs, cells, slots⟩ argsL.toArray q B ∧
      Steps p.tables e below (T.setTop g) ((B.U.setTop { g with stack := rest }).pushFrame (.throwing q))) := by
  obtain ⟨mk, hnamed⟩ := Cond.code_named hcode
  obtain ⟨methM, cM, hmethM, -, -, -, -, -, -, hsigM⟩ := Cond.code_spec hnamed hcode
  have hstatic : methM.isStatic = true := Cond.static_spec hnamed hmethM hstat
  obtain ⟨kP, hkP, -⟩ := className_of_methodNamed hnamed
  have hinitP : kP.init = .initialized := Cond.initialized_spec (findClass_of_methodNamed hnamed) hkP hinit
  obtain ⟨vm₁, X₁, hstep₁⟩ := X.invokestatic hexec hown hlink hnamed hmethM hstatic hkP hinitP hy (g := g) hg (argsL := argsL) (rest := rest) (hlen _ hsigM) hstack hdg
  rcases hK m meth c ⟨T.setVm vm₁, locs, cells, slots⟩ { g with stack := rest } (.invokestatic index) mk argsL.toArray X₁ hg hsize hdg hW (X₁.named hnamed) (hpre vm₁ X₁.warmed) with ⟨v, B, X', hpost, hsteps⟩ | ⟨q, B, X', hpost, hsteps⟩
  · exact Or.inl ⟨v, vm₁, B, X₁.warmed, X', hpost, fun target h => hstep₁ _ fun acts => by rw [doInvoke_state]; exact hsteps.trans h⟩
  · exact Or.inr ⟨q, vm₁, B, X₁.warmed, X', hpost, hstep₁ _ fun acts => by rw [doInvoke_state]; exact hsteps⟩
end Calls
theorem vx_cls {s : State} {T : State} {vm₁ : Vm} {E : String} {k : ClassId} (hW : s.WarmedH vm₁) (h : (T.setVm vm₁).vm.findClass E = some k) : s.vm.findClass E = some k := by
  have h1 : vm₁.findClass E = some k := h
  rw [hW.alike.findClass] at h1
  exact h1
/-- the method's frame g, with q thrown over it -/
def vx_W (p : Program) (l : Launch) (e : Env) (R : Room) (s : State) (m : MethodId) (args : Array Value) (below : List Frame) (meth : Method) (c : Code) (H : Heap) (locs : List Loc) (cells slots : Nat) (Q : State → Prop) (g : JFrame) (q : Addr) : Prop :=
  ∀ T : State, T.heap = H → Stand p l e R s m args below meth c T locs cells slots → ∃ t, Steps p.tables e below ((T.setTop g).pushFrame (.throwing q)) t ∧ Q t
def vx_Run (p : Program) (l : Launch) (e : Env) (R : Room) (s : State) (m : MethodId) (args : Array Value) (below : List Frame) (meth : Method) (c : Code) (H : Heap) (locs : List Loc) (cells slots mc ms : Nat) (g : JFrame) (rest : List Value) (Qa : State → Outcome → State → Prop) (XC : String → State → State → Prop) (free : Addr → Prop) : Prop :=
  ∀ T : State, T.heap = H → Stand p l e R s m args below meth c T locs cells slots →
    (∃ (v : Option Value) (st₀ t T' : State) (L : List Loc), st₀.heap = H ∧ Stand p l e R s m args below meth c T' (locs ++ L) (cells + mc) (slots + ms) ∧ (∀ q ∈ L, free q.base) ∧ T'.heap = t.heap ∧ T'.vm = t.vm ∧ Qa st₀ (.returned v) t ∧
      Goes p e below T g T' { g with pc := g.pc + 3, stack := v.toList ++ rest }) ∨
    (∃ (q : Addr) (st₀ t T' : State) (L : List Loc) (E : String) (ce : Cell), st₀.heap = H ∧ Stand p l e R s m args below meth c T' (locs ++ L) (cells + mc) (slots + ms) ∧ (∀ z ∈ L, free z.base) ∧ T'.heap = t.heap ∧ T'.vm = t.vm ∧ XC E st₀ t ∧ t.heap[q]? = some ce ∧ ce.vm = .none ∧ s.vm.findClass E = some ce.cls ∧
      Steps p.tables e below (T.setTop g) ((T'.setTop { g with stack := rest }).pushFrame (.throwing q)))
def vx_X {S : Type} (px : S → Prop) (B : String → S → State → Prop) (A : Nat → Prop) : String → State → State → Prop := fun E st t => ∃ u : S, px u ∧ B E u t ∧ va_F A st t
section Runs
variable {p : Program} {l : Launch} {e : Env} {R : Room} {s : State} {m : MethodId} {args : Array Value} {below : List Frame} {meth : Method} {c : Code} {H : Heap} {locs : List Loc} {cells slots : Nat}
variable {y : MethodName} {bytes cc : ByteArray} {maxL nL mc ms n index : Nat} {ret : Option FieldType} {ws : List Cond} {rm : Room} {Pc : Array Value → State → Prop} {Qc : Array Value → State → Outcome → State → Prop} {XC : String → State → State → Prop} {free : Addr → Prop} {Ts : List Cond} {own C : String} {b : Addr} {As rest : List Value} {g : JFrame}
theorem vx_callBack (cb : CallB R s args own index y bytes maxL ret ws rm mc ms n) (hM : vx_Met l y ws rm Pc Qc XC mc ms free) (hbl : FrameBlind Pc) : vx_Back l R p e below s args y 3 8 (PreOf R mc ms Pc) (PostOf Qc mc ms free) (vx_Post XC mc ms free) := by
  obtain ⟨hrc, hrs, hfr, hlo, hws, hcw, -, hini, -⟩ := cb
  exact vx_back (bytes := bytes) (maxL := maxL) (ret := ret) hM hbl hrc hrs hfr hlo hws hcw (fun a' U hW => word_at hW (Or.inl (by first | rfl | simp [Cond.onTables, Cond.keeps, Cond.steady])) hini)
theorem vx_runV (S : CallFix p m c cc nL s args Ts own) (hM : vx_Met l y ws rm Pc Qc XC mc ms free) (cw : CallW R s args own C index y bytes maxL ret ws rm mc ms n) (hp : PreV s H C b Pc As)
    (hg : g.method = m) (hn : As.length = n) (hsize : g.locals.size = nL) (hstack : g.stack = As.reverse ++ .ref b :: rest) (hW : 2 * g.monitorRoom + (rest.map fun v => v.category).sum ≤ 8) (hdg : decode cc g.pc = .ok (.invokevirtual index, 3)) (hf : cells + mc ≤ R.cells ∧ slots + ms ≤ R.slots) :
    vx_Run p l e R s m args below meth c H locs cells slots mc ms g rest (Qc (Value.ref b :: As).toArray) XC free := by
  have hK : vx_Back l R p e below s args y 3 8 (PreOf R mc ms Pc) (PostOf Qc mc ms free) (vx_Post XC mc ms free) := vx_callBack cw.1 hM hp.1
  obtain ⟨⟨-, -, -, -, -, -, hcode, -, hy, hlen, hl⟩, hin, hse⟩ := cw
  obtain ⟨hx, hb, hml, ho, -⟩ := S
  obtain ⟨-, ⟨cellB, hcB, hoB, hclB⟩, hPc⟩ := hp
  intro T hT X
  rcases vx_callV X hx (C := C) (bytes := bytes) (maxL := maxL) (ret := ret) ho hl hin hse hcode hy hK (by rw [hT]; exact hcB) hoB hclB hg (hsize.trans hml.symm) (argsL := As) (rest := rest) (fun sig h => hn.trans (hlen sig h)) hstack hW (by rw [hb]; exact hdg)
    (fun vm₁ hW₁ => ⟨hf.1, hf.2, hPc (T.setVm vm₁) hT hW₁⟩) with ⟨v, vm₁, ⟨U', l2, c2, s2⟩, hW₁, X', ⟨g', mk, t, L, e1, e2, hq, h1, hL, h2, h3⟩, st⟩ | ⟨q, vm₁, ⟨U', l2, c2, s2⟩, hW₁, X', ⟨g', mk, t, L, E, ce, e1, e2, hq, hce, hcv, hcl, h1, hL, h2, h3⟩, st⟩
  · dsimp only [Pt.U, Pt.locs, Pt.cells, Pt.slots] at X' e1 e2 h1 h2 h3 st
    subst h1; subst h2; subst h3
    exact Or.inl ⟨v, (T.setVm vm₁).calling g' mk (Value.ref b :: As).toArray, t, U', L, hT, X', hL, e1, e2, hq, st⟩
  · dsimp only [Pt.U, Pt.locs, Pt.cells, Pt.slots] at X' e1 e2 h1 h2 h3 st hcl
    subst h1; subst h2; subst h3
    exact Or.inr ⟨q, (T.setVm vm₁).calling g' mk (Value.ref b :: As).toArray, t, U', L, E, ce, hT, X', hL, e1, e2, hq, hce, hcv, vx_cls hW₁ hcl, st⟩
theorem vx_runS (S : CallFix p m c cc nL s args Ts own) (hM : vx_Met l y ws rm Pc Qc XC mc ms free) (cw : CallB R s args own index y bytes maxL ret ws rm mc ms n ∧ (Cond.static y).before args s = true) (hp : PreS s H Pc As)
    (hg : g.method = m) (hn : As.length = n) (hsize : g.locals.size = nL) (hstack : g.stack = As.reverse ++ rest) (hW : 2 * g.monitorRoom + (rest.map fun v => v.category).sum ≤ 8) (hdg : decode cc g.pc = .ok (.invokestatic index, 3)) (hf : cells + mc ≤ R.cells ∧ slots + ms ≤ R.slots) :
    vx_Run p l e R s m args below meth c H locs cells slots mc ms g rest (Qc As.toArray) XC free := by
  have hK : vx_Back l R p e below s args y 3 8 (PreOf R mc ms Pc) (PostOf Qc mc ms free) (vx_Post XC mc ms free) := vx_callBack cw.1 hM hp.1
  obtain ⟨⟨-, -, -, -, -, -, hcode, hini, hy, hlen, hl⟩, hstt⟩ := cw
  obtain ⟨hx, hb, hml, ho, -⟩ := S
  intro T hT X
  rcases vx_callS X hx (bytes := bytes) (maxL := maxL) (ret := ret) ho hl hstt hini hcode hy hK hg (hsize.trans hml.symm) (argsL := As) (rest := rest) (fun sig h => hn.trans (hlen sig h)) hstack hW (by rw [hb]; exact hdg)
    (fun vm₁ hW₁ => ⟨hf.1, hf.2, hp.2 (T.setVm vm₁) hT hW₁⟩) with ⟨v, vm₁, ⟨U', l2, c2, s2⟩, hW₁, X', ⟨g', mk, t, L, e1, e2, hq, h1, hL, h2, h3⟩, st⟩ | ⟨q, vm₁, ⟨U', l2, c2, s2⟩, hW₁, X', ⟨g', mk, t, L, E, ce, e1, e2, hq, hce, hcv, hcl, h1, hL, h2, h3⟩, st⟩
  · dsimp only [Pt.U, Pt.locs, Pt.cells, Pt.slots] at X' e1 e2 h1 h2 h3 st
    subst h1; subst h2; subst h3
    exact Or.inl ⟨v, (T.setVm vm₁).calling g' mk As.toArray, t, U', L, hT, X', hL, e1, e2, hq, st⟩
  · dsimp only [Pt.U, Pt.locs, Pt.cells, Pt.slots] at X' e1 e2 h1 h2 h3 st hcl
    subst h1; subst h2; subst h3
    exact Or.inr ⟨q, (T.setVm vm₁).calling g' mk As.toArray, t, U', L, E, ce, hT, X', hL, e1, e2, hq, hce, hcv, vx_cls hW₁ hcl, st⟩
end Runs
section Rows
variable {p : Program} {l : Launch} {e : Env} {R : Room} {s : State} {m : MethodId} {args : Array Value} {below : List Frame} {meth : Method} {c : Code} {H : Heap} {locs : List Loc} {cells slots : Nat} {Q : State → Prop}
variable {mc ms : Nat} {free : Addr → Prop} {A0 A1 : Nat → Prop} {H0 : Heap} {a : Array Value} {pc : Nat} {ls : Array Slot} {st0 rest : List Value}
theorem vx_keep {st₀ t T' : State} {L : List Loc} (h0 : st₀.heap = H) (e1 : T'.heap = t.heap) (hS : va_S A0 H0 H locs) (hA : ∀ q, q < H.size → A1 q → A0 q) (hf : ∀ q, free q → A0 q) (hL : ∀ q ∈ L, free q.base) (hF : va_F A1 st₀ t) :
    H.size ≤ T'.heap.size ∧ (∀ q : Nat, q < H.size → ¬ A1 q → T'.heap[q]? = H[q]?) ∧ va_S A0 H0 T'.heap (locs ++ L) := by
  obtain ⟨hz, hk⟩ := hF
  rw [h0] at hz hk
  exact ⟨by rw [e1]; exact hz, fun q h1 h2 => by rw [e1]; exact hk q h1 h2,
    ⟨Nat.le_trans hS.1 (by rw [e1]; exact hz), fun q h1 h2 => by rw [e1, hk q (Nat.lt_of_lt_of_le h1 hS.1) (fun z => h2 (hA q (Nat.lt_of_lt_of_le h1 hS.1) z))]; exact hS.2.1 q h1 h2, fun q hq => by
      rcases List.mem_append.mp hq with h | h
      · exact hS.2.2 q h
      · exact hf _ (hL q h)⟩⟩
theorem vx_calli {S SX : Type} {post : Int32 → S → Prop} {px : SX → Prop} {B : S → State → Prop} {BX : String → SX → State → Prop} {AX : Nat → Prop} (hr : vx_Run p l e R s m args below meth c H locs cells slots mc ms (F0 m pc ls st0) rest (va_Qi post B A1 a) (vx_X px BX AX) free) (hS : va_S A0 H0 H locs) (hA : ∀ q, q < H.size → A1 q → A0 q) (hf : ∀ q, free q → A0 q) (hAX : ∀ q, q < H.size → AX q → A0 q)
    (kx : ∀ (E : String) (ce : Cell) (q9 : Addr) (u : SX) (t : State) (H1 : Heap) (locs1 : List Loc), t.heap = H1 → s.vm.Alike t.vm → px u → BX E u t → H.size ≤ H1.size → (∀ q : Nat, q < H.size → ¬ AX q → H1[q]? = H[q]?) → va_S A0 H0 H1 locs1 → H1[q9]? = some ce → ce.vm = .none → s.vm.findClass E = some ce.cls → vx_W p l e R s m args below meth c H1 locs1 (cells + mc) (slots + ms) Q (F0 m pc ls rest) q9)
    (kk : ∀ (r : Int32) (u : S) (t : State) (H1 : Heap) (locs1 : List Loc), t.heap = H1 → s.vm.Alike t.vm → post r u → B u t → H.size ≤ H1.size → (∀ q : Nat, q < H.size → ¬ A1 q → H1[q]? = H[q]?) → va_S A0 H0 H1 locs1 → W p l e R s m args below meth c H1 locs1 (cells + mc) (slots + ms) Q (F0 m (pc + 3) ls (.int r :: rest))) : W p l e R s m args below meth c H locs cells slots Q (F0 m pc ls st0) := by
  intro T hT X
  rcases hr T hT X with ⟨v, st₀, t, T', L, h0, X', hL, e1, e2, ⟨⟨r, u, hv, hp, hb⟩, hF⟩, st⟩ | ⟨q, st₀, t, T', L, E, ce, h0, X', hL, e1, e2, ⟨u, hp, hb, hF⟩, hce, hcv, hcl, st⟩
  · cases hv
    obtain ⟨k1, k2, k3⟩ := vx_keep h0 e1 hS hA hf hL hF
    obtain ⟨t2, a1, b1⟩ := kk r u t T'.heap (locs ++ L) e1.symm (by rw [← e2]; exact X'.warmed.alike) hp hb k1 k2 k3 T' rfl X'
    exact ⟨t2, st t2 a1, b1⟩
  · obtain ⟨k1, k2, k3⟩ := vx_keep h0 e1 hS hAX hf hL hF
    obtain ⟨t2, a1, b1⟩ := kx E ce q u t T'.heap (locs ++ L) e1.symm (by rw [← e2]; exact X'.warmed.alike) hp hb k1 k2 k3 (by rw [e1]; exact hce) hcv hcl T' rfl X'
    exact ⟨t2, st.trans a1, b1⟩
theorem vx_calll {S SX : Type} {post : Int64 → S → Prop} {px : SX → Prop} {B : S → State → Prop} {BX : String → SX → State → Prop} {AX : Nat → Prop} (hr : vx_Run p l e R s m args below meth c H locs cells slots mc ms (F0 m pc ls st0) rest (va_Ql post B A1 a) (vx_X px BX AX) free) (hS : va_S A0 H0 H locs) (hA : ∀ q, q < H.size → A1 q → A0 q) (hf : ∀ q, free q → A0 q) (hAX : ∀ q, q < H.size → AX q → A0 q)
    (kx : ∀ (E : String) (ce : Cell) (q9 : Addr) (u : SX) (t : State) (H1 : Heap) (locs1 : List Loc), t.heap = H1 → s.vm.Alike t.vm → px u → BX E u t → H.size ≤ H1.size → (∀ q : Nat, q < H.size → ¬ AX q → H1[q]? = H[q]?) → va_S A0 H0 H1 locs1 → H1[q9]? = some ce → ce.vm = .none → s.vm.findClass E = some ce.cls → vx_W p l e R s m args below meth c H1 locs1 (cells + mc) (slots + ms) Q (F0 m pc ls rest) q9)
    (kk : ∀ (r : Int64) (u : S) (t : State) (H1 : Heap) (locs1 : List Loc), t.heap = H1 → s.vm.Alike t.vm → post r u → B u t → H.size ≤ H1.size → (∀ q : Nat, q < H.size → ¬ A1 q → H1[q]? = H[q]?) → va_S A0 H0 H1 locs1 → W p l e R s m args below meth c H1 locs1 (cells + mc) (slots + ms) Q (F0 m (pc + 3) ls (.long r :: rest))) : W p l e R s m args below meth c H locs cells slots Q (F0 m pc ls st0) := by
  intro T hT X
  rcases hr T hT X with ⟨v, st₀, t, T', L, h0, X', hL, e1, e2, ⟨⟨r, u, hv, hp, hb⟩, hF⟩, st⟩ | ⟨q, st₀, t, T', L, E, ce, h0, X', hL, e1, e2, ⟨u, hp, hb, hF⟩, hce, hcv, hcl, st⟩
  · cases hv
    obtain ⟨k1, k2, k3⟩ := vx_keep h0 e1 hS hA hf hL hF
    obtain ⟨t2, a1, b1⟩ := kk r u t T'.heap (locs ++ L) e1.symm (by rw [← e2]; exact X'.warmed.alike) hp hb k1 k2 k3 T' rfl X'
    exact ⟨t2, st t2 a1, b1⟩
  · obtain ⟨k1, k2, k3⟩ := vx_keep h0 e1 hS hAX hf hL hF
    obtain ⟨t2, a1, b1⟩ := kx E ce q u t T'.heap (locs ++ L) e1.symm (by rw [← e2]; exact X'.warmed.alike) hp hb k1 k2 k3 (by rw [e1]; exact hce) hcv hcl T' rfl X'
    exact ⟨t2, st.trans a1, b1⟩
theorem vx_callf {S SX : Type} {post : UInt32 → S → Prop} {px : SX → Prop} {B : S → State → Prop} {BX : String → SX → State → Prop} {AX : Nat → Prop} (hr : vx_Run p l e R s m args below meth c H locs cells slots mc ms (F0 m pc ls st0) rest (va_Qf post B A1 a) (vx_X px BX AX) free) (hS : va_S A0 H0 H locs) (hA : ∀ q, q < H.size → A1 q → A0 q) (hf : ∀ q, free q → A0 q) (hAX : ∀ q, q < H.size → AX q → A0 q)
    (kx : ∀ (E : String) (ce : Cell) (q9 : Addr) (u : SX) (t : State) (H1 : Heap) (locs1 : List Loc), t.heap = H1 → s.vm.Alike t.vm → px u → BX E u t → H.size ≤ H1.size → (∀ q : Nat, q < H.size → ¬ AX q → H1[q]? = H[q]?) → va_S A0 H0 H1 locs1 → H1[q9]? = some ce → ce.vm = .none → s.vm.findClass E = some ce.cls → vx_W p l e R s m args below meth c H1 locs1 (cells + mc) (slots + ms) Q (F0 m pc ls rest) q9)
    (kk : ∀ (r : UInt32) (u : S) (t : State) (H1 : Heap) (locs1 : List Loc), t.heap = H1 → s.vm.Alike t.vm → post r u → B u t → H.size ≤ H1.size → (∀ q : Nat, q < H.size → ¬ A1 q → H1[q]? = H[q]?) → va_S A0 H0 H1 locs1 → W p l e R s m args below meth c H1 locs1 (cells + mc) (slots + ms) Q (F0 m (pc + 3) ls (.float r :: rest))) : W p l e R s m args below meth c H locs cells slots Q (F0 m pc ls st0) := by
  intro T hT X
  rcases hr T hT X with ⟨v, st₀, t, T', L, h0, X', hL, e1, e2, ⟨⟨r, u, hv, hp, hb⟩, hF⟩, st⟩ | ⟨q, st₀, t, T', L, E, ce, h0, X', hL, e1, e2, ⟨u, hp, hb, hF⟩, hce, hcv, hcl, st⟩
  · cases hv
    obtain ⟨k1, k2, k3⟩ := vx_keep h0 e1 hS hA hf hL hF
    obtain ⟨t2, a1, b1⟩ := kk r u t T'.heap (locs ++ L) e1.symm (by rw [← e2]; exact X'.warmed.alike) hp hb k1 k2 k3 T' rfl X'
    exact ⟨t2, st t2 a1, b1⟩
  · obtain ⟨k1, k2, k3⟩ := vx_keep h0 e1 hS hAX hf hL hF
    obtain ⟨t2, a1, b1⟩ := kx E ce q u t T'.heap (locs ++ L) e1.symm (by rw [← e2]; exact X'.warmed.alike) hp hb k1 k2 k3 (by rw [e1]; exact hce) hcv hcl T' rfl X'
    exact ⟨t2, st.trans a1, b1⟩
theorem vx_calld {S SX : Type} {post : UInt64 → S → Prop} {px : SX → Prop} {B : S → State → Prop} {BX : String → SX → State → Prop} {AX : Nat → Prop} (hr : vx_Run p l e R s m args below meth c H locs cells slots mc ms (F0 m pc ls st0) rest (va_Qd post B A1 a) (vx_X px BX AX) free) (hS : va_S A0 H0 H locs) (hA : ∀ q, q < H.size → A1 q → A0 q) (hf : ∀ q, free q → A0 q) (hAX : ∀ q, q < H.size → AX q → A0 q)
    (kx : ∀ (E : String) (ce : Cell) (q9 : Addr) (u : SX) (t : State) (H1 : Heap) (locs1 : List Loc), t.heap = H1 → s.vm.Alike t.vm → px u → BX E u t → H.size ≤ H1.size → (∀ q : Nat, q < H.size → ¬ AX q → H1[q]? = H[q]?) → va_S A0 H0 H1 locs1 → H1[q9]? = some ce → ce.vm = .none → s.vm.findClass E = some ce.cls → vx_W p l e R s m args below meth c H1 locs1 (cells + mc) (slots + ms) Q (F0 m pc ls rest) q9)
    (kk : ∀ (r : UInt64) (u : S) (t : State) (H1 : Heap) (locs1 : List Loc), t.heap = H1 → s.vm.Alike t.vm → post r u → B u t → H.size ≤ H1.size → (∀ q : Nat, q < H.size → ¬ A1 q → H1[q]? = H[q]?) → va_S A0 H0 H1 locs1 → W p l e R s m args below meth c H1 locs1 (cells + mc) (slots + ms) Q (F0 m (pc + 3) ls (.double r :: rest))) : W p l e R s m args below meth c H locs cells slots Q (F0 m pc ls st0) := by
  intro T hT X
  rcases hr T hT X with ⟨v, st₀, t, T', L, h0, X', hL, e1, e2, ⟨⟨r, u, hv, hp, hb⟩, hF⟩, st⟩ | ⟨q, st₀, t, T', L, E, ce, h0, X', hL, e1, e2, ⟨u, hp, hb, hF⟩, hce, hcv, hcl, st⟩
  · cases hv
    obtain ⟨k1, k2, k3⟩ := vx_keep h0 e1 hS hA hf hL hF
    obtain ⟨t2, a1, b1⟩ := kk r u t T'.heap (locs ++ L) e1.symm (by rw [← e2]; exact X'.warmed.alike) hp hb k1 k2 k3 T' rfl X'
    exact ⟨t2, st t2 a1, b1⟩
  · obtain ⟨k1, k2, k3⟩ := vx_keep h0 e1 hS hAX hf hL hF
    obtain ⟨t2, a1, b1⟩ := kx E ce q u t T'.heap (locs ++ L) e1.symm (by rw [← e2]; exact X'.warmed.alike) hp hb k1 k2 k3 (by rw [e1]; exact hce) hcv hcl T' rfl X'
    exact ⟨t2, st.trans a1, b1⟩
theorem vx_callv {S SX : Type} {post : S → Prop} {px : SX → Prop} {B : S → State → Prop} {BX : String → SX → State → Prop} {AX : Nat → Prop} (hr : vx_Run p l e R s m args below meth c H locs cells slots mc ms (F0 m pc ls st0) rest (va_Qv post B A1 a) (vx_X px BX AX) free) (hS : va_S A0 H0 H locs) (hA : ∀ q, q < H.size → A1 q → A0 q) (hf : ∀ q, free q → A0 q) (hAX : ∀ q, q < H.size → AX q → A0 q)
    (kx : ∀ (E : String) (ce : Cell) (q9 : Addr) (u : SX) (t : State) (H1 : Heap) (locs1 : List Loc), t.heap = H1 → s.vm.Alike t.vm → px u → BX E u t → H.size ≤ H1.size → (∀ q : Nat, q < H.size → ¬ AX q → H1[q]? = H[q]?) → va_S A0 H0 H1 locs1 → H1[q9]? = some ce → ce.vm = .none → s.vm.findClass E = some ce.cls → vx_W p l e R s m args below meth c H1 locs1 (cells + mc) (slots + ms) Q (F0 m pc ls rest) q9)
    (kk : ∀ (u : S) (t : State) (H1 : Heap) (locs1 : List Loc), t.heap = H1 → s.vm.Alike t.vm → post u → B u t → H.size ≤ H1.size → (∀ q : Nat, q < H.size → ¬ A1 q → H1[q]? = H[q]?) → va_S A0 H0 H1 locs1 → W p l e R s m args below meth c H1 locs1 (cells + mc) (slots + ms) Q (F0 m (pc + 3) ls (rest))) : W p l e R s m args below meth c H locs cells slots Q (F0 m pc ls st0) := by
  intro T hT X
  rcases hr T hT X with ⟨v, st₀, t, T', L, h0, X', hL, e1, e2, ⟨⟨u, hv, hp, hb⟩, hF⟩, st⟩ | ⟨q, st₀, t, T', L, E, ce, h0, X', hL, e1, e2, ⟨u, hp, hb, hF⟩, hce, hcv, hcl, st⟩
  · cases hv
    obtain ⟨k1, k2, k3⟩ := vx_keep h0 e1 hS hA hf hL hF
    obtain ⟨t2, a1, b1⟩ := kk u t T'.heap (locs ++ L) e1.symm (by rw [← e2]; exact X'.warmed.alike) hp hb k1 k2 k3 T' rfl X'
    exact ⟨t2, st t2 a1, b1⟩
  · obtain ⟨k1, k2, k3⟩ := vx_keep h0 e1 hS hAX hf hL hF
    obtain ⟨t2, a1, b1⟩ := kx E ce q u t T'.heap (locs ++ L) e1.symm (by rw [← e2]; exact X'.warmed.alike) hp hb k1 k2 k3 (by rw [e1]; exact hce) hcv hcl T' rfl X'
    exact ⟨t2, st.trans a1, b1⟩
/-- caught by the row x of this method's table; the rows ahead don't take it -/
theorem vx_catch {own name : String} {E : String} {ce : Cell} {q : Addr} (hown : s.vm.findClass own = some m.cls) (pre : List ExceptionTableEntry) (x : ExceptionTableEntry) (suf : List ExceptionTableEntry) (hsplit : c.exceptionTable.toList = pre ++ x :: suf)
    (hpass : ∀ z ∈ pre, covers z pc = false ∨ (z.catchType ≠ 0 ∧ ∃ nm : String, (Cond.classLink own z.catchType nm).before args s = true ∧ va_Nc E nm s)) (hx : covers x pc = true) (h0 : x.catchType ≠ 0)
    (hlink : (Cond.classLink own x.catchType name).before args s = true) (hcast : (Cond.castable E name).before args s = true) (hcell : H[q]? = some ce) (hv : ce.vm = .none) (hcl : s.vm.findClass E = some ce.cls)
    (kk : W p l e R s m args below meth c H locs cells slots Q (F0 m x.handlerPc ls [.ref q])) : vx_W p l e R s m args below meth c H locs cells slots Q (F0 m pc ls rest) q := by
  intro T hT X
  have hpl : e.platform.magicAccessors = ({} : Platform).magicAccessors := by rw [X.admits.platform]
  obtain ⟨c3, c4, hc3, hc4, hasg⟩ := Cond.castable_spec hcast
  cases Option.some.inj (hc3.symm.trans hcl)
  obtain ⟨c5, hc5, hcl5⟩ := Cond.classLink_spec hown hlink e.platform hpl
  cases Option.some.inj (hc4.symm.trans hc5)
  obtain ⟨vm', X', st⟩ := X.thenCaughtThrough q (g := F0 m pc ls rest) rfl (Steps.refl _) (by rw [hT]; exact hcell) (by rw [hv]; rfl) (by obtain ⟨k9, h9, -⟩ := Vm.findClass_spec hcl; exact ⟨k9, h9⟩) pre x suf hsplit
    (fun z hz => by
      rcases hpass z hz with h | ⟨hz0, nm, hl1, hn1⟩
      · exact Or.inl h
      · obtain ⟨c6, hc6, hcl6⟩ := Cond.classLink_spec hown hl1 e.platform hpl
        obtain ⟨a8, b8, h1, h2, h3⟩ := hn1
        cases Option.some.inj (h1.symm.trans hcl)
        cases Option.some.inj (h2.symm.trans hc6)
        exact Or.inr ⟨hz0, _, hcl6, h3⟩) hx (Or.inr ⟨h0, c4, hcl5, hasg⟩)
  obtain ⟨t, a1, b1⟩ := kk (T.setVm vm') hT X'
  exact ⟨t, st.trans a1, b1⟩
end Rows
section Ends
variable {p : Program} {l : Launch} {e : Env} {R : Room} {s : State} {m : MethodId} {args : Array Value} {below : List Frame} {meth : Method} {c : Code} {H : Heap} {locs : List Loc} {cells slots : Nat} {Q : State → Prop}
variable {mc ms : Nat} {free : Addr → Prop} {A0 A1 : Nat → Prop} {H0 : Heap} {a : Array Value} {ls : Array Slot} {st0 rest : List Value}
variable {Qc : Array Value → State → Outcome → State → Prop} {XC : String → State → State → Prop}
/-- what a body that may throw owes at its end -/
def vx_MQ (below : List Frame) (Qc : Array Value → State → Outcome → State → Prop) (XC : String → State → State → Prop) (a : Array Value) (s : State) (mc ms : Nat) (free : Addr → Prop) : State → Prop := fun t =>
  ∃ o, t.status = .running ∧ Ended t below o ∧ vx_Q Qc XC mc ms free a s o t
theorem vx_ret {g : JFrame} {mc ms : Nat} (k : W p l e R s m args below meth c H locs cells slots (MQ below Qc args s mc ms free) g) : W p l e R s m args below meth c H locs cells slots (vx_MQ below Qc XC args s mc ms free) g := by
  intro T hT X
  obtain ⟨t, a1, o, b1, b2, b3, b4⟩ := k T hT X
  exact ⟨t, a1, o, b1, b2, Or.inl ⟨b3, b4⟩⟩
/-- not caught here: it goes on to the caller -/
theorem vx_widen {g : JFrame} {q : Addr} {k n : Nat} (h1 : cells ≤ k) (h2 : slots ≤ n) (kk : vx_W p l e R s m args below meth c H locs k n Q g q) : vx_W p l e R s m args below meth c H locs cells slots Q g q := fun T hT X => kk T hT (stand_widen X h1 h2)
theorem vx_out {pc : Nat} {E : String} {ce : Cell} {q : Addr} {mc ms : Nat} (hout : ∀ x ∈ c.exceptionTable.toList, covers x pc = false) (hlocks : meth.locks = false) (hcell : H[q]? = some ce) (hv : ce.vm = .none) (hcl : s.vm.findClass E = some ce.cls)
    (hx : ∀ t : State, t.heap = H → s.vm.Alike t.vm → XC E s t) (hf : ∀ z ∈ locs, free z.base) (hc : cells ≤ mc) (hs : slots ≤ ms) :
    vx_W p l e R s m args below meth c H locs cells slots (vx_MQ below Qc XC args s mc ms free) (F0 m pc ls rest) q := by
  intro T hT X
  obtain ⟨st1, hrun, hend, hW, hsm⟩ := X.leaveThrown q (g := F0 m pc ls rest) rfl rfl rfl hout hlocks
  have hcell9 : (T.setFrames (.throwing q :: below)).heap[q]? = some ce := by
    show T.heap[q]? = some ce
    rw [hT]; exact hcell
  exact ⟨_, st1, .threw q, hrun, hend, Or.inr ⟨q, rfl, E, ce, locs, hx _ hT hW.alike, hcell9, hv, hcl, hW, hsm.mono hc hs, hf⟩⟩
theorem vx_frame {U : State} {k n : Nat} (h : s.sameButNew ({ U with vm := s.vm } : State) locs k n) : s.heap.size ≤ U.heap.size ∧ ∀ q : Nat, q < s.heap.size → (∀ z ∈ locs, z.base ≠ q) → U.heap[q]? = s.heap[q]? := by
  obtain ⟨-, h2, -, -, -, h6⟩ := h
  refine ⟨h2, fun q hq hz => ?_⟩
  obtain ⟨c9, e1, e2, e3, e4⟩ := h6 q _ (Array.getElem?_eq_getElem hq)
  have hs : c9.slots = (s.heap[q]).slots := Array.ext_getElem? fun i => e4 i fun hm => hz _ hm rfl
  have h9 : c9 = s.heap[q] := by
    rw [hs] at e2
    exact e2
  have e5 : U.heap[q]? = some c9 := e1
  rw [e5, h9, Array.getElem?_eq_getElem hq]
/-- the words of a throw but the four that speak of the heap -/
def vx_no (w : Cond) : Bool := decide (w ≠ .isRef (.static Bundle.tN "UNASSIGNED_STACK" Bundle.steD)) && decide (w ≠ .isRef (.static Bundle.tN "SUPPRESSED_SENTINEL" Bundle.listD)) && decide (w ≠ .laysStatic Bundle.tN "UNASSIGNED_STACK" Bundle.steD) && decide (w ≠ .laysStatic Bundle.tN "SUPPRESSED_SENTINEL" Bundle.listD)
def vx_at0 (own : String) (ic : Nat) (X : String) (names : List String) : List Cond := (Bundle.ownAtoms0 own ic X names).filter vx_no
def vx_atS (own : String) (ic : Nat) (X : String) (names : List String) : List Cond := (Bundle.ownAtoms own ic X names).filter vx_no
/-- a word that the tables alone decide, or a good one -/
def vx_ot (w : Cond) : Bool := w.onTables || goodWord w
theorem vx_ot_at {args a' : Array Value} {s U : State} {w : Cond} (hW : s.WarmedH U.vm) (hvm : s.vm = U.vm) (hg : vx_ot w = true) (h : w.before args s = true) : w.before a' U = true := by
  simp only [vx_ot, Bool.or_eq_true] at hg
  rcases hg with hg | hg
  · exact va_tabs hg hvm h
  · exact word_at hW (good_of_word hg) h
/-- a list's words: the good ones out of the method's own list, the others by premises of their own -/
theorem vx_hat {args : Array Value} {s : State} {L B : List Cond} (h1 : ∀ w ∈ L.filter goodWord, w.before args s = true) (h2 : ∀ w ∈ L.filter (fun w => !goodWord w), w ∈ B) (h3 : ∀ w ∈ B, w.before args s = true) : ∀ w ∈ L, w.before args s = true := by
  intro w hw
  by_cases g : goodWord w = true
  · exact h1 w (List.mem_filter.mpr ⟨hw, g⟩)
  · refine h3 w (h2 w (List.mem_filter.mpr ⟨hw, ?_⟩))
    show (!goodWord w) = true
    cases hgw : goodWord w
    · rfl
    · exact absurd hgw g
theorem vx_c {args : Array Value} {s : State} {w : Cond} {B : List Cond} (h : w.before args s = true) (t : ∀ w ∈ B, w.before args s = true) : ∀ w' ∈ w :: B, w'.before args s = true := fun w' h' => (List.mem_cons.mp h').elim (fun e => by rw [e]; exact h) (t w')
theorem vx_n {args : Array Value} {s : State} : ∀ w ∈ ([] : List Cond), w.before args s = true := fun _ h => nomatch h
theorem vx_own {args : Array Value} {s : State} {L : List Cond} (h1 : ∀ w ∈ L.filter vx_no, w.before args s = true)
    (hU : (Cond.isRef (.static Bundle.tN "UNASSIGNED_STACK" Bundle.steD)).before args s = true) (hN : (Cond.isRef (.static Bundle.tN "SUPPRESSED_SENTINEL" Bundle.listD)).before args s = true)
    (lU : (Cond.laysStatic Bundle.tN "UNASSIGNED_STACK" Bundle.steD).before args s = true) (lN : (Cond.laysStatic Bundle.tN "SUPPRESSED_SENTINEL" Bundle.listD).before args s = true) : ∀ w ∈ L, w.before args s = true := by
  intro w hw
  by_cases e1 : w = .isRef (.static Bundle.tN "UNASSIGNED_STACK" Bundle.steD)
  · rw [e1]; exact hU
  · by_cases e2 : w = .isRef (.static Bundle.tN "SUPPRESSED_SENTINEL" Bundle.listD)
    · rw [e2]; exact hN
    · by_cases e3 : w = .laysStatic Bundle.tN "UNASSIGNED_STACK" Bundle.steD
      · rw [e3]; exact lU
      · by_cases e4 : w = .laysStatic Bundle.tN "SUPPRESSED_SENTINEL" Bundle.listD
        · rw [e4]; exact lN
        · exact h1 w (List.mem_filter.mpr ⟨hw, by unfold vx_no; rw [decide_eq_true e1, decide_eq_true e2, decide_eq_true e3, decide_eq_true e4]; rfl⟩)
/-- where a static field lies, its class's statics cell in H -/
def vx_L (C n d : String) (A : Nat → Prop) (U : State) (H : Heap) : Prop := ∃ (c : ClassId) (k : Class) (i : Nat) (f : Field) (a : Nat) (cell : Cell), U.vm.findClass C = some c ∧ U.fieldFound? C n d = some (c, k, i, f) ∧ f.isStatic = true ∧ k.statics = some a ∧ H[a]? = some cell ∧ cell.vm.isStatics = true ∧ cell.cls = c ∧ f.slot < cell.slots.size ∧ k.staticTypes[f.slot]? = some f.type ∧ ¬ A a
theorem vx_L.moved {C n d : String} {A : Nat → Prop} {u U : State} {H : Heap} (hvm : u.vm.Alike U.vm) (h : vx_L C n d A u H) : vx_L C n d A U H := by
  obtain ⟨c, k, i, f, a, cell, h1, h2, h3, h4, h5, h6, h7, h8, h9, h10⟩ := h
  obtain ⟨k', hi', he⟩ := State.fieldFound?_setVm hvm h2
  exact ⟨c, k', i, f, a, cell, by rw [hvm.findClass]; exact h1, hi', h3, by rw [he]; exact h4, h5, h6, h7, h8, by rw [he]; exact h9, h10⟩
theorem vx_L.kept {C n d : String} {A : Nat → Prop} {U : State} {H H1 : Heap} (h : vx_L C n d A U H) (hq : ∀ a : Nat, a < H.size → ¬ A a → H1[a]? = H[a]?) : vx_L C n d A U H1 := by
  obtain ⟨c, k, i, f, a, cell, h1, h2, h3, h4, h5, h6, h7, h8, h9, h10⟩ := h
  exact ⟨c, k, i, f, a, cell, h1, h2, h3, h4, by rw [hq a (Array.getElem?_eq_some_iff.mp h5).1 h10]; exact h5, h6, h7, h8, h9, h10⟩
theorem vx_L.narrow {C n d : String} {A B : Nat → Prop} {U : State} {H : Heap} (h : vx_L C n d A U H) (hAB : ∀ q, B q → A q) : vx_L C n d B U H := by
  obtain ⟨c, k, i, f, a, cell, h1, h2, h3, h4, h5, h6, h7, h8, h9, h10⟩ := h
  exact ⟨c, k, i, f, a, cell, h1, h2, h3, h4, h5, h6, h7, h8, h9, fun z => h10 (hAB _ z)⟩
theorem vx_L.word {C n d : String} {A : Nat → Prop} {s : State} {args : Array Value} (h : vx_L C n d A s s.heap) : (Cond.laysStatic C n d).before args s = true := by
  obtain ⟨c, k, i, f, a, cell, h1, h2, h3, h4, h5, h6, h7, h8, h9, -⟩ := h
  show (Cond.laysStatic C n d).holds args s none s [] = true
  exact Cond.laysStatic_of h1 h2 h3 h4 h5 h6 h7 h8 h9
/-- .. and what it holds: null or some reference -/
def vx_Zq (C n d : String) (A : Nat → Prop) (U : State) (H : Heap) : Prop := va_Zq C n d A U H ∧ vx_L C n d A U H
theorem vx_Zq.moved {C n d : String} {A : Nat → Prop} {u U : State} {H : Heap} (hvm : u.vm.Alike U.vm) (h : vx_Zq C n d A u H) : vx_Zq C n d A U H := ⟨va_Zq.moved hvm h.1, vx_L.moved hvm h.2⟩
theorem vx_Zq.kept {C n d : String} {A : Nat → Prop} {U : State} {H H1 : Heap} (h : vx_Zq C n d A U H) (hq : ∀ a : Nat, a < H.size → ¬ A a → H1[a]? = H[a]?) : vx_Zq C n d A U H1 := ⟨va_Zq.kept h.1 hq, vx_L.kept h.2 hq⟩
theorem vx_Zq.narrow {C n d : String} {A B : Nat → Prop} {U : State} {H : Heap} (h : vx_Zq C n d A U H) (hAB : ∀ q, B q → A q) : vx_Zq C n d B U H := ⟨va_Zq.narrow h.1 hAB, vx_L.narrow h.2 hAB⟩
theorem vx_Zqof {args : Array Value} {s : State} {C n d : String} {A : Nat → Prop} (hl : (Cond.laysStatic C n d).before args s = true) (hini : (Cond.initialized C).before args s = true) (h : (Cond.isRef (.static C n d)).before args s = true) (hA : ∀ a : Nat, a < s.heap.size → ¬ A a) : vx_Zq C n d A s s.heap := by
  refine ⟨va_Zqof hl hini h hA, ?_⟩
  obtain ⟨c, k, i, f, a, cell, h1, h2, h3, h4, h5, h6, h7, h8, h9⟩ := Cond.laysStatic_spec hl
  exact ⟨c, k, i, f, a, cell, h1, h2, h3, h4, h5, h6, h7, h8, h9, hA a (Array.getElem?_eq_some_iff.mp h5).1⟩
theorem vx_isRef {C n d : String} {v : Value} {A : Nat → Prop} {s : State} {args : Array Value} (h : va_Z C n d v A s s.heap) (hv : v.isRef = true) : (Cond.isRef (.static C n d)).before args s = true := by
  obtain ⟨cf, kf, fi, f, a, cell, h1, h2, h3, h4, h5, h6, h7, -⟩ := h
  have he : (Term.static C n d).eval args s none [] s = some v := by
    simp [Term.eval, State.fieldNamed?, h1, h2, h4, h5, h6, h7]
  simp only [Cond.before, Cond.holds, Cond.value, he]
  cases v <;> simp_all [Value.isRef]
theorem vx_isRefq {C n d : String} {A : Nat → Prop} {s : State} {args : Array Value} (h : va_Zq C n d A s s.heap) : (Cond.isRef (.static C n d)).before args s = true := by
  rcases h with h | ⟨t, h⟩
  · exact vx_isRef h rfl
  · exact vx_isRef h rfl
/-- the same frame, seen from here: as if the method were called anew in this heap -/
theorem vx_rebase {T : State} (X : Stand p l e R s m args below meth c T locs cells slots) {R' : Room} (hf : R'.frames ≤ R.frames) (hl : R'.locals ≤ R.locals) (hc : cells + R'.cells ≤ R.cells) (hs : slots + R'.slots ≤ R.slots) :
    Stand p l e R' ((T.setVm s.vm).setFrames (.invoking m args :: below)) m args below meth c T [] 0 0 := by
  have htop : (T.setVm s.vm).topJava?.isSome := X.here.top
  have hF : ((T.setVm s.vm).setFrames (.invoking m args :: below)).frames = .invoking m args :: below := State.frames_setFrames _ (State.cur_lt_of_top htop)
  obtain ⟨g₀, hg0⟩ := Option.isSome_iff_exists.mp htop
  obtain ⟨r, hr⟩ := State.topJava?_eq_some.mp hg0
  have hl9 : e.platform.stackLimits (T.setVm s.vm).me = e.platform.stackLimits s.me := X.limits
  have hb9 : (T.setVm s.vm).me.stackBytes = s.me.stackBytes := X.bytes
  refine ⟨X.admits, X.cas, X.clock, hF, ?_, X.hears, X.method, X.code, X.here, X.tail, X.warmed, ?_, ?_, ?_⟩
  · have h := X.room
    have hU : ((T.setVm s.vm).setFrames (.invoking m args :: below)).localsInUse = s.localsInUse := by
      rw [State.localsInUse_invoking hF (meth := meth) (c := c) X.method X.code, State.localsInUse_invoking X.frames X.method X.code]
    simp only [State.hasRoom, Bool.and_eq_true, decide_eq_true_eq] at h ⊢
    obtain ⟨⟨⟨⟨h1, h2, h3, h4, h5, h6⟩, h7⟩, h8⟩, h9⟩ := h
    rw [X.frames, List.length_cons] at h2 h3
    have q1 := X.heapSize
    have q2 := X.used
    simp only [hF, hU, List.length_cons, State.stackLimits_setFrames, State.stackBytes_setFrames, hl9, hb9]
    refine ⟨⟨⟨⟨by omega, by omega, by omega, by omega, by omega, h6⟩, ?_⟩, ?_⟩, X.book⟩
    · show T.heap.size + R'.cells ≤ e.platform.maxCells
      omega
    · show T.slotsUsed + R'.slots ≤ e.platform.maxSlots
      omega
  · rw [State.stackLimits_setFrames]; rfl
  · rw [State.stackBytes_setFrames]; rfl
  · refine ⟨?_, Nat.le_refl _, Nat.le_refl _, ?_, ?_, fun a c9 h9 => ⟨c9, h9, rfl, rfl, fun _ _ => rfl⟩⟩
    · obtain ⟨t, ht, -⟩ := State.frames_cons hr
      show T.setVm s.vm = { ((T.setVm s.vm).setFrames (.invoking m args :: below)).setFrames (T.setVm s.vm).frames with heap := T.heap, slotsUsed := T.slotsUsed }
      rw [State.setFrames_setFrames, State.setFrames_self ht]
      rfl
    · show T.slotsUsed = T.slotsUsed + ((T.heap.toList.drop T.heap.size).map (·.slots.size)).sum
      rw [List.drop_eq_nil_of_le (Nat.le_of_eq Array.length_toList)]
      rfl
    · show ((T.heap.toList.drop T.heap.size).map (·.slots.size)).sum ≤ 0
      rw [List.drop_eq_nil_of_le (Nat.le_of_eq Array.length_toList)]
      exact Nat.le_refl _
/-- 'throw new E()': new; dup; invokespecial; athrow -/
theorem vx_throw0 {cc : ByteArray} {pc : Nat} (hexec : p.tables.exec = Jvm.exec) (hb : c.code = cc) (hl : l.stackTraces = false) {own cls : String} {names : List String} {ik ic mc ms : Nat} {A : Nat → Prop}
    (hown : s.vm.findClass own = some m.cls) (hcls : Bundle.fit cls = true) (hnames : ∀ n ∈ names, Bundle.fit n = true)
    (hk : (Cond.classLink own ik cls).before args s = true) (hini : (Cond.initialized cls).before args s = true) (hat : ∀ w ∈ vx_at0 own ic cls names, w.before args s = true)
    (hgood : ∀ w ∈ Cond.classLink own ik cls :: Cond.initialized cls :: vx_at0 own ic cls names, vx_ot w = true)
    (hU : vx_Zq Bundle.tN "UNASSIGNED_STACK" Bundle.steD A s s.heap) (hN : vx_Zq Bundle.tN "SUPPRESSED_SENTINEL" Bundle.listD A s s.heap) (hS : va_S A s.heap H locs) (hsize : ls.size = c.maxLocals)
    (d0 : decode cc pc = .ok (.new ik, 3)) (d3 : decode cc (pc + 3) = .ok (.dup, 1)) (d4 : decode cc (pc + 4) = .ok (.invokespecial ic, 3)) (d7 : decode cc (pc + 7) = .ok (.athrow, 1))
    (hout : ∀ x ∈ c.exceptionTable.toList, covers x (pc + 7) = false)
    (hRframes : names.length + 3 < R.frames) (hRlocals : (rest.map fun v => v.category).sum + (13 * (names.length + 1) + 42) ≤ R.locals) (hRcells : cells + 1 ≤ R.cells) (hRslots : slots + 6 ≤ R.slots) (hlocks : meth.locks = false)
    (hx : ∀ t : State, s.vm.Alike t.vm → H.size ≤ t.heap.size → (∀ q : Nat, q < H.size → t.heap[q]? = H[q]?) → XC cls s t)
    (hf : ∀ z ∈ locs, free z.base) (hc : cells + 1 ≤ mc) (hs : slots + 6 ≤ ms) :
    W p l e R s m args below meth c H locs cells slots (vx_MQ below Qc XC args s mc ms free) (F0 m pc ls rest) := by
  intro T hT X
  have htr : e.platform.stackTraces = false := (show e.platform.stackTraces = l.stackTraces by rw [X.admits.platform]).trans hl
  have Y := vx_rebase X (R' := { frames := R.frames, locals := R.locals, cells := 1, slots := 6 }) (Nat.le_refl _) (Nat.le_refl _) hRcells hRslots
  obtain ⟨s', hA⟩ : ∃ z, z = (T.setVm s.vm).setFrames (.invoking m args :: below) := ⟨_, rfl⟩
  rw [← hA] at Y
  have hvm : s'.vm = s.vm := by rw [hA]; rfl
  have hhp : s'.heap = H := by rw [hA]; exact hT
  have hW0 : s.WarmedH s'.vm := by rw [hvm]; exact State.WarmedH.refl s
  have hat' : ∀ w ∈ vx_at0 own ic cls names, w.before args s' = true := fun w hw => vx_ot_at hW0 hvm.symm (hgood w (List.mem_cons_of_mem _ (List.mem_cons_of_mem _ hw))) (hat w hw)
  have hk' : (Cond.classLink own ik cls).before args s' = true := vx_ot_at hW0 hvm.symm (hgood _ List.mem_cons_self) hk
  have hini' : (Cond.initialized cls).before args s' = true := vx_ot_at hW0 hvm.symm (hgood _ (List.mem_cons_of_mem _ List.mem_cons_self)) hini
  have hU' : vx_Zq Bundle.tN "UNASSIGNED_STACK" Bundle.steD A s' s'.heap := by rw [hhp]; exact vx_Zq.moved hW0.alike (hU.kept hS.2.1)
  have hN' : vx_Zq Bundle.tN "SUPPRESSED_SENTINEL" Bundle.listD A s' s'.heap := by rw [hhp]; exact vx_Zq.moved hW0.alike (hN.kept hS.2.1)
  have h : ∀ w ∈ Bundle.ownAtoms0 own ic cls names, w.before args s' = true := vx_own hat' (vx_isRefq hU'.1) (vx_isRefq hN'.1) hU'.2.word hN'.2.word
  have hown' : s'.vm.findClass own = some m.cls := by rw [hvm]; exact hown
  have hins : (Cond.instantiable cls 6).before args s' = true := h _ (by simp [Bundle.ownAtoms0])
  obtain ⟨vm₁, cX, kX, hfX, hkX, -, -, X₁, st1⟩ := Y.newCold hexec (own := own) (C := cls) (index := ik) (n := 6) hown' hk' hins hini'
    (g := F0 m pc ls rest) rfl (by rw [hb]; exact d0) (Nat.le_refl _) (Nat.le_refl _)
  generalize hT1 : (T.setVm vm₁).pushCell { cls := cX, slots := kX.instanceTypes.map defaultValue, vm := .none } = T1 at X₁ st1
  have hcat : (Value.ref T.heap.size).category = 1 := rfl
  have hcellA : T1.heap[T.heap.size]? = some (freshCell cX kX) := by rw [← hT1]; exact State.heap_pushCell_size _ _
  have d3' : decode c.code (pc + 3) = .ok (.dup, 1) := by rw [hb]; exact d3
  obtain ⟨U, hsteps, hrun, hend, hW, hsame, ce, hce, hO⟩ := X₁.ctorThrow0 hexec htr (own := own) (cls := cls) (names := names) (ic := ic) hown' hcls hnames h (fun x hx => nomatch hx) hfX hkX hcellA (by rw [hhp, hT]; exact Nat.le_refl _)
    (g := { method := m, pc := pc + 4, locals := ls, stack := .ref T.heap.size :: .ref T.heap.size :: rest, locked := none }) rfl hsize rfl rfl (rest := rest) rfl
    (by rw [hb]; exact d4) (by rw [hb]; exact d7) hout hRframes (by simp only [List.map_cons, List.sum_cons, hcat]; omega) hlocks
  obtain ⟨f1, f2⟩ := vx_frame hsame
  rw [hhp] at f1 f2
  have hWs : s.WarmedH U.vm := State.WarmedH.trans hW0 hW
  have hcl : s.vm.findClass cls = some ce.cls := by
    have h9 := hO.cls
    rw [hvm] at h9
    exact h9
  have hall : s.sameButNew ({ U with vm := s.vm } : State) locs mc ms := by
    subst hA
    obtain ⟨e1, e2⟩ := hsame
    rw [State.setFrames_setFrames] at e1
    have h2 : (T.setVm s.vm).sameButNew ({ U with vm := s.vm } : State) [] (0 + 1) (0 + 6) := ⟨e1, e2⟩
    have h3 := X.same.trans h2
    rw [List.append_nil] at h3
    exact h3.mono hc hs
  refine ⟨U, ?_, .threw T.heap.size, hrun, hend, Or.inr ⟨T.heap.size, rfl, cls, ce, locs, hx U hWs.alike f1 (fun q hq => f2 q hq (fun z hz => nomatch hz)), hce, hO.vm, hcl, hWs, hall, hf⟩⟩
  refine st1 _ ?_
  show Steps p.tables e below (T1.setTop { method := m, pc := pc + 3, locals := ls, stack := .ref T.heap.size :: rest, locked := none }) _
  jvm_step X₁.here [X₁.here.top, hexec, d3', Value.category]
  exact hsteps
/-- 'throw new E("text")': new; dup; ldc; invokespecial; athrow -/
theorem vx_throwS {cc : ByteArray} {pc : Nat} (hexec : p.tables.exec = Jvm.exec) (hb : c.code = cc) (hl : l.stackTraces = false) {own cls text : String} {names : List String} {ik is ic mc ms sa : Nat} {A : Nat → Prop}
    (hown : s.vm.findClass own = some m.cls) (hcls : Bundle.fit cls = true) (hnames : ∀ n ∈ names, Bundle.fit n = true)
    (hk : (Cond.classLink own ik cls).before args s = true) (hini : (Cond.initialized cls).before args s = true) (hstr : vk_R own is text sa s) (hat : ∀ w ∈ vx_atS own ic cls names, w.before args s = true)
    (hgood : ∀ w ∈ Cond.classLink own ik cls :: Cond.initialized cls :: vx_atS own ic cls names, vx_ot w = true)
    (hU : vx_Zq Bundle.tN "UNASSIGNED_STACK" Bundle.steD A s s.heap) (hN : vx_Zq Bundle.tN "SUPPRESSED_SENTINEL" Bundle.listD A s s.heap) (hS : va_S A s.heap H locs) (hsize : ls.size = c.maxLocals)
    (d0 : decode cc pc = .ok (.new ik, 3)) (d3 : decode cc (pc + 3) = .ok (.dup, 1)) (d4 : decode cc (pc + 4) = .ok (.ldc is, 2)) (d6 : decode cc (pc + 6) = .ok (.invokespecial ic, 3)) (d9 : decode cc (pc + 9) = .ok (.athrow, 1))
    (hout : ∀ x ∈ c.exceptionTable.toList, covers x (pc + 9) = false)
    (hRframes : names.length + 3 < R.frames) (hRlocals : (rest.map fun v => v.category).sum + (13 * (names.length + 1) + 43) ≤ R.locals) (hRcells : cells + 1 ≤ R.cells) (hRslots : slots + 6 ≤ R.slots) (hlocks : meth.locks = false)
    (hx : ∀ t : State, s.vm.Alike t.vm → H.size ≤ t.heap.size → (∀ q : Nat, q < H.size → t.heap[q]? = H[q]?) → XC cls s t)
    (hf : ∀ z ∈ locs, free z.base) (hc : cells + 1 ≤ mc) (hs : slots + 6 ≤ ms) :
    W p l e R s m args below meth c H locs cells slots (vx_MQ below Qc XC args s mc ms free) (F0 m pc ls rest) := by
  intro T hT X
  have htr : e.platform.stackTraces = false := (show e.platform.stackTraces = l.stackTraces by rw [X.admits.platform]).trans hl
  have Y := vx_rebase X (R' := { frames := R.frames, locals := R.locals, cells := 1, slots := 6 }) (Nat.le_refl _) (Nat.le_refl _) hRcells hRslots
  obtain ⟨s', hA⟩ : ∃ z, z = (T.setVm s.vm).setFrames (.invoking m args :: below) := ⟨_, rfl⟩
  rw [← hA] at Y
  have hvm : s'.vm = s.vm := by rw [hA]; rfl
  have hhp : s'.heap = H := by rw [hA]; exact hT
  have hW0 : s.WarmedH s'.vm := by rw [hvm]; exact State.WarmedH.refl s
  have hat' : ∀ w ∈ vx_atS own ic cls names, w.before args s' = true := fun w hw => vx_ot_at hW0 hvm.symm (hgood w (List.mem_cons_of_mem _ (List.mem_cons_of_mem _ hw))) (hat w hw)
  have hk' : (Cond.classLink own ik cls).before args s' = true := vx_ot_at hW0 hvm.symm (hgood _ List.mem_cons_self) hk
  have hini' : (Cond.initialized cls).before args s' = true := vx_ot_at hW0 hvm.symm (hgood _ (List.mem_cons_of_mem _ List.mem_cons_self)) hini
  have hU' : vx_Zq Bundle.tN "UNASSIGNED_STACK" Bundle.steD A s' s'.heap := by rw [hhp]; exact vx_Zq.moved hW0.alike (hU.kept hS.2.1)
  have hN' : vx_Zq Bundle.tN "SUPPRESSED_SENTINEL" Bundle.listD A s' s'.heap := by rw [hhp]; exact vx_Zq.moved hW0.alike (hN.kept hS.2.1)
  have h : ∀ w ∈ Bundle.ownAtoms own ic cls names, w.before args s' = true := vx_own hat' (vx_isRefq hU'.1) (vx_isRefq hN'.1) hU'.2.word hN'.2.word
  have hown' : s'.vm.findClass own = some m.cls := by rw [hvm]; exact hown
  have hins : (Cond.instantiable cls 6).before args s' = true := h _ (by simp [Bundle.ownAtoms])
  obtain ⟨vm₁, cX, kX, hfX, hkX, -, -, X₁, st1⟩ := Y.newCold hexec (own := own) (C := cls) (index := ik) (n := 6) hown' hk' hins hini'
    (g := F0 m pc ls rest) rfl (by rw [hb]; exact d0) (Nat.le_refl _) (Nat.le_refl _)
  generalize hT1 : (T.setVm vm₁).pushCell { cls := cX, slots := kX.instanceTypes.map defaultValue, vm := .none } = T1 at X₁ st1
  have hcat : (Value.ref T.heap.size).category = 1 := rfl
  have hcellA : T1.heap[T.heap.size]? = some (freshCell cX kX) := by rw [← hT1]; exact State.heap_pushCell_size _ _
  have d3' : decode c.code (pc + 3) = .ok (.dup, 1) := by rw [hb]; exact d3
  have d4' : decode c.code (pc + 4) = .ok (.ldc is, 2) := by rw [hb]; exact d4
  have hstr' : vk_R own is text sa s' := vk_R.warm hW0 hstr
  obtain ⟨U, hsteps, hrun, hend, hW, hsame, ce, hce, hO⟩ := X₁.ctorThrowS hexec htr (own := own) (cls := cls) (names := names) (ic := ic) hown' hcls hnames h (fun x hx => nomatch hx) hfX hkX hcellA (by rw [hhp, hT]; exact Nat.le_refl _) (msg := .ref sa) rfl
    (g := { method := m, pc := pc + 6, locals := ls, stack := .ref sa :: .ref T.heap.size :: .ref T.heap.size :: rest, locked := none }) rfl hsize rfl rfl (rest := rest) rfl
    (by rw [hb]; exact d6) (by rw [hb]; exact d9) hout hRframes (by simp only [List.map_cons, List.sum_cons, hcat]; omega) hlocks
  obtain ⟨f1, f2⟩ := vx_frame hsame
  rw [hhp] at f1 f2
  have hWs : s.WarmedH U.vm := State.WarmedH.trans hW0 hW
  have hcl : s.vm.findClass cls = some ce.cls := by
    have h9 := hO.cls
    rw [hvm] at h9
    exact h9
  have hall : s.sameButNew ({ U with vm := s.vm } : State) locs mc ms := by
    subst hA
    obtain ⟨e1, e2⟩ := hsame
    rw [State.setFrames_setFrames] at e1
    have h2 : (T.setVm s.vm).sameButNew ({ U with vm := s.vm } : State) [] (0 + 1) (0 + 6) := ⟨e1, e2⟩
    have h3 := X.same.trans h2
    rw [List.append_nil] at h3
    exact h3.mono hc hs
  refine ⟨U, ?_, .threw T.heap.size, hrun, hend, Or.inr ⟨T.heap.size, rfl, cls, ce, locs, hx U hWs.alike f1 (fun q hq => f2 q hq (fun z hz => nomatch hz)), hce, hO.vm, hcl, hWs, hall, hf⟩⟩
  refine st1 _ ?_
  show Steps p.tables e below (T1.setTop { method := m, pc := pc + 3, locals := ls, stack := .ref T.heap.size :: rest, locked := none }) _
  jvm_step X₁.here [X₁.here.top, hexec, d3', Value.category]
  exact X₁.ldcString hexec (own := own) (text := text) (index := is) (a := sa) hown' hstr'.1 hstr'.2
    (g := { method := m, pc := pc + 4, locals := ls, stack := .ref T.heap.size :: .ref T.heap.size :: rest, locked := none }) rfl d4' _ hsteps
/-- 'throw new E("text")', the text by a wide index -/
theorem vx_throwSW {cc : ByteArray} {pc : Nat} (hexec : p.tables.exec = Jvm.exec) (hb : c.code = cc) (hl : l.stackTraces = false) {own cls text : String} {names : List String} {ik is ic mc ms sa : Nat} {A : Nat → Prop}
    (hown : s.vm.findClass own = some m.cls) (hcls : Bundle.fit cls = true) (hnames : ∀ n ∈ names, Bundle.fit n = true)
    (hk : (Cond.classLink own ik cls).before args s = true) (hini : (Cond.initialized cls).before args s = true) (hstr : vk_R own is text sa s) (hat : ∀ w ∈ vx_atS own ic cls names, w.before args s = true)
    (hgood : ∀ w ∈ Cond.classLink own ik cls :: Cond.initialized cls :: vx_atS own ic cls names, vx_ot w = true)
    (hU : vx_Zq Bundle.tN "UNASSIGNED_STACK" Bundle.steD A s s.heap) (hN : vx_Zq Bundle.tN "SUPPRESSED_SENTINEL" Bundle.listD A s s.heap) (hS : va_S A s.heap H locs) (hsize : ls.size = c.maxLocals)
    (d0 : decode cc pc = .ok (.new ik, 3)) (d3 : decode cc (pc + 3) = .ok (.dup, 1)) (d4 : decode cc (pc + 4) = .ok (.ldc_w is, 3)) (d7 : decode cc (pc + 7) = .ok (.invokespecial ic, 3)) (d10 : decode cc (pc + 10) = .ok (.athrow, 1))
    (hout : ∀ x ∈ c.exceptionTable.toList, covers x (pc + 10) = false)
    (hRframes : names.length + 3 < R.frames) (hRlocals : (rest.map fun v => v.category).sum + (13 * (names.length + 1) + 43) ≤ R.locals) (hRcells : cells + 1 ≤ R.cells) (hRslots : slots + 6 ≤ R.slots) (hlocks : meth.locks = false)
    (hx : ∀ t : State, s.vm.Alike t.vm → H.size ≤ t.heap.size → (∀ q : Nat, q < H.size → t.heap[q]? = H[q]?) → XC cls s t)
    (hf : ∀ z ∈ locs, free z.base) (hc : cells + 1 ≤ mc) (hs : slots + 6 ≤ ms) :
    W p l e R s m args below meth c H locs cells slots (vx_MQ below Qc XC args s mc ms free) (F0 m pc ls rest) := by
  intro T hT X
  have htr : e.platform.stackTraces = false := (show e.platform.stackTraces = l.stackTraces by rw [X.admits.platform]).trans hl
  have Y := vx_rebase X (R' := { frames := R.frames, locals := R.locals, cells := 1, slots := 6 }) (Nat.le_refl _) (Nat.le_refl _) hRcells hRslots
  obtain ⟨s', hA⟩ : ∃ z, z = (T.setVm s.vm).setFrames (.invoking m args :: below) := ⟨_, rfl⟩
  rw [← hA] at Y
  have hvm : s'.vm = s.vm := by rw [hA]; rfl
  have hhp : s'.heap = H := by rw [hA]; exact hT
  have hW0 : s.WarmedH s'.vm := by rw [hvm]; exact State.WarmedH.refl s
  have hat' : ∀ w ∈ vx_atS own ic cls names, w.before args s' = true := fun w hw => vx_ot_at hW0 hvm.symm (hgood w (List.mem_cons_of_mem _ (List.mem_cons_of_mem _ hw))) (hat w hw)
  have hk' : (Cond.classLink own ik cls).before args s' = true := vx_ot_at hW0 hvm.symm (hgood _ List.mem_cons_self) hk
  have hini' : (Cond.initialized cls).before args s' = true := vx_ot_at hW0 hvm.symm (hgood _ (List.mem_cons_of_mem _ List.mem_cons_self)) hini
  have hU' : vx_Zq Bundle.tN "UNASSIGNED_STACK" Bundle.steD A s' s'.heap := by rw [hhp]; exact vx_Zq.moved hW0.alike (hU.kept hS.2.1)
  have hN' : vx_Zq Bundle.tN "SUPPRESSED_SENTINEL" Bundle.listD A s' s'.heap := by rw [hhp]; exact vx_Zq.moved hW0.alike (hN.kept hS.2.1)
  have h : ∀ w ∈ Bundle.ownAtoms own ic cls names, w.before args s' = true := vx_own hat' (vx_isRefq hU'.1) (vx_isRefq hN'.1) hU'.2.word hN'.2.word
  have hown' : s'.vm.findClass own = some m.cls := by rw [hvm]; exact hown
  have hins : (Cond.instantiable cls 6).before args s' = true := h _ (by simp [Bundle.ownAtoms])
  obtain ⟨vm₁, cX, kX, hfX, hkX, -, -, X₁, st1⟩ := Y.newCold hexec (own := own) (C := cls) (index := ik) (n := 6) hown' hk' hins hini'
    (g := F0 m pc ls rest) rfl (by rw [hb]; exact d0) (Nat.le_refl _) (Nat.le_refl _)
  generalize hT1 : (T.setVm vm₁).pushCell { cls := cX, slots := kX.instanceTypes.map defaultValue, vm := .none } = T1 at X₁ st1
  have hcat : (Value.ref T.heap.size).category = 1 := rfl
  have hcellA : T1.heap[T.heap.size]? = some (freshCell cX kX) := by rw [← hT1]; exact State.heap_pushCell_size _ _
  have d3' : decode c.code (pc + 3) = .ok (.dup, 1) := by rw [hb]; exact d3
  have d4' : decode c.code (pc + 4) = .ok (.ldc_w is, 3) := by rw [hb]; exact d4
  have hstr' : vk_R own is text sa s' := vk_R.warm hW0 hstr
  obtain ⟨U, hsteps, hrun, hend, hW, hsame, ce, hce, hO⟩ := X₁.ctorThrowS hexec htr (own := own) (cls := cls) (names := names) (ic := ic) hown' hcls hnames h (fun x hx => nomatch hx) hfX hkX hcellA (by rw [hhp, hT]; exact Nat.le_refl _) (msg := .ref sa) rfl
    (g := { method := m, pc := pc + 7, locals := ls, stack := .ref sa :: .ref T.heap.size :: .ref T.heap.size :: rest, locked := none }) rfl hsize rfl rfl (rest := rest) rfl
    (by rw [hb]; exact d7) (by rw [hb]; exact d10) hout hRframes (by simp only [List.map_cons, List.sum_cons, hcat]; omega) hlocks
  obtain ⟨f1, f2⟩ := vx_frame hsame
  rw [hhp] at f1 f2
  have hWs : s.WarmedH U.vm := State.WarmedH.trans hW0 hW
  have hcl : s.vm.findClass cls = some ce.cls := by
    have h9 := hO.cls
    rw [hvm] at h9
    exact h9
  have hall : s.sameButNew ({ U with vm := s.vm } : State) locs mc ms := by
    subst hA
    obtain ⟨e1, e2⟩ := hsame
    rw [State.setFrames_setFrames] at e1
    have h2 : (T.setVm s.vm).sameButNew ({ U with vm := s.vm } : State) [] (0 + 1) (0 + 6) := ⟨e1, e2⟩
    have h3 := X.same.trans h2
    rw [List.append_nil] at h3
    exact h3.mono hc hs
  refine ⟨U, ?_, .threw T.heap.size, hrun, hend, Or.inr ⟨T.heap.size, rfl, cls, ce, locs, hx U hWs.alike f1 (fun q hq => f2 q hq (fun z hz => nomatch hz)), hce, hO.vm, hcl, hWs, hall, hf⟩⟩
  refine st1 _ ?_
  show Steps p.tables e below (T1.setTop { method := m, pc := pc + 3, locals := ls, stack := .ref T.heap.size :: rest, locked := none }) _
  jvm_step X₁.here [X₁.here.top, hexec, d3', Value.category]
  exact X₁.ldcStringW hexec (own := own) (text := text) (index := is) (a := sa) hown' hstr'.1 hstr'.2
    (g := { method := m, pc := pc + 4, locals := ls, stack := .ref T.heap.size :: .ref T.heap.size :: rest, locked := none }) rfl d4' _ hsteps
end Ends
section Bodies
variable {l : Launch}
theorem vx_ofW {y : MethodName} {ws ws' : List Cond} {rm : Room} {Pc : Array Value → State → Prop} {Qc : Array Value → State → Outcome → State → Prop} {XC : String → State → State → Prop} {mc ms : Nat} {free : Addr → Prop} {cc : ByteArray} {maxL : Nat} {ret : Option FieldType}
    (hy : plainName y.cls = true) (hw : ws = Cond.code y cc maxL ret :: ws')
    (body : ∀ p e s m args below meth c s₁, BodyLoose p l y (headSpec ws rm) cc maxL ret e s m args below meth c s₁ → c.maxLocals = maxL → (∀ x ∈ c.exceptionTable.toList, False) → Pc args s →
      W p l e (headSpec ws rm).room s m args below meth c s.heap [] 0 0 (vx_MQ below Qc XC args s mc ms free) (entryFrame m args maxL)) : vx_Met l y ws rm Pc Qc XC mc ms free := by
  refine MetFree.of_bodyS (code := cc) (maxLocals := maxL) (ret := ret) hy ?_ ?_
  · intro args s m h hn
    obtain ⟨meth, c, h1, h2, h3, h4, h5, h6, -, -⟩ := Cond.code_spec hn (atoms_spec (ws := ws) h _ (by rw [hw]; exact List.mem_cons_self))
    exact ⟨meth, c, h1, h2, h3, h4, h5, h6⟩
  · intro p e s m args below meth c s₁ B hml hP _
    have hh0 : s₁.heap = s.heap := by rw [B.state]; rfl
    have ht : ∀ x ∈ c.exceptionTable.toList, False := by
      obtain ⟨meth9, c9, h1, h2, -, -, -, -, h7, -⟩ := Cond.code_spec B.named (atoms_spec (ws := ws) B.pre _ (by rw [hw]; exact List.mem_cons_self))
      cases Option.some.inj (h1.symm.trans B.method)
      cases Option.some.inj (h2.symm.trans (Stand.of_body B).code)
      intro x hx
      rw [Array.isEmpty_iff.mp h7] at hx
      cases hx
    obtain ⟨t, a1, o, b1, b2, b3⟩ := body p e s m args below meth c s₁ B hml ht hP s₁ hh0 (Stand.of_body B)
    exact ⟨t, o, a1, b1, b2, b3⟩
/-- the table of a body with handlers -/
theorem vx_table {p : Program} {x y : MethodName} {S : Spec} {cc bytes : ByteArray} {maxL maxL' : Nat} {ret ret' : Option FieldType} {e : Env} {s s₁ : State} {m : MethodId} {args : Array Value} {below : List Frame} {meth : Method} {c : Code} {hh : List (Nat × Nat × Nat × Nat)}
    (B : BodyLoose p l y S cc maxL ret e s m args below meth c s₁) (h : (Cond.codeWith y bytes maxL' ret' hh).before args s = true) : c.exceptionTable.toList = tableOf hh := by
  obtain ⟨m9, meth9, c9, hn9, h1, h2, -, -, h6, -⟩ := Cond.codeWith_spec h
  cases Option.some.inj (hn9.symm.trans B.named)
  cases Option.some.inj (h1.symm.trans B.method)
  cases Option.some.inj (h2.symm.trans (Stand.of_body B).code)
  rw [← h6, table_eq]
end Bodies
end VXA
/-! ===== END ===== -/
/-! ===== BEGIN a static call of a method with an exception table ===== -/
section VXS
variable {p : Program} {l : Launch} {e : Env} {R : Room} {s : State} {m : MethodId} {args : Array Value} {below : List Frame} {meth : Method} {c : Code} {T : State} {H : Heap} {locs : List Loc} {cells slots : Nat}
abbrev vx_CSW (R : Room) (s : State) (args : Array Value) (own : String) (index : Nat) (y : MethodName) (bytes : ByteArray) (maxL : Nat) (ret : Option FieldType) (hh : List (Nat × Nat × Nat × Nat)) (ws : List Cond) (rm : Room) (mc ms n : Nat) : Prop :=
  (rm.cells = mc ∧ rm.slots = ms ∧ rm.frames + 1 ≤ R.frames ∧ 8 + (maxL + 11) + rm.locals ≤ R.locals ∧ (∀ w ∈ ws, ∀ (a' : Array Value) (U : State), s.WarmedH U.vm → w.before a' U = true) ∧ Cond.codeWith y bytes maxL ret hh ∈ ws) ∧
  (Cond.codeWith y bytes maxL ret hh).before args s = true ∧ (Cond.initialized y.cls).before args s = true ∧ (y.cls ≠ "java/lang/invoke/MethodHandle" ∧ y.cls ≠ "java/lang/invoke/VarHandle") ∧
  (∀ sig, parseMethodDescriptor y.desc = some sig → n = sig.parameters.length) ∧ (Cond.methodLink own index y).before args s = true ∧ (Cond.static y).before args s = true
theorem vx_cwSW {own : String} {index maxL mc ms : Nat} {y : MethodName} {bytes : ByteArray} {ret : Option FieldType} {hh : List (Nat × Nat × Nat × Nat)} {Ts ws ws' : List Cond} {rm : Room} (n : Nat) (ht : ∀ w ∈ Ts, w.before args s = true) (hT : GoodIn Ts (va_wsS own index y ws)) (hw : ws = Cond.codeWith y bytes maxL ret hh :: ws') (hrc : rm.cells = mc) (hrs : rm.slots = ms)
    (hd : y.cls ≠ "java/lang/invoke/MethodHandle" ∧ y.cls ≠ "java/lang/invoke/VarHandle" ∧ (parseMethodDescriptor y.desc).map (fun d => d.parameters.length) = some n) (hR : rm.frames + 1 ≤ R.frames ∧ 8 + (maxL + 11) + rm.locals ≤ R.locals) :
    vx_CSW R s args own index y bytes maxL ret hh ws rm mc ms n := by
  have ok : ∀ w ∈ va_wsS own index y ws, w.before args s = true := fun w h => ht w (hT w h).1
  have hG : GoodIn Ts ws := fun w h => hT w (by unfold va_wsS; exact List.mem_append_right _ h)
  have hc : Cond.codeWith y bytes maxL ret hh ∈ ws := by rw [hw]; exact List.mem_cons_self
  refine ⟨⟨hrc, hrs, hR.1, hR.2, pay_in ht hG, hc⟩, ht _ (hG _ hc).1, ok _ (by simp [va_wsS]), ⟨hd.1, hd.2.1⟩, fun sig h => ?_, ok _ (by simp [va_wsS]), ok _ (by simp [va_wsS])⟩
  have h2 := hd.2.2
  rw [h] at h2
  exact (Option.some.inj h2).symm
theorem vx_callSW (X : Stand p l e R s m args below meth c T locs cells slots) (hexec : p.tables.exec = Jvm.exec) {own : String} {index : Nat} {y : MethodName} {bytes : ByteArray} {maxL : Nat} {ret : Option FieldType} {hh : List (Nat × Nat × Nat × Nat)}
    (hown : s.vm.findClass own = some m.cls) (hlink : (Cond.methodLink own index y).before args s = true) (hstat : (Cond.static y).before args s = true) (hinit : (Cond.initialized y.cls).before args s = true)
    (hcode : (Cond.codeWith y bytes maxL ret hh).before args s = true) (hy : y.cls ≠ "java/lang/invoke/MethodHandle" ∧ y.cls ≠ "java/lang/invoke/VarHandle")
    {W9 : Nat} {Pre : Pt → Array Value → Prop} {Post : Pt → Array Value → Option Value → Pt → Prop} (hK : Back l R p e below s args y 3 W9 Pre Post)
    {g : JFrame} (hg : g.method = m) (hsize : g.locals.size = c.maxLocals) {argsL rest : List Value} (hlen : ∀ sig, parseMethodDescriptor y.desc = some sig → argsL.length = sig.parameters.length)
    (hstack : g.stack = argsL.reverse ++ rest) (hW : 2 * g.monitorRoom + (rest.map fun v => v.category).sum ≤ W9) (hdg : decode c.code g.pc = .ok (.invokestatic index, 3))
    (hpre : ∀ vm₁, s.WarmedH vm₁ → Pre ⟨T.setVm vm₁, locs, cells, slots⟩ argsL.toArray) :
    ∃ (v : Option Value) (vm₁ : Vm) (B : Pt), s.WarmedH vm₁ ∧ Stand p l e R s m args below meth c B.U B.locs B.cells B.slots ∧ Post ⟨T.setVm vm₁, locs, cells, slots⟩ argsL.toArray v B ∧
      ∀ target, Steps p.tables e below (B.U.setTop { g with pc := g.pc + 3, stack := v.toList ++ rest }) target → Steps p.tables e below (T.setTop g) target := by
  obtain ⟨mk, methM, cM, hnamed, hmethM, -, -, -, -, -, -, hsigM⟩ := Cond.codeWith_spec hcode
  have hstatic : methM.isStatic = true := Cond.static_spec hnamed hmethM hstat
  obtain ⟨kP, hkP, -⟩ := className_of_methodNamed hnamed
  have hinitP : kP.init = .initialized := Cond.initialized_spec (findClass_of_methodNamed hnamed) hkP hinit
  obtain ⟨vm₁, X₁, hstep₁⟩ := X.invokestatic hexec hown hlink hnamed hmethM hstatic hkP hinitP hy (g := g) hg (argsL := argsL) (rest := rest) (hlen _ hsigM) hstack hdg
  obtain ⟨v, B, X', hpost, hsteps⟩ := hK m meth c ⟨T.setVm vm₁, locs, cells, slots⟩ { g with stack := rest } (.invokestatic index) mk argsL.toArray X₁ hg hsize hdg hW (X₁.named hnamed) (hpre vm₁ X₁.warmed)
  exact ⟨v, vm₁, B, X₁.warmed, X', hpost, fun target h => hstep₁ _ fun acts => by rw [doInvoke_state]; exact hsteps.trans h⟩
theorem vx_runSW {y : MethodName} {bytes cc : ByteArray} {maxL nL mc ms n index : Nat} {ret : Option FieldType} {hh : List (Nat × Nat × Nat × Nat)} {ws : List Cond} {rm : Room} {Pc : Array Value → State → Prop} {Qc : Array Value → State → Outcome → State → Prop} {free : Addr → Prop} {Ts : List Cond} {own : String} {As rest : List Value} {g : JFrame}
    (S : CallFix p m c cc nL s args Ts own) (hM : Met l y ws rm Pc Qc mc ms free) (cw : vx_CSW R s args own index y bytes maxL ret hh ws rm mc ms n) (hp : PreS s H Pc As)
    (hg : g.method = m) (hn : As.length = n) (hsize : g.locals.size = nL) (hstack : g.stack = As.reverse ++ rest) (hW : 2 * g.monitorRoom + (rest.map fun v => v.category).sum ≤ 8) (hdg : decode cc g.pc = .ok (.invokestatic index, 3)) (hf : cells + mc ≤ R.cells ∧ slots + ms ≤ R.slots) :
    va_Run p l e R s m args below meth c H locs cells slots mc ms g rest (Qc As.toArray) (free) := by
  obtain ⟨⟨hrc, hrs, hfr, hlo, hws, hcw⟩, hcode, hini, hy, hlen, hl, hstt⟩ := cw
  have hK : Back l R p e below s args y 3 8 (PreOf R mc ms Pc) (PostOf Qc mc ms free) := va_backW (hh := hh) (bytes := bytes) (maxL := maxL) (ret := ret) hM hp.1 hrc hrs hfr hlo hws hcw (fun a' U hW => word_at hW (Or.inl (by first | rfl | simp [Cond.onTables, Cond.keeps, Cond.steady])) hini)
  obtain ⟨hx, hb, hml, ho, -⟩ := S
  intro T hT X
  obtain ⟨v, vm₁, ⟨U', l2, c2, s2⟩, hW₁, X', ⟨g', mk, t, L, e1, e2, hq, h1, hL, h2, h3⟩, st⟩ := vx_callSW X hx (hh := hh) (bytes := bytes) (maxL := maxL) (ret := ret) ho hl hstt hini hcode hy hK hg (hsize.trans hml.symm) (argsL := As) (rest := rest) (fun sig h => hn.trans (hlen sig h)) hstack hW (by rw [hb]; exact hdg)
    (fun vm₁ hW₁ => ⟨hf.1, hf.2, hp.2 (T.setVm vm₁) hT hW₁⟩)
  dsimp only [Pt.U, Pt.locs, Pt.cells, Pt.slots] at X' e1 e2 h1 h2 h3 st
  subst h1; subst h2; subst h3
  exact ⟨v, (T.setVm vm₁).calling g' mk As.toArray, t, U', L, hT, X', hL, e1, e2, hq, st⟩
/-- not caught here, past rows that name other classes: it goes on to the caller -/
theorem vx_outP {p : Program} {l : Launch} {e : Env} {R : Room} {s : State} {m : MethodId} {args : Array Value} {below : List Frame} {meth : Method} {c : Code} {H : Heap} {locs : List Loc} {cells slots : Nat} {free : Addr → Prop} {ls : Array Slot} {rest : List Value} {Qc : Array Value → State → Outcome → State → Prop} {XC : String → State → State → Prop}
    {pc : Nat} {own E : String} {ce : Cell} {q : Addr} {mc ms : Nat} (hown : s.vm.findClass own = some m.cls) (hlocks : meth.locks = false)
    (hpass : ∀ z ∈ c.exceptionTable.toList, covers z pc = false ∨ (z.catchType ≠ 0 ∧ ∃ nm : String, (Cond.classLink own z.catchType nm).before args s = true ∧ va_Nc E nm s)) (hcell : H[q]? = some ce) (hv : ce.vm = .none) (hcl : s.vm.findClass E = some ce.cls)
    (hx : ∀ t : State, t.heap = H → s.vm.Alike t.vm → XC E s t) (hf : ∀ z ∈ locs, free z.base) (hc : cells ≤ mc) (hs : slots ≤ ms) :
    vx_W p l e R s m args below meth c H locs cells slots (vx_MQ below Qc XC args s mc ms free) (F0 m pc ls rest) q := by
  intro T hT X
  have hpl : e.platform.magicAccessors = ({} : Platform).magicAccessors := by rw [X.admits.platform]
  obtain ⟨vm', hW', X', st⟩ := X.outThrough hlocks q (g := F0 m pc ls rest) rfl rfl rfl (cell := ce) (by rw [hT]; exact hcell) (by rw [hv]; rfl)
    (by obtain ⟨k9, h9, -⟩ := Vm.findClass_spec hcl; exact ⟨k9, h9⟩) (fun z hz => by
      rcases hpass z hz with h | ⟨hz0, nm, hl1, hn1⟩
      · exact Or.inl h
      · obtain ⟨c6, hc6, hcl6⟩ := Cond.classLink_spec hown hl1 e.platform hpl
        obtain ⟨a8, b8, h1, h2, h3⟩ := hn1
        cases Option.some.inj (h1.symm.trans hcl)
        cases Option.some.inj (h2.symm.trans hc6)
        exact Or.inr ⟨hz0, _, hcl6, h3⟩)
  obtain ⟨g₀, hfr⟩ := X'.frames_eq
  have hcell9 : ((T.setVm vm').setFrames (.throwing q :: below)).heap[q]? = some ce := by
    show T.heap[q]? = some ce
    rw [hT]; exact hcell
  have hend : Ended ((T.setVm vm').setFrames (.throwing q :: below)) below (.threw q) := State.frames_setFrames _ (State.cur_lt_of_frames hfr)
  refine ⟨(T.setVm vm').setFrames (.throwing q :: below), ?_, .threw q, X'.here.running, hend, Or.inr ⟨q, rfl, E, ce, locs, hx _ hT (X'.ends _).1.alike, hcell9, hv, hcl, (X'.ends _).1, (X'.ends _).2.mono hc hs, hf⟩⟩
  rw [X.pushThrowing_eq]
  exact st
/-- a thing of a world lies in the heap -/
theorem vx_lt {D : va_G} {cl : List vw_C} {ws : va_W} {H1 : Heap} (h : va_P D cl ws H1) {k : Nat} {q : Nat × va_E} (hk : ws[k]? = some q) : q.1 < H1.size := (h k q hk).lt
end VXS
/-! ===== END ===== -/
/-! ===== BEGIN methods with a table of their own: called by a name, returning or throwing ===== -/
section VXH
/-! vx_backW, vx_callVX, vx_callSX, vx_callVW, vx_runVW, vx_runVX, vx_runSX, vx_ofWH follow the same proofs as their sisters above (Free/Laws.lean, Shelf42/LK1.lean); vx_outP calls Shelf42/NT130.lean (outThrough). -/
section
variable {l : Launch} {R : Room} {p : Program} {e : Env} {below : List Frame} {s : State} {sargs : Array Value} {y : MethodName} {len W9 : Nat}
theorem vx_backW {ws : List Cond} {rm : Room} {Pc : Array Value → State → Prop} {Qc : Array Value → State → Outcome → State → Prop} {XC : String → State → State → Prop} {mc ms : Nat} {free : Addr → Prop} {bytes : ByteArray} {maxL : Nat} {ret : Option FieldType} {hh : List (Nat × Nat × Nat × Nat)}
    (hM : vx_Met l y ws rm Pc Qc XC mc ms free) (hblind : FrameBlind Pc) (hrc : rm.cells = mc) (hrs : rm.slots = ms)
    (hframes : rm.frames + 1 ≤ R.frames) (hlocals : W9 + (maxL + 11) + rm.locals ≤ R.locals)
    (hws : ∀ w ∈ ws, ∀ a' U, s.WarmedH U.vm → w.before a' U = true) (hcode : Cond.codeWith y bytes maxL ret hh ∈ ws) (hinit : ∀ a' U, s.WarmedH U.vm → (Cond.initialized y.cls).before a' U = true) :
    vx_Back l R p e below s sargs y len W9 (PreOf R mc ms Pc) (PostOf Qc mc ms free) (vx_Post XC mc ms free) := by
  intro m meth c A g ig mk a X hg hsize hdg hW hn hp
  have h1 : (headSpec ws rm).pre.before a A.U = true := atoms_intro fun w hw => hws w hw _ _ X.warmed
  have h2 : (Cond.codeWith y bytes maxL ret hh).before a A.U = true := hws _ hcode _ _ X.warmed
  have h3 : (Cond.initialized y.cls).before a A.U = true := hinit _ _ X.warmed
  have h4 : A.cells + (headSpec ws rm).room.cells ≤ R.cells := by rw [show (headSpec ws rm).room.cells = mc from hrc]; exact hp.1
  have h5 : A.slots + (headSpec ws rm).room.slots ≤ R.slots := by rw [show (headSpec ws rm).room.slots = ms from hrs]; exact hp.2.1
  have hPc : Pc a (A.U.calling g mk a) := hblind _ _ _ _ hp.2.2
  obtain ⟨U, Ls, c0, s0⟩ := A
  dsimp only [Pt.U, Pt.locs, Pt.cells, Pt.slots] at h1 h2 h3 h4 h5 X hn hPc ⊢
  obtain ⟨m9, methY, cY, hn9, hmY, hcY, -, hlY, -⟩ := Cond.codeWith_spec h2
  cases Option.some.inj (hn9.symm.trans hn)
  obtain ⟨kY, hkY, -⟩ := className_of_methodNamed hn
  have hinitY : kY.init = .initialized := Cond.initialized_spec (findClass_of_methodNamed hn) hkY h3
  have h : At U g.method c below := by rw [hg]; exact X.here
  have hlocals9 : W9 + (maxL + 11) + (headSpec ws rm).room.locals ≤ R.locals := hlocals
  have happ : (headSpec ws rm).appliesLoose y e.platform (U.calling g mk a) = true :=
    Spec.appliesLoose_calling (g := g) h hdg hn hkY hinitY
      (X.room_calling (g := g) (R' := (headSpec ws rm).room) hsize hmY hcY hframes (by rw [hlY]; omega) h4 h5) h1
  obtain ⟨mid, hmid⟩ := h.above
  have hfr : (U.setTop g).frames = (.java g :: mid) ++ below := by rw [State.frames_setTop' g h.top, hmid]; rfl
  obtain ⟨o, s₂, hsteps, -, hend, hq⟩ := Steps.callFree hM p X.admits X.cas X.clock (acts := []) hfr happ hPc trivial
  have hq' : vx_Q Qc XC mc ms free a (U.calling g mk a) o s₂ := hq
  rw [State.frames_setTop' g h.top] at hend
  obtain ⟨g₀, hg0⟩ := Option.isSome_iff_exists.mp h.top
  obtain ⟨r, hr⟩ := State.topJava?_eq_some.mp hg0
  have hr' : (({ U with heap := s₂.heap, slotsUsed := s₂.slotsUsed } : State).setVm s₂.vm).frames = .java g₀ :: r := hr
  rcases hq' with ⟨hqc, L, hfe, hL⟩ | ⟨q, rfl, E, ce, L, hx, hce, hcv, hcl, hW₂, hsm, hL⟩
  · obtain ⟨⟨v, rfl⟩, hW₂, e2, q2, q3, q4, q5, q6⟩ := id hfe
    have e3 : s₂ = ({ (U.calling g mk a).setFrames s₂.frames with heap := s₂.heap, slotsUsed := s₂.slotsUsed } : State).setVm s₂.vm := by
      have : s₂ = ({ s₂ with vm := (U.calling g mk a).vm } : State).setVm s₂.vm := rfl
      rw [e2] at this
      exact this
    obtain ⟨c₂, i₂, len₂, hc₂, hd₂, hf₂⟩ := hend
    have hW' : U.WarmedH s₂.vm := hW₂
    have hcc : c₂ = c := by
      have h1 : s₂.code? g.method = U.code? g.method := by
        rw [State.code?_eq, State.code?_eq, hW'.alike.method?]
      exact Option.some.inj (hc₂.symm.trans (h1.trans h.code))
    subst hcc
    have hlen : len₂ = len := by rw [hdg] at hd₂; cases hd₂; rfl
    subst hlen
    have hs₂ : s₂ = (({ U with heap := s₂.heap, slotsUsed := s₂.slotsUsed } : State).setVm s₂.vm).setTop { g with pc := g.pc + len₂, stack := v.toList ++ g.stack } := by
      refine e3.trans ?_
      rw [hf₂, State.calling_eq h.top, State.setFrames_setFrames, State.setTop_of_frames _ hr', hr]
      rfl
    have hsame : U.sameButNew ({ U with heap := s₂.heap, slotsUsed := s₂.slotsUsed } : State) L mc ms := by
      refine ⟨?_, q2, q3, q4, q5, q6⟩
      obtain ⟨t, ht, -⟩ := State.frames_cons hr
      show ({ U with heap := s₂.heap, slotsUsed := s₂.slotsUsed } : State) = { U.setFrames U.frames with heap := s₂.heap, slotsUsed := s₂.slotsUsed }
      rw [State.setFrames_self ht]
    subst hg
    refine Or.inl ⟨v, ⟨(({ U with heap := s₂.heap, slotsUsed := s₂.slotsUsed } : State).setVm s₂.vm), Ls ++ L, c0 + mc, s0 + ms⟩,
      ⟨X.admits, X.cas, X.clock, X.frames, X.room, X.hears, X.method, X.code, (X.here.setHeapUsed s₂.heap s₂.slotsUsed).setVm hW'.alike, X.tail, State.WarmedH.trans X.warmed hW', X.limits, X.bytes, X.same.trans (hsame.setVm s.vm)⟩,
      ⟨g, mk, s₂, L, rfl, rfl, hqc, rfl, hL, rfl, rfl⟩, ?_⟩
    show Steps p.tables e below _ ((({ U with heap := s₂.heap, slotsUsed := s₂.slotsUsed } : State).setVm s₂.vm).setTop { g with pc := g.pc + len₂, stack := v.toList ++ g.stack })
    rw [← hs₂]
    exact hsteps
  · obtain ⟨e2, q2, q3, q4, q5, q6⟩ := id hsm
    have e3 : s₂ = ({ (U.calling g mk a).setFrames s₂.frames with heap := s₂.heap, slotsUsed := s₂.slotsUsed } : State).setVm s₂.vm := by
      have : s₂ = ({ s₂ with vm := (U.calling g mk a).vm } : State).setVm s₂.vm := rfl
      rw [e2] at this
      exact this
    have hf₂ : s₂.frames = .throwing q :: .java g :: U.frames.tail := hend
    have hW' : U.WarmedH s₂.vm := hW₂
    have hs₂ : s₂ = ((({ U with heap := s₂.heap, slotsUsed := s₂.slotsUsed } : State).setVm s₂.vm).setTop g).pushFrame (.throwing q) := by
      refine e3.trans ?_
      rw [hf₂, State.calling_eq h.top, State.setFrames_setFrames, State.pushFrame, State.frames_setTop _ hr', State.setTop_of_frames _ hr', State.setFrames_setFrames, hr]
      rfl
    have hsame : U.sameButNew ({ U with heap := s₂.heap, slotsUsed := s₂.slotsUsed } : State) L mc ms := by
      refine ⟨?_, q2, q3, q4, q5, q6⟩
      obtain ⟨t, ht, -⟩ := State.frames_cons hr
      show ({ U with heap := s₂.heap, slotsUsed := s₂.slotsUsed } : State) = { U.setFrames U.frames with heap := s₂.heap, slotsUsed := s₂.slotsUsed }
      rw [State.setFrames_self ht]
    subst hg
    refine Or.inr ⟨q, ⟨(({ U with heap := s₂.heap, slotsUsed := s₂.slotsUsed } : State).setVm s₂.vm), Ls ++ L, c0 + mc, s0 + ms⟩,
      ⟨X.admits, X.cas, X.clock, X.frames, X.room, X.hears, X.method, X.code, (X.here.setHeapUsed s₂.heap s₂.slotsUsed).setVm hW'.alike, X.tail, State.WarmedH.trans X.warmed hW', X.limits, X.bytes, X.same.trans (hsame.setVm s.vm)⟩,
      ⟨g, mk, s₂, L, E, ce, rfl, rfl, hx, hce, hcv, hcl, rfl, hL, rfl, rfl⟩, ?_⟩
    show Steps p.tables e below _ (((({ U with heap := s₂.heap, slotsUsed := s₂.slotsUsed } : State).setVm s₂.vm).setTop g).pushFrame (.throwing q))
    rw [← hs₂]
    exact hsteps
end
variable {p : Program} {l : Launch} {e : Env} {R : Room} {s : State} {m : MethodId} {args : Array Value} {below : List Frame} {meth : Method} {c : Code} {T : State} {H : Heap} {locs : List Loc} {cells slots : Nat}
theorem vx_callVX (X : Stand p l e R s m args below meth c T locs cells slots) (hexec : p.tables.exec = Jvm.exec) {own C : String} {index : Nat} {y : MethodName} {bytes : ByteArray} {maxL : Nat} {ret : Option FieldType} {hh : List (Nat × Nat × Nat × Nat)}
    (hown : s.vm.findClass own = some m.cls) (hlink : (Cond.methodLink own index y).before args s = true) (hinst : (Cond.instanceMethod y).before args s = true) (hsel : (Cond.selects C y y).before args s = true)
    (hcode : (Cond.codeWith y bytes maxL ret hh).before args s = true) (hy : y.cls ≠ "java/lang/invoke/MethodHandle" ∧ y.cls ≠ "java/lang/invoke/VarHandle")
    {W9 : Nat} {Pre : Pt → Array Value → Prop} {Post : Pt → Array Value → Option Value → Pt → Prop} {PostX : Pt → Array Value → Addr → Pt → Prop} (hK : vx_Back l R p e below s args y 3 W9 Pre Post PostX)
    {b : Addr} {cellB : Cell} (hcell : T.heap[b]? = some cellB) (hobj : cellB.vm.isStatics = false) (hcls : s.vm.findClass C = some cellB.cls)
    {g : JFrame} (hg : g.method = m) (hsize : g.locals.size = c.maxLocals) {argsL rest : List Value} (hlen : ∀ sig, parseMethodDescriptor y.desc = some sig → argsL.length = sig.parameters.length)
    (hstack : g.stack = argsL.reverse ++ .ref b :: rest) (hW : 2 * g.monitorRoom + (rest.map fun v => v.category).sum ≤ W9) (hdg : decode c.code g.pc = .ok (.invokevirtual index, 3))
    (hpre : ∀ vm₁, s.WarmedH vm₁ → Pre ⟨T.setVm vm₁, locs, cells, slots⟩ (Value.ref b :: argsL).toArray) :
    (∃ (v : Option Value) (vm₁ : Vm) (B : Pt), s.WarmedH vm₁ ∧ Stand p l e R s m args below meth c B.U B.locs B.cells B.slots ∧ Post ⟨T.setVm vm₁, locs, cells, slots⟩ (Value.ref b :: argsL).toArray v B ∧
      ∀ target, Steps p.tables e below (B.U.setTop { g with pc := g.pc + 3, stack := v.toList ++ rest }) target → Steps p.tables e below (T.setTop g) target) ∨
    (∃ (q : Addr) (vm₁ : Vm) (B : Pt), s.WarmedH vm₁ ∧ Stand p l e R s m args below meth c B.U B.locs B.cells B.slots ∧ PostX ⟨T.setVm vm₁, locs, cells, slots⟩ (Value.ref b :: argsL).toArray q B ∧
      Steps p.tables e below (T.setTop g) ((B.U.setTop { g with stack := rest }).pushFrame (.throwing q))) := by
  obtain ⟨mk, methM, hnamed, hmethM, hstM, habM⟩ := Cond.instanceMethod_spec hinst
  obtain ⟨m8, methM', cM, hn8, hmethM', -, -, -, -, -, -, hsigM⟩ := Cond.codeWith_spec hcode
  cases Option.some.inj (hn8.symm.trans hnamed)
  cases hmethM.symm.trans hmethM'
  obtain ⟨c2, r2, m2, q1, q2, q3, q4, kP, hkP, hkPi⟩ := Cond.selects_spec hsel
  cases hcls.symm.trans q1
  cases (State.methodFound?_of_named hnamed hy).symm.trans q2
  cases hnamed.symm.trans q3
  have hselP : selectMethod e.platform s.vm cellB.cls mk = .method mk := by rw [Launch.admits_selectMethod X.admits]; exact q4
  obtain ⟨vm₁, X₁, hstep₁⟩ := X.invokevirtual hexec hown hlink hnamed hmethM hstM hkP hkPi hy (a := b) (cell := cellB) hcell
    (fun z h => by rw [h] at hobj; cases hobj) hselP hmethM habM hkP hkPi (g := g) hg (argsL := argsL) (rest := rest) (hlen _ hsigM) hstack hdg
  rcases hK m meth c ⟨T.setVm vm₁, locs, cells, slots⟩ { g with stack := rest } (.invokevirtual index) mk (Value.ref b :: argsL).toArray X₁ hg hsize hdg hW (X₁.named hnamed) (hpre vm₁ X₁.warmed) with ⟨v, B, X', hpost, hsteps⟩ | ⟨q, B, X', hpost, hsteps⟩
  · exact Or.inl ⟨v, vm₁, B, X₁.warmed, X', hpost, fun target h => hstep₁ _ fun acts => by rw [doInvoke_state]; exact hsteps.trans h⟩
  · exact Or.inr ⟨q, vm₁, B, X₁.warmed, X', hpost, hstep₁ _ fun acts => by rw [doInvoke_state]; exact hsteps⟩
theorem vx_callSX (X : Stand p l e R s m args below meth c T locs cells slots) (hexec : p.tables.exec = Jvm.exec) {own : String} {index : Nat} {y : MethodName} {bytes : ByteArray} {maxL : Nat} {ret : Option FieldType} {hh : List (Nat × Nat × Nat × Nat)}
    (hown : s.vm.findClass own = some m.cls) (hlink : (Cond.methodLink own index y).before args s = true) (hstat : (Cond.static y).before args s = true) (hinit : (Cond.initialized y.cls).before args s = true)
    (hcode : (Cond.codeWith y bytes maxL ret hh).before args s = true) (hy : y.cls ≠ "java/lang/invoke/MethodHandle" ∧ y.cls ≠ "java/lang/invoke/VarHandle")
    {W9 : Nat} {Pre : Pt → Array Value → Prop} {Post : Pt → Array Value → Option Value → Pt → Prop} {PostX : Pt → Array Value → Addr → Pt → Prop} (hK : vx_Back l R p e below s args y 3 W9 Pre Post PostX)
    {g : JFrame} (hg : g.method = m) (hsize : g.locals.size = c.maxLocals) {argsL rest : List Value} (hlen : ∀ sig, parseMethodDescriptor y.desc = some sig → argsL.length = sig.parameters.length)
    (hstack : g.stack = argsL.reverse ++ rest) (hW : 2 * g.monitorRoom + (rest.map fun v => v.category).sum ≤ W9) (hdg : decode c.code g.pc = .ok (.invokestatic index, 3))
    (hpre : ∀ vm₁, s.WarmedH vm₁ → Pre ⟨T.setVm vm₁, locs, cells, slots⟩ argsL.toArray) :
    (∃ (v : Option Value) (vm₁ : Vm) (B : Pt), s.WarmedH vm₁ ∧ Stand p l e R s m args below meth c B.U B.locs B.cells B.slots ∧ Post ⟨T.setVm vm₁, locs, cells, slots⟩ argsL.toArray v B ∧
      ∀ target, Steps p.tables e below (B.U.setTop { g with pc := g.pc + 3, stack := v.toList ++ rest }) target → Steps p.tables e below (T.setTop g) target) ∨
    (∃ (q : Addr) (vm₁ : Vm) (B : Pt), s.WarmedH vm₁ ∧ Stand p l e R s m args below meth c B.U B.locs B.cells B.slots ∧ PostX ⟨T.setVm vm₁, locs, cells, slots⟩ argsL.toArray q B ∧
      Steps p.tables e below (T.setTop g) ((B.U.setTop { g with stack := rest }).pushFrame (.throwing q))) := by
  obtain ⟨mk, methM, cM, hnamed, hmethM, -, -, -, -, -, -, hsigM⟩ := Cond.codeWith_spec hcode
  have hstatic : methM.isStatic = true := Cond.static_spec hnamed hmethM hstat
  obtain ⟨kP, hkP, -⟩ := className_of_methodNamed hnamed
  have hinitP : kP.init = .initialized := Cond.initialized_spec (findClass_of_methodNamed hnamed) hkP hinit
  obtain ⟨vm₁, X₁, hstep₁⟩ := X.invokestatic hexec hown hlink hnamed hmethM hstatic hkP hinitP hy (g := g) hg (argsL := argsL) (rest := rest) (hlen _ hsigM) hstack hdg
  rcases hK m meth c ⟨T.setVm vm₁, locs, cells, slots⟩ { g with stack := rest } (.invokestatic index) mk argsL.toArray X₁ hg hsize hdg hW (X₁.named hnamed) (hpre vm₁ X₁.warmed) with ⟨v, B, X', hpost, hsteps⟩ | ⟨q, B, X', hpost, hsteps⟩
  · exact Or.inl ⟨v, vm₁, B, X₁.warmed, X', hpost, fun target h => hstep₁ _ fun acts => by rw [doInvoke_state]; exact hsteps.trans h⟩
  · exact Or.inr ⟨q, vm₁, B, X₁.warmed, X', hpost, hstep₁ _ fun acts => by rw [doInvoke_state]; exact hsteps⟩
theorem vx_callVW (X : Stand p l e R s m args below meth c T locs cells slots) (hexec : p.tables.exec = Jvm.exec) {own C : String} {index : Nat} {y : MethodName} {bytes : ByteArray} {maxL : Nat} {ret : Option FieldType} {hh : List (Nat × Nat × Nat × Nat)}
    (hown : s.vm.findClass own = some m.cls) (hlink : (Cond.methodLink own index y).before args s = true) (hinst : (Cond.instanceMethod y).before args s = true) (hsel : (Cond.selects C y y).before args s = true)
    (hcode : (Cond.codeWith y bytes maxL ret hh).before args s = true) (hy : y.cls ≠ "java/lang/invoke/MethodHandle" ∧ y.cls ≠ "java/lang/invoke/VarHandle")
    {W9 : Nat} {Pre : Pt → Array Value → Prop} {Post : Pt → Array Value → Option Value → Pt → Prop} (hK : Back l R p e below s args y 3 W9 Pre Post)
    {b : Addr} {cellB : Cell} (hcell : T.heap[b]? = some cellB) (hobj : cellB.vm.isStatics = false) (hcls : s.vm.findClass C = some cellB.cls)
    {g : JFrame} (hg : g.method = m) (hsize : g.locals.size = c.maxLocals) {argsL rest : List Value} (hlen : ∀ sig, parseMethodDescriptor y.desc = some sig → argsL.length = sig.parameters.length)
    (hstack : g.stack = argsL.reverse ++ .ref b :: rest) (hW : 2 * g.monitorRoom + (rest.map fun v => v.category).sum ≤ W9) (hdg : decode c.code g.pc = .ok (.invokevirtual index, 3))
    (hpre : ∀ vm₁, s.WarmedH vm₁ → Pre ⟨T.setVm vm₁, locs, cells, slots⟩ (Value.ref b :: argsL).toArray) :
    ∃ (v : Option Value) (vm₁ : Vm) (B : Pt), s.WarmedH vm₁ ∧ Stand p l e R s m args below meth c B.U B.locs B.cells B.slots ∧ Post ⟨T.setVm vm₁, locs, cells, slots⟩ (Value.ref b :: argsL).toArray v B ∧
      ∀ target, Steps p.tables e below (B.U.setTop { g with pc := g.pc + 3, stack := v.toList ++ rest }) target → Steps p.tables e below (T.setTop g) target := by
  obtain ⟨mk, methM, hnamed, hmethM, hstM, habM⟩ := Cond.instanceMethod_spec hinst
  obtain ⟨m8, methM', cM, hn8, hmethM', -, -, -, -, -, -, hsigM⟩ := Cond.codeWith_spec hcode
  cases Option.some.inj (hn8.symm.trans hnamed)
  cases hmethM.symm.trans hmethM'
  obtain ⟨c2, r2, m2, q1, q2, q3, q4, kP, hkP, hkPi⟩ := Cond.selects_spec hsel
  cases hcls.symm.trans q1
  cases (State.methodFound?_of_named hnamed hy).symm.trans q2
  cases hnamed.symm.trans q3
  have hselP : selectMethod e.platform s.vm cellB.cls mk = .method mk := by rw [Launch.admits_selectMethod X.admits]; exact q4
  obtain ⟨vm₁, X₁, hstep₁⟩ := X.invokevirtual hexec hown hlink hnamed hmethM hstM hkP hkPi hy (a := b) (cell := cellB) hcell
    (fun z h => by rw [h] at hobj; cases hobj) hselP hmethM habM hkP hkPi (g := g) hg (argsL := argsL) (rest := rest) (hlen _ hsigM) hstack hdg
  obtain ⟨v, B, X', hpost, hsteps⟩ := hK m meth c ⟨T.setVm vm₁, locs, cells, slots⟩ { g with stack := rest } (.invokevirtual index) mk (Value.ref b :: argsL).toArray X₁ hg hsize hdg hW (X₁.named hnamed) (hpre vm₁ X₁.warmed)
  exact ⟨v, vm₁, B, X₁.warmed, X', hpost, fun target h => hstep₁ _ fun acts => by rw [doInvoke_state]; exact hsteps.trans h⟩
abbrev vx_CVW (R : Room) (s : State) (args : Array Value) (own C : String) (index : Nat) (y : MethodName) (bytes : ByteArray) (maxL : Nat) (ret : Option FieldType) (hh : List (Nat × Nat × Nat × Nat)) (ws : List Cond) (rm : Room) (mc ms n : Nat) : Prop :=
  (rm.cells = mc ∧ rm.slots = ms ∧ rm.frames + 1 ≤ R.frames ∧ 8 + (maxL + 11) + rm.locals ≤ R.locals ∧ (∀ w ∈ ws, ∀ (a' : Array Value) (U : State), s.WarmedH U.vm → w.before a' U = true) ∧ Cond.codeWith y bytes maxL ret hh ∈ ws) ∧
  (Cond.codeWith y bytes maxL ret hh).before args s = true ∧ (Cond.initialized y.cls).before args s = true ∧ (y.cls ≠ "java/lang/invoke/MethodHandle" ∧ y.cls ≠ "java/lang/invoke/VarHandle") ∧
  (∀ sig, parseMethodDescriptor y.desc = some sig → n = sig.parameters.length) ∧ (Cond.methodLink own index y).before args s = true ∧ (Cond.instanceMethod y).before args s = true ∧ (Cond.selects C y y).before args s = true
theorem vx_cwVW {own C : String} {index maxL mc ms : Nat} {y : MethodName} {bytes : ByteArray} {ret : Option FieldType} {hh : List (Nat × Nat × Nat × Nat)} {Ts ws ws' : List Cond} {rm : Room} (n : Nat) (ht : ∀ w ∈ Ts, w.before args s = true) (hT : GoodIn Ts (wsV own index C y ws)) (hw : ws = Cond.codeWith y bytes maxL ret hh :: ws') (hrc : rm.cells = mc) (hrs : rm.slots = ms)
    (hd : y.cls = C ∧ y.cls ≠ "java/lang/invoke/MethodHandle" ∧ y.cls ≠ "java/lang/invoke/VarHandle" ∧ (parseMethodDescriptor y.desc).map (fun d => d.parameters.length) = some n) (hR : rm.frames + 1 ≤ R.frames ∧ 8 + (maxL + 11) + rm.locals ≤ R.locals) :
    vx_CVW R s args own C index y bytes maxL ret hh ws rm mc ms n := by
  obtain ⟨hC, hd⟩ := hd
  subst hC
  have ok : ∀ w ∈ wsV own index y.cls y ws, w.before args s = true := fun w h => ht w (hT w h).1
  have hG : GoodIn Ts ws := fun w h => hT w (by unfold wsV; exact List.mem_append_right _ h)
  have hc : Cond.codeWith y bytes maxL ret hh ∈ ws := by rw [hw]; exact List.mem_cons_self
  refine ⟨⟨hrc, hrs, hR.1, hR.2, pay_in ht hG, hc⟩, ht _ (hG _ hc).1, ok _ (by simp [wsV]), ⟨hd.1, hd.2.1⟩, fun sig h => ?_, ok _ (by simp [wsV]), ok _ (by simp [wsV]), ok _ (by simp [wsV])⟩
  have h2 := hd.2.2
  rw [h] at h2
  exact (Option.some.inj h2).symm
theorem vx_runVW {y : MethodName} {bytes cc : ByteArray} {maxL nL mc ms n index : Nat} {ret : Option FieldType} {hh : List (Nat × Nat × Nat × Nat)} {ws : List Cond} {rm : Room} {Pc : Array Value → State → Prop} {Qc : Array Value → State → Outcome → State → Prop} {free : Addr → Prop} {Ts : List Cond} {own C : String} {b : Addr} {As rest : List Value} {g : JFrame}
    (S : CallFix p m c cc nL s args Ts own) (hM : Met l y ws rm Pc Qc mc ms free) (cw : vx_CVW R s args own C index y bytes maxL ret hh ws rm mc ms n) (hp : PreV s H C b Pc As)
    (hg : g.method = m) (hn : As.length = n) (hsize : g.locals.size = nL) (hstack : g.stack = As.reverse ++ .ref b :: rest) (hW : 2 * g.monitorRoom + (rest.map fun v => v.category).sum ≤ 8) (hdg : decode cc g.pc = .ok (.invokevirtual index, 3)) (hf : cells + mc ≤ R.cells ∧ slots + ms ≤ R.slots) :
    va_Run p l e R s m args below meth c H locs cells slots mc ms g rest (Qc (Value.ref b :: As).toArray) free := by
  obtain ⟨⟨hrc, hrs, hfr, hlo, hws, hcw⟩, hcode, hini, hy, hlen, hl, hin, hse⟩ := cw
  have hK : Back l R p e below s args y 3 8 (PreOf R mc ms Pc) (PostOf Qc mc ms free) := va_backW (hh := hh) (bytes := bytes) (maxL := maxL) (ret := ret) hM hp.1 hrc hrs hfr hlo hws hcw (fun a' U hW => word_at hW (Or.inl (by first | rfl | simp [Cond.onTables, Cond.keeps, Cond.steady])) hini)
  obtain ⟨hx, hb, hml, ho, -⟩ := S
  obtain ⟨-, ⟨cellB, hcB, hoB, hclB⟩, hPc⟩ := hp
  intro T hT X
  obtain ⟨v, vm₁, ⟨U', l2, c2, s2⟩, hW₁, X', ⟨g', mk, t, L, e1, e2, hq, h1, hL, h2, h3⟩, st⟩ := vx_callVW X hx (C := C) (hh := hh) (bytes := bytes) (maxL := maxL) (ret := ret) ho hl hin hse hcode hy hK (by rw [hT]; exact hcB) hoB hclB hg (hsize.trans hml.symm) (argsL := As) (rest := rest) (fun sig h => hn.trans (hlen sig h)) hstack hW (by rw [hb]; exact hdg)
    (fun vm₁ hW₁ => ⟨hf.1, hf.2, hPc (T.setVm vm₁) hT hW₁⟩)
  dsimp only [Pt.U, Pt.locs, Pt.cells, Pt.slots] at X' e1 e2 h1 h2 h3 st
  subst h1; subst h2; subst h3
  exact ⟨v, (T.setVm vm₁).calling g' mk (Value.ref b :: As).toArray, t, U', L, hT, X', hL, e1, e2, hq, st⟩
section
variable {y : MethodName} {bytes cc : ByteArray} {maxL nL mc ms n index : Nat} {ret : Option FieldType} {ws : List Cond} {rm : Room} {Pc : Array Value → State → Prop} {Qc : Array Value → State → Outcome → State → Prop} {XC : String → State → State → Prop} {free : Addr → Prop} {Ts : List Cond} {own C : String} {b : Addr} {As rest : List Value} {g : JFrame}
theorem vx_runVX {hh : List (Nat × Nat × Nat × Nat)} (S : CallFix p m c cc nL s args Ts own) (hM : vx_Met l y ws rm Pc Qc XC mc ms free) (cw : vx_CVW R s args own C index y bytes maxL ret hh ws rm mc ms n) (hp : PreV s H C b Pc As)
    (hg : g.method = m) (hn : As.length = n) (hsize : g.locals.size = nL) (hstack : g.stack = As.reverse ++ .ref b :: rest) (hW : 2 * g.monitorRoom + (rest.map fun v => v.category).sum ≤ 8) (hdg : decode cc g.pc = .ok (.invokevirtual index, 3)) (hf : cells + mc ≤ R.cells ∧ slots + ms ≤ R.slots) :
    vx_Run p l e R s m args below meth c H locs cells slots mc ms g rest (Qc (Value.ref b :: As).toArray) XC free := by
  obtain ⟨⟨hrc, hrs, hfr, hlo, hws, hcw⟩, hcode, hini, hy, hlen, hl, hin, hse⟩ := cw
  have hK : vx_Back l R p e below s args y 3 8 (PreOf R mc ms Pc) (PostOf Qc mc ms free) (vx_Post XC mc ms free) := vx_backW (hh := hh) (bytes := bytes) (maxL := maxL) (ret := ret) hM hp.1 hrc hrs hfr hlo hws hcw (fun a' U hW => word_at hW (Or.inl (by first | rfl | simp [Cond.onTables, Cond.keeps, Cond.steady])) hini)
  obtain ⟨hx, hb, hml, ho, -⟩ := S
  obtain ⟨-, ⟨cellB, hcB, hoB, hclB⟩, hPc⟩ := hp
  intro T hT X
  rcases vx_callVX X hx (C := C) (hh := hh) (bytes := bytes) (maxL := maxL) (ret := ret) ho hl hin hse hcode hy hK (by rw [hT]; exact hcB) hoB hclB hg (hsize.trans hml.symm) (argsL := As) (rest := rest) (fun sig h => hn.trans (hlen sig h)) hstack hW (by rw [hb]; exact hdg)
    (fun vm₁ hW₁ => ⟨hf.1, hf.2, hPc (T.setVm vm₁) hT hW₁⟩) with ⟨v, vm₁, ⟨U', l2, c2, s2⟩, hW₁, X', ⟨g', mk, t, L, e1, e2, hq, h1, hL, h2, h3⟩, st⟩ | ⟨q, vm₁, ⟨U', l2, c2, s2⟩, hW₁, X', ⟨g', mk, t, L, E, ce, e1, e2, hq, hce, hcv, hcl, h1, hL, h2, h3⟩, st⟩
  · dsimp only [Pt.U, Pt.locs, Pt.cells, Pt.slots] at X' e1 e2 h1 h2 h3 st
    subst h1; subst h2; subst h3
    exact Or.inl ⟨v, (T.setVm vm₁).calling g' mk (Value.ref b :: As).toArray, t, U', L, hT, X', hL, e1, e2, hq, st⟩
  · dsimp only [Pt.U, Pt.locs, Pt.cells, Pt.slots] at X' e1 e2 h1 h2 h3 st hcl
    subst h1; subst h2; subst h3
    exact Or.inr ⟨q, (T.setVm vm₁).calling g' mk (Value.ref b :: As).toArray, t, U', L, E, ce, hT, X', hL, e1, e2, hq, hce, hcv, vx_cls hW₁ hcl, st⟩
theorem vx_runSX {hh : List (Nat × Nat × Nat × Nat)} (S : CallFix p m c cc nL s args Ts own) (hM : vx_Met l y ws rm Pc Qc XC mc ms free) (cw : vx_CSW R s args own index y bytes maxL ret hh ws rm mc ms n) (hp : PreS s H Pc As)
    (hg : g.method = m) (hn : As.length = n) (hsize : g.locals.size = nL) (hstack : g.stack = As.reverse ++ rest) (hW : 2 * g.monitorRoom + (rest.map fun v => v.category).sum ≤ 8) (hdg : decode cc g.pc = .ok (.invokestatic index, 3)) (hf : cells + mc ≤ R.cells ∧ slots + ms ≤ R.slots) :
    vx_Run p l e R s m args below meth c H locs cells slots mc ms g rest (Qc As.toArray) XC free := by
  obtain ⟨⟨hrc, hrs, hfr, hlo, hws, hcw⟩, hcode, hini, hy, hlen, hl, hstt⟩ := cw
  have hK : vx_Back l R p e below s args y 3 8 (PreOf R mc ms Pc) (PostOf Qc mc ms free) (vx_Post XC mc ms free) := vx_backW (hh := hh) (bytes := bytes) (maxL := maxL) (ret := ret) hM hp.1 hrc hrs hfr hlo hws hcw (fun a' U hW => word_at hW (Or.inl (by first | rfl | simp [Cond.onTables, Cond.keeps, Cond.steady])) hini)
  obtain ⟨hx, hb, hml, ho, -⟩ := S
  intro T hT X
  rcases vx_callSX X hx (hh := hh) (bytes := bytes) (maxL := maxL) (ret := ret) ho hl hstt hini hcode hy hK hg (hsize.trans hml.symm) (argsL := As) (rest := rest) (fun sig h => hn.trans (hlen sig h)) hstack hW (by rw [hb]; exact hdg)
    (fun vm₁ hW₁ => ⟨hf.1, hf.2, hp.2 (T.setVm vm₁) hT hW₁⟩) with ⟨v, vm₁, ⟨U', l2, c2, s2⟩, hW₁, X', ⟨g', mk, t, L, e1, e2, hq, h1, hL, h2, h3⟩, st⟩ | ⟨q, vm₁, ⟨U', l2, c2, s2⟩, hW₁, X', ⟨g', mk, t, L, E, ce, e1, e2, hq, hce, hcv, hcl, h1, hL, h2, h3⟩, st⟩
  · dsimp only [Pt.U, Pt.locs, Pt.cells, Pt.slots] at X' e1 e2 h1 h2 h3 st
    subst h1; subst h2; subst h3
    exact Or.inl ⟨v, (T.setVm vm₁).calling g' mk As.toArray, t, U', L, hT, X', hL, e1, e2, hq, st⟩
  · dsimp only [Pt.U, Pt.locs, Pt.cells, Pt.slots] at X' e1 e2 h1 h2 h3 st hcl
    subst h1; subst h2; subst h3
    exact Or.inr ⟨q, (T.setVm vm₁).calling g' mk As.toArray, t, U', L, E, ce, hT, X', hL, e1, e2, hq, hce, hcv, vx_cls hW₁ hcl, st⟩
end
end VXH
theorem vx_ofWH {l : Launch} {y : MethodName} {ws ws' : List Cond} {rm : Room} {Pc : Array Value → State → Prop} {Qc : Array Value → State → Outcome → State → Prop} {XC : String → State → State → Prop} {mc ms : Nat} {free : Addr → Prop} {cc : ByteArray} {maxL : Nat} {ret : Option FieldType} {hh : List (Nat × Nat × Nat × Nat)}
    (hy : plainName y.cls = true) (hw : ws = Cond.codeWith y cc maxL ret hh :: ws')
    (body : ∀ p e s m args below meth c s₁, BodyLoose p l y (headSpec ws rm) cc maxL ret e s m args below meth c s₁ → c.maxLocals = maxL → Pc args s →
      W p l e (headSpec ws rm).room s m args below meth c s.heap [] 0 0 (vx_MQ below Qc XC args s mc ms free) (entryFrame m args maxL)) : vx_Met l y ws rm Pc Qc XC mc ms free := by
  refine MetFree.of_bodyS (code := cc) (maxLocals := maxL) (ret := ret) hy ?_ ?_
  · intro args s m h hn
    obtain ⟨m9, meth, c, hn9, h1, h2, h3, h4, -, h5, h6, -⟩ := Cond.codeWith_spec (atoms_spec (ws := ws) h _ (by rw [hw]; exact List.mem_cons_self))
    cases hn.symm.trans hn9
    exact ⟨meth, c, h1, h2, h3, h4, h5, h6⟩
  · intro p e s m args below meth c s₁ B hml hP _
    have hh0 : s₁.heap = s.heap := by rw [B.state]; rfl
    obtain ⟨t, a1, o, b1, b2, b3⟩ := body p e s m args below meth c s₁ B hml hP s₁ hh0 (Stand.of_body B)
    exact ⟨t, o, a1, b1, b2, b3⟩
/-! ===== END ===== -/

/-! ===== BEGIN printed: names, fields, word lists, decode rows ===== -/
def RX0 : String := "GatedLinks$PlannedStream"
def TX0 : u_T := fun k => match k with
  | 0 => ("GatedLinks$PlannedStream", "period", "I", true)
  | 1 => ("GatedLinks$PlannedStream", "size", "I", true)
  | 2 => ("GatedLinks$PlannedStream", "deadline", "I", true)
  | 3 => ("GatedLinks$PlannedStream", "path", "[I", true)
  | 4 => ("GatedLinks$PlannedStream", "begins", "[I", true)
  | 5 => ("GatedLinks$PlannedStream", "ends", "[I", true)
  | 6 => ("GatedLinks$PlannedStream", "spans", "[I", true)
  | _ => ("GatedLinks$PlannedStream", "start", "I", false)
def tyX0 : Nat → FieldType := fun k => match k with
  | 0 => .int
  | 1 => .int
  | 2 => .int
  | 3 => .array .int
  | 4 => .array .int
  | 5 => .array .int
  | 6 => .array .int
  | _ => .int
abbrev wsX00 : List Cond := u_ws RX0 TX0 8
theorem nmX0 : ∀ a, a < 8 → ∀ b, b < 8 → a ≠ b → (TX0 a).2.1 ≠ (TX0 b).2.1 := by decide +kernel
theorem tyX0_ok : ∀ k, k < 8 → parseFieldDescriptor (TX0 k).2.2.1 = some (tyX0 k) := by decide +kernel
abbrev cX0_init : ByteArray := prog_2_method_1_code
def yX0_init : MethodName := ⟨RX0, "<init>", "(LGatedLinks$Stream;[I)V"⟩
abbrev cX0_spansFrom : ByteArray := prog_2_method_2_code
def yX0_spansFrom : MethodName := ⟨RX0, "spansFrom", "(III)I"⟩
abbrev cX0_latency : ByteArray := prog_2_method_3_code
def yX0_latency : MethodName := ⟨RX0, "latency", "()I"⟩
abbrev cX0_spansWith : ByteArray := prog_2_method_4_code
def yX0_spansWith : MethodName := ⟨RX0, "spansWith", "(II)I"⟩
abbrev cX0_hasSpanAt : ByteArray := prog_2_method_5_code
def yX0_hasSpanAt : MethodName := ⟨RX0, "hasSpanAt", "(II)Z"⟩
abbrev cX0_hopOn : ByteArray := prog_2_method_6_code
def yX0_hopOn : MethodName := ⟨RX0, "hopOn", "(I)I"⟩
abbrev cX0_beginsAt : ByteArray := prog_2_method_7_code
def yX0_beginsAt : MethodName := ⟨RX0, "beginsAt", "(I)Z"⟩
def RX1 : String := "GatedLinks$Port"
def TX1 : u_T := fun k => match k with
  | 0 => ("GatedLinks$Port", "isCut", "Z", false)
  | 1 => ("GatedLinks$Port", "waiting", "I", false)
  | 2 => ("GatedLinks$Port", "sizes", "[I", true)
  | 3 => ("GatedLinks$Port", "busy", "I", false)
  | _ => ("GatedLinks$Port", "done", "I", false)
def tyX1 : Nat → FieldType := fun k => match k with
  | 0 => .boolean
  | 1 => .int
  | 2 => .array .int
  | 3 => .int
  | _ => .int
abbrev wsX10 : List Cond := u_ws RX1 TX1 5
theorem nmX1 : ∀ a, a < 5 → ∀ b, b < 5 → a ≠ b → (TX1 a).2.1 ≠ (TX1 b).2.1 := by decide +kernel
theorem tyX1_ok : ∀ k, k < 5 → parseFieldDescriptor (TX1 k).2.2.1 = some (tyX1 k) := by decide +kernel
abbrev cX1_init : ByteArray := prog_3_method_1_code
def yX1_init : MethodName := ⟨RX1, "<init>", "()V"⟩
abbrev cX1_append : ByteArray := prog_3_method_2_code
def yX1_append : MethodName := ⟨RX1, "append", "(I)V"⟩
abbrev cX1_canBegin : ByteArray := prog_3_method_3_code
def yX1_canBegin : MethodName := ⟨RX1, "canBegin", "()Z"⟩
abbrev cX1_beginFirst : ByteArray := prog_3_method_4_code
def yX1_beginFirst : MethodName := ⟨RX1, "beginFirst", "()V"⟩
abbrev cX1_endTick : ByteArray := prog_3_method_5_code
def yX1_endTick : MethodName := ⟨RX1, "endTick", "()V"⟩
def RX2 : String := "GatedLinks$Schedule"
def TX2 : u_T := fun k => match k with
  | _ => ("GatedLinks$Schedule", "planned", "[LGatedLinks$PlannedStream;", true)
def tyX2 : Nat → FieldType := fun k => match k with
  | _ => .array (.object "GatedLinks$PlannedStream")
abbrev wsX20 : List Cond := u_ws RX2 TX2 1
theorem nmX2 : ∀ a, a < 1 → ∀ b, b < 1 → a ≠ b → (TX2 a).2.1 ≠ (TX2 b).2.1 := by decide +kernel
theorem tyX2_ok : ∀ k, k < 1 → parseFieldDescriptor (TX2 k).2.2.1 = some (tyX2 k) := by decide +kernel
abbrev cX2_init : ByteArray := prog_4_method_1_code
def yX2_init : MethodName := ⟨RX2, "<init>", "([LGatedLinks$PlannedStream;)V"⟩
abbrev cX2_ownerOf : ByteArray := prog_4_method_2_code
def yX2_ownerOf : MethodName := ⟨RX2, "ownerOf", "(II)I"⟩
abbrev cX2_isFree : ByteArray := prog_4_method_3_code
def yX2_isFree : MethodName := ⟨RX2, "isFree", "(III)Z"⟩
def RX3 : String := "GatedLinks$Search"
def TX3 : u_T := fun k => match k with
  | 0 => ("GatedLinks$Search", "made", "I", false)
  | 1 => ("GatedLinks$Search", "next", "[I", true)
  | _ => ("GatedLinks$Search", "taken", "[[I", true)
def tyX3 : Nat → FieldType := fun k => match k with
  | 0 => .int
  | 1 => .array .int
  | _ => .array (.array .int)
abbrev wsX30 : List Cond := u_ws RX3 TX3 3
theorem nmX3 : ∀ a, a < 3 → ∀ b, b < 3 → a ≠ b → (TX3 a).2.1 ≠ (TX3 b).2.1 := by decide +kernel
theorem tyX3_ok : ∀ k, k < 3 → parseFieldDescriptor (TX3 k).2.2.1 = some (tyX3 k) := by decide +kernel
abbrev cX3_init : ByteArray := prog_5_method_1_code
def yX3_init : MethodName := ⟨RX3, "<init>", "()V"⟩
abbrev cX3_run : ByteArray := prog_5_method_2_code
def yX3_run : MethodName := ⟨RX3, "run", "([LGatedLinks$PlannedStream;I)I"⟩
abbrev cX3_fits : ByteArray := prog_5_method_3_code
def yX3_fits : MethodName := ⟨RX3, "fits", "(LGatedLinks$PlannedStream;I)Z"⟩
abbrev cX3_isTaken : ByteArray := prog_5_method_4_code
def yX3_isTaken : MethodName := ⟨RX3, "isTaken", "(LGatedLinks$PlannedStream;I[I)Z"⟩
def RX4 : String := "GatedLinks$Stream"
def TX4 : u_T := fun k => match k with
  | 0 => ("GatedLinks$Stream", "period", "I", true)
  | 1 => ("GatedLinks$Stream", "size", "I", true)
  | 2 => ("GatedLinks$Stream", "deadline", "I", true)
  | _ => ("GatedLinks$Stream", "path", "[I", true)
def tyX4 : Nat → FieldType := fun k => match k with
  | 0 => .int
  | 1 => .int
  | 2 => .int
  | _ => .array .int
abbrev wsX40 : List Cond := u_ws RX4 TX4 4
theorem nmX4 : ∀ a, a < 4 → ∀ b, b < 4 → a ≠ b → (TX4 a).2.1 ≠ (TX4 b).2.1 := by decide +kernel
theorem tyX4_ok : ∀ k, k < 4 → parseFieldDescriptor (TX4 k).2.2.1 = some (tyX4 k) := by decide +kernel
abbrev cX4_init : ByteArray := prog_6_method_1_code
def yX4_init : MethodName := ⟨RX4, "<init>", "(III[I)V"⟩
def RX5 : String := "GatedLinks$Talker"
def TX5 : u_T := fun k => match k with
  | 0 => ("GatedLinks$Talker", "planned", "LGatedLinks$PlannedStream;", false)
  | 1 => ("GatedLinks$Talker", "isOn", "Z", false)
  | 2 => ("GatedLinks$Talker", "late", "I", false)
  | 3 => ("GatedLinks$Talker", "isBlocked", "Z", false)
  | 4 => ("GatedLinks$Talker", "onWay", "I", false)
  | 5 => ("GatedLinks$Talker", "got", "I", false)
  | 6 => ("GatedLinks$Talker", "lost", "I", false)
  | 7 => ("GatedLinks$Talker", "dropped", "I", false)
  | 8 => ("GatedLinks$Talker", "latency", "I", false)
  | _ => ("GatedLinks$Talker", "starts", "[I", true)
def tyX5 : Nat → FieldType := fun k => match k with
  | 0 => .object "GatedLinks$PlannedStream"
  | 1 => .boolean
  | 2 => .int
  | 3 => .boolean
  | 4 => .int
  | 5 => .int
  | 6 => .int
  | 7 => .int
  | 8 => .int
  | _ => .array .int
abbrev wsX50 : List Cond := u_ws RX5 TX5 10
theorem nmX5 : ∀ a, a < 10 → ∀ b, b < 10 → a ≠ b → (TX5 a).2.1 ≠ (TX5 b).2.1 := by decide +kernel
theorem tyX5_ok : ∀ k, k < 10 → parseFieldDescriptor (TX5 k).2.2.1 = some (tyX5 k) := by decide +kernel
abbrev cX5_init : ByteArray := prog_7_method_1_code
def yX5_init : MethodName := ⟨RX5, "<init>", "()V"⟩
abbrev cX5_startAnew : ByteArray := prog_7_method_2_code
def yX5_startAnew : MethodName := ⟨RX5, "startAnew", "(LGatedLinks$PlannedStream;)V"⟩
abbrev cX5_speak : ByteArray := prog_7_method_3_code
def yX5_speak : MethodName := ⟨RX5, "speak", "(I)V"⟩
abbrev cX5_moveFrames : ByteArray := prog_7_method_4_code
def yX5_moveFrames : MethodName := ⟨RX5, "moveFrames", "(I[LGatedLinks$Port;)V"⟩
abbrev cX5_beginsOnCut : ByteArray := prog_7_method_5_code
def yX5_beginsOnCut : MethodName := ⟨RX5, "beginsOnCut", "(I[LGatedLinks$Port;)Z"⟩
abbrev cX5_loseOn : ByteArray := prog_7_method_6_code
def yX5_loseOn : MethodName := ⟨RX5, "loseOn", "(II)V"⟩
abbrev cX5_hasFrameOn : ByteArray := prog_7_method_7_code
def yX5_hasFrameOn : MethodName := ⟨RX5, "hasFrameOn", "(II)Z"⟩
def RX6 : String := "GatedLinks"
def TX6 : u_T := fun k => match k with
  | 0 => ("GatedLinks", "delays", "[I", true)
  | 1 => ("GatedLinks", "added", "[LGatedLinks$Stream;", true)
  | 2 => ("GatedLinks", "addedCount", "I", false)
  | 3 => ("GatedLinks", "search", "LGatedLinks$Search;", true)
  | 4 => ("GatedLinks", "found", "LGatedLinks$Schedule;", false)
  | 5 => ("GatedLinks", "awaited", "LGatedLinks$Schedule;", false)
  | 6 => ("GatedLinks", "inForce", "LGatedLinks$Schedule;", false)
  | 7 => ("GatedLinks", "talkers", "[LGatedLinks$Talker;", true)
  | 8 => ("GatedLinks", "ports", "[LGatedLinks$Port;", true)
  | _ => ("GatedLinks", "time", "I", false)
def tyX6 : Nat → FieldType := fun k => match k with
  | 0 => .array .int
  | 1 => .array (.object "GatedLinks$Stream")
  | 2 => .int
  | 3 => .object "GatedLinks$Search"
  | 4 => .object "GatedLinks$Schedule"
  | 5 => .object "GatedLinks$Schedule"
  | 6 => .object "GatedLinks$Schedule"
  | 7 => .array (.object "GatedLinks$Talker")
  | 8 => .array (.object "GatedLinks$Port")
  | _ => .int
abbrev wsX60 : List Cond := u_ws RX6 TX6 10
theorem nmX6 : ∀ a, a < 10 → ∀ b, b < 10 → a ≠ b → (TX6 a).2.1 ≠ (TX6 b).2.1 := by decide +kernel
theorem tyX6_ok : ∀ k, k < 10 → parseFieldDescriptor (TX6 k).2.2.1 = some (tyX6 k) := by decide +kernel
abbrev cX6_init : ByteArray := prog_1_method_1_code
def yX6_init : MethodName := ⟨RX6, "<init>", "()V"⟩
abbrev cX6_delay : ByteArray := prog_1_method_2_code
def yX6_delay : MethodName := ⟨RX6, "delay", "(II)V"⟩
abbrev cX6_stream : ByteArray := prog_1_method_3_code
def yX6_stream : MethodName := ⟨RX6, "stream", "(IIIIII)I"⟩
abbrev cX6_clear : ByteArray := prog_1_method_4_code
def yX6_clear : MethodName := ⟨RX6, "clear", "()V"⟩
abbrev cX6_build : ByteArray := prog_1_method_5_code
def yX6_build : MethodName := ⟨RX6, "build", "(I)I"⟩
abbrev cX6_tries : ByteArray := prog_1_method_6_code
def yX6_tries : MethodName := ⟨RX6, "tries", "()I"⟩
abbrev cX6_offset : ByteArray := prog_1_method_7_code
def yX6_offset : MethodName := ⟨RX6, "offset", "(I)I"⟩
abbrev cX6_gate : ByteArray := prog_1_method_8_code
def yX6_gate : MethodName := ⟨RX6, "gate", "(II)I"⟩
abbrev cX6_activate : ByteArray := prog_1_method_9_code
def yX6_activate : MethodName := ⟨RX6, "activate", "()V"⟩
abbrev cX6_tick : ByteArray := prog_1_method_10_code
def yX6_tick : MethodName := ⟨RX6, "tick", "(I)I"⟩
abbrev cX6_talk : ByteArray := prog_1_method_11_code
def yX6_talk : MethodName := ⟨RX6, "talk", "(IZI)V"⟩
abbrev cX6_unblock : ByteArray := prog_1_method_12_code
def yX6_unblock : MethodName := ⟨RX6, "unblock", "(I)Z"⟩
abbrev cX6_cut : ByteArray := prog_1_method_13_code
def yX6_cut : MethodName := ⟨RX6, "cut", "(IZ)Z"⟩
abbrev cX6_babble : ByteArray := prog_1_method_14_code
def yX6_babble : MethodName := ⟨RX6, "babble", "(II)I"⟩
abbrev cX6_told : ByteArray := prog_1_method_15_code
def yX6_told : MethodName := ⟨RX6, "told", "(II)I"⟩
abbrev cX6_link : ByteArray := prog_1_method_16_code
def yX6_link : MethodName := ⟨RX6, "link", "(II)I"⟩
abbrev cX6_streams : ByteArray := prog_1_method_17_code
def yX6_streams : MethodName := ⟨RX6, "streams", "(I)I"⟩
abbrev cX6_requireLink : ByteArray := prog_1_method_18_code
def yX6_requireLink : MethodName := ⟨RX6, "requireLink", "(I)V"⟩
abbrev cX6_requireLinkOrNone : ByteArray := prog_1_method_19_code
def yX6_requireLinkOrNone : MethodName := ⟨RX6, "requireLinkOrNone", "(I)V"⟩
abbrev cX6_requireFound : ByteArray := prog_1_method_20_code
def yX6_requireFound : MethodName := ⟨RX6, "requireFound", "()V"⟩
abbrev cX6_requireInForce : ByteArray := prog_1_method_21_code
def yX6_requireInForce : MethodName := ⟨RX6, "requireInForce", "(I)V"⟩
abbrev cX6_isLink : ByteArray := prog_1_method_22_code
def yX6_isLink : MethodName := ⟨RX6, "isLink", "(I)Z"⟩
abbrev cX6_isPeriod : ByteArray := prog_1_method_23_code
def yX6_isPeriod : MethodName := ⟨RX6, "isPeriod", "(I)Z"⟩
abbrev cX6_isPath : ByteArray := prog_1_method_24_code
def yX6_isPath : MethodName := ⟨RX6, "isPath", "(III)Z"⟩
abbrev cX6_pathOf : ByteArray := prog_1_method_25_code
def yX6_pathOf : MethodName := ⟨RX6, "pathOf", "(III)[I"⟩
abbrev cX6_streamsOf : ByteArray := prog_1_method_26_code
def yX6_streamsOf : MethodName := ⟨RX6, "streamsOf", "(LGatedLinks$Schedule;)I"⟩
abbrev cX6_talking : ByteArray := prog_1_method_27_code
def yX6_talking : MethodName := ⟨RX6, "talking", "()I"⟩
abbrev cX6_passOneTick : ByteArray := prog_1_method_28_code
def yX6_passOneTick : MethodName := ⟨RX6, "passOneTick", "()V"⟩
abbrev cX6_isTimeToChange : ByteArray := prog_1_method_29_code
def yX6_isTimeToChange : MethodName := ⟨RX6, "isTimeToChange", "()Z"⟩
abbrev cX6_comeIntoForce : ByteArray := prog_1_method_30_code
def yX6_comeIntoForce : MethodName := ⟨RX6, "comeIntoForce", "()V"⟩
abbrev cX6_beginWaiting : ByteArray := prog_1_method_31_code
def yX6_beginWaiting : MethodName := ⟨RX6, "beginWaiting", "(I)V"⟩
abbrev cX6_loseAllOn : ByteArray := prog_1_method_32_code
def yX6_loseAllOn : MethodName := ⟨RX6, "loseAllOn", "(I)V"⟩
abbrev cX6_whatIsOn : ByteArray := prog_1_method_33_code
def yX6_whatIsOn : MethodName := ⟨RX6, "whatIsOn", "(I)I"⟩
def RX7 : String := "GatedLinksModel"
def TX7 : u_T := fun k => match k with
  | 0 => ("GatedLinksModel", "thrown", "I", false)
  | 1 => ("GatedLinksModel", "delays", "[I", true)
  | 2 => ("GatedLinksModel", "streams", "I", false)
  | 3 => ("GatedLinksModel", "period", "[I", true)
  | 4 => ("GatedLinksModel", "size", "[I", true)
  | 5 => ("GatedLinksModel", "deadline", "[I", true)
  | 6 => ("GatedLinksModel", "path", "[I", true)
  | 7 => ("GatedLinksModel", "count", "[I", true)
  | 8 => ("GatedLinksModel", "periods", "[I", true)
  | 9 => ("GatedLinksModel", "sizes", "[I", true)
  | 10 => ("GatedLinksModel", "offsets", "[I", true)
  | 11 => ("GatedLinksModel", "links", "[I", true)
  | 12 => ("GatedLinksModel", "after", "[I", true)
  | 13 => ("GatedLinksModel", "tries", "I", false)
  | 14 => ("GatedLinksModel", "trial", "[I", true)
  | 15 => ("GatedLinksModel", "time", "I", false)
  | 16 => ("GatedLinksModel", "off", "[Z", true)
  | 17 => ("GatedLinksModel", "late", "[I", true)
  | 18 => ("GatedLinksModel", "blocked", "[Z", true)
  | 19 => ("GatedLinksModel", "got", "[I", true)
  | 20 => ("GatedLinksModel", "lost", "[I", true)
  | 21 => ("GatedLinksModel", "dropped", "[I", true)
  | 22 => ("GatedLinksModel", "latency", "[I", true)
  | 23 => ("GatedLinksModel", "flying", "I", false)
  | 24 => ("GatedLinksModel", "whose", "[I", true)
  | 25 => ("GatedLinksModel", "since", "[I", true)
  | 26 => ("GatedLinksModel", "cut", "[Z", true)
  | 27 => ("GatedLinksModel", "waiting", "[I", true)
  | 28 => ("GatedLinksModel", "queue", "[I", true)
  | 29 => ("GatedLinksModel", "busy", "[I", true)
  | _ => ("GatedLinksModel", "done", "[I", true)
def tyX7 : Nat → FieldType := fun k => match k with
  | 0 => .int
  | 1 => .array .int
  | 2 => .int
  | 3 => .array .int
  | 4 => .array .int
  | 5 => .array .int
  | 6 => .array .int
  | 7 => .array .int
  | 8 => .array .int
  | 9 => .array .int
  | 10 => .array .int
  | 11 => .array .int
  | 12 => .array .int
  | 13 => .int
  | 14 => .array .int
  | 15 => .int
  | 16 => .array .boolean
  | 17 => .array .int
  | 18 => .array .boolean
  | 19 => .array .int
  | 20 => .array .int
  | 21 => .array .int
  | 22 => .array .int
  | 23 => .int
  | 24 => .array .int
  | 25 => .array .int
  | 26 => .array .boolean
  | 27 => .array .int
  | 28 => .array .int
  | 29 => .array .int
  | _ => .array .int
abbrev wsX70 : List Cond := u_ws RX7 TX7 31
theorem nmX7 : ∀ a, a < 31 → ∀ b, b < 31 → a ≠ b → (TX7 a).2.1 ≠ (TX7 b).2.1 := by decide +kernel
theorem tyX7_ok : ∀ k, k < 31 → parseFieldDescriptor (TX7 k).2.2.1 = some (tyX7 k) := by decide +kernel
abbrev cX7_init : ByteArray := prog_9_method_1_code
def yX7_init : MethodName := ⟨RX7, "<init>", "()V"⟩
abbrev cX7_thrown : ByteArray := prog_9_method_2_code
def yX7_thrown : MethodName := ⟨RX7, "thrown", "()I"⟩
abbrev cX7_isLink : ByteArray := prog_9_method_4_code
def yX7_isLink : MethodName := ⟨RX7, "isLink", "(I)Z"⟩
abbrev cX7_delay : ByteArray := prog_9_method_5_code
def yX7_delay : MethodName := ⟨RX7, "delay", "(II)V"⟩
abbrev cX7_stream : ByteArray := prog_9_method_6_code
def yX7_stream : MethodName := ⟨RX7, "stream", "(IIIIII)I"⟩
abbrev cX7_clear : ByteArray := prog_9_method_7_code
def yX7_clear : MethodName := ⟨RX7, "clear", "()V"⟩
abbrev cX7_begins : ByteArray := prog_9_method_8_code
def yX7_begins : MethodName := ⟨RX7, "begins", "(II)I"⟩
abbrev cX7_isOnTime : ByteArray := prog_9_method_9_code
def yX7_isOnTime : MethodName := ⟨RX7, "isOnTime", "(I)Z"⟩
abbrev cX7_modulo : ByteArray := prog_9_method_10_code
def yX7_modulo : MethodName := ⟨RX7, "modulo", "(II)I"⟩
abbrev cX7_meet : ByteArray := prog_9_method_11_code
def yX7_meet : MethodName := ⟨RX7, "meet", "(IIIIII)Z"⟩
abbrev cX7_streamsMeet : ByteArray := prog_9_method_12_code
def yX7_streamsMeet : MethodName := ⟨RX7, "streamsMeet", "(II)Z"⟩
abbrev cX7_isGood : ByteArray := prog_9_method_13_code
def yX7_isGood : MethodName := ⟨RX7, "isGood", "(I)Z"⟩
abbrev cX7_keep : ByteArray := prog_9_method_14_code
def yX7_keep : MethodName := ⟨RX7, "keep", "()V"⟩
abbrev cX7_build : ByteArray := prog_9_method_15_code
def yX7_build : MethodName := ⟨RX7, "build", "(I)I"⟩
abbrev cX7_tries : ByteArray := prog_9_method_16_code
def yX7_tries : MethodName := ⟨RX7, "tries", "()I"⟩
abbrev cX7_offset : ByteArray := prog_9_method_17_code
def yX7_offset : MethodName := ⟨RX7, "offset", "(I)I"⟩
abbrev cX7_beginsIn : ByteArray := prog_9_method_18_code
def yX7_beginsIn : MethodName := ⟨RX7, "beginsIn", "(III)I"⟩
abbrev cX7_spanOf : ByteArray := prog_9_method_19_code
def yX7_spanOf : MethodName := ⟨RX7, "spanOf", "(III)I"⟩
abbrev cX7_gate : ByteArray := prog_9_method_20_code
def yX7_gate : MethodName := ⟨RX7, "gate", "(II)I"⟩
abbrev cX7_copy : ByteArray := prog_9_method_21_code
def yX7_copy : MethodName := ⟨RX7, "copy", "(II)V"⟩
abbrev cX7_activate : ByteArray := prog_9_method_22_code
def yX7_activate : MethodName := ⟨RX7, "activate", "()V"⟩
abbrev cX7_isQuiet : ByteArray := prog_9_method_23_code
def yX7_isQuiet : MethodName := ⟨RX7, "isQuiet", "()Z"⟩
abbrev cX7_comeIntoForce : ByteArray := prog_9_method_24_code
def yX7_comeIntoForce : MethodName := ⟨RX7, "comeIntoForce", "()V"⟩
abbrev cX7_talkAll : ByteArray := prog_9_method_25_code
def yX7_talkAll : MethodName := ⟨RX7, "talkAll", "()V"⟩
abbrev cX7_linkOf : ByteArray := prog_9_method_26_code
def yX7_linkOf : MethodName := ⟨RX7, "linkOf", "(II)I"⟩
abbrev cX7_beginOf : ByteArray := prog_9_method_27_code
def yX7_beginOf : MethodName := ⟨RX7, "beginOf", "(II)I"⟩
abbrev cX7_throughOf : ByteArray := prog_9_method_28_code
def yX7_throughOf : MethodName := ⟨RX7, "throughOf", "(II)I"⟩
abbrev cX7_lastOf : ByteArray := prog_9_method_29_code
def yX7_lastOf : MethodName := ⟨RX7, "lastOf", "(I)I"⟩
abbrev cX7_remove : ByteArray := prog_9_method_30_code
def yX7_remove : MethodName := ⟨RX7, "remove", "(I)V"⟩
abbrev cX7_isLost : ByteArray := prog_9_method_31_code
def yX7_isLost : MethodName := ⟨RX7, "isLost", "(I)Z"⟩
abbrev cX7_flyAll : ByteArray := prog_9_method_32_code
def yX7_flyAll : MethodName := ⟨RX7, "flyAll", "()V"⟩
abbrev cX7_isFree : ByteArray := prog_9_method_33_code
def yX7_isFree : MethodName := ⟨RX7, "isFree", "(II)Z"⟩
abbrev cX7_serve : ByteArray := prog_9_method_34_code
def yX7_serve : MethodName := ⟨RX7, "serve", "(I)V"⟩
abbrev cX7_tickOnce : ByteArray := prog_9_method_35_code
def yX7_tickOnce : MethodName := ⟨RX7, "tickOnce", "()V"⟩
abbrev cX7_tick : ByteArray := prog_9_method_36_code
def yX7_tick : MethodName := ⟨RX7, "tick", "(I)I"⟩
abbrev cX7_isTalker : ByteArray := prog_9_method_37_code
def yX7_isTalker : MethodName := ⟨RX7, "isTalker", "(I)Z"⟩
abbrev cX7_talk : ByteArray := prog_9_method_38_code
def yX7_talk : MethodName := ⟨RX7, "talk", "(IZI)V"⟩
abbrev cX7_unblock : ByteArray := prog_9_method_39_code
def yX7_unblock : MethodName := ⟨RX7, "unblock", "(I)Z"⟩
abbrev cX7_isHit : ByteArray := prog_9_method_40_code
def yX7_isHit : MethodName := ⟨RX7, "isHit", "(II)Z"⟩
abbrev cX7_cut : ByteArray := prog_9_method_41_code
def yX7_cut : MethodName := ⟨RX7, "cut", "(IZ)Z"⟩
abbrev cX7_babble : ByteArray := prog_9_method_42_code
def yX7_babble : MethodName := ⟨RX7, "babble", "(II)I"⟩
abbrev cX7_told : ByteArray := prog_9_method_43_code
def yX7_told : MethodName := ⟨RX7, "told", "(II)I"⟩
abbrev cX7_on : ByteArray := prog_9_method_44_code
def yX7_on : MethodName := ⟨RX7, "on", "(I)I"⟩
abbrev cX7_link : ByteArray := prog_9_method_45_code
def yX7_link : MethodName := ⟨RX7, "link", "(II)I"⟩
abbrev cX7_streams : ByteArray := prog_9_method_46_code
def yX7_streams : MethodName := ⟨RX7, "streams", "(I)I"⟩
def RJ0 : String := "java/lang/String"
def TJ0 : u_T := fun k => match k with
  | _ => ("", "", "", false)
def tyJ0 : Nat → FieldType := fun k => match k with
  | _ => .int
abbrev wsJ00 : List Cond := u_ws RJ0 TJ0 0
theorem nmJ0 : ∀ a, a < 0 → ∀ b, b < 0 → a ≠ b → (TJ0 a).2.1 ≠ (TJ0 b).2.1 := by decide +kernel
theorem tyJ0_ok : ∀ k, k < 0 → parseFieldDescriptor (TJ0 k).2.2.1 = some (tyJ0 k) := by decide +kernel
def RJ10 : String := "java/lang/System"
def TJ10 : u_T := fun k => match k with
  | _ => ("", "", "", false)
def tyJ10 : Nat → FieldType := fun k => match k with
  | _ => .int
abbrev wsJ100 : List Cond := u_ws RJ10 TJ10 0
theorem nmJ10 : ∀ a, a < 0 → ∀ b, b < 0 → a ≠ b → (TJ10 a).2.1 ≠ (TJ10 b).2.1 := by decide +kernel
theorem tyJ10_ok : ∀ k, k < 0 → parseFieldDescriptor (TJ10 k).2.2.1 = some (tyJ10 k) := by decide +kernel
def RL : String := "GatedLinksLaw"
abbrev cL_delay : ByteArray := method_3_code
def yL_delay : MethodName := ⟨RL, "delay", "(LGatedLinks;II)I"⟩
abbrev cL_stream : ByteArray := method_4_code
def yL_stream : MethodName := ⟨RL, "stream", "(LGatedLinks;IIIIII[J)I"⟩
abbrev cL_build : ByteArray := method_5_code
def yL_build : MethodName := ⟨RL, "build", "(LGatedLinks;I[J)I"⟩
abbrev cL_offset : ByteArray := method_6_code
def yL_offset : MethodName := ⟨RL, "offset", "(LGatedLinks;I[J)I"⟩
abbrev cL_gate : ByteArray := method_7_code
def yL_gate : MethodName := ⟨RL, "gate", "(LGatedLinks;II[J)I"⟩
abbrev cL_activate : ByteArray := method_8_code
def yL_activate : MethodName := ⟨RL, "activate", "(LGatedLinks;)I"⟩
abbrev cL_tick : ByteArray := method_9_code
def yL_tick : MethodName := ⟨RL, "tick", "(LGatedLinks;I[J)I"⟩
abbrev cL_talk : ByteArray := method_10_code
def yL_talk : MethodName := ⟨RL, "talk", "(LGatedLinks;IZI)I"⟩
abbrev cL_unblock : ByteArray := method_11_code
def yL_unblock : MethodName := ⟨RL, "unblock", "(LGatedLinks;I[J)I"⟩
abbrev cL_cut : ByteArray := method_12_code
def yL_cut : MethodName := ⟨RL, "cut", "(LGatedLinks;IZ[J)I"⟩
abbrev cL_babble : ByteArray := method_13_code
def yL_babble : MethodName := ⟨RL, "babble", "(LGatedLinks;II[J)I"⟩
abbrev cL_told : ByteArray := method_14_code
def yL_told : MethodName := ⟨RL, "told", "(LGatedLinks;II[J)I"⟩
abbrev cL_link : ByteArray := method_15_code
def yL_link : MethodName := ⟨RL, "link", "(LGatedLinks;II[J)I"⟩
abbrev cL_streams : ByteArray := method_16_code
def yL_streams : MethodName := ⟨RL, "streams", "(LGatedLinks;I[J)I"⟩
abbrev cL_law : ByteArray := code
def yL_law : MethodName := ⟨RL, "law", "([I)Z"⟩
end
section
theorem dX0_init_0 : decode cX0_init 0 = .ok (.aload_n 0, 1) := by decide +kernel
theorem dX0_init_1 : decode cX0_init 1 = .ok (.invokespecial 3, 3) := by decide +kernel
theorem dX0_init_4 : decode cX0_init 4 = .ok (.aload_n 0, 1) := by decide +kernel
theorem dX0_init_5 : decode cX0_init 5 = .ok (.aload_n 1, 1) := by decide +kernel
theorem dX0_init_6 : decode cX0_init 6 = .ok (.getfield 9, 3) := by decide +kernel
theorem dX0_init_9 : decode cX0_init 9 = .ok (.putfield 15, 3) := by decide +kernel
theorem dX0_init_12 : decode cX0_init 12 = .ok (.aload_n 0, 1) := by decide +kernel
theorem dX0_init_13 : decode cX0_init 13 = .ok (.aload_n 1, 1) := by decide +kernel
theorem dX0_init_14 : decode cX0_init 14 = .ok (.getfield 18, 3) := by decide +kernel
theorem dX0_init_17 : decode cX0_init 17 = .ok (.putfield 21, 3) := by decide +kernel
theorem dX0_init_20 : decode cX0_init 20 = .ok (.aload_n 0, 1) := by decide +kernel
theorem dX0_init_21 : decode cX0_init 21 = .ok (.aload_n 1, 1) := by decide +kernel
theorem dX0_init_22 : decode cX0_init 22 = .ok (.getfield 22, 3) := by decide +kernel
theorem dX0_init_25 : decode cX0_init 25 = .ok (.putfield 25, 3) := by decide +kernel
theorem dX0_init_28 : decode cX0_init 28 = .ok (.aload_n 0, 1) := by decide +kernel
theorem dX0_init_29 : decode cX0_init 29 = .ok (.aload_n 1, 1) := by decide +kernel
theorem dX0_init_30 : decode cX0_init 30 = .ok (.getfield 26, 3) := by decide +kernel
theorem dX0_init_33 : decode cX0_init 33 = .ok (.putfield 30, 3) := by decide +kernel
theorem dX0_init_36 : decode cX0_init 36 = .ok (.aload_n 0, 1) := by decide +kernel
theorem dX0_init_37 : decode cX0_init 37 = .ok (.aload_n 0, 1) := by decide +kernel
theorem dX0_init_38 : decode cX0_init 38 = .ok (.getfield 30, 3) := by decide +kernel
theorem dX0_init_41 : decode cX0_init 41 = .ok (.arraylength, 1) := by decide +kernel
theorem dX0_init_42 : decode cX0_init 42 = .ok (.newarray .int, 2) := by decide +kernel
theorem dX0_init_44 : decode cX0_init 44 = .ok (.putfield 31, 3) := by decide +kernel
theorem dX0_init_47 : decode cX0_init 47 = .ok (.aload_n 0, 1) := by decide +kernel
theorem dX0_init_48 : decode cX0_init 48 = .ok (.aload_n 0, 1) := by decide +kernel
theorem dX0_init_49 : decode cX0_init 49 = .ok (.getfield 30, 3) := by decide +kernel
theorem dX0_init_52 : decode cX0_init 52 = .ok (.arraylength, 1) := by decide +kernel
theorem dX0_init_53 : decode cX0_init 53 = .ok (.newarray .int, 2) := by decide +kernel
theorem dX0_init_55 : decode cX0_init 55 = .ok (.putfield 34, 3) := by decide +kernel
theorem dX0_init_58 : decode cX0_init 58 = .ok (.aload_n 0, 1) := by decide +kernel
theorem dX0_init_59 : decode cX0_init 59 = .ok (.aload_n 0, 1) := by decide +kernel
theorem dX0_init_60 : decode cX0_init 60 = .ok (.getfield 30, 3) := by decide +kernel
theorem dX0_init_63 : decode cX0_init 63 = .ok (.arraylength, 1) := by decide +kernel
theorem dX0_init_64 : decode cX0_init 64 = .ok (.newarray .int, 2) := by decide +kernel
theorem dX0_init_66 : decode cX0_init 66 = .ok (.putfield 37, 3) := by decide +kernel
theorem dX0_init_69 : decode cX0_init 69 = .ok (.iconst 0, 1) := by decide +kernel
theorem dX0_init_70 : decode cX0_init 70 = .ok (.istore_n 3, 1) := by decide +kernel
theorem dX0_init_71 : decode cX0_init 71 = .ok (.iconst 0, 1) := by decide +kernel
theorem dX0_init_72 : decode cX0_init 72 = .ok (.istore 4, 2) := by decide +kernel
theorem dX0_init_74 : decode cX0_init 74 = .ok (.iload 4, 2) := by decide +kernel
theorem dX0_init_76 : decode cX0_init 76 = .ok (.aload_n 0, 1) := by decide +kernel
theorem dX0_init_77 : decode cX0_init 77 = .ok (.getfield 30, 3) := by decide +kernel
theorem dX0_init_80 : decode cX0_init 80 = .ok (.arraylength, 1) := by decide +kernel
theorem dX0_init_81 : decode cX0_init 81 = .ok (.if_icmp .ge 69, 3) := by decide +kernel
theorem dX0_init_84 : decode cX0_init 84 = .ok (.aload_n 0, 1) := by decide +kernel
theorem dX0_init_85 : decode cX0_init 85 = .ok (.getfield 31, 3) := by decide +kernel
theorem dX0_init_88 : decode cX0_init 88 = .ok (.iload 4, 2) := by decide +kernel
theorem dX0_init_90 : decode cX0_init 90 = .ok (.iload_n 3, 1) := by decide +kernel
theorem dX0_init_91 : decode cX0_init 91 = .ok (.iastore, 1) := by decide +kernel
theorem dX0_init_92 : decode cX0_init 92 = .ok (.aload_n 0, 1) := by decide +kernel
theorem dX0_init_93 : decode cX0_init 93 = .ok (.getfield 34, 3) := by decide +kernel
theorem dX0_init_96 : decode cX0_init 96 = .ok (.iload 4, 2) := by decide +kernel
theorem dX0_init_98 : decode cX0_init 98 = .ok (.iload_n 3, 1) := by decide +kernel
theorem dX0_init_99 : decode cX0_init 99 = .ok (.aload_n 0, 1) := by decide +kernel
theorem dX0_init_100 : decode cX0_init 100 = .ok (.getfield 21, 3) := by decide +kernel
theorem dX0_init_103 : decode cX0_init 103 = .ok (.iadd, 1) := by decide +kernel
theorem dX0_init_104 : decode cX0_init 104 = .ok (.aload_n 2, 1) := by decide +kernel
theorem dX0_init_105 : decode cX0_init 105 = .ok (.aload_n 0, 1) := by decide +kernel
theorem dX0_init_106 : decode cX0_init 106 = .ok (.getfield 30, 3) := by decide +kernel
theorem dX0_init_109 : decode cX0_init 109 = .ok (.iload 4, 2) := by decide +kernel
theorem dX0_init_111 : decode cX0_init 111 = .ok (.iaload, 1) := by decide +kernel
theorem dX0_init_112 : decode cX0_init 112 = .ok (.iaload, 1) := by decide +kernel
theorem dX0_init_113 : decode cX0_init 113 = .ok (.iadd, 1) := by decide +kernel
theorem dX0_init_114 : decode cX0_init 114 = .ok (.iastore, 1) := by decide +kernel
theorem dX0_init_115 : decode cX0_init 115 = .ok (.aload_n 0, 1) := by decide +kernel
theorem dX0_init_116 : decode cX0_init 116 = .ok (.getfield 37, 3) := by decide +kernel
theorem dX0_init_119 : decode cX0_init 119 = .ok (.iload 4, 2) := by decide +kernel
theorem dX0_init_121 : decode cX0_init 121 = .ok (.iload_n 3, 1) := by decide +kernel
theorem dX0_init_122 : decode cX0_init 122 = .ok (.aload_n 0, 1) := by decide +kernel
theorem dX0_init_123 : decode cX0_init 123 = .ok (.getfield 15, 3) := by decide +kernel
theorem dX0_init_126 : decode cX0_init 126 = .ok (.aload_n 0, 1) := by decide +kernel
theorem dX0_init_127 : decode cX0_init 127 = .ok (.getfield 21, 3) := by decide +kernel
theorem dX0_init_130 : decode cX0_init 130 = .ok (.invokestatic 40, 3) := by decide +kernel
theorem dX0_init_133 : decode cX0_init 133 = .ok (.iastore, 1) := by decide +kernel
theorem dX0_init_134 : decode cX0_init 134 = .ok (.aload_n 0, 1) := by decide +kernel
theorem dX0_init_135 : decode cX0_init 135 = .ok (.getfield 34, 3) := by decide +kernel
theorem dX0_init_138 : decode cX0_init 138 = .ok (.iload 4, 2) := by decide +kernel
theorem dX0_init_140 : decode cX0_init 140 = .ok (.iaload, 1) := by decide +kernel
theorem dX0_init_141 : decode cX0_init 141 = .ok (.iconst 2, 1) := by decide +kernel
theorem dX0_init_142 : decode cX0_init 142 = .ok (.iadd, 1) := by decide +kernel
theorem dX0_init_143 : decode cX0_init 143 = .ok (.istore_n 3, 1) := by decide +kernel
theorem dX0_init_144 : decode cX0_init 144 = .ok (.iinc 4 1, 3) := by decide +kernel
theorem dX0_init_147 : decode cX0_init 147 = .ok (.goto (-73), 3) := by decide +kernel
theorem dX0_init_150 : decode cX0_init 150 = .ok (.return_, 1) := by decide +kernel
theorem dX0_spansFrom_0 : decode cX0_spansFrom 0 = .ok (.iconst 0, 1) := by decide +kernel
theorem dX0_spansFrom_1 : decode cX0_spansFrom 1 = .ok (.istore_n 3, 1) := by decide +kernel
theorem dX0_spansFrom_2 : decode cX0_spansFrom 2 = .ok (.iconst 0, 1) := by decide +kernel
theorem dX0_spansFrom_3 : decode cX0_spansFrom 3 = .ok (.istore 4, 2) := by decide +kernel
theorem dX0_spansFrom_5 : decode cX0_spansFrom 5 = .ok (.iload 4, 2) := by decide +kernel
theorem dX0_spansFrom_7 : decode cX0_spansFrom 7 = .ok (.bipush 32, 2) := by decide +kernel
theorem dX0_spansFrom_9 : decode cX0_spansFrom 9 = .ok (.if_icmp .ge 42, 3) := by decide +kernel
theorem dX0_spansFrom_12 : decode cX0_spansFrom 12 = .ok (.iconst (-1), 1) := by decide +kernel
theorem dX0_spansFrom_13 : decode cX0_spansFrom 13 = .ok (.istore 5, 2) := by decide +kernel
theorem dX0_spansFrom_15 : decode cX0_spansFrom 15 = .ok (.iload 5, 2) := by decide +kernel
theorem dX0_spansFrom_17 : decode cX0_spansFrom 17 = .ok (.iload_n 2, 1) := by decide +kernel
theorem dX0_spansFrom_18 : decode cX0_spansFrom 18 = .ok (.if_icmp .ge 24, 3) := by decide +kernel
theorem dX0_spansFrom_21 : decode cX0_spansFrom 21 = .ok (.iload_n 3, 1) := by decide +kernel
theorem dX0_spansFrom_22 : decode cX0_spansFrom 22 = .ok (.iconst 1, 1) := by decide +kernel
theorem dX0_spansFrom_23 : decode cX0_spansFrom 23 = .ok (.iload_n 0, 1) := by decide +kernel
theorem dX0_spansFrom_24 : decode cX0_spansFrom 24 = .ok (.iload 4, 2) := by decide +kernel
theorem dX0_spansFrom_26 : decode cX0_spansFrom 26 = .ok (.iadd, 1) := by decide +kernel
theorem dX0_spansFrom_27 : decode cX0_spansFrom 27 = .ok (.iload 5, 2) := by decide +kernel
theorem dX0_spansFrom_29 : decode cX0_spansFrom 29 = .ok (.iadd, 1) := by decide +kernel
theorem dX0_spansFrom_30 : decode cX0_spansFrom 30 = .ok (.bipush 31, 2) := by decide +kernel
theorem dX0_spansFrom_32 : decode cX0_spansFrom 32 = .ok (.iand, 1) := by decide +kernel
theorem dX0_spansFrom_33 : decode cX0_spansFrom 33 = .ok (.ishl, 1) := by decide +kernel
theorem dX0_spansFrom_34 : decode cX0_spansFrom 34 = .ok (.ior, 1) := by decide +kernel
theorem dX0_spansFrom_35 : decode cX0_spansFrom 35 = .ok (.istore_n 3, 1) := by decide +kernel
theorem dX0_spansFrom_36 : decode cX0_spansFrom 36 = .ok (.iinc 5 1, 3) := by decide +kernel
theorem dX0_spansFrom_39 : decode cX0_spansFrom 39 = .ok (.goto (-24), 3) := by decide +kernel
theorem dX0_spansFrom_42 : decode cX0_spansFrom 42 = .ok (.iload 4, 2) := by decide +kernel
theorem dX0_spansFrom_44 : decode cX0_spansFrom 44 = .ok (.iload_n 1, 1) := by decide +kernel
theorem dX0_spansFrom_45 : decode cX0_spansFrom 45 = .ok (.iadd, 1) := by decide +kernel
theorem dX0_spansFrom_46 : decode cX0_spansFrom 46 = .ok (.istore 4, 2) := by decide +kernel
theorem dX0_spansFrom_48 : decode cX0_spansFrom 48 = .ok (.goto (-43), 3) := by decide +kernel
theorem dX0_spansFrom_51 : decode cX0_spansFrom 51 = .ok (.iload_n 3, 1) := by decide +kernel
theorem dX0_spansFrom_52 : decode cX0_spansFrom 52 = .ok (.ireturn, 1) := by decide +kernel
theorem dX0_latency_0 : decode cX0_latency 0 = .ok (.aload_n 0, 1) := by decide +kernel
theorem dX0_latency_1 : decode cX0_latency 1 = .ok (.getfield 34, 3) := by decide +kernel
theorem dX0_latency_4 : decode cX0_latency 4 = .ok (.aload_n 0, 1) := by decide +kernel
theorem dX0_latency_5 : decode cX0_latency 5 = .ok (.getfield 34, 3) := by decide +kernel
theorem dX0_latency_8 : decode cX0_latency 8 = .ok (.arraylength, 1) := by decide +kernel
theorem dX0_latency_9 : decode cX0_latency 9 = .ok (.iconst 1, 1) := by decide +kernel
theorem dX0_latency_10 : decode cX0_latency 10 = .ok (.isub, 1) := by decide +kernel
theorem dX0_latency_11 : decode cX0_latency 11 = .ok (.iaload, 1) := by decide +kernel
theorem dX0_latency_12 : decode cX0_latency 12 = .ok (.ireturn, 1) := by decide +kernel
theorem dX0_spansWith_0 : decode cX0_spansWith 0 = .ok (.aload_n 0, 1) := by decide +kernel
theorem dX0_spansWith_1 : decode cX0_spansWith 1 = .ok (.getfield 37, 3) := by decide +kernel
theorem dX0_spansWith_4 : decode cX0_spansWith 4 = .ok (.iload_n 1, 1) := by decide +kernel
theorem dX0_spansWith_5 : decode cX0_spansWith 5 = .ok (.iaload, 1) := by decide +kernel
theorem dX0_spansWith_6 : decode cX0_spansWith 6 = .ok (.iload_n 2, 1) := by decide +kernel
theorem dX0_spansWith_7 : decode cX0_spansWith 7 = .ok (.ishl, 1) := by decide +kernel
theorem dX0_spansWith_8 : decode cX0_spansWith 8 = .ok (.aload_n 0, 1) := by decide +kernel
theorem dX0_spansWith_9 : decode cX0_spansWith 9 = .ok (.getfield 37, 3) := by decide +kernel
theorem dX0_spansWith_12 : decode cX0_spansWith 12 = .ok (.iload_n 1, 1) := by decide +kernel
theorem dX0_spansWith_13 : decode cX0_spansWith 13 = .ok (.iaload, 1) := by decide +kernel
theorem dX0_spansWith_14 : decode cX0_spansWith 14 = .ok (.bipush 32, 2) := by decide +kernel
theorem dX0_spansWith_16 : decode cX0_spansWith 16 = .ok (.iload_n 2, 1) := by decide +kernel
theorem dX0_spansWith_17 : decode cX0_spansWith 17 = .ok (.isub, 1) := by decide +kernel
theorem dX0_spansWith_18 : decode cX0_spansWith 18 = .ok (.bipush 31, 2) := by decide +kernel
theorem dX0_spansWith_20 : decode cX0_spansWith 20 = .ok (.iand, 1) := by decide +kernel
theorem dX0_spansWith_21 : decode cX0_spansWith 21 = .ok (.iushr, 1) := by decide +kernel
theorem dX0_spansWith_22 : decode cX0_spansWith 22 = .ok (.ior, 1) := by decide +kernel
theorem dX0_spansWith_23 : decode cX0_spansWith 23 = .ok (.ireturn, 1) := by decide +kernel
theorem dX0_hasSpanAt_0 : decode cX0_hasSpanAt 0 = .ok (.aload_n 0, 1) := by decide +kernel
theorem dX0_hasSpanAt_1 : decode cX0_hasSpanAt 1 = .ok (.iload_n 1, 1) := by decide +kernel
theorem dX0_hasSpanAt_2 : decode cX0_hasSpanAt 2 = .ok (.aload_n 0, 1) := by decide +kernel
theorem dX0_hasSpanAt_3 : decode cX0_hasSpanAt 3 = .ok (.getfield 44, 3) := by decide +kernel
theorem dX0_hasSpanAt_6 : decode cX0_hasSpanAt 6 = .ok (.invokevirtual 47, 3) := by decide +kernel
theorem dX0_hasSpanAt_9 : decode cX0_hasSpanAt 9 = .ok (.iload_n 2, 1) := by decide +kernel
theorem dX0_hasSpanAt_10 : decode cX0_hasSpanAt 10 = .ok (.bipush 31, 2) := by decide +kernel
theorem dX0_hasSpanAt_12 : decode cX0_hasSpanAt 12 = .ok (.iand, 1) := by decide +kernel
theorem dX0_hasSpanAt_13 : decode cX0_hasSpanAt 13 = .ok (.iushr, 1) := by decide +kernel
theorem dX0_hasSpanAt_14 : decode cX0_hasSpanAt 14 = .ok (.iconst 1, 1) := by decide +kernel
theorem dX0_hasSpanAt_15 : decode cX0_hasSpanAt 15 = .ok (.iand, 1) := by decide +kernel
theorem dX0_hasSpanAt_16 : decode cX0_hasSpanAt 16 = .ok (.iconst 1, 1) := by decide +kernel
theorem dX0_hasSpanAt_17 : decode cX0_hasSpanAt 17 = .ok (.if_icmp .ne 7, 3) := by decide +kernel
theorem dX0_hasSpanAt_20 : decode cX0_hasSpanAt 20 = .ok (.iconst 1, 1) := by decide +kernel
theorem dX0_hasSpanAt_21 : decode cX0_hasSpanAt 21 = .ok (.goto 4, 3) := by decide +kernel
theorem dX0_hasSpanAt_24 : decode cX0_hasSpanAt 24 = .ok (.iconst 0, 1) := by decide +kernel
theorem dX0_hasSpanAt_25 : decode cX0_hasSpanAt 25 = .ok (.ireturn, 1) := by decide +kernel
theorem dX0_hopOn_0 : decode cX0_hopOn 0 = .ok (.iconst 0, 1) := by decide +kernel
theorem dX0_hopOn_1 : decode cX0_hopOn 1 = .ok (.istore_n 2, 1) := by decide +kernel
theorem dX0_hopOn_2 : decode cX0_hopOn 2 = .ok (.iload_n 2, 1) := by decide +kernel
theorem dX0_hopOn_3 : decode cX0_hopOn 3 = .ok (.aload_n 0, 1) := by decide +kernel
theorem dX0_hopOn_4 : decode cX0_hopOn 4 = .ok (.getfield 30, 3) := by decide +kernel
theorem dX0_hopOn_7 : decode cX0_hopOn 7 = .ok (.arraylength, 1) := by decide +kernel
theorem dX0_hopOn_8 : decode cX0_hopOn 8 = .ok (.if_icmp .ge 21, 3) := by decide +kernel
theorem dX0_hopOn_11 : decode cX0_hopOn 11 = .ok (.aload_n 0, 1) := by decide +kernel
theorem dX0_hopOn_12 : decode cX0_hopOn 12 = .ok (.getfield 30, 3) := by decide +kernel
theorem dX0_hopOn_15 : decode cX0_hopOn 15 = .ok (.iload_n 2, 1) := by decide +kernel
theorem dX0_hopOn_16 : decode cX0_hopOn 16 = .ok (.iaload, 1) := by decide +kernel
theorem dX0_hopOn_17 : decode cX0_hopOn 17 = .ok (.iload_n 1, 1) := by decide +kernel
theorem dX0_hopOn_18 : decode cX0_hopOn 18 = .ok (.if_icmp .ne 5, 3) := by decide +kernel
theorem dX0_hopOn_21 : decode cX0_hopOn 21 = .ok (.iload_n 2, 1) := by decide +kernel
theorem dX0_hopOn_22 : decode cX0_hopOn 22 = .ok (.ireturn, 1) := by decide +kernel
theorem dX0_hopOn_23 : decode cX0_hopOn 23 = .ok (.iinc 2 1, 3) := by decide +kernel
theorem dX0_hopOn_26 : decode cX0_hopOn 26 = .ok (.goto (-24), 3) := by decide +kernel
theorem dX0_hopOn_29 : decode cX0_hopOn 29 = .ok (.iconst (-1), 1) := by decide +kernel
theorem dX0_hopOn_30 : decode cX0_hopOn 30 = .ok (.ireturn, 1) := by decide +kernel
theorem dX0_beginsAt_0 : decode cX0_beginsAt 0 = .ok (.iload_n 1, 1) := by decide +kernel
theorem dX0_beginsAt_1 : decode cX0_beginsAt 1 = .ok (.aload_n 0, 1) := by decide +kernel
theorem dX0_beginsAt_2 : decode cX0_beginsAt 2 = .ok (.getfield 44, 3) := by decide +kernel
theorem dX0_beginsAt_5 : decode cX0_beginsAt 5 = .ok (.isub, 1) := by decide +kernel
theorem dX0_beginsAt_6 : decode cX0_beginsAt 6 = .ok (.aload_n 0, 1) := by decide +kernel
theorem dX0_beginsAt_7 : decode cX0_beginsAt 7 = .ok (.getfield 15, 3) := by decide +kernel
theorem dX0_beginsAt_10 : decode cX0_beginsAt 10 = .ok (.iconst 1, 1) := by decide +kernel
theorem dX0_beginsAt_11 : decode cX0_beginsAt 11 = .ok (.isub, 1) := by decide +kernel
theorem dX0_beginsAt_12 : decode cX0_beginsAt 12 = .ok (.iand, 1) := by decide +kernel
theorem dX0_beginsAt_13 : decode cX0_beginsAt 13 = .ok (.ifCond .ne 7, 3) := by decide +kernel
theorem dX0_beginsAt_16 : decode cX0_beginsAt 16 = .ok (.iconst 1, 1) := by decide +kernel
theorem dX0_beginsAt_17 : decode cX0_beginsAt 17 = .ok (.goto 4, 3) := by decide +kernel
theorem dX0_beginsAt_20 : decode cX0_beginsAt 20 = .ok (.iconst 0, 1) := by decide +kernel
theorem dX0_beginsAt_21 : decode cX0_beginsAt 21 = .ok (.ireturn, 1) := by decide +kernel
theorem dX1_init_0 : decode cX1_init 0 = .ok (.aload_n 0, 1) := by decide +kernel
theorem dX1_init_1 : decode cX1_init 1 = .ok (.invokespecial 3, 3) := by decide +kernel
theorem dX1_init_4 : decode cX1_init 4 = .ok (.aload_n 0, 1) := by decide +kernel
theorem dX1_init_5 : decode cX1_init 5 = .ok (.iconst 4, 1) := by decide +kernel
theorem dX1_init_6 : decode cX1_init 6 = .ok (.newarray .int, 2) := by decide +kernel
theorem dX1_init_8 : decode cX1_init 8 = .ok (.putfield 9, 3) := by decide +kernel
theorem dX1_init_11 : decode cX1_init 11 = .ok (.return_, 1) := by decide +kernel
theorem dX1_append_0 : decode cX1_append 0 = .ok (.aload_n 0, 1) := by decide +kernel
theorem dX1_append_1 : decode cX1_append 1 = .ok (.getfield 15, 3) := by decide +kernel
theorem dX1_append_4 : decode cX1_append 4 = .ok (.iconst 4, 1) := by decide +kernel
theorem dX1_append_5 : decode cX1_append 5 = .ok (.if_icmp .ge 23, 3) := by decide +kernel
theorem dX1_append_8 : decode cX1_append 8 = .ok (.aload_n 0, 1) := by decide +kernel
theorem dX1_append_9 : decode cX1_append 9 = .ok (.getfield 9, 3) := by decide +kernel
theorem dX1_append_12 : decode cX1_append 12 = .ok (.aload_n 0, 1) := by decide +kernel
theorem dX1_append_13 : decode cX1_append 13 = .ok (.getfield 15, 3) := by decide +kernel
theorem dX1_append_16 : decode cX1_append 16 = .ok (.iload_n 1, 1) := by decide +kernel
theorem dX1_append_17 : decode cX1_append 17 = .ok (.iastore, 1) := by decide +kernel
theorem dX1_append_18 : decode cX1_append 18 = .ok (.aload_n 0, 1) := by decide +kernel
theorem dX1_append_19 : decode cX1_append 19 = .ok (.dup, 1) := by decide +kernel
theorem dX1_append_20 : decode cX1_append 20 = .ok (.getfield 15, 3) := by decide +kernel
theorem dX1_append_23 : decode cX1_append 23 = .ok (.iconst 1, 1) := by decide +kernel
theorem dX1_append_24 : decode cX1_append 24 = .ok (.iadd, 1) := by decide +kernel
theorem dX1_append_25 : decode cX1_append 25 = .ok (.putfield 15, 3) := by decide +kernel
theorem dX1_append_28 : decode cX1_append 28 = .ok (.return_, 1) := by decide +kernel
theorem dX1_canBegin_0 : decode cX1_canBegin 0 = .ok (.aload_n 0, 1) := by decide +kernel
theorem dX1_canBegin_1 : decode cX1_canBegin 1 = .ok (.getfield 19, 3) := by decide +kernel
theorem dX1_canBegin_4 : decode cX1_canBegin 4 = .ok (.ifCond .ne 21, 3) := by decide +kernel
theorem dX1_canBegin_7 : decode cX1_canBegin 7 = .ok (.aload_n 0, 1) := by decide +kernel
theorem dX1_canBegin_8 : decode cX1_canBegin 8 = .ok (.getfield 22, 3) := by decide +kernel
theorem dX1_canBegin_11 : decode cX1_canBegin 11 = .ok (.ifCond .ne 14, 3) := by decide +kernel
theorem dX1_canBegin_14 : decode cX1_canBegin 14 = .ok (.aload_n 0, 1) := by decide +kernel
theorem dX1_canBegin_15 : decode cX1_canBegin 15 = .ok (.getfield 15, 3) := by decide +kernel
theorem dX1_canBegin_18 : decode cX1_canBegin 18 = .ok (.ifCond .le 7, 3) := by decide +kernel
theorem dX1_canBegin_21 : decode cX1_canBegin 21 = .ok (.iconst 1, 1) := by decide +kernel
theorem dX1_canBegin_22 : decode cX1_canBegin 22 = .ok (.goto 4, 3) := by decide +kernel
theorem dX1_canBegin_25 : decode cX1_canBegin 25 = .ok (.iconst 0, 1) := by decide +kernel
theorem dX1_canBegin_26 : decode cX1_canBegin 26 = .ok (.ireturn, 1) := by decide +kernel
theorem dX1_beginFirst_0 : decode cX1_beginFirst 0 = .ok (.aload_n 0, 1) := by decide +kernel
theorem dX1_beginFirst_1 : decode cX1_beginFirst 1 = .ok (.aload_n 0, 1) := by decide +kernel
theorem dX1_beginFirst_2 : decode cX1_beginFirst 2 = .ok (.getfield 9, 3) := by decide +kernel
theorem dX1_beginFirst_5 : decode cX1_beginFirst 5 = .ok (.iconst 0, 1) := by decide +kernel
theorem dX1_beginFirst_6 : decode cX1_beginFirst 6 = .ok (.iaload, 1) := by decide +kernel
theorem dX1_beginFirst_7 : decode cX1_beginFirst 7 = .ok (.putfield 19, 3) := by decide +kernel
theorem dX1_beginFirst_10 : decode cX1_beginFirst 10 = .ok (.iconst 1, 1) := by decide +kernel
theorem dX1_beginFirst_11 : decode cX1_beginFirst 11 = .ok (.istore_n 1, 1) := by decide +kernel
theorem dX1_beginFirst_12 : decode cX1_beginFirst 12 = .ok (.iload_n 1, 1) := by decide +kernel
theorem dX1_beginFirst_13 : decode cX1_beginFirst 13 = .ok (.aload_n 0, 1) := by decide +kernel
theorem dX1_beginFirst_14 : decode cX1_beginFirst 14 = .ok (.getfield 15, 3) := by decide +kernel
theorem dX1_beginFirst_17 : decode cX1_beginFirst 17 = .ok (.if_icmp .ge 23, 3) := by decide +kernel
theorem dX1_beginFirst_20 : decode cX1_beginFirst 20 = .ok (.aload_n 0, 1) := by decide +kernel
theorem dX1_beginFirst_21 : decode cX1_beginFirst 21 = .ok (.getfield 9, 3) := by decide +kernel
theorem dX1_beginFirst_24 : decode cX1_beginFirst 24 = .ok (.iload_n 1, 1) := by decide +kernel
theorem dX1_beginFirst_25 : decode cX1_beginFirst 25 = .ok (.iconst 1, 1) := by decide +kernel
theorem dX1_beginFirst_26 : decode cX1_beginFirst 26 = .ok (.isub, 1) := by decide +kernel
theorem dX1_beginFirst_27 : decode cX1_beginFirst 27 = .ok (.aload_n 0, 1) := by decide +kernel
theorem dX1_beginFirst_28 : decode cX1_beginFirst 28 = .ok (.getfield 9, 3) := by decide +kernel
theorem dX1_beginFirst_31 : decode cX1_beginFirst 31 = .ok (.iload_n 1, 1) := by decide +kernel
theorem dX1_beginFirst_32 : decode cX1_beginFirst 32 = .ok (.iaload, 1) := by decide +kernel
theorem dX1_beginFirst_33 : decode cX1_beginFirst 33 = .ok (.iastore, 1) := by decide +kernel
theorem dX1_beginFirst_34 : decode cX1_beginFirst 34 = .ok (.iinc 1 1, 3) := by decide +kernel
theorem dX1_beginFirst_37 : decode cX1_beginFirst 37 = .ok (.goto (-25), 3) := by decide +kernel
theorem dX1_beginFirst_40 : decode cX1_beginFirst 40 = .ok (.aload_n 0, 1) := by decide +kernel
theorem dX1_beginFirst_41 : decode cX1_beginFirst 41 = .ok (.dup, 1) := by decide +kernel
theorem dX1_beginFirst_42 : decode cX1_beginFirst 42 = .ok (.getfield 15, 3) := by decide +kernel
theorem dX1_beginFirst_45 : decode cX1_beginFirst 45 = .ok (.iconst 1, 1) := by decide +kernel
theorem dX1_beginFirst_46 : decode cX1_beginFirst 46 = .ok (.isub, 1) := by decide +kernel
theorem dX1_beginFirst_47 : decode cX1_beginFirst 47 = .ok (.putfield 15, 3) := by decide +kernel
theorem dX1_beginFirst_50 : decode cX1_beginFirst 50 = .ok (.return_, 1) := by decide +kernel
theorem dX1_endTick_0 : decode cX1_endTick 0 = .ok (.aload_n 0, 1) := by decide +kernel
theorem dX1_endTick_1 : decode cX1_endTick 1 = .ok (.getfield 19, 3) := by decide +kernel
theorem dX1_endTick_4 : decode cX1_endTick 4 = .ok (.ifCond .le 30, 3) := by decide +kernel
theorem dX1_endTick_7 : decode cX1_endTick 7 = .ok (.aload_n 0, 1) := by decide +kernel
theorem dX1_endTick_8 : decode cX1_endTick 8 = .ok (.dup, 1) := by decide +kernel
theorem dX1_endTick_9 : decode cX1_endTick 9 = .ok (.getfield 19, 3) := by decide +kernel
theorem dX1_endTick_12 : decode cX1_endTick 12 = .ok (.iconst 1, 1) := by decide +kernel
theorem dX1_endTick_13 : decode cX1_endTick 13 = .ok (.isub, 1) := by decide +kernel
theorem dX1_endTick_14 : decode cX1_endTick 14 = .ok (.putfield 19, 3) := by decide +kernel
theorem dX1_endTick_17 : decode cX1_endTick 17 = .ok (.aload_n 0, 1) := by decide +kernel
theorem dX1_endTick_18 : decode cX1_endTick 18 = .ok (.getfield 19, 3) := by decide +kernel
theorem dX1_endTick_21 : decode cX1_endTick 21 = .ok (.ifCond .ne 13, 3) := by decide +kernel
theorem dX1_endTick_24 : decode cX1_endTick 24 = .ok (.aload_n 0, 1) := by decide +kernel
theorem dX1_endTick_25 : decode cX1_endTick 25 = .ok (.dup, 1) := by decide +kernel
theorem dX1_endTick_26 : decode cX1_endTick 26 = .ok (.getfield 26, 3) := by decide +kernel
theorem dX1_endTick_29 : decode cX1_endTick 29 = .ok (.iconst 1, 1) := by decide +kernel
theorem dX1_endTick_30 : decode cX1_endTick 30 = .ok (.iadd, 1) := by decide +kernel
theorem dX1_endTick_31 : decode cX1_endTick 31 = .ok (.putfield 26, 3) := by decide +kernel
theorem dX1_endTick_34 : decode cX1_endTick 34 = .ok (.return_, 1) := by decide +kernel
theorem dX2_init_0 : decode cX2_init 0 = .ok (.aload_n 0, 1) := by decide +kernel
theorem dX2_init_1 : decode cX2_init 1 = .ok (.invokespecial 3, 3) := by decide +kernel
theorem dX2_init_4 : decode cX2_init 4 = .ok (.aload_n 0, 1) := by decide +kernel
theorem dX2_init_5 : decode cX2_init 5 = .ok (.aload_n 1, 1) := by decide +kernel
theorem dX2_init_6 : decode cX2_init 6 = .ok (.putfield 9, 3) := by decide +kernel
theorem dX2_init_9 : decode cX2_init 9 = .ok (.return_, 1) := by decide +kernel
theorem dX2_ownerOf_0 : decode cX2_ownerOf 0 = .ok (.iconst 0, 1) := by decide +kernel
theorem dX2_ownerOf_1 : decode cX2_ownerOf 1 = .ok (.istore_n 3, 1) := by decide +kernel
theorem dX2_ownerOf_2 : decode cX2_ownerOf 2 = .ok (.iload_n 3, 1) := by decide +kernel
theorem dX2_ownerOf_3 : decode cX2_ownerOf 3 = .ok (.aload_n 0, 1) := by decide +kernel
theorem dX2_ownerOf_4 : decode cX2_ownerOf 4 = .ok (.getfield 9, 3) := by decide +kernel
theorem dX2_ownerOf_7 : decode cX2_ownerOf 7 = .ok (.arraylength, 1) := by decide +kernel
theorem dX2_ownerOf_8 : decode cX2_ownerOf 8 = .ok (.if_icmp .ge 44, 3) := by decide +kernel
theorem dX2_ownerOf_11 : decode cX2_ownerOf 11 = .ok (.aload_n 0, 1) := by decide +kernel
theorem dX2_ownerOf_12 : decode cX2_ownerOf 12 = .ok (.getfield 9, 3) := by decide +kernel
theorem dX2_ownerOf_15 : decode cX2_ownerOf 15 = .ok (.iload_n 3, 1) := by decide +kernel
theorem dX2_ownerOf_16 : decode cX2_ownerOf 16 = .ok (.aaload, 1) := by decide +kernel
theorem dX2_ownerOf_17 : decode cX2_ownerOf 17 = .ok (.iload_n 1, 1) := by decide +kernel
theorem dX2_ownerOf_18 : decode cX2_ownerOf 18 = .ok (.invokevirtual 15, 3) := by decide +kernel
theorem dX2_ownerOf_21 : decode cX2_ownerOf 21 = .ok (.istore 4, 2) := by decide +kernel
theorem dX2_ownerOf_23 : decode cX2_ownerOf 23 = .ok (.iload 4, 2) := by decide +kernel
theorem dX2_ownerOf_25 : decode cX2_ownerOf 25 = .ok (.iconst (-1), 1) := by decide +kernel
theorem dX2_ownerOf_26 : decode cX2_ownerOf 26 = .ok (.if_icmp .eq 20, 3) := by decide +kernel
theorem dX2_ownerOf_29 : decode cX2_ownerOf 29 = .ok (.aload_n 0, 1) := by decide +kernel
theorem dX2_ownerOf_30 : decode cX2_ownerOf 30 = .ok (.getfield 9, 3) := by decide +kernel
theorem dX2_ownerOf_33 : decode cX2_ownerOf 33 = .ok (.iload_n 3, 1) := by decide +kernel
theorem dX2_ownerOf_34 : decode cX2_ownerOf 34 = .ok (.aaload, 1) := by decide +kernel
theorem dX2_ownerOf_35 : decode cX2_ownerOf 35 = .ok (.iload 4, 2) := by decide +kernel
theorem dX2_ownerOf_37 : decode cX2_ownerOf 37 = .ok (.iload_n 2, 1) := by decide +kernel
theorem dX2_ownerOf_38 : decode cX2_ownerOf 38 = .ok (.invokevirtual 21, 3) := by decide +kernel
theorem dX2_ownerOf_41 : decode cX2_ownerOf 41 = .ok (.ifCond .eq 5, 3) := by decide +kernel
theorem dX2_ownerOf_44 : decode cX2_ownerOf 44 = .ok (.iload_n 3, 1) := by decide +kernel
theorem dX2_ownerOf_45 : decode cX2_ownerOf 45 = .ok (.ireturn, 1) := by decide +kernel
theorem dX2_ownerOf_46 : decode cX2_ownerOf 46 = .ok (.iinc 3 1, 3) := by decide +kernel
theorem dX2_ownerOf_49 : decode cX2_ownerOf 49 = .ok (.goto (-47), 3) := by decide +kernel
theorem dX2_ownerOf_52 : decode cX2_ownerOf 52 = .ok (.iconst (-1), 1) := by decide +kernel
theorem dX2_ownerOf_53 : decode cX2_ownerOf 53 = .ok (.ireturn, 1) := by decide +kernel
theorem dX2_isFree_0 : decode cX2_isFree 0 = .ok (.iconst 0, 1) := by decide +kernel
theorem dX2_isFree_1 : decode cX2_isFree 1 = .ok (.istore 4, 2) := by decide +kernel
theorem dX2_isFree_3 : decode cX2_isFree 3 = .ok (.iload 4, 2) := by decide +kernel
theorem dX2_isFree_5 : decode cX2_isFree 5 = .ok (.iload_n 3, 1) := by decide +kernel
theorem dX2_isFree_6 : decode cX2_isFree 6 = .ok (.if_icmp .ge 24, 3) := by decide +kernel
theorem dX2_isFree_9 : decode cX2_isFree 9 = .ok (.aload_n 0, 1) := by decide +kernel
theorem dX2_isFree_10 : decode cX2_isFree 10 = .ok (.iload_n 1, 1) := by decide +kernel
theorem dX2_isFree_11 : decode cX2_isFree 11 = .ok (.iload_n 2, 1) := by decide +kernel
theorem dX2_isFree_12 : decode cX2_isFree 12 = .ok (.iload 4, 2) := by decide +kernel
theorem dX2_isFree_14 : decode cX2_isFree 14 = .ok (.iadd, 1) := by decide +kernel
theorem dX2_isFree_15 : decode cX2_isFree 15 = .ok (.invokevirtual 25, 3) := by decide +kernel
theorem dX2_isFree_18 : decode cX2_isFree 18 = .ok (.iconst (-1), 1) := by decide +kernel
theorem dX2_isFree_19 : decode cX2_isFree 19 = .ok (.if_icmp .eq 5, 3) := by decide +kernel
theorem dX2_isFree_22 : decode cX2_isFree 22 = .ok (.iconst 0, 1) := by decide +kernel
theorem dX2_isFree_23 : decode cX2_isFree 23 = .ok (.ireturn, 1) := by decide +kernel
theorem dX2_isFree_24 : decode cX2_isFree 24 = .ok (.iinc 4 1, 3) := by decide +kernel
theorem dX2_isFree_27 : decode cX2_isFree 27 = .ok (.goto (-24), 3) := by decide +kernel
theorem dX2_isFree_30 : decode cX2_isFree 30 = .ok (.iconst 1, 1) := by decide +kernel
theorem dX2_isFree_31 : decode cX2_isFree 31 = .ok (.ireturn, 1) := by decide +kernel
theorem dX3_init_0 : decode cX3_init 0 = .ok (.aload_n 0, 1) := by decide +kernel
theorem dX3_init_1 : decode cX3_init 1 = .ok (.invokespecial 3, 3) := by decide +kernel
theorem dX3_init_4 : decode cX3_init 4 = .ok (.aload_n 0, 1) := by decide +kernel
theorem dX3_init_5 : decode cX3_init 5 = .ok (.bipush 6, 2) := by decide +kernel
theorem dX3_init_7 : decode cX3_init 7 = .ok (.newarray .int, 2) := by decide +kernel
theorem dX3_init_9 : decode cX3_init 9 = .ok (.putfield 9, 3) := by decide +kernel
theorem dX3_init_12 : decode cX3_init 12 = .ok (.aload_n 0, 1) := by decide +kernel
theorem dX3_init_13 : decode cX3_init 13 = .ok (.bipush 6, 2) := by decide +kernel
theorem dX3_init_15 : decode cX3_init 15 = .ok (.bipush 6, 2) := by decide +kernel
theorem dX3_init_17 : decode cX3_init 17 = .ok (.multianewarray 15 2, 4) := by decide +kernel
theorem dX3_init_21 : decode cX3_init 21 = .ok (.putfield 17, 3) := by decide +kernel
theorem dX3_init_24 : decode cX3_init 24 = .ok (.return_, 1) := by decide +kernel
theorem dX3_run_0 : decode cX3_run 0 = .ok (.aload_n 0, 1) := by decide +kernel
theorem dX3_run_1 : decode cX3_run 1 = .ok (.iconst 0, 1) := by decide +kernel
theorem dX3_run_2 : decode cX3_run 2 = .ok (.putfield 20, 3) := by decide +kernel
theorem dX3_run_5 : decode cX3_run 5 = .ok (.aload_n 0, 1) := by decide +kernel
theorem dX3_run_6 : decode cX3_run 6 = .ok (.getfield 9, 3) := by decide +kernel
theorem dX3_run_9 : decode cX3_run 9 = .ok (.iconst 0, 1) := by decide +kernel
theorem dX3_run_10 : decode cX3_run 10 = .ok (.iconst 0, 1) := by decide +kernel
theorem dX3_run_11 : decode cX3_run 11 = .ok (.iastore, 1) := by decide +kernel
theorem dX3_run_12 : decode cX3_run 12 = .ok (.iconst 0, 1) := by decide +kernel
theorem dX3_run_13 : decode cX3_run 13 = .ok (.istore_n 3, 1) := by decide +kernel
theorem dX3_run_14 : decode cX3_run 14 = .ok (.iconst 0, 1) := by decide +kernel
theorem dX3_run_15 : decode cX3_run 15 = .ok (.istore 4, 2) := by decide +kernel
theorem dX3_run_17 : decode cX3_run 17 = .ok (.iload 4, 2) := by decide +kernel
theorem dX3_run_19 : decode cX3_run 19 = .ok (.ldc 24, 2) := by decide +kernel
theorem dX3_run_21 : decode cX3_run 21 = .ok (.if_icmp .ge 71, 3) := by decide +kernel
theorem dX3_run_24 : decode cX3_run 24 = .ok (.iload_n 3, 1) := by decide +kernel
theorem dX3_run_25 : decode cX3_run 25 = .ok (.ifCond .lt 67, 3) := by decide +kernel
theorem dX3_run_28 : decode cX3_run 28 = .ok (.iload_n 3, 1) := by decide +kernel
theorem dX3_run_29 : decode cX3_run 29 = .ok (.aload_n 1, 1) := by decide +kernel
theorem dX3_run_30 : decode cX3_run 30 = .ok (.arraylength, 1) := by decide +kernel
theorem dX3_run_31 : decode cX3_run 31 = .ok (.if_icmp .ge 61, 3) := by decide +kernel
theorem dX3_run_34 : decode cX3_run 34 = .ok (.aload_n 0, 1) := by decide +kernel
theorem dX3_run_35 : decode cX3_run 35 = .ok (.getfield 9, 3) := by decide +kernel
theorem dX3_run_38 : decode cX3_run 38 = .ok (.iload_n 3, 1) := by decide +kernel
theorem dX3_run_39 : decode cX3_run 39 = .ok (.iaload, 1) := by decide +kernel
theorem dX3_run_40 : decode cX3_run 40 = .ok (.aload_n 1, 1) := by decide +kernel
theorem dX3_run_41 : decode cX3_run 41 = .ok (.iload_n 3, 1) := by decide +kernel
theorem dX3_run_42 : decode cX3_run 42 = .ok (.aaload, 1) := by decide +kernel
theorem dX3_run_43 : decode cX3_run 43 = .ok (.getfield 25, 3) := by decide +kernel
theorem dX3_run_46 : decode cX3_run 46 = .ok (.if_icmp .lt 9, 3) := by decide +kernel
theorem dX3_run_49 : decode cX3_run 49 = .ok (.iinc 3 (-1), 3) := by decide +kernel
theorem dX3_run_52 : decode cX3_run 52 = .ok (.goto 34, 3) := by decide +kernel
theorem dX3_run_55 : decode cX3_run 55 = .ok (.aload_n 0, 1) := by decide +kernel
theorem dX3_run_56 : decode cX3_run 56 = .ok (.getfield 20, 3) := by decide +kernel
theorem dX3_run_59 : decode cX3_run 59 = .ok (.iload_n 2, 1) := by decide +kernel
theorem dX3_run_60 : decode cX3_run 60 = .ok (.if_icmp .lt 5, 3) := by decide +kernel
theorem dX3_run_63 : decode cX3_run 63 = .ok (.iconst (-1), 1) := by decide +kernel
theorem dX3_run_64 : decode cX3_run 64 = .ok (.ireturn, 1) := by decide +kernel
theorem dX3_run_65 : decode cX3_run 65 = .ok (.aload_n 0, 1) := by decide +kernel
theorem dX3_run_66 : decode cX3_run 66 = .ok (.aload_n 1, 1) := by decide +kernel
theorem dX3_run_67 : decode cX3_run 67 = .ok (.iload_n 3, 1) := by decide +kernel
theorem dX3_run_68 : decode cX3_run 68 = .ok (.aaload, 1) := by decide +kernel
theorem dX3_run_69 : decode cX3_run 69 = .ok (.iload_n 3, 1) := by decide +kernel
theorem dX3_run_70 : decode cX3_run 70 = .ok (.invokevirtual 30, 3) := by decide +kernel
theorem dX3_run_73 : decode cX3_run 73 = .ok (.ifCond .eq 13, 3) := by decide +kernel
theorem dX3_run_76 : decode cX3_run 76 = .ok (.iinc 3 1, 3) := by decide +kernel
theorem dX3_run_79 : decode cX3_run 79 = .ok (.aload_n 0, 1) := by decide +kernel
theorem dX3_run_80 : decode cX3_run 80 = .ok (.getfield 9, 3) := by decide +kernel
theorem dX3_run_83 : decode cX3_run 83 = .ok (.iload_n 3, 1) := by decide +kernel
theorem dX3_run_84 : decode cX3_run 84 = .ok (.iconst 0, 1) := by decide +kernel
theorem dX3_run_85 : decode cX3_run 85 = .ok (.iastore, 1) := by decide +kernel
theorem dX3_run_86 : decode cX3_run 86 = .ok (.iinc 4 1, 3) := by decide +kernel
theorem dX3_run_89 : decode cX3_run 89 = .ok (.goto (-72), 3) := by decide +kernel
theorem dX3_run_92 : decode cX3_run 92 = .ok (.iload_n 3, 1) := by decide +kernel
theorem dX3_run_93 : decode cX3_run 93 = .ok (.ifCond .ge 7, 3) := by decide +kernel
theorem dX3_run_96 : decode cX3_run 96 = .ok (.iconst 0, 1) := by decide +kernel
theorem dX3_run_97 : decode cX3_run 97 = .ok (.goto 4, 3) := by decide +kernel
theorem dX3_run_100 : decode cX3_run 100 = .ok (.iconst 1, 1) := by decide +kernel
theorem dX3_run_101 : decode cX3_run 101 = .ok (.ireturn, 1) := by decide +kernel
theorem dX3_fits_0 : decode cX3_fits 0 = .ok (.aload_n 0, 1) := by decide +kernel
theorem dX3_fits_1 : decode cX3_fits 1 = .ok (.getfield 9, 3) := by decide +kernel
theorem dX3_fits_4 : decode cX3_fits 4 = .ok (.iload_n 2, 1) := by decide +kernel
theorem dX3_fits_5 : decode cX3_fits 5 = .ok (.iaload, 1) := by decide +kernel
theorem dX3_fits_6 : decode cX3_fits 6 = .ok (.istore_n 3, 1) := by decide +kernel
theorem dX3_fits_7 : decode cX3_fits 7 = .ok (.aload_n 0, 1) := by decide +kernel
theorem dX3_fits_8 : decode cX3_fits 8 = .ok (.getfield 9, 3) := by decide +kernel
theorem dX3_fits_11 : decode cX3_fits 11 = .ok (.iload_n 2, 1) := by decide +kernel
theorem dX3_fits_12 : decode cX3_fits 12 = .ok (.dup2, 1) := by decide +kernel
theorem dX3_fits_13 : decode cX3_fits 13 = .ok (.iaload, 1) := by decide +kernel
theorem dX3_fits_14 : decode cX3_fits 14 = .ok (.iconst 1, 1) := by decide +kernel
theorem dX3_fits_15 : decode cX3_fits 15 = .ok (.iadd, 1) := by decide +kernel
theorem dX3_fits_16 : decode cX3_fits 16 = .ok (.iastore, 1) := by decide +kernel
theorem dX3_fits_17 : decode cX3_fits 17 = .ok (.aload_n 0, 1) := by decide +kernel
theorem dX3_fits_18 : decode cX3_fits 18 = .ok (.dup, 1) := by decide +kernel
theorem dX3_fits_19 : decode cX3_fits 19 = .ok (.getfield 20, 3) := by decide +kernel
theorem dX3_fits_22 : decode cX3_fits 22 = .ok (.iconst 1, 1) := by decide +kernel
theorem dX3_fits_23 : decode cX3_fits 23 = .ok (.iadd, 1) := by decide +kernel
theorem dX3_fits_24 : decode cX3_fits 24 = .ok (.putfield 20, 3) := by decide +kernel
theorem dX3_fits_27 : decode cX3_fits 27 = .ok (.aload_n 1, 1) := by decide +kernel
theorem dX3_fits_28 : decode cX3_fits 28 = .ok (.invokevirtual 34, 3) := by decide +kernel
theorem dX3_fits_31 : decode cX3_fits 31 = .ok (.aload_n 1, 1) := by decide +kernel
theorem dX3_fits_32 : decode cX3_fits 32 = .ok (.getfield 38, 3) := by decide +kernel
theorem dX3_fits_35 : decode cX3_fits 35 = .ok (.if_icmp .gt 17, 3) := by decide +kernel
theorem dX3_fits_38 : decode cX3_fits 38 = .ok (.aload_n 1, 1) := by decide +kernel
theorem dX3_fits_39 : decode cX3_fits 39 = .ok (.iload_n 3, 1) := by decide +kernel
theorem dX3_fits_40 : decode cX3_fits 40 = .ok (.aload_n 0, 1) := by decide +kernel
theorem dX3_fits_41 : decode cX3_fits 41 = .ok (.getfield 17, 3) := by decide +kernel
theorem dX3_fits_44 : decode cX3_fits 44 = .ok (.iload_n 2, 1) := by decide +kernel
theorem dX3_fits_45 : decode cX3_fits 45 = .ok (.aaload, 1) := by decide +kernel
theorem dX3_fits_46 : decode cX3_fits 46 = .ok (.invokestatic 41, 3) := by decide +kernel
theorem dX3_fits_49 : decode cX3_fits 49 = .ok (.ifCond .eq 5, 3) := by decide +kernel
theorem dX3_fits_52 : decode cX3_fits 52 = .ok (.iconst 0, 1) := by decide +kernel
theorem dX3_fits_53 : decode cX3_fits 53 = .ok (.ireturn, 1) := by decide +kernel
theorem dX3_fits_54 : decode cX3_fits 54 = .ok (.aload_n 1, 1) := by decide +kernel
theorem dX3_fits_55 : decode cX3_fits 55 = .ok (.iload_n 3, 1) := by decide +kernel
theorem dX3_fits_56 : decode cX3_fits 56 = .ok (.putfield 45, 3) := by decide +kernel
theorem dX3_fits_59 : decode cX3_fits 59 = .ok (.aload_n 0, 1) := by decide +kernel
theorem dX3_fits_60 : decode cX3_fits 60 = .ok (.getfield 17, 3) := by decide +kernel
theorem dX3_fits_63 : decode cX3_fits 63 = .ok (.iload_n 2, 1) := by decide +kernel
theorem dX3_fits_64 : decode cX3_fits 64 = .ok (.aaload, 1) := by decide +kernel
theorem dX3_fits_65 : decode cX3_fits 65 = .ok (.iconst 0, 1) := by decide +kernel
theorem dX3_fits_66 : decode cX3_fits 66 = .ok (.aload_n 0, 1) := by decide +kernel
theorem dX3_fits_67 : decode cX3_fits 67 = .ok (.getfield 17, 3) := by decide +kernel
theorem dX3_fits_70 : decode cX3_fits 70 = .ok (.iload_n 2, 1) := by decide +kernel
theorem dX3_fits_71 : decode cX3_fits 71 = .ok (.iconst 1, 1) := by decide +kernel
theorem dX3_fits_72 : decode cX3_fits 72 = .ok (.iadd, 1) := by decide +kernel
theorem dX3_fits_73 : decode cX3_fits 73 = .ok (.aaload, 1) := by decide +kernel
theorem dX3_fits_74 : decode cX3_fits 74 = .ok (.iconst 0, 1) := by decide +kernel
theorem dX3_fits_75 : decode cX3_fits 75 = .ok (.bipush 6, 2) := by decide +kernel
theorem dX3_fits_77 : decode cX3_fits 77 = .ok (.invokestatic 48, 3) := by decide +kernel
theorem dX3_fits_80 : decode cX3_fits 80 = .ok (.iconst 0, 1) := by decide +kernel
theorem dX3_fits_81 : decode cX3_fits 81 = .ok (.istore 4, 2) := by decide +kernel
theorem dX3_fits_83 : decode cX3_fits 83 = .ok (.iload 4, 2) := by decide +kernel
theorem dX3_fits_85 : decode cX3_fits 85 = .ok (.aload_n 1, 1) := by decide +kernel
theorem dX3_fits_86 : decode cX3_fits 86 = .ok (.getfield 54, 3) := by decide +kernel
theorem dX3_fits_89 : decode cX3_fits 89 = .ok (.arraylength, 1) := by decide +kernel
theorem dX3_fits_90 : decode cX3_fits 90 = .ok (.if_icmp .ge 35, 3) := by decide +kernel
theorem dX3_fits_93 : decode cX3_fits 93 = .ok (.aload_n 0, 1) := by decide +kernel
theorem dX3_fits_94 : decode cX3_fits 94 = .ok (.getfield 17, 3) := by decide +kernel
theorem dX3_fits_97 : decode cX3_fits 97 = .ok (.iload_n 2, 1) := by decide +kernel
theorem dX3_fits_98 : decode cX3_fits 98 = .ok (.iconst 1, 1) := by decide +kernel
theorem dX3_fits_99 : decode cX3_fits 99 = .ok (.iadd, 1) := by decide +kernel
theorem dX3_fits_100 : decode cX3_fits 100 = .ok (.aaload, 1) := by decide +kernel
theorem dX3_fits_101 : decode cX3_fits 101 = .ok (.aload_n 1, 1) := by decide +kernel
theorem dX3_fits_102 : decode cX3_fits 102 = .ok (.getfield 54, 3) := by decide +kernel
theorem dX3_fits_105 : decode cX3_fits 105 = .ok (.iload 4, 2) := by decide +kernel
theorem dX3_fits_107 : decode cX3_fits 107 = .ok (.iaload, 1) := by decide +kernel
theorem dX3_fits_108 : decode cX3_fits 108 = .ok (.dup2, 1) := by decide +kernel
theorem dX3_fits_109 : decode cX3_fits 109 = .ok (.iaload, 1) := by decide +kernel
theorem dX3_fits_110 : decode cX3_fits 110 = .ok (.aload_n 1, 1) := by decide +kernel
theorem dX3_fits_111 : decode cX3_fits 111 = .ok (.iload 4, 2) := by decide +kernel
theorem dX3_fits_113 : decode cX3_fits 113 = .ok (.iload_n 3, 1) := by decide +kernel
theorem dX3_fits_114 : decode cX3_fits 114 = .ok (.invokevirtual 57, 3) := by decide +kernel
theorem dX3_fits_117 : decode cX3_fits 117 = .ok (.ior, 1) := by decide +kernel
theorem dX3_fits_118 : decode cX3_fits 118 = .ok (.iastore, 1) := by decide +kernel
theorem dX3_fits_119 : decode cX3_fits 119 = .ok (.iinc 4 1, 3) := by decide +kernel
theorem dX3_fits_122 : decode cX3_fits 122 = .ok (.goto (-39), 3) := by decide +kernel
theorem dX3_fits_125 : decode cX3_fits 125 = .ok (.iconst 1, 1) := by decide +kernel
theorem dX3_fits_126 : decode cX3_fits 126 = .ok (.ireturn, 1) := by decide +kernel
theorem dX3_isTaken_0 : decode cX3_isTaken 0 = .ok (.iconst 0, 1) := by decide +kernel
theorem dX3_isTaken_1 : decode cX3_isTaken 1 = .ok (.istore_n 3, 1) := by decide +kernel
theorem dX3_isTaken_2 : decode cX3_isTaken 2 = .ok (.iload_n 3, 1) := by decide +kernel
theorem dX3_isTaken_3 : decode cX3_isTaken 3 = .ok (.aload_n 0, 1) := by decide +kernel
theorem dX3_isTaken_4 : decode cX3_isTaken 4 = .ok (.getfield 54, 3) := by decide +kernel
theorem dX3_isTaken_7 : decode cX3_isTaken 7 = .ok (.arraylength, 1) := by decide +kernel
theorem dX3_isTaken_8 : decode cX3_isTaken 8 = .ok (.if_icmp .ge 29, 3) := by decide +kernel
theorem dX3_isTaken_11 : decode cX3_isTaken 11 = .ok (.aload_n 2, 1) := by decide +kernel
theorem dX3_isTaken_12 : decode cX3_isTaken 12 = .ok (.aload_n 0, 1) := by decide +kernel
theorem dX3_isTaken_13 : decode cX3_isTaken 13 = .ok (.getfield 54, 3) := by decide +kernel
theorem dX3_isTaken_16 : decode cX3_isTaken 16 = .ok (.iload_n 3, 1) := by decide +kernel
theorem dX3_isTaken_17 : decode cX3_isTaken 17 = .ok (.iaload, 1) := by decide +kernel
theorem dX3_isTaken_18 : decode cX3_isTaken 18 = .ok (.iaload, 1) := by decide +kernel
theorem dX3_isTaken_19 : decode cX3_isTaken 19 = .ok (.aload_n 0, 1) := by decide +kernel
theorem dX3_isTaken_20 : decode cX3_isTaken 20 = .ok (.iload_n 3, 1) := by decide +kernel
theorem dX3_isTaken_21 : decode cX3_isTaken 21 = .ok (.iload_n 1, 1) := by decide +kernel
theorem dX3_isTaken_22 : decode cX3_isTaken 22 = .ok (.invokevirtual 57, 3) := by decide +kernel
theorem dX3_isTaken_25 : decode cX3_isTaken 25 = .ok (.iand, 1) := by decide +kernel
theorem dX3_isTaken_26 : decode cX3_isTaken 26 = .ok (.ifCond .eq 5, 3) := by decide +kernel
theorem dX3_isTaken_29 : decode cX3_isTaken 29 = .ok (.iconst 1, 1) := by decide +kernel
theorem dX3_isTaken_30 : decode cX3_isTaken 30 = .ok (.ireturn, 1) := by decide +kernel
theorem dX3_isTaken_31 : decode cX3_isTaken 31 = .ok (.iinc 3 1, 3) := by decide +kernel
theorem dX3_isTaken_34 : decode cX3_isTaken 34 = .ok (.goto (-32), 3) := by decide +kernel
theorem dX3_isTaken_37 : decode cX3_isTaken 37 = .ok (.iconst 0, 1) := by decide +kernel
theorem dX3_isTaken_38 : decode cX3_isTaken 38 = .ok (.ireturn, 1) := by decide +kernel
theorem dX4_init_0 : decode cX4_init 0 = .ok (.aload_n 0, 1) := by decide +kernel
theorem dX4_init_1 : decode cX4_init 1 = .ok (.invokespecial 1, 3) := by decide +kernel
theorem dX4_init_4 : decode cX4_init 4 = .ok (.aload_n 0, 1) := by decide +kernel
theorem dX4_init_5 : decode cX4_init 5 = .ok (.iload_n 1, 1) := by decide +kernel
theorem dX4_init_6 : decode cX4_init 6 = .ok (.putfield 7, 3) := by decide +kernel
theorem dX4_init_9 : decode cX4_init 9 = .ok (.aload_n 0, 1) := by decide +kernel
theorem dX4_init_10 : decode cX4_init 10 = .ok (.iload_n 2, 1) := by decide +kernel
theorem dX4_init_11 : decode cX4_init 11 = .ok (.putfield 13, 3) := by decide +kernel
theorem dX4_init_14 : decode cX4_init 14 = .ok (.aload_n 0, 1) := by decide +kernel
theorem dX4_init_15 : decode cX4_init 15 = .ok (.iload_n 3, 1) := by decide +kernel
theorem dX4_init_16 : decode cX4_init 16 = .ok (.putfield 16, 3) := by decide +kernel
theorem dX4_init_19 : decode cX4_init 19 = .ok (.aload_n 0, 1) := by decide +kernel
theorem dX4_init_20 : decode cX4_init 20 = .ok (.aload 4, 2) := by decide +kernel
theorem dX4_init_22 : decode cX4_init 22 = .ok (.putfield 19, 3) := by decide +kernel
theorem dX4_init_25 : decode cX4_init 25 = .ok (.return_, 1) := by decide +kernel
theorem dX5_init_0 : decode cX5_init 0 = .ok (.aload_n 0, 1) := by decide +kernel
theorem dX5_init_1 : decode cX5_init 1 = .ok (.invokespecial 3, 3) := by decide +kernel
theorem dX5_init_4 : decode cX5_init 4 = .ok (.aload_n 0, 1) := by decide +kernel
theorem dX5_init_5 : decode cX5_init 5 = .ok (.bipush 8, 2) := by decide +kernel
theorem dX5_init_7 : decode cX5_init 7 = .ok (.newarray .int, 2) := by decide +kernel
theorem dX5_init_9 : decode cX5_init 9 = .ok (.putfield 9, 3) := by decide +kernel
theorem dX5_init_12 : decode cX5_init 12 = .ok (.return_, 1) := by decide +kernel
theorem dX5_startAnew_0 : decode cX5_startAnew 0 = .ok (.aload_n 0, 1) := by decide +kernel
theorem dX5_startAnew_1 : decode cX5_startAnew 1 = .ok (.aload_n 1, 1) := by decide +kernel
theorem dX5_startAnew_2 : decode cX5_startAnew 2 = .ok (.putfield 15, 3) := by decide +kernel
theorem dX5_startAnew_5 : decode cX5_startAnew 5 = .ok (.aload_n 0, 1) := by decide +kernel
theorem dX5_startAnew_6 : decode cX5_startAnew 6 = .ok (.iconst 1, 1) := by decide +kernel
theorem dX5_startAnew_7 : decode cX5_startAnew 7 = .ok (.putfield 19, 3) := by decide +kernel
theorem dX5_startAnew_10 : decode cX5_startAnew 10 = .ok (.aload_n 0, 1) := by decide +kernel
theorem dX5_startAnew_11 : decode cX5_startAnew 11 = .ok (.iconst 0, 1) := by decide +kernel
theorem dX5_startAnew_12 : decode cX5_startAnew 12 = .ok (.putfield 23, 3) := by decide +kernel
theorem dX5_startAnew_15 : decode cX5_startAnew 15 = .ok (.aload_n 0, 1) := by decide +kernel
theorem dX5_startAnew_16 : decode cX5_startAnew 16 = .ok (.iconst 0, 1) := by decide +kernel
theorem dX5_startAnew_17 : decode cX5_startAnew 17 = .ok (.putfield 27, 3) := by decide +kernel
theorem dX5_startAnew_20 : decode cX5_startAnew 20 = .ok (.aload_n 0, 1) := by decide +kernel
theorem dX5_startAnew_21 : decode cX5_startAnew 21 = .ok (.iconst 0, 1) := by decide +kernel
theorem dX5_startAnew_22 : decode cX5_startAnew 22 = .ok (.putfield 30, 3) := by decide +kernel
theorem dX5_startAnew_25 : decode cX5_startAnew 25 = .ok (.aload_n 0, 1) := by decide +kernel
theorem dX5_startAnew_26 : decode cX5_startAnew 26 = .ok (.iconst 0, 1) := by decide +kernel
theorem dX5_startAnew_27 : decode cX5_startAnew 27 = .ok (.putfield 33, 3) := by decide +kernel
theorem dX5_startAnew_30 : decode cX5_startAnew 30 = .ok (.aload_n 0, 1) := by decide +kernel
theorem dX5_startAnew_31 : decode cX5_startAnew 31 = .ok (.iconst 0, 1) := by decide +kernel
theorem dX5_startAnew_32 : decode cX5_startAnew 32 = .ok (.putfield 36, 3) := by decide +kernel
theorem dX5_startAnew_35 : decode cX5_startAnew 35 = .ok (.aload_n 0, 1) := by decide +kernel
theorem dX5_startAnew_36 : decode cX5_startAnew 36 = .ok (.iconst 0, 1) := by decide +kernel
theorem dX5_startAnew_37 : decode cX5_startAnew 37 = .ok (.putfield 39, 3) := by decide +kernel
theorem dX5_startAnew_40 : decode cX5_startAnew 40 = .ok (.aload_n 0, 1) := by decide +kernel
theorem dX5_startAnew_41 : decode cX5_startAnew 41 = .ok (.iconst (-1), 1) := by decide +kernel
theorem dX5_startAnew_42 : decode cX5_startAnew 42 = .ok (.putfield 42, 3) := by decide +kernel
theorem dX5_startAnew_45 : decode cX5_startAnew 45 = .ok (.return_, 1) := by decide +kernel
theorem dX5_speak_0 : decode cX5_speak 0 = .ok (.aload_n 0, 1) := by decide +kernel
theorem dX5_speak_1 : decode cX5_speak 1 = .ok (.getfield 19, 3) := by decide +kernel
theorem dX5_speak_4 : decode cX5_speak 4 = .ok (.ifCond .eq 28, 3) := by decide +kernel
theorem dX5_speak_7 : decode cX5_speak 7 = .ok (.iload_n 1, 1) := by decide +kernel
theorem dX5_speak_8 : decode cX5_speak 8 = .ok (.aload_n 0, 1) := by decide +kernel
theorem dX5_speak_9 : decode cX5_speak 9 = .ok (.getfield 23, 3) := by decide +kernel
theorem dX5_speak_12 : decode cX5_speak 12 = .ok (.isub, 1) := by decide +kernel
theorem dX5_speak_13 : decode cX5_speak 13 = .ok (.ifCond .lt 19, 3) := by decide +kernel
theorem dX5_speak_16 : decode cX5_speak 16 = .ok (.aload_n 0, 1) := by decide +kernel
theorem dX5_speak_17 : decode cX5_speak 17 = .ok (.getfield 15, 3) := by decide +kernel
theorem dX5_speak_20 : decode cX5_speak 20 = .ok (.iload_n 1, 1) := by decide +kernel
theorem dX5_speak_21 : decode cX5_speak 21 = .ok (.aload_n 0, 1) := by decide +kernel
theorem dX5_speak_22 : decode cX5_speak 22 = .ok (.getfield 23, 3) := by decide +kernel
theorem dX5_speak_25 : decode cX5_speak 25 = .ok (.isub, 1) := by decide +kernel
theorem dX5_speak_26 : decode cX5_speak 26 = .ok (.invokevirtual 45, 3) := by decide +kernel
theorem dX5_speak_29 : decode cX5_speak 29 = .ok (.ifCond .ne 4, 3) := by decide +kernel
theorem dX5_speak_32 : decode cX5_speak 32 = .ok (.return_, 1) := by decide +kernel
theorem dX5_speak_33 : decode cX5_speak 33 = .ok (.aload_n 0, 1) := by decide +kernel
theorem dX5_speak_34 : decode cX5_speak 34 = .ok (.getfield 23, 3) := by decide +kernel
theorem dX5_speak_37 : decode cX5_speak 37 = .ok (.ifCond .gt 10, 3) := by decide +kernel
theorem dX5_speak_40 : decode cX5_speak 40 = .ok (.aload_n 0, 1) := by decide +kernel
theorem dX5_speak_41 : decode cX5_speak 41 = .ok (.getfield 27, 3) := by decide +kernel
theorem dX5_speak_44 : decode cX5_speak 44 = .ok (.ifCond .eq 21, 3) := by decide +kernel
theorem dX5_speak_47 : decode cX5_speak 47 = .ok (.aload_n 0, 1) := by decide +kernel
theorem dX5_speak_48 : decode cX5_speak 48 = .ok (.dup, 1) := by decide +kernel
theorem dX5_speak_49 : decode cX5_speak 49 = .ok (.getfield 39, 3) := by decide +kernel
theorem dX5_speak_52 : decode cX5_speak 52 = .ok (.iconst 1, 1) := by decide +kernel
theorem dX5_speak_53 : decode cX5_speak 53 = .ok (.iadd, 1) := by decide +kernel
theorem dX5_speak_54 : decode cX5_speak 54 = .ok (.putfield 39, 3) := by decide +kernel
theorem dX5_speak_57 : decode cX5_speak 57 = .ok (.aload_n 0, 1) := by decide +kernel
theorem dX5_speak_58 : decode cX5_speak 58 = .ok (.iconst 1, 1) := by decide +kernel
theorem dX5_speak_59 : decode cX5_speak 59 = .ok (.putfield 27, 3) := by decide +kernel
theorem dX5_speak_62 : decode cX5_speak 62 = .ok (.goto 32, 3) := by decide +kernel
theorem dX5_speak_65 : decode cX5_speak 65 = .ok (.aload_n 0, 1) := by decide +kernel
theorem dX5_speak_66 : decode cX5_speak 66 = .ok (.getfield 30, 3) := by decide +kernel
theorem dX5_speak_69 : decode cX5_speak 69 = .ok (.bipush 8, 2) := by decide +kernel
theorem dX5_speak_71 : decode cX5_speak 71 = .ok (.if_icmp .ge 23, 3) := by decide +kernel
theorem dX5_speak_74 : decode cX5_speak 74 = .ok (.aload_n 0, 1) := by decide +kernel
theorem dX5_speak_75 : decode cX5_speak 75 = .ok (.getfield 9, 3) := by decide +kernel
theorem dX5_speak_78 : decode cX5_speak 78 = .ok (.aload_n 0, 1) := by decide +kernel
theorem dX5_speak_79 : decode cX5_speak 79 = .ok (.getfield 30, 3) := by decide +kernel
theorem dX5_speak_82 : decode cX5_speak 82 = .ok (.iload_n 1, 1) := by decide +kernel
theorem dX5_speak_83 : decode cX5_speak 83 = .ok (.iastore, 1) := by decide +kernel
theorem dX5_speak_84 : decode cX5_speak 84 = .ok (.aload_n 0, 1) := by decide +kernel
theorem dX5_speak_85 : decode cX5_speak 85 = .ok (.dup, 1) := by decide +kernel
theorem dX5_speak_86 : decode cX5_speak 86 = .ok (.getfield 30, 3) := by decide +kernel
theorem dX5_speak_89 : decode cX5_speak 89 = .ok (.iconst 1, 1) := by decide +kernel
theorem dX5_speak_90 : decode cX5_speak 90 = .ok (.iadd, 1) := by decide +kernel
theorem dX5_speak_91 : decode cX5_speak 91 = .ok (.putfield 30, 3) := by decide +kernel
theorem dX5_speak_94 : decode cX5_speak 94 = .ok (.return_, 1) := by decide +kernel
theorem dX5_moveFrames_0 : decode cX5_moveFrames 0 = .ok (.iconst 0, 1) := by decide +kernel
theorem dX5_moveFrames_1 : decode cX5_moveFrames 1 = .ok (.istore_n 3, 1) := by decide +kernel
theorem dX5_moveFrames_2 : decode cX5_moveFrames 2 = .ok (.iconst 0, 1) := by decide +kernel
theorem dX5_moveFrames_3 : decode cX5_moveFrames 3 = .ok (.istore 4, 2) := by decide +kernel
theorem dX5_moveFrames_5 : decode cX5_moveFrames 5 = .ok (.iload 4, 2) := by decide +kernel
theorem dX5_moveFrames_7 : decode cX5_moveFrames 7 = .ok (.aload_n 0, 1) := by decide +kernel
theorem dX5_moveFrames_8 : decode cX5_moveFrames 8 = .ok (.getfield 30, 3) := by decide +kernel
theorem dX5_moveFrames_11 : decode cX5_moveFrames 11 = .ok (.if_icmp .ge 90, 3) := by decide +kernel
theorem dX5_moveFrames_14 : decode cX5_moveFrames 14 = .ok (.iload_n 1, 1) := by decide +kernel
theorem dX5_moveFrames_15 : decode cX5_moveFrames 15 = .ok (.aload_n 0, 1) := by decide +kernel
theorem dX5_moveFrames_16 : decode cX5_moveFrames 16 = .ok (.getfield 9, 3) := by decide +kernel
theorem dX5_moveFrames_19 : decode cX5_moveFrames 19 = .ok (.iload 4, 2) := by decide +kernel
theorem dX5_moveFrames_21 : decode cX5_moveFrames 21 = .ok (.iaload, 1) := by decide +kernel
theorem dX5_moveFrames_22 : decode cX5_moveFrames 22 = .ok (.isub, 1) := by decide +kernel
theorem dX5_moveFrames_23 : decode cX5_moveFrames 23 = .ok (.istore 5, 2) := by decide +kernel
theorem dX5_moveFrames_25 : decode cX5_moveFrames 25 = .ok (.aload_n 0, 1) := by decide +kernel
theorem dX5_moveFrames_26 : decode cX5_moveFrames 26 = .ok (.iload 5, 2) := by decide +kernel
theorem dX5_moveFrames_28 : decode cX5_moveFrames 28 = .ok (.aload_n 2, 1) := by decide +kernel
theorem dX5_moveFrames_29 : decode cX5_moveFrames 29 = .ok (.invokevirtual 51, 3) := by decide +kernel
theorem dX5_moveFrames_32 : decode cX5_moveFrames 32 = .ok (.ifCond .eq 16, 3) := by decide +kernel
theorem dX5_moveFrames_35 : decode cX5_moveFrames 35 = .ok (.aload_n 0, 1) := by decide +kernel
theorem dX5_moveFrames_36 : decode cX5_moveFrames 36 = .ok (.dup, 1) := by decide +kernel
theorem dX5_moveFrames_37 : decode cX5_moveFrames 37 = .ok (.getfield 36, 3) := by decide +kernel
theorem dX5_moveFrames_40 : decode cX5_moveFrames 40 = .ok (.iconst 1, 1) := by decide +kernel
theorem dX5_moveFrames_41 : decode cX5_moveFrames 41 = .ok (.iadd, 1) := by decide +kernel
theorem dX5_moveFrames_42 : decode cX5_moveFrames 42 = .ok (.putfield 36, 3) := by decide +kernel
theorem dX5_moveFrames_45 : decode cX5_moveFrames 45 = .ok (.goto 50, 3) := by decide +kernel
theorem dX5_moveFrames_48 : decode cX5_moveFrames 48 = .ok (.iload 5, 2) := by decide +kernel
theorem dX5_moveFrames_50 : decode cX5_moveFrames 50 = .ok (.aload_n 0, 1) := by decide +kernel
theorem dX5_moveFrames_51 : decode cX5_moveFrames 51 = .ok (.getfield 15, 3) := by decide +kernel
theorem dX5_moveFrames_54 : decode cX5_moveFrames 54 = .ok (.invokevirtual 55, 3) := by decide +kernel
theorem dX5_moveFrames_57 : decode cX5_moveFrames 57 = .ok (.if_icmp .ne 22, 3) := by decide +kernel
theorem dX5_moveFrames_60 : decode cX5_moveFrames 60 = .ok (.aload_n 0, 1) := by decide +kernel
theorem dX5_moveFrames_61 : decode cX5_moveFrames 61 = .ok (.dup, 1) := by decide +kernel
theorem dX5_moveFrames_62 : decode cX5_moveFrames 62 = .ok (.getfield 33, 3) := by decide +kernel
theorem dX5_moveFrames_65 : decode cX5_moveFrames 65 = .ok (.iconst 1, 1) := by decide +kernel
theorem dX5_moveFrames_66 : decode cX5_moveFrames 66 = .ok (.iadd, 1) := by decide +kernel
theorem dX5_moveFrames_67 : decode cX5_moveFrames 67 = .ok (.putfield 33, 3) := by decide +kernel
theorem dX5_moveFrames_70 : decode cX5_moveFrames 70 = .ok (.aload_n 0, 1) := by decide +kernel
theorem dX5_moveFrames_71 : decode cX5_moveFrames 71 = .ok (.iload 5, 2) := by decide +kernel
theorem dX5_moveFrames_73 : decode cX5_moveFrames 73 = .ok (.putfield 42, 3) := by decide +kernel
theorem dX5_moveFrames_76 : decode cX5_moveFrames 76 = .ok (.goto 19, 3) := by decide +kernel
theorem dX5_moveFrames_79 : decode cX5_moveFrames 79 = .ok (.aload_n 0, 1) := by decide +kernel
theorem dX5_moveFrames_80 : decode cX5_moveFrames 80 = .ok (.getfield 9, 3) := by decide +kernel
theorem dX5_moveFrames_83 : decode cX5_moveFrames 83 = .ok (.iload_n 3, 1) := by decide +kernel
theorem dX5_moveFrames_84 : decode cX5_moveFrames 84 = .ok (.aload_n 0, 1) := by decide +kernel
theorem dX5_moveFrames_85 : decode cX5_moveFrames 85 = .ok (.getfield 9, 3) := by decide +kernel
theorem dX5_moveFrames_88 : decode cX5_moveFrames 88 = .ok (.iload 4, 2) := by decide +kernel
theorem dX5_moveFrames_90 : decode cX5_moveFrames 90 = .ok (.iaload, 1) := by decide +kernel
theorem dX5_moveFrames_91 : decode cX5_moveFrames 91 = .ok (.iastore, 1) := by decide +kernel
theorem dX5_moveFrames_92 : decode cX5_moveFrames 92 = .ok (.iinc 3 1, 3) := by decide +kernel
theorem dX5_moveFrames_95 : decode cX5_moveFrames 95 = .ok (.iinc 4 1, 3) := by decide +kernel
theorem dX5_moveFrames_98 : decode cX5_moveFrames 98 = .ok (.goto (-93), 3) := by decide +kernel
theorem dX5_moveFrames_101 : decode cX5_moveFrames 101 = .ok (.aload_n 0, 1) := by decide +kernel
theorem dX5_moveFrames_102 : decode cX5_moveFrames 102 = .ok (.iload_n 3, 1) := by decide +kernel
theorem dX5_moveFrames_103 : decode cX5_moveFrames 103 = .ok (.putfield 30, 3) := by decide +kernel
theorem dX5_moveFrames_106 : decode cX5_moveFrames 106 = .ok (.return_, 1) := by decide +kernel
theorem dX5_beginsOnCut_0 : decode cX5_beginsOnCut 0 = .ok (.iconst 0, 1) := by decide +kernel
theorem dX5_beginsOnCut_1 : decode cX5_beginsOnCut 1 = .ok (.istore_n 3, 1) := by decide +kernel
theorem dX5_beginsOnCut_2 : decode cX5_beginsOnCut 2 = .ok (.iload_n 3, 1) := by decide +kernel
theorem dX5_beginsOnCut_3 : decode cX5_beginsOnCut 3 = .ok (.aload_n 0, 1) := by decide +kernel
theorem dX5_beginsOnCut_4 : decode cX5_beginsOnCut 4 = .ok (.getfield 15, 3) := by decide +kernel
theorem dX5_beginsOnCut_7 : decode cX5_beginsOnCut 7 = .ok (.getfield 58, 3) := by decide +kernel
theorem dX5_beginsOnCut_10 : decode cX5_beginsOnCut 10 = .ok (.arraylength, 1) := by decide +kernel
theorem dX5_beginsOnCut_11 : decode cX5_beginsOnCut 11 = .ok (.if_icmp .ge 41, 3) := by decide +kernel
theorem dX5_beginsOnCut_14 : decode cX5_beginsOnCut 14 = .ok (.aload_n 0, 1) := by decide +kernel
theorem dX5_beginsOnCut_15 : decode cX5_beginsOnCut 15 = .ok (.getfield 15, 3) := by decide +kernel
theorem dX5_beginsOnCut_18 : decode cX5_beginsOnCut 18 = .ok (.getfield 61, 3) := by decide +kernel
theorem dX5_beginsOnCut_21 : decode cX5_beginsOnCut 21 = .ok (.iload_n 3, 1) := by decide +kernel
theorem dX5_beginsOnCut_22 : decode cX5_beginsOnCut 22 = .ok (.iaload, 1) := by decide +kernel
theorem dX5_beginsOnCut_23 : decode cX5_beginsOnCut 23 = .ok (.iload_n 1, 1) := by decide +kernel
theorem dX5_beginsOnCut_24 : decode cX5_beginsOnCut 24 = .ok (.if_icmp .ne 22, 3) := by decide +kernel
theorem dX5_beginsOnCut_27 : decode cX5_beginsOnCut 27 = .ok (.aload_n 2, 1) := by decide +kernel
theorem dX5_beginsOnCut_28 : decode cX5_beginsOnCut 28 = .ok (.aload_n 0, 1) := by decide +kernel
theorem dX5_beginsOnCut_29 : decode cX5_beginsOnCut 29 = .ok (.getfield 15, 3) := by decide +kernel
theorem dX5_beginsOnCut_32 : decode cX5_beginsOnCut 32 = .ok (.getfield 58, 3) := by decide +kernel
theorem dX5_beginsOnCut_35 : decode cX5_beginsOnCut 35 = .ok (.iload_n 3, 1) := by decide +kernel
theorem dX5_beginsOnCut_36 : decode cX5_beginsOnCut 36 = .ok (.iaload, 1) := by decide +kernel
theorem dX5_beginsOnCut_37 : decode cX5_beginsOnCut 37 = .ok (.aaload, 1) := by decide +kernel
theorem dX5_beginsOnCut_38 : decode cX5_beginsOnCut 38 = .ok (.getfield 64, 3) := by decide +kernel
theorem dX5_beginsOnCut_41 : decode cX5_beginsOnCut 41 = .ok (.ifCond .eq 5, 3) := by decide +kernel
theorem dX5_beginsOnCut_44 : decode cX5_beginsOnCut 44 = .ok (.iconst 1, 1) := by decide +kernel
theorem dX5_beginsOnCut_45 : decode cX5_beginsOnCut 45 = .ok (.ireturn, 1) := by decide +kernel
theorem dX5_beginsOnCut_46 : decode cX5_beginsOnCut 46 = .ok (.iinc 3 1, 3) := by decide +kernel
theorem dX5_beginsOnCut_49 : decode cX5_beginsOnCut 49 = .ok (.goto (-47), 3) := by decide +kernel
theorem dX5_beginsOnCut_52 : decode cX5_beginsOnCut 52 = .ok (.iconst 0, 1) := by decide +kernel
theorem dX5_beginsOnCut_53 : decode cX5_beginsOnCut 53 = .ok (.ireturn, 1) := by decide +kernel
theorem dX5_loseOn_0 : decode cX5_loseOn 0 = .ok (.aload_n 0, 1) := by decide +kernel
theorem dX5_loseOn_1 : decode cX5_loseOn 1 = .ok (.getfield 15, 3) := by decide +kernel
theorem dX5_loseOn_4 : decode cX5_loseOn 4 = .ok (.iload_n 1, 1) := by decide +kernel
theorem dX5_loseOn_5 : decode cX5_loseOn 5 = .ok (.invokevirtual 69, 3) := by decide +kernel
theorem dX5_loseOn_8 : decode cX5_loseOn 8 = .ok (.istore_n 3, 1) := by decide +kernel
theorem dX5_loseOn_9 : decode cX5_loseOn 9 = .ok (.iload_n 3, 1) := by decide +kernel
theorem dX5_loseOn_10 : decode cX5_loseOn 10 = .ok (.iconst (-1), 1) := by decide +kernel
theorem dX5_loseOn_11 : decode cX5_loseOn 11 = .ok (.if_icmp .ne 4, 3) := by decide +kernel
theorem dX5_loseOn_14 : decode cX5_loseOn 14 = .ok (.return_, 1) := by decide +kernel
theorem dX5_loseOn_15 : decode cX5_loseOn 15 = .ok (.iconst 0, 1) := by decide +kernel
theorem dX5_loseOn_16 : decode cX5_loseOn 16 = .ok (.istore 4, 2) := by decide +kernel
theorem dX5_loseOn_18 : decode cX5_loseOn 18 = .ok (.iconst 0, 1) := by decide +kernel
theorem dX5_loseOn_19 : decode cX5_loseOn 19 = .ok (.istore 5, 2) := by decide +kernel
theorem dX5_loseOn_21 : decode cX5_loseOn 21 = .ok (.iload 5, 2) := by decide +kernel
theorem dX5_loseOn_23 : decode cX5_loseOn 23 = .ok (.aload_n 0, 1) := by decide +kernel
theorem dX5_loseOn_24 : decode cX5_loseOn 24 = .ok (.getfield 30, 3) := by decide +kernel
theorem dX5_loseOn_27 : decode cX5_loseOn 27 = .ok (.if_icmp .ge 78, 3) := by decide +kernel
theorem dX5_loseOn_30 : decode cX5_loseOn 30 = .ok (.iload_n 2, 1) := by decide +kernel
theorem dX5_loseOn_31 : decode cX5_loseOn 31 = .ok (.aload_n 0, 1) := by decide +kernel
theorem dX5_loseOn_32 : decode cX5_loseOn 32 = .ok (.getfield 9, 3) := by decide +kernel
theorem dX5_loseOn_35 : decode cX5_loseOn 35 = .ok (.iload 5, 2) := by decide +kernel
theorem dX5_loseOn_37 : decode cX5_loseOn 37 = .ok (.iaload, 1) := by decide +kernel
theorem dX5_loseOn_38 : decode cX5_loseOn 38 = .ok (.isub, 1) := by decide +kernel
theorem dX5_loseOn_39 : decode cX5_loseOn 39 = .ok (.istore 6, 2) := by decide +kernel
theorem dX5_loseOn_41 : decode cX5_loseOn 41 = .ok (.iload 6, 2) := by decide +kernel
theorem dX5_loseOn_43 : decode cX5_loseOn 43 = .ok (.aload_n 0, 1) := by decide +kernel
theorem dX5_loseOn_44 : decode cX5_loseOn 44 = .ok (.getfield 15, 3) := by decide +kernel
theorem dX5_loseOn_47 : decode cX5_loseOn 47 = .ok (.getfield 61, 3) := by decide +kernel
theorem dX5_loseOn_50 : decode cX5_loseOn 50 = .ok (.iload_n 3, 1) := by decide +kernel
theorem dX5_loseOn_51 : decode cX5_loseOn 51 = .ok (.iaload, 1) := by decide +kernel
theorem dX5_loseOn_52 : decode cX5_loseOn 52 = .ok (.if_icmp .le 30, 3) := by decide +kernel
theorem dX5_loseOn_55 : decode cX5_loseOn 55 = .ok (.iload 6, 2) := by decide +kernel
theorem dX5_loseOn_57 : decode cX5_loseOn 57 = .ok (.aload_n 0, 1) := by decide +kernel
theorem dX5_loseOn_58 : decode cX5_loseOn 58 = .ok (.getfield 15, 3) := by decide +kernel
theorem dX5_loseOn_61 : decode cX5_loseOn 61 = .ok (.getfield 73, 3) := by decide +kernel
theorem dX5_loseOn_64 : decode cX5_loseOn 64 = .ok (.iload_n 3, 1) := by decide +kernel
theorem dX5_loseOn_65 : decode cX5_loseOn 65 = .ok (.iaload, 1) := by decide +kernel
theorem dX5_loseOn_66 : decode cX5_loseOn 66 = .ok (.if_icmp .ge 16, 3) := by decide +kernel
theorem dX5_loseOn_69 : decode cX5_loseOn 69 = .ok (.aload_n 0, 1) := by decide +kernel
theorem dX5_loseOn_70 : decode cX5_loseOn 70 = .ok (.dup, 1) := by decide +kernel
theorem dX5_loseOn_71 : decode cX5_loseOn 71 = .ok (.getfield 36, 3) := by decide +kernel
theorem dX5_loseOn_74 : decode cX5_loseOn 74 = .ok (.iconst 1, 1) := by decide +kernel
theorem dX5_loseOn_75 : decode cX5_loseOn 75 = .ok (.iadd, 1) := by decide +kernel
theorem dX5_loseOn_76 : decode cX5_loseOn 76 = .ok (.putfield 36, 3) := by decide +kernel
theorem dX5_loseOn_79 : decode cX5_loseOn 79 = .ok (.goto 20, 3) := by decide +kernel
theorem dX5_loseOn_82 : decode cX5_loseOn 82 = .ok (.aload_n 0, 1) := by decide +kernel
theorem dX5_loseOn_83 : decode cX5_loseOn 83 = .ok (.getfield 9, 3) := by decide +kernel
theorem dX5_loseOn_86 : decode cX5_loseOn 86 = .ok (.iload 4, 2) := by decide +kernel
theorem dX5_loseOn_88 : decode cX5_loseOn 88 = .ok (.aload_n 0, 1) := by decide +kernel
theorem dX5_loseOn_89 : decode cX5_loseOn 89 = .ok (.getfield 9, 3) := by decide +kernel
theorem dX5_loseOn_92 : decode cX5_loseOn 92 = .ok (.iload 5, 2) := by decide +kernel
theorem dX5_loseOn_94 : decode cX5_loseOn 94 = .ok (.iaload, 1) := by decide +kernel
theorem dX5_loseOn_95 : decode cX5_loseOn 95 = .ok (.iastore, 1) := by decide +kernel
theorem dX5_loseOn_96 : decode cX5_loseOn 96 = .ok (.iinc 4 1, 3) := by decide +kernel
theorem dX5_loseOn_99 : decode cX5_loseOn 99 = .ok (.iinc 5 1, 3) := by decide +kernel
theorem dX5_loseOn_102 : decode cX5_loseOn 102 = .ok (.goto (-81), 3) := by decide +kernel
theorem dX5_loseOn_105 : decode cX5_loseOn 105 = .ok (.aload_n 0, 1) := by decide +kernel
theorem dX5_loseOn_106 : decode cX5_loseOn 106 = .ok (.iload 4, 2) := by decide +kernel
theorem dX5_loseOn_108 : decode cX5_loseOn 108 = .ok (.putfield 30, 3) := by decide +kernel
theorem dX5_loseOn_111 : decode cX5_loseOn 111 = .ok (.return_, 1) := by decide +kernel
theorem dX5_hasFrameOn_0 : decode cX5_hasFrameOn 0 = .ok (.aload_n 0, 1) := by decide +kernel
theorem dX5_hasFrameOn_1 : decode cX5_hasFrameOn 1 = .ok (.getfield 15, 3) := by decide +kernel
theorem dX5_hasFrameOn_4 : decode cX5_hasFrameOn 4 = .ok (.iload_n 1, 1) := by decide +kernel
theorem dX5_hasFrameOn_5 : decode cX5_hasFrameOn 5 = .ok (.invokevirtual 69, 3) := by decide +kernel
theorem dX5_hasFrameOn_8 : decode cX5_hasFrameOn 8 = .ok (.istore_n 3, 1) := by decide +kernel
theorem dX5_hasFrameOn_9 : decode cX5_hasFrameOn 9 = .ok (.iload_n 3, 1) := by decide +kernel
theorem dX5_hasFrameOn_10 : decode cX5_hasFrameOn 10 = .ok (.iconst (-1), 1) := by decide +kernel
theorem dX5_hasFrameOn_11 : decode cX5_hasFrameOn 11 = .ok (.if_icmp .ne 5, 3) := by decide +kernel
theorem dX5_hasFrameOn_14 : decode cX5_hasFrameOn 14 = .ok (.iconst 0, 1) := by decide +kernel
theorem dX5_hasFrameOn_15 : decode cX5_hasFrameOn 15 = .ok (.ireturn, 1) := by decide +kernel
theorem dX5_hasFrameOn_16 : decode cX5_hasFrameOn 16 = .ok (.iconst 0, 1) := by decide +kernel
theorem dX5_hasFrameOn_17 : decode cX5_hasFrameOn 17 = .ok (.istore 4, 2) := by decide +kernel
theorem dX5_hasFrameOn_19 : decode cX5_hasFrameOn 19 = .ok (.iload 4, 2) := by decide +kernel
theorem dX5_hasFrameOn_21 : decode cX5_hasFrameOn 21 = .ok (.aload_n 0, 1) := by decide +kernel
theorem dX5_hasFrameOn_22 : decode cX5_hasFrameOn 22 = .ok (.getfield 30, 3) := by decide +kernel
theorem dX5_hasFrameOn_25 : decode cX5_hasFrameOn 25 = .ok (.if_icmp .ge 49, 3) := by decide +kernel
theorem dX5_hasFrameOn_28 : decode cX5_hasFrameOn 28 = .ok (.iload_n 2, 1) := by decide +kernel
theorem dX5_hasFrameOn_29 : decode cX5_hasFrameOn 29 = .ok (.aload_n 0, 1) := by decide +kernel
theorem dX5_hasFrameOn_30 : decode cX5_hasFrameOn 30 = .ok (.getfield 9, 3) := by decide +kernel
theorem dX5_hasFrameOn_33 : decode cX5_hasFrameOn 33 = .ok (.iload 4, 2) := by decide +kernel
theorem dX5_hasFrameOn_35 : decode cX5_hasFrameOn 35 = .ok (.iaload, 1) := by decide +kernel
theorem dX5_hasFrameOn_36 : decode cX5_hasFrameOn 36 = .ok (.isub, 1) := by decide +kernel
theorem dX5_hasFrameOn_37 : decode cX5_hasFrameOn 37 = .ok (.aload_n 0, 1) := by decide +kernel
theorem dX5_hasFrameOn_38 : decode cX5_hasFrameOn 38 = .ok (.getfield 15, 3) := by decide +kernel
theorem dX5_hasFrameOn_41 : decode cX5_hasFrameOn 41 = .ok (.getfield 61, 3) := by decide +kernel
theorem dX5_hasFrameOn_44 : decode cX5_hasFrameOn 44 = .ok (.iload_n 3, 1) := by decide +kernel
theorem dX5_hasFrameOn_45 : decode cX5_hasFrameOn 45 = .ok (.iaload, 1) := by decide +kernel
theorem dX5_hasFrameOn_46 : decode cX5_hasFrameOn 46 = .ok (.isub, 1) := by decide +kernel
theorem dX5_hasFrameOn_47 : decode cX5_hasFrameOn 47 = .ok (.istore 5, 2) := by decide +kernel
theorem dX5_hasFrameOn_49 : decode cX5_hasFrameOn 49 = .ok (.iload 5, 2) := by decide +kernel
theorem dX5_hasFrameOn_51 : decode cX5_hasFrameOn 51 = .ok (.ifCond .le 17, 3) := by decide +kernel
theorem dX5_hasFrameOn_54 : decode cX5_hasFrameOn 54 = .ok (.iload 5, 2) := by decide +kernel
theorem dX5_hasFrameOn_56 : decode cX5_hasFrameOn 56 = .ok (.aload_n 0, 1) := by decide +kernel
theorem dX5_hasFrameOn_57 : decode cX5_hasFrameOn 57 = .ok (.getfield 15, 3) := by decide +kernel
theorem dX5_hasFrameOn_60 : decode cX5_hasFrameOn 60 = .ok (.getfield 76, 3) := by decide +kernel
theorem dX5_hasFrameOn_63 : decode cX5_hasFrameOn 63 = .ok (.if_icmp .ge 5, 3) := by decide +kernel
theorem dX5_hasFrameOn_66 : decode cX5_hasFrameOn 66 = .ok (.iconst 1, 1) := by decide +kernel
theorem dX5_hasFrameOn_67 : decode cX5_hasFrameOn 67 = .ok (.ireturn, 1) := by decide +kernel
theorem dX5_hasFrameOn_68 : decode cX5_hasFrameOn 68 = .ok (.iinc 4 1, 3) := by decide +kernel
theorem dX5_hasFrameOn_71 : decode cX5_hasFrameOn 71 = .ok (.goto (-52), 3) := by decide +kernel
theorem dX5_hasFrameOn_74 : decode cX5_hasFrameOn 74 = .ok (.iconst 0, 1) := by decide +kernel
theorem dX5_hasFrameOn_75 : decode cX5_hasFrameOn 75 = .ok (.ireturn, 1) := by decide +kernel
theorem dX6_init_0 : decode cX6_init 0 = .ok (.aload_n 0, 1) := by decide +kernel
theorem dX6_init_1 : decode cX6_init 1 = .ok (.invokespecial 1, 3) := by decide +kernel
theorem dX6_init_4 : decode cX6_init 4 = .ok (.aload_n 0, 1) := by decide +kernel
theorem dX6_init_5 : decode cX6_init 5 = .ok (.bipush 6, 2) := by decide +kernel
theorem dX6_init_7 : decode cX6_init 7 = .ok (.newarray .int, 2) := by decide +kernel
theorem dX6_init_9 : decode cX6_init 9 = .ok (.putfield 9, 3) := by decide +kernel
theorem dX6_init_12 : decode cX6_init 12 = .ok (.aload_n 0, 1) := by decide +kernel
theorem dX6_init_13 : decode cX6_init 13 = .ok (.iconst 5, 1) := by decide +kernel
theorem dX6_init_14 : decode cX6_init 14 = .ok (.anewarray 13, 3) := by decide +kernel
theorem dX6_init_17 : decode cX6_init 17 = .ok (.putfield 15, 3) := by decide +kernel
theorem dX6_init_20 : decode cX6_init 20 = .ok (.aload_n 0, 1) := by decide +kernel
theorem dX6_init_21 : decode cX6_init 21 = .ok (.new 19, 3) := by decide +kernel
theorem dX6_init_24 : decode cX6_init 24 = .ok (.dup, 1) := by decide +kernel
theorem dX6_init_25 : decode cX6_init 25 = .ok (.invokespecial 21, 3) := by decide +kernel
theorem dX6_init_28 : decode cX6_init 28 = .ok (.putfield 22, 3) := by decide +kernel
theorem dX6_init_31 : decode cX6_init 31 = .ok (.aload_n 0, 1) := by decide +kernel
theorem dX6_init_32 : decode cX6_init 32 = .ok (.iconst 5, 1) := by decide +kernel
theorem dX6_init_33 : decode cX6_init 33 = .ok (.anewarray 26, 3) := by decide +kernel
theorem dX6_init_36 : decode cX6_init 36 = .ok (.putfield 28, 3) := by decide +kernel
theorem dX6_init_39 : decode cX6_init 39 = .ok (.aload_n 0, 1) := by decide +kernel
theorem dX6_init_40 : decode cX6_init 40 = .ok (.bipush 6, 2) := by decide +kernel
theorem dX6_init_42 : decode cX6_init 42 = .ok (.anewarray 32, 3) := by decide +kernel
theorem dX6_init_45 : decode cX6_init 45 = .ok (.putfield 34, 3) := by decide +kernel
theorem dX6_init_48 : decode cX6_init 48 = .ok (.iconst 0, 1) := by decide +kernel
theorem dX6_init_49 : decode cX6_init 49 = .ok (.istore_n 1, 1) := by decide +kernel
theorem dX6_init_50 : decode cX6_init 50 = .ok (.iload_n 1, 1) := by decide +kernel
theorem dX6_init_51 : decode cX6_init 51 = .ok (.iconst 5, 1) := by decide +kernel
theorem dX6_init_52 : decode cX6_init 52 = .ok (.if_icmp .ge 22, 3) := by decide +kernel
theorem dX6_init_55 : decode cX6_init 55 = .ok (.aload_n 0, 1) := by decide +kernel
theorem dX6_init_56 : decode cX6_init 56 = .ok (.getfield 28, 3) := by decide +kernel
theorem dX6_init_59 : decode cX6_init 59 = .ok (.iload_n 1, 1) := by decide +kernel
theorem dX6_init_60 : decode cX6_init 60 = .ok (.new 26, 3) := by decide +kernel
theorem dX6_init_63 : decode cX6_init 63 = .ok (.dup, 1) := by decide +kernel
theorem dX6_init_64 : decode cX6_init 64 = .ok (.invokespecial 38, 3) := by decide +kernel
theorem dX6_init_67 : decode cX6_init 67 = .ok (.aastore, 1) := by decide +kernel
theorem dX6_init_68 : decode cX6_init 68 = .ok (.iinc 1 1, 3) := by decide +kernel
theorem dX6_init_71 : decode cX6_init 71 = .ok (.goto (-21), 3) := by decide +kernel
theorem dX6_init_74 : decode cX6_init 74 = .ok (.iconst 0, 1) := by decide +kernel
theorem dX6_init_75 : decode cX6_init 75 = .ok (.istore_n 1, 1) := by decide +kernel
theorem dX6_init_76 : decode cX6_init 76 = .ok (.iload_n 1, 1) := by decide +kernel
theorem dX6_init_77 : decode cX6_init 77 = .ok (.bipush 6, 2) := by decide +kernel
theorem dX6_init_79 : decode cX6_init 79 = .ok (.if_icmp .ge 22, 3) := by decide +kernel
theorem dX6_init_82 : decode cX6_init 82 = .ok (.aload_n 0, 1) := by decide +kernel
theorem dX6_init_83 : decode cX6_init 83 = .ok (.getfield 34, 3) := by decide +kernel
theorem dX6_init_86 : decode cX6_init 86 = .ok (.iload_n 1, 1) := by decide +kernel
theorem dX6_init_87 : decode cX6_init 87 = .ok (.new 32, 3) := by decide +kernel
theorem dX6_init_90 : decode cX6_init 90 = .ok (.dup, 1) := by decide +kernel
theorem dX6_init_91 : decode cX6_init 91 = .ok (.invokespecial 39, 3) := by decide +kernel
theorem dX6_init_94 : decode cX6_init 94 = .ok (.aastore, 1) := by decide +kernel
theorem dX6_init_95 : decode cX6_init 95 = .ok (.iinc 1 1, 3) := by decide +kernel
theorem dX6_init_98 : decode cX6_init 98 = .ok (.goto (-22), 3) := by decide +kernel
theorem dX6_init_101 : decode cX6_init 101 = .ok (.return_, 1) := by decide +kernel
theorem dX6_delay_0 : decode cX6_delay 0 = .ok (.iload_n 1, 1) := by decide +kernel
theorem dX6_delay_1 : decode cX6_delay 1 = .ok (.invokestatic 40, 3) := by decide +kernel
theorem dX6_delay_4 : decode cX6_delay 4 = .ok (.iload_n 2, 1) := by decide +kernel
theorem dX6_delay_5 : decode cX6_delay 5 = .ok (.ifCond .lt 9, 3) := by decide +kernel
theorem dX6_delay_8 : decode cX6_delay 8 = .ok (.iload_n 2, 1) := by decide +kernel
theorem dX6_delay_9 : decode cX6_delay 9 = .ok (.bipush 9, 2) := by decide +kernel
theorem dX6_delay_11 : decode cX6_delay 11 = .ok (.if_icmp .le 13, 3) := by decide +kernel
theorem dX6_delay_14 : decode cX6_delay 14 = .ok (.new 44, 3) := by decide +kernel
theorem dX6_delay_17 : decode cX6_delay 17 = .ok (.dup, 1) := by decide +kernel
theorem dX6_delay_18 : decode cX6_delay 18 = .ok (.ldc 46, 2) := by decide +kernel
theorem dX6_delay_20 : decode cX6_delay 20 = .ok (.invokespecial 48, 3) := by decide +kernel
theorem dX6_delay_23 : decode cX6_delay 23 = .ok (.athrow, 1) := by decide +kernel
theorem dX6_delay_24 : decode cX6_delay 24 = .ok (.aload_n 0, 1) := by decide +kernel
theorem dX6_delay_25 : decode cX6_delay 25 = .ok (.getfield 9, 3) := by decide +kernel
theorem dX6_delay_28 : decode cX6_delay 28 = .ok (.iload_n 1, 1) := by decide +kernel
theorem dX6_delay_29 : decode cX6_delay 29 = .ok (.iload_n 2, 1) := by decide +kernel
theorem dX6_delay_30 : decode cX6_delay 30 = .ok (.iastore, 1) := by decide +kernel
theorem dX6_delay_31 : decode cX6_delay 31 = .ok (.return_, 1) := by decide +kernel
theorem dX6_stream_0 : decode cX6_stream 0 = .ok (.iload 4, 2) := by decide +kernel
theorem dX6_stream_2 : decode cX6_stream 2 = .ok (.invokestatic 40, 3) := by decide +kernel
theorem dX6_stream_5 : decode cX6_stream 5 = .ok (.iload 5, 2) := by decide +kernel
theorem dX6_stream_7 : decode cX6_stream 7 = .ok (.invokestatic 51, 3) := by decide +kernel
theorem dX6_stream_10 : decode cX6_stream 10 = .ok (.iload 6, 2) := by decide +kernel
theorem dX6_stream_12 : decode cX6_stream 12 = .ok (.invokestatic 51, 3) := by decide +kernel
theorem dX6_stream_15 : decode cX6_stream 15 = .ok (.iload 4, 2) := by decide +kernel
theorem dX6_stream_17 : decode cX6_stream 17 = .ok (.iload 5, 2) := by decide +kernel
theorem dX6_stream_19 : decode cX6_stream 19 = .ok (.iload 6, 2) := by decide +kernel
theorem dX6_stream_21 : decode cX6_stream 21 = .ok (.invokestatic 54, 3) := by decide +kernel
theorem dX6_stream_24 : decode cX6_stream 24 = .ok (.ifCond .ne 13, 3) := by decide +kernel
theorem dX6_stream_27 : decode cX6_stream 27 = .ok (.new 44, 3) := by decide +kernel
theorem dX6_stream_30 : decode cX6_stream 30 = .ok (.dup, 1) := by decide +kernel
theorem dX6_stream_31 : decode cX6_stream 31 = .ok (.ldc 58, 2) := by decide +kernel
theorem dX6_stream_33 : decode cX6_stream 33 = .ok (.invokespecial 48, 3) := by decide +kernel
theorem dX6_stream_36 : decode cX6_stream 36 = .ok (.athrow, 1) := by decide +kernel
theorem dX6_stream_37 : decode cX6_stream 37 = .ok (.iload_n 1, 1) := by decide +kernel
theorem dX6_stream_38 : decode cX6_stream 38 = .ok (.invokestatic 60, 3) := by decide +kernel
theorem dX6_stream_41 : decode cX6_stream 41 = .ok (.ifCond .eq 24, 3) := by decide +kernel
theorem dX6_stream_44 : decode cX6_stream 44 = .ok (.iload_n 2, 1) := by decide +kernel
theorem dX6_stream_45 : decode cX6_stream 45 = .ok (.iconst 1, 1) := by decide +kernel
theorem dX6_stream_46 : decode cX6_stream 46 = .ok (.if_icmp .lt 19, 3) := by decide +kernel
theorem dX6_stream_49 : decode cX6_stream 49 = .ok (.iload_n 2, 1) := by decide +kernel
theorem dX6_stream_50 : decode cX6_stream 50 = .ok (.iconst 4, 1) := by decide +kernel
theorem dX6_stream_51 : decode cX6_stream 51 = .ok (.if_icmp .gt 14, 3) := by decide +kernel
theorem dX6_stream_54 : decode cX6_stream 54 = .ok (.iload_n 3, 1) := by decide +kernel
theorem dX6_stream_55 : decode cX6_stream 55 = .ok (.iconst 1, 1) := by decide +kernel
theorem dX6_stream_56 : decode cX6_stream 56 = .ok (.if_icmp .lt 9, 3) := by decide +kernel
theorem dX6_stream_59 : decode cX6_stream 59 = .ok (.iload_n 3, 1) := by decide +kernel
theorem dX6_stream_60 : decode cX6_stream 60 = .ok (.bipush 60, 2) := by decide +kernel
theorem dX6_stream_62 : decode cX6_stream 62 = .ok (.if_icmp .le 13, 3) := by decide +kernel
theorem dX6_stream_65 : decode cX6_stream 65 = .ok (.new 44, 3) := by decide +kernel
theorem dX6_stream_68 : decode cX6_stream 68 = .ok (.dup, 1) := by decide +kernel
theorem dX6_stream_69 : decode cX6_stream 69 = .ok (.ldc 64, 2) := by decide +kernel
theorem dX6_stream_71 : decode cX6_stream 71 = .ok (.invokespecial 48, 3) := by decide +kernel
theorem dX6_stream_74 : decode cX6_stream 74 = .ok (.athrow, 1) := by decide +kernel
theorem dX6_stream_75 : decode cX6_stream 75 = .ok (.aload_n 0, 1) := by decide +kernel
theorem dX6_stream_76 : decode cX6_stream 76 = .ok (.getfield 66, 3) := by decide +kernel
theorem dX6_stream_79 : decode cX6_stream 79 = .ok (.iconst 5, 1) := by decide +kernel
theorem dX6_stream_80 : decode cX6_stream 80 = .ok (.if_icmp .lt 13, 3) := by decide +kernel
theorem dX6_stream_83 : decode cX6_stream 83 = .ok (.new 70, 3) := by decide +kernel
theorem dX6_stream_86 : decode cX6_stream 86 = .ok (.dup, 1) := by decide +kernel
theorem dX6_stream_87 : decode cX6_stream 87 = .ok (.ldc 72, 2) := by decide +kernel
theorem dX6_stream_89 : decode cX6_stream 89 = .ok (.invokespecial 74, 3) := by decide +kernel
theorem dX6_stream_92 : decode cX6_stream 92 = .ok (.athrow, 1) := by decide +kernel
theorem dX6_stream_93 : decode cX6_stream 93 = .ok (.aload_n 0, 1) := by decide +kernel
theorem dX6_stream_94 : decode cX6_stream 94 = .ok (.getfield 15, 3) := by decide +kernel
theorem dX6_stream_97 : decode cX6_stream 97 = .ok (.aload_n 0, 1) := by decide +kernel
theorem dX6_stream_98 : decode cX6_stream 98 = .ok (.getfield 66, 3) := by decide +kernel
theorem dX6_stream_101 : decode cX6_stream 101 = .ok (.new 13, 3) := by decide +kernel
theorem dX6_stream_104 : decode cX6_stream 104 = .ok (.dup, 1) := by decide +kernel
theorem dX6_stream_105 : decode cX6_stream 105 = .ok (.iload_n 1, 1) := by decide +kernel
theorem dX6_stream_106 : decode cX6_stream 106 = .ok (.iload_n 2, 1) := by decide +kernel
theorem dX6_stream_107 : decode cX6_stream 107 = .ok (.iload_n 3, 1) := by decide +kernel
theorem dX6_stream_108 : decode cX6_stream 108 = .ok (.iload 4, 2) := by decide +kernel
theorem dX6_stream_110 : decode cX6_stream 110 = .ok (.iload 5, 2) := by decide +kernel
theorem dX6_stream_112 : decode cX6_stream 112 = .ok (.iload 6, 2) := by decide +kernel
theorem dX6_stream_114 : decode cX6_stream 114 = .ok (.invokestatic 75, 3) := by decide +kernel
theorem dX6_stream_117 : decode cX6_stream 117 = .ok (.invokespecial 79, 3) := by decide +kernel
theorem dX6_stream_120 : decode cX6_stream 120 = .ok (.aastore, 1) := by decide +kernel
theorem dX6_stream_121 : decode cX6_stream 121 = .ok (.aload_n 0, 1) := by decide +kernel
theorem dX6_stream_122 : decode cX6_stream 122 = .ok (.dup, 1) := by decide +kernel
theorem dX6_stream_123 : decode cX6_stream 123 = .ok (.getfield 66, 3) := by decide +kernel
theorem dX6_stream_126 : decode cX6_stream 126 = .ok (.iconst 1, 1) := by decide +kernel
theorem dX6_stream_127 : decode cX6_stream 127 = .ok (.iadd, 1) := by decide +kernel
theorem dX6_stream_128 : decode cX6_stream 128 = .ok (.putfield 66, 3) := by decide +kernel
theorem dX6_stream_131 : decode cX6_stream 131 = .ok (.aload_n 0, 1) := by decide +kernel
theorem dX6_stream_132 : decode cX6_stream 132 = .ok (.getfield 66, 3) := by decide +kernel
theorem dX6_stream_135 : decode cX6_stream 135 = .ok (.iconst 1, 1) := by decide +kernel
theorem dX6_stream_136 : decode cX6_stream 136 = .ok (.isub, 1) := by decide +kernel
theorem dX6_stream_137 : decode cX6_stream 137 = .ok (.ireturn, 1) := by decide +kernel
theorem dX6_clear_0 : decode cX6_clear 0 = .ok (.aload_n 0, 1) := by decide +kernel
theorem dX6_clear_1 : decode cX6_clear 1 = .ok (.iconst 0, 1) := by decide +kernel
theorem dX6_clear_2 : decode cX6_clear 2 = .ok (.putfield 66, 3) := by decide +kernel
theorem dX6_clear_5 : decode cX6_clear 5 = .ok (.return_, 1) := by decide +kernel
theorem dX6_build_0 : decode cX6_build 0 = .ok (.iload_n 1, 1) := by decide +kernel
theorem dX6_build_1 : decode cX6_build 1 = .ok (.ifCond .lt 10, 3) := by decide +kernel
theorem dX6_build_4 : decode cX6_build 4 = .ok (.iload_n 1, 1) := by decide +kernel
theorem dX6_build_5 : decode cX6_build 5 = .ok (.sipush 20000, 3) := by decide +kernel
theorem dX6_build_8 : decode cX6_build 8 = .ok (.if_icmp .le 13, 3) := by decide +kernel
theorem dX6_build_11 : decode cX6_build 11 = .ok (.new 44, 3) := by decide +kernel
theorem dX6_build_14 : decode cX6_build 14 = .ok (.dup, 1) := by decide +kernel
theorem dX6_build_15 : decode cX6_build 15 = .ok (.ldc 82, 2) := by decide +kernel
theorem dX6_build_17 : decode cX6_build 17 = .ok (.invokespecial 48, 3) := by decide +kernel
theorem dX6_build_20 : decode cX6_build 20 = .ok (.athrow, 1) := by decide +kernel
theorem dX6_build_21 : decode cX6_build 21 = .ok (.aload_n 0, 1) := by decide +kernel
theorem dX6_build_22 : decode cX6_build 22 = .ok (.getfield 66, 3) := by decide +kernel
theorem dX6_build_25 : decode cX6_build 25 = .ok (.anewarray 84, 3) := by decide +kernel
theorem dX6_build_28 : decode cX6_build 28 = .ok (.astore_n 2, 1) := by decide +kernel
theorem dX6_build_29 : decode cX6_build 29 = .ok (.iconst 0, 1) := by decide +kernel
theorem dX6_build_30 : decode cX6_build 30 = .ok (.istore_n 3, 1) := by decide +kernel
theorem dX6_build_31 : decode cX6_build 31 = .ok (.iload_n 3, 1) := by decide +kernel
theorem dX6_build_32 : decode cX6_build 32 = .ok (.aload_n 0, 1) := by decide +kernel
theorem dX6_build_33 : decode cX6_build 33 = .ok (.getfield 66, 3) := by decide +kernel
theorem dX6_build_36 : decode cX6_build 36 = .ok (.if_icmp .ge 29, 3) := by decide +kernel
theorem dX6_build_39 : decode cX6_build 39 = .ok (.aload_n 2, 1) := by decide +kernel
theorem dX6_build_40 : decode cX6_build 40 = .ok (.iload_n 3, 1) := by decide +kernel
theorem dX6_build_41 : decode cX6_build 41 = .ok (.new 84, 3) := by decide +kernel
theorem dX6_build_44 : decode cX6_build 44 = .ok (.dup, 1) := by decide +kernel
theorem dX6_build_45 : decode cX6_build 45 = .ok (.aload_n 0, 1) := by decide +kernel
theorem dX6_build_46 : decode cX6_build 46 = .ok (.getfield 15, 3) := by decide +kernel
theorem dX6_build_49 : decode cX6_build 49 = .ok (.iload_n 3, 1) := by decide +kernel
theorem dX6_build_50 : decode cX6_build 50 = .ok (.aaload, 1) := by decide +kernel
theorem dX6_build_51 : decode cX6_build 51 = .ok (.aload_n 0, 1) := by decide +kernel
theorem dX6_build_52 : decode cX6_build 52 = .ok (.getfield 9, 3) := by decide +kernel
theorem dX6_build_55 : decode cX6_build 55 = .ok (.invokespecial 86, 3) := by decide +kernel
theorem dX6_build_58 : decode cX6_build 58 = .ok (.aastore, 1) := by decide +kernel
theorem dX6_build_59 : decode cX6_build 59 = .ok (.iinc 3 1, 3) := by decide +kernel
theorem dX6_build_62 : decode cX6_build 62 = .ok (.goto (-31), 3) := by decide +kernel
theorem dX6_build_65 : decode cX6_build 65 = .ok (.aload_n 0, 1) := by decide +kernel
theorem dX6_build_66 : decode cX6_build 66 = .ok (.getfield 22, 3) := by decide +kernel
theorem dX6_build_69 : decode cX6_build 69 = .ok (.aload_n 2, 1) := by decide +kernel
theorem dX6_build_70 : decode cX6_build 70 = .ok (.iload_n 1, 1) := by decide +kernel
theorem dX6_build_71 : decode cX6_build 71 = .ok (.invokevirtual 89, 3) := by decide +kernel
theorem dX6_build_74 : decode cX6_build 74 = .ok (.istore_n 3, 1) := by decide +kernel
theorem dX6_build_75 : decode cX6_build 75 = .ok (.iload_n 3, 1) := by decide +kernel
theorem dX6_build_76 : decode cX6_build 76 = .ok (.iconst 1, 1) := by decide +kernel
theorem dX6_build_77 : decode cX6_build 77 = .ok (.if_icmp .ne 15, 3) := by decide +kernel
theorem dX6_build_80 : decode cX6_build 80 = .ok (.aload_n 0, 1) := by decide +kernel
theorem dX6_build_81 : decode cX6_build 81 = .ok (.new 93, 3) := by decide +kernel
theorem dX6_build_84 : decode cX6_build 84 = .ok (.dup, 1) := by decide +kernel
theorem dX6_build_85 : decode cX6_build 85 = .ok (.aload_n 2, 1) := by decide +kernel
theorem dX6_build_86 : decode cX6_build 86 = .ok (.invokespecial 95, 3) := by decide +kernel
theorem dX6_build_89 : decode cX6_build 89 = .ok (.putfield 98, 3) := by decide +kernel
theorem dX6_build_92 : decode cX6_build 92 = .ok (.iload_n 3, 1) := by decide +kernel
theorem dX6_build_93 : decode cX6_build 93 = .ok (.ireturn, 1) := by decide +kernel
theorem dX6_tries_0 : decode cX6_tries 0 = .ok (.aload_n 0, 1) := by decide +kernel
theorem dX6_tries_1 : decode cX6_tries 1 = .ok (.getfield 22, 3) := by decide +kernel
theorem dX6_tries_4 : decode cX6_tries 4 = .ok (.getfield 102, 3) := by decide +kernel
theorem dX6_tries_7 : decode cX6_tries 7 = .ok (.ireturn, 1) := by decide +kernel
theorem dX6_offset_0 : decode cX6_offset 0 = .ok (.aload_n 0, 1) := by decide +kernel
theorem dX6_offset_1 : decode cX6_offset 1 = .ok (.invokevirtual 105, 3) := by decide +kernel
theorem dX6_offset_4 : decode cX6_offset 4 = .ok (.iload_n 1, 1) := by decide +kernel
theorem dX6_offset_5 : decode cX6_offset 5 = .ok (.ifCond .lt 15, 3) := by decide +kernel
theorem dX6_offset_8 : decode cX6_offset 8 = .ok (.iload_n 1, 1) := by decide +kernel
theorem dX6_offset_9 : decode cX6_offset 9 = .ok (.aload_n 0, 1) := by decide +kernel
theorem dX6_offset_10 : decode cX6_offset 10 = .ok (.getfield 98, 3) := by decide +kernel
theorem dX6_offset_13 : decode cX6_offset 13 = .ok (.getfield 108, 3) := by decide +kernel
theorem dX6_offset_16 : decode cX6_offset 16 = .ok (.arraylength, 1) := by decide +kernel
theorem dX6_offset_17 : decode cX6_offset 17 = .ok (.if_icmp .lt 13, 3) := by decide +kernel
theorem dX6_offset_20 : decode cX6_offset 20 = .ok (.new 112, 3) := by decide +kernel
theorem dX6_offset_23 : decode cX6_offset 23 = .ok (.dup, 1) := by decide +kernel
theorem dX6_offset_24 : decode cX6_offset 24 = .ok (.ldc 114, 2) := by decide +kernel
theorem dX6_offset_26 : decode cX6_offset 26 = .ok (.invokespecial 116, 3) := by decide +kernel
theorem dX6_offset_29 : decode cX6_offset 29 = .ok (.athrow, 1) := by decide +kernel
theorem dX6_offset_30 : decode cX6_offset 30 = .ok (.aload_n 0, 1) := by decide +kernel
theorem dX6_offset_31 : decode cX6_offset 31 = .ok (.getfield 98, 3) := by decide +kernel
theorem dX6_offset_34 : decode cX6_offset 34 = .ok (.getfield 108, 3) := by decide +kernel
theorem dX6_offset_37 : decode cX6_offset 37 = .ok (.iload_n 1, 1) := by decide +kernel
theorem dX6_offset_38 : decode cX6_offset 38 = .ok (.aaload, 1) := by decide +kernel
theorem dX6_offset_39 : decode cX6_offset 39 = .ok (.getfield 117, 3) := by decide +kernel
theorem dX6_offset_42 : decode cX6_offset 42 = .ok (.ireturn, 1) := by decide +kernel
theorem dX6_gate_0 : decode cX6_gate 0 = .ok (.iload_n 1, 1) := by decide +kernel
theorem dX6_gate_1 : decode cX6_gate 1 = .ok (.invokestatic 40, 3) := by decide +kernel
theorem dX6_gate_4 : decode cX6_gate 4 = .ok (.iload_n 2, 1) := by decide +kernel
theorem dX6_gate_5 : decode cX6_gate 5 = .ok (.ifCond .lt 9, 3) := by decide +kernel
theorem dX6_gate_8 : decode cX6_gate 8 = .ok (.iload_n 2, 1) := by decide +kernel
theorem dX6_gate_9 : decode cX6_gate 9 = .ok (.bipush 32, 2) := by decide +kernel
theorem dX6_gate_11 : decode cX6_gate 11 = .ok (.if_icmp .lt 13, 3) := by decide +kernel
theorem dX6_gate_14 : decode cX6_gate 14 = .ok (.new 44, 3) := by decide +kernel
theorem dX6_gate_17 : decode cX6_gate 17 = .ok (.dup, 1) := by decide +kernel
theorem dX6_gate_18 : decode cX6_gate 18 = .ok (.ldc 120, 2) := by decide +kernel
theorem dX6_gate_20 : decode cX6_gate 20 = .ok (.invokespecial 48, 3) := by decide +kernel
theorem dX6_gate_23 : decode cX6_gate 23 = .ok (.athrow, 1) := by decide +kernel
theorem dX6_gate_24 : decode cX6_gate 24 = .ok (.aload_n 0, 1) := by decide +kernel
theorem dX6_gate_25 : decode cX6_gate 25 = .ok (.invokevirtual 105, 3) := by decide +kernel
theorem dX6_gate_28 : decode cX6_gate 28 = .ok (.aload_n 0, 1) := by decide +kernel
theorem dX6_gate_29 : decode cX6_gate 29 = .ok (.getfield 98, 3) := by decide +kernel
theorem dX6_gate_32 : decode cX6_gate 32 = .ok (.iload_n 1, 1) := by decide +kernel
theorem dX6_gate_33 : decode cX6_gate 33 = .ok (.iload_n 2, 1) := by decide +kernel
theorem dX6_gate_34 : decode cX6_gate 34 = .ok (.invokevirtual 122, 3) := by decide +kernel
theorem dX6_gate_37 : decode cX6_gate 37 = .ok (.ireturn, 1) := by decide +kernel
theorem dX6_activate_0 : decode cX6_activate 0 = .ok (.aload_n 0, 1) := by decide +kernel
theorem dX6_activate_1 : decode cX6_activate 1 = .ok (.invokevirtual 105, 3) := by decide +kernel
theorem dX6_activate_4 : decode cX6_activate 4 = .ok (.aload_n 0, 1) := by decide +kernel
theorem dX6_activate_5 : decode cX6_activate 5 = .ok (.aload_n 0, 1) := by decide +kernel
theorem dX6_activate_6 : decode cX6_activate 6 = .ok (.getfield 98, 3) := by decide +kernel
theorem dX6_activate_9 : decode cX6_activate 9 = .ok (.putfield 126, 3) := by decide +kernel
theorem dX6_activate_12 : decode cX6_activate 12 = .ok (.return_, 1) := by decide +kernel
theorem dX6_tick_0 : decode cX6_tick 0 = .ok (.iload_n 1, 1) := by decide +kernel
theorem dX6_tick_1 : decode cX6_tick 1 = .ok (.iconst 1, 1) := by decide +kernel
theorem dX6_tick_2 : decode cX6_tick 2 = .ok (.if_icmp .lt 10, 3) := by decide +kernel
theorem dX6_tick_5 : decode cX6_tick 5 = .ok (.iload_n 1, 1) := by decide +kernel
theorem dX6_tick_6 : decode cX6_tick 6 = .ok (.sipush 200, 3) := by decide +kernel
theorem dX6_tick_9 : decode cX6_tick 9 = .ok (.if_icmp .le 13, 3) := by decide +kernel
theorem dX6_tick_12 : decode cX6_tick 12 = .ok (.new 44, 3) := by decide +kernel
theorem dX6_tick_15 : decode cX6_tick 15 = .ok (.dup, 1) := by decide +kernel
theorem dX6_tick_16 : decode cX6_tick 16 = .ok (.ldc 129, 2) := by decide +kernel
theorem dX6_tick_18 : decode cX6_tick 18 = .ok (.invokespecial 48, 3) := by decide +kernel
theorem dX6_tick_21 : decode cX6_tick 21 = .ok (.athrow, 1) := by decide +kernel
theorem dX6_tick_22 : decode cX6_tick 22 = .ok (.iconst 0, 1) := by decide +kernel
theorem dX6_tick_23 : decode cX6_tick 23 = .ok (.istore_n 2, 1) := by decide +kernel
theorem dX6_tick_24 : decode cX6_tick 24 = .ok (.iload_n 2, 1) := by decide +kernel
theorem dX6_tick_25 : decode cX6_tick 25 = .ok (.iload_n 1, 1) := by decide +kernel
theorem dX6_tick_26 : decode cX6_tick 26 = .ok (.if_icmp .ge 13, 3) := by decide +kernel
theorem dX6_tick_29 : decode cX6_tick 29 = .ok (.aload_n 0, 1) := by decide +kernel
theorem dX6_tick_30 : decode cX6_tick 30 = .ok (.invokevirtual 131, 3) := by decide +kernel
theorem dX6_tick_33 : decode cX6_tick 33 = .ok (.iinc 2 1, 3) := by decide +kernel
theorem dX6_tick_36 : decode cX6_tick 36 = .ok (.goto (-12), 3) := by decide +kernel
theorem dX6_tick_39 : decode cX6_tick 39 = .ok (.aload_n 0, 1) := by decide +kernel
theorem dX6_tick_40 : decode cX6_tick 40 = .ok (.getfield 134, 3) := by decide +kernel
theorem dX6_tick_43 : decode cX6_tick 43 = .ok (.ireturn, 1) := by decide +kernel
theorem dX6_talk_0 : decode cX6_talk 0 = .ok (.aload_n 0, 1) := by decide +kernel
theorem dX6_talk_1 : decode cX6_talk 1 = .ok (.iload_n 1, 1) := by decide +kernel
theorem dX6_talk_2 : decode cX6_talk 2 = .ok (.invokevirtual 137, 3) := by decide +kernel
theorem dX6_talk_5 : decode cX6_talk 5 = .ok (.iload_n 3, 1) := by decide +kernel
theorem dX6_talk_6 : decode cX6_talk 6 = .ok (.ifCond .lt 9, 3) := by decide +kernel
theorem dX6_talk_9 : decode cX6_talk 9 = .ok (.iload_n 3, 1) := by decide +kernel
theorem dX6_talk_10 : decode cX6_talk 10 = .ok (.bipush 7, 2) := by decide +kernel
theorem dX6_talk_12 : decode cX6_talk 12 = .ok (.if_icmp .le 13, 3) := by decide +kernel
theorem dX6_talk_15 : decode cX6_talk 15 = .ok (.new 44, 3) := by decide +kernel
theorem dX6_talk_18 : decode cX6_talk 18 = .ok (.dup, 1) := by decide +kernel
theorem dX6_talk_19 : decode cX6_talk 19 = .ok (.ldc 140, 2) := by decide +kernel
theorem dX6_talk_21 : decode cX6_talk 21 = .ok (.invokespecial 48, 3) := by decide +kernel
theorem dX6_talk_24 : decode cX6_talk 24 = .ok (.athrow, 1) := by decide +kernel
theorem dX6_talk_25 : decode cX6_talk 25 = .ok (.aload_n 0, 1) := by decide +kernel
theorem dX6_talk_26 : decode cX6_talk 26 = .ok (.getfield 28, 3) := by decide +kernel
theorem dX6_talk_29 : decode cX6_talk 29 = .ok (.iload_n 1, 1) := by decide +kernel
theorem dX6_talk_30 : decode cX6_talk 30 = .ok (.aaload, 1) := by decide +kernel
theorem dX6_talk_31 : decode cX6_talk 31 = .ok (.iload_n 2, 1) := by decide +kernel
theorem dX6_talk_32 : decode cX6_talk 32 = .ok (.putfield 142, 3) := by decide +kernel
theorem dX6_talk_35 : decode cX6_talk 35 = .ok (.aload_n 0, 1) := by decide +kernel
theorem dX6_talk_36 : decode cX6_talk 36 = .ok (.getfield 28, 3) := by decide +kernel
theorem dX6_talk_39 : decode cX6_talk 39 = .ok (.iload_n 1, 1) := by decide +kernel
theorem dX6_talk_40 : decode cX6_talk 40 = .ok (.aaload, 1) := by decide +kernel
theorem dX6_talk_41 : decode cX6_talk 41 = .ok (.iload_n 3, 1) := by decide +kernel
theorem dX6_talk_42 : decode cX6_talk 42 = .ok (.putfield 146, 3) := by decide +kernel
theorem dX6_talk_45 : decode cX6_talk 45 = .ok (.return_, 1) := by decide +kernel
theorem dX6_unblock_0 : decode cX6_unblock 0 = .ok (.aload_n 0, 1) := by decide +kernel
theorem dX6_unblock_1 : decode cX6_unblock 1 = .ok (.iload_n 1, 1) := by decide +kernel
theorem dX6_unblock_2 : decode cX6_unblock 2 = .ok (.invokevirtual 137, 3) := by decide +kernel
theorem dX6_unblock_5 : decode cX6_unblock 5 = .ok (.aload_n 0, 1) := by decide +kernel
theorem dX6_unblock_6 : decode cX6_unblock 6 = .ok (.getfield 28, 3) := by decide +kernel
theorem dX6_unblock_9 : decode cX6_unblock 9 = .ok (.iload_n 1, 1) := by decide +kernel
theorem dX6_unblock_10 : decode cX6_unblock 10 = .ok (.aaload, 1) := by decide +kernel
theorem dX6_unblock_11 : decode cX6_unblock 11 = .ok (.getfield 149, 3) := by decide +kernel
theorem dX6_unblock_14 : decode cX6_unblock 14 = .ok (.istore_n 2, 1) := by decide +kernel
theorem dX6_unblock_15 : decode cX6_unblock 15 = .ok (.aload_n 0, 1) := by decide +kernel
theorem dX6_unblock_16 : decode cX6_unblock 16 = .ok (.getfield 28, 3) := by decide +kernel
theorem dX6_unblock_19 : decode cX6_unblock 19 = .ok (.iload_n 1, 1) := by decide +kernel
theorem dX6_unblock_20 : decode cX6_unblock 20 = .ok (.aaload, 1) := by decide +kernel
theorem dX6_unblock_21 : decode cX6_unblock 21 = .ok (.iconst 0, 1) := by decide +kernel
theorem dX6_unblock_22 : decode cX6_unblock 22 = .ok (.putfield 149, 3) := by decide +kernel
theorem dX6_unblock_25 : decode cX6_unblock 25 = .ok (.iload_n 2, 1) := by decide +kernel
theorem dX6_unblock_26 : decode cX6_unblock 26 = .ok (.ireturn, 1) := by decide +kernel
theorem dX6_cut_0 : decode cX6_cut 0 = .ok (.iload_n 1, 1) := by decide +kernel
theorem dX6_cut_1 : decode cX6_cut 1 = .ok (.invokestatic 40, 3) := by decide +kernel
theorem dX6_cut_4 : decode cX6_cut 4 = .ok (.aload_n 0, 1) := by decide +kernel
theorem dX6_cut_5 : decode cX6_cut 5 = .ok (.getfield 34, 3) := by decide +kernel
theorem dX6_cut_8 : decode cX6_cut 8 = .ok (.iload_n 1, 1) := by decide +kernel
theorem dX6_cut_9 : decode cX6_cut 9 = .ok (.aaload, 1) := by decide +kernel
theorem dX6_cut_10 : decode cX6_cut 10 = .ok (.getfield 152, 3) := by decide +kernel
theorem dX6_cut_13 : decode cX6_cut 13 = .ok (.iload_n 2, 1) := by decide +kernel
theorem dX6_cut_14 : decode cX6_cut 14 = .ok (.if_icmp .eq 7, 3) := by decide +kernel
theorem dX6_cut_17 : decode cX6_cut 17 = .ok (.iconst 1, 1) := by decide +kernel
theorem dX6_cut_18 : decode cX6_cut 18 = .ok (.goto 4, 3) := by decide +kernel
theorem dX6_cut_21 : decode cX6_cut 21 = .ok (.iconst 0, 1) := by decide +kernel
theorem dX6_cut_22 : decode cX6_cut 22 = .ok (.istore_n 3, 1) := by decide +kernel
theorem dX6_cut_23 : decode cX6_cut 23 = .ok (.aload_n 0, 1) := by decide +kernel
theorem dX6_cut_24 : decode cX6_cut 24 = .ok (.getfield 34, 3) := by decide +kernel
theorem dX6_cut_27 : decode cX6_cut 27 = .ok (.iload_n 1, 1) := by decide +kernel
theorem dX6_cut_28 : decode cX6_cut 28 = .ok (.aaload, 1) := by decide +kernel
theorem dX6_cut_29 : decode cX6_cut 29 = .ok (.iload_n 2, 1) := by decide +kernel
theorem dX6_cut_30 : decode cX6_cut 30 = .ok (.putfield 152, 3) := by decide +kernel
theorem dX6_cut_33 : decode cX6_cut 33 = .ok (.iload_n 2, 1) := by decide +kernel
theorem dX6_cut_34 : decode cX6_cut 34 = .ok (.ifCond .eq 8, 3) := by decide +kernel
theorem dX6_cut_37 : decode cX6_cut 37 = .ok (.aload_n 0, 1) := by decide +kernel
theorem dX6_cut_38 : decode cX6_cut 38 = .ok (.iload_n 1, 1) := by decide +kernel
theorem dX6_cut_39 : decode cX6_cut 39 = .ok (.invokevirtual 155, 3) := by decide +kernel
theorem dX6_cut_42 : decode cX6_cut 42 = .ok (.iload_n 3, 1) := by decide +kernel
theorem dX6_cut_43 : decode cX6_cut 43 = .ok (.ireturn, 1) := by decide +kernel
theorem dX6_babble_0 : decode cX6_babble 0 = .ok (.iload_n 1, 1) := by decide +kernel
theorem dX6_babble_1 : decode cX6_babble 1 = .ok (.invokestatic 40, 3) := by decide +kernel
theorem dX6_babble_4 : decode cX6_babble 4 = .ok (.iload_n 2, 1) := by decide +kernel
theorem dX6_babble_5 : decode cX6_babble 5 = .ok (.iconst 1, 1) := by decide +kernel
theorem dX6_babble_6 : decode cX6_babble 6 = .ok (.if_icmp .lt 9, 3) := by decide +kernel
theorem dX6_babble_9 : decode cX6_babble 9 = .ok (.iload_n 2, 1) := by decide +kernel
theorem dX6_babble_10 : decode cX6_babble 10 = .ok (.bipush 8, 2) := by decide +kernel
theorem dX6_babble_12 : decode cX6_babble 12 = .ok (.if_icmp .le 13, 3) := by decide +kernel
theorem dX6_babble_15 : decode cX6_babble 15 = .ok (.new 44, 3) := by decide +kernel
theorem dX6_babble_18 : decode cX6_babble 18 = .ok (.dup, 1) := by decide +kernel
theorem dX6_babble_19 : decode cX6_babble 19 = .ok (.ldc 158, 2) := by decide +kernel
theorem dX6_babble_21 : decode cX6_babble 21 = .ok (.invokespecial 48, 3) := by decide +kernel
theorem dX6_babble_24 : decode cX6_babble 24 = .ok (.athrow, 1) := by decide +kernel
theorem dX6_babble_25 : decode cX6_babble 25 = .ok (.aload_n 0, 1) := by decide +kernel
theorem dX6_babble_26 : decode cX6_babble 26 = .ok (.getfield 34, 3) := by decide +kernel
theorem dX6_babble_29 : decode cX6_babble 29 = .ok (.iload_n 1, 1) := by decide +kernel
theorem dX6_babble_30 : decode cX6_babble 30 = .ok (.aaload, 1) := by decide +kernel
theorem dX6_babble_31 : decode cX6_babble 31 = .ok (.astore_n 3, 1) := by decide +kernel
theorem dX6_babble_32 : decode cX6_babble 32 = .ok (.aload_n 3, 1) := by decide +kernel
theorem dX6_babble_33 : decode cX6_babble 33 = .ok (.getfield 160, 3) := by decide +kernel
theorem dX6_babble_36 : decode cX6_babble 36 = .ok (.iconst 4, 1) := by decide +kernel
theorem dX6_babble_37 : decode cX6_babble 37 = .ok (.if_icmp .lt 13, 3) := by decide +kernel
theorem dX6_babble_40 : decode cX6_babble 40 = .ok (.new 70, 3) := by decide +kernel
theorem dX6_babble_43 : decode cX6_babble 43 = .ok (.dup, 1) := by decide +kernel
theorem dX6_babble_44 : decode cX6_babble 44 = .ok (.ldc 163, 2) := by decide +kernel
theorem dX6_babble_46 : decode cX6_babble 46 = .ok (.invokespecial 74, 3) := by decide +kernel
theorem dX6_babble_49 : decode cX6_babble 49 = .ok (.athrow, 1) := by decide +kernel
theorem dX6_babble_50 : decode cX6_babble 50 = .ok (.aload_n 3, 1) := by decide +kernel
theorem dX6_babble_51 : decode cX6_babble 51 = .ok (.iload_n 2, 1) := by decide +kernel
theorem dX6_babble_52 : decode cX6_babble 52 = .ok (.invokevirtual 165, 3) := by decide +kernel
theorem dX6_babble_55 : decode cX6_babble 55 = .ok (.aload_n 3, 1) := by decide +kernel
theorem dX6_babble_56 : decode cX6_babble 56 = .ok (.getfield 160, 3) := by decide +kernel
theorem dX6_babble_59 : decode cX6_babble 59 = .ok (.ireturn, 1) := by decide +kernel
theorem dX6_told_0 : decode cX6_told 0 = .ok (.aload_n 0, 1) := by decide +kernel
theorem dX6_told_1 : decode cX6_told 1 = .ok (.iload_n 1, 1) := by decide +kernel
theorem dX6_told_2 : decode cX6_told 2 = .ok (.invokevirtual 137, 3) := by decide +kernel
theorem dX6_told_5 : decode cX6_told 5 = .ok (.aload_n 0, 1) := by decide +kernel
theorem dX6_told_6 : decode cX6_told 6 = .ok (.getfield 28, 3) := by decide +kernel
theorem dX6_told_9 : decode cX6_told 9 = .ok (.iload_n 1, 1) := by decide +kernel
theorem dX6_told_10 : decode cX6_told 10 = .ok (.aaload, 1) := by decide +kernel
theorem dX6_told_11 : decode cX6_told 11 = .ok (.astore_n 3, 1) := by decide +kernel
theorem dX6_told_12 : decode cX6_told 12 = .ok (.iload_n 2, 1) := by decide +kernel
theorem dX6_told_13 : decode cX6_told 13 = .ok (.tableswitch 77 0 5 #[39, 44, 49, 54, 59, 64], 39) := by decide +kernel
theorem dX6_told_52 : decode cX6_told 52 = .ok (.aload_n 3, 1) := by decide +kernel
theorem dX6_told_53 : decode cX6_told 53 = .ok (.getfield 168, 3) := by decide +kernel
theorem dX6_told_56 : decode cX6_told 56 = .ok (.ireturn, 1) := by decide +kernel
theorem dX6_told_57 : decode cX6_told 57 = .ok (.aload_n 3, 1) := by decide +kernel
theorem dX6_told_58 : decode cX6_told 58 = .ok (.getfield 171, 3) := by decide +kernel
theorem dX6_told_61 : decode cX6_told 61 = .ok (.ireturn, 1) := by decide +kernel
theorem dX6_told_62 : decode cX6_told 62 = .ok (.aload_n 3, 1) := by decide +kernel
theorem dX6_told_63 : decode cX6_told 63 = .ok (.getfield 174, 3) := by decide +kernel
theorem dX6_told_66 : decode cX6_told 66 = .ok (.ireturn, 1) := by decide +kernel
theorem dX6_told_67 : decode cX6_told 67 = .ok (.aload_n 3, 1) := by decide +kernel
theorem dX6_told_68 : decode cX6_told 68 = .ok (.getfield 177, 3) := by decide +kernel
theorem dX6_told_71 : decode cX6_told 71 = .ok (.ireturn, 1) := by decide +kernel
theorem dX6_told_72 : decode cX6_told 72 = .ok (.aload_n 3, 1) := by decide +kernel
theorem dX6_told_73 : decode cX6_told 73 = .ok (.getfield 180, 3) := by decide +kernel
theorem dX6_told_76 : decode cX6_told 76 = .ok (.ireturn, 1) := by decide +kernel
theorem dX6_told_77 : decode cX6_told 77 = .ok (.aload_n 3, 1) := by decide +kernel
theorem dX6_told_78 : decode cX6_told 78 = .ok (.getfield 149, 3) := by decide +kernel
theorem dX6_told_81 : decode cX6_told 81 = .ok (.ifCond .eq 7, 3) := by decide +kernel
theorem dX6_told_84 : decode cX6_told 84 = .ok (.iconst 1, 1) := by decide +kernel
theorem dX6_told_85 : decode cX6_told 85 = .ok (.goto 4, 3) := by decide +kernel
theorem dX6_told_88 : decode cX6_told 88 = .ok (.iconst 0, 1) := by decide +kernel
theorem dX6_told_89 : decode cX6_told 89 = .ok (.ireturn, 1) := by decide +kernel
theorem dX6_told_90 : decode cX6_told 90 = .ok (.new 112, 3) := by decide +kernel
theorem dX6_told_93 : decode cX6_told 93 = .ok (.dup, 1) := by decide +kernel
theorem dX6_told_94 : decode cX6_told 94 = .ok (.ldc 183, 2) := by decide +kernel
theorem dX6_told_96 : decode cX6_told 96 = .ok (.invokespecial 116, 3) := by decide +kernel
theorem dX6_told_99 : decode cX6_told 99 = .ok (.athrow, 1) := by decide +kernel
theorem dX6_link_0 : decode cX6_link 0 = .ok (.iload_n 1, 1) := by decide +kernel
theorem dX6_link_1 : decode cX6_link 1 = .ok (.invokestatic 40, 3) := by decide +kernel
theorem dX6_link_4 : decode cX6_link 4 = .ok (.aload_n 0, 1) := by decide +kernel
theorem dX6_link_5 : decode cX6_link 5 = .ok (.getfield 34, 3) := by decide +kernel
theorem dX6_link_8 : decode cX6_link 8 = .ok (.iload_n 1, 1) := by decide +kernel
theorem dX6_link_9 : decode cX6_link 9 = .ok (.aaload, 1) := by decide +kernel
theorem dX6_link_10 : decode cX6_link 10 = .ok (.astore_n 3, 1) := by decide +kernel
theorem dX6_link_11 : decode cX6_link 11 = .ok (.iload_n 2, 1) := by decide +kernel
theorem dX6_link_12 : decode cX6_link 12 = .ok (.tableswitch 61 0 3 #[32, 37, 42, 48], 32) := by decide +kernel
theorem dX6_link_44 : decode cX6_link 44 = .ok (.aload_n 3, 1) := by decide +kernel
theorem dX6_link_45 : decode cX6_link 45 = .ok (.getfield 160, 3) := by decide +kernel
theorem dX6_link_48 : decode cX6_link 48 = .ok (.ireturn, 1) := by decide +kernel
theorem dX6_link_49 : decode cX6_link 49 = .ok (.aload_n 3, 1) := by decide +kernel
theorem dX6_link_50 : decode cX6_link 50 = .ok (.getfield 185, 3) := by decide +kernel
theorem dX6_link_53 : decode cX6_link 53 = .ok (.ireturn, 1) := by decide +kernel
theorem dX6_link_54 : decode cX6_link 54 = .ok (.aload_n 0, 1) := by decide +kernel
theorem dX6_link_55 : decode cX6_link 55 = .ok (.iload_n 1, 1) := by decide +kernel
theorem dX6_link_56 : decode cX6_link 56 = .ok (.invokevirtual 188, 3) := by decide +kernel
theorem dX6_link_59 : decode cX6_link 59 = .ok (.ireturn, 1) := by decide +kernel
theorem dX6_link_60 : decode cX6_link 60 = .ok (.aload_n 3, 1) := by decide +kernel
theorem dX6_link_61 : decode cX6_link 61 = .ok (.getfield 152, 3) := by decide +kernel
theorem dX6_link_64 : decode cX6_link 64 = .ok (.ifCond .eq 7, 3) := by decide +kernel
theorem dX6_link_67 : decode cX6_link 67 = .ok (.iconst 1, 1) := by decide +kernel
theorem dX6_link_68 : decode cX6_link 68 = .ok (.goto 4, 3) := by decide +kernel
theorem dX6_link_71 : decode cX6_link 71 = .ok (.iconst 0, 1) := by decide +kernel
theorem dX6_link_72 : decode cX6_link 72 = .ok (.ireturn, 1) := by decide +kernel
theorem dX6_link_73 : decode cX6_link 73 = .ok (.new 112, 3) := by decide +kernel
theorem dX6_link_76 : decode cX6_link 76 = .ok (.dup, 1) := by decide +kernel
theorem dX6_link_77 : decode cX6_link 77 = .ok (.ldc 192, 2) := by decide +kernel
theorem dX6_link_79 : decode cX6_link 79 = .ok (.invokespecial 116, 3) := by decide +kernel
theorem dX6_link_82 : decode cX6_link 82 = .ok (.athrow, 1) := by decide +kernel
theorem dX6_streams_0 : decode cX6_streams 0 = .ok (.iload_n 1, 1) := by decide +kernel
theorem dX6_streams_1 : decode cX6_streams 1 = .ok (.tableswitch 60 0 3 #[31, 36, 44, 52], 31) := by decide +kernel
theorem dX6_streams_32 : decode cX6_streams 32 = .ok (.aload_n 0, 1) := by decide +kernel
theorem dX6_streams_33 : decode cX6_streams 33 = .ok (.getfield 66, 3) := by decide +kernel
theorem dX6_streams_36 : decode cX6_streams 36 = .ok (.ireturn, 1) := by decide +kernel
theorem dX6_streams_37 : decode cX6_streams 37 = .ok (.aload_n 0, 1) := by decide +kernel
theorem dX6_streams_38 : decode cX6_streams 38 = .ok (.getfield 98, 3) := by decide +kernel
theorem dX6_streams_41 : decode cX6_streams 41 = .ok (.invokestatic 194, 3) := by decide +kernel
theorem dX6_streams_44 : decode cX6_streams 44 = .ok (.ireturn, 1) := by decide +kernel
theorem dX6_streams_45 : decode cX6_streams 45 = .ok (.aload_n 0, 1) := by decide +kernel
theorem dX6_streams_46 : decode cX6_streams 46 = .ok (.getfield 198, 3) := by decide +kernel
theorem dX6_streams_49 : decode cX6_streams 49 = .ok (.invokestatic 194, 3) := by decide +kernel
theorem dX6_streams_52 : decode cX6_streams 52 = .ok (.ireturn, 1) := by decide +kernel
theorem dX6_streams_53 : decode cX6_streams 53 = .ok (.aload_n 0, 1) := by decide +kernel
theorem dX6_streams_54 : decode cX6_streams 54 = .ok (.getfield 126, 3) := by decide +kernel
theorem dX6_streams_57 : decode cX6_streams 57 = .ok (.invokestatic 194, 3) := by decide +kernel
theorem dX6_streams_60 : decode cX6_streams 60 = .ok (.ireturn, 1) := by decide +kernel
theorem dX6_streams_61 : decode cX6_streams 61 = .ok (.new 112, 3) := by decide +kernel
theorem dX6_streams_64 : decode cX6_streams 64 = .ok (.dup, 1) := by decide +kernel
theorem dX6_streams_65 : decode cX6_streams 65 = .ok (.ldc 201, 2) := by decide +kernel
theorem dX6_streams_67 : decode cX6_streams 67 = .ok (.invokespecial 116, 3) := by decide +kernel
theorem dX6_streams_70 : decode cX6_streams 70 = .ok (.athrow, 1) := by decide +kernel
theorem dX6_requireLink_0 : decode cX6_requireLink 0 = .ok (.iload_n 0, 1) := by decide +kernel
theorem dX6_requireLink_1 : decode cX6_requireLink 1 = .ok (.invokestatic 203, 3) := by decide +kernel
theorem dX6_requireLink_4 : decode cX6_requireLink 4 = .ok (.ifCond .ne 13, 3) := by decide +kernel
theorem dX6_requireLink_7 : decode cX6_requireLink 7 = .ok (.new 112, 3) := by decide +kernel
theorem dX6_requireLink_10 : decode cX6_requireLink 10 = .ok (.dup, 1) := by decide +kernel
theorem dX6_requireLink_11 : decode cX6_requireLink 11 = .ok (.ldc 206, 2) := by decide +kernel
theorem dX6_requireLink_13 : decode cX6_requireLink 13 = .ok (.invokespecial 116, 3) := by decide +kernel
theorem dX6_requireLink_16 : decode cX6_requireLink 16 = .ok (.athrow, 1) := by decide +kernel
theorem dX6_requireLink_17 : decode cX6_requireLink 17 = .ok (.return_, 1) := by decide +kernel
theorem dX6_requireLinkOrNone_0 : decode cX6_requireLinkOrNone 0 = .ok (.iload_n 0, 1) := by decide +kernel
theorem dX6_requireLinkOrNone_1 : decode cX6_requireLinkOrNone 1 = .ok (.iconst (-1), 1) := by decide +kernel
theorem dX6_requireLinkOrNone_2 : decode cX6_requireLinkOrNone 2 = .ok (.if_icmp .eq 7, 3) := by decide +kernel
theorem dX6_requireLinkOrNone_5 : decode cX6_requireLinkOrNone 5 = .ok (.iload_n 0, 1) := by decide +kernel
theorem dX6_requireLinkOrNone_6 : decode cX6_requireLinkOrNone 6 = .ok (.invokestatic 40, 3) := by decide +kernel
theorem dX6_requireLinkOrNone_9 : decode cX6_requireLinkOrNone 9 = .ok (.return_, 1) := by decide +kernel
theorem dX6_requireFound_0 : decode cX6_requireFound 0 = .ok (.aload_n 0, 1) := by decide +kernel
theorem dX6_requireFound_1 : decode cX6_requireFound 1 = .ok (.getfield 98, 3) := by decide +kernel
theorem dX6_requireFound_4 : decode cX6_requireFound 4 = .ok (.ifnonnull 13, 3) := by decide +kernel
theorem dX6_requireFound_7 : decode cX6_requireFound 7 = .ok (.new 208, 3) := by decide +kernel
theorem dX6_requireFound_10 : decode cX6_requireFound 10 = .ok (.dup, 1) := by decide +kernel
theorem dX6_requireFound_11 : decode cX6_requireFound 11 = .ok (.ldc 210, 2) := by decide +kernel
theorem dX6_requireFound_13 : decode cX6_requireFound 13 = .ok (.invokespecial 212, 3) := by decide +kernel
theorem dX6_requireFound_16 : decode cX6_requireFound 16 = .ok (.athrow, 1) := by decide +kernel
theorem dX6_requireFound_17 : decode cX6_requireFound 17 = .ok (.return_, 1) := by decide +kernel
theorem dX6_requireInForce_0 : decode cX6_requireInForce 0 = .ok (.iload_n 1, 1) := by decide +kernel
theorem dX6_requireInForce_1 : decode cX6_requireInForce 1 = .ok (.ifCond .lt 11, 3) := by decide +kernel
theorem dX6_requireInForce_4 : decode cX6_requireInForce 4 = .ok (.iload_n 1, 1) := by decide +kernel
theorem dX6_requireInForce_5 : decode cX6_requireInForce 5 = .ok (.aload_n 0, 1) := by decide +kernel
theorem dX6_requireInForce_6 : decode cX6_requireInForce 6 = .ok (.invokevirtual 213, 3) := by decide +kernel
theorem dX6_requireInForce_9 : decode cX6_requireInForce 9 = .ok (.if_icmp .lt 13, 3) := by decide +kernel
theorem dX6_requireInForce_12 : decode cX6_requireInForce 12 = .ok (.new 112, 3) := by decide +kernel
theorem dX6_requireInForce_15 : decode cX6_requireInForce 15 = .ok (.dup, 1) := by decide +kernel
theorem dX6_requireInForce_16 : decode cX6_requireInForce 16 = .ok (.ldc 217, 2) := by decide +kernel
theorem dX6_requireInForce_18 : decode cX6_requireInForce 18 = .ok (.invokespecial 116, 3) := by decide +kernel
theorem dX6_requireInForce_21 : decode cX6_requireInForce 21 = .ok (.athrow, 1) := by decide +kernel
theorem dX6_requireInForce_22 : decode cX6_requireInForce 22 = .ok (.return_, 1) := by decide +kernel
theorem dX6_isLink_0 : decode cX6_isLink 0 = .ok (.iload_n 0, 1) := by decide +kernel
theorem dX6_isLink_1 : decode cX6_isLink 1 = .ok (.ifCond .lt 13, 3) := by decide +kernel
theorem dX6_isLink_4 : decode cX6_isLink 4 = .ok (.iload_n 0, 1) := by decide +kernel
theorem dX6_isLink_5 : decode cX6_isLink 5 = .ok (.bipush 6, 2) := by decide +kernel
theorem dX6_isLink_7 : decode cX6_isLink 7 = .ok (.if_icmp .ge 7, 3) := by decide +kernel
theorem dX6_isLink_10 : decode cX6_isLink 10 = .ok (.iconst 1, 1) := by decide +kernel
theorem dX6_isLink_11 : decode cX6_isLink 11 = .ok (.goto 4, 3) := by decide +kernel
theorem dX6_isLink_14 : decode cX6_isLink 14 = .ok (.iconst 0, 1) := by decide +kernel
theorem dX6_isLink_15 : decode cX6_isLink 15 = .ok (.ireturn, 1) := by decide +kernel
theorem dX6_isPeriod_0 : decode cX6_isPeriod 0 = .ok (.iload_n 0, 1) := by decide +kernel
theorem dX6_isPeriod_1 : decode cX6_isPeriod 1 = .ok (.bipush 8, 2) := by decide +kernel
theorem dX6_isPeriod_3 : decode cX6_isPeriod 3 = .ok (.if_icmp .eq 15, 3) := by decide +kernel
theorem dX6_isPeriod_6 : decode cX6_isPeriod 6 = .ok (.iload_n 0, 1) := by decide +kernel
theorem dX6_isPeriod_7 : decode cX6_isPeriod 7 = .ok (.bipush 16, 2) := by decide +kernel
theorem dX6_isPeriod_9 : decode cX6_isPeriod 9 = .ok (.if_icmp .eq 9, 3) := by decide +kernel
theorem dX6_isPeriod_12 : decode cX6_isPeriod 12 = .ok (.iload_n 0, 1) := by decide +kernel
theorem dX6_isPeriod_13 : decode cX6_isPeriod 13 = .ok (.bipush 32, 2) := by decide +kernel
theorem dX6_isPeriod_15 : decode cX6_isPeriod 15 = .ok (.if_icmp .ne 7, 3) := by decide +kernel
theorem dX6_isPeriod_18 : decode cX6_isPeriod 18 = .ok (.iconst 1, 1) := by decide +kernel
theorem dX6_isPeriod_19 : decode cX6_isPeriod 19 = .ok (.goto 4, 3) := by decide +kernel
theorem dX6_isPeriod_22 : decode cX6_isPeriod 22 = .ok (.iconst 0, 1) := by decide +kernel
theorem dX6_isPeriod_23 : decode cX6_isPeriod 23 = .ok (.ireturn, 1) := by decide +kernel
theorem dX6_isPath_0 : decode cX6_isPath 0 = .ok (.iload_n 1, 1) := by decide +kernel
theorem dX6_isPath_1 : decode cX6_isPath 1 = .ok (.iconst (-1), 1) := by decide +kernel
theorem dX6_isPath_2 : decode cX6_isPath 2 = .ok (.if_icmp .ne 14, 3) := by decide +kernel
theorem dX6_isPath_5 : decode cX6_isPath 5 = .ok (.iload_n 2, 1) := by decide +kernel
theorem dX6_isPath_6 : decode cX6_isPath 6 = .ok (.iconst (-1), 1) := by decide +kernel
theorem dX6_isPath_7 : decode cX6_isPath 7 = .ok (.if_icmp .ne 7, 3) := by decide +kernel
theorem dX6_isPath_10 : decode cX6_isPath 10 = .ok (.iconst 1, 1) := by decide +kernel
theorem dX6_isPath_11 : decode cX6_isPath 11 = .ok (.goto 4, 3) := by decide +kernel
theorem dX6_isPath_14 : decode cX6_isPath 14 = .ok (.iconst 0, 1) := by decide +kernel
theorem dX6_isPath_15 : decode cX6_isPath 15 = .ok (.ireturn, 1) := by decide +kernel
theorem dX6_isPath_16 : decode cX6_isPath 16 = .ok (.iload_n 0, 1) := by decide +kernel
theorem dX6_isPath_17 : decode cX6_isPath 17 = .ok (.iload_n 1, 1) := by decide +kernel
theorem dX6_isPath_18 : decode cX6_isPath 18 = .ok (.if_icmp .eq 17, 3) := by decide +kernel
theorem dX6_isPath_21 : decode cX6_isPath 21 = .ok (.iload_n 0, 1) := by decide +kernel
theorem dX6_isPath_22 : decode cX6_isPath 22 = .ok (.iload_n 2, 1) := by decide +kernel
theorem dX6_isPath_23 : decode cX6_isPath 23 = .ok (.if_icmp .eq 12, 3) := by decide +kernel
theorem dX6_isPath_26 : decode cX6_isPath 26 = .ok (.iload_n 1, 1) := by decide +kernel
theorem dX6_isPath_27 : decode cX6_isPath 27 = .ok (.iload_n 2, 1) := by decide +kernel
theorem dX6_isPath_28 : decode cX6_isPath 28 = .ok (.if_icmp .eq 7, 3) := by decide +kernel
theorem dX6_isPath_31 : decode cX6_isPath 31 = .ok (.iconst 1, 1) := by decide +kernel
theorem dX6_isPath_32 : decode cX6_isPath 32 = .ok (.goto 4, 3) := by decide +kernel
theorem dX6_isPath_35 : decode cX6_isPath 35 = .ok (.iconst 0, 1) := by decide +kernel
theorem dX6_isPath_36 : decode cX6_isPath 36 = .ok (.ireturn, 1) := by decide +kernel
theorem dX6_pathOf_0 : decode cX6_pathOf 0 = .ok (.iload_n 1, 1) := by decide +kernel
theorem dX6_pathOf_1 : decode cX6_pathOf 1 = .ok (.iconst (-1), 1) := by decide +kernel
theorem dX6_pathOf_2 : decode cX6_pathOf 2 = .ok (.if_icmp .ne 7, 3) := by decide +kernel
theorem dX6_pathOf_5 : decode cX6_pathOf 5 = .ok (.iconst 1, 1) := by decide +kernel
theorem dX6_pathOf_6 : decode cX6_pathOf 6 = .ok (.goto 13, 3) := by decide +kernel
theorem dX6_pathOf_9 : decode cX6_pathOf 9 = .ok (.iload_n 2, 1) := by decide +kernel
theorem dX6_pathOf_10 : decode cX6_pathOf 10 = .ok (.iconst (-1), 1) := by decide +kernel
theorem dX6_pathOf_11 : decode cX6_pathOf 11 = .ok (.if_icmp .ne 7, 3) := by decide +kernel
theorem dX6_pathOf_14 : decode cX6_pathOf 14 = .ok (.iconst 2, 1) := by decide +kernel
theorem dX6_pathOf_15 : decode cX6_pathOf 15 = .ok (.goto 4, 3) := by decide +kernel
theorem dX6_pathOf_18 : decode cX6_pathOf 18 = .ok (.iconst 3, 1) := by decide +kernel
theorem dX6_pathOf_19 : decode cX6_pathOf 19 = .ok (.istore_n 3, 1) := by decide +kernel
theorem dX6_pathOf_20 : decode cX6_pathOf 20 = .ok (.iload_n 3, 1) := by decide +kernel
theorem dX6_pathOf_21 : decode cX6_pathOf 21 = .ok (.newarray .int, 2) := by decide +kernel
theorem dX6_pathOf_23 : decode cX6_pathOf 23 = .ok (.astore 4, 2) := by decide +kernel
theorem dX6_pathOf_25 : decode cX6_pathOf 25 = .ok (.aload 4, 2) := by decide +kernel
theorem dX6_pathOf_27 : decode cX6_pathOf 27 = .ok (.iconst 0, 1) := by decide +kernel
theorem dX6_pathOf_28 : decode cX6_pathOf 28 = .ok (.iload_n 0, 1) := by decide +kernel
theorem dX6_pathOf_29 : decode cX6_pathOf 29 = .ok (.iastore, 1) := by decide +kernel
theorem dX6_pathOf_30 : decode cX6_pathOf 30 = .ok (.iload_n 3, 1) := by decide +kernel
theorem dX6_pathOf_31 : decode cX6_pathOf 31 = .ok (.iconst 1, 1) := by decide +kernel
theorem dX6_pathOf_32 : decode cX6_pathOf 32 = .ok (.if_icmp .le 8, 3) := by decide +kernel
theorem dX6_pathOf_35 : decode cX6_pathOf 35 = .ok (.aload 4, 2) := by decide +kernel
theorem dX6_pathOf_37 : decode cX6_pathOf 37 = .ok (.iconst 1, 1) := by decide +kernel
theorem dX6_pathOf_38 : decode cX6_pathOf 38 = .ok (.iload_n 1, 1) := by decide +kernel
theorem dX6_pathOf_39 : decode cX6_pathOf 39 = .ok (.iastore, 1) := by decide +kernel
theorem dX6_pathOf_40 : decode cX6_pathOf 40 = .ok (.iload_n 3, 1) := by decide +kernel
theorem dX6_pathOf_41 : decode cX6_pathOf 41 = .ok (.iconst 2, 1) := by decide +kernel
theorem dX6_pathOf_42 : decode cX6_pathOf 42 = .ok (.if_icmp .le 8, 3) := by decide +kernel
theorem dX6_pathOf_45 : decode cX6_pathOf 45 = .ok (.aload 4, 2) := by decide +kernel
theorem dX6_pathOf_47 : decode cX6_pathOf 47 = .ok (.iconst 2, 1) := by decide +kernel
theorem dX6_pathOf_48 : decode cX6_pathOf 48 = .ok (.iload_n 2, 1) := by decide +kernel
theorem dX6_pathOf_49 : decode cX6_pathOf 49 = .ok (.iastore, 1) := by decide +kernel
theorem dX6_pathOf_50 : decode cX6_pathOf 50 = .ok (.aload 4, 2) := by decide +kernel
theorem dX6_pathOf_52 : decode cX6_pathOf 52 = .ok (.areturn, 1) := by decide +kernel
theorem dX6_streamsOf_0 : decode cX6_streamsOf 0 = .ok (.aload_n 0, 1) := by decide +kernel
theorem dX6_streamsOf_1 : decode cX6_streamsOf 1 = .ok (.ifnonnull 7, 3) := by decide +kernel
theorem dX6_streamsOf_4 : decode cX6_streamsOf 4 = .ok (.iconst (-1), 1) := by decide +kernel
theorem dX6_streamsOf_5 : decode cX6_streamsOf 5 = .ok (.goto 8, 3) := by decide +kernel
theorem dX6_streamsOf_8 : decode cX6_streamsOf 8 = .ok (.aload_n 0, 1) := by decide +kernel
theorem dX6_streamsOf_9 : decode cX6_streamsOf 9 = .ok (.getfield 108, 3) := by decide +kernel
theorem dX6_streamsOf_12 : decode cX6_streamsOf 12 = .ok (.arraylength, 1) := by decide +kernel
theorem dX6_streamsOf_13 : decode cX6_streamsOf 13 = .ok (.ireturn, 1) := by decide +kernel
theorem dX6_talking_0 : decode cX6_talking 0 = .ok (.aload_n 0, 1) := by decide +kernel
theorem dX6_talking_1 : decode cX6_talking 1 = .ok (.getfield 198, 3) := by decide +kernel
theorem dX6_talking_4 : decode cX6_talking 4 = .ok (.ifnonnull 7, 3) := by decide +kernel
theorem dX6_talking_7 : decode cX6_talking 7 = .ok (.iconst 0, 1) := by decide +kernel
theorem dX6_talking_8 : decode cX6_talking 8 = .ok (.goto 11, 3) := by decide +kernel
theorem dX6_talking_11 : decode cX6_talking 11 = .ok (.aload_n 0, 1) := by decide +kernel
theorem dX6_talking_12 : decode cX6_talking 12 = .ok (.getfield 198, 3) := by decide +kernel
theorem dX6_talking_15 : decode cX6_talking 15 = .ok (.getfield 108, 3) := by decide +kernel
theorem dX6_talking_18 : decode cX6_talking 18 = .ok (.arraylength, 1) := by decide +kernel
theorem dX6_talking_19 : decode cX6_talking 19 = .ok (.ireturn, 1) := by decide +kernel
theorem dX6_passOneTick_0 : decode cX6_passOneTick 0 = .ok (.aload_n 0, 1) := by decide +kernel
theorem dX6_passOneTick_1 : decode cX6_passOneTick 1 = .ok (.getfield 126, 3) := by decide +kernel
theorem dX6_passOneTick_4 : decode cX6_passOneTick 4 = .ok (.ifnull 14, 3) := by decide +kernel
theorem dX6_passOneTick_7 : decode cX6_passOneTick 7 = .ok (.aload_n 0, 1) := by decide +kernel
theorem dX6_passOneTick_8 : decode cX6_passOneTick 8 = .ok (.invokevirtual 219, 3) := by decide +kernel
theorem dX6_passOneTick_11 : decode cX6_passOneTick 11 = .ok (.ifCond .eq 7, 3) := by decide +kernel
theorem dX6_passOneTick_14 : decode cX6_passOneTick 14 = .ok (.aload_n 0, 1) := by decide +kernel
theorem dX6_passOneTick_15 : decode cX6_passOneTick 15 = .ok (.invokevirtual 223, 3) := by decide +kernel
theorem dX6_passOneTick_18 : decode cX6_passOneTick 18 = .ok (.aload_n 0, 1) := by decide +kernel
theorem dX6_passOneTick_19 : decode cX6_passOneTick 19 = .ok (.getfield 126, 3) := by decide +kernel
theorem dX6_passOneTick_22 : decode cX6_passOneTick 22 = .ok (.ifnonnull 32, 3) := by decide +kernel
theorem dX6_passOneTick_25 : decode cX6_passOneTick 25 = .ok (.iconst 0, 1) := by decide +kernel
theorem dX6_passOneTick_26 : decode cX6_passOneTick 26 = .ok (.istore_n 1, 1) := by decide +kernel
theorem dX6_passOneTick_27 : decode cX6_passOneTick 27 = .ok (.iload_n 1, 1) := by decide +kernel
theorem dX6_passOneTick_28 : decode cX6_passOneTick 28 = .ok (.aload_n 0, 1) := by decide +kernel
theorem dX6_passOneTick_29 : decode cX6_passOneTick 29 = .ok (.invokevirtual 213, 3) := by decide +kernel
theorem dX6_passOneTick_32 : decode cX6_passOneTick 32 = .ok (.if_icmp .ge 22, 3) := by decide +kernel
theorem dX6_passOneTick_35 : decode cX6_passOneTick 35 = .ok (.aload_n 0, 1) := by decide +kernel
theorem dX6_passOneTick_36 : decode cX6_passOneTick 36 = .ok (.getfield 28, 3) := by decide +kernel
theorem dX6_passOneTick_39 : decode cX6_passOneTick 39 = .ok (.iload_n 1, 1) := by decide +kernel
theorem dX6_passOneTick_40 : decode cX6_passOneTick 40 = .ok (.aaload, 1) := by decide +kernel
theorem dX6_passOneTick_41 : decode cX6_passOneTick 41 = .ok (.aload_n 0, 1) := by decide +kernel
theorem dX6_passOneTick_42 : decode cX6_passOneTick 42 = .ok (.getfield 134, 3) := by decide +kernel
theorem dX6_passOneTick_45 : decode cX6_passOneTick 45 = .ok (.invokevirtual 226, 3) := by decide +kernel
theorem dX6_passOneTick_48 : decode cX6_passOneTick 48 = .ok (.iinc 1 1, 3) := by decide +kernel
theorem dX6_passOneTick_51 : decode cX6_passOneTick 51 = .ok (.goto (-24), 3) := by decide +kernel
theorem dX6_passOneTick_54 : decode cX6_passOneTick 54 = .ok (.iconst 0, 1) := by decide +kernel
theorem dX6_passOneTick_55 : decode cX6_passOneTick 55 = .ok (.istore_n 1, 1) := by decide +kernel
theorem dX6_passOneTick_56 : decode cX6_passOneTick 56 = .ok (.iload_n 1, 1) := by decide +kernel
theorem dX6_passOneTick_57 : decode cX6_passOneTick 57 = .ok (.aload_n 0, 1) := by decide +kernel
theorem dX6_passOneTick_58 : decode cX6_passOneTick 58 = .ok (.invokevirtual 213, 3) := by decide +kernel
theorem dX6_passOneTick_61 : decode cX6_passOneTick 61 = .ok (.if_icmp .ge 26, 3) := by decide +kernel
theorem dX6_passOneTick_64 : decode cX6_passOneTick 64 = .ok (.aload_n 0, 1) := by decide +kernel
theorem dX6_passOneTick_65 : decode cX6_passOneTick 65 = .ok (.getfield 28, 3) := by decide +kernel
theorem dX6_passOneTick_68 : decode cX6_passOneTick 68 = .ok (.iload_n 1, 1) := by decide +kernel
theorem dX6_passOneTick_69 : decode cX6_passOneTick 69 = .ok (.aaload, 1) := by decide +kernel
theorem dX6_passOneTick_70 : decode cX6_passOneTick 70 = .ok (.aload_n 0, 1) := by decide +kernel
theorem dX6_passOneTick_71 : decode cX6_passOneTick 71 = .ok (.getfield 134, 3) := by decide +kernel
theorem dX6_passOneTick_74 : decode cX6_passOneTick 74 = .ok (.aload_n 0, 1) := by decide +kernel
theorem dX6_passOneTick_75 : decode cX6_passOneTick 75 = .ok (.getfield 34, 3) := by decide +kernel
theorem dX6_passOneTick_78 : decode cX6_passOneTick 78 = .ok (.invokevirtual 229, 3) := by decide +kernel
theorem dX6_passOneTick_81 : decode cX6_passOneTick 81 = .ok (.iinc 1 1, 3) := by decide +kernel
theorem dX6_passOneTick_84 : decode cX6_passOneTick 84 = .ok (.goto (-28), 3) := by decide +kernel
theorem dX6_passOneTick_87 : decode cX6_passOneTick 87 = .ok (.iconst 0, 1) := by decide +kernel
theorem dX6_passOneTick_88 : decode cX6_passOneTick 88 = .ok (.istore_n 1, 1) := by decide +kernel
theorem dX6_passOneTick_89 : decode cX6_passOneTick 89 = .ok (.iload_n 1, 1) := by decide +kernel
theorem dX6_passOneTick_90 : decode cX6_passOneTick 90 = .ok (.bipush 6, 2) := by decide +kernel
theorem dX6_passOneTick_92 : decode cX6_passOneTick 92 = .ok (.if_icmp .ge 14, 3) := by decide +kernel
theorem dX6_passOneTick_95 : decode cX6_passOneTick 95 = .ok (.aload_n 0, 1) := by decide +kernel
theorem dX6_passOneTick_96 : decode cX6_passOneTick 96 = .ok (.iload_n 1, 1) := by decide +kernel
theorem dX6_passOneTick_97 : decode cX6_passOneTick 97 = .ok (.invokevirtual 233, 3) := by decide +kernel
theorem dX6_passOneTick_100 : decode cX6_passOneTick 100 = .ok (.iinc 1 1, 3) := by decide +kernel
theorem dX6_passOneTick_103 : decode cX6_passOneTick 103 = .ok (.goto (-14), 3) := by decide +kernel
theorem dX6_passOneTick_106 : decode cX6_passOneTick 106 = .ok (.aload_n 0, 1) := by decide +kernel
theorem dX6_passOneTick_107 : decode cX6_passOneTick 107 = .ok (.dup, 1) := by decide +kernel
theorem dX6_passOneTick_108 : decode cX6_passOneTick 108 = .ok (.getfield 134, 3) := by decide +kernel
theorem dX6_passOneTick_111 : decode cX6_passOneTick 111 = .ok (.iconst 1, 1) := by decide +kernel
theorem dX6_passOneTick_112 : decode cX6_passOneTick 112 = .ok (.iadd, 1) := by decide +kernel
theorem dX6_passOneTick_113 : decode cX6_passOneTick 113 = .ok (.putfield 134, 3) := by decide +kernel
theorem dX6_passOneTick_116 : decode cX6_passOneTick 116 = .ok (.iconst 0, 1) := by decide +kernel
theorem dX6_passOneTick_117 : decode cX6_passOneTick 117 = .ok (.istore_n 1, 1) := by decide +kernel
theorem dX6_passOneTick_118 : decode cX6_passOneTick 118 = .ok (.iload_n 1, 1) := by decide +kernel
theorem dX6_passOneTick_119 : decode cX6_passOneTick 119 = .ok (.bipush 6, 2) := by decide +kernel
theorem dX6_passOneTick_121 : decode cX6_passOneTick 121 = .ok (.if_icmp .ge 18, 3) := by decide +kernel
theorem dX6_passOneTick_124 : decode cX6_passOneTick 124 = .ok (.aload_n 0, 1) := by decide +kernel
theorem dX6_passOneTick_125 : decode cX6_passOneTick 125 = .ok (.getfield 34, 3) := by decide +kernel
theorem dX6_passOneTick_128 : decode cX6_passOneTick 128 = .ok (.iload_n 1, 1) := by decide +kernel
theorem dX6_passOneTick_129 : decode cX6_passOneTick 129 = .ok (.aaload, 1) := by decide +kernel
theorem dX6_passOneTick_130 : decode cX6_passOneTick 130 = .ok (.invokevirtual 236, 3) := by decide +kernel
theorem dX6_passOneTick_133 : decode cX6_passOneTick 133 = .ok (.iinc 1 1, 3) := by decide +kernel
theorem dX6_passOneTick_136 : decode cX6_passOneTick 136 = .ok (.goto (-18), 3) := by decide +kernel
theorem dX6_passOneTick_139 : decode cX6_passOneTick 139 = .ok (.return_, 1) := by decide +kernel
theorem dX6_isTimeToChange_0 : decode cX6_isTimeToChange 0 = .ok (.aload_n 0, 1) := by decide +kernel
theorem dX6_isTimeToChange_1 : decode cX6_isTimeToChange 1 = .ok (.getfield 134, 3) := by decide +kernel
theorem dX6_isTimeToChange_4 : decode cX6_isTimeToChange 4 = .ok (.bipush 31, 2) := by decide +kernel
theorem dX6_isTimeToChange_6 : decode cX6_isTimeToChange 6 = .ok (.iand, 1) := by decide +kernel
theorem dX6_isTimeToChange_7 : decode cX6_isTimeToChange 7 = .ok (.ifCond .ne 7, 3) := by decide +kernel
theorem dX6_isTimeToChange_10 : decode cX6_isTimeToChange 10 = .ok (.iconst 1, 1) := by decide +kernel
theorem dX6_isTimeToChange_11 : decode cX6_isTimeToChange 11 = .ok (.goto 4, 3) := by decide +kernel
theorem dX6_isTimeToChange_14 : decode cX6_isTimeToChange 14 = .ok (.iconst 0, 1) := by decide +kernel
theorem dX6_isTimeToChange_15 : decode cX6_isTimeToChange 15 = .ok (.istore_n 1, 1) := by decide +kernel
theorem dX6_isTimeToChange_16 : decode cX6_isTimeToChange 16 = .ok (.iconst 0, 1) := by decide +kernel
theorem dX6_isTimeToChange_17 : decode cX6_isTimeToChange 17 = .ok (.istore_n 2, 1) := by decide +kernel
theorem dX6_isTimeToChange_18 : decode cX6_isTimeToChange 18 = .ok (.iload_n 2, 1) := by decide +kernel
theorem dX6_isTimeToChange_19 : decode cX6_isTimeToChange 19 = .ok (.aload_n 0, 1) := by decide +kernel
theorem dX6_isTimeToChange_20 : decode cX6_isTimeToChange 20 = .ok (.invokevirtual 213, 3) := by decide +kernel
theorem dX6_isTimeToChange_23 : decode cX6_isTimeToChange 23 = .ok (.if_icmp .ge 31, 3) := by decide +kernel
theorem dX6_isTimeToChange_26 : decode cX6_isTimeToChange 26 = .ok (.iload_n 1, 1) := by decide +kernel
theorem dX6_isTimeToChange_27 : decode cX6_isTimeToChange 27 = .ok (.ifCond .eq 19, 3) := by decide +kernel
theorem dX6_isTimeToChange_30 : decode cX6_isTimeToChange 30 = .ok (.aload_n 0, 1) := by decide +kernel
theorem dX6_isTimeToChange_31 : decode cX6_isTimeToChange 31 = .ok (.getfield 28, 3) := by decide +kernel
theorem dX6_isTimeToChange_34 : decode cX6_isTimeToChange 34 = .ok (.iload_n 2, 1) := by decide +kernel
theorem dX6_isTimeToChange_35 : decode cX6_isTimeToChange 35 = .ok (.aaload, 1) := by decide +kernel
theorem dX6_isTimeToChange_36 : decode cX6_isTimeToChange 36 = .ok (.getfield 168, 3) := by decide +kernel
theorem dX6_isTimeToChange_39 : decode cX6_isTimeToChange 39 = .ok (.ifCond .ne 7, 3) := by decide +kernel
theorem dX6_isTimeToChange_42 : decode cX6_isTimeToChange 42 = .ok (.iconst 1, 1) := by decide +kernel
theorem dX6_isTimeToChange_43 : decode cX6_isTimeToChange 43 = .ok (.goto 4, 3) := by decide +kernel
theorem dX6_isTimeToChange_46 : decode cX6_isTimeToChange 46 = .ok (.iconst 0, 1) := by decide +kernel
theorem dX6_isTimeToChange_47 : decode cX6_isTimeToChange 47 = .ok (.istore_n 1, 1) := by decide +kernel
theorem dX6_isTimeToChange_48 : decode cX6_isTimeToChange 48 = .ok (.iinc 2 1, 3) := by decide +kernel
theorem dX6_isTimeToChange_51 : decode cX6_isTimeToChange 51 = .ok (.goto (-33), 3) := by decide +kernel
theorem dX6_isTimeToChange_54 : decode cX6_isTimeToChange 54 = .ok (.iconst 0, 1) := by decide +kernel
theorem dX6_isTimeToChange_55 : decode cX6_isTimeToChange 55 = .ok (.istore_n 2, 1) := by decide +kernel
theorem dX6_isTimeToChange_56 : decode cX6_isTimeToChange 56 = .ok (.iload_n 2, 1) := by decide +kernel
theorem dX6_isTimeToChange_57 : decode cX6_isTimeToChange 57 = .ok (.bipush 6, 2) := by decide +kernel
theorem dX6_isTimeToChange_59 : decode cX6_isTimeToChange 59 = .ok (.if_icmp .ge 31, 3) := by decide +kernel
theorem dX6_isTimeToChange_62 : decode cX6_isTimeToChange 62 = .ok (.iload_n 1, 1) := by decide +kernel
theorem dX6_isTimeToChange_63 : decode cX6_isTimeToChange 63 = .ok (.ifCond .eq 19, 3) := by decide +kernel
theorem dX6_isTimeToChange_66 : decode cX6_isTimeToChange 66 = .ok (.aload_n 0, 1) := by decide +kernel
theorem dX6_isTimeToChange_67 : decode cX6_isTimeToChange 67 = .ok (.getfield 34, 3) := by decide +kernel
theorem dX6_isTimeToChange_70 : decode cX6_isTimeToChange 70 = .ok (.iload_n 2, 1) := by decide +kernel
theorem dX6_isTimeToChange_71 : decode cX6_isTimeToChange 71 = .ok (.aaload, 1) := by decide +kernel
theorem dX6_isTimeToChange_72 : decode cX6_isTimeToChange 72 = .ok (.getfield 239, 3) := by decide +kernel
theorem dX6_isTimeToChange_75 : decode cX6_isTimeToChange 75 = .ok (.ifCond .ne 7, 3) := by decide +kernel
theorem dX6_isTimeToChange_78 : decode cX6_isTimeToChange 78 = .ok (.iconst 1, 1) := by decide +kernel
theorem dX6_isTimeToChange_79 : decode cX6_isTimeToChange 79 = .ok (.goto 4, 3) := by decide +kernel
theorem dX6_isTimeToChange_82 : decode cX6_isTimeToChange 82 = .ok (.iconst 0, 1) := by decide +kernel
theorem dX6_isTimeToChange_83 : decode cX6_isTimeToChange 83 = .ok (.istore_n 1, 1) := by decide +kernel
theorem dX6_isTimeToChange_84 : decode cX6_isTimeToChange 84 = .ok (.iinc 2 1, 3) := by decide +kernel
theorem dX6_isTimeToChange_87 : decode cX6_isTimeToChange 87 = .ok (.goto (-31), 3) := by decide +kernel
theorem dX6_isTimeToChange_90 : decode cX6_isTimeToChange 90 = .ok (.iload_n 1, 1) := by decide +kernel
theorem dX6_isTimeToChange_91 : decode cX6_isTimeToChange 91 = .ok (.ireturn, 1) := by decide +kernel
theorem dX6_comeIntoForce_0 : decode cX6_comeIntoForce 0 = .ok (.aload_n 0, 1) := by decide +kernel
theorem dX6_comeIntoForce_1 : decode cX6_comeIntoForce 1 = .ok (.aload_n 0, 1) := by decide +kernel
theorem dX6_comeIntoForce_2 : decode cX6_comeIntoForce 2 = .ok (.getfield 126, 3) := by decide +kernel
theorem dX6_comeIntoForce_5 : decode cX6_comeIntoForce 5 = .ok (.putfield 198, 3) := by decide +kernel
theorem dX6_comeIntoForce_8 : decode cX6_comeIntoForce 8 = .ok (.aload_n 0, 1) := by decide +kernel
theorem dX6_comeIntoForce_9 : decode cX6_comeIntoForce 9 = .ok (.aconst_null, 1) := by decide +kernel
theorem dX6_comeIntoForce_10 : decode cX6_comeIntoForce 10 = .ok (.putfield 126, 3) := by decide +kernel
theorem dX6_comeIntoForce_13 : decode cX6_comeIntoForce 13 = .ok (.iconst 0, 1) := by decide +kernel
theorem dX6_comeIntoForce_14 : decode cX6_comeIntoForce 14 = .ok (.istore_n 1, 1) := by decide +kernel
theorem dX6_comeIntoForce_15 : decode cX6_comeIntoForce 15 = .ok (.iload_n 1, 1) := by decide +kernel
theorem dX6_comeIntoForce_16 : decode cX6_comeIntoForce 16 = .ok (.aload_n 0, 1) := by decide +kernel
theorem dX6_comeIntoForce_17 : decode cX6_comeIntoForce 17 = .ok (.invokevirtual 213, 3) := by decide +kernel
theorem dX6_comeIntoForce_20 : decode cX6_comeIntoForce 20 = .ok (.if_icmp .ge 27, 3) := by decide +kernel
theorem dX6_comeIntoForce_23 : decode cX6_comeIntoForce 23 = .ok (.aload_n 0, 1) := by decide +kernel
theorem dX6_comeIntoForce_24 : decode cX6_comeIntoForce 24 = .ok (.getfield 28, 3) := by decide +kernel
theorem dX6_comeIntoForce_27 : decode cX6_comeIntoForce 27 = .ok (.iload_n 1, 1) := by decide +kernel
theorem dX6_comeIntoForce_28 : decode cX6_comeIntoForce 28 = .ok (.aaload, 1) := by decide +kernel
theorem dX6_comeIntoForce_29 : decode cX6_comeIntoForce 29 = .ok (.aload_n 0, 1) := by decide +kernel
theorem dX6_comeIntoForce_30 : decode cX6_comeIntoForce 30 = .ok (.getfield 198, 3) := by decide +kernel
theorem dX6_comeIntoForce_33 : decode cX6_comeIntoForce 33 = .ok (.getfield 108, 3) := by decide +kernel
theorem dX6_comeIntoForce_36 : decode cX6_comeIntoForce 36 = .ok (.iload_n 1, 1) := by decide +kernel
theorem dX6_comeIntoForce_37 : decode cX6_comeIntoForce 37 = .ok (.aaload, 1) := by decide +kernel
theorem dX6_comeIntoForce_38 : decode cX6_comeIntoForce 38 = .ok (.invokevirtual 242, 3) := by decide +kernel
theorem dX6_comeIntoForce_41 : decode cX6_comeIntoForce 41 = .ok (.iinc 1 1, 3) := by decide +kernel
theorem dX6_comeIntoForce_44 : decode cX6_comeIntoForce 44 = .ok (.goto (-29), 3) := by decide +kernel
theorem dX6_comeIntoForce_47 : decode cX6_comeIntoForce 47 = .ok (.return_, 1) := by decide +kernel
theorem dX6_beginWaiting_0 : decode cX6_beginWaiting 0 = .ok (.aload_n 0, 1) := by decide +kernel
theorem dX6_beginWaiting_1 : decode cX6_beginWaiting 1 = .ok (.getfield 34, 3) := by decide +kernel
theorem dX6_beginWaiting_4 : decode cX6_beginWaiting 4 = .ok (.iload_n 1, 1) := by decide +kernel
theorem dX6_beginWaiting_5 : decode cX6_beginWaiting 5 = .ok (.aaload, 1) := by decide +kernel
theorem dX6_beginWaiting_6 : decode cX6_beginWaiting 6 = .ok (.astore_n 2, 1) := by decide +kernel
theorem dX6_beginWaiting_7 : decode cX6_beginWaiting 7 = .ok (.aload_n 2, 1) := by decide +kernel
theorem dX6_beginWaiting_8 : decode cX6_beginWaiting 8 = .ok (.invokevirtual 246, 3) := by decide +kernel
theorem dX6_beginWaiting_11 : decode cX6_beginWaiting 11 = .ok (.ifCond .eq 35, 3) := by decide +kernel
theorem dX6_beginWaiting_14 : decode cX6_beginWaiting 14 = .ok (.aload_n 0, 1) := by decide +kernel
theorem dX6_beginWaiting_15 : decode cX6_beginWaiting 15 = .ok (.getfield 198, 3) := by decide +kernel
theorem dX6_beginWaiting_18 : decode cX6_beginWaiting 18 = .ok (.ifnull 24, 3) := by decide +kernel
theorem dX6_beginWaiting_21 : decode cX6_beginWaiting 21 = .ok (.aload_n 0, 1) := by decide +kernel
theorem dX6_beginWaiting_22 : decode cX6_beginWaiting 22 = .ok (.getfield 198, 3) := by decide +kernel
theorem dX6_beginWaiting_25 : decode cX6_beginWaiting 25 = .ok (.iload_n 1, 1) := by decide +kernel
theorem dX6_beginWaiting_26 : decode cX6_beginWaiting 26 = .ok (.aload_n 0, 1) := by decide +kernel
theorem dX6_beginWaiting_27 : decode cX6_beginWaiting 27 = .ok (.getfield 134, 3) := by decide +kernel
theorem dX6_beginWaiting_30 : decode cX6_beginWaiting 30 = .ok (.aload_n 2, 1) := by decide +kernel
theorem dX6_beginWaiting_31 : decode cX6_beginWaiting 31 = .ok (.getfield 249, 3) := by decide +kernel
theorem dX6_beginWaiting_34 : decode cX6_beginWaiting 34 = .ok (.iconst 0, 1) := by decide +kernel
theorem dX6_beginWaiting_35 : decode cX6_beginWaiting 35 = .ok (.iaload, 1) := by decide +kernel
theorem dX6_beginWaiting_36 : decode cX6_beginWaiting 36 = .ok (.invokevirtual 252, 3) := by decide +kernel
theorem dX6_beginWaiting_39 : decode cX6_beginWaiting 39 = .ok (.ifCond .eq 7, 3) := by decide +kernel
theorem dX6_beginWaiting_42 : decode cX6_beginWaiting 42 = .ok (.aload_n 2, 1) := by decide +kernel
theorem dX6_beginWaiting_43 : decode cX6_beginWaiting 43 = .ok (.invokevirtual 255, 3) := by decide +kernel
theorem dX6_beginWaiting_46 : decode cX6_beginWaiting 46 = .ok (.return_, 1) := by decide +kernel
theorem dX6_loseAllOn_0 : decode cX6_loseAllOn 0 = .ok (.iconst 0, 1) := by decide +kernel
theorem dX6_loseAllOn_1 : decode cX6_loseAllOn 1 = .ok (.istore_n 2, 1) := by decide +kernel
theorem dX6_loseAllOn_2 : decode cX6_loseAllOn 2 = .ok (.iload_n 2, 1) := by decide +kernel
theorem dX6_loseAllOn_3 : decode cX6_loseAllOn 3 = .ok (.aload_n 0, 1) := by decide +kernel
theorem dX6_loseAllOn_4 : decode cX6_loseAllOn 4 = .ok (.invokevirtual 213, 3) := by decide +kernel
theorem dX6_loseAllOn_7 : decode cX6_loseAllOn 7 = .ok (.if_icmp .ge 23, 3) := by decide +kernel
theorem dX6_loseAllOn_10 : decode cX6_loseAllOn 10 = .ok (.aload_n 0, 1) := by decide +kernel
theorem dX6_loseAllOn_11 : decode cX6_loseAllOn 11 = .ok (.getfield 28, 3) := by decide +kernel
theorem dX6_loseAllOn_14 : decode cX6_loseAllOn 14 = .ok (.iload_n 2, 1) := by decide +kernel
theorem dX6_loseAllOn_15 : decode cX6_loseAllOn 15 = .ok (.aaload, 1) := by decide +kernel
theorem dX6_loseAllOn_16 : decode cX6_loseAllOn 16 = .ok (.iload_n 1, 1) := by decide +kernel
theorem dX6_loseAllOn_17 : decode cX6_loseAllOn 17 = .ok (.aload_n 0, 1) := by decide +kernel
theorem dX6_loseAllOn_18 : decode cX6_loseAllOn 18 = .ok (.getfield 134, 3) := by decide +kernel
theorem dX6_loseAllOn_21 : decode cX6_loseAllOn 21 = .ok (.invokevirtual 258, 3) := by decide +kernel
theorem dX6_loseAllOn_24 : decode cX6_loseAllOn 24 = .ok (.iinc 2 1, 3) := by decide +kernel
theorem dX6_loseAllOn_27 : decode cX6_loseAllOn 27 = .ok (.goto (-25), 3) := by decide +kernel
theorem dX6_loseAllOn_30 : decode cX6_loseAllOn 30 = .ok (.aload_n 0, 1) := by decide +kernel
theorem dX6_loseAllOn_31 : decode cX6_loseAllOn 31 = .ok (.getfield 34, 3) := by decide +kernel
theorem dX6_loseAllOn_34 : decode cX6_loseAllOn 34 = .ok (.iload_n 1, 1) := by decide +kernel
theorem dX6_loseAllOn_35 : decode cX6_loseAllOn 35 = .ok (.aaload, 1) := by decide +kernel
theorem dX6_loseAllOn_36 : decode cX6_loseAllOn 36 = .ok (.iconst 0, 1) := by decide +kernel
theorem dX6_loseAllOn_37 : decode cX6_loseAllOn 37 = .ok (.putfield 239, 3) := by decide +kernel
theorem dX6_loseAllOn_40 : decode cX6_loseAllOn 40 = .ok (.return_, 1) := by decide +kernel
theorem dX6_whatIsOn_0 : decode cX6_whatIsOn 0 = .ok (.iconst 0, 1) := by decide +kernel
theorem dX6_whatIsOn_1 : decode cX6_whatIsOn 1 = .ok (.istore_n 2, 1) := by decide +kernel
theorem dX6_whatIsOn_2 : decode cX6_whatIsOn 2 = .ok (.iload_n 2, 1) := by decide +kernel
theorem dX6_whatIsOn_3 : decode cX6_whatIsOn 3 = .ok (.aload_n 0, 1) := by decide +kernel
theorem dX6_whatIsOn_4 : decode cX6_whatIsOn 4 = .ok (.invokevirtual 213, 3) := by decide +kernel
theorem dX6_whatIsOn_7 : decode cX6_whatIsOn 7 = .ok (.if_icmp .ge 28, 3) := by decide +kernel
theorem dX6_whatIsOn_10 : decode cX6_whatIsOn 10 = .ok (.aload_n 0, 1) := by decide +kernel
theorem dX6_whatIsOn_11 : decode cX6_whatIsOn 11 = .ok (.getfield 28, 3) := by decide +kernel
theorem dX6_whatIsOn_14 : decode cX6_whatIsOn 14 = .ok (.iload_n 2, 1) := by decide +kernel
theorem dX6_whatIsOn_15 : decode cX6_whatIsOn 15 = .ok (.aaload, 1) := by decide +kernel
theorem dX6_whatIsOn_16 : decode cX6_whatIsOn 16 = .ok (.iload_n 1, 1) := by decide +kernel
theorem dX6_whatIsOn_17 : decode cX6_whatIsOn 17 = .ok (.aload_n 0, 1) := by decide +kernel
theorem dX6_whatIsOn_18 : decode cX6_whatIsOn 18 = .ok (.getfield 134, 3) := by decide +kernel
theorem dX6_whatIsOn_21 : decode cX6_whatIsOn 21 = .ok (.invokevirtual 262, 3) := by decide +kernel
theorem dX6_whatIsOn_24 : decode cX6_whatIsOn 24 = .ok (.ifCond .eq 5, 3) := by decide +kernel
theorem dX6_whatIsOn_27 : decode cX6_whatIsOn 27 = .ok (.iload_n 2, 1) := by decide +kernel
theorem dX6_whatIsOn_28 : decode cX6_whatIsOn 28 = .ok (.ireturn, 1) := by decide +kernel
theorem dX6_whatIsOn_29 : decode cX6_whatIsOn 29 = .ok (.iinc 2 1, 3) := by decide +kernel
theorem dX6_whatIsOn_32 : decode cX6_whatIsOn 32 = .ok (.goto (-30), 3) := by decide +kernel
theorem dX6_whatIsOn_35 : decode cX6_whatIsOn 35 = .ok (.aload_n 0, 1) := by decide +kernel
theorem dX6_whatIsOn_36 : decode cX6_whatIsOn 36 = .ok (.getfield 34, 3) := by decide +kernel
theorem dX6_whatIsOn_39 : decode cX6_whatIsOn 39 = .ok (.iload_n 1, 1) := by decide +kernel
theorem dX6_whatIsOn_40 : decode cX6_whatIsOn 40 = .ok (.aaload, 1) := by decide +kernel
theorem dX6_whatIsOn_41 : decode cX6_whatIsOn 41 = .ok (.getfield 239, 3) := by decide +kernel
theorem dX6_whatIsOn_44 : decode cX6_whatIsOn 44 = .ok (.ifCond .le 7, 3) := by decide +kernel
theorem dX6_whatIsOn_47 : decode cX6_whatIsOn 47 = .ok (.iconst 5, 1) := by decide +kernel
theorem dX6_whatIsOn_48 : decode cX6_whatIsOn 48 = .ok (.goto 4, 3) := by decide +kernel
theorem dX6_whatIsOn_51 : decode cX6_whatIsOn 51 = .ok (.iconst (-1), 1) := by decide +kernel
theorem dX6_whatIsOn_52 : decode cX6_whatIsOn 52 = .ok (.ireturn, 1) := by decide +kernel
end
section
theorem dX7_init_0 : decode cX7_init 0 = .ok (.aload_n 0, 1) := by decide +kernel
theorem dX7_init_1 : decode cX7_init 1 = .ok (.invokespecial 1, 3) := by decide +kernel
theorem dX7_init_4 : decode cX7_init 4 = .ok (.aload_n 0, 1) := by decide +kernel
theorem dX7_init_5 : decode cX7_init 5 = .ok (.bipush 6, 2) := by decide +kernel
theorem dX7_init_7 : decode cX7_init 7 = .ok (.newarray .int, 2) := by decide +kernel
theorem dX7_init_9 : decode cX7_init 9 = .ok (.putfield 7, 3) := by decide +kernel
theorem dX7_init_12 : decode cX7_init 12 = .ok (.aload_n 0, 1) := by decide +kernel
theorem dX7_init_13 : decode cX7_init 13 = .ok (.iconst 5, 1) := by decide +kernel
theorem dX7_init_14 : decode cX7_init 14 = .ok (.newarray .int, 2) := by decide +kernel
theorem dX7_init_16 : decode cX7_init 16 = .ok (.putfield 13, 3) := by decide +kernel
theorem dX7_init_19 : decode cX7_init 19 = .ok (.aload_n 0, 1) := by decide +kernel
theorem dX7_init_20 : decode cX7_init 20 = .ok (.iconst 5, 1) := by decide +kernel
theorem dX7_init_21 : decode cX7_init 21 = .ok (.newarray .int, 2) := by decide +kernel
theorem dX7_init_23 : decode cX7_init 23 = .ok (.putfield 16, 3) := by decide +kernel
theorem dX7_init_26 : decode cX7_init 26 = .ok (.aload_n 0, 1) := by decide +kernel
theorem dX7_init_27 : decode cX7_init 27 = .ok (.iconst 5, 1) := by decide +kernel
theorem dX7_init_28 : decode cX7_init 28 = .ok (.newarray .int, 2) := by decide +kernel
theorem dX7_init_30 : decode cX7_init 30 = .ok (.putfield 19, 3) := by decide +kernel
theorem dX7_init_33 : decode cX7_init 33 = .ok (.aload_n 0, 1) := by decide +kernel
theorem dX7_init_34 : decode cX7_init 34 = .ok (.bipush 15, 2) := by decide +kernel
theorem dX7_init_36 : decode cX7_init 36 = .ok (.newarray .int, 2) := by decide +kernel
theorem dX7_init_38 : decode cX7_init 38 = .ok (.putfield 22, 3) := by decide +kernel
theorem dX7_init_41 : decode cX7_init 41 = .ok (.aload_n 0, 1) := by decide +kernel
theorem dX7_init_42 : decode cX7_init 42 = .ok (.iconst 3, 1) := by decide +kernel
theorem dX7_init_43 : decode cX7_init 43 = .ok (.newarray .int, 2) := by decide +kernel
theorem dX7_init_45 : decode cX7_init 45 = .ok (.dup, 1) := by decide +kernel
theorem dX7_init_46 : decode cX7_init 46 = .ok (.iconst 0, 1) := by decide +kernel
theorem dX7_init_47 : decode cX7_init 47 = .ok (.iconst (-1), 1) := by decide +kernel
theorem dX7_init_48 : decode cX7_init 48 = .ok (.iastore, 1) := by decide +kernel
theorem dX7_init_49 : decode cX7_init 49 = .ok (.dup, 1) := by decide +kernel
theorem dX7_init_50 : decode cX7_init 50 = .ok (.iconst 1, 1) := by decide +kernel
theorem dX7_init_51 : decode cX7_init 51 = .ok (.iconst (-1), 1) := by decide +kernel
theorem dX7_init_52 : decode cX7_init 52 = .ok (.iastore, 1) := by decide +kernel
theorem dX7_init_53 : decode cX7_init 53 = .ok (.dup, 1) := by decide +kernel
theorem dX7_init_54 : decode cX7_init 54 = .ok (.iconst 2, 1) := by decide +kernel
theorem dX7_init_55 : decode cX7_init 55 = .ok (.iconst (-1), 1) := by decide +kernel
theorem dX7_init_56 : decode cX7_init 56 = .ok (.iastore, 1) := by decide +kernel
theorem dX7_init_57 : decode cX7_init 57 = .ok (.putfield 25, 3) := by decide +kernel
theorem dX7_init_60 : decode cX7_init 60 = .ok (.aload_n 0, 1) := by decide +kernel
theorem dX7_init_61 : decode cX7_init 61 = .ok (.bipush 15, 2) := by decide +kernel
theorem dX7_init_63 : decode cX7_init 63 = .ok (.newarray .int, 2) := by decide +kernel
theorem dX7_init_65 : decode cX7_init 65 = .ok (.putfield 28, 3) := by decide +kernel
theorem dX7_init_68 : decode cX7_init 68 = .ok (.aload_n 0, 1) := by decide +kernel
theorem dX7_init_69 : decode cX7_init 69 = .ok (.bipush 15, 2) := by decide +kernel
theorem dX7_init_71 : decode cX7_init 71 = .ok (.newarray .int, 2) := by decide +kernel
theorem dX7_init_73 : decode cX7_init 73 = .ok (.putfield 31, 3) := by decide +kernel
theorem dX7_init_76 : decode cX7_init 76 = .ok (.aload_n 0, 1) := by decide +kernel
theorem dX7_init_77 : decode cX7_init 77 = .ok (.bipush 15, 2) := by decide +kernel
theorem dX7_init_79 : decode cX7_init 79 = .ok (.newarray .int, 2) := by decide +kernel
theorem dX7_init_81 : decode cX7_init 81 = .ok (.putfield 34, 3) := by decide +kernel
theorem dX7_init_84 : decode cX7_init 84 = .ok (.aload_n 0, 1) := by decide +kernel
theorem dX7_init_85 : decode cX7_init 85 = .ok (.bipush 45, 2) := by decide +kernel
theorem dX7_init_87 : decode cX7_init 87 = .ok (.newarray .int, 2) := by decide +kernel
theorem dX7_init_89 : decode cX7_init 89 = .ok (.putfield 37, 3) := by decide +kernel
theorem dX7_init_92 : decode cX7_init 92 = .ok (.aload_n 0, 1) := by decide +kernel
theorem dX7_init_93 : decode cX7_init 93 = .ok (.bipush 45, 2) := by decide +kernel
theorem dX7_init_95 : decode cX7_init 95 = .ok (.newarray .int, 2) := by decide +kernel
theorem dX7_init_97 : decode cX7_init 97 = .ok (.putfield 40, 3) := by decide +kernel
theorem dX7_init_100 : decode cX7_init 100 = .ok (.aload_n 0, 1) := by decide +kernel
theorem dX7_init_101 : decode cX7_init 101 = .ok (.iconst 5, 1) := by decide +kernel
theorem dX7_init_102 : decode cX7_init 102 = .ok (.newarray .int, 2) := by decide +kernel
theorem dX7_init_104 : decode cX7_init 104 = .ok (.putfield 43, 3) := by decide +kernel
theorem dX7_init_107 : decode cX7_init 107 = .ok (.aload_n 0, 1) := by decide +kernel
theorem dX7_init_108 : decode cX7_init 108 = .ok (.iconst 5, 1) := by decide +kernel
theorem dX7_init_109 : decode cX7_init 109 = .ok (.newarray .boolean, 2) := by decide +kernel
theorem dX7_init_111 : decode cX7_init 111 = .ok (.putfield 46, 3) := by decide +kernel
theorem dX7_init_114 : decode cX7_init 114 = .ok (.aload_n 0, 1) := by decide +kernel
theorem dX7_init_115 : decode cX7_init 115 = .ok (.iconst 5, 1) := by decide +kernel
theorem dX7_init_116 : decode cX7_init 116 = .ok (.newarray .int, 2) := by decide +kernel
theorem dX7_init_118 : decode cX7_init 118 = .ok (.putfield 50, 3) := by decide +kernel
theorem dX7_init_121 : decode cX7_init 121 = .ok (.aload_n 0, 1) := by decide +kernel
theorem dX7_init_122 : decode cX7_init 122 = .ok (.iconst 5, 1) := by decide +kernel
theorem dX7_init_123 : decode cX7_init 123 = .ok (.newarray .boolean, 2) := by decide +kernel
theorem dX7_init_125 : decode cX7_init 125 = .ok (.putfield 53, 3) := by decide +kernel
theorem dX7_init_128 : decode cX7_init 128 = .ok (.aload_n 0, 1) := by decide +kernel
theorem dX7_init_129 : decode cX7_init 129 = .ok (.iconst 5, 1) := by decide +kernel
theorem dX7_init_130 : decode cX7_init 130 = .ok (.newarray .int, 2) := by decide +kernel
theorem dX7_init_132 : decode cX7_init 132 = .ok (.putfield 56, 3) := by decide +kernel
theorem dX7_init_135 : decode cX7_init 135 = .ok (.aload_n 0, 1) := by decide +kernel
theorem dX7_init_136 : decode cX7_init 136 = .ok (.iconst 5, 1) := by decide +kernel
theorem dX7_init_137 : decode cX7_init 137 = .ok (.newarray .int, 2) := by decide +kernel
theorem dX7_init_139 : decode cX7_init 139 = .ok (.putfield 59, 3) := by decide +kernel
theorem dX7_init_142 : decode cX7_init 142 = .ok (.aload_n 0, 1) := by decide +kernel
theorem dX7_init_143 : decode cX7_init 143 = .ok (.iconst 5, 1) := by decide +kernel
theorem dX7_init_144 : decode cX7_init 144 = .ok (.newarray .int, 2) := by decide +kernel
theorem dX7_init_146 : decode cX7_init 146 = .ok (.putfield 62, 3) := by decide +kernel
theorem dX7_init_149 : decode cX7_init 149 = .ok (.aload_n 0, 1) := by decide +kernel
theorem dX7_init_150 : decode cX7_init 150 = .ok (.iconst 5, 1) := by decide +kernel
theorem dX7_init_151 : decode cX7_init 151 = .ok (.newarray .int, 2) := by decide +kernel
theorem dX7_init_153 : decode cX7_init 153 = .ok (.putfield 65, 3) := by decide +kernel
theorem dX7_init_156 : decode cX7_init 156 = .ok (.aload_n 0, 1) := by decide +kernel
theorem dX7_init_157 : decode cX7_init 157 = .ok (.bipush 64, 2) := by decide +kernel
theorem dX7_init_159 : decode cX7_init 159 = .ok (.newarray .int, 2) := by decide +kernel
theorem dX7_init_161 : decode cX7_init 161 = .ok (.putfield 68, 3) := by decide +kernel
theorem dX7_init_164 : decode cX7_init 164 = .ok (.aload_n 0, 1) := by decide +kernel
theorem dX7_init_165 : decode cX7_init 165 = .ok (.bipush 64, 2) := by decide +kernel
theorem dX7_init_167 : decode cX7_init 167 = .ok (.newarray .int, 2) := by decide +kernel
theorem dX7_init_169 : decode cX7_init 169 = .ok (.putfield 71, 3) := by decide +kernel
theorem dX7_init_172 : decode cX7_init 172 = .ok (.aload_n 0, 1) := by decide +kernel
theorem dX7_init_173 : decode cX7_init 173 = .ok (.bipush 6, 2) := by decide +kernel
theorem dX7_init_175 : decode cX7_init 175 = .ok (.newarray .boolean, 2) := by decide +kernel
theorem dX7_init_177 : decode cX7_init 177 = .ok (.putfield 74, 3) := by decide +kernel
theorem dX7_init_180 : decode cX7_init 180 = .ok (.aload_n 0, 1) := by decide +kernel
theorem dX7_init_181 : decode cX7_init 181 = .ok (.bipush 6, 2) := by decide +kernel
theorem dX7_init_183 : decode cX7_init 183 = .ok (.newarray .int, 2) := by decide +kernel
theorem dX7_init_185 : decode cX7_init 185 = .ok (.putfield 77, 3) := by decide +kernel
theorem dX7_init_188 : decode cX7_init 188 = .ok (.aload_n 0, 1) := by decide +kernel
theorem dX7_init_189 : decode cX7_init 189 = .ok (.bipush 24, 2) := by decide +kernel
theorem dX7_init_191 : decode cX7_init 191 = .ok (.newarray .int, 2) := by decide +kernel
theorem dX7_init_193 : decode cX7_init 193 = .ok (.putfield 80, 3) := by decide +kernel
theorem dX7_init_196 : decode cX7_init 196 = .ok (.aload_n 0, 1) := by decide +kernel
theorem dX7_init_197 : decode cX7_init 197 = .ok (.bipush 6, 2) := by decide +kernel
theorem dX7_init_199 : decode cX7_init 199 = .ok (.newarray .int, 2) := by decide +kernel
theorem dX7_init_201 : decode cX7_init 201 = .ok (.putfield 83, 3) := by decide +kernel
theorem dX7_init_204 : decode cX7_init 204 = .ok (.aload_n 0, 1) := by decide +kernel
theorem dX7_init_205 : decode cX7_init 205 = .ok (.bipush 6, 2) := by decide +kernel
theorem dX7_init_207 : decode cX7_init 207 = .ok (.newarray .int, 2) := by decide +kernel
theorem dX7_init_209 : decode cX7_init 209 = .ok (.putfield 86, 3) := by decide +kernel
theorem dX7_init_212 : decode cX7_init 212 = .ok (.return_, 1) := by decide +kernel
theorem dX7_thrown_0 : decode cX7_thrown 0 = .ok (.aload_n 0, 1) := by decide +kernel
theorem dX7_thrown_1 : decode cX7_thrown 1 = .ok (.getfield 89, 3) := by decide +kernel
theorem dX7_thrown_4 : decode cX7_thrown 4 = .ok (.ireturn, 1) := by decide +kernel
theorem dX7_isLink_0 : decode cX7_isLink 0 = .ok (.iload_n 0, 1) := by decide +kernel
theorem dX7_isLink_1 : decode cX7_isLink 1 = .ok (.ifCond .lt 13, 3) := by decide +kernel
theorem dX7_isLink_4 : decode cX7_isLink 4 = .ok (.iload_n 0, 1) := by decide +kernel
theorem dX7_isLink_5 : decode cX7_isLink 5 = .ok (.bipush 6, 2) := by decide +kernel
theorem dX7_isLink_7 : decode cX7_isLink 7 = .ok (.if_icmp .ge 7, 3) := by decide +kernel
theorem dX7_isLink_10 : decode cX7_isLink 10 = .ok (.iconst 1, 1) := by decide +kernel
theorem dX7_isLink_11 : decode cX7_isLink 11 = .ok (.goto 4, 3) := by decide +kernel
theorem dX7_isLink_14 : decode cX7_isLink 14 = .ok (.iconst 0, 1) := by decide +kernel
theorem dX7_isLink_15 : decode cX7_isLink 15 = .ok (.ireturn, 1) := by decide +kernel
theorem dX7_delay_0 : decode cX7_delay 0 = .ok (.aload_n 0, 1) := by decide +kernel
theorem dX7_delay_1 : decode cX7_delay 1 = .ok (.iload_n 1, 1) := by decide +kernel
theorem dX7_delay_2 : decode cX7_delay 2 = .ok (.invokestatic 93, 3) := by decide +kernel
theorem dX7_delay_5 : decode cX7_delay 5 = .ok (.ifCond .ne 7, 3) := by decide +kernel
theorem dX7_delay_8 : decode cX7_delay 8 = .ok (.iconst 1, 1) := by decide +kernel
theorem dX7_delay_9 : decode cX7_delay 9 = .ok (.goto 18, 3) := by decide +kernel
theorem dX7_delay_12 : decode cX7_delay 12 = .ok (.iload_n 2, 1) := by decide +kernel
theorem dX7_delay_13 : decode cX7_delay 13 = .ok (.ifCond .lt 9, 3) := by decide +kernel
theorem dX7_delay_16 : decode cX7_delay 16 = .ok (.iload_n 2, 1) := by decide +kernel
theorem dX7_delay_17 : decode cX7_delay 17 = .ok (.bipush 9, 2) := by decide +kernel
theorem dX7_delay_19 : decode cX7_delay 19 = .ok (.if_icmp .le 7, 3) := by decide +kernel
theorem dX7_delay_22 : decode cX7_delay 22 = .ok (.iconst 2, 1) := by decide +kernel
theorem dX7_delay_23 : decode cX7_delay 23 = .ok (.goto 4, 3) := by decide +kernel
theorem dX7_delay_26 : decode cX7_delay 26 = .ok (.iconst 0, 1) := by decide +kernel
theorem dX7_delay_27 : decode cX7_delay 27 = .ok (.putfield 89, 3) := by decide +kernel
theorem dX7_delay_30 : decode cX7_delay 30 = .ok (.aload_n 0, 1) := by decide +kernel
theorem dX7_delay_31 : decode cX7_delay 31 = .ok (.getfield 89, 3) := by decide +kernel
theorem dX7_delay_34 : decode cX7_delay 34 = .ok (.ifCond .ne 10, 3) := by decide +kernel
theorem dX7_delay_37 : decode cX7_delay 37 = .ok (.aload_n 0, 1) := by decide +kernel
theorem dX7_delay_38 : decode cX7_delay 38 = .ok (.getfield 7, 3) := by decide +kernel
theorem dX7_delay_41 : decode cX7_delay 41 = .ok (.iload_n 1, 1) := by decide +kernel
theorem dX7_delay_42 : decode cX7_delay 42 = .ok (.iload_n 2, 1) := by decide +kernel
theorem dX7_delay_43 : decode cX7_delay 43 = .ok (.iastore, 1) := by decide +kernel
theorem dX7_delay_44 : decode cX7_delay 44 = .ok (.return_, 1) := by decide +kernel
theorem dX7_stream_0 : decode cX7_stream 0 = .ok (.iload 4, 2) := by decide +kernel
theorem dX7_stream_2 : decode cX7_stream 2 = .ok (.invokestatic 93, 3) := by decide +kernel
theorem dX7_stream_5 : decode cX7_stream 5 = .ok (.ifCond .eq 35, 3) := by decide +kernel
theorem dX7_stream_8 : decode cX7_stream 8 = .ok (.iload 5, 2) := by decide +kernel
theorem dX7_stream_10 : decode cX7_stream 10 = .ok (.iconst (-1), 1) := by decide +kernel
theorem dX7_stream_11 : decode cX7_stream 11 = .ok (.if_icmp .eq 11, 3) := by decide +kernel
theorem dX7_stream_14 : decode cX7_stream 14 = .ok (.iload 5, 2) := by decide +kernel
theorem dX7_stream_16 : decode cX7_stream 16 = .ok (.invokestatic 93, 3) := by decide +kernel
theorem dX7_stream_19 : decode cX7_stream 19 = .ok (.ifCond .eq 21, 3) := by decide +kernel
theorem dX7_stream_22 : decode cX7_stream 22 = .ok (.iload 6, 2) := by decide +kernel
theorem dX7_stream_24 : decode cX7_stream 24 = .ok (.iconst (-1), 1) := by decide +kernel
theorem dX7_stream_25 : decode cX7_stream 25 = .ok (.if_icmp .eq 11, 3) := by decide +kernel
theorem dX7_stream_28 : decode cX7_stream 28 = .ok (.iload 6, 2) := by decide +kernel
theorem dX7_stream_30 : decode cX7_stream 30 = .ok (.invokestatic 93, 3) := by decide +kernel
theorem dX7_stream_33 : decode cX7_stream 33 = .ok (.ifCond .eq 7, 3) := by decide +kernel
theorem dX7_stream_36 : decode cX7_stream 36 = .ok (.iconst 1, 1) := by decide +kernel
theorem dX7_stream_37 : decode cX7_stream 37 = .ok (.goto 4, 3) := by decide +kernel
theorem dX7_stream_40 : decode cX7_stream 40 = .ok (.iconst 0, 1) := by decide +kernel
theorem dX7_stream_41 : decode cX7_stream 41 = .ok (.istore 7, 2) := by decide +kernel
theorem dX7_stream_43 : decode cX7_stream 43 = .ok (.iload 4, 2) := by decide +kernel
theorem dX7_stream_45 : decode cX7_stream 45 = .ok (.iload 5, 2) := by decide +kernel
theorem dX7_stream_47 : decode cX7_stream 47 = .ok (.if_icmp .eq 27, 3) := by decide +kernel
theorem dX7_stream_50 : decode cX7_stream 50 = .ok (.iload 4, 2) := by decide +kernel
theorem dX7_stream_52 : decode cX7_stream 52 = .ok (.iload 6, 2) := by decide +kernel
theorem dX7_stream_54 : decode cX7_stream 54 = .ok (.if_icmp .eq 20, 3) := by decide +kernel
theorem dX7_stream_57 : decode cX7_stream 57 = .ok (.iload 5, 2) := by decide +kernel
theorem dX7_stream_59 : decode cX7_stream 59 = .ok (.iload 6, 2) := by decide +kernel
theorem dX7_stream_61 : decode cX7_stream 61 = .ok (.if_icmp .ne 9, 3) := by decide +kernel
theorem dX7_stream_64 : decode cX7_stream 64 = .ok (.iload 5, 2) := by decide +kernel
theorem dX7_stream_66 : decode cX7_stream 66 = .ok (.iconst (-1), 1) := by decide +kernel
theorem dX7_stream_67 : decode cX7_stream 67 = .ok (.if_icmp .ne 7, 3) := by decide +kernel
theorem dX7_stream_70 : decode cX7_stream 70 = .ok (.iconst 1, 1) := by decide +kernel
theorem dX7_stream_71 : decode cX7_stream 71 = .ok (.goto 4, 3) := by decide +kernel
theorem dX7_stream_74 : decode cX7_stream 74 = .ok (.iconst 0, 1) := by decide +kernel
theorem dX7_stream_75 : decode cX7_stream 75 = .ok (.istore 8, 2) := by decide +kernel
theorem dX7_stream_77 : decode cX7_stream 77 = .ok (.iload 8, 2) := by decide +kernel
theorem dX7_stream_79 : decode cX7_stream 79 = .ok (.ifCond .eq 56, 3) := by decide +kernel
theorem dX7_stream_82 : decode cX7_stream 82 = .ok (.iload 5, 2) := by decide +kernel
theorem dX7_stream_84 : decode cX7_stream 84 = .ok (.iconst (-1), 1) := by decide +kernel
theorem dX7_stream_85 : decode cX7_stream 85 = .ok (.if_icmp .ne 9, 3) := by decide +kernel
theorem dX7_stream_88 : decode cX7_stream 88 = .ok (.iload 6, 2) := by decide +kernel
theorem dX7_stream_90 : decode cX7_stream 90 = .ok (.iconst (-1), 1) := by decide +kernel
theorem dX7_stream_91 : decode cX7_stream 91 = .ok (.if_icmp .ne 44, 3) := by decide +kernel
theorem dX7_stream_94 : decode cX7_stream 94 = .ok (.iload_n 1, 1) := by decide +kernel
theorem dX7_stream_95 : decode cX7_stream 95 = .ok (.bipush 8, 2) := by decide +kernel
theorem dX7_stream_97 : decode cX7_stream 97 = .ok (.if_icmp .eq 15, 3) := by decide +kernel
theorem dX7_stream_100 : decode cX7_stream 100 = .ok (.iload_n 1, 1) := by decide +kernel
theorem dX7_stream_101 : decode cX7_stream 101 = .ok (.bipush 16, 2) := by decide +kernel
theorem dX7_stream_103 : decode cX7_stream 103 = .ok (.if_icmp .eq 9, 3) := by decide +kernel
theorem dX7_stream_106 : decode cX7_stream 106 = .ok (.iload_n 1, 1) := by decide +kernel
theorem dX7_stream_107 : decode cX7_stream 107 = .ok (.bipush 32, 2) := by decide +kernel
theorem dX7_stream_109 : decode cX7_stream 109 = .ok (.if_icmp .ne 26, 3) := by decide +kernel
theorem dX7_stream_112 : decode cX7_stream 112 = .ok (.iload_n 2, 1) := by decide +kernel
theorem dX7_stream_113 : decode cX7_stream 113 = .ok (.ifCond .le 22, 3) := by decide +kernel
theorem dX7_stream_116 : decode cX7_stream 116 = .ok (.iload_n 2, 1) := by decide +kernel
theorem dX7_stream_117 : decode cX7_stream 117 = .ok (.iconst 5, 1) := by decide +kernel
theorem dX7_stream_118 : decode cX7_stream 118 = .ok (.if_icmp .ge 17, 3) := by decide +kernel
theorem dX7_stream_121 : decode cX7_stream 121 = .ok (.iload_n 3, 1) := by decide +kernel
theorem dX7_stream_122 : decode cX7_stream 122 = .ok (.ifCond .le 13, 3) := by decide +kernel
theorem dX7_stream_125 : decode cX7_stream 125 = .ok (.iload_n 3, 1) := by decide +kernel
theorem dX7_stream_126 : decode cX7_stream 126 = .ok (.bipush 61, 2) := by decide +kernel
theorem dX7_stream_128 : decode cX7_stream 128 = .ok (.if_icmp .ge 7, 3) := by decide +kernel
theorem dX7_stream_131 : decode cX7_stream 131 = .ok (.iconst 1, 1) := by decide +kernel
theorem dX7_stream_132 : decode cX7_stream 132 = .ok (.goto 4, 3) := by decide +kernel
theorem dX7_stream_135 : decode cX7_stream 135 = .ok (.iconst 0, 1) := by decide +kernel
theorem dX7_stream_136 : decode cX7_stream 136 = .ok (.istore 9, 2) := by decide +kernel
theorem dX7_stream_138 : decode cX7_stream 138 = .ok (.aload_n 0, 1) := by decide +kernel
theorem dX7_stream_139 : decode cX7_stream 139 = .ok (.iload 7, 2) := by decide +kernel
theorem dX7_stream_141 : decode cX7_stream 141 = .ok (.ifCond .ne 7, 3) := by decide +kernel
theorem dX7_stream_144 : decode cX7_stream 144 = .ok (.iconst 1, 1) := by decide +kernel
theorem dX7_stream_145 : decode cX7_stream 145 = .ok (.goto 25, 3) := by decide +kernel
theorem dX7_stream_148 : decode cX7_stream 148 = .ok (.iload 9, 2) := by decide +kernel
theorem dX7_stream_150 : decode cX7_stream 150 = .ok (.ifCond .ne 7, 3) := by decide +kernel
theorem dX7_stream_153 : decode cX7_stream 153 = .ok (.iconst 2, 1) := by decide +kernel
theorem dX7_stream_154 : decode cX7_stream 154 = .ok (.goto 16, 3) := by decide +kernel
theorem dX7_stream_157 : decode cX7_stream 157 = .ok (.aload_n 0, 1) := by decide +kernel
theorem dX7_stream_158 : decode cX7_stream 158 = .ok (.getfield 97, 3) := by decide +kernel
theorem dX7_stream_161 : decode cX7_stream 161 = .ok (.iconst 5, 1) := by decide +kernel
theorem dX7_stream_162 : decode cX7_stream 162 = .ok (.if_icmp .ne 7, 3) := by decide +kernel
theorem dX7_stream_165 : decode cX7_stream 165 = .ok (.iconst 3, 1) := by decide +kernel
theorem dX7_stream_166 : decode cX7_stream 166 = .ok (.goto 4, 3) := by decide +kernel
theorem dX7_stream_169 : decode cX7_stream 169 = .ok (.iconst 0, 1) := by decide +kernel
theorem dX7_stream_170 : decode cX7_stream 170 = .ok (.putfield 89, 3) := by decide +kernel
theorem dX7_stream_173 : decode cX7_stream 173 = .ok (.aload_n 0, 1) := by decide +kernel
theorem dX7_stream_174 : decode cX7_stream 174 = .ok (.getfield 89, 3) := by decide +kernel
theorem dX7_stream_177 : decode cX7_stream 177 = .ok (.ifCond .le 5, 3) := by decide +kernel
theorem dX7_stream_180 : decode cX7_stream 180 = .ok (.iconst 0, 1) := by decide +kernel
theorem dX7_stream_181 : decode cX7_stream 181 = .ok (.ireturn, 1) := by decide +kernel
theorem dX7_stream_182 : decode cX7_stream 182 = .ok (.aload_n 0, 1) := by decide +kernel
theorem dX7_stream_183 : decode cX7_stream 183 = .ok (.getfield 13, 3) := by decide +kernel
theorem dX7_stream_186 : decode cX7_stream 186 = .ok (.aload_n 0, 1) := by decide +kernel
theorem dX7_stream_187 : decode cX7_stream 187 = .ok (.getfield 97, 3) := by decide +kernel
theorem dX7_stream_190 : decode cX7_stream 190 = .ok (.iload_n 1, 1) := by decide +kernel
theorem dX7_stream_191 : decode cX7_stream 191 = .ok (.iastore, 1) := by decide +kernel
theorem dX7_stream_192 : decode cX7_stream 192 = .ok (.aload_n 0, 1) := by decide +kernel
theorem dX7_stream_193 : decode cX7_stream 193 = .ok (.getfield 16, 3) := by decide +kernel
theorem dX7_stream_196 : decode cX7_stream 196 = .ok (.aload_n 0, 1) := by decide +kernel
theorem dX7_stream_197 : decode cX7_stream 197 = .ok (.getfield 97, 3) := by decide +kernel
theorem dX7_stream_200 : decode cX7_stream 200 = .ok (.iload_n 2, 1) := by decide +kernel
theorem dX7_stream_201 : decode cX7_stream 201 = .ok (.iastore, 1) := by decide +kernel
theorem dX7_stream_202 : decode cX7_stream 202 = .ok (.aload_n 0, 1) := by decide +kernel
theorem dX7_stream_203 : decode cX7_stream 203 = .ok (.getfield 19, 3) := by decide +kernel
theorem dX7_stream_206 : decode cX7_stream 206 = .ok (.aload_n 0, 1) := by decide +kernel
theorem dX7_stream_207 : decode cX7_stream 207 = .ok (.getfield 97, 3) := by decide +kernel
theorem dX7_stream_210 : decode cX7_stream 210 = .ok (.iload_n 3, 1) := by decide +kernel
theorem dX7_stream_211 : decode cX7_stream 211 = .ok (.iastore, 1) := by decide +kernel
theorem dX7_stream_212 : decode cX7_stream 212 = .ok (.aload_n 0, 1) := by decide +kernel
theorem dX7_stream_213 : decode cX7_stream 213 = .ok (.getfield 22, 3) := by decide +kernel
theorem dX7_stream_216 : decode cX7_stream 216 = .ok (.iconst 3, 1) := by decide +kernel
theorem dX7_stream_217 : decode cX7_stream 217 = .ok (.aload_n 0, 1) := by decide +kernel
theorem dX7_stream_218 : decode cX7_stream 218 = .ok (.getfield 97, 3) := by decide +kernel
theorem dX7_stream_221 : decode cX7_stream 221 = .ok (.imul, 1) := by decide +kernel
theorem dX7_stream_222 : decode cX7_stream 222 = .ok (.iload 4, 2) := by decide +kernel
theorem dX7_stream_224 : decode cX7_stream 224 = .ok (.iastore, 1) := by decide +kernel
theorem dX7_stream_225 : decode cX7_stream 225 = .ok (.aload_n 0, 1) := by decide +kernel
theorem dX7_stream_226 : decode cX7_stream 226 = .ok (.getfield 22, 3) := by decide +kernel
theorem dX7_stream_229 : decode cX7_stream 229 = .ok (.iconst 3, 1) := by decide +kernel
theorem dX7_stream_230 : decode cX7_stream 230 = .ok (.aload_n 0, 1) := by decide +kernel
theorem dX7_stream_231 : decode cX7_stream 231 = .ok (.getfield 97, 3) := by decide +kernel
theorem dX7_stream_234 : decode cX7_stream 234 = .ok (.imul, 1) := by decide +kernel
theorem dX7_stream_235 : decode cX7_stream 235 = .ok (.iconst 1, 1) := by decide +kernel
theorem dX7_stream_236 : decode cX7_stream 236 = .ok (.iadd, 1) := by decide +kernel
theorem dX7_stream_237 : decode cX7_stream 237 = .ok (.iload 5, 2) := by decide +kernel
theorem dX7_stream_239 : decode cX7_stream 239 = .ok (.iastore, 1) := by decide +kernel
theorem dX7_stream_240 : decode cX7_stream 240 = .ok (.aload_n 0, 1) := by decide +kernel
theorem dX7_stream_241 : decode cX7_stream 241 = .ok (.getfield 22, 3) := by decide +kernel
theorem dX7_stream_244 : decode cX7_stream 244 = .ok (.iconst 3, 1) := by decide +kernel
theorem dX7_stream_245 : decode cX7_stream 245 = .ok (.aload_n 0, 1) := by decide +kernel
theorem dX7_stream_246 : decode cX7_stream 246 = .ok (.getfield 97, 3) := by decide +kernel
theorem dX7_stream_249 : decode cX7_stream 249 = .ok (.imul, 1) := by decide +kernel
theorem dX7_stream_250 : decode cX7_stream 250 = .ok (.iconst 2, 1) := by decide +kernel
theorem dX7_stream_251 : decode cX7_stream 251 = .ok (.iadd, 1) := by decide +kernel
theorem dX7_stream_252 : decode cX7_stream 252 = .ok (.iload 6, 2) := by decide +kernel
theorem dX7_stream_254 : decode cX7_stream 254 = .ok (.iastore, 1) := by decide +kernel
theorem dX7_stream_255 : decode cX7_stream 255 = .ok (.aload_n 0, 1) := by decide +kernel
theorem dX7_stream_256 : decode cX7_stream 256 = .ok (.dup, 1) := by decide +kernel
theorem dX7_stream_257 : decode cX7_stream 257 = .ok (.getfield 97, 3) := by decide +kernel
theorem dX7_stream_260 : decode cX7_stream 260 = .ok (.iconst 1, 1) := by decide +kernel
theorem dX7_stream_261 : decode cX7_stream 261 = .ok (.iadd, 1) := by decide +kernel
theorem dX7_stream_262 : decode cX7_stream 262 = .ok (.putfield 97, 3) := by decide +kernel
theorem dX7_stream_265 : decode cX7_stream 265 = .ok (.aload_n 0, 1) := by decide +kernel
theorem dX7_stream_266 : decode cX7_stream 266 = .ok (.getfield 97, 3) := by decide +kernel
theorem dX7_stream_269 : decode cX7_stream 269 = .ok (.iconst 1, 1) := by decide +kernel
theorem dX7_stream_270 : decode cX7_stream 270 = .ok (.isub, 1) := by decide +kernel
theorem dX7_stream_271 : decode cX7_stream 271 = .ok (.ireturn, 1) := by decide +kernel
theorem dX7_clear_0 : decode cX7_clear 0 = .ok (.aload_n 0, 1) := by decide +kernel
theorem dX7_clear_1 : decode cX7_clear 1 = .ok (.iconst 0, 1) := by decide +kernel
theorem dX7_clear_2 : decode cX7_clear 2 = .ok (.putfield 89, 3) := by decide +kernel
theorem dX7_clear_5 : decode cX7_clear 5 = .ok (.aload_n 0, 1) := by decide +kernel
theorem dX7_clear_6 : decode cX7_clear 6 = .ok (.iconst 0, 1) := by decide +kernel
theorem dX7_clear_7 : decode cX7_clear 7 = .ok (.putfield 97, 3) := by decide +kernel
theorem dX7_clear_10 : decode cX7_clear 10 = .ok (.return_, 1) := by decide +kernel
theorem dX7_begins_0 : decode cX7_begins 0 = .ok (.iconst 0, 1) := by decide +kernel
theorem dX7_begins_1 : decode cX7_begins 1 = .ok (.istore_n 3, 1) := by decide +kernel
theorem dX7_begins_2 : decode cX7_begins 2 = .ok (.iconst 0, 1) := by decide +kernel
theorem dX7_begins_3 : decode cX7_begins 3 = .ok (.istore 4, 2) := by decide +kernel
theorem dX7_begins_5 : decode cX7_begins 5 = .ok (.iload 4, 2) := by decide +kernel
theorem dX7_begins_7 : decode cX7_begins 7 = .ok (.iload_n 2, 1) := by decide +kernel
theorem dX7_begins_8 : decode cX7_begins 8 = .ok (.if_icmp .ge 37, 3) := by decide +kernel
theorem dX7_begins_11 : decode cX7_begins 11 = .ok (.iload_n 3, 1) := by decide +kernel
theorem dX7_begins_12 : decode cX7_begins 12 = .ok (.aload_n 0, 1) := by decide +kernel
theorem dX7_begins_13 : decode cX7_begins 13 = .ok (.getfield 16, 3) := by decide +kernel
theorem dX7_begins_16 : decode cX7_begins 16 = .ok (.iload_n 1, 1) := by decide +kernel
theorem dX7_begins_17 : decode cX7_begins 17 = .ok (.iaload, 1) := by decide +kernel
theorem dX7_begins_18 : decode cX7_begins 18 = .ok (.iadd, 1) := by decide +kernel
theorem dX7_begins_19 : decode cX7_begins 19 = .ok (.aload_n 0, 1) := by decide +kernel
theorem dX7_begins_20 : decode cX7_begins 20 = .ok (.getfield 7, 3) := by decide +kernel
theorem dX7_begins_23 : decode cX7_begins 23 = .ok (.aload_n 0, 1) := by decide +kernel
theorem dX7_begins_24 : decode cX7_begins 24 = .ok (.getfield 22, 3) := by decide +kernel
theorem dX7_begins_27 : decode cX7_begins 27 = .ok (.iconst 3, 1) := by decide +kernel
theorem dX7_begins_28 : decode cX7_begins 28 = .ok (.iload_n 1, 1) := by decide +kernel
theorem dX7_begins_29 : decode cX7_begins 29 = .ok (.imul, 1) := by decide +kernel
theorem dX7_begins_30 : decode cX7_begins 30 = .ok (.iload 4, 2) := by decide +kernel
theorem dX7_begins_32 : decode cX7_begins 32 = .ok (.iadd, 1) := by decide +kernel
theorem dX7_begins_33 : decode cX7_begins 33 = .ok (.iaload, 1) := by decide +kernel
theorem dX7_begins_34 : decode cX7_begins 34 = .ok (.iaload, 1) := by decide +kernel
theorem dX7_begins_35 : decode cX7_begins 35 = .ok (.iadd, 1) := by decide +kernel
theorem dX7_begins_36 : decode cX7_begins 36 = .ok (.iconst 2, 1) := by decide +kernel
theorem dX7_begins_37 : decode cX7_begins 37 = .ok (.iadd, 1) := by decide +kernel
theorem dX7_begins_38 : decode cX7_begins 38 = .ok (.istore_n 3, 1) := by decide +kernel
theorem dX7_begins_39 : decode cX7_begins 39 = .ok (.iinc 4 1, 3) := by decide +kernel
theorem dX7_begins_42 : decode cX7_begins 42 = .ok (.goto (-37), 3) := by decide +kernel
theorem dX7_begins_45 : decode cX7_begins 45 = .ok (.iload_n 3, 1) := by decide +kernel
theorem dX7_begins_46 : decode cX7_begins 46 = .ok (.ireturn, 1) := by decide +kernel
theorem dX7_isOnTime_0 : decode cX7_isOnTime 0 = .ok (.aload_n 0, 1) := by decide +kernel
theorem dX7_isOnTime_1 : decode cX7_isOnTime 1 = .ok (.getfield 22, 3) := by decide +kernel
theorem dX7_isOnTime_4 : decode cX7_isOnTime 4 = .ok (.iconst 3, 1) := by decide +kernel
theorem dX7_isOnTime_5 : decode cX7_isOnTime 5 = .ok (.iload_n 1, 1) := by decide +kernel
theorem dX7_isOnTime_6 : decode cX7_isOnTime 6 = .ok (.imul, 1) := by decide +kernel
theorem dX7_isOnTime_7 : decode cX7_isOnTime 7 = .ok (.iconst 2, 1) := by decide +kernel
theorem dX7_isOnTime_8 : decode cX7_isOnTime 8 = .ok (.iadd, 1) := by decide +kernel
theorem dX7_isOnTime_9 : decode cX7_isOnTime 9 = .ok (.iaload, 1) := by decide +kernel
theorem dX7_isOnTime_10 : decode cX7_isOnTime 10 = .ok (.ifCond .lt 7, 3) := by decide +kernel
theorem dX7_isOnTime_13 : decode cX7_isOnTime 13 = .ok (.iconst 2, 1) := by decide +kernel
theorem dX7_isOnTime_14 : decode cX7_isOnTime 14 = .ok (.goto 21, 3) := by decide +kernel
theorem dX7_isOnTime_17 : decode cX7_isOnTime 17 = .ok (.aload_n 0, 1) := by decide +kernel
theorem dX7_isOnTime_18 : decode cX7_isOnTime 18 = .ok (.getfield 22, 3) := by decide +kernel
theorem dX7_isOnTime_21 : decode cX7_isOnTime 21 = .ok (.iconst 3, 1) := by decide +kernel
theorem dX7_isOnTime_22 : decode cX7_isOnTime 22 = .ok (.iload_n 1, 1) := by decide +kernel
theorem dX7_isOnTime_23 : decode cX7_isOnTime 23 = .ok (.imul, 1) := by decide +kernel
theorem dX7_isOnTime_24 : decode cX7_isOnTime 24 = .ok (.iconst 1, 1) := by decide +kernel
theorem dX7_isOnTime_25 : decode cX7_isOnTime 25 = .ok (.iadd, 1) := by decide +kernel
theorem dX7_isOnTime_26 : decode cX7_isOnTime 26 = .ok (.iaload, 1) := by decide +kernel
theorem dX7_isOnTime_27 : decode cX7_isOnTime 27 = .ok (.ifCond .lt 7, 3) := by decide +kernel
theorem dX7_isOnTime_30 : decode cX7_isOnTime 30 = .ok (.iconst 1, 1) := by decide +kernel
theorem dX7_isOnTime_31 : decode cX7_isOnTime 31 = .ok (.goto 4, 3) := by decide +kernel
theorem dX7_isOnTime_34 : decode cX7_isOnTime 34 = .ok (.iconst 0, 1) := by decide +kernel
theorem dX7_isOnTime_35 : decode cX7_isOnTime 35 = .ok (.istore_n 2, 1) := by decide +kernel
theorem dX7_isOnTime_36 : decode cX7_isOnTime 36 = .ok (.aload_n 0, 1) := by decide +kernel
theorem dX7_isOnTime_37 : decode cX7_isOnTime 37 = .ok (.iload_n 1, 1) := by decide +kernel
theorem dX7_isOnTime_38 : decode cX7_isOnTime 38 = .ok (.iload_n 2, 1) := by decide +kernel
theorem dX7_isOnTime_39 : decode cX7_isOnTime 39 = .ok (.invokevirtual 100, 3) := by decide +kernel
theorem dX7_isOnTime_42 : decode cX7_isOnTime 42 = .ok (.aload_n 0, 1) := by decide +kernel
theorem dX7_isOnTime_43 : decode cX7_isOnTime 43 = .ok (.getfield 16, 3) := by decide +kernel
theorem dX7_isOnTime_46 : decode cX7_isOnTime 46 = .ok (.iload_n 1, 1) := by decide +kernel
theorem dX7_isOnTime_47 : decode cX7_isOnTime 47 = .ok (.iaload, 1) := by decide +kernel
theorem dX7_isOnTime_48 : decode cX7_isOnTime 48 = .ok (.iadd, 1) := by decide +kernel
theorem dX7_isOnTime_49 : decode cX7_isOnTime 49 = .ok (.aload_n 0, 1) := by decide +kernel
theorem dX7_isOnTime_50 : decode cX7_isOnTime 50 = .ok (.getfield 7, 3) := by decide +kernel
theorem dX7_isOnTime_53 : decode cX7_isOnTime 53 = .ok (.aload_n 0, 1) := by decide +kernel
theorem dX7_isOnTime_54 : decode cX7_isOnTime 54 = .ok (.getfield 22, 3) := by decide +kernel
theorem dX7_isOnTime_57 : decode cX7_isOnTime 57 = .ok (.iconst 3, 1) := by decide +kernel
theorem dX7_isOnTime_58 : decode cX7_isOnTime 58 = .ok (.iload_n 1, 1) := by decide +kernel
theorem dX7_isOnTime_59 : decode cX7_isOnTime 59 = .ok (.imul, 1) := by decide +kernel
theorem dX7_isOnTime_60 : decode cX7_isOnTime 60 = .ok (.iload_n 2, 1) := by decide +kernel
theorem dX7_isOnTime_61 : decode cX7_isOnTime 61 = .ok (.iadd, 1) := by decide +kernel
theorem dX7_isOnTime_62 : decode cX7_isOnTime 62 = .ok (.iaload, 1) := by decide +kernel
theorem dX7_isOnTime_63 : decode cX7_isOnTime 63 = .ok (.iaload, 1) := by decide +kernel
theorem dX7_isOnTime_64 : decode cX7_isOnTime 64 = .ok (.iadd, 1) := by decide +kernel
theorem dX7_isOnTime_65 : decode cX7_isOnTime 65 = .ok (.aload_n 0, 1) := by decide +kernel
theorem dX7_isOnTime_66 : decode cX7_isOnTime 66 = .ok (.getfield 19, 3) := by decide +kernel
theorem dX7_isOnTime_69 : decode cX7_isOnTime 69 = .ok (.iload_n 1, 1) := by decide +kernel
theorem dX7_isOnTime_70 : decode cX7_isOnTime 70 = .ok (.iaload, 1) := by decide +kernel
theorem dX7_isOnTime_71 : decode cX7_isOnTime 71 = .ok (.if_icmp .gt 7, 3) := by decide +kernel
theorem dX7_isOnTime_74 : decode cX7_isOnTime 74 = .ok (.iconst 1, 1) := by decide +kernel
theorem dX7_isOnTime_75 : decode cX7_isOnTime 75 = .ok (.goto 4, 3) := by decide +kernel
theorem dX7_isOnTime_78 : decode cX7_isOnTime 78 = .ok (.iconst 0, 1) := by decide +kernel
theorem dX7_isOnTime_79 : decode cX7_isOnTime 79 = .ok (.ireturn, 1) := by decide +kernel
theorem dX7_modulo_0 : decode cX7_modulo 0 = .ok (.iload_n 0, 1) := by decide +kernel
theorem dX7_modulo_1 : decode cX7_modulo 1 = .ok (.iload_n 1, 1) := by decide +kernel
theorem dX7_modulo_2 : decode cX7_modulo 2 = .ok (.irem, 1) := by decide +kernel
theorem dX7_modulo_3 : decode cX7_modulo 3 = .ok (.iload_n 1, 1) := by decide +kernel
theorem dX7_modulo_4 : decode cX7_modulo 4 = .ok (.iadd, 1) := by decide +kernel
theorem dX7_modulo_5 : decode cX7_modulo 5 = .ok (.iload_n 1, 1) := by decide +kernel
theorem dX7_modulo_6 : decode cX7_modulo 6 = .ok (.irem, 1) := by decide +kernel
theorem dX7_modulo_7 : decode cX7_modulo 7 = .ok (.ireturn, 1) := by decide +kernel
theorem dX7_meet_0 : decode cX7_meet 0 = .ok (.iload_n 2, 1) := by decide +kernel
theorem dX7_meet_1 : decode cX7_meet 1 = .ok (.iload 5, 2) := by decide +kernel
theorem dX7_meet_3 : decode cX7_meet 3 = .ok (.if_icmp .ge 7, 3) := by decide +kernel
theorem dX7_meet_6 : decode cX7_meet 6 = .ok (.iload_n 2, 1) := by decide +kernel
theorem dX7_meet_7 : decode cX7_meet 7 = .ok (.goto 5, 3) := by decide +kernel
theorem dX7_meet_10 : decode cX7_meet 10 = .ok (.iload 5, 2) := by decide +kernel
theorem dX7_meet_12 : decode cX7_meet 12 = .ok (.istore 6, 2) := by decide +kernel
theorem dX7_meet_14 : decode cX7_meet 14 = .ok (.iload_n 3, 1) := by decide +kernel
theorem dX7_meet_15 : decode cX7_meet 15 = .ok (.iload_n 0, 1) := by decide +kernel
theorem dX7_meet_16 : decode cX7_meet 16 = .ok (.isub, 1) := by decide +kernel
theorem dX7_meet_17 : decode cX7_meet 17 = .ok (.iload 6, 2) := by decide +kernel
theorem dX7_meet_19 : decode cX7_meet 19 = .ok (.invokestatic 104, 3) := by decide +kernel
theorem dX7_meet_22 : decode cX7_meet 22 = .ok (.istore 7, 2) := by decide +kernel
theorem dX7_meet_24 : decode cX7_meet 24 = .ok (.iload 7, 2) := by decide +kernel
theorem dX7_meet_26 : decode cX7_meet 26 = .ok (.iload_n 1, 1) := by decide +kernel
theorem dX7_meet_27 : decode cX7_meet 27 = .ok (.if_icmp .lt 16, 3) := by decide +kernel
theorem dX7_meet_30 : decode cX7_meet 30 = .ok (.iload_n 0, 1) := by decide +kernel
theorem dX7_meet_31 : decode cX7_meet 31 = .ok (.iload_n 3, 1) := by decide +kernel
theorem dX7_meet_32 : decode cX7_meet 32 = .ok (.isub, 1) := by decide +kernel
theorem dX7_meet_33 : decode cX7_meet 33 = .ok (.iload 6, 2) := by decide +kernel
theorem dX7_meet_35 : decode cX7_meet 35 = .ok (.invokestatic 104, 3) := by decide +kernel
theorem dX7_meet_38 : decode cX7_meet 38 = .ok (.iload 4, 2) := by decide +kernel
theorem dX7_meet_40 : decode cX7_meet 40 = .ok (.if_icmp .ge 7, 3) := by decide +kernel
theorem dX7_meet_43 : decode cX7_meet 43 = .ok (.iconst 1, 1) := by decide +kernel
theorem dX7_meet_44 : decode cX7_meet 44 = .ok (.goto 4, 3) := by decide +kernel
theorem dX7_meet_47 : decode cX7_meet 47 = .ok (.iconst 0, 1) := by decide +kernel
theorem dX7_meet_48 : decode cX7_meet 48 = .ok (.ireturn, 1) := by decide +kernel
theorem dX7_streamsMeet_0 : decode cX7_streamsMeet 0 = .ok (.iconst 0, 1) := by decide +kernel
theorem dX7_streamsMeet_1 : decode cX7_streamsMeet 1 = .ok (.istore_n 3, 1) := by decide +kernel
theorem dX7_streamsMeet_2 : decode cX7_streamsMeet 2 = .ok (.iconst 0, 1) := by decide +kernel
theorem dX7_streamsMeet_3 : decode cX7_streamsMeet 3 = .ok (.istore 4, 2) := by decide +kernel
theorem dX7_streamsMeet_5 : decode cX7_streamsMeet 5 = .ok (.iload 4, 2) := by decide +kernel
theorem dX7_streamsMeet_7 : decode cX7_streamsMeet 7 = .ok (.iconst 3, 1) := by decide +kernel
theorem dX7_streamsMeet_8 : decode cX7_streamsMeet 8 = .ok (.if_icmp .ge 130, 3) := by decide +kernel
theorem dX7_streamsMeet_11 : decode cX7_streamsMeet 11 = .ok (.iconst 0, 1) := by decide +kernel
theorem dX7_streamsMeet_12 : decode cX7_streamsMeet 12 = .ok (.istore 5, 2) := by decide +kernel
theorem dX7_streamsMeet_14 : decode cX7_streamsMeet 14 = .ok (.iload 5, 2) := by decide +kernel
theorem dX7_streamsMeet_16 : decode cX7_streamsMeet 16 = .ok (.iconst 3, 1) := by decide +kernel
theorem dX7_streamsMeet_17 : decode cX7_streamsMeet 17 = .ok (.if_icmp .ge 115, 3) := by decide +kernel
theorem dX7_streamsMeet_20 : decode cX7_streamsMeet 20 = .ok (.aload_n 0, 1) := by decide +kernel
theorem dX7_streamsMeet_21 : decode cX7_streamsMeet 21 = .ok (.getfield 22, 3) := by decide +kernel
theorem dX7_streamsMeet_24 : decode cX7_streamsMeet 24 = .ok (.iconst 3, 1) := by decide +kernel
theorem dX7_streamsMeet_25 : decode cX7_streamsMeet 25 = .ok (.iload_n 1, 1) := by decide +kernel
theorem dX7_streamsMeet_26 : decode cX7_streamsMeet 26 = .ok (.imul, 1) := by decide +kernel
theorem dX7_streamsMeet_27 : decode cX7_streamsMeet 27 = .ok (.iload 4, 2) := by decide +kernel
theorem dX7_streamsMeet_29 : decode cX7_streamsMeet 29 = .ok (.iadd, 1) := by decide +kernel
theorem dX7_streamsMeet_30 : decode cX7_streamsMeet 30 = .ok (.iaload, 1) := by decide +kernel
theorem dX7_streamsMeet_31 : decode cX7_streamsMeet 31 = .ok (.istore 6, 2) := by decide +kernel
theorem dX7_streamsMeet_33 : decode cX7_streamsMeet 33 = .ok (.iload 6, 2) := by decide +kernel
theorem dX7_streamsMeet_35 : decode cX7_streamsMeet 35 = .ok (.ifCond .lt 91, 3) := by decide +kernel
theorem dX7_streamsMeet_38 : decode cX7_streamsMeet 38 = .ok (.iload 6, 2) := by decide +kernel
theorem dX7_streamsMeet_40 : decode cX7_streamsMeet 40 = .ok (.aload_n 0, 1) := by decide +kernel
theorem dX7_streamsMeet_41 : decode cX7_streamsMeet 41 = .ok (.getfield 22, 3) := by decide +kernel
theorem dX7_streamsMeet_44 : decode cX7_streamsMeet 44 = .ok (.iconst 3, 1) := by decide +kernel
theorem dX7_streamsMeet_45 : decode cX7_streamsMeet 45 = .ok (.iload_n 2, 1) := by decide +kernel
theorem dX7_streamsMeet_46 : decode cX7_streamsMeet 46 = .ok (.imul, 1) := by decide +kernel
theorem dX7_streamsMeet_47 : decode cX7_streamsMeet 47 = .ok (.iload 5, 2) := by decide +kernel
theorem dX7_streamsMeet_49 : decode cX7_streamsMeet 49 = .ok (.iadd, 1) := by decide +kernel
theorem dX7_streamsMeet_50 : decode cX7_streamsMeet 50 = .ok (.iaload, 1) := by decide +kernel
theorem dX7_streamsMeet_51 : decode cX7_streamsMeet 51 = .ok (.if_icmp .ne 75, 3) := by decide +kernel
theorem dX7_streamsMeet_54 : decode cX7_streamsMeet 54 = .ok (.iload_n 3, 1) := by decide +kernel
theorem dX7_streamsMeet_55 : decode cX7_streamsMeet 55 = .ok (.ifCond .ne 65, 3) := by decide +kernel
theorem dX7_streamsMeet_58 : decode cX7_streamsMeet 58 = .ok (.aload_n 0, 1) := by decide +kernel
theorem dX7_streamsMeet_59 : decode cX7_streamsMeet 59 = .ok (.getfield 43, 3) := by decide +kernel
theorem dX7_streamsMeet_62 : decode cX7_streamsMeet 62 = .ok (.iload_n 1, 1) := by decide +kernel
theorem dX7_streamsMeet_63 : decode cX7_streamsMeet 63 = .ok (.iaload, 1) := by decide +kernel
theorem dX7_streamsMeet_64 : decode cX7_streamsMeet 64 = .ok (.aload_n 0, 1) := by decide +kernel
theorem dX7_streamsMeet_65 : decode cX7_streamsMeet 65 = .ok (.iload_n 1, 1) := by decide +kernel
theorem dX7_streamsMeet_66 : decode cX7_streamsMeet 66 = .ok (.iload 4, 2) := by decide +kernel
theorem dX7_streamsMeet_68 : decode cX7_streamsMeet 68 = .ok (.invokevirtual 100, 3) := by decide +kernel
theorem dX7_streamsMeet_71 : decode cX7_streamsMeet 71 = .ok (.iadd, 1) := by decide +kernel
theorem dX7_streamsMeet_72 : decode cX7_streamsMeet 72 = .ok (.aload_n 0, 1) := by decide +kernel
theorem dX7_streamsMeet_73 : decode cX7_streamsMeet 73 = .ok (.getfield 16, 3) := by decide +kernel
theorem dX7_streamsMeet_76 : decode cX7_streamsMeet 76 = .ok (.iload_n 1, 1) := by decide +kernel
theorem dX7_streamsMeet_77 : decode cX7_streamsMeet 77 = .ok (.iaload, 1) := by decide +kernel
theorem dX7_streamsMeet_78 : decode cX7_streamsMeet 78 = .ok (.iconst 1, 1) := by decide +kernel
theorem dX7_streamsMeet_79 : decode cX7_streamsMeet 79 = .ok (.iadd, 1) := by decide +kernel
theorem dX7_streamsMeet_80 : decode cX7_streamsMeet 80 = .ok (.aload_n 0, 1) := by decide +kernel
theorem dX7_streamsMeet_81 : decode cX7_streamsMeet 81 = .ok (.getfield 13, 3) := by decide +kernel
theorem dX7_streamsMeet_84 : decode cX7_streamsMeet 84 = .ok (.iload_n 1, 1) := by decide +kernel
theorem dX7_streamsMeet_85 : decode cX7_streamsMeet 85 = .ok (.iaload, 1) := by decide +kernel
theorem dX7_streamsMeet_86 : decode cX7_streamsMeet 86 = .ok (.aload_n 0, 1) := by decide +kernel
theorem dX7_streamsMeet_87 : decode cX7_streamsMeet 87 = .ok (.getfield 43, 3) := by decide +kernel
theorem dX7_streamsMeet_90 : decode cX7_streamsMeet 90 = .ok (.iload_n 2, 1) := by decide +kernel
theorem dX7_streamsMeet_91 : decode cX7_streamsMeet 91 = .ok (.iaload, 1) := by decide +kernel
theorem dX7_streamsMeet_92 : decode cX7_streamsMeet 92 = .ok (.aload_n 0, 1) := by decide +kernel
theorem dX7_streamsMeet_93 : decode cX7_streamsMeet 93 = .ok (.iload_n 2, 1) := by decide +kernel
theorem dX7_streamsMeet_94 : decode cX7_streamsMeet 94 = .ok (.iload 5, 2) := by decide +kernel
theorem dX7_streamsMeet_96 : decode cX7_streamsMeet 96 = .ok (.invokevirtual 100, 3) := by decide +kernel
theorem dX7_streamsMeet_99 : decode cX7_streamsMeet 99 = .ok (.iadd, 1) := by decide +kernel
theorem dX7_streamsMeet_100 : decode cX7_streamsMeet 100 = .ok (.aload_n 0, 1) := by decide +kernel
theorem dX7_streamsMeet_101 : decode cX7_streamsMeet 101 = .ok (.getfield 16, 3) := by decide +kernel
theorem dX7_streamsMeet_104 : decode cX7_streamsMeet 104 = .ok (.iload_n 2, 1) := by decide +kernel
theorem dX7_streamsMeet_105 : decode cX7_streamsMeet 105 = .ok (.iaload, 1) := by decide +kernel
theorem dX7_streamsMeet_106 : decode cX7_streamsMeet 106 = .ok (.iconst 1, 1) := by decide +kernel
theorem dX7_streamsMeet_107 : decode cX7_streamsMeet 107 = .ok (.iadd, 1) := by decide +kernel
theorem dX7_streamsMeet_108 : decode cX7_streamsMeet 108 = .ok (.aload_n 0, 1) := by decide +kernel
theorem dX7_streamsMeet_109 : decode cX7_streamsMeet 109 = .ok (.getfield 13, 3) := by decide +kernel
theorem dX7_streamsMeet_112 : decode cX7_streamsMeet 112 = .ok (.iload_n 2, 1) := by decide +kernel
theorem dX7_streamsMeet_113 : decode cX7_streamsMeet 113 = .ok (.iaload, 1) := by decide +kernel
theorem dX7_streamsMeet_114 : decode cX7_streamsMeet 114 = .ok (.invokestatic 107, 3) := by decide +kernel
theorem dX7_streamsMeet_117 : decode cX7_streamsMeet 117 = .ok (.ifCond .eq 7, 3) := by decide +kernel
theorem dX7_streamsMeet_120 : decode cX7_streamsMeet 120 = .ok (.iconst 1, 1) := by decide +kernel
theorem dX7_streamsMeet_121 : decode cX7_streamsMeet 121 = .ok (.goto 4, 3) := by decide +kernel
theorem dX7_streamsMeet_124 : decode cX7_streamsMeet 124 = .ok (.iconst 0, 1) := by decide +kernel
theorem dX7_streamsMeet_125 : decode cX7_streamsMeet 125 = .ok (.istore_n 3, 1) := by decide +kernel
theorem dX7_streamsMeet_126 : decode cX7_streamsMeet 126 = .ok (.iinc 5 1, 3) := by decide +kernel
theorem dX7_streamsMeet_129 : decode cX7_streamsMeet 129 = .ok (.goto (-115), 3) := by decide +kernel
theorem dX7_streamsMeet_132 : decode cX7_streamsMeet 132 = .ok (.iinc 4 1, 3) := by decide +kernel
theorem dX7_streamsMeet_135 : decode cX7_streamsMeet 135 = .ok (.goto (-130), 3) := by decide +kernel
theorem dX7_streamsMeet_138 : decode cX7_streamsMeet 138 = .ok (.iload_n 3, 1) := by decide +kernel
theorem dX7_streamsMeet_139 : decode cX7_streamsMeet 139 = .ok (.ireturn, 1) := by decide +kernel
theorem dX7_isGood_0 : decode cX7_isGood 0 = .ok (.aload_n 0, 1) := by decide +kernel
theorem dX7_isGood_1 : decode cX7_isGood 1 = .ok (.iload_n 1, 1) := by decide +kernel
theorem dX7_isGood_2 : decode cX7_isGood 2 = .ok (.invokevirtual 111, 3) := by decide +kernel
theorem dX7_isGood_5 : decode cX7_isGood 5 = .ok (.istore_n 2, 1) := by decide +kernel
theorem dX7_isGood_6 : decode cX7_isGood 6 = .ok (.iconst 0, 1) := by decide +kernel
theorem dX7_isGood_7 : decode cX7_isGood 7 = .ok (.istore_n 3, 1) := by decide +kernel
theorem dX7_isGood_8 : decode cX7_isGood 8 = .ok (.iload_n 3, 1) := by decide +kernel
theorem dX7_isGood_9 : decode cX7_isGood 9 = .ok (.iload_n 1, 1) := by decide +kernel
theorem dX7_isGood_10 : decode cX7_isGood 10 = .ok (.if_icmp .ge 28, 3) := by decide +kernel
theorem dX7_isGood_13 : decode cX7_isGood 13 = .ok (.iload_n 2, 1) := by decide +kernel
theorem dX7_isGood_14 : decode cX7_isGood 14 = .ok (.ifCond .eq 16, 3) := by decide +kernel
theorem dX7_isGood_17 : decode cX7_isGood 17 = .ok (.aload_n 0, 1) := by decide +kernel
theorem dX7_isGood_18 : decode cX7_isGood 18 = .ok (.iload_n 1, 1) := by decide +kernel
theorem dX7_isGood_19 : decode cX7_isGood 19 = .ok (.iload_n 3, 1) := by decide +kernel
theorem dX7_isGood_20 : decode cX7_isGood 20 = .ok (.invokevirtual 114, 3) := by decide +kernel
theorem dX7_isGood_23 : decode cX7_isGood 23 = .ok (.ifCond .ne 7, 3) := by decide +kernel
theorem dX7_isGood_26 : decode cX7_isGood 26 = .ok (.iconst 1, 1) := by decide +kernel
theorem dX7_isGood_27 : decode cX7_isGood 27 = .ok (.goto 4, 3) := by decide +kernel
theorem dX7_isGood_30 : decode cX7_isGood 30 = .ok (.iconst 0, 1) := by decide +kernel
theorem dX7_isGood_31 : decode cX7_isGood 31 = .ok (.istore_n 2, 1) := by decide +kernel
theorem dX7_isGood_32 : decode cX7_isGood 32 = .ok (.iinc 3 1, 3) := by decide +kernel
theorem dX7_isGood_35 : decode cX7_isGood 35 = .ok (.goto (-27), 3) := by decide +kernel
theorem dX7_isGood_38 : decode cX7_isGood 38 = .ok (.iload_n 2, 1) := by decide +kernel
theorem dX7_isGood_39 : decode cX7_isGood 39 = .ok (.ireturn, 1) := by decide +kernel
theorem dX7_keep_0 : decode cX7_keep 0 = .ok (.aload_n 0, 1) := by decide +kernel
theorem dX7_keep_1 : decode cX7_keep 1 = .ok (.getfield 25, 3) := by decide +kernel
theorem dX7_keep_4 : decode cX7_keep 4 = .ok (.iconst 0, 1) := by decide +kernel
theorem dX7_keep_5 : decode cX7_keep 5 = .ok (.aload_n 0, 1) := by decide +kernel
theorem dX7_keep_6 : decode cX7_keep 6 = .ok (.getfield 97, 3) := by decide +kernel
theorem dX7_keep_9 : decode cX7_keep 9 = .ok (.iastore, 1) := by decide +kernel
theorem dX7_keep_10 : decode cX7_keep 10 = .ok (.iconst 0, 1) := by decide +kernel
theorem dX7_keep_11 : decode cX7_keep 11 = .ok (.istore_n 1, 1) := by decide +kernel
theorem dX7_keep_12 : decode cX7_keep 12 = .ok (.iload_n 1, 1) := by decide +kernel
theorem dX7_keep_13 : decode cX7_keep 13 = .ok (.aload_n 0, 1) := by decide +kernel
theorem dX7_keep_14 : decode cX7_keep 14 = .ok (.getfield 97, 3) := by decide +kernel
theorem dX7_keep_17 : decode cX7_keep 17 = .ok (.if_icmp .ge 104, 3) := by decide +kernel
theorem dX7_keep_20 : decode cX7_keep 20 = .ok (.aload_n 0, 1) := by decide +kernel
theorem dX7_keep_21 : decode cX7_keep 21 = .ok (.getfield 28, 3) := by decide +kernel
theorem dX7_keep_24 : decode cX7_keep 24 = .ok (.iload_n 1, 1) := by decide +kernel
theorem dX7_keep_25 : decode cX7_keep 25 = .ok (.aload_n 0, 1) := by decide +kernel
theorem dX7_keep_26 : decode cX7_keep 26 = .ok (.getfield 13, 3) := by decide +kernel
theorem dX7_keep_29 : decode cX7_keep 29 = .ok (.iload_n 1, 1) := by decide +kernel
theorem dX7_keep_30 : decode cX7_keep 30 = .ok (.iaload, 1) := by decide +kernel
theorem dX7_keep_31 : decode cX7_keep 31 = .ok (.iastore, 1) := by decide +kernel
theorem dX7_keep_32 : decode cX7_keep 32 = .ok (.aload_n 0, 1) := by decide +kernel
theorem dX7_keep_33 : decode cX7_keep 33 = .ok (.getfield 31, 3) := by decide +kernel
theorem dX7_keep_36 : decode cX7_keep 36 = .ok (.iload_n 1, 1) := by decide +kernel
theorem dX7_keep_37 : decode cX7_keep 37 = .ok (.aload_n 0, 1) := by decide +kernel
theorem dX7_keep_38 : decode cX7_keep 38 = .ok (.getfield 16, 3) := by decide +kernel
theorem dX7_keep_41 : decode cX7_keep 41 = .ok (.iload_n 1, 1) := by decide +kernel
theorem dX7_keep_42 : decode cX7_keep 42 = .ok (.iaload, 1) := by decide +kernel
theorem dX7_keep_43 : decode cX7_keep 43 = .ok (.iastore, 1) := by decide +kernel
theorem dX7_keep_44 : decode cX7_keep 44 = .ok (.aload_n 0, 1) := by decide +kernel
theorem dX7_keep_45 : decode cX7_keep 45 = .ok (.getfield 34, 3) := by decide +kernel
theorem dX7_keep_48 : decode cX7_keep 48 = .ok (.iload_n 1, 1) := by decide +kernel
theorem dX7_keep_49 : decode cX7_keep 49 = .ok (.aload_n 0, 1) := by decide +kernel
theorem dX7_keep_50 : decode cX7_keep 50 = .ok (.getfield 43, 3) := by decide +kernel
theorem dX7_keep_53 : decode cX7_keep 53 = .ok (.iload_n 1, 1) := by decide +kernel
theorem dX7_keep_54 : decode cX7_keep 54 = .ok (.iaload, 1) := by decide +kernel
theorem dX7_keep_55 : decode cX7_keep 55 = .ok (.iastore, 1) := by decide +kernel
theorem dX7_keep_56 : decode cX7_keep 56 = .ok (.iconst 0, 1) := by decide +kernel
theorem dX7_keep_57 : decode cX7_keep 57 = .ok (.istore_n 2, 1) := by decide +kernel
theorem dX7_keep_58 : decode cX7_keep 58 = .ok (.iload_n 2, 1) := by decide +kernel
theorem dX7_keep_59 : decode cX7_keep 59 = .ok (.iconst 3, 1) := by decide +kernel
theorem dX7_keep_60 : decode cX7_keep 60 = .ok (.if_icmp .ge 55, 3) := by decide +kernel
theorem dX7_keep_63 : decode cX7_keep 63 = .ok (.aload_n 0, 1) := by decide +kernel
theorem dX7_keep_64 : decode cX7_keep 64 = .ok (.getfield 22, 3) := by decide +kernel
theorem dX7_keep_67 : decode cX7_keep 67 = .ok (.iconst 3, 1) := by decide +kernel
theorem dX7_keep_68 : decode cX7_keep 68 = .ok (.iload_n 1, 1) := by decide +kernel
theorem dX7_keep_69 : decode cX7_keep 69 = .ok (.imul, 1) := by decide +kernel
theorem dX7_keep_70 : decode cX7_keep 70 = .ok (.iload_n 2, 1) := by decide +kernel
theorem dX7_keep_71 : decode cX7_keep 71 = .ok (.iadd, 1) := by decide +kernel
theorem dX7_keep_72 : decode cX7_keep 72 = .ok (.iaload, 1) := by decide +kernel
theorem dX7_keep_73 : decode cX7_keep 73 = .ok (.istore_n 3, 1) := by decide +kernel
theorem dX7_keep_74 : decode cX7_keep 74 = .ok (.aload_n 0, 1) := by decide +kernel
theorem dX7_keep_75 : decode cX7_keep 75 = .ok (.getfield 37, 3) := by decide +kernel
theorem dX7_keep_78 : decode cX7_keep 78 = .ok (.iconst 3, 1) := by decide +kernel
theorem dX7_keep_79 : decode cX7_keep 79 = .ok (.iload_n 1, 1) := by decide +kernel
theorem dX7_keep_80 : decode cX7_keep 80 = .ok (.imul, 1) := by decide +kernel
theorem dX7_keep_81 : decode cX7_keep 81 = .ok (.iload_n 2, 1) := by decide +kernel
theorem dX7_keep_82 : decode cX7_keep 82 = .ok (.iadd, 1) := by decide +kernel
theorem dX7_keep_83 : decode cX7_keep 83 = .ok (.iload_n 3, 1) := by decide +kernel
theorem dX7_keep_84 : decode cX7_keep 84 = .ok (.iastore, 1) := by decide +kernel
theorem dX7_keep_85 : decode cX7_keep 85 = .ok (.aload_n 0, 1) := by decide +kernel
theorem dX7_keep_86 : decode cX7_keep 86 = .ok (.getfield 40, 3) := by decide +kernel
theorem dX7_keep_89 : decode cX7_keep 89 = .ok (.iconst 3, 1) := by decide +kernel
theorem dX7_keep_90 : decode cX7_keep 90 = .ok (.iload_n 1, 1) := by decide +kernel
theorem dX7_keep_91 : decode cX7_keep 91 = .ok (.imul, 1) := by decide +kernel
theorem dX7_keep_92 : decode cX7_keep 92 = .ok (.iload_n 2, 1) := by decide +kernel
theorem dX7_keep_93 : decode cX7_keep 93 = .ok (.iadd, 1) := by decide +kernel
theorem dX7_keep_94 : decode cX7_keep 94 = .ok (.iload_n 3, 1) := by decide +kernel
theorem dX7_keep_95 : decode cX7_keep 95 = .ok (.ifCond .ge 7, 3) := by decide +kernel
theorem dX7_keep_98 : decode cX7_keep 98 = .ok (.iconst 0, 1) := by decide +kernel
theorem dX7_keep_99 : decode cX7_keep 99 = .ok (.goto 9, 3) := by decide +kernel
theorem dX7_keep_102 : decode cX7_keep 102 = .ok (.aload_n 0, 1) := by decide +kernel
theorem dX7_keep_103 : decode cX7_keep 103 = .ok (.getfield 7, 3) := by decide +kernel
theorem dX7_keep_106 : decode cX7_keep 106 = .ok (.iload_n 3, 1) := by decide +kernel
theorem dX7_keep_107 : decode cX7_keep 107 = .ok (.iaload, 1) := by decide +kernel
theorem dX7_keep_108 : decode cX7_keep 108 = .ok (.iastore, 1) := by decide +kernel
theorem dX7_keep_109 : decode cX7_keep 109 = .ok (.iinc 2 1, 3) := by decide +kernel
theorem dX7_keep_112 : decode cX7_keep 112 = .ok (.goto (-54), 3) := by decide +kernel
theorem dX7_keep_115 : decode cX7_keep 115 = .ok (.iinc 1 1, 3) := by decide +kernel
theorem dX7_keep_118 : decode cX7_keep 118 = .ok (.goto (-106), 3) := by decide +kernel
theorem dX7_keep_121 : decode cX7_keep 121 = .ok (.return_, 1) := by decide +kernel
theorem dX7_build_0 : decode cX7_build 0 = .ok (.aload_n 0, 1) := by decide +kernel
theorem dX7_build_1 : decode cX7_build 1 = .ok (.iload_n 1, 1) := by decide +kernel
theorem dX7_build_2 : decode cX7_build 2 = .ok (.ifCond .lt 10, 3) := by decide +kernel
theorem dX7_build_5 : decode cX7_build 5 = .ok (.iload_n 1, 1) := by decide +kernel
theorem dX7_build_6 : decode cX7_build 6 = .ok (.sipush 20000, 3) := by decide +kernel
theorem dX7_build_9 : decode cX7_build 9 = .ok (.if_icmp .le 7, 3) := by decide +kernel
theorem dX7_build_12 : decode cX7_build 12 = .ok (.iconst 1, 1) := by decide +kernel
theorem dX7_build_13 : decode cX7_build 13 = .ok (.goto 4, 3) := by decide +kernel
theorem dX7_build_16 : decode cX7_build 16 = .ok (.iconst 0, 1) := by decide +kernel
theorem dX7_build_17 : decode cX7_build 17 = .ok (.putfield 89, 3) := by decide +kernel
theorem dX7_build_20 : decode cX7_build 20 = .ok (.aload_n 0, 1) := by decide +kernel
theorem dX7_build_21 : decode cX7_build 21 = .ok (.getfield 89, 3) := by decide +kernel
theorem dX7_build_24 : decode cX7_build 24 = .ok (.ifCond .le 5, 3) := by decide +kernel
theorem dX7_build_27 : decode cX7_build 27 = .ok (.iconst 0, 1) := by decide +kernel
theorem dX7_build_28 : decode cX7_build 28 = .ok (.ireturn, 1) := by decide +kernel
theorem dX7_build_29 : decode cX7_build 29 = .ok (.aload_n 0, 1) := by decide +kernel
theorem dX7_build_30 : decode cX7_build 30 = .ok (.iconst 0, 1) := by decide +kernel
theorem dX7_build_31 : decode cX7_build 31 = .ok (.putfield 118, 3) := by decide +kernel
theorem dX7_build_34 : decode cX7_build 34 = .ok (.iconst 0, 1) := by decide +kernel
theorem dX7_build_35 : decode cX7_build 35 = .ok (.istore_n 2, 1) := by decide +kernel
theorem dX7_build_36 : decode cX7_build 36 = .ok (.iconst 0, 1) := by decide +kernel
theorem dX7_build_37 : decode cX7_build 37 = .ok (.istore_n 3, 1) := by decide +kernel
theorem dX7_build_38 : decode cX7_build 38 = .ok (.iload_n 3, 1) := by decide +kernel
theorem dX7_build_39 : decode cX7_build 39 = .ok (.iconst 5, 1) := by decide +kernel
theorem dX7_build_40 : decode cX7_build 40 = .ok (.if_icmp .ge 16, 3) := by decide +kernel
theorem dX7_build_43 : decode cX7_build 43 = .ok (.aload_n 0, 1) := by decide +kernel
theorem dX7_build_44 : decode cX7_build 44 = .ok (.getfield 43, 3) := by decide +kernel
theorem dX7_build_47 : decode cX7_build 47 = .ok (.iload_n 3, 1) := by decide +kernel
theorem dX7_build_48 : decode cX7_build 48 = .ok (.iconst (-1), 1) := by decide +kernel
theorem dX7_build_49 : decode cX7_build 49 = .ok (.iastore, 1) := by decide +kernel
theorem dX7_build_50 : decode cX7_build 50 = .ok (.iinc 3 1, 3) := by decide +kernel
theorem dX7_build_53 : decode cX7_build 53 = .ok (.goto (-15), 3) := by decide +kernel
theorem dX7_build_56 : decode cX7_build 56 = .ok (.iload_n 2, 1) := by decide +kernel
theorem dX7_build_57 : decode cX7_build 57 = .ok (.ifCond .lt 88, 3) := by decide +kernel
theorem dX7_build_60 : decode cX7_build 60 = .ok (.iload_n 2, 1) := by decide +kernel
theorem dX7_build_61 : decode cX7_build 61 = .ok (.aload_n 0, 1) := by decide +kernel
theorem dX7_build_62 : decode cX7_build 62 = .ok (.getfield 97, 3) := by decide +kernel
theorem dX7_build_65 : decode cX7_build 65 = .ok (.if_icmp .ge 80, 3) := by decide +kernel
theorem dX7_build_68 : decode cX7_build 68 = .ok (.aload_n 0, 1) := by decide +kernel
theorem dX7_build_69 : decode cX7_build 69 = .ok (.getfield 43, 3) := by decide +kernel
theorem dX7_build_72 : decode cX7_build 72 = .ok (.iload_n 2, 1) := by decide +kernel
theorem dX7_build_73 : decode cX7_build 73 = .ok (.dup2, 1) := by decide +kernel
theorem dX7_build_74 : decode cX7_build 74 = .ok (.iaload, 1) := by decide +kernel
theorem dX7_build_75 : decode cX7_build 75 = .ok (.iconst 1, 1) := by decide +kernel
theorem dX7_build_76 : decode cX7_build 76 = .ok (.iadd, 1) := by decide +kernel
theorem dX7_build_77 : decode cX7_build 77 = .ok (.iastore, 1) := by decide +kernel
theorem dX7_build_78 : decode cX7_build 78 = .ok (.aload_n 0, 1) := by decide +kernel
theorem dX7_build_79 : decode cX7_build 79 = .ok (.getfield 43, 3) := by decide +kernel
theorem dX7_build_82 : decode cX7_build 82 = .ok (.iload_n 2, 1) := by decide +kernel
theorem dX7_build_83 : decode cX7_build 83 = .ok (.iaload, 1) := by decide +kernel
theorem dX7_build_84 : decode cX7_build 84 = .ok (.aload_n 0, 1) := by decide +kernel
theorem dX7_build_85 : decode cX7_build 85 = .ok (.getfield 13, 3) := by decide +kernel
theorem dX7_build_88 : decode cX7_build 88 = .ok (.iload_n 2, 1) := by decide +kernel
theorem dX7_build_89 : decode cX7_build 89 = .ok (.iaload, 1) := by decide +kernel
theorem dX7_build_90 : decode cX7_build 90 = .ok (.if_icmp .ne 16, 3) := by decide +kernel
theorem dX7_build_93 : decode cX7_build 93 = .ok (.aload_n 0, 1) := by decide +kernel
theorem dX7_build_94 : decode cX7_build 94 = .ok (.getfield 43, 3) := by decide +kernel
theorem dX7_build_97 : decode cX7_build 97 = .ok (.iload_n 2, 1) := by decide +kernel
theorem dX7_build_98 : decode cX7_build 98 = .ok (.iconst (-1), 1) := by decide +kernel
theorem dX7_build_99 : decode cX7_build 99 = .ok (.iastore, 1) := by decide +kernel
theorem dX7_build_100 : decode cX7_build 100 = .ok (.iinc 2 (-1), 3) := by decide +kernel
theorem dX7_build_103 : decode cX7_build 103 = .ok (.goto (-47), 3) := by decide +kernel
theorem dX7_build_106 : decode cX7_build 106 = .ok (.aload_n 0, 1) := by decide +kernel
theorem dX7_build_107 : decode cX7_build 107 = .ok (.getfield 118, 3) := by decide +kernel
theorem dX7_build_110 : decode cX7_build 110 = .ok (.iload_n 1, 1) := by decide +kernel
theorem dX7_build_111 : decode cX7_build 111 = .ok (.if_icmp .ne 5, 3) := by decide +kernel
theorem dX7_build_114 : decode cX7_build 114 = .ok (.iconst (-1), 1) := by decide +kernel
theorem dX7_build_115 : decode cX7_build 115 = .ok (.ireturn, 1) := by decide +kernel
theorem dX7_build_116 : decode cX7_build 116 = .ok (.aload_n 0, 1) := by decide +kernel
theorem dX7_build_117 : decode cX7_build 117 = .ok (.dup, 1) := by decide +kernel
theorem dX7_build_118 : decode cX7_build 118 = .ok (.getfield 118, 3) := by decide +kernel
theorem dX7_build_121 : decode cX7_build 121 = .ok (.iconst 1, 1) := by decide +kernel
theorem dX7_build_122 : decode cX7_build 122 = .ok (.iadd, 1) := by decide +kernel
theorem dX7_build_123 : decode cX7_build 123 = .ok (.putfield 118, 3) := by decide +kernel
theorem dX7_build_126 : decode cX7_build 126 = .ok (.aload_n 0, 1) := by decide +kernel
theorem dX7_build_127 : decode cX7_build 127 = .ok (.iload_n 2, 1) := by decide +kernel
theorem dX7_build_128 : decode cX7_build 128 = .ok (.invokevirtual 121, 3) := by decide +kernel
theorem dX7_build_131 : decode cX7_build 131 = .ok (.ifCond .eq 9, 3) := by decide +kernel
theorem dX7_build_134 : decode cX7_build 134 = .ok (.iload_n 2, 1) := by decide +kernel
theorem dX7_build_135 : decode cX7_build 135 = .ok (.iconst 1, 1) := by decide +kernel
theorem dX7_build_136 : decode cX7_build 136 = .ok (.iadd, 1) := by decide +kernel
theorem dX7_build_137 : decode cX7_build 137 = .ok (.goto 4, 3) := by decide +kernel
theorem dX7_build_140 : decode cX7_build 140 = .ok (.iload_n 2, 1) := by decide +kernel
theorem dX7_build_141 : decode cX7_build 141 = .ok (.istore_n 2, 1) := by decide +kernel
theorem dX7_build_142 : decode cX7_build 142 = .ok (.goto (-86), 3) := by decide +kernel
theorem dX7_build_145 : decode cX7_build 145 = .ok (.iload_n 2, 1) := by decide +kernel
theorem dX7_build_146 : decode cX7_build 146 = .ok (.ifCond .ge 5, 3) := by decide +kernel
theorem dX7_build_149 : decode cX7_build 149 = .ok (.iconst 0, 1) := by decide +kernel
theorem dX7_build_150 : decode cX7_build 150 = .ok (.ireturn, 1) := by decide +kernel
theorem dX7_build_151 : decode cX7_build 151 = .ok (.aload_n 0, 1) := by decide +kernel
theorem dX7_build_152 : decode cX7_build 152 = .ok (.invokevirtual 124, 3) := by decide +kernel
theorem dX7_build_155 : decode cX7_build 155 = .ok (.iconst 1, 1) := by decide +kernel
theorem dX7_build_156 : decode cX7_build 156 = .ok (.ireturn, 1) := by decide +kernel
theorem dX7_tries_0 : decode cX7_tries 0 = .ok (.aload_n 0, 1) := by decide +kernel
theorem dX7_tries_1 : decode cX7_tries 1 = .ok (.iconst 0, 1) := by decide +kernel
theorem dX7_tries_2 : decode cX7_tries 2 = .ok (.putfield 89, 3) := by decide +kernel
theorem dX7_tries_5 : decode cX7_tries 5 = .ok (.aload_n 0, 1) := by decide +kernel
theorem dX7_tries_6 : decode cX7_tries 6 = .ok (.getfield 118, 3) := by decide +kernel
theorem dX7_tries_9 : decode cX7_tries 9 = .ok (.ireturn, 1) := by decide +kernel
theorem dX7_offset_0 : decode cX7_offset 0 = .ok (.aload_n 0, 1) := by decide +kernel
theorem dX7_offset_1 : decode cX7_offset 1 = .ok (.aload_n 0, 1) := by decide +kernel
theorem dX7_offset_2 : decode cX7_offset 2 = .ok (.getfield 25, 3) := by decide +kernel
theorem dX7_offset_5 : decode cX7_offset 5 = .ok (.iconst 0, 1) := by decide +kernel
theorem dX7_offset_6 : decode cX7_offset 6 = .ok (.iaload, 1) := by decide +kernel
theorem dX7_offset_7 : decode cX7_offset 7 = .ok (.ifCond .ge 7, 3) := by decide +kernel
theorem dX7_offset_10 : decode cX7_offset 10 = .ok (.iconst 1, 1) := by decide +kernel
theorem dX7_offset_11 : decode cX7_offset 11 = .ok (.goto 22, 3) := by decide +kernel
theorem dX7_offset_14 : decode cX7_offset 14 = .ok (.iload_n 1, 1) := by decide +kernel
theorem dX7_offset_15 : decode cX7_offset 15 = .ok (.ifCond .lt 13, 3) := by decide +kernel
theorem dX7_offset_18 : decode cX7_offset 18 = .ok (.iload_n 1, 1) := by decide +kernel
theorem dX7_offset_19 : decode cX7_offset 19 = .ok (.aload_n 0, 1) := by decide +kernel
theorem dX7_offset_20 : decode cX7_offset 20 = .ok (.getfield 25, 3) := by decide +kernel
theorem dX7_offset_23 : decode cX7_offset 23 = .ok (.iconst 0, 1) := by decide +kernel
theorem dX7_offset_24 : decode cX7_offset 24 = .ok (.iaload, 1) := by decide +kernel
theorem dX7_offset_25 : decode cX7_offset 25 = .ok (.if_icmp .lt 7, 3) := by decide +kernel
theorem dX7_offset_28 : decode cX7_offset 28 = .ok (.iconst 2, 1) := by decide +kernel
theorem dX7_offset_29 : decode cX7_offset 29 = .ok (.goto 4, 3) := by decide +kernel
theorem dX7_offset_32 : decode cX7_offset 32 = .ok (.iconst 0, 1) := by decide +kernel
theorem dX7_offset_33 : decode cX7_offset 33 = .ok (.putfield 89, 3) := by decide +kernel
theorem dX7_offset_36 : decode cX7_offset 36 = .ok (.aload_n 0, 1) := by decide +kernel
theorem dX7_offset_37 : decode cX7_offset 37 = .ok (.getfield 89, 3) := by decide +kernel
theorem dX7_offset_40 : decode cX7_offset 40 = .ok (.ifCond .le 7, 3) := by decide +kernel
theorem dX7_offset_43 : decode cX7_offset 43 = .ok (.iconst 0, 1) := by decide +kernel
theorem dX7_offset_44 : decode cX7_offset 44 = .ok (.goto 9, 3) := by decide +kernel
theorem dX7_offset_47 : decode cX7_offset 47 = .ok (.aload_n 0, 1) := by decide +kernel
theorem dX7_offset_48 : decode cX7_offset 48 = .ok (.getfield 34, 3) := by decide +kernel
theorem dX7_offset_51 : decode cX7_offset 51 = .ok (.iload_n 1, 1) := by decide +kernel
theorem dX7_offset_52 : decode cX7_offset 52 = .ok (.iaload, 1) := by decide +kernel
theorem dX7_offset_53 : decode cX7_offset 53 = .ok (.ireturn, 1) := by decide +kernel
theorem dX7_beginsIn_0 : decode cX7_beginsIn 0 = .ok (.iconst 0, 1) := by decide +kernel
theorem dX7_beginsIn_1 : decode cX7_beginsIn 1 = .ok (.istore 4, 2) := by decide +kernel
theorem dX7_beginsIn_3 : decode cX7_beginsIn 3 = .ok (.iconst 0, 1) := by decide +kernel
theorem dX7_beginsIn_4 : decode cX7_beginsIn 4 = .ok (.istore 5, 2) := by decide +kernel
theorem dX7_beginsIn_6 : decode cX7_beginsIn 6 = .ok (.iload 5, 2) := by decide +kernel
theorem dX7_beginsIn_8 : decode cX7_beginsIn 8 = .ok (.iload_n 3, 1) := by decide +kernel
theorem dX7_beginsIn_9 : decode cX7_beginsIn 9 = .ok (.if_icmp .ge 43, 3) := by decide +kernel
theorem dX7_beginsIn_12 : decode cX7_beginsIn 12 = .ok (.iload 4, 2) := by decide +kernel
theorem dX7_beginsIn_14 : decode cX7_beginsIn 14 = .ok (.aload_n 0, 1) := by decide +kernel
theorem dX7_beginsIn_15 : decode cX7_beginsIn 15 = .ok (.getfield 31, 3) := by decide +kernel
theorem dX7_beginsIn_18 : decode cX7_beginsIn 18 = .ok (.iconst 5, 1) := by decide +kernel
theorem dX7_beginsIn_19 : decode cX7_beginsIn 19 = .ok (.iload_n 1, 1) := by decide +kernel
theorem dX7_beginsIn_20 : decode cX7_beginsIn 20 = .ok (.imul, 1) := by decide +kernel
theorem dX7_beginsIn_21 : decode cX7_beginsIn 21 = .ok (.iload_n 2, 1) := by decide +kernel
theorem dX7_beginsIn_22 : decode cX7_beginsIn 22 = .ok (.iadd, 1) := by decide +kernel
theorem dX7_beginsIn_23 : decode cX7_beginsIn 23 = .ok (.iaload, 1) := by decide +kernel
theorem dX7_beginsIn_24 : decode cX7_beginsIn 24 = .ok (.iadd, 1) := by decide +kernel
theorem dX7_beginsIn_25 : decode cX7_beginsIn 25 = .ok (.aload_n 0, 1) := by decide +kernel
theorem dX7_beginsIn_26 : decode cX7_beginsIn 26 = .ok (.getfield 40, 3) := by decide +kernel
theorem dX7_beginsIn_29 : decode cX7_beginsIn 29 = .ok (.bipush 15, 2) := by decide +kernel
theorem dX7_beginsIn_31 : decode cX7_beginsIn 31 = .ok (.iload_n 1, 1) := by decide +kernel
theorem dX7_beginsIn_32 : decode cX7_beginsIn 32 = .ok (.imul, 1) := by decide +kernel
theorem dX7_beginsIn_33 : decode cX7_beginsIn 33 = .ok (.iconst 3, 1) := by decide +kernel
theorem dX7_beginsIn_34 : decode cX7_beginsIn 34 = .ok (.iload_n 2, 1) := by decide +kernel
theorem dX7_beginsIn_35 : decode cX7_beginsIn 35 = .ok (.imul, 1) := by decide +kernel
theorem dX7_beginsIn_36 : decode cX7_beginsIn 36 = .ok (.iadd, 1) := by decide +kernel
theorem dX7_beginsIn_37 : decode cX7_beginsIn 37 = .ok (.iload 5, 2) := by decide +kernel
theorem dX7_beginsIn_39 : decode cX7_beginsIn 39 = .ok (.iadd, 1) := by decide +kernel
theorem dX7_beginsIn_40 : decode cX7_beginsIn 40 = .ok (.iaload, 1) := by decide +kernel
theorem dX7_beginsIn_41 : decode cX7_beginsIn 41 = .ok (.iadd, 1) := by decide +kernel
theorem dX7_beginsIn_42 : decode cX7_beginsIn 42 = .ok (.iconst 2, 1) := by decide +kernel
theorem dX7_beginsIn_43 : decode cX7_beginsIn 43 = .ok (.iadd, 1) := by decide +kernel
theorem dX7_beginsIn_44 : decode cX7_beginsIn 44 = .ok (.istore 4, 2) := by decide +kernel
theorem dX7_beginsIn_46 : decode cX7_beginsIn 46 = .ok (.iinc 5 1, 3) := by decide +kernel
theorem dX7_beginsIn_49 : decode cX7_beginsIn 49 = .ok (.goto (-43), 3) := by decide +kernel
theorem dX7_beginsIn_52 : decode cX7_beginsIn 52 = .ok (.iload 4, 2) := by decide +kernel
theorem dX7_beginsIn_54 : decode cX7_beginsIn 54 = .ok (.ireturn, 1) := by decide +kernel
theorem dX7_spanOf_0 : decode cX7_spanOf 0 = .ok (.iconst 0, 1) := by decide +kernel
theorem dX7_spanOf_1 : decode cX7_spanOf 1 = .ok (.istore 4, 2) := by decide +kernel
theorem dX7_spanOf_3 : decode cX7_spanOf 3 = .ok (.iload 4, 2) := by decide +kernel
theorem dX7_spanOf_5 : decode cX7_spanOf 5 = .ok (.aload_n 0, 1) := by decide +kernel
theorem dX7_spanOf_6 : decode cX7_spanOf 6 = .ok (.getfield 25, 3) := by decide +kernel
theorem dX7_spanOf_9 : decode cX7_spanOf 9 = .ok (.iload_n 1, 1) := by decide +kernel
theorem dX7_spanOf_10 : decode cX7_spanOf 10 = .ok (.iaload, 1) := by decide +kernel
theorem dX7_spanOf_11 : decode cX7_spanOf 11 = .ok (.if_icmp .ge 105, 3) := by decide +kernel
theorem dX7_spanOf_14 : decode cX7_spanOf 14 = .ok (.iconst 0, 1) := by decide +kernel
theorem dX7_spanOf_15 : decode cX7_spanOf 15 = .ok (.istore 5, 2) := by decide +kernel
theorem dX7_spanOf_17 : decode cX7_spanOf 17 = .ok (.iload 5, 2) := by decide +kernel
theorem dX7_spanOf_19 : decode cX7_spanOf 19 = .ok (.iconst 3, 1) := by decide +kernel
theorem dX7_spanOf_20 : decode cX7_spanOf 20 = .ok (.if_icmp .ge 90, 3) := by decide +kernel
theorem dX7_spanOf_23 : decode cX7_spanOf 23 = .ok (.aload_n 0, 1) := by decide +kernel
theorem dX7_spanOf_24 : decode cX7_spanOf 24 = .ok (.getfield 34, 3) := by decide +kernel
theorem dX7_spanOf_27 : decode cX7_spanOf 27 = .ok (.iconst 5, 1) := by decide +kernel
theorem dX7_spanOf_28 : decode cX7_spanOf 28 = .ok (.iload_n 1, 1) := by decide +kernel
theorem dX7_spanOf_29 : decode cX7_spanOf 29 = .ok (.imul, 1) := by decide +kernel
theorem dX7_spanOf_30 : decode cX7_spanOf 30 = .ok (.iload 4, 2) := by decide +kernel
theorem dX7_spanOf_32 : decode cX7_spanOf 32 = .ok (.iadd, 1) := by decide +kernel
theorem dX7_spanOf_33 : decode cX7_spanOf 33 = .ok (.iaload, 1) := by decide +kernel
theorem dX7_spanOf_34 : decode cX7_spanOf 34 = .ok (.aload_n 0, 1) := by decide +kernel
theorem dX7_spanOf_35 : decode cX7_spanOf 35 = .ok (.iload_n 1, 1) := by decide +kernel
theorem dX7_spanOf_36 : decode cX7_spanOf 36 = .ok (.iload 4, 2) := by decide +kernel
theorem dX7_spanOf_38 : decode cX7_spanOf 38 = .ok (.iload 5, 2) := by decide +kernel
theorem dX7_spanOf_40 : decode cX7_spanOf 40 = .ok (.invokevirtual 127, 3) := by decide +kernel
theorem dX7_spanOf_43 : decode cX7_spanOf 43 = .ok (.iadd, 1) := by decide +kernel
theorem dX7_spanOf_44 : decode cX7_spanOf 44 = .ok (.iconst 1, 1) := by decide +kernel
theorem dX7_spanOf_45 : decode cX7_spanOf 45 = .ok (.isub, 1) := by decide +kernel
theorem dX7_spanOf_46 : decode cX7_spanOf 46 = .ok (.istore 6, 2) := by decide +kernel
theorem dX7_spanOf_48 : decode cX7_spanOf 48 = .ok (.aload_n 0, 1) := by decide +kernel
theorem dX7_spanOf_49 : decode cX7_spanOf 49 = .ok (.getfield 37, 3) := by decide +kernel
theorem dX7_spanOf_52 : decode cX7_spanOf 52 = .ok (.bipush 15, 2) := by decide +kernel
theorem dX7_spanOf_54 : decode cX7_spanOf 54 = .ok (.iload_n 1, 1) := by decide +kernel
theorem dX7_spanOf_55 : decode cX7_spanOf 55 = .ok (.imul, 1) := by decide +kernel
theorem dX7_spanOf_56 : decode cX7_spanOf 56 = .ok (.iconst 3, 1) := by decide +kernel
theorem dX7_spanOf_57 : decode cX7_spanOf 57 = .ok (.iload 4, 2) := by decide +kernel
theorem dX7_spanOf_59 : decode cX7_spanOf 59 = .ok (.imul, 1) := by decide +kernel
theorem dX7_spanOf_60 : decode cX7_spanOf 60 = .ok (.iadd, 1) := by decide +kernel
theorem dX7_spanOf_61 : decode cX7_spanOf 61 = .ok (.iload 5, 2) := by decide +kernel
theorem dX7_spanOf_63 : decode cX7_spanOf 63 = .ok (.iadd, 1) := by decide +kernel
theorem dX7_spanOf_64 : decode cX7_spanOf 64 = .ok (.iaload, 1) := by decide +kernel
theorem dX7_spanOf_65 : decode cX7_spanOf 65 = .ok (.iload_n 2, 1) := by decide +kernel
theorem dX7_spanOf_66 : decode cX7_spanOf 66 = .ok (.if_icmp .ne 38, 3) := by decide +kernel
theorem dX7_spanOf_69 : decode cX7_spanOf 69 = .ok (.iload_n 3, 1) := by decide +kernel
theorem dX7_spanOf_70 : decode cX7_spanOf 70 = .ok (.iload 6, 2) := by decide +kernel
theorem dX7_spanOf_72 : decode cX7_spanOf 72 = .ok (.isub, 1) := by decide +kernel
theorem dX7_spanOf_73 : decode cX7_spanOf 73 = .ok (.aload_n 0, 1) := by decide +kernel
theorem dX7_spanOf_74 : decode cX7_spanOf 74 = .ok (.getfield 28, 3) := by decide +kernel
theorem dX7_spanOf_77 : decode cX7_spanOf 77 = .ok (.iconst 5, 1) := by decide +kernel
theorem dX7_spanOf_78 : decode cX7_spanOf 78 = .ok (.iload_n 1, 1) := by decide +kernel
theorem dX7_spanOf_79 : decode cX7_spanOf 79 = .ok (.imul, 1) := by decide +kernel
theorem dX7_spanOf_80 : decode cX7_spanOf 80 = .ok (.iload 4, 2) := by decide +kernel
theorem dX7_spanOf_82 : decode cX7_spanOf 82 = .ok (.iadd, 1) := by decide +kernel
theorem dX7_spanOf_83 : decode cX7_spanOf 83 = .ok (.iaload, 1) := by decide +kernel
theorem dX7_spanOf_84 : decode cX7_spanOf 84 = .ok (.invokestatic 104, 3) := by decide +kernel
theorem dX7_spanOf_87 : decode cX7_spanOf 87 = .ok (.aload_n 0, 1) := by decide +kernel
theorem dX7_spanOf_88 : decode cX7_spanOf 88 = .ok (.getfield 31, 3) := by decide +kernel
theorem dX7_spanOf_91 : decode cX7_spanOf 91 = .ok (.iconst 5, 1) := by decide +kernel
theorem dX7_spanOf_92 : decode cX7_spanOf 92 = .ok (.iload_n 1, 1) := by decide +kernel
theorem dX7_spanOf_93 : decode cX7_spanOf 93 = .ok (.imul, 1) := by decide +kernel
theorem dX7_spanOf_94 : decode cX7_spanOf 94 = .ok (.iload 4, 2) := by decide +kernel
theorem dX7_spanOf_96 : decode cX7_spanOf 96 = .ok (.iadd, 1) := by decide +kernel
theorem dX7_spanOf_97 : decode cX7_spanOf 97 = .ok (.iaload, 1) := by decide +kernel
theorem dX7_spanOf_98 : decode cX7_spanOf 98 = .ok (.if_icmp .gt 6, 3) := by decide +kernel
theorem dX7_spanOf_101 : decode cX7_spanOf 101 = .ok (.iload 4, 2) := by decide +kernel
theorem dX7_spanOf_103 : decode cX7_spanOf 103 = .ok (.ireturn, 1) := by decide +kernel
theorem dX7_spanOf_104 : decode cX7_spanOf 104 = .ok (.iinc 5 1, 3) := by decide +kernel
theorem dX7_spanOf_107 : decode cX7_spanOf 107 = .ok (.goto (-90), 3) := by decide +kernel
theorem dX7_spanOf_110 : decode cX7_spanOf 110 = .ok (.iinc 4 1, 3) := by decide +kernel
theorem dX7_spanOf_113 : decode cX7_spanOf 113 = .ok (.goto (-110), 3) := by decide +kernel
theorem dX7_spanOf_116 : decode cX7_spanOf 116 = .ok (.iconst (-1), 1) := by decide +kernel
theorem dX7_spanOf_117 : decode cX7_spanOf 117 = .ok (.ireturn, 1) := by decide +kernel
theorem dX7_gate_0 : decode cX7_gate 0 = .ok (.aload_n 0, 1) := by decide +kernel
theorem dX7_gate_1 : decode cX7_gate 1 = .ok (.iload_n 1, 1) := by decide +kernel
theorem dX7_gate_2 : decode cX7_gate 2 = .ok (.invokestatic 93, 3) := by decide +kernel
theorem dX7_gate_5 : decode cX7_gate 5 = .ok (.ifCond .ne 7, 3) := by decide +kernel
theorem dX7_gate_8 : decode cX7_gate 8 = .ok (.iconst 1, 1) := by decide +kernel
theorem dX7_gate_9 : decode cX7_gate 9 = .ok (.goto 31, 3) := by decide +kernel
theorem dX7_gate_12 : decode cX7_gate 12 = .ok (.iload_n 2, 1) := by decide +kernel
theorem dX7_gate_13 : decode cX7_gate 13 = .ok (.ifCond .lt 9, 3) := by decide +kernel
theorem dX7_gate_16 : decode cX7_gate 16 = .ok (.iload_n 2, 1) := by decide +kernel
theorem dX7_gate_17 : decode cX7_gate 17 = .ok (.bipush 31, 2) := by decide +kernel
theorem dX7_gate_19 : decode cX7_gate 19 = .ok (.if_icmp .le 7, 3) := by decide +kernel
theorem dX7_gate_22 : decode cX7_gate 22 = .ok (.iconst 2, 1) := by decide +kernel
theorem dX7_gate_23 : decode cX7_gate 23 = .ok (.goto 17, 3) := by decide +kernel
theorem dX7_gate_26 : decode cX7_gate 26 = .ok (.aload_n 0, 1) := by decide +kernel
theorem dX7_gate_27 : decode cX7_gate 27 = .ok (.getfield 25, 3) := by decide +kernel
theorem dX7_gate_30 : decode cX7_gate 30 = .ok (.iconst 0, 1) := by decide +kernel
theorem dX7_gate_31 : decode cX7_gate 31 = .ok (.iaload, 1) := by decide +kernel
theorem dX7_gate_32 : decode cX7_gate 32 = .ok (.ifCond .ge 7, 3) := by decide +kernel
theorem dX7_gate_35 : decode cX7_gate 35 = .ok (.iconst 3, 1) := by decide +kernel
theorem dX7_gate_36 : decode cX7_gate 36 = .ok (.goto 4, 3) := by decide +kernel
theorem dX7_gate_39 : decode cX7_gate 39 = .ok (.iconst 0, 1) := by decide +kernel
theorem dX7_gate_40 : decode cX7_gate 40 = .ok (.putfield 89, 3) := by decide +kernel
theorem dX7_gate_43 : decode cX7_gate 43 = .ok (.aload_n 0, 1) := by decide +kernel
theorem dX7_gate_44 : decode cX7_gate 44 = .ok (.getfield 89, 3) := by decide +kernel
theorem dX7_gate_47 : decode cX7_gate 47 = .ok (.ifCond .le 7, 3) := by decide +kernel
theorem dX7_gate_50 : decode cX7_gate 50 = .ok (.iconst 0, 1) := by decide +kernel
theorem dX7_gate_51 : decode cX7_gate 51 = .ok (.goto 10, 3) := by decide +kernel
theorem dX7_gate_54 : decode cX7_gate 54 = .ok (.aload_n 0, 1) := by decide +kernel
theorem dX7_gate_55 : decode cX7_gate 55 = .ok (.iconst 0, 1) := by decide +kernel
theorem dX7_gate_56 : decode cX7_gate 56 = .ok (.iload_n 1, 1) := by decide +kernel
theorem dX7_gate_57 : decode cX7_gate 57 = .ok (.iload_n 2, 1) := by decide +kernel
theorem dX7_gate_58 : decode cX7_gate 58 = .ok (.invokevirtual 131, 3) := by decide +kernel
theorem dX7_gate_61 : decode cX7_gate 61 = .ok (.ireturn, 1) := by decide +kernel
theorem dX7_copy_0 : decode cX7_copy 0 = .ok (.aload_n 0, 1) := by decide +kernel
theorem dX7_copy_1 : decode cX7_copy 1 = .ok (.getfield 25, 3) := by decide +kernel
theorem dX7_copy_4 : decode cX7_copy 4 = .ok (.iload_n 2, 1) := by decide +kernel
theorem dX7_copy_5 : decode cX7_copy 5 = .ok (.aload_n 0, 1) := by decide +kernel
theorem dX7_copy_6 : decode cX7_copy 6 = .ok (.getfield 25, 3) := by decide +kernel
theorem dX7_copy_9 : decode cX7_copy 9 = .ok (.iload_n 1, 1) := by decide +kernel
theorem dX7_copy_10 : decode cX7_copy 10 = .ok (.iaload, 1) := by decide +kernel
theorem dX7_copy_11 : decode cX7_copy 11 = .ok (.iastore, 1) := by decide +kernel
theorem dX7_copy_12 : decode cX7_copy 12 = .ok (.iconst 0, 1) := by decide +kernel
theorem dX7_copy_13 : decode cX7_copy 13 = .ok (.istore_n 3, 1) := by decide +kernel
theorem dX7_copy_14 : decode cX7_copy 14 = .ok (.iload_n 3, 1) := by decide +kernel
theorem dX7_copy_15 : decode cX7_copy 15 = .ok (.iconst 5, 1) := by decide +kernel
theorem dX7_copy_16 : decode cX7_copy 16 = .ok (.if_icmp .ge 69, 3) := by decide +kernel
theorem dX7_copy_19 : decode cX7_copy 19 = .ok (.aload_n 0, 1) := by decide +kernel
theorem dX7_copy_20 : decode cX7_copy 20 = .ok (.getfield 28, 3) := by decide +kernel
theorem dX7_copy_23 : decode cX7_copy 23 = .ok (.iconst 5, 1) := by decide +kernel
theorem dX7_copy_24 : decode cX7_copy 24 = .ok (.iload_n 2, 1) := by decide +kernel
theorem dX7_copy_25 : decode cX7_copy 25 = .ok (.imul, 1) := by decide +kernel
theorem dX7_copy_26 : decode cX7_copy 26 = .ok (.iload_n 3, 1) := by decide +kernel
theorem dX7_copy_27 : decode cX7_copy 27 = .ok (.iadd, 1) := by decide +kernel
theorem dX7_copy_28 : decode cX7_copy 28 = .ok (.aload_n 0, 1) := by decide +kernel
theorem dX7_copy_29 : decode cX7_copy 29 = .ok (.getfield 28, 3) := by decide +kernel
theorem dX7_copy_32 : decode cX7_copy 32 = .ok (.iconst 5, 1) := by decide +kernel
theorem dX7_copy_33 : decode cX7_copy 33 = .ok (.iload_n 1, 1) := by decide +kernel
theorem dX7_copy_34 : decode cX7_copy 34 = .ok (.imul, 1) := by decide +kernel
theorem dX7_copy_35 : decode cX7_copy 35 = .ok (.iload_n 3, 1) := by decide +kernel
theorem dX7_copy_36 : decode cX7_copy 36 = .ok (.iadd, 1) := by decide +kernel
theorem dX7_copy_37 : decode cX7_copy 37 = .ok (.iaload, 1) := by decide +kernel
theorem dX7_copy_38 : decode cX7_copy 38 = .ok (.iastore, 1) := by decide +kernel
theorem dX7_copy_39 : decode cX7_copy 39 = .ok (.aload_n 0, 1) := by decide +kernel
theorem dX7_copy_40 : decode cX7_copy 40 = .ok (.getfield 31, 3) := by decide +kernel
theorem dX7_copy_43 : decode cX7_copy 43 = .ok (.iconst 5, 1) := by decide +kernel
theorem dX7_copy_44 : decode cX7_copy 44 = .ok (.iload_n 2, 1) := by decide +kernel
theorem dX7_copy_45 : decode cX7_copy 45 = .ok (.imul, 1) := by decide +kernel
theorem dX7_copy_46 : decode cX7_copy 46 = .ok (.iload_n 3, 1) := by decide +kernel
theorem dX7_copy_47 : decode cX7_copy 47 = .ok (.iadd, 1) := by decide +kernel
theorem dX7_copy_48 : decode cX7_copy 48 = .ok (.aload_n 0, 1) := by decide +kernel
theorem dX7_copy_49 : decode cX7_copy 49 = .ok (.getfield 31, 3) := by decide +kernel
theorem dX7_copy_52 : decode cX7_copy 52 = .ok (.iconst 5, 1) := by decide +kernel
theorem dX7_copy_53 : decode cX7_copy 53 = .ok (.iload_n 1, 1) := by decide +kernel
theorem dX7_copy_54 : decode cX7_copy 54 = .ok (.imul, 1) := by decide +kernel
theorem dX7_copy_55 : decode cX7_copy 55 = .ok (.iload_n 3, 1) := by decide +kernel
theorem dX7_copy_56 : decode cX7_copy 56 = .ok (.iadd, 1) := by decide +kernel
theorem dX7_copy_57 : decode cX7_copy 57 = .ok (.iaload, 1) := by decide +kernel
theorem dX7_copy_58 : decode cX7_copy 58 = .ok (.iastore, 1) := by decide +kernel
theorem dX7_copy_59 : decode cX7_copy 59 = .ok (.aload_n 0, 1) := by decide +kernel
theorem dX7_copy_60 : decode cX7_copy 60 = .ok (.getfield 34, 3) := by decide +kernel
theorem dX7_copy_63 : decode cX7_copy 63 = .ok (.iconst 5, 1) := by decide +kernel
theorem dX7_copy_64 : decode cX7_copy 64 = .ok (.iload_n 2, 1) := by decide +kernel
theorem dX7_copy_65 : decode cX7_copy 65 = .ok (.imul, 1) := by decide +kernel
theorem dX7_copy_66 : decode cX7_copy 66 = .ok (.iload_n 3, 1) := by decide +kernel
theorem dX7_copy_67 : decode cX7_copy 67 = .ok (.iadd, 1) := by decide +kernel
theorem dX7_copy_68 : decode cX7_copy 68 = .ok (.aload_n 0, 1) := by decide +kernel
theorem dX7_copy_69 : decode cX7_copy 69 = .ok (.getfield 34, 3) := by decide +kernel
theorem dX7_copy_72 : decode cX7_copy 72 = .ok (.iconst 5, 1) := by decide +kernel
theorem dX7_copy_73 : decode cX7_copy 73 = .ok (.iload_n 1, 1) := by decide +kernel
theorem dX7_copy_74 : decode cX7_copy 74 = .ok (.imul, 1) := by decide +kernel
theorem dX7_copy_75 : decode cX7_copy 75 = .ok (.iload_n 3, 1) := by decide +kernel
theorem dX7_copy_76 : decode cX7_copy 76 = .ok (.iadd, 1) := by decide +kernel
theorem dX7_copy_77 : decode cX7_copy 77 = .ok (.iaload, 1) := by decide +kernel
theorem dX7_copy_78 : decode cX7_copy 78 = .ok (.iastore, 1) := by decide +kernel
theorem dX7_copy_79 : decode cX7_copy 79 = .ok (.iinc 3 1, 3) := by decide +kernel
theorem dX7_copy_82 : decode cX7_copy 82 = .ok (.goto (-68), 3) := by decide +kernel
theorem dX7_copy_85 : decode cX7_copy 85 = .ok (.iconst 0, 1) := by decide +kernel
theorem dX7_copy_86 : decode cX7_copy 86 = .ok (.istore_n 3, 1) := by decide +kernel
theorem dX7_copy_87 : decode cX7_copy 87 = .ok (.iload_n 3, 1) := by decide +kernel
theorem dX7_copy_88 : decode cX7_copy 88 = .ok (.bipush 15, 2) := by decide +kernel
theorem dX7_copy_90 : decode cX7_copy 90 = .ok (.if_icmp .ge 53, 3) := by decide +kernel
theorem dX7_copy_93 : decode cX7_copy 93 = .ok (.aload_n 0, 1) := by decide +kernel
theorem dX7_copy_94 : decode cX7_copy 94 = .ok (.getfield 37, 3) := by decide +kernel
theorem dX7_copy_97 : decode cX7_copy 97 = .ok (.bipush 15, 2) := by decide +kernel
theorem dX7_copy_99 : decode cX7_copy 99 = .ok (.iload_n 2, 1) := by decide +kernel
theorem dX7_copy_100 : decode cX7_copy 100 = .ok (.imul, 1) := by decide +kernel
theorem dX7_copy_101 : decode cX7_copy 101 = .ok (.iload_n 3, 1) := by decide +kernel
theorem dX7_copy_102 : decode cX7_copy 102 = .ok (.iadd, 1) := by decide +kernel
theorem dX7_copy_103 : decode cX7_copy 103 = .ok (.aload_n 0, 1) := by decide +kernel
theorem dX7_copy_104 : decode cX7_copy 104 = .ok (.getfield 37, 3) := by decide +kernel
theorem dX7_copy_107 : decode cX7_copy 107 = .ok (.bipush 15, 2) := by decide +kernel
theorem dX7_copy_109 : decode cX7_copy 109 = .ok (.iload_n 1, 1) := by decide +kernel
theorem dX7_copy_110 : decode cX7_copy 110 = .ok (.imul, 1) := by decide +kernel
theorem dX7_copy_111 : decode cX7_copy 111 = .ok (.iload_n 3, 1) := by decide +kernel
theorem dX7_copy_112 : decode cX7_copy 112 = .ok (.iadd, 1) := by decide +kernel
theorem dX7_copy_113 : decode cX7_copy 113 = .ok (.iaload, 1) := by decide +kernel
theorem dX7_copy_114 : decode cX7_copy 114 = .ok (.iastore, 1) := by decide +kernel
theorem dX7_copy_115 : decode cX7_copy 115 = .ok (.aload_n 0, 1) := by decide +kernel
theorem dX7_copy_116 : decode cX7_copy 116 = .ok (.getfield 40, 3) := by decide +kernel
theorem dX7_copy_119 : decode cX7_copy 119 = .ok (.bipush 15, 2) := by decide +kernel
theorem dX7_copy_121 : decode cX7_copy 121 = .ok (.iload_n 2, 1) := by decide +kernel
theorem dX7_copy_122 : decode cX7_copy 122 = .ok (.imul, 1) := by decide +kernel
theorem dX7_copy_123 : decode cX7_copy 123 = .ok (.iload_n 3, 1) := by decide +kernel
theorem dX7_copy_124 : decode cX7_copy 124 = .ok (.iadd, 1) := by decide +kernel
theorem dX7_copy_125 : decode cX7_copy 125 = .ok (.aload_n 0, 1) := by decide +kernel
theorem dX7_copy_126 : decode cX7_copy 126 = .ok (.getfield 40, 3) := by decide +kernel
theorem dX7_copy_129 : decode cX7_copy 129 = .ok (.bipush 15, 2) := by decide +kernel
theorem dX7_copy_131 : decode cX7_copy 131 = .ok (.iload_n 1, 1) := by decide +kernel
theorem dX7_copy_132 : decode cX7_copy 132 = .ok (.imul, 1) := by decide +kernel
theorem dX7_copy_133 : decode cX7_copy 133 = .ok (.iload_n 3, 1) := by decide +kernel
theorem dX7_copy_134 : decode cX7_copy 134 = .ok (.iadd, 1) := by decide +kernel
theorem dX7_copy_135 : decode cX7_copy 135 = .ok (.iaload, 1) := by decide +kernel
theorem dX7_copy_136 : decode cX7_copy 136 = .ok (.iastore, 1) := by decide +kernel
theorem dX7_copy_137 : decode cX7_copy 137 = .ok (.iinc 3 1, 3) := by decide +kernel
theorem dX7_copy_140 : decode cX7_copy 140 = .ok (.goto (-53), 3) := by decide +kernel
theorem dX7_copy_143 : decode cX7_copy 143 = .ok (.return_, 1) := by decide +kernel
theorem dX7_activate_0 : decode cX7_activate 0 = .ok (.aload_n 0, 1) := by decide +kernel
theorem dX7_activate_1 : decode cX7_activate 1 = .ok (.aload_n 0, 1) := by decide +kernel
theorem dX7_activate_2 : decode cX7_activate 2 = .ok (.getfield 25, 3) := by decide +kernel
theorem dX7_activate_5 : decode cX7_activate 5 = .ok (.iconst 0, 1) := by decide +kernel
theorem dX7_activate_6 : decode cX7_activate 6 = .ok (.iaload, 1) := by decide +kernel
theorem dX7_activate_7 : decode cX7_activate 7 = .ok (.ifCond .ge 7, 3) := by decide +kernel
theorem dX7_activate_10 : decode cX7_activate 10 = .ok (.iconst 1, 1) := by decide +kernel
theorem dX7_activate_11 : decode cX7_activate 11 = .ok (.goto 4, 3) := by decide +kernel
theorem dX7_activate_14 : decode cX7_activate 14 = .ok (.iconst 0, 1) := by decide +kernel
theorem dX7_activate_15 : decode cX7_activate 15 = .ok (.putfield 89, 3) := by decide +kernel
theorem dX7_activate_18 : decode cX7_activate 18 = .ok (.aload_n 0, 1) := by decide +kernel
theorem dX7_activate_19 : decode cX7_activate 19 = .ok (.getfield 89, 3) := by decide +kernel
theorem dX7_activate_22 : decode cX7_activate 22 = .ok (.ifCond .ne 9, 3) := by decide +kernel
theorem dX7_activate_25 : decode cX7_activate 25 = .ok (.aload_n 0, 1) := by decide +kernel
theorem dX7_activate_26 : decode cX7_activate 26 = .ok (.iconst 0, 1) := by decide +kernel
theorem dX7_activate_27 : decode cX7_activate 27 = .ok (.iconst 1, 1) := by decide +kernel
theorem dX7_activate_28 : decode cX7_activate 28 = .ok (.invokevirtual 134, 3) := by decide +kernel
theorem dX7_activate_31 : decode cX7_activate 31 = .ok (.return_, 1) := by decide +kernel
theorem dX7_isQuiet_0 : decode cX7_isQuiet 0 = .ok (.aload_n 0, 1) := by decide +kernel
theorem dX7_isQuiet_1 : decode cX7_isQuiet 1 = .ok (.getfield 138, 3) := by decide +kernel
theorem dX7_isQuiet_4 : decode cX7_isQuiet 4 = .ok (.ifCond .ne 7, 3) := by decide +kernel
theorem dX7_isQuiet_7 : decode cX7_isQuiet 7 = .ok (.iconst 1, 1) := by decide +kernel
theorem dX7_isQuiet_8 : decode cX7_isQuiet 8 = .ok (.goto 4, 3) := by decide +kernel
theorem dX7_isQuiet_11 : decode cX7_isQuiet 11 = .ok (.iconst 0, 1) := by decide +kernel
theorem dX7_isQuiet_12 : decode cX7_isQuiet 12 = .ok (.istore_n 1, 1) := by decide +kernel
theorem dX7_isQuiet_13 : decode cX7_isQuiet 13 = .ok (.iconst 0, 1) := by decide +kernel
theorem dX7_isQuiet_14 : decode cX7_isQuiet 14 = .ok (.istore_n 2, 1) := by decide +kernel
theorem dX7_isQuiet_15 : decode cX7_isQuiet 15 = .ok (.iload_n 2, 1) := by decide +kernel
theorem dX7_isQuiet_16 : decode cX7_isQuiet 16 = .ok (.bipush 6, 2) := by decide +kernel
theorem dX7_isQuiet_18 : decode cX7_isQuiet 18 = .ok (.if_icmp .ge 28, 3) := by decide +kernel
theorem dX7_isQuiet_21 : decode cX7_isQuiet 21 = .ok (.iload_n 1, 1) := by decide +kernel
theorem dX7_isQuiet_22 : decode cX7_isQuiet 22 = .ok (.ifCond .eq 16, 3) := by decide +kernel
theorem dX7_isQuiet_25 : decode cX7_isQuiet 25 = .ok (.aload_n 0, 1) := by decide +kernel
theorem dX7_isQuiet_26 : decode cX7_isQuiet 26 = .ok (.getfield 83, 3) := by decide +kernel
theorem dX7_isQuiet_29 : decode cX7_isQuiet 29 = .ok (.iload_n 2, 1) := by decide +kernel
theorem dX7_isQuiet_30 : decode cX7_isQuiet 30 = .ok (.iaload, 1) := by decide +kernel
theorem dX7_isQuiet_31 : decode cX7_isQuiet 31 = .ok (.ifCond .ne 7, 3) := by decide +kernel
theorem dX7_isQuiet_34 : decode cX7_isQuiet 34 = .ok (.iconst 1, 1) := by decide +kernel
theorem dX7_isQuiet_35 : decode cX7_isQuiet 35 = .ok (.goto 4, 3) := by decide +kernel
theorem dX7_isQuiet_38 : decode cX7_isQuiet 38 = .ok (.iconst 0, 1) := by decide +kernel
theorem dX7_isQuiet_39 : decode cX7_isQuiet 39 = .ok (.istore_n 1, 1) := by decide +kernel
theorem dX7_isQuiet_40 : decode cX7_isQuiet 40 = .ok (.iinc 2 1, 3) := by decide +kernel
theorem dX7_isQuiet_43 : decode cX7_isQuiet 43 = .ok (.goto (-28), 3) := by decide +kernel
theorem dX7_isQuiet_46 : decode cX7_isQuiet 46 = .ok (.iload_n 1, 1) := by decide +kernel
theorem dX7_isQuiet_47 : decode cX7_isQuiet 47 = .ok (.ireturn, 1) := by decide +kernel
theorem dX7_comeIntoForce_0 : decode cX7_comeIntoForce 0 = .ok (.aload_n 0, 1) := by decide +kernel
theorem dX7_comeIntoForce_1 : decode cX7_comeIntoForce 1 = .ok (.iconst 1, 1) := by decide +kernel
theorem dX7_comeIntoForce_2 : decode cX7_comeIntoForce 2 = .ok (.iconst 2, 1) := by decide +kernel
theorem dX7_comeIntoForce_3 : decode cX7_comeIntoForce 3 = .ok (.invokevirtual 134, 3) := by decide +kernel
theorem dX7_comeIntoForce_6 : decode cX7_comeIntoForce 6 = .ok (.aload_n 0, 1) := by decide +kernel
theorem dX7_comeIntoForce_7 : decode cX7_comeIntoForce 7 = .ok (.getfield 25, 3) := by decide +kernel
theorem dX7_comeIntoForce_10 : decode cX7_comeIntoForce 10 = .ok (.iconst 1, 1) := by decide +kernel
theorem dX7_comeIntoForce_11 : decode cX7_comeIntoForce 11 = .ok (.iconst (-1), 1) := by decide +kernel
theorem dX7_comeIntoForce_12 : decode cX7_comeIntoForce 12 = .ok (.iastore, 1) := by decide +kernel
theorem dX7_comeIntoForce_13 : decode cX7_comeIntoForce 13 = .ok (.iconst 0, 1) := by decide +kernel
theorem dX7_comeIntoForce_14 : decode cX7_comeIntoForce 14 = .ok (.istore_n 1, 1) := by decide +kernel
theorem dX7_comeIntoForce_15 : decode cX7_comeIntoForce 15 = .ok (.iload_n 1, 1) := by decide +kernel
theorem dX7_comeIntoForce_16 : decode cX7_comeIntoForce 16 = .ok (.iconst 5, 1) := by decide +kernel
theorem dX7_comeIntoForce_17 : decode cX7_comeIntoForce 17 = .ok (.if_icmp .ge 58, 3) := by decide +kernel
theorem dX7_comeIntoForce_20 : decode cX7_comeIntoForce 20 = .ok (.aload_n 0, 1) := by decide +kernel
theorem dX7_comeIntoForce_21 : decode cX7_comeIntoForce 21 = .ok (.getfield 46, 3) := by decide +kernel
theorem dX7_comeIntoForce_24 : decode cX7_comeIntoForce 24 = .ok (.iload_n 1, 1) := by decide +kernel
theorem dX7_comeIntoForce_25 : decode cX7_comeIntoForce 25 = .ok (.iconst 0, 1) := by decide +kernel
theorem dX7_comeIntoForce_26 : decode cX7_comeIntoForce 26 = .ok (.bastore, 1) := by decide +kernel
theorem dX7_comeIntoForce_27 : decode cX7_comeIntoForce 27 = .ok (.aload_n 0, 1) := by decide +kernel
theorem dX7_comeIntoForce_28 : decode cX7_comeIntoForce 28 = .ok (.getfield 50, 3) := by decide +kernel
theorem dX7_comeIntoForce_31 : decode cX7_comeIntoForce 31 = .ok (.iload_n 1, 1) := by decide +kernel
theorem dX7_comeIntoForce_32 : decode cX7_comeIntoForce 32 = .ok (.iconst 0, 1) := by decide +kernel
theorem dX7_comeIntoForce_33 : decode cX7_comeIntoForce 33 = .ok (.iastore, 1) := by decide +kernel
theorem dX7_comeIntoForce_34 : decode cX7_comeIntoForce 34 = .ok (.aload_n 0, 1) := by decide +kernel
theorem dX7_comeIntoForce_35 : decode cX7_comeIntoForce 35 = .ok (.getfield 53, 3) := by decide +kernel
theorem dX7_comeIntoForce_38 : decode cX7_comeIntoForce 38 = .ok (.iload_n 1, 1) := by decide +kernel
theorem dX7_comeIntoForce_39 : decode cX7_comeIntoForce 39 = .ok (.iconst 0, 1) := by decide +kernel
theorem dX7_comeIntoForce_40 : decode cX7_comeIntoForce 40 = .ok (.bastore, 1) := by decide +kernel
theorem dX7_comeIntoForce_41 : decode cX7_comeIntoForce 41 = .ok (.aload_n 0, 1) := by decide +kernel
theorem dX7_comeIntoForce_42 : decode cX7_comeIntoForce 42 = .ok (.getfield 56, 3) := by decide +kernel
theorem dX7_comeIntoForce_45 : decode cX7_comeIntoForce 45 = .ok (.iload_n 1, 1) := by decide +kernel
theorem dX7_comeIntoForce_46 : decode cX7_comeIntoForce 46 = .ok (.iconst 0, 1) := by decide +kernel
theorem dX7_comeIntoForce_47 : decode cX7_comeIntoForce 47 = .ok (.iastore, 1) := by decide +kernel
theorem dX7_comeIntoForce_48 : decode cX7_comeIntoForce 48 = .ok (.aload_n 0, 1) := by decide +kernel
theorem dX7_comeIntoForce_49 : decode cX7_comeIntoForce 49 = .ok (.getfield 59, 3) := by decide +kernel
theorem dX7_comeIntoForce_52 : decode cX7_comeIntoForce 52 = .ok (.iload_n 1, 1) := by decide +kernel
theorem dX7_comeIntoForce_53 : decode cX7_comeIntoForce 53 = .ok (.iconst 0, 1) := by decide +kernel
theorem dX7_comeIntoForce_54 : decode cX7_comeIntoForce 54 = .ok (.iastore, 1) := by decide +kernel
theorem dX7_comeIntoForce_55 : decode cX7_comeIntoForce 55 = .ok (.aload_n 0, 1) := by decide +kernel
theorem dX7_comeIntoForce_56 : decode cX7_comeIntoForce 56 = .ok (.getfield 62, 3) := by decide +kernel
theorem dX7_comeIntoForce_59 : decode cX7_comeIntoForce 59 = .ok (.iload_n 1, 1) := by decide +kernel
theorem dX7_comeIntoForce_60 : decode cX7_comeIntoForce 60 = .ok (.iconst 0, 1) := by decide +kernel
theorem dX7_comeIntoForce_61 : decode cX7_comeIntoForce 61 = .ok (.iastore, 1) := by decide +kernel
theorem dX7_comeIntoForce_62 : decode cX7_comeIntoForce 62 = .ok (.aload_n 0, 1) := by decide +kernel
theorem dX7_comeIntoForce_63 : decode cX7_comeIntoForce 63 = .ok (.getfield 65, 3) := by decide +kernel
theorem dX7_comeIntoForce_66 : decode cX7_comeIntoForce 66 = .ok (.iload_n 1, 1) := by decide +kernel
theorem dX7_comeIntoForce_67 : decode cX7_comeIntoForce 67 = .ok (.iconst (-1), 1) := by decide +kernel
theorem dX7_comeIntoForce_68 : decode cX7_comeIntoForce 68 = .ok (.iastore, 1) := by decide +kernel
theorem dX7_comeIntoForce_69 : decode cX7_comeIntoForce 69 = .ok (.iinc 1 1, 3) := by decide +kernel
theorem dX7_comeIntoForce_72 : decode cX7_comeIntoForce 72 = .ok (.goto (-57), 3) := by decide +kernel
theorem dX7_comeIntoForce_75 : decode cX7_comeIntoForce 75 = .ok (.return_, 1) := by decide +kernel
theorem dX7_talkAll_0 : decode cX7_talkAll 0 = .ok (.iconst 0, 1) := by decide +kernel
theorem dX7_talkAll_1 : decode cX7_talkAll 1 = .ok (.istore_n 1, 1) := by decide +kernel
theorem dX7_talkAll_2 : decode cX7_talkAll 2 = .ok (.iload_n 1, 1) := by decide +kernel
theorem dX7_talkAll_3 : decode cX7_talkAll 3 = .ok (.aload_n 0, 1) := by decide +kernel
theorem dX7_talkAll_4 : decode cX7_talkAll 4 = .ok (.getfield 25, 3) := by decide +kernel
theorem dX7_talkAll_7 : decode cX7_talkAll 7 = .ok (.iconst 2, 1) := by decide +kernel
theorem dX7_talkAll_8 : decode cX7_talkAll 8 = .ok (.iaload, 1) := by decide +kernel
theorem dX7_talkAll_9 : decode cX7_talkAll 9 = .ok (.if_icmp .ge 128, 3) := by decide +kernel
theorem dX7_talkAll_12 : decode cX7_talkAll 12 = .ok (.aload_n 0, 1) := by decide +kernel
theorem dX7_talkAll_13 : decode cX7_talkAll 13 = .ok (.getfield 141, 3) := by decide +kernel
theorem dX7_talkAll_16 : decode cX7_talkAll 16 = .ok (.aload_n 0, 1) := by decide +kernel
theorem dX7_talkAll_17 : decode cX7_talkAll 17 = .ok (.getfield 50, 3) := by decide +kernel
theorem dX7_talkAll_20 : decode cX7_talkAll 20 = .ok (.iload_n 1, 1) := by decide +kernel
theorem dX7_talkAll_21 : decode cX7_talkAll 21 = .ok (.iaload, 1) := by decide +kernel
theorem dX7_talkAll_22 : decode cX7_talkAll 22 = .ok (.isub, 1) := by decide +kernel
theorem dX7_talkAll_23 : decode cX7_talkAll 23 = .ok (.istore_n 2, 1) := by decide +kernel
theorem dX7_talkAll_24 : decode cX7_talkAll 24 = .ok (.aload_n 0, 1) := by decide +kernel
theorem dX7_talkAll_25 : decode cX7_talkAll 25 = .ok (.getfield 46, 3) := by decide +kernel
theorem dX7_talkAll_28 : decode cX7_talkAll 28 = .ok (.iload_n 1, 1) := by decide +kernel
theorem dX7_talkAll_29 : decode cX7_talkAll 29 = .ok (.baload, 1) := by decide +kernel
theorem dX7_talkAll_30 : decode cX7_talkAll 30 = .ok (.ifCond .ne 101, 3) := by decide +kernel
theorem dX7_talkAll_33 : decode cX7_talkAll 33 = .ok (.iload_n 2, 1) := by decide +kernel
theorem dX7_talkAll_34 : decode cX7_talkAll 34 = .ok (.ifCond .lt 97, 3) := by decide +kernel
theorem dX7_talkAll_37 : decode cX7_talkAll 37 = .ok (.iload_n 2, 1) := by decide +kernel
theorem dX7_talkAll_38 : decode cX7_talkAll 38 = .ok (.aload_n 0, 1) := by decide +kernel
theorem dX7_talkAll_39 : decode cX7_talkAll 39 = .ok (.getfield 28, 3) := by decide +kernel
theorem dX7_talkAll_42 : decode cX7_talkAll 42 = .ok (.bipush 10, 2) := by decide +kernel
theorem dX7_talkAll_44 : decode cX7_talkAll 44 = .ok (.iload_n 1, 1) := by decide +kernel
theorem dX7_talkAll_45 : decode cX7_talkAll 45 = .ok (.iadd, 1) := by decide +kernel
theorem dX7_talkAll_46 : decode cX7_talkAll 46 = .ok (.iaload, 1) := by decide +kernel
theorem dX7_talkAll_47 : decode cX7_talkAll 47 = .ok (.irem, 1) := by decide +kernel
theorem dX7_talkAll_48 : decode cX7_talkAll 48 = .ok (.aload_n 0, 1) := by decide +kernel
theorem dX7_talkAll_49 : decode cX7_talkAll 49 = .ok (.getfield 34, 3) := by decide +kernel
theorem dX7_talkAll_52 : decode cX7_talkAll 52 = .ok (.bipush 10, 2) := by decide +kernel
theorem dX7_talkAll_54 : decode cX7_talkAll 54 = .ok (.iload_n 1, 1) := by decide +kernel
theorem dX7_talkAll_55 : decode cX7_talkAll 55 = .ok (.iadd, 1) := by decide +kernel
theorem dX7_talkAll_56 : decode cX7_talkAll 56 = .ok (.iaload, 1) := by decide +kernel
theorem dX7_talkAll_57 : decode cX7_talkAll 57 = .ok (.if_icmp .ne 74, 3) := by decide +kernel
theorem dX7_talkAll_60 : decode cX7_talkAll 60 = .ok (.aload_n 0, 1) := by decide +kernel
theorem dX7_talkAll_61 : decode cX7_talkAll 61 = .ok (.getfield 50, 3) := by decide +kernel
theorem dX7_talkAll_64 : decode cX7_talkAll 64 = .ok (.iload_n 1, 1) := by decide +kernel
theorem dX7_talkAll_65 : decode cX7_talkAll 65 = .ok (.iaload, 1) := by decide +kernel
theorem dX7_talkAll_66 : decode cX7_talkAll 66 = .ok (.ifCond .gt 12, 3) := by decide +kernel
theorem dX7_talkAll_69 : decode cX7_talkAll 69 = .ok (.aload_n 0, 1) := by decide +kernel
theorem dX7_talkAll_70 : decode cX7_talkAll 70 = .ok (.getfield 53, 3) := by decide +kernel
theorem dX7_talkAll_73 : decode cX7_talkAll 73 = .ok (.iload_n 1, 1) := by decide +kernel
theorem dX7_talkAll_74 : decode cX7_talkAll 74 = .ok (.baload, 1) := by decide +kernel
theorem dX7_talkAll_75 : decode cX7_talkAll 75 = .ok (.ifCond .eq 23, 3) := by decide +kernel
theorem dX7_talkAll_78 : decode cX7_talkAll 78 = .ok (.aload_n 0, 1) := by decide +kernel
theorem dX7_talkAll_79 : decode cX7_talkAll 79 = .ok (.getfield 62, 3) := by decide +kernel
theorem dX7_talkAll_82 : decode cX7_talkAll 82 = .ok (.iload_n 1, 1) := by decide +kernel
theorem dX7_talkAll_83 : decode cX7_talkAll 83 = .ok (.dup2, 1) := by decide +kernel
theorem dX7_talkAll_84 : decode cX7_talkAll 84 = .ok (.iaload, 1) := by decide +kernel
theorem dX7_talkAll_85 : decode cX7_talkAll 85 = .ok (.iconst 1, 1) := by decide +kernel
theorem dX7_talkAll_86 : decode cX7_talkAll 86 = .ok (.iadd, 1) := by decide +kernel
theorem dX7_talkAll_87 : decode cX7_talkAll 87 = .ok (.iastore, 1) := by decide +kernel
theorem dX7_talkAll_88 : decode cX7_talkAll 88 = .ok (.aload_n 0, 1) := by decide +kernel
theorem dX7_talkAll_89 : decode cX7_talkAll 89 = .ok (.getfield 53, 3) := by decide +kernel
theorem dX7_talkAll_92 : decode cX7_talkAll 92 = .ok (.iload_n 1, 1) := by decide +kernel
theorem dX7_talkAll_93 : decode cX7_talkAll 93 = .ok (.iconst 1, 1) := by decide +kernel
theorem dX7_talkAll_94 : decode cX7_talkAll 94 = .ok (.bastore, 1) := by decide +kernel
theorem dX7_talkAll_95 : decode cX7_talkAll 95 = .ok (.goto 36, 3) := by decide +kernel
theorem dX7_talkAll_98 : decode cX7_talkAll 98 = .ok (.aload_n 0, 1) := by decide +kernel
theorem dX7_talkAll_99 : decode cX7_talkAll 99 = .ok (.getfield 68, 3) := by decide +kernel
theorem dX7_talkAll_102 : decode cX7_talkAll 102 = .ok (.aload_n 0, 1) := by decide +kernel
theorem dX7_talkAll_103 : decode cX7_talkAll 103 = .ok (.getfield 138, 3) := by decide +kernel
theorem dX7_talkAll_106 : decode cX7_talkAll 106 = .ok (.iload_n 1, 1) := by decide +kernel
theorem dX7_talkAll_107 : decode cX7_talkAll 107 = .ok (.iastore, 1) := by decide +kernel
theorem dX7_talkAll_108 : decode cX7_talkAll 108 = .ok (.aload_n 0, 1) := by decide +kernel
theorem dX7_talkAll_109 : decode cX7_talkAll 109 = .ok (.getfield 71, 3) := by decide +kernel
theorem dX7_talkAll_112 : decode cX7_talkAll 112 = .ok (.aload_n 0, 1) := by decide +kernel
theorem dX7_talkAll_113 : decode cX7_talkAll 113 = .ok (.getfield 138, 3) := by decide +kernel
theorem dX7_talkAll_116 : decode cX7_talkAll 116 = .ok (.aload_n 0, 1) := by decide +kernel
theorem dX7_talkAll_117 : decode cX7_talkAll 117 = .ok (.getfield 141, 3) := by decide +kernel
theorem dX7_talkAll_120 : decode cX7_talkAll 120 = .ok (.iastore, 1) := by decide +kernel
theorem dX7_talkAll_121 : decode cX7_talkAll 121 = .ok (.aload_n 0, 1) := by decide +kernel
theorem dX7_talkAll_122 : decode cX7_talkAll 122 = .ok (.dup, 1) := by decide +kernel
theorem dX7_talkAll_123 : decode cX7_talkAll 123 = .ok (.getfield 138, 3) := by decide +kernel
theorem dX7_talkAll_126 : decode cX7_talkAll 126 = .ok (.iconst 1, 1) := by decide +kernel
theorem dX7_talkAll_127 : decode cX7_talkAll 127 = .ok (.iadd, 1) := by decide +kernel
theorem dX7_talkAll_128 : decode cX7_talkAll 128 = .ok (.putfield 138, 3) := by decide +kernel
theorem dX7_talkAll_131 : decode cX7_talkAll 131 = .ok (.iinc 1 1, 3) := by decide +kernel
theorem dX7_talkAll_134 : decode cX7_talkAll 134 = .ok (.goto (-132), 3) := by decide +kernel
theorem dX7_talkAll_137 : decode cX7_talkAll 137 = .ok (.return_, 1) := by decide +kernel
theorem dX7_linkOf_0 : decode cX7_linkOf 0 = .ok (.aload_n 0, 1) := by decide +kernel
theorem dX7_linkOf_1 : decode cX7_linkOf 1 = .ok (.getfield 37, 3) := by decide +kernel
theorem dX7_linkOf_4 : decode cX7_linkOf 4 = .ok (.bipush 30, 2) := by decide +kernel
theorem dX7_linkOf_6 : decode cX7_linkOf 6 = .ok (.iconst 3, 1) := by decide +kernel
theorem dX7_linkOf_7 : decode cX7_linkOf 7 = .ok (.iload_n 1, 1) := by decide +kernel
theorem dX7_linkOf_8 : decode cX7_linkOf 8 = .ok (.imul, 1) := by decide +kernel
theorem dX7_linkOf_9 : decode cX7_linkOf 9 = .ok (.iadd, 1) := by decide +kernel
theorem dX7_linkOf_10 : decode cX7_linkOf 10 = .ok (.iload_n 2, 1) := by decide +kernel
theorem dX7_linkOf_11 : decode cX7_linkOf 11 = .ok (.iadd, 1) := by decide +kernel
theorem dX7_linkOf_12 : decode cX7_linkOf 12 = .ok (.iaload, 1) := by decide +kernel
theorem dX7_linkOf_13 : decode cX7_linkOf 13 = .ok (.ireturn, 1) := by decide +kernel
theorem dX7_beginOf_0 : decode cX7_beginOf 0 = .ok (.aload_n 0, 1) := by decide +kernel
theorem dX7_beginOf_1 : decode cX7_beginOf 1 = .ok (.getfield 71, 3) := by decide +kernel
theorem dX7_beginOf_4 : decode cX7_beginOf 4 = .ok (.iload_n 1, 1) := by decide +kernel
theorem dX7_beginOf_5 : decode cX7_beginOf 5 = .ok (.iaload, 1) := by decide +kernel
theorem dX7_beginOf_6 : decode cX7_beginOf 6 = .ok (.aload_n 0, 1) := by decide +kernel
theorem dX7_beginOf_7 : decode cX7_beginOf 7 = .ok (.iconst 2, 1) := by decide +kernel
theorem dX7_beginOf_8 : decode cX7_beginOf 8 = .ok (.aload_n 0, 1) := by decide +kernel
theorem dX7_beginOf_9 : decode cX7_beginOf 9 = .ok (.getfield 68, 3) := by decide +kernel
theorem dX7_beginOf_12 : decode cX7_beginOf 12 = .ok (.iload_n 1, 1) := by decide +kernel
theorem dX7_beginOf_13 : decode cX7_beginOf 13 = .ok (.iaload, 1) := by decide +kernel
theorem dX7_beginOf_14 : decode cX7_beginOf 14 = .ok (.iload_n 2, 1) := by decide +kernel
theorem dX7_beginOf_15 : decode cX7_beginOf 15 = .ok (.invokevirtual 127, 3) := by decide +kernel
theorem dX7_beginOf_18 : decode cX7_beginOf 18 = .ok (.iadd, 1) := by decide +kernel
theorem dX7_beginOf_19 : decode cX7_beginOf 19 = .ok (.ireturn, 1) := by decide +kernel
theorem dX7_throughOf_0 : decode cX7_throughOf 0 = .ok (.aload_n 0, 1) := by decide +kernel
theorem dX7_throughOf_1 : decode cX7_throughOf 1 = .ok (.getfield 68, 3) := by decide +kernel
theorem dX7_throughOf_4 : decode cX7_throughOf 4 = .ok (.iload_n 1, 1) := by decide +kernel
theorem dX7_throughOf_5 : decode cX7_throughOf 5 = .ok (.iaload, 1) := by decide +kernel
theorem dX7_throughOf_6 : decode cX7_throughOf 6 = .ok (.istore_n 3, 1) := by decide +kernel
theorem dX7_throughOf_7 : decode cX7_throughOf 7 = .ok (.aload_n 0, 1) := by decide +kernel
theorem dX7_throughOf_8 : decode cX7_throughOf 8 = .ok (.iload_n 1, 1) := by decide +kernel
theorem dX7_throughOf_9 : decode cX7_throughOf 9 = .ok (.iload_n 2, 1) := by decide +kernel
theorem dX7_throughOf_10 : decode cX7_throughOf 10 = .ok (.invokevirtual 144, 3) := by decide +kernel
theorem dX7_throughOf_13 : decode cX7_throughOf 13 = .ok (.aload_n 0, 1) := by decide +kernel
theorem dX7_throughOf_14 : decode cX7_throughOf 14 = .ok (.getfield 31, 3) := by decide +kernel
theorem dX7_throughOf_17 : decode cX7_throughOf 17 = .ok (.bipush 10, 2) := by decide +kernel
theorem dX7_throughOf_19 : decode cX7_throughOf 19 = .ok (.iload_n 3, 1) := by decide +kernel
theorem dX7_throughOf_20 : decode cX7_throughOf 20 = .ok (.iadd, 1) := by decide +kernel
theorem dX7_throughOf_21 : decode cX7_throughOf 21 = .ok (.iaload, 1) := by decide +kernel
theorem dX7_throughOf_22 : decode cX7_throughOf 22 = .ok (.iadd, 1) := by decide +kernel
theorem dX7_throughOf_23 : decode cX7_throughOf 23 = .ok (.aload_n 0, 1) := by decide +kernel
theorem dX7_throughOf_24 : decode cX7_throughOf 24 = .ok (.getfield 40, 3) := by decide +kernel
theorem dX7_throughOf_27 : decode cX7_throughOf 27 = .ok (.bipush 30, 2) := by decide +kernel
theorem dX7_throughOf_29 : decode cX7_throughOf 29 = .ok (.iconst 3, 1) := by decide +kernel
theorem dX7_throughOf_30 : decode cX7_throughOf 30 = .ok (.iload_n 3, 1) := by decide +kernel
theorem dX7_throughOf_31 : decode cX7_throughOf 31 = .ok (.imul, 1) := by decide +kernel
theorem dX7_throughOf_32 : decode cX7_throughOf 32 = .ok (.iadd, 1) := by decide +kernel
theorem dX7_throughOf_33 : decode cX7_throughOf 33 = .ok (.iload_n 2, 1) := by decide +kernel
theorem dX7_throughOf_34 : decode cX7_throughOf 34 = .ok (.iadd, 1) := by decide +kernel
theorem dX7_throughOf_35 : decode cX7_throughOf 35 = .ok (.iaload, 1) := by decide +kernel
theorem dX7_throughOf_36 : decode cX7_throughOf 36 = .ok (.iadd, 1) := by decide +kernel
theorem dX7_throughOf_37 : decode cX7_throughOf 37 = .ok (.ireturn, 1) := by decide +kernel
theorem dX7_lastOf_0 : decode cX7_lastOf 0 = .ok (.aload_n 0, 1) := by decide +kernel
theorem dX7_lastOf_1 : decode cX7_lastOf 1 = .ok (.iload_n 1, 1) := by decide +kernel
theorem dX7_lastOf_2 : decode cX7_lastOf 2 = .ok (.iconst 2, 1) := by decide +kernel
theorem dX7_lastOf_3 : decode cX7_lastOf 3 = .ok (.invokevirtual 147, 3) := by decide +kernel
theorem dX7_lastOf_6 : decode cX7_lastOf 6 = .ok (.ifCond .lt 7, 3) := by decide +kernel
theorem dX7_lastOf_9 : decode cX7_lastOf 9 = .ok (.iconst 2, 1) := by decide +kernel
theorem dX7_lastOf_10 : decode cX7_lastOf 10 = .ok (.goto 17, 3) := by decide +kernel
theorem dX7_lastOf_13 : decode cX7_lastOf 13 = .ok (.aload_n 0, 1) := by decide +kernel
theorem dX7_lastOf_14 : decode cX7_lastOf 14 = .ok (.iload_n 1, 1) := by decide +kernel
theorem dX7_lastOf_15 : decode cX7_lastOf 15 = .ok (.iconst 1, 1) := by decide +kernel
theorem dX7_lastOf_16 : decode cX7_lastOf 16 = .ok (.invokevirtual 147, 3) := by decide +kernel
theorem dX7_lastOf_19 : decode cX7_lastOf 19 = .ok (.ifCond .lt 7, 3) := by decide +kernel
theorem dX7_lastOf_22 : decode cX7_lastOf 22 = .ok (.iconst 1, 1) := by decide +kernel
theorem dX7_lastOf_23 : decode cX7_lastOf 23 = .ok (.goto 4, 3) := by decide +kernel
theorem dX7_lastOf_26 : decode cX7_lastOf 26 = .ok (.iconst 0, 1) := by decide +kernel
theorem dX7_lastOf_27 : decode cX7_lastOf 27 = .ok (.ireturn, 1) := by decide +kernel
theorem dX7_remove_0 : decode cX7_remove 0 = .ok (.aload_n 0, 1) := by decide +kernel
theorem dX7_remove_1 : decode cX7_remove 1 = .ok (.dup, 1) := by decide +kernel
theorem dX7_remove_2 : decode cX7_remove 2 = .ok (.getfield 138, 3) := by decide +kernel
theorem dX7_remove_5 : decode cX7_remove 5 = .ok (.iconst 1, 1) := by decide +kernel
theorem dX7_remove_6 : decode cX7_remove 6 = .ok (.isub, 1) := by decide +kernel
theorem dX7_remove_7 : decode cX7_remove 7 = .ok (.putfield 138, 3) := by decide +kernel
theorem dX7_remove_10 : decode cX7_remove 10 = .ok (.iload_n 1, 1) := by decide +kernel
theorem dX7_remove_11 : decode cX7_remove 11 = .ok (.istore_n 2, 1) := by decide +kernel
theorem dX7_remove_12 : decode cX7_remove 12 = .ok (.iload_n 2, 1) := by decide +kernel
theorem dX7_remove_13 : decode cX7_remove 13 = .ok (.aload_n 0, 1) := by decide +kernel
theorem dX7_remove_14 : decode cX7_remove 14 = .ok (.getfield 138, 3) := by decide +kernel
theorem dX7_remove_17 : decode cX7_remove 17 = .ok (.if_icmp .ge 37, 3) := by decide +kernel
theorem dX7_remove_20 : decode cX7_remove 20 = .ok (.aload_n 0, 1) := by decide +kernel
theorem dX7_remove_21 : decode cX7_remove 21 = .ok (.getfield 68, 3) := by decide +kernel
theorem dX7_remove_24 : decode cX7_remove 24 = .ok (.iload_n 2, 1) := by decide +kernel
theorem dX7_remove_25 : decode cX7_remove 25 = .ok (.aload_n 0, 1) := by decide +kernel
theorem dX7_remove_26 : decode cX7_remove 26 = .ok (.getfield 68, 3) := by decide +kernel
theorem dX7_remove_29 : decode cX7_remove 29 = .ok (.iload_n 2, 1) := by decide +kernel
theorem dX7_remove_30 : decode cX7_remove 30 = .ok (.iconst 1, 1) := by decide +kernel
theorem dX7_remove_31 : decode cX7_remove 31 = .ok (.iadd, 1) := by decide +kernel
theorem dX7_remove_32 : decode cX7_remove 32 = .ok (.iaload, 1) := by decide +kernel
theorem dX7_remove_33 : decode cX7_remove 33 = .ok (.iastore, 1) := by decide +kernel
theorem dX7_remove_34 : decode cX7_remove 34 = .ok (.aload_n 0, 1) := by decide +kernel
theorem dX7_remove_35 : decode cX7_remove 35 = .ok (.getfield 71, 3) := by decide +kernel
theorem dX7_remove_38 : decode cX7_remove 38 = .ok (.iload_n 2, 1) := by decide +kernel
theorem dX7_remove_39 : decode cX7_remove 39 = .ok (.aload_n 0, 1) := by decide +kernel
theorem dX7_remove_40 : decode cX7_remove 40 = .ok (.getfield 71, 3) := by decide +kernel
theorem dX7_remove_43 : decode cX7_remove 43 = .ok (.iload_n 2, 1) := by decide +kernel
theorem dX7_remove_44 : decode cX7_remove 44 = .ok (.iconst 1, 1) := by decide +kernel
theorem dX7_remove_45 : decode cX7_remove 45 = .ok (.iadd, 1) := by decide +kernel
theorem dX7_remove_46 : decode cX7_remove 46 = .ok (.iaload, 1) := by decide +kernel
theorem dX7_remove_47 : decode cX7_remove 47 = .ok (.iastore, 1) := by decide +kernel
theorem dX7_remove_48 : decode cX7_remove 48 = .ok (.iinc 2 1, 3) := by decide +kernel
theorem dX7_remove_51 : decode cX7_remove 51 = .ok (.goto (-39), 3) := by decide +kernel
theorem dX7_remove_54 : decode cX7_remove 54 = .ok (.return_, 1) := by decide +kernel
theorem dX7_isLost_0 : decode cX7_isLost 0 = .ok (.iconst 0, 1) := by decide +kernel
theorem dX7_isLost_1 : decode cX7_isLost 1 = .ok (.istore_n 2, 1) := by decide +kernel
theorem dX7_isLost_2 : decode cX7_isLost 2 = .ok (.iconst 0, 1) := by decide +kernel
theorem dX7_isLost_3 : decode cX7_isLost 3 = .ok (.istore_n 3, 1) := by decide +kernel
theorem dX7_isLost_4 : decode cX7_isLost 4 = .ok (.iload_n 3, 1) := by decide +kernel
theorem dX7_isLost_5 : decode cX7_isLost 5 = .ok (.aload_n 0, 1) := by decide +kernel
theorem dX7_isLost_6 : decode cX7_isLost 6 = .ok (.aload_n 0, 1) := by decide +kernel
theorem dX7_isLost_7 : decode cX7_isLost 7 = .ok (.getfield 68, 3) := by decide +kernel
theorem dX7_isLost_10 : decode cX7_isLost 10 = .ok (.iload_n 1, 1) := by decide +kernel
theorem dX7_isLost_11 : decode cX7_isLost 11 = .ok (.iaload, 1) := by decide +kernel
theorem dX7_isLost_12 : decode cX7_isLost 12 = .ok (.invokevirtual 150, 3) := by decide +kernel
theorem dX7_isLost_15 : decode cX7_isLost 15 = .ok (.if_icmp .gt 51, 3) := by decide +kernel
theorem dX7_isLost_18 : decode cX7_isLost 18 = .ok (.iload_n 2, 1) := by decide +kernel
theorem dX7_isLost_19 : decode cX7_isLost 19 = .ok (.ifCond .ne 35, 3) := by decide +kernel
theorem dX7_isLost_22 : decode cX7_isLost 22 = .ok (.aload_n 0, 1) := by decide +kernel
theorem dX7_isLost_23 : decode cX7_isLost 23 = .ok (.iload_n 1, 1) := by decide +kernel
theorem dX7_isLost_24 : decode cX7_isLost 24 = .ok (.iload_n 3, 1) := by decide +kernel
theorem dX7_isLost_25 : decode cX7_isLost 25 = .ok (.invokevirtual 144, 3) := by decide +kernel
theorem dX7_isLost_28 : decode cX7_isLost 28 = .ok (.aload_n 0, 1) := by decide +kernel
theorem dX7_isLost_29 : decode cX7_isLost 29 = .ok (.getfield 141, 3) := by decide +kernel
theorem dX7_isLost_32 : decode cX7_isLost 32 = .ok (.if_icmp .ne 26, 3) := by decide +kernel
theorem dX7_isLost_35 : decode cX7_isLost 35 = .ok (.aload_n 0, 1) := by decide +kernel
theorem dX7_isLost_36 : decode cX7_isLost 36 = .ok (.getfield 74, 3) := by decide +kernel
theorem dX7_isLost_39 : decode cX7_isLost 39 = .ok (.aload_n 0, 1) := by decide +kernel
theorem dX7_isLost_40 : decode cX7_isLost 40 = .ok (.aload_n 0, 1) := by decide +kernel
theorem dX7_isLost_41 : decode cX7_isLost 41 = .ok (.getfield 68, 3) := by decide +kernel
theorem dX7_isLost_44 : decode cX7_isLost 44 = .ok (.iload_n 1, 1) := by decide +kernel
theorem dX7_isLost_45 : decode cX7_isLost 45 = .ok (.iaload, 1) := by decide +kernel
theorem dX7_isLost_46 : decode cX7_isLost 46 = .ok (.iload_n 3, 1) := by decide +kernel
theorem dX7_isLost_47 : decode cX7_isLost 47 = .ok (.invokevirtual 147, 3) := by decide +kernel
theorem dX7_isLost_50 : decode cX7_isLost 50 = .ok (.baload, 1) := by decide +kernel
theorem dX7_isLost_51 : decode cX7_isLost 51 = .ok (.ifCond .eq 7, 3) := by decide +kernel
theorem dX7_isLost_54 : decode cX7_isLost 54 = .ok (.iconst 1, 1) := by decide +kernel
theorem dX7_isLost_55 : decode cX7_isLost 55 = .ok (.goto 4, 3) := by decide +kernel
theorem dX7_isLost_58 : decode cX7_isLost 58 = .ok (.iconst 0, 1) := by decide +kernel
theorem dX7_isLost_59 : decode cX7_isLost 59 = .ok (.istore_n 2, 1) := by decide +kernel
theorem dX7_isLost_60 : decode cX7_isLost 60 = .ok (.iinc 3 1, 3) := by decide +kernel
theorem dX7_isLost_63 : decode cX7_isLost 63 = .ok (.goto (-59), 3) := by decide +kernel
theorem dX7_isLost_66 : decode cX7_isLost 66 = .ok (.iload_n 2, 1) := by decide +kernel
theorem dX7_isLost_67 : decode cX7_isLost 67 = .ok (.ireturn, 1) := by decide +kernel
theorem dX7_flyAll_0 : decode cX7_flyAll 0 = .ok (.aload_n 0, 1) := by decide +kernel
theorem dX7_flyAll_1 : decode cX7_flyAll 1 = .ok (.getfield 138, 3) := by decide +kernel
theorem dX7_flyAll_4 : decode cX7_flyAll 4 = .ok (.iconst 1, 1) := by decide +kernel
theorem dX7_flyAll_5 : decode cX7_flyAll 5 = .ok (.isub, 1) := by decide +kernel
theorem dX7_flyAll_6 : decode cX7_flyAll 6 = .ok (.istore_n 1, 1) := by decide +kernel
theorem dX7_flyAll_7 : decode cX7_flyAll 7 = .ok (.iload_n 1, 1) := by decide +kernel
theorem dX7_flyAll_8 : decode cX7_flyAll 8 = .ok (.ifCond .lt 39, 3) := by decide +kernel
theorem dX7_flyAll_11 : decode cX7_flyAll 11 = .ok (.aload_n 0, 1) := by decide +kernel
theorem dX7_flyAll_12 : decode cX7_flyAll 12 = .ok (.getfield 68, 3) := by decide +kernel
theorem dX7_flyAll_15 : decode cX7_flyAll 15 = .ok (.iload_n 1, 1) := by decide +kernel
theorem dX7_flyAll_16 : decode cX7_flyAll 16 = .ok (.iaload, 1) := by decide +kernel
theorem dX7_flyAll_17 : decode cX7_flyAll 17 = .ok (.istore_n 2, 1) := by decide +kernel
theorem dX7_flyAll_18 : decode cX7_flyAll 18 = .ok (.aload_n 0, 1) := by decide +kernel
theorem dX7_flyAll_19 : decode cX7_flyAll 19 = .ok (.iload_n 1, 1) := by decide +kernel
theorem dX7_flyAll_20 : decode cX7_flyAll 20 = .ok (.invokevirtual 154, 3) := by decide +kernel
theorem dX7_flyAll_23 : decode cX7_flyAll 23 = .ok (.ifCond .eq 18, 3) := by decide +kernel
theorem dX7_flyAll_26 : decode cX7_flyAll 26 = .ok (.aload_n 0, 1) := by decide +kernel
theorem dX7_flyAll_27 : decode cX7_flyAll 27 = .ok (.getfield 59, 3) := by decide +kernel
theorem dX7_flyAll_30 : decode cX7_flyAll 30 = .ok (.iload_n 2, 1) := by decide +kernel
theorem dX7_flyAll_31 : decode cX7_flyAll 31 = .ok (.dup2, 1) := by decide +kernel
theorem dX7_flyAll_32 : decode cX7_flyAll 32 = .ok (.iaload, 1) := by decide +kernel
theorem dX7_flyAll_33 : decode cX7_flyAll 33 = .ok (.iconst 1, 1) := by decide +kernel
theorem dX7_flyAll_34 : decode cX7_flyAll 34 = .ok (.iadd, 1) := by decide +kernel
theorem dX7_flyAll_35 : decode cX7_flyAll 35 = .ok (.iastore, 1) := by decide +kernel
theorem dX7_flyAll_36 : decode cX7_flyAll 36 = .ok (.aload_n 0, 1) := by decide +kernel
theorem dX7_flyAll_37 : decode cX7_flyAll 37 = .ok (.iload_n 1, 1) := by decide +kernel
theorem dX7_flyAll_38 : decode cX7_flyAll 38 = .ok (.invokevirtual 157, 3) := by decide +kernel
theorem dX7_flyAll_41 : decode cX7_flyAll 41 = .ok (.iinc 1 (-1), 3) := by decide +kernel
theorem dX7_flyAll_44 : decode cX7_flyAll 44 = .ok (.goto (-37), 3) := by decide +kernel
theorem dX7_flyAll_47 : decode cX7_flyAll 47 = .ok (.iconst 0, 1) := by decide +kernel
theorem dX7_flyAll_48 : decode cX7_flyAll 48 = .ok (.istore_n 1, 1) := by decide +kernel
theorem dX7_flyAll_49 : decode cX7_flyAll 49 = .ok (.iload_n 1, 1) := by decide +kernel
theorem dX7_flyAll_50 : decode cX7_flyAll 50 = .ok (.aload_n 0, 1) := by decide +kernel
theorem dX7_flyAll_51 : decode cX7_flyAll 51 = .ok (.getfield 138, 3) := by decide +kernel
theorem dX7_flyAll_54 : decode cX7_flyAll 54 = .ok (.if_icmp .ge 68, 3) := by decide +kernel
theorem dX7_flyAll_57 : decode cX7_flyAll 57 = .ok (.aload_n 0, 1) := by decide +kernel
theorem dX7_flyAll_58 : decode cX7_flyAll 58 = .ok (.getfield 68, 3) := by decide +kernel
theorem dX7_flyAll_61 : decode cX7_flyAll 61 = .ok (.iload_n 1, 1) := by decide +kernel
theorem dX7_flyAll_62 : decode cX7_flyAll 62 = .ok (.iaload, 1) := by decide +kernel
theorem dX7_flyAll_63 : decode cX7_flyAll 63 = .ok (.istore_n 2, 1) := by decide +kernel
theorem dX7_flyAll_64 : decode cX7_flyAll 64 = .ok (.aload_n 0, 1) := by decide +kernel
theorem dX7_flyAll_65 : decode cX7_flyAll 65 = .ok (.iload_n 1, 1) := by decide +kernel
theorem dX7_flyAll_66 : decode cX7_flyAll 66 = .ok (.aload_n 0, 1) := by decide +kernel
theorem dX7_flyAll_67 : decode cX7_flyAll 67 = .ok (.iload_n 2, 1) := by decide +kernel
theorem dX7_flyAll_68 : decode cX7_flyAll 68 = .ok (.invokevirtual 150, 3) := by decide +kernel
theorem dX7_flyAll_71 : decode cX7_flyAll 71 = .ok (.invokevirtual 161, 3) := by decide +kernel
theorem dX7_flyAll_74 : decode cX7_flyAll 74 = .ok (.aload_n 0, 1) := by decide +kernel
theorem dX7_flyAll_75 : decode cX7_flyAll 75 = .ok (.getfield 141, 3) := by decide +kernel
theorem dX7_flyAll_78 : decode cX7_flyAll 78 = .ok (.if_icmp .ne 38, 3) := by decide +kernel
theorem dX7_flyAll_81 : decode cX7_flyAll 81 = .ok (.aload_n 0, 1) := by decide +kernel
theorem dX7_flyAll_82 : decode cX7_flyAll 82 = .ok (.getfield 56, 3) := by decide +kernel
theorem dX7_flyAll_85 : decode cX7_flyAll 85 = .ok (.iload_n 2, 1) := by decide +kernel
theorem dX7_flyAll_86 : decode cX7_flyAll 86 = .ok (.dup2, 1) := by decide +kernel
theorem dX7_flyAll_87 : decode cX7_flyAll 87 = .ok (.iaload, 1) := by decide +kernel
theorem dX7_flyAll_88 : decode cX7_flyAll 88 = .ok (.iconst 1, 1) := by decide +kernel
theorem dX7_flyAll_89 : decode cX7_flyAll 89 = .ok (.iadd, 1) := by decide +kernel
theorem dX7_flyAll_90 : decode cX7_flyAll 90 = .ok (.iastore, 1) := by decide +kernel
theorem dX7_flyAll_91 : decode cX7_flyAll 91 = .ok (.aload_n 0, 1) := by decide +kernel
theorem dX7_flyAll_92 : decode cX7_flyAll 92 = .ok (.getfield 65, 3) := by decide +kernel
theorem dX7_flyAll_95 : decode cX7_flyAll 95 = .ok (.iload_n 2, 1) := by decide +kernel
theorem dX7_flyAll_96 : decode cX7_flyAll 96 = .ok (.aload_n 0, 1) := by decide +kernel
theorem dX7_flyAll_97 : decode cX7_flyAll 97 = .ok (.getfield 141, 3) := by decide +kernel
theorem dX7_flyAll_100 : decode cX7_flyAll 100 = .ok (.aload_n 0, 1) := by decide +kernel
theorem dX7_flyAll_101 : decode cX7_flyAll 101 = .ok (.getfield 71, 3) := by decide +kernel
theorem dX7_flyAll_104 : decode cX7_flyAll 104 = .ok (.iload_n 1, 1) := by decide +kernel
theorem dX7_flyAll_105 : decode cX7_flyAll 105 = .ok (.iaload, 1) := by decide +kernel
theorem dX7_flyAll_106 : decode cX7_flyAll 106 = .ok (.isub, 1) := by decide +kernel
theorem dX7_flyAll_107 : decode cX7_flyAll 107 = .ok (.iastore, 1) := by decide +kernel
theorem dX7_flyAll_108 : decode cX7_flyAll 108 = .ok (.aload_n 0, 1) := by decide +kernel
theorem dX7_flyAll_109 : decode cX7_flyAll 109 = .ok (.iload_n 1, 1) := by decide +kernel
theorem dX7_flyAll_110 : decode cX7_flyAll 110 = .ok (.invokevirtual 157, 3) := by decide +kernel
theorem dX7_flyAll_113 : decode cX7_flyAll 113 = .ok (.goto 6, 3) := by decide +kernel
theorem dX7_flyAll_116 : decode cX7_flyAll 116 = .ok (.iinc 1 1, 3) := by decide +kernel
theorem dX7_flyAll_119 : decode cX7_flyAll 119 = .ok (.goto (-70), 3) := by decide +kernel
theorem dX7_flyAll_122 : decode cX7_flyAll 122 = .ok (.return_, 1) := by decide +kernel
theorem dX7_isFree_0 : decode cX7_isFree 0 = .ok (.iconst 1, 1) := by decide +kernel
theorem dX7_isFree_1 : decode cX7_isFree 1 = .ok (.istore_n 3, 1) := by decide +kernel
theorem dX7_isFree_2 : decode cX7_isFree 2 = .ok (.iconst 0, 1) := by decide +kernel
theorem dX7_isFree_3 : decode cX7_isFree 3 = .ok (.istore 4, 2) := by decide +kernel
theorem dX7_isFree_5 : decode cX7_isFree 5 = .ok (.iload 4, 2) := by decide +kernel
theorem dX7_isFree_7 : decode cX7_isFree 7 = .ok (.iload_n 2, 1) := by decide +kernel
theorem dX7_isFree_8 : decode cX7_isFree 8 = .ok (.if_icmp .ge 44, 3) := by decide +kernel
theorem dX7_isFree_11 : decode cX7_isFree 11 = .ok (.aload_n 0, 1) := by decide +kernel
theorem dX7_isFree_12 : decode cX7_isFree 12 = .ok (.getfield 25, 3) := by decide +kernel
theorem dX7_isFree_15 : decode cX7_isFree 15 = .ok (.iconst 2, 1) := by decide +kernel
theorem dX7_isFree_16 : decode cX7_isFree 16 = .ok (.iaload, 1) := by decide +kernel
theorem dX7_isFree_17 : decode cX7_isFree 17 = .ok (.ifCond .lt 35, 3) := by decide +kernel
theorem dX7_isFree_20 : decode cX7_isFree 20 = .ok (.iload_n 3, 1) := by decide +kernel
theorem dX7_isFree_21 : decode cX7_isFree 21 = .ok (.ifCond .eq 23, 3) := by decide +kernel
theorem dX7_isFree_24 : decode cX7_isFree 24 = .ok (.aload_n 0, 1) := by decide +kernel
theorem dX7_isFree_25 : decode cX7_isFree 25 = .ok (.iconst 2, 1) := by decide +kernel
theorem dX7_isFree_26 : decode cX7_isFree 26 = .ok (.iload_n 1, 1) := by decide +kernel
theorem dX7_isFree_27 : decode cX7_isFree 27 = .ok (.aload_n 0, 1) := by decide +kernel
theorem dX7_isFree_28 : decode cX7_isFree 28 = .ok (.getfield 141, 3) := by decide +kernel
theorem dX7_isFree_31 : decode cX7_isFree 31 = .ok (.iload 4, 2) := by decide +kernel
theorem dX7_isFree_33 : decode cX7_isFree 33 = .ok (.iadd, 1) := by decide +kernel
theorem dX7_isFree_34 : decode cX7_isFree 34 = .ok (.invokevirtual 131, 3) := by decide +kernel
theorem dX7_isFree_37 : decode cX7_isFree 37 = .ok (.ifCond .ge 7, 3) := by decide +kernel
theorem dX7_isFree_40 : decode cX7_isFree 40 = .ok (.iconst 1, 1) := by decide +kernel
theorem dX7_isFree_41 : decode cX7_isFree 41 = .ok (.goto 4, 3) := by decide +kernel
theorem dX7_isFree_44 : decode cX7_isFree 44 = .ok (.iconst 0, 1) := by decide +kernel
theorem dX7_isFree_45 : decode cX7_isFree 45 = .ok (.istore_n 3, 1) := by decide +kernel
theorem dX7_isFree_46 : decode cX7_isFree 46 = .ok (.iinc 4 1, 3) := by decide +kernel
theorem dX7_isFree_49 : decode cX7_isFree 49 = .ok (.goto (-44), 3) := by decide +kernel
theorem dX7_isFree_52 : decode cX7_isFree 52 = .ok (.iload_n 3, 1) := by decide +kernel
theorem dX7_isFree_53 : decode cX7_isFree 53 = .ok (.ireturn, 1) := by decide +kernel
theorem dX7_serve_0 : decode cX7_serve 0 = .ok (.aload_n 0, 1) := by decide +kernel
theorem dX7_serve_1 : decode cX7_serve 1 = .ok (.getfield 83, 3) := by decide +kernel
theorem dX7_serve_4 : decode cX7_serve 4 = .ok (.iload_n 1, 1) := by decide +kernel
theorem dX7_serve_5 : decode cX7_serve 5 = .ok (.iaload, 1) := by decide +kernel
theorem dX7_serve_6 : decode cX7_serve 6 = .ok (.ifCond .ne 101, 3) := by decide +kernel
theorem dX7_serve_9 : decode cX7_serve 9 = .ok (.aload_n 0, 1) := by decide +kernel
theorem dX7_serve_10 : decode cX7_serve 10 = .ok (.getfield 74, 3) := by decide +kernel
theorem dX7_serve_13 : decode cX7_serve 13 = .ok (.iload_n 1, 1) := by decide +kernel
theorem dX7_serve_14 : decode cX7_serve 14 = .ok (.baload, 1) := by decide +kernel
theorem dX7_serve_15 : decode cX7_serve 15 = .ok (.ifCond .ne 92, 3) := by decide +kernel
theorem dX7_serve_18 : decode cX7_serve 18 = .ok (.aload_n 0, 1) := by decide +kernel
theorem dX7_serve_19 : decode cX7_serve 19 = .ok (.getfield 77, 3) := by decide +kernel
theorem dX7_serve_22 : decode cX7_serve 22 = .ok (.iload_n 1, 1) := by decide +kernel
theorem dX7_serve_23 : decode cX7_serve 23 = .ok (.iaload, 1) := by decide +kernel
theorem dX7_serve_24 : decode cX7_serve 24 = .ok (.ifCond .le 83, 3) := by decide +kernel
theorem dX7_serve_27 : decode cX7_serve 27 = .ok (.aload_n 0, 1) := by decide +kernel
theorem dX7_serve_28 : decode cX7_serve 28 = .ok (.iload_n 1, 1) := by decide +kernel
theorem dX7_serve_29 : decode cX7_serve 29 = .ok (.aload_n 0, 1) := by decide +kernel
theorem dX7_serve_30 : decode cX7_serve 30 = .ok (.getfield 80, 3) := by decide +kernel
theorem dX7_serve_33 : decode cX7_serve 33 = .ok (.iconst 4, 1) := by decide +kernel
theorem dX7_serve_34 : decode cX7_serve 34 = .ok (.iload_n 1, 1) := by decide +kernel
theorem dX7_serve_35 : decode cX7_serve 35 = .ok (.imul, 1) := by decide +kernel
theorem dX7_serve_36 : decode cX7_serve 36 = .ok (.iaload, 1) := by decide +kernel
theorem dX7_serve_37 : decode cX7_serve 37 = .ok (.invokevirtual 164, 3) := by decide +kernel
theorem dX7_serve_40 : decode cX7_serve 40 = .ok (.ifCond .eq 67, 3) := by decide +kernel
theorem dX7_serve_43 : decode cX7_serve 43 = .ok (.aload_n 0, 1) := by decide +kernel
theorem dX7_serve_44 : decode cX7_serve 44 = .ok (.getfield 83, 3) := by decide +kernel
theorem dX7_serve_47 : decode cX7_serve 47 = .ok (.iload_n 1, 1) := by decide +kernel
theorem dX7_serve_48 : decode cX7_serve 48 = .ok (.aload_n 0, 1) := by decide +kernel
theorem dX7_serve_49 : decode cX7_serve 49 = .ok (.getfield 80, 3) := by decide +kernel
theorem dX7_serve_52 : decode cX7_serve 52 = .ok (.iconst 4, 1) := by decide +kernel
theorem dX7_serve_53 : decode cX7_serve 53 = .ok (.iload_n 1, 1) := by decide +kernel
theorem dX7_serve_54 : decode cX7_serve 54 = .ok (.imul, 1) := by decide +kernel
theorem dX7_serve_55 : decode cX7_serve 55 = .ok (.iaload, 1) := by decide +kernel
theorem dX7_serve_56 : decode cX7_serve 56 = .ok (.iastore, 1) := by decide +kernel
theorem dX7_serve_57 : decode cX7_serve 57 = .ok (.aload_n 0, 1) := by decide +kernel
theorem dX7_serve_58 : decode cX7_serve 58 = .ok (.getfield 77, 3) := by decide +kernel
theorem dX7_serve_61 : decode cX7_serve 61 = .ok (.iload_n 1, 1) := by decide +kernel
theorem dX7_serve_62 : decode cX7_serve 62 = .ok (.dup2, 1) := by decide +kernel
theorem dX7_serve_63 : decode cX7_serve 63 = .ok (.iaload, 1) := by decide +kernel
theorem dX7_serve_64 : decode cX7_serve 64 = .ok (.iconst 1, 1) := by decide +kernel
theorem dX7_serve_65 : decode cX7_serve 65 = .ok (.isub, 1) := by decide +kernel
theorem dX7_serve_66 : decode cX7_serve 66 = .ok (.iastore, 1) := by decide +kernel
theorem dX7_serve_67 : decode cX7_serve 67 = .ok (.iconst 0, 1) := by decide +kernel
theorem dX7_serve_68 : decode cX7_serve 68 = .ok (.istore_n 2, 1) := by decide +kernel
theorem dX7_serve_69 : decode cX7_serve 69 = .ok (.iload_n 2, 1) := by decide +kernel
theorem dX7_serve_70 : decode cX7_serve 70 = .ok (.aload_n 0, 1) := by decide +kernel
theorem dX7_serve_71 : decode cX7_serve 71 = .ok (.getfield 77, 3) := by decide +kernel
theorem dX7_serve_74 : decode cX7_serve 74 = .ok (.iload_n 1, 1) := by decide +kernel
theorem dX7_serve_75 : decode cX7_serve 75 = .ok (.iaload, 1) := by decide +kernel
theorem dX7_serve_76 : decode cX7_serve 76 = .ok (.if_icmp .ge 31, 3) := by decide +kernel
theorem dX7_serve_79 : decode cX7_serve 79 = .ok (.aload_n 0, 1) := by decide +kernel
theorem dX7_serve_80 : decode cX7_serve 80 = .ok (.getfield 80, 3) := by decide +kernel
theorem dX7_serve_83 : decode cX7_serve 83 = .ok (.iconst 4, 1) := by decide +kernel
theorem dX7_serve_84 : decode cX7_serve 84 = .ok (.iload_n 1, 1) := by decide +kernel
theorem dX7_serve_85 : decode cX7_serve 85 = .ok (.imul, 1) := by decide +kernel
theorem dX7_serve_86 : decode cX7_serve 86 = .ok (.iload_n 2, 1) := by decide +kernel
theorem dX7_serve_87 : decode cX7_serve 87 = .ok (.iadd, 1) := by decide +kernel
theorem dX7_serve_88 : decode cX7_serve 88 = .ok (.aload_n 0, 1) := by decide +kernel
theorem dX7_serve_89 : decode cX7_serve 89 = .ok (.getfield 80, 3) := by decide +kernel
theorem dX7_serve_92 : decode cX7_serve 92 = .ok (.iconst 4, 1) := by decide +kernel
theorem dX7_serve_93 : decode cX7_serve 93 = .ok (.iload_n 1, 1) := by decide +kernel
theorem dX7_serve_94 : decode cX7_serve 94 = .ok (.imul, 1) := by decide +kernel
theorem dX7_serve_95 : decode cX7_serve 95 = .ok (.iload_n 2, 1) := by decide +kernel
theorem dX7_serve_96 : decode cX7_serve 96 = .ok (.iadd, 1) := by decide +kernel
theorem dX7_serve_97 : decode cX7_serve 97 = .ok (.iconst 1, 1) := by decide +kernel
theorem dX7_serve_98 : decode cX7_serve 98 = .ok (.iadd, 1) := by decide +kernel
theorem dX7_serve_99 : decode cX7_serve 99 = .ok (.iaload, 1) := by decide +kernel
theorem dX7_serve_100 : decode cX7_serve 100 = .ok (.iastore, 1) := by decide +kernel
theorem dX7_serve_101 : decode cX7_serve 101 = .ok (.iinc 2 1, 3) := by decide +kernel
theorem dX7_serve_104 : decode cX7_serve 104 = .ok (.goto (-35), 3) := by decide +kernel
theorem dX7_serve_107 : decode cX7_serve 107 = .ok (.aload_n 0, 1) := by decide +kernel
theorem dX7_serve_108 : decode cX7_serve 108 = .ok (.getfield 83, 3) := by decide +kernel
theorem dX7_serve_111 : decode cX7_serve 111 = .ok (.iload_n 1, 1) := by decide +kernel
theorem dX7_serve_112 : decode cX7_serve 112 = .ok (.iaload, 1) := by decide +kernel
theorem dX7_serve_113 : decode cX7_serve 113 = .ok (.ifCond .le 45, 3) := by decide +kernel
theorem dX7_serve_116 : decode cX7_serve 116 = .ok (.aload_n 0, 1) := by decide +kernel
theorem dX7_serve_117 : decode cX7_serve 117 = .ok (.getfield 83, 3) := by decide +kernel
theorem dX7_serve_120 : decode cX7_serve 120 = .ok (.iload_n 1, 1) := by decide +kernel
theorem dX7_serve_121 : decode cX7_serve 121 = .ok (.dup2, 1) := by decide +kernel
theorem dX7_serve_122 : decode cX7_serve 122 = .ok (.iaload, 1) := by decide +kernel
theorem dX7_serve_123 : decode cX7_serve 123 = .ok (.iconst 1, 1) := by decide +kernel
theorem dX7_serve_124 : decode cX7_serve 124 = .ok (.isub, 1) := by decide +kernel
theorem dX7_serve_125 : decode cX7_serve 125 = .ok (.iastore, 1) := by decide +kernel
theorem dX7_serve_126 : decode cX7_serve 126 = .ok (.aload_n 0, 1) := by decide +kernel
theorem dX7_serve_127 : decode cX7_serve 127 = .ok (.getfield 86, 3) := by decide +kernel
theorem dX7_serve_130 : decode cX7_serve 130 = .ok (.iload_n 1, 1) := by decide +kernel
theorem dX7_serve_131 : decode cX7_serve 131 = .ok (.aload_n 0, 1) := by decide +kernel
theorem dX7_serve_132 : decode cX7_serve 132 = .ok (.getfield 83, 3) := by decide +kernel
theorem dX7_serve_135 : decode cX7_serve 135 = .ok (.iload_n 1, 1) := by decide +kernel
theorem dX7_serve_136 : decode cX7_serve 136 = .ok (.iaload, 1) := by decide +kernel
theorem dX7_serve_137 : decode cX7_serve 137 = .ok (.ifCond .ne 14, 3) := by decide +kernel
theorem dX7_serve_140 : decode cX7_serve 140 = .ok (.aload_n 0, 1) := by decide +kernel
theorem dX7_serve_141 : decode cX7_serve 141 = .ok (.getfield 86, 3) := by decide +kernel
theorem dX7_serve_144 : decode cX7_serve 144 = .ok (.iload_n 1, 1) := by decide +kernel
theorem dX7_serve_145 : decode cX7_serve 145 = .ok (.iaload, 1) := by decide +kernel
theorem dX7_serve_146 : decode cX7_serve 146 = .ok (.iconst 1, 1) := by decide +kernel
theorem dX7_serve_147 : decode cX7_serve 147 = .ok (.iadd, 1) := by decide +kernel
theorem dX7_serve_148 : decode cX7_serve 148 = .ok (.goto 9, 3) := by decide +kernel
theorem dX7_serve_151 : decode cX7_serve 151 = .ok (.aload_n 0, 1) := by decide +kernel
theorem dX7_serve_152 : decode cX7_serve 152 = .ok (.getfield 86, 3) := by decide +kernel
theorem dX7_serve_155 : decode cX7_serve 155 = .ok (.iload_n 1, 1) := by decide +kernel
theorem dX7_serve_156 : decode cX7_serve 156 = .ok (.iaload, 1) := by decide +kernel
theorem dX7_serve_157 : decode cX7_serve 157 = .ok (.iastore, 1) := by decide +kernel
theorem dX7_serve_158 : decode cX7_serve 158 = .ok (.return_, 1) := by decide +kernel
theorem dX7_tickOnce_0 : decode cX7_tickOnce 0 = .ok (.aload_n 0, 1) := by decide +kernel
theorem dX7_tickOnce_1 : decode cX7_tickOnce 1 = .ok (.getfield 25, 3) := by decide +kernel
theorem dX7_tickOnce_4 : decode cX7_tickOnce 4 = .ok (.iconst 1, 1) := by decide +kernel
theorem dX7_tickOnce_5 : decode cX7_tickOnce 5 = .ok (.iaload, 1) := by decide +kernel
theorem dX7_tickOnce_6 : decode cX7_tickOnce 6 = .ok (.ifCond .lt 24, 3) := by decide +kernel
theorem dX7_tickOnce_9 : decode cX7_tickOnce 9 = .ok (.aload_n 0, 1) := by decide +kernel
theorem dX7_tickOnce_10 : decode cX7_tickOnce 10 = .ok (.getfield 141, 3) := by decide +kernel
theorem dX7_tickOnce_13 : decode cX7_tickOnce 13 = .ok (.bipush 32, 2) := by decide +kernel
theorem dX7_tickOnce_15 : decode cX7_tickOnce 15 = .ok (.irem, 1) := by decide +kernel
theorem dX7_tickOnce_16 : decode cX7_tickOnce 16 = .ok (.ifCond .ne 14, 3) := by decide +kernel
theorem dX7_tickOnce_19 : decode cX7_tickOnce 19 = .ok (.aload_n 0, 1) := by decide +kernel
theorem dX7_tickOnce_20 : decode cX7_tickOnce 20 = .ok (.invokevirtual 167, 3) := by decide +kernel
theorem dX7_tickOnce_23 : decode cX7_tickOnce 23 = .ok (.ifCond .eq 7, 3) := by decide +kernel
theorem dX7_tickOnce_26 : decode cX7_tickOnce 26 = .ok (.aload_n 0, 1) := by decide +kernel
theorem dX7_tickOnce_27 : decode cX7_tickOnce 27 = .ok (.invokevirtual 171, 3) := by decide +kernel
theorem dX7_tickOnce_30 : decode cX7_tickOnce 30 = .ok (.aload_n 0, 1) := by decide +kernel
theorem dX7_tickOnce_31 : decode cX7_tickOnce 31 = .ok (.getfield 25, 3) := by decide +kernel
theorem dX7_tickOnce_34 : decode cX7_tickOnce 34 = .ok (.iconst 1, 1) := by decide +kernel
theorem dX7_tickOnce_35 : decode cX7_tickOnce 35 = .ok (.iaload, 1) := by decide +kernel
theorem dX7_tickOnce_36 : decode cX7_tickOnce 36 = .ok (.ifCond .ge 7, 3) := by decide +kernel
theorem dX7_tickOnce_39 : decode cX7_tickOnce 39 = .ok (.aload_n 0, 1) := by decide +kernel
theorem dX7_tickOnce_40 : decode cX7_tickOnce 40 = .ok (.invokevirtual 174, 3) := by decide +kernel
theorem dX7_tickOnce_43 : decode cX7_tickOnce 43 = .ok (.aload_n 0, 1) := by decide +kernel
theorem dX7_tickOnce_44 : decode cX7_tickOnce 44 = .ok (.invokevirtual 177, 3) := by decide +kernel
theorem dX7_tickOnce_47 : decode cX7_tickOnce 47 = .ok (.iconst 0, 1) := by decide +kernel
theorem dX7_tickOnce_48 : decode cX7_tickOnce 48 = .ok (.istore_n 1, 1) := by decide +kernel
theorem dX7_tickOnce_49 : decode cX7_tickOnce 49 = .ok (.iload_n 1, 1) := by decide +kernel
theorem dX7_tickOnce_50 : decode cX7_tickOnce 50 = .ok (.bipush 6, 2) := by decide +kernel
theorem dX7_tickOnce_52 : decode cX7_tickOnce 52 = .ok (.if_icmp .ge 14, 3) := by decide +kernel
theorem dX7_tickOnce_55 : decode cX7_tickOnce 55 = .ok (.aload_n 0, 1) := by decide +kernel
theorem dX7_tickOnce_56 : decode cX7_tickOnce 56 = .ok (.iload_n 1, 1) := by decide +kernel
theorem dX7_tickOnce_57 : decode cX7_tickOnce 57 = .ok (.invokevirtual 180, 3) := by decide +kernel
theorem dX7_tickOnce_60 : decode cX7_tickOnce 60 = .ok (.iinc 1 1, 3) := by decide +kernel
theorem dX7_tickOnce_63 : decode cX7_tickOnce 63 = .ok (.goto (-14), 3) := by decide +kernel
theorem dX7_tickOnce_66 : decode cX7_tickOnce 66 = .ok (.aload_n 0, 1) := by decide +kernel
theorem dX7_tickOnce_67 : decode cX7_tickOnce 67 = .ok (.dup, 1) := by decide +kernel
theorem dX7_tickOnce_68 : decode cX7_tickOnce 68 = .ok (.getfield 141, 3) := by decide +kernel
theorem dX7_tickOnce_71 : decode cX7_tickOnce 71 = .ok (.iconst 1, 1) := by decide +kernel
theorem dX7_tickOnce_72 : decode cX7_tickOnce 72 = .ok (.iadd, 1) := by decide +kernel
theorem dX7_tickOnce_73 : decode cX7_tickOnce 73 = .ok (.putfield 141, 3) := by decide +kernel
theorem dX7_tickOnce_76 : decode cX7_tickOnce 76 = .ok (.return_, 1) := by decide +kernel
theorem dX7_tick_0 : decode cX7_tick 0 = .ok (.aload_n 0, 1) := by decide +kernel
theorem dX7_tick_1 : decode cX7_tick 1 = .ok (.iload_n 1, 1) := by decide +kernel
theorem dX7_tick_2 : decode cX7_tick 2 = .ok (.iconst 1, 1) := by decide +kernel
theorem dX7_tick_3 : decode cX7_tick 3 = .ok (.if_icmp .lt 10, 3) := by decide +kernel
theorem dX7_tick_6 : decode cX7_tick 6 = .ok (.iload_n 1, 1) := by decide +kernel
theorem dX7_tick_7 : decode cX7_tick 7 = .ok (.sipush 200, 3) := by decide +kernel
theorem dX7_tick_10 : decode cX7_tick 10 = .ok (.if_icmp .le 7, 3) := by decide +kernel
theorem dX7_tick_13 : decode cX7_tick 13 = .ok (.iconst 1, 1) := by decide +kernel
theorem dX7_tick_14 : decode cX7_tick 14 = .ok (.goto 4, 3) := by decide +kernel
theorem dX7_tick_17 : decode cX7_tick 17 = .ok (.iconst 0, 1) := by decide +kernel
theorem dX7_tick_18 : decode cX7_tick 18 = .ok (.putfield 89, 3) := by decide +kernel
theorem dX7_tick_21 : decode cX7_tick 21 = .ok (.aload_n 0, 1) := by decide +kernel
theorem dX7_tick_22 : decode cX7_tick 22 = .ok (.getfield 89, 3) := by decide +kernel
theorem dX7_tick_25 : decode cX7_tick 25 = .ok (.ifCond .le 5, 3) := by decide +kernel
theorem dX7_tick_28 : decode cX7_tick 28 = .ok (.iconst 0, 1) := by decide +kernel
theorem dX7_tick_29 : decode cX7_tick 29 = .ok (.ireturn, 1) := by decide +kernel
theorem dX7_tick_30 : decode cX7_tick 30 = .ok (.iconst 0, 1) := by decide +kernel
theorem dX7_tick_31 : decode cX7_tick 31 = .ok (.istore_n 2, 1) := by decide +kernel
theorem dX7_tick_32 : decode cX7_tick 32 = .ok (.iload_n 2, 1) := by decide +kernel
theorem dX7_tick_33 : decode cX7_tick 33 = .ok (.iload_n 1, 1) := by decide +kernel
theorem dX7_tick_34 : decode cX7_tick 34 = .ok (.if_icmp .ge 13, 3) := by decide +kernel
theorem dX7_tick_37 : decode cX7_tick 37 = .ok (.aload_n 0, 1) := by decide +kernel
theorem dX7_tick_38 : decode cX7_tick 38 = .ok (.invokevirtual 183, 3) := by decide +kernel
theorem dX7_tick_41 : decode cX7_tick 41 = .ok (.iinc 2 1, 3) := by decide +kernel
theorem dX7_tick_44 : decode cX7_tick 44 = .ok (.goto (-12), 3) := by decide +kernel
theorem dX7_tick_47 : decode cX7_tick 47 = .ok (.aload_n 0, 1) := by decide +kernel
theorem dX7_tick_48 : decode cX7_tick 48 = .ok (.getfield 141, 3) := by decide +kernel
theorem dX7_tick_51 : decode cX7_tick 51 = .ok (.ireturn, 1) := by decide +kernel
theorem dX7_isTalker_0 : decode cX7_isTalker 0 = .ok (.iload_n 1, 1) := by decide +kernel
theorem dX7_isTalker_1 : decode cX7_isTalker 1 = .ok (.ifCond .lt 17, 3) := by decide +kernel
theorem dX7_isTalker_4 : decode cX7_isTalker 4 = .ok (.iload_n 1, 1) := by decide +kernel
theorem dX7_isTalker_5 : decode cX7_isTalker 5 = .ok (.aload_n 0, 1) := by decide +kernel
theorem dX7_isTalker_6 : decode cX7_isTalker 6 = .ok (.getfield 25, 3) := by decide +kernel
theorem dX7_isTalker_9 : decode cX7_isTalker 9 = .ok (.iconst 2, 1) := by decide +kernel
theorem dX7_isTalker_10 : decode cX7_isTalker 10 = .ok (.iaload, 1) := by decide +kernel
theorem dX7_isTalker_11 : decode cX7_isTalker 11 = .ok (.if_icmp .ge 7, 3) := by decide +kernel
theorem dX7_isTalker_14 : decode cX7_isTalker 14 = .ok (.iconst 1, 1) := by decide +kernel
theorem dX7_isTalker_15 : decode cX7_isTalker 15 = .ok (.goto 4, 3) := by decide +kernel
theorem dX7_isTalker_18 : decode cX7_isTalker 18 = .ok (.iconst 0, 1) := by decide +kernel
theorem dX7_isTalker_19 : decode cX7_isTalker 19 = .ok (.ireturn, 1) := by decide +kernel
theorem dX7_talk_0 : decode cX7_talk 0 = .ok (.aload_n 0, 1) := by decide +kernel
theorem dX7_talk_1 : decode cX7_talk 1 = .ok (.aload_n 0, 1) := by decide +kernel
theorem dX7_talk_2 : decode cX7_talk 2 = .ok (.iload_n 1, 1) := by decide +kernel
theorem dX7_talk_3 : decode cX7_talk 3 = .ok (.invokevirtual 186, 3) := by decide +kernel
theorem dX7_talk_6 : decode cX7_talk 6 = .ok (.ifCond .ne 7, 3) := by decide +kernel
theorem dX7_talk_9 : decode cX7_talk 9 = .ok (.iconst 1, 1) := by decide +kernel
theorem dX7_talk_10 : decode cX7_talk 10 = .ok (.goto 18, 3) := by decide +kernel
theorem dX7_talk_13 : decode cX7_talk 13 = .ok (.iload_n 3, 1) := by decide +kernel
theorem dX7_talk_14 : decode cX7_talk 14 = .ok (.ifCond .lt 9, 3) := by decide +kernel
theorem dX7_talk_17 : decode cX7_talk 17 = .ok (.iload_n 3, 1) := by decide +kernel
theorem dX7_talk_18 : decode cX7_talk 18 = .ok (.bipush 7, 2) := by decide +kernel
theorem dX7_talk_20 : decode cX7_talk 20 = .ok (.if_icmp .le 7, 3) := by decide +kernel
theorem dX7_talk_23 : decode cX7_talk 23 = .ok (.iconst 2, 1) := by decide +kernel
theorem dX7_talk_24 : decode cX7_talk 24 = .ok (.goto 4, 3) := by decide +kernel
theorem dX7_talk_27 : decode cX7_talk 27 = .ok (.iconst 0, 1) := by decide +kernel
theorem dX7_talk_28 : decode cX7_talk 28 = .ok (.putfield 89, 3) := by decide +kernel
theorem dX7_talk_31 : decode cX7_talk 31 = .ok (.aload_n 0, 1) := by decide +kernel
theorem dX7_talk_32 : decode cX7_talk 32 = .ok (.getfield 89, 3) := by decide +kernel
theorem dX7_talk_35 : decode cX7_talk 35 = .ok (.ifCond .ne 25, 3) := by decide +kernel
theorem dX7_talk_38 : decode cX7_talk 38 = .ok (.aload_n 0, 1) := by decide +kernel
theorem dX7_talk_39 : decode cX7_talk 39 = .ok (.getfield 46, 3) := by decide +kernel
theorem dX7_talk_42 : decode cX7_talk 42 = .ok (.iload_n 1, 1) := by decide +kernel
theorem dX7_talk_43 : decode cX7_talk 43 = .ok (.iload_n 2, 1) := by decide +kernel
theorem dX7_talk_44 : decode cX7_talk 44 = .ok (.ifCond .ne 7, 3) := by decide +kernel
theorem dX7_talk_47 : decode cX7_talk 47 = .ok (.iconst 1, 1) := by decide +kernel
theorem dX7_talk_48 : decode cX7_talk 48 = .ok (.goto 4, 3) := by decide +kernel
theorem dX7_talk_51 : decode cX7_talk 51 = .ok (.iconst 0, 1) := by decide +kernel
theorem dX7_talk_52 : decode cX7_talk 52 = .ok (.bastore, 1) := by decide +kernel
theorem dX7_talk_53 : decode cX7_talk 53 = .ok (.aload_n 0, 1) := by decide +kernel
theorem dX7_talk_54 : decode cX7_talk 54 = .ok (.getfield 50, 3) := by decide +kernel
theorem dX7_talk_57 : decode cX7_talk 57 = .ok (.iload_n 1, 1) := by decide +kernel
theorem dX7_talk_58 : decode cX7_talk 58 = .ok (.iload_n 3, 1) := by decide +kernel
theorem dX7_talk_59 : decode cX7_talk 59 = .ok (.iastore, 1) := by decide +kernel
theorem dX7_talk_60 : decode cX7_talk 60 = .ok (.return_, 1) := by decide +kernel
theorem dX7_unblock_0 : decode cX7_unblock 0 = .ok (.aload_n 0, 1) := by decide +kernel
theorem dX7_unblock_1 : decode cX7_unblock 1 = .ok (.aload_n 0, 1) := by decide +kernel
theorem dX7_unblock_2 : decode cX7_unblock 2 = .ok (.iload_n 1, 1) := by decide +kernel
theorem dX7_unblock_3 : decode cX7_unblock 3 = .ok (.invokevirtual 186, 3) := by decide +kernel
theorem dX7_unblock_6 : decode cX7_unblock 6 = .ok (.ifCond .eq 7, 3) := by decide +kernel
theorem dX7_unblock_9 : decode cX7_unblock 9 = .ok (.iconst 0, 1) := by decide +kernel
theorem dX7_unblock_10 : decode cX7_unblock 10 = .ok (.goto 4, 3) := by decide +kernel
theorem dX7_unblock_13 : decode cX7_unblock 13 = .ok (.iconst 1, 1) := by decide +kernel
theorem dX7_unblock_14 : decode cX7_unblock 14 = .ok (.putfield 89, 3) := by decide +kernel
theorem dX7_unblock_17 : decode cX7_unblock 17 = .ok (.aload_n 0, 1) := by decide +kernel
theorem dX7_unblock_18 : decode cX7_unblock 18 = .ok (.getfield 89, 3) := by decide +kernel
theorem dX7_unblock_21 : decode cX7_unblock 21 = .ok (.ifCond .ne 16, 3) := by decide +kernel
theorem dX7_unblock_24 : decode cX7_unblock 24 = .ok (.aload_n 0, 1) := by decide +kernel
theorem dX7_unblock_25 : decode cX7_unblock 25 = .ok (.getfield 53, 3) := by decide +kernel
theorem dX7_unblock_28 : decode cX7_unblock 28 = .ok (.iload_n 1, 1) := by decide +kernel
theorem dX7_unblock_29 : decode cX7_unblock 29 = .ok (.baload, 1) := by decide +kernel
theorem dX7_unblock_30 : decode cX7_unblock 30 = .ok (.ifCond .eq 7, 3) := by decide +kernel
theorem dX7_unblock_33 : decode cX7_unblock 33 = .ok (.iconst 1, 1) := by decide +kernel
theorem dX7_unblock_34 : decode cX7_unblock 34 = .ok (.goto 4, 3) := by decide +kernel
theorem dX7_unblock_37 : decode cX7_unblock 37 = .ok (.iconst 0, 1) := by decide +kernel
theorem dX7_unblock_38 : decode cX7_unblock 38 = .ok (.istore_n 2, 1) := by decide +kernel
theorem dX7_unblock_39 : decode cX7_unblock 39 = .ok (.iload_n 2, 1) := by decide +kernel
theorem dX7_unblock_40 : decode cX7_unblock 40 = .ok (.ifCond .eq 10, 3) := by decide +kernel
theorem dX7_unblock_43 : decode cX7_unblock 43 = .ok (.aload_n 0, 1) := by decide +kernel
theorem dX7_unblock_44 : decode cX7_unblock 44 = .ok (.getfield 53, 3) := by decide +kernel
theorem dX7_unblock_47 : decode cX7_unblock 47 = .ok (.iload_n 1, 1) := by decide +kernel
theorem dX7_unblock_48 : decode cX7_unblock 48 = .ok (.iconst 0, 1) := by decide +kernel
theorem dX7_unblock_49 : decode cX7_unblock 49 = .ok (.bastore, 1) := by decide +kernel
theorem dX7_unblock_50 : decode cX7_unblock 50 = .ok (.iload_n 2, 1) := by decide +kernel
theorem dX7_unblock_51 : decode cX7_unblock 51 = .ok (.ireturn, 1) := by decide +kernel
theorem dX7_isHit_0 : decode cX7_isHit 0 = .ok (.iconst 0, 1) := by decide +kernel
theorem dX7_isHit_1 : decode cX7_isHit 1 = .ok (.istore_n 3, 1) := by decide +kernel
theorem dX7_isHit_2 : decode cX7_isHit 2 = .ok (.iconst 0, 1) := by decide +kernel
theorem dX7_isHit_3 : decode cX7_isHit 3 = .ok (.istore 4, 2) := by decide +kernel
theorem dX7_isHit_5 : decode cX7_isHit 5 = .ok (.iload 4, 2) := by decide +kernel
theorem dX7_isHit_7 : decode cX7_isHit 7 = .ok (.aload_n 0, 1) := by decide +kernel
theorem dX7_isHit_8 : decode cX7_isHit 8 = .ok (.aload_n 0, 1) := by decide +kernel
theorem dX7_isHit_9 : decode cX7_isHit 9 = .ok (.getfield 68, 3) := by decide +kernel
theorem dX7_isHit_12 : decode cX7_isHit 12 = .ok (.iload_n 1, 1) := by decide +kernel
theorem dX7_isHit_13 : decode cX7_isHit 13 = .ok (.iaload, 1) := by decide +kernel
theorem dX7_isHit_14 : decode cX7_isHit 14 = .ok (.invokevirtual 150, 3) := by decide +kernel
theorem dX7_isHit_17 : decode cX7_isHit 17 = .ok (.if_icmp .gt 63, 3) := by decide +kernel
theorem dX7_isHit_20 : decode cX7_isHit 20 = .ok (.iload_n 3, 1) := by decide +kernel
theorem dX7_isHit_21 : decode cX7_isHit 21 = .ok (.ifCond .ne 47, 3) := by decide +kernel
theorem dX7_isHit_24 : decode cX7_isHit 24 = .ok (.aload_n 0, 1) := by decide +kernel
theorem dX7_isHit_25 : decode cX7_isHit 25 = .ok (.aload_n 0, 1) := by decide +kernel
theorem dX7_isHit_26 : decode cX7_isHit 26 = .ok (.getfield 68, 3) := by decide +kernel
theorem dX7_isHit_29 : decode cX7_isHit 29 = .ok (.iload_n 1, 1) := by decide +kernel
theorem dX7_isHit_30 : decode cX7_isHit 30 = .ok (.iaload, 1) := by decide +kernel
theorem dX7_isHit_31 : decode cX7_isHit 31 = .ok (.iload 4, 2) := by decide +kernel
theorem dX7_isHit_33 : decode cX7_isHit 33 = .ok (.invokevirtual 147, 3) := by decide +kernel
theorem dX7_isHit_36 : decode cX7_isHit 36 = .ok (.iload_n 2, 1) := by decide +kernel
theorem dX7_isHit_37 : decode cX7_isHit 37 = .ok (.if_icmp .ne 35, 3) := by decide +kernel
theorem dX7_isHit_40 : decode cX7_isHit 40 = .ok (.aload_n 0, 1) := by decide +kernel
theorem dX7_isHit_41 : decode cX7_isHit 41 = .ok (.iload_n 1, 1) := by decide +kernel
theorem dX7_isHit_42 : decode cX7_isHit 42 = .ok (.iload 4, 2) := by decide +kernel
theorem dX7_isHit_44 : decode cX7_isHit 44 = .ok (.invokevirtual 144, 3) := by decide +kernel
theorem dX7_isHit_47 : decode cX7_isHit 47 = .ok (.aload_n 0, 1) := by decide +kernel
theorem dX7_isHit_48 : decode cX7_isHit 48 = .ok (.getfield 141, 3) := by decide +kernel
theorem dX7_isHit_51 : decode cX7_isHit 51 = .ok (.if_icmp .ge 21, 3) := by decide +kernel
theorem dX7_isHit_54 : decode cX7_isHit 54 = .ok (.aload_n 0, 1) := by decide +kernel
theorem dX7_isHit_55 : decode cX7_isHit 55 = .ok (.iload_n 1, 1) := by decide +kernel
theorem dX7_isHit_56 : decode cX7_isHit 56 = .ok (.iload 4, 2) := by decide +kernel
theorem dX7_isHit_58 : decode cX7_isHit 58 = .ok (.invokevirtual 161, 3) := by decide +kernel
theorem dX7_isHit_61 : decode cX7_isHit 61 = .ok (.aload_n 0, 1) := by decide +kernel
theorem dX7_isHit_62 : decode cX7_isHit 62 = .ok (.getfield 141, 3) := by decide +kernel
theorem dX7_isHit_65 : decode cX7_isHit 65 = .ok (.if_icmp .le 7, 3) := by decide +kernel
theorem dX7_isHit_68 : decode cX7_isHit 68 = .ok (.iconst 1, 1) := by decide +kernel
theorem dX7_isHit_69 : decode cX7_isHit 69 = .ok (.goto 4, 3) := by decide +kernel
theorem dX7_isHit_72 : decode cX7_isHit 72 = .ok (.iconst 0, 1) := by decide +kernel
theorem dX7_isHit_73 : decode cX7_isHit 73 = .ok (.istore_n 3, 1) := by decide +kernel
theorem dX7_isHit_74 : decode cX7_isHit 74 = .ok (.iinc 4 1, 3) := by decide +kernel
theorem dX7_isHit_77 : decode cX7_isHit 77 = .ok (.goto (-72), 3) := by decide +kernel
theorem dX7_isHit_80 : decode cX7_isHit 80 = .ok (.iload_n 3, 1) := by decide +kernel
theorem dX7_isHit_81 : decode cX7_isHit 81 = .ok (.ireturn, 1) := by decide +kernel
theorem dX7_cut_0 : decode cX7_cut 0 = .ok (.aload_n 0, 1) := by decide +kernel
theorem dX7_cut_1 : decode cX7_cut 1 = .ok (.iload_n 1, 1) := by decide +kernel
theorem dX7_cut_2 : decode cX7_cut 2 = .ok (.invokestatic 93, 3) := by decide +kernel
theorem dX7_cut_5 : decode cX7_cut 5 = .ok (.ifCond .eq 7, 3) := by decide +kernel
theorem dX7_cut_8 : decode cX7_cut 8 = .ok (.iconst 0, 1) := by decide +kernel
theorem dX7_cut_9 : decode cX7_cut 9 = .ok (.goto 4, 3) := by decide +kernel
theorem dX7_cut_12 : decode cX7_cut 12 = .ok (.iconst 1, 1) := by decide +kernel
theorem dX7_cut_13 : decode cX7_cut 13 = .ok (.putfield 89, 3) := by decide +kernel
theorem dX7_cut_16 : decode cX7_cut 16 = .ok (.aload_n 0, 1) := by decide +kernel
theorem dX7_cut_17 : decode cX7_cut 17 = .ok (.getfield 89, 3) := by decide +kernel
theorem dX7_cut_20 : decode cX7_cut 20 = .ok (.ifCond .gt 13, 3) := by decide +kernel
theorem dX7_cut_23 : decode cX7_cut 23 = .ok (.aload_n 0, 1) := by decide +kernel
theorem dX7_cut_24 : decode cX7_cut 24 = .ok (.getfield 74, 3) := by decide +kernel
theorem dX7_cut_27 : decode cX7_cut 27 = .ok (.iload_n 1, 1) := by decide +kernel
theorem dX7_cut_28 : decode cX7_cut 28 = .ok (.baload, 1) := by decide +kernel
theorem dX7_cut_29 : decode cX7_cut 29 = .ok (.iload_n 2, 1) := by decide +kernel
theorem dX7_cut_30 : decode cX7_cut 30 = .ok (.if_icmp .ne 5, 3) := by decide +kernel
theorem dX7_cut_33 : decode cX7_cut 33 = .ok (.iconst 0, 1) := by decide +kernel
theorem dX7_cut_34 : decode cX7_cut 34 = .ok (.ireturn, 1) := by decide +kernel
theorem dX7_cut_35 : decode cX7_cut 35 = .ok (.aload_n 0, 1) := by decide +kernel
theorem dX7_cut_36 : decode cX7_cut 36 = .ok (.getfield 74, 3) := by decide +kernel
theorem dX7_cut_39 : decode cX7_cut 39 = .ok (.iload_n 1, 1) := by decide +kernel
theorem dX7_cut_40 : decode cX7_cut 40 = .ok (.iload_n 2, 1) := by decide +kernel
theorem dX7_cut_41 : decode cX7_cut 41 = .ok (.bastore, 1) := by decide +kernel
theorem dX7_cut_42 : decode cX7_cut 42 = .ok (.aload_n 0, 1) := by decide +kernel
theorem dX7_cut_43 : decode cX7_cut 43 = .ok (.getfield 138, 3) := by decide +kernel
theorem dX7_cut_46 : decode cX7_cut 46 = .ok (.iconst 1, 1) := by decide +kernel
theorem dX7_cut_47 : decode cX7_cut 47 = .ok (.isub, 1) := by decide +kernel
theorem dX7_cut_48 : decode cX7_cut 48 = .ok (.istore_n 3, 1) := by decide +kernel
theorem dX7_cut_49 : decode cX7_cut 49 = .ok (.iload_n 3, 1) := by decide +kernel
theorem dX7_cut_50 : decode cX7_cut 50 = .ok (.ifCond .lt 42, 3) := by decide +kernel
theorem dX7_cut_53 : decode cX7_cut 53 = .ok (.iload_n 2, 1) := by decide +kernel
theorem dX7_cut_54 : decode cX7_cut 54 = .ok (.ifCond .eq 38, 3) := by decide +kernel
theorem dX7_cut_57 : decode cX7_cut 57 = .ok (.aload_n 0, 1) := by decide +kernel
theorem dX7_cut_58 : decode cX7_cut 58 = .ok (.iload_n 3, 1) := by decide +kernel
theorem dX7_cut_59 : decode cX7_cut 59 = .ok (.iload_n 1, 1) := by decide +kernel
theorem dX7_cut_60 : decode cX7_cut 60 = .ok (.invokevirtual 189, 3) := by decide +kernel
theorem dX7_cut_63 : decode cX7_cut 63 = .ok (.ifCond .eq 23, 3) := by decide +kernel
theorem dX7_cut_66 : decode cX7_cut 66 = .ok (.aload_n 0, 1) := by decide +kernel
theorem dX7_cut_67 : decode cX7_cut 67 = .ok (.getfield 59, 3) := by decide +kernel
theorem dX7_cut_70 : decode cX7_cut 70 = .ok (.aload_n 0, 1) := by decide +kernel
theorem dX7_cut_71 : decode cX7_cut 71 = .ok (.getfield 68, 3) := by decide +kernel
theorem dX7_cut_74 : decode cX7_cut 74 = .ok (.iload_n 3, 1) := by decide +kernel
theorem dX7_cut_75 : decode cX7_cut 75 = .ok (.iaload, 1) := by decide +kernel
theorem dX7_cut_76 : decode cX7_cut 76 = .ok (.dup2, 1) := by decide +kernel
theorem dX7_cut_77 : decode cX7_cut 77 = .ok (.iaload, 1) := by decide +kernel
theorem dX7_cut_78 : decode cX7_cut 78 = .ok (.iconst 1, 1) := by decide +kernel
theorem dX7_cut_79 : decode cX7_cut 79 = .ok (.iadd, 1) := by decide +kernel
theorem dX7_cut_80 : decode cX7_cut 80 = .ok (.iastore, 1) := by decide +kernel
theorem dX7_cut_81 : decode cX7_cut 81 = .ok (.aload_n 0, 1) := by decide +kernel
theorem dX7_cut_82 : decode cX7_cut 82 = .ok (.iload_n 3, 1) := by decide +kernel
theorem dX7_cut_83 : decode cX7_cut 83 = .ok (.invokevirtual 157, 3) := by decide +kernel
theorem dX7_cut_86 : decode cX7_cut 86 = .ok (.iinc 3 (-1), 3) := by decide +kernel
theorem dX7_cut_89 : decode cX7_cut 89 = .ok (.goto (-40), 3) := by decide +kernel
theorem dX7_cut_92 : decode cX7_cut 92 = .ok (.aload_n 0, 1) := by decide +kernel
theorem dX7_cut_93 : decode cX7_cut 93 = .ok (.getfield 83, 3) := by decide +kernel
theorem dX7_cut_96 : decode cX7_cut 96 = .ok (.iload_n 1, 1) := by decide +kernel
theorem dX7_cut_97 : decode cX7_cut 97 = .ok (.iload_n 2, 1) := by decide +kernel
theorem dX7_cut_98 : decode cX7_cut 98 = .ok (.ifCond .eq 7, 3) := by decide +kernel
theorem dX7_cut_101 : decode cX7_cut 101 = .ok (.iconst 0, 1) := by decide +kernel
theorem dX7_cut_102 : decode cX7_cut 102 = .ok (.goto 9, 3) := by decide +kernel
theorem dX7_cut_105 : decode cX7_cut 105 = .ok (.aload_n 0, 1) := by decide +kernel
theorem dX7_cut_106 : decode cX7_cut 106 = .ok (.getfield 83, 3) := by decide +kernel
theorem dX7_cut_109 : decode cX7_cut 109 = .ok (.iload_n 1, 1) := by decide +kernel
theorem dX7_cut_110 : decode cX7_cut 110 = .ok (.iaload, 1) := by decide +kernel
theorem dX7_cut_111 : decode cX7_cut 111 = .ok (.iastore, 1) := by decide +kernel
theorem dX7_cut_112 : decode cX7_cut 112 = .ok (.iconst 1, 1) := by decide +kernel
theorem dX7_cut_113 : decode cX7_cut 113 = .ok (.ireturn, 1) := by decide +kernel
theorem dX7_babble_0 : decode cX7_babble 0 = .ok (.aload_n 0, 1) := by decide +kernel
theorem dX7_babble_1 : decode cX7_babble 1 = .ok (.iload_n 1, 1) := by decide +kernel
theorem dX7_babble_2 : decode cX7_babble 2 = .ok (.invokestatic 93, 3) := by decide +kernel
theorem dX7_babble_5 : decode cX7_babble 5 = .ok (.ifCond .ne 7, 3) := by decide +kernel
theorem dX7_babble_8 : decode cX7_babble 8 = .ok (.iconst 1, 1) := by decide +kernel
theorem dX7_babble_9 : decode cX7_babble 9 = .ok (.goto 33, 3) := by decide +kernel
theorem dX7_babble_12 : decode cX7_babble 12 = .ok (.iload_n 2, 1) := by decide +kernel
theorem dX7_babble_13 : decode cX7_babble 13 = .ok (.iconst 1, 1) := by decide +kernel
theorem dX7_babble_14 : decode cX7_babble 14 = .ok (.if_icmp .lt 9, 3) := by decide +kernel
theorem dX7_babble_17 : decode cX7_babble 17 = .ok (.iload_n 2, 1) := by decide +kernel
theorem dX7_babble_18 : decode cX7_babble 18 = .ok (.bipush 8, 2) := by decide +kernel
theorem dX7_babble_20 : decode cX7_babble 20 = .ok (.if_icmp .le 7, 3) := by decide +kernel
theorem dX7_babble_23 : decode cX7_babble 23 = .ok (.iconst 2, 1) := by decide +kernel
theorem dX7_babble_24 : decode cX7_babble 24 = .ok (.goto 18, 3) := by decide +kernel
theorem dX7_babble_27 : decode cX7_babble 27 = .ok (.aload_n 0, 1) := by decide +kernel
theorem dX7_babble_28 : decode cX7_babble 28 = .ok (.getfield 77, 3) := by decide +kernel
theorem dX7_babble_31 : decode cX7_babble 31 = .ok (.iload_n 1, 1) := by decide +kernel
theorem dX7_babble_32 : decode cX7_babble 32 = .ok (.iaload, 1) := by decide +kernel
theorem dX7_babble_33 : decode cX7_babble 33 = .ok (.iconst 4, 1) := by decide +kernel
theorem dX7_babble_34 : decode cX7_babble 34 = .ok (.if_icmp .ne 7, 3) := by decide +kernel
theorem dX7_babble_37 : decode cX7_babble 37 = .ok (.iconst 3, 1) := by decide +kernel
theorem dX7_babble_38 : decode cX7_babble 38 = .ok (.goto 4, 3) := by decide +kernel
theorem dX7_babble_41 : decode cX7_babble 41 = .ok (.iconst 0, 1) := by decide +kernel
theorem dX7_babble_42 : decode cX7_babble 42 = .ok (.putfield 89, 3) := by decide +kernel
theorem dX7_babble_45 : decode cX7_babble 45 = .ok (.aload_n 0, 1) := by decide +kernel
theorem dX7_babble_46 : decode cX7_babble 46 = .ok (.getfield 89, 3) := by decide +kernel
theorem dX7_babble_49 : decode cX7_babble 49 = .ok (.ifCond .le 5, 3) := by decide +kernel
theorem dX7_babble_52 : decode cX7_babble 52 = .ok (.iconst 0, 1) := by decide +kernel
theorem dX7_babble_53 : decode cX7_babble 53 = .ok (.ireturn, 1) := by decide +kernel
theorem dX7_babble_54 : decode cX7_babble 54 = .ok (.aload_n 0, 1) := by decide +kernel
theorem dX7_babble_55 : decode cX7_babble 55 = .ok (.getfield 80, 3) := by decide +kernel
theorem dX7_babble_58 : decode cX7_babble 58 = .ok (.iconst 4, 1) := by decide +kernel
theorem dX7_babble_59 : decode cX7_babble 59 = .ok (.iload_n 1, 1) := by decide +kernel
theorem dX7_babble_60 : decode cX7_babble 60 = .ok (.imul, 1) := by decide +kernel
theorem dX7_babble_61 : decode cX7_babble 61 = .ok (.aload_n 0, 1) := by decide +kernel
theorem dX7_babble_62 : decode cX7_babble 62 = .ok (.getfield 77, 3) := by decide +kernel
theorem dX7_babble_65 : decode cX7_babble 65 = .ok (.iload_n 1, 1) := by decide +kernel
theorem dX7_babble_66 : decode cX7_babble 66 = .ok (.iaload, 1) := by decide +kernel
theorem dX7_babble_67 : decode cX7_babble 67 = .ok (.iadd, 1) := by decide +kernel
theorem dX7_babble_68 : decode cX7_babble 68 = .ok (.iload_n 2, 1) := by decide +kernel
theorem dX7_babble_69 : decode cX7_babble 69 = .ok (.iastore, 1) := by decide +kernel
theorem dX7_babble_70 : decode cX7_babble 70 = .ok (.aload_n 0, 1) := by decide +kernel
theorem dX7_babble_71 : decode cX7_babble 71 = .ok (.getfield 77, 3) := by decide +kernel
theorem dX7_babble_74 : decode cX7_babble 74 = .ok (.iload_n 1, 1) := by decide +kernel
theorem dX7_babble_75 : decode cX7_babble 75 = .ok (.dup2, 1) := by decide +kernel
theorem dX7_babble_76 : decode cX7_babble 76 = .ok (.iaload, 1) := by decide +kernel
theorem dX7_babble_77 : decode cX7_babble 77 = .ok (.iconst 1, 1) := by decide +kernel
theorem dX7_babble_78 : decode cX7_babble 78 = .ok (.iadd, 1) := by decide +kernel
theorem dX7_babble_79 : decode cX7_babble 79 = .ok (.iastore, 1) := by decide +kernel
theorem dX7_babble_80 : decode cX7_babble 80 = .ok (.aload_n 0, 1) := by decide +kernel
theorem dX7_babble_81 : decode cX7_babble 81 = .ok (.getfield 77, 3) := by decide +kernel
theorem dX7_babble_84 : decode cX7_babble 84 = .ok (.iload_n 1, 1) := by decide +kernel
theorem dX7_babble_85 : decode cX7_babble 85 = .ok (.iaload, 1) := by decide +kernel
theorem dX7_babble_86 : decode cX7_babble 86 = .ok (.ireturn, 1) := by decide +kernel
theorem dX7_told_0 : decode cX7_told 0 = .ok (.aload_n 0, 1) := by decide +kernel
theorem dX7_told_1 : decode cX7_told 1 = .ok (.aload_n 0, 1) := by decide +kernel
theorem dX7_told_2 : decode cX7_told 2 = .ok (.iload_n 1, 1) := by decide +kernel
theorem dX7_told_3 : decode cX7_told 3 = .ok (.invokevirtual 186, 3) := by decide +kernel
theorem dX7_told_6 : decode cX7_told 6 = .ok (.ifCond .eq 12, 3) := by decide +kernel
theorem dX7_told_9 : decode cX7_told 9 = .ok (.iload_n 2, 1) := by decide +kernel
theorem dX7_told_10 : decode cX7_told 10 = .ok (.ifCond .lt 8, 3) := by decide +kernel
theorem dX7_told_13 : decode cX7_told 13 = .ok (.iload_n 2, 1) := by decide +kernel
theorem dX7_told_14 : decode cX7_told 14 = .ok (.iconst 5, 1) := by decide +kernel
theorem dX7_told_15 : decode cX7_told 15 = .ok (.if_icmp .le 7, 3) := by decide +kernel
theorem dX7_told_18 : decode cX7_told 18 = .ok (.iconst 1, 1) := by decide +kernel
theorem dX7_told_19 : decode cX7_told 19 = .ok (.goto 4, 3) := by decide +kernel
theorem dX7_told_22 : decode cX7_told 22 = .ok (.iconst 0, 1) := by decide +kernel
theorem dX7_told_23 : decode cX7_told 23 = .ok (.putfield 89, 3) := by decide +kernel
theorem dX7_told_26 : decode cX7_told 26 = .ok (.aload_n 0, 1) := by decide +kernel
theorem dX7_told_27 : decode cX7_told 27 = .ok (.getfield 89, 3) := by decide +kernel
theorem dX7_told_30 : decode cX7_told 30 = .ok (.ifCond .le 5, 3) := by decide +kernel
theorem dX7_told_33 : decode cX7_told 33 = .ok (.iconst 0, 1) := by decide +kernel
theorem dX7_told_34 : decode cX7_told 34 = .ok (.ireturn, 1) := by decide +kernel
theorem dX7_told_35 : decode cX7_told 35 = .ok (.iconst 0, 1) := by decide +kernel
theorem dX7_told_36 : decode cX7_told 36 = .ok (.istore_n 3, 1) := by decide +kernel
theorem dX7_told_37 : decode cX7_told 37 = .ok (.iconst 0, 1) := by decide +kernel
theorem dX7_told_38 : decode cX7_told 38 = .ok (.istore 4, 2) := by decide +kernel
theorem dX7_told_40 : decode cX7_told 40 = .ok (.iload 4, 2) := by decide +kernel
theorem dX7_told_42 : decode cX7_told 42 = .ok (.aload_n 0, 1) := by decide +kernel
theorem dX7_told_43 : decode cX7_told 43 = .ok (.getfield 138, 3) := by decide +kernel
theorem dX7_told_46 : decode cX7_told 46 = .ok (.if_icmp .ge 28, 3) := by decide +kernel
theorem dX7_told_49 : decode cX7_told 49 = .ok (.aload_n 0, 1) := by decide +kernel
theorem dX7_told_50 : decode cX7_told 50 = .ok (.getfield 68, 3) := by decide +kernel
theorem dX7_told_53 : decode cX7_told 53 = .ok (.iload 4, 2) := by decide +kernel
theorem dX7_told_55 : decode cX7_told 55 = .ok (.iaload, 1) := by decide +kernel
theorem dX7_told_56 : decode cX7_told 56 = .ok (.iload_n 1, 1) := by decide +kernel
theorem dX7_told_57 : decode cX7_told 57 = .ok (.if_icmp .ne 9, 3) := by decide +kernel
theorem dX7_told_60 : decode cX7_told 60 = .ok (.iload_n 3, 1) := by decide +kernel
theorem dX7_told_61 : decode cX7_told 61 = .ok (.iconst 1, 1) := by decide +kernel
theorem dX7_told_62 : decode cX7_told 62 = .ok (.iadd, 1) := by decide +kernel
theorem dX7_told_63 : decode cX7_told 63 = .ok (.goto 4, 3) := by decide +kernel
theorem dX7_told_66 : decode cX7_told 66 = .ok (.iload_n 3, 1) := by decide +kernel
theorem dX7_told_67 : decode cX7_told 67 = .ok (.istore_n 3, 1) := by decide +kernel
theorem dX7_told_68 : decode cX7_told 68 = .ok (.iinc 4 1, 3) := by decide +kernel
theorem dX7_told_71 : decode cX7_told 71 = .ok (.goto (-31), 3) := by decide +kernel
theorem dX7_told_74 : decode cX7_told 74 = .ok (.iload_n 2, 1) := by decide +kernel
theorem dX7_told_75 : decode cX7_told 75 = .ok (.tableswitch 63 0 4 #[33, 35, 42, 49, 56], 33) := by decide +kernel
theorem dX7_told_108 : decode cX7_told 108 = .ok (.iload_n 3, 1) := by decide +kernel
theorem dX7_told_109 : decode cX7_told 109 = .ok (.ireturn, 1) := by decide +kernel
theorem dX7_told_110 : decode cX7_told 110 = .ok (.aload_n 0, 1) := by decide +kernel
theorem dX7_told_111 : decode cX7_told 111 = .ok (.getfield 56, 3) := by decide +kernel
theorem dX7_told_114 : decode cX7_told 114 = .ok (.iload_n 1, 1) := by decide +kernel
theorem dX7_told_115 : decode cX7_told 115 = .ok (.iaload, 1) := by decide +kernel
theorem dX7_told_116 : decode cX7_told 116 = .ok (.ireturn, 1) := by decide +kernel
theorem dX7_told_117 : decode cX7_told 117 = .ok (.aload_n 0, 1) := by decide +kernel
theorem dX7_told_118 : decode cX7_told 118 = .ok (.getfield 59, 3) := by decide +kernel
theorem dX7_told_121 : decode cX7_told 121 = .ok (.iload_n 1, 1) := by decide +kernel
theorem dX7_told_122 : decode cX7_told 122 = .ok (.iaload, 1) := by decide +kernel
theorem dX7_told_123 : decode cX7_told 123 = .ok (.ireturn, 1) := by decide +kernel
theorem dX7_told_124 : decode cX7_told 124 = .ok (.aload_n 0, 1) := by decide +kernel
theorem dX7_told_125 : decode cX7_told 125 = .ok (.getfield 62, 3) := by decide +kernel
theorem dX7_told_128 : decode cX7_told 128 = .ok (.iload_n 1, 1) := by decide +kernel
theorem dX7_told_129 : decode cX7_told 129 = .ok (.iaload, 1) := by decide +kernel
theorem dX7_told_130 : decode cX7_told 130 = .ok (.ireturn, 1) := by decide +kernel
theorem dX7_told_131 : decode cX7_told 131 = .ok (.aload_n 0, 1) := by decide +kernel
theorem dX7_told_132 : decode cX7_told 132 = .ok (.getfield 65, 3) := by decide +kernel
theorem dX7_told_135 : decode cX7_told 135 = .ok (.iload_n 1, 1) := by decide +kernel
theorem dX7_told_136 : decode cX7_told 136 = .ok (.iaload, 1) := by decide +kernel
theorem dX7_told_137 : decode cX7_told 137 = .ok (.ireturn, 1) := by decide +kernel
theorem dX7_told_138 : decode cX7_told 138 = .ok (.aload_n 0, 1) := by decide +kernel
theorem dX7_told_139 : decode cX7_told 139 = .ok (.getfield 53, 3) := by decide +kernel
theorem dX7_told_142 : decode cX7_told 142 = .ok (.iload_n 1, 1) := by decide +kernel
theorem dX7_told_143 : decode cX7_told 143 = .ok (.baload, 1) := by decide +kernel
theorem dX7_told_144 : decode cX7_told 144 = .ok (.ifCond .eq 7, 3) := by decide +kernel
theorem dX7_told_147 : decode cX7_told 147 = .ok (.iconst 1, 1) := by decide +kernel
theorem dX7_told_148 : decode cX7_told 148 = .ok (.goto 4, 3) := by decide +kernel
theorem dX7_told_151 : decode cX7_told 151 = .ok (.iconst 0, 1) := by decide +kernel
theorem dX7_told_152 : decode cX7_told 152 = .ok (.ireturn, 1) := by decide +kernel
theorem dX7_on_0 : decode cX7_on 0 = .ok (.iconst 0, 1) := by decide +kernel
theorem dX7_on_1 : decode cX7_on 1 = .ok (.istore_n 2, 1) := by decide +kernel
theorem dX7_on_2 : decode cX7_on 2 = .ok (.iload_n 2, 1) := by decide +kernel
theorem dX7_on_3 : decode cX7_on 3 = .ok (.aload_n 0, 1) := by decide +kernel
theorem dX7_on_4 : decode cX7_on 4 = .ok (.getfield 138, 3) := by decide +kernel
theorem dX7_on_7 : decode cX7_on 7 = .ok (.if_icmp .ge 94, 3) := by decide +kernel
theorem dX7_on_10 : decode cX7_on 10 = .ok (.iconst 0, 1) := by decide +kernel
theorem dX7_on_11 : decode cX7_on 11 = .ok (.istore_n 3, 1) := by decide +kernel
theorem dX7_on_12 : decode cX7_on 12 = .ok (.iload_n 3, 1) := by decide +kernel
theorem dX7_on_13 : decode cX7_on 13 = .ok (.aload_n 0, 1) := by decide +kernel
theorem dX7_on_14 : decode cX7_on 14 = .ok (.aload_n 0, 1) := by decide +kernel
theorem dX7_on_15 : decode cX7_on 15 = .ok (.getfield 68, 3) := by decide +kernel
theorem dX7_on_18 : decode cX7_on 18 = .ok (.iload_n 2, 1) := by decide +kernel
theorem dX7_on_19 : decode cX7_on 19 = .ok (.iaload, 1) := by decide +kernel
theorem dX7_on_20 : decode cX7_on 20 = .ok (.invokevirtual 150, 3) := by decide +kernel
theorem dX7_on_23 : decode cX7_on 23 = .ok (.if_icmp .gt 72, 3) := by decide +kernel
theorem dX7_on_26 : decode cX7_on 26 = .ok (.aload_n 0, 1) := by decide +kernel
theorem dX7_on_27 : decode cX7_on 27 = .ok (.iload_n 2, 1) := by decide +kernel
theorem dX7_on_28 : decode cX7_on 28 = .ok (.iload_n 3, 1) := by decide +kernel
theorem dX7_on_29 : decode cX7_on 29 = .ok (.invokevirtual 144, 3) := by decide +kernel
theorem dX7_on_32 : decode cX7_on 32 = .ok (.istore 4, 2) := by decide +kernel
theorem dX7_on_34 : decode cX7_on 34 = .ok (.aload_n 0, 1) := by decide +kernel
theorem dX7_on_35 : decode cX7_on 35 = .ok (.aload_n 0, 1) := by decide +kernel
theorem dX7_on_36 : decode cX7_on 36 = .ok (.getfield 68, 3) := by decide +kernel
theorem dX7_on_39 : decode cX7_on 39 = .ok (.iload_n 2, 1) := by decide +kernel
theorem dX7_on_40 : decode cX7_on 40 = .ok (.iaload, 1) := by decide +kernel
theorem dX7_on_41 : decode cX7_on 41 = .ok (.iload_n 3, 1) := by decide +kernel
theorem dX7_on_42 : decode cX7_on 42 = .ok (.invokevirtual 147, 3) := by decide +kernel
theorem dX7_on_45 : decode cX7_on 45 = .ok (.iload_n 1, 1) := by decide +kernel
theorem dX7_on_46 : decode cX7_on 46 = .ok (.if_icmp .ne 43, 3) := by decide +kernel
theorem dX7_on_49 : decode cX7_on 49 = .ok (.iload 4, 2) := by decide +kernel
theorem dX7_on_51 : decode cX7_on 51 = .ok (.aload_n 0, 1) := by decide +kernel
theorem dX7_on_52 : decode cX7_on 52 = .ok (.getfield 141, 3) := by decide +kernel
theorem dX7_on_55 : decode cX7_on 55 = .ok (.if_icmp .ge 34, 3) := by decide +kernel
theorem dX7_on_58 : decode cX7_on 58 = .ok (.iload 4, 2) := by decide +kernel
theorem dX7_on_60 : decode cX7_on 60 = .ok (.aload_n 0, 1) := by decide +kernel
theorem dX7_on_61 : decode cX7_on 61 = .ok (.getfield 31, 3) := by decide +kernel
theorem dX7_on_64 : decode cX7_on 64 = .ok (.bipush 10, 2) := by decide +kernel
theorem dX7_on_66 : decode cX7_on 66 = .ok (.aload_n 0, 1) := by decide +kernel
theorem dX7_on_67 : decode cX7_on 67 = .ok (.getfield 68, 3) := by decide +kernel
theorem dX7_on_70 : decode cX7_on 70 = .ok (.iload_n 2, 1) := by decide +kernel
theorem dX7_on_71 : decode cX7_on 71 = .ok (.iaload, 1) := by decide +kernel
theorem dX7_on_72 : decode cX7_on 72 = .ok (.iadd, 1) := by decide +kernel
theorem dX7_on_73 : decode cX7_on 73 = .ok (.iaload, 1) := by decide +kernel
theorem dX7_on_74 : decode cX7_on 74 = .ok (.iadd, 1) := by decide +kernel
theorem dX7_on_75 : decode cX7_on 75 = .ok (.aload_n 0, 1) := by decide +kernel
theorem dX7_on_76 : decode cX7_on 76 = .ok (.getfield 141, 3) := by decide +kernel
theorem dX7_on_79 : decode cX7_on 79 = .ok (.if_icmp .le 10, 3) := by decide +kernel
theorem dX7_on_82 : decode cX7_on 82 = .ok (.aload_n 0, 1) := by decide +kernel
theorem dX7_on_83 : decode cX7_on 83 = .ok (.getfield 68, 3) := by decide +kernel
theorem dX7_on_86 : decode cX7_on 86 = .ok (.iload_n 2, 1) := by decide +kernel
theorem dX7_on_87 : decode cX7_on 87 = .ok (.iaload, 1) := by decide +kernel
theorem dX7_on_88 : decode cX7_on 88 = .ok (.ireturn, 1) := by decide +kernel
theorem dX7_on_89 : decode cX7_on 89 = .ok (.iinc 3 1, 3) := by decide +kernel
theorem dX7_on_92 : decode cX7_on 92 = .ok (.goto (-80), 3) := by decide +kernel
theorem dX7_on_95 : decode cX7_on 95 = .ok (.iinc 2 1, 3) := by decide +kernel
theorem dX7_on_98 : decode cX7_on 98 = .ok (.goto (-96), 3) := by decide +kernel
theorem dX7_on_101 : decode cX7_on 101 = .ok (.aload_n 0, 1) := by decide +kernel
theorem dX7_on_102 : decode cX7_on 102 = .ok (.getfield 83, 3) := by decide +kernel
theorem dX7_on_105 : decode cX7_on 105 = .ok (.iload_n 1, 1) := by decide +kernel
theorem dX7_on_106 : decode cX7_on 106 = .ok (.iaload, 1) := by decide +kernel
theorem dX7_on_107 : decode cX7_on 107 = .ok (.ifCond .le 7, 3) := by decide +kernel
theorem dX7_on_110 : decode cX7_on 110 = .ok (.iconst 5, 1) := by decide +kernel
theorem dX7_on_111 : decode cX7_on 111 = .ok (.goto 4, 3) := by decide +kernel
theorem dX7_on_114 : decode cX7_on 114 = .ok (.iconst (-1), 1) := by decide +kernel
theorem dX7_on_115 : decode cX7_on 115 = .ok (.ireturn, 1) := by decide +kernel
theorem dX7_link_0 : decode cX7_link 0 = .ok (.aload_n 0, 1) := by decide +kernel
theorem dX7_link_1 : decode cX7_link 1 = .ok (.iload_n 1, 1) := by decide +kernel
theorem dX7_link_2 : decode cX7_link 2 = .ok (.invokestatic 93, 3) := by decide +kernel
theorem dX7_link_5 : decode cX7_link 5 = .ok (.ifCond .eq 12, 3) := by decide +kernel
theorem dX7_link_8 : decode cX7_link 8 = .ok (.iload_n 2, 1) := by decide +kernel
theorem dX7_link_9 : decode cX7_link 9 = .ok (.ifCond .lt 8, 3) := by decide +kernel
theorem dX7_link_12 : decode cX7_link 12 = .ok (.iload_n 2, 1) := by decide +kernel
theorem dX7_link_13 : decode cX7_link 13 = .ok (.iconst 3, 1) := by decide +kernel
theorem dX7_link_14 : decode cX7_link 14 = .ok (.if_icmp .le 7, 3) := by decide +kernel
theorem dX7_link_17 : decode cX7_link 17 = .ok (.iconst 1, 1) := by decide +kernel
theorem dX7_link_18 : decode cX7_link 18 = .ok (.goto 4, 3) := by decide +kernel
theorem dX7_link_21 : decode cX7_link 21 = .ok (.iconst 0, 1) := by decide +kernel
theorem dX7_link_22 : decode cX7_link 22 = .ok (.putfield 89, 3) := by decide +kernel
theorem dX7_link_25 : decode cX7_link 25 = .ok (.aload_n 0, 1) := by decide +kernel
theorem dX7_link_26 : decode cX7_link 26 = .ok (.getfield 89, 3) := by decide +kernel
theorem dX7_link_29 : decode cX7_link 29 = .ok (.ifCond .le 5, 3) := by decide +kernel
theorem dX7_link_32 : decode cX7_link 32 = .ok (.iconst 0, 1) := by decide +kernel
theorem dX7_link_33 : decode cX7_link 33 = .ok (.ireturn, 1) := by decide +kernel
theorem dX7_link_34 : decode cX7_link 34 = .ok (.iload_n 2, 1) := by decide +kernel
theorem dX7_link_35 : decode cX7_link 35 = .ok (.ifCond .ne 12, 3) := by decide +kernel
theorem dX7_link_38 : decode cX7_link 38 = .ok (.aload_n 0, 1) := by decide +kernel
theorem dX7_link_39 : decode cX7_link 39 = .ok (.getfield 77, 3) := by decide +kernel
theorem dX7_link_42 : decode cX7_link 42 = .ok (.iload_n 1, 1) := by decide +kernel
theorem dX7_link_43 : decode cX7_link 43 = .ok (.iaload, 1) := by decide +kernel
theorem dX7_link_44 : decode cX7_link 44 = .ok (.goto 44, 3) := by decide +kernel
theorem dX7_link_47 : decode cX7_link 47 = .ok (.iload_n 2, 1) := by decide +kernel
theorem dX7_link_48 : decode cX7_link 48 = .ok (.iconst 1, 1) := by decide +kernel
theorem dX7_link_49 : decode cX7_link 49 = .ok (.if_icmp .ne 12, 3) := by decide +kernel
theorem dX7_link_52 : decode cX7_link 52 = .ok (.aload_n 0, 1) := by decide +kernel
theorem dX7_link_53 : decode cX7_link 53 = .ok (.getfield 86, 3) := by decide +kernel
theorem dX7_link_56 : decode cX7_link 56 = .ok (.iload_n 1, 1) := by decide +kernel
theorem dX7_link_57 : decode cX7_link 57 = .ok (.iaload, 1) := by decide +kernel
theorem dX7_link_58 : decode cX7_link 58 = .ok (.goto 30, 3) := by decide +kernel
theorem dX7_link_61 : decode cX7_link 61 = .ok (.iload_n 2, 1) := by decide +kernel
theorem dX7_link_62 : decode cX7_link 62 = .ok (.iconst 2, 1) := by decide +kernel
theorem dX7_link_63 : decode cX7_link 63 = .ok (.if_icmp .ne 11, 3) := by decide +kernel
theorem dX7_link_66 : decode cX7_link 66 = .ok (.aload_n 0, 1) := by decide +kernel
theorem dX7_link_67 : decode cX7_link 67 = .ok (.iload_n 1, 1) := by decide +kernel
theorem dX7_link_68 : decode cX7_link 68 = .ok (.invokevirtual 192, 3) := by decide +kernel
theorem dX7_link_71 : decode cX7_link 71 = .ok (.goto 17, 3) := by decide +kernel
theorem dX7_link_74 : decode cX7_link 74 = .ok (.aload_n 0, 1) := by decide +kernel
theorem dX7_link_75 : decode cX7_link 75 = .ok (.getfield 74, 3) := by decide +kernel
theorem dX7_link_78 : decode cX7_link 78 = .ok (.iload_n 1, 1) := by decide +kernel
theorem dX7_link_79 : decode cX7_link 79 = .ok (.baload, 1) := by decide +kernel
theorem dX7_link_80 : decode cX7_link 80 = .ok (.ifCond .eq 7, 3) := by decide +kernel
theorem dX7_link_83 : decode cX7_link 83 = .ok (.iconst 1, 1) := by decide +kernel
theorem dX7_link_84 : decode cX7_link 84 = .ok (.goto 4, 3) := by decide +kernel
theorem dX7_link_87 : decode cX7_link 87 = .ok (.iconst 0, 1) := by decide +kernel
theorem dX7_link_88 : decode cX7_link 88 = .ok (.ireturn, 1) := by decide +kernel
theorem dX7_streams_0 : decode cX7_streams 0 = .ok (.aload_n 0, 1) := by decide +kernel
theorem dX7_streams_1 : decode cX7_streams 1 = .ok (.iload_n 1, 1) := by decide +kernel
theorem dX7_streams_2 : decode cX7_streams 2 = .ok (.ifCond .lt 8, 3) := by decide +kernel
theorem dX7_streams_5 : decode cX7_streams 5 = .ok (.iload_n 1, 1) := by decide +kernel
theorem dX7_streams_6 : decode cX7_streams 6 = .ok (.iconst 3, 1) := by decide +kernel
theorem dX7_streams_7 : decode cX7_streams 7 = .ok (.if_icmp .le 7, 3) := by decide +kernel
theorem dX7_streams_10 : decode cX7_streams 10 = .ok (.iconst 1, 1) := by decide +kernel
theorem dX7_streams_11 : decode cX7_streams 11 = .ok (.goto 4, 3) := by decide +kernel
theorem dX7_streams_14 : decode cX7_streams 14 = .ok (.iconst 0, 1) := by decide +kernel
theorem dX7_streams_15 : decode cX7_streams 15 = .ok (.putfield 89, 3) := by decide +kernel
theorem dX7_streams_18 : decode cX7_streams 18 = .ok (.aload_n 0, 1) := by decide +kernel
theorem dX7_streams_19 : decode cX7_streams 19 = .ok (.getfield 89, 3) := by decide +kernel
theorem dX7_streams_22 : decode cX7_streams 22 = .ok (.ifCond .le 5, 3) := by decide +kernel
theorem dX7_streams_25 : decode cX7_streams 25 = .ok (.iconst 0, 1) := by decide +kernel
theorem dX7_streams_26 : decode cX7_streams 26 = .ok (.ireturn, 1) := by decide +kernel
theorem dX7_streams_27 : decode cX7_streams 27 = .ok (.iload_n 1, 1) := by decide +kernel
theorem dX7_streams_28 : decode cX7_streams 28 = .ok (.ifCond .ne 10, 3) := by decide +kernel
theorem dX7_streams_31 : decode cX7_streams 31 = .ok (.aload_n 0, 1) := by decide +kernel
theorem dX7_streams_32 : decode cX7_streams 32 = .ok (.getfield 97, 3) := by decide +kernel
theorem dX7_streams_35 : decode cX7_streams 35 = .ok (.goto 37, 3) := by decide +kernel
theorem dX7_streams_38 : decode cX7_streams 38 = .ok (.iload_n 1, 1) := by decide +kernel
theorem dX7_streams_39 : decode cX7_streams 39 = .ok (.iconst 1, 1) := by decide +kernel
theorem dX7_streams_40 : decode cX7_streams 40 = .ok (.if_icmp .ne 12, 3) := by decide +kernel
theorem dX7_streams_43 : decode cX7_streams 43 = .ok (.aload_n 0, 1) := by decide +kernel
theorem dX7_streams_44 : decode cX7_streams 44 = .ok (.getfield 25, 3) := by decide +kernel
theorem dX7_streams_47 : decode cX7_streams 47 = .ok (.iconst 0, 1) := by decide +kernel
theorem dX7_streams_48 : decode cX7_streams 48 = .ok (.iaload, 1) := by decide +kernel
theorem dX7_streams_49 : decode cX7_streams 49 = .ok (.goto 23, 3) := by decide +kernel
theorem dX7_streams_52 : decode cX7_streams 52 = .ok (.iload_n 1, 1) := by decide +kernel
theorem dX7_streams_53 : decode cX7_streams 53 = .ok (.iconst 2, 1) := by decide +kernel
theorem dX7_streams_54 : decode cX7_streams 54 = .ok (.if_icmp .ne 12, 3) := by decide +kernel
theorem dX7_streams_57 : decode cX7_streams 57 = .ok (.aload_n 0, 1) := by decide +kernel
theorem dX7_streams_58 : decode cX7_streams 58 = .ok (.getfield 25, 3) := by decide +kernel
theorem dX7_streams_61 : decode cX7_streams 61 = .ok (.iconst 2, 1) := by decide +kernel
theorem dX7_streams_62 : decode cX7_streams 62 = .ok (.iaload, 1) := by decide +kernel
theorem dX7_streams_63 : decode cX7_streams 63 = .ok (.goto 9, 3) := by decide +kernel
theorem dX7_streams_66 : decode cX7_streams 66 = .ok (.aload_n 0, 1) := by decide +kernel
theorem dX7_streams_67 : decode cX7_streams 67 = .ok (.getfield 25, 3) := by decide +kernel
theorem dX7_streams_70 : decode cX7_streams 70 = .ok (.iconst 1, 1) := by decide +kernel
theorem dX7_streams_71 : decode cX7_streams 71 = .ok (.iaload, 1) := by decide +kernel
theorem dX7_streams_72 : decode cX7_streams 72 = .ok (.ireturn, 1) := by decide +kernel
end
section
theorem dL_delay_0 : decode cL_delay 0 = .ok (.aload_n 0, 1) := by decide +kernel
theorem dL_delay_1 : decode cL_delay 1 = .ok (.iload_n 1, 1) := by decide +kernel
theorem dL_delay_2 : decode cL_delay 2 = .ok (.iload_n 2, 1) := by decide +kernel
theorem dL_delay_3 : decode cL_delay 3 = .ok (.invokevirtual 7, 3) := by decide +kernel
theorem dL_delay_6 : decode cL_delay 6 = .ok (.goto 9, 3) := by decide +kernel
theorem dL_delay_9 : decode cL_delay 9 = .ok (.astore_n 3, 1) := by decide +kernel
theorem dL_delay_10 : decode cL_delay 10 = .ok (.iconst 1, 1) := by decide +kernel
theorem dL_delay_11 : decode cL_delay 11 = .ok (.ireturn, 1) := by decide +kernel
theorem dL_delay_12 : decode cL_delay 12 = .ok (.astore_n 3, 1) := by decide +kernel
theorem dL_delay_13 : decode cL_delay 13 = .ok (.iconst 2, 1) := by decide +kernel
theorem dL_delay_14 : decode cL_delay 14 = .ok (.ireturn, 1) := by decide +kernel
theorem dL_delay_15 : decode cL_delay 15 = .ok (.iconst 0, 1) := by decide +kernel
theorem dL_delay_16 : decode cL_delay 16 = .ok (.ireturn, 1) := by decide +kernel
theorem dL_stream_0 : decode cL_stream 0 = .ok (.aload 7, 2) := by decide +kernel
theorem dL_stream_2 : decode cL_stream 2 = .ok (.iconst 0, 1) := by decide +kernel
theorem dL_stream_3 : decode cL_stream 3 = .ok (.aload_n 0, 1) := by decide +kernel
theorem dL_stream_4 : decode cL_stream 4 = .ok (.iload_n 1, 1) := by decide +kernel
theorem dL_stream_5 : decode cL_stream 5 = .ok (.iload_n 2, 1) := by decide +kernel
theorem dL_stream_6 : decode cL_stream 6 = .ok (.iload_n 3, 1) := by decide +kernel
theorem dL_stream_7 : decode cL_stream 7 = .ok (.iload 4, 2) := by decide +kernel
theorem dL_stream_9 : decode cL_stream 9 = .ok (.iload 5, 2) := by decide +kernel
theorem dL_stream_11 : decode cL_stream 11 = .ok (.iload 6, 2) := by decide +kernel
theorem dL_stream_13 : decode cL_stream 13 = .ok (.invokevirtual 17, 3) := by decide +kernel
theorem dL_stream_16 : decode cL_stream 16 = .ok (.i2l, 1) := by decide +kernel
theorem dL_stream_17 : decode cL_stream 17 = .ok (.lastore, 1) := by decide +kernel
theorem dL_stream_18 : decode cL_stream 18 = .ok (.goto 15, 3) := by decide +kernel
theorem dL_stream_21 : decode cL_stream 21 = .ok (.astore 8, 2) := by decide +kernel
theorem dL_stream_23 : decode cL_stream 23 = .ok (.iconst 1, 1) := by decide +kernel
theorem dL_stream_24 : decode cL_stream 24 = .ok (.ireturn, 1) := by decide +kernel
theorem dL_stream_25 : decode cL_stream 25 = .ok (.astore 8, 2) := by decide +kernel
theorem dL_stream_27 : decode cL_stream 27 = .ok (.iconst 2, 1) := by decide +kernel
theorem dL_stream_28 : decode cL_stream 28 = .ok (.ireturn, 1) := by decide +kernel
theorem dL_stream_29 : decode cL_stream 29 = .ok (.astore 8, 2) := by decide +kernel
theorem dL_stream_31 : decode cL_stream 31 = .ok (.iconst 3, 1) := by decide +kernel
theorem dL_stream_32 : decode cL_stream 32 = .ok (.ireturn, 1) := by decide +kernel
theorem dL_stream_33 : decode cL_stream 33 = .ok (.iconst 0, 1) := by decide +kernel
theorem dL_stream_34 : decode cL_stream 34 = .ok (.ireturn, 1) := by decide +kernel
theorem dL_build_0 : decode cL_build 0 = .ok (.aload_n 2, 1) := by decide +kernel
theorem dL_build_1 : decode cL_build 1 = .ok (.iconst 0, 1) := by decide +kernel
theorem dL_build_2 : decode cL_build 2 = .ok (.aload_n 0, 1) := by decide +kernel
theorem dL_build_3 : decode cL_build 3 = .ok (.iload_n 1, 1) := by decide +kernel
theorem dL_build_4 : decode cL_build 4 = .ok (.invokevirtual 23, 3) := by decide +kernel
theorem dL_build_7 : decode cL_build 7 = .ok (.i2l, 1) := by decide +kernel
theorem dL_build_8 : decode cL_build 8 = .ok (.lastore, 1) := by decide +kernel
theorem dL_build_9 : decode cL_build 9 = .ok (.goto 6, 3) := by decide +kernel
theorem dL_build_12 : decode cL_build 12 = .ok (.astore_n 3, 1) := by decide +kernel
theorem dL_build_13 : decode cL_build 13 = .ok (.iconst 1, 1) := by decide +kernel
theorem dL_build_14 : decode cL_build 14 = .ok (.ireturn, 1) := by decide +kernel
theorem dL_build_15 : decode cL_build 15 = .ok (.iconst 0, 1) := by decide +kernel
theorem dL_build_16 : decode cL_build 16 = .ok (.ireturn, 1) := by decide +kernel
theorem dL_offset_0 : decode cL_offset 0 = .ok (.aload_n 2, 1) := by decide +kernel
theorem dL_offset_1 : decode cL_offset 1 = .ok (.iconst 0, 1) := by decide +kernel
theorem dL_offset_2 : decode cL_offset 2 = .ok (.aload_n 0, 1) := by decide +kernel
theorem dL_offset_3 : decode cL_offset 3 = .ok (.iload_n 1, 1) := by decide +kernel
theorem dL_offset_4 : decode cL_offset 4 = .ok (.invokevirtual 27, 3) := by decide +kernel
theorem dL_offset_7 : decode cL_offset 7 = .ok (.i2l, 1) := by decide +kernel
theorem dL_offset_8 : decode cL_offset 8 = .ok (.lastore, 1) := by decide +kernel
theorem dL_offset_9 : decode cL_offset 9 = .ok (.goto 9, 3) := by decide +kernel
theorem dL_offset_12 : decode cL_offset 12 = .ok (.astore_n 3, 1) := by decide +kernel
theorem dL_offset_13 : decode cL_offset 13 = .ok (.iconst 1, 1) := by decide +kernel
theorem dL_offset_14 : decode cL_offset 14 = .ok (.ireturn, 1) := by decide +kernel
theorem dL_offset_15 : decode cL_offset 15 = .ok (.astore_n 3, 1) := by decide +kernel
theorem dL_offset_16 : decode cL_offset 16 = .ok (.iconst 2, 1) := by decide +kernel
theorem dL_offset_17 : decode cL_offset 17 = .ok (.ireturn, 1) := by decide +kernel
theorem dL_offset_18 : decode cL_offset 18 = .ok (.iconst 0, 1) := by decide +kernel
theorem dL_offset_19 : decode cL_offset 19 = .ok (.ireturn, 1) := by decide +kernel
theorem dL_gate_0 : decode cL_gate 0 = .ok (.aload_n 3, 1) := by decide +kernel
theorem dL_gate_1 : decode cL_gate 1 = .ok (.iconst 0, 1) := by decide +kernel
theorem dL_gate_2 : decode cL_gate 2 = .ok (.aload_n 0, 1) := by decide +kernel
theorem dL_gate_3 : decode cL_gate 3 = .ok (.iload_n 1, 1) := by decide +kernel
theorem dL_gate_4 : decode cL_gate 4 = .ok (.iload_n 2, 1) := by decide +kernel
theorem dL_gate_5 : decode cL_gate 5 = .ok (.invokevirtual 32, 3) := by decide +kernel
theorem dL_gate_8 : decode cL_gate 8 = .ok (.i2l, 1) := by decide +kernel
theorem dL_gate_9 : decode cL_gate 9 = .ok (.lastore, 1) := by decide +kernel
theorem dL_gate_10 : decode cL_gate 10 = .ok (.goto 15, 3) := by decide +kernel
theorem dL_gate_13 : decode cL_gate 13 = .ok (.astore 4, 2) := by decide +kernel
theorem dL_gate_15 : decode cL_gate 15 = .ok (.iconst 1, 1) := by decide +kernel
theorem dL_gate_16 : decode cL_gate 16 = .ok (.ireturn, 1) := by decide +kernel
theorem dL_gate_17 : decode cL_gate 17 = .ok (.astore 4, 2) := by decide +kernel
theorem dL_gate_19 : decode cL_gate 19 = .ok (.iconst 2, 1) := by decide +kernel
theorem dL_gate_20 : decode cL_gate 20 = .ok (.ireturn, 1) := by decide +kernel
theorem dL_gate_21 : decode cL_gate 21 = .ok (.astore 4, 2) := by decide +kernel
theorem dL_gate_23 : decode cL_gate 23 = .ok (.iconst 3, 1) := by decide +kernel
theorem dL_gate_24 : decode cL_gate 24 = .ok (.ireturn, 1) := by decide +kernel
theorem dL_gate_25 : decode cL_gate 25 = .ok (.iconst 0, 1) := by decide +kernel
theorem dL_gate_26 : decode cL_gate 26 = .ok (.ireturn, 1) := by decide +kernel
theorem dL_activate_0 : decode cL_activate 0 = .ok (.aload_n 0, 1) := by decide +kernel
theorem dL_activate_1 : decode cL_activate 1 = .ok (.invokevirtual 36, 3) := by decide +kernel
theorem dL_activate_4 : decode cL_activate 4 = .ok (.goto 6, 3) := by decide +kernel
theorem dL_activate_7 : decode cL_activate 7 = .ok (.astore_n 1, 1) := by decide +kernel
theorem dL_activate_8 : decode cL_activate 8 = .ok (.iconst 1, 1) := by decide +kernel
theorem dL_activate_9 : decode cL_activate 9 = .ok (.ireturn, 1) := by decide +kernel
theorem dL_activate_10 : decode cL_activate 10 = .ok (.iconst 0, 1) := by decide +kernel
theorem dL_activate_11 : decode cL_activate 11 = .ok (.ireturn, 1) := by decide +kernel
theorem dL_tick_0 : decode cL_tick 0 = .ok (.aload_n 2, 1) := by decide +kernel
theorem dL_tick_1 : decode cL_tick 1 = .ok (.iconst 0, 1) := by decide +kernel
theorem dL_tick_2 : decode cL_tick 2 = .ok (.aload_n 0, 1) := by decide +kernel
theorem dL_tick_3 : decode cL_tick 3 = .ok (.iload_n 1, 1) := by decide +kernel
theorem dL_tick_4 : decode cL_tick 4 = .ok (.invokevirtual 39, 3) := by decide +kernel
theorem dL_tick_7 : decode cL_tick 7 = .ok (.i2l, 1) := by decide +kernel
theorem dL_tick_8 : decode cL_tick 8 = .ok (.lastore, 1) := by decide +kernel
theorem dL_tick_9 : decode cL_tick 9 = .ok (.goto 6, 3) := by decide +kernel
theorem dL_tick_12 : decode cL_tick 12 = .ok (.astore_n 3, 1) := by decide +kernel
theorem dL_tick_13 : decode cL_tick 13 = .ok (.iconst 1, 1) := by decide +kernel
theorem dL_tick_14 : decode cL_tick 14 = .ok (.ireturn, 1) := by decide +kernel
theorem dL_tick_15 : decode cL_tick 15 = .ok (.iconst 0, 1) := by decide +kernel
theorem dL_tick_16 : decode cL_tick 16 = .ok (.ireturn, 1) := by decide +kernel
theorem dL_talk_0 : decode cL_talk 0 = .ok (.aload_n 0, 1) := by decide +kernel
theorem dL_talk_1 : decode cL_talk 1 = .ok (.iload_n 1, 1) := by decide +kernel
theorem dL_talk_2 : decode cL_talk 2 = .ok (.iload_n 2, 1) := by decide +kernel
theorem dL_talk_3 : decode cL_talk 3 = .ok (.iload_n 3, 1) := by decide +kernel
theorem dL_talk_4 : decode cL_talk 4 = .ok (.invokevirtual 42, 3) := by decide +kernel
theorem dL_talk_7 : decode cL_talk 7 = .ok (.goto 11, 3) := by decide +kernel
theorem dL_talk_10 : decode cL_talk 10 = .ok (.astore 4, 2) := by decide +kernel
theorem dL_talk_12 : decode cL_talk 12 = .ok (.iconst 1, 1) := by decide +kernel
theorem dL_talk_13 : decode cL_talk 13 = .ok (.ireturn, 1) := by decide +kernel
theorem dL_talk_14 : decode cL_talk 14 = .ok (.astore 4, 2) := by decide +kernel
theorem dL_talk_16 : decode cL_talk 16 = .ok (.iconst 2, 1) := by decide +kernel
theorem dL_talk_17 : decode cL_talk 17 = .ok (.ireturn, 1) := by decide +kernel
theorem dL_talk_18 : decode cL_talk 18 = .ok (.iconst 0, 1) := by decide +kernel
theorem dL_talk_19 : decode cL_talk 19 = .ok (.ireturn, 1) := by decide +kernel
theorem dL_unblock_0 : decode cL_unblock 0 = .ok (.aload_n 2, 1) := by decide +kernel
theorem dL_unblock_1 : decode cL_unblock 1 = .ok (.iconst 0, 1) := by decide +kernel
theorem dL_unblock_2 : decode cL_unblock 2 = .ok (.aload_n 0, 1) := by decide +kernel
theorem dL_unblock_3 : decode cL_unblock 3 = .ok (.iload_n 1, 1) := by decide +kernel
theorem dL_unblock_4 : decode cL_unblock 4 = .ok (.invokevirtual 46, 3) := by decide +kernel
theorem dL_unblock_7 : decode cL_unblock 7 = .ok (.ifCond .eq 7, 3) := by decide +kernel
theorem dL_unblock_10 : decode cL_unblock 10 = .ok (.lconst 1, 1) := by decide +kernel
theorem dL_unblock_11 : decode cL_unblock 11 = .ok (.goto 4, 3) := by decide +kernel
theorem dL_unblock_14 : decode cL_unblock 14 = .ok (.lconst 0, 1) := by decide +kernel
theorem dL_unblock_15 : decode cL_unblock 15 = .ok (.lastore, 1) := by decide +kernel
theorem dL_unblock_16 : decode cL_unblock 16 = .ok (.goto 6, 3) := by decide +kernel
theorem dL_unblock_19 : decode cL_unblock 19 = .ok (.astore_n 3, 1) := by decide +kernel
theorem dL_unblock_20 : decode cL_unblock 20 = .ok (.iconst 1, 1) := by decide +kernel
theorem dL_unblock_21 : decode cL_unblock 21 = .ok (.ireturn, 1) := by decide +kernel
theorem dL_unblock_22 : decode cL_unblock 22 = .ok (.iconst 0, 1) := by decide +kernel
theorem dL_unblock_23 : decode cL_unblock 23 = .ok (.ireturn, 1) := by decide +kernel
theorem dL_cut_0 : decode cL_cut 0 = .ok (.aload_n 3, 1) := by decide +kernel
theorem dL_cut_1 : decode cL_cut 1 = .ok (.iconst 0, 1) := by decide +kernel
theorem dL_cut_2 : decode cL_cut 2 = .ok (.aload_n 0, 1) := by decide +kernel
theorem dL_cut_3 : decode cL_cut 3 = .ok (.iload_n 1, 1) := by decide +kernel
theorem dL_cut_4 : decode cL_cut 4 = .ok (.iload_n 2, 1) := by decide +kernel
theorem dL_cut_5 : decode cL_cut 5 = .ok (.invokevirtual 50, 3) := by decide +kernel
theorem dL_cut_8 : decode cL_cut 8 = .ok (.ifCond .eq 7, 3) := by decide +kernel
theorem dL_cut_11 : decode cL_cut 11 = .ok (.lconst 1, 1) := by decide +kernel
theorem dL_cut_12 : decode cL_cut 12 = .ok (.goto 4, 3) := by decide +kernel
theorem dL_cut_15 : decode cL_cut 15 = .ok (.lconst 0, 1) := by decide +kernel
theorem dL_cut_16 : decode cL_cut 16 = .ok (.lastore, 1) := by decide +kernel
theorem dL_cut_17 : decode cL_cut 17 = .ok (.goto 7, 3) := by decide +kernel
theorem dL_cut_20 : decode cL_cut 20 = .ok (.astore 4, 2) := by decide +kernel
theorem dL_cut_22 : decode cL_cut 22 = .ok (.iconst 1, 1) := by decide +kernel
theorem dL_cut_23 : decode cL_cut 23 = .ok (.ireturn, 1) := by decide +kernel
theorem dL_cut_24 : decode cL_cut 24 = .ok (.iconst 0, 1) := by decide +kernel
theorem dL_cut_25 : decode cL_cut 25 = .ok (.ireturn, 1) := by decide +kernel
theorem dL_babble_0 : decode cL_babble 0 = .ok (.aload_n 3, 1) := by decide +kernel
theorem dL_babble_1 : decode cL_babble 1 = .ok (.iconst 0, 1) := by decide +kernel
theorem dL_babble_2 : decode cL_babble 2 = .ok (.aload_n 0, 1) := by decide +kernel
theorem dL_babble_3 : decode cL_babble 3 = .ok (.iload_n 1, 1) := by decide +kernel
theorem dL_babble_4 : decode cL_babble 4 = .ok (.iload_n 2, 1) := by decide +kernel
theorem dL_babble_5 : decode cL_babble 5 = .ok (.invokevirtual 54, 3) := by decide +kernel
theorem dL_babble_8 : decode cL_babble 8 = .ok (.i2l, 1) := by decide +kernel
theorem dL_babble_9 : decode cL_babble 9 = .ok (.lastore, 1) := by decide +kernel
theorem dL_babble_10 : decode cL_babble 10 = .ok (.goto 15, 3) := by decide +kernel
theorem dL_babble_13 : decode cL_babble 13 = .ok (.astore 4, 2) := by decide +kernel
theorem dL_babble_15 : decode cL_babble 15 = .ok (.iconst 1, 1) := by decide +kernel
theorem dL_babble_16 : decode cL_babble 16 = .ok (.ireturn, 1) := by decide +kernel
theorem dL_babble_17 : decode cL_babble 17 = .ok (.astore 4, 2) := by decide +kernel
theorem dL_babble_19 : decode cL_babble 19 = .ok (.iconst 2, 1) := by decide +kernel
theorem dL_babble_20 : decode cL_babble 20 = .ok (.ireturn, 1) := by decide +kernel
theorem dL_babble_21 : decode cL_babble 21 = .ok (.astore 4, 2) := by decide +kernel
theorem dL_babble_23 : decode cL_babble 23 = .ok (.iconst 3, 1) := by decide +kernel
theorem dL_babble_24 : decode cL_babble 24 = .ok (.ireturn, 1) := by decide +kernel
theorem dL_babble_25 : decode cL_babble 25 = .ok (.iconst 0, 1) := by decide +kernel
theorem dL_babble_26 : decode cL_babble 26 = .ok (.ireturn, 1) := by decide +kernel
theorem dL_told_0 : decode cL_told 0 = .ok (.aload_n 3, 1) := by decide +kernel
theorem dL_told_1 : decode cL_told 1 = .ok (.iconst 0, 1) := by decide +kernel
theorem dL_told_2 : decode cL_told 2 = .ok (.aload_n 0, 1) := by decide +kernel
theorem dL_told_3 : decode cL_told 3 = .ok (.iload_n 1, 1) := by decide +kernel
theorem dL_told_4 : decode cL_told 4 = .ok (.iload_n 2, 1) := by decide +kernel
theorem dL_told_5 : decode cL_told 5 = .ok (.invokevirtual 57, 3) := by decide +kernel
theorem dL_told_8 : decode cL_told 8 = .ok (.i2l, 1) := by decide +kernel
theorem dL_told_9 : decode cL_told 9 = .ok (.lastore, 1) := by decide +kernel
theorem dL_told_10 : decode cL_told 10 = .ok (.goto 7, 3) := by decide +kernel
theorem dL_told_13 : decode cL_told 13 = .ok (.astore 4, 2) := by decide +kernel
theorem dL_told_15 : decode cL_told 15 = .ok (.iconst 1, 1) := by decide +kernel
theorem dL_told_16 : decode cL_told 16 = .ok (.ireturn, 1) := by decide +kernel
theorem dL_told_17 : decode cL_told 17 = .ok (.iconst 0, 1) := by decide +kernel
theorem dL_told_18 : decode cL_told 18 = .ok (.ireturn, 1) := by decide +kernel
theorem dL_link_0 : decode cL_link 0 = .ok (.aload_n 3, 1) := by decide +kernel
theorem dL_link_1 : decode cL_link 1 = .ok (.iconst 0, 1) := by decide +kernel
theorem dL_link_2 : decode cL_link 2 = .ok (.aload_n 0, 1) := by decide +kernel
theorem dL_link_3 : decode cL_link 3 = .ok (.iload_n 1, 1) := by decide +kernel
theorem dL_link_4 : decode cL_link 4 = .ok (.iload_n 2, 1) := by decide +kernel
theorem dL_link_5 : decode cL_link 5 = .ok (.invokevirtual 60, 3) := by decide +kernel
theorem dL_link_8 : decode cL_link 8 = .ok (.i2l, 1) := by decide +kernel
theorem dL_link_9 : decode cL_link 9 = .ok (.lastore, 1) := by decide +kernel
theorem dL_link_10 : decode cL_link 10 = .ok (.goto 7, 3) := by decide +kernel
theorem dL_link_13 : decode cL_link 13 = .ok (.astore 4, 2) := by decide +kernel
theorem dL_link_15 : decode cL_link 15 = .ok (.iconst 1, 1) := by decide +kernel
theorem dL_link_16 : decode cL_link 16 = .ok (.ireturn, 1) := by decide +kernel
theorem dL_link_17 : decode cL_link 17 = .ok (.iconst 0, 1) := by decide +kernel
theorem dL_link_18 : decode cL_link 18 = .ok (.ireturn, 1) := by decide +kernel
theorem dL_streams_0 : decode cL_streams 0 = .ok (.aload_n 2, 1) := by decide +kernel
theorem dL_streams_1 : decode cL_streams 1 = .ok (.iconst 0, 1) := by decide +kernel
theorem dL_streams_2 : decode cL_streams 2 = .ok (.aload_n 0, 1) := by decide +kernel
theorem dL_streams_3 : decode cL_streams 3 = .ok (.iload_n 1, 1) := by decide +kernel
theorem dL_streams_4 : decode cL_streams 4 = .ok (.invokevirtual 63, 3) := by decide +kernel
theorem dL_streams_7 : decode cL_streams 7 = .ok (.i2l, 1) := by decide +kernel
theorem dL_streams_8 : decode cL_streams 8 = .ok (.lastore, 1) := by decide +kernel
theorem dL_streams_9 : decode cL_streams 9 = .ok (.goto 6, 3) := by decide +kernel
theorem dL_streams_12 : decode cL_streams 12 = .ok (.astore_n 3, 1) := by decide +kernel
theorem dL_streams_13 : decode cL_streams 13 = .ok (.iconst 1, 1) := by decide +kernel
theorem dL_streams_14 : decode cL_streams 14 = .ok (.ireturn, 1) := by decide +kernel
theorem dL_streams_15 : decode cL_streams 15 = .ok (.iconst 0, 1) := by decide +kernel
theorem dL_streams_16 : decode cL_streams 16 = .ok (.ireturn, 1) := by decide +kernel
theorem dL_law_0 : decode cL_law 0 = .ok (.new 8, 3) := by decide +kernel
theorem dL_law_3 : decode cL_law 3 = .ok (.dup, 1) := by decide +kernel
theorem dL_law_4 : decode cL_law 4 = .ok (.invokespecial 66, 3) := by decide +kernel
theorem dL_law_7 : decode cL_law 7 = .ok (.astore_n 1, 1) := by decide +kernel
theorem dL_law_8 : decode cL_law 8 = .ok (.new 67, 3) := by decide +kernel
theorem dL_law_11 : decode cL_law 11 = .ok (.dup, 1) := by decide +kernel
theorem dL_law_12 : decode cL_law 12 = .ok (.invokespecial 69, 3) := by decide +kernel
theorem dL_law_15 : decode cL_law 15 = .ok (.astore_n 2, 1) := by decide +kernel
theorem dL_law_16 : decode cL_law 16 = .ok (.iconst 1, 1) := by decide +kernel
theorem dL_law_17 : decode cL_law 17 = .ok (.newarray .long, 2) := by decide +kernel
theorem dL_law_19 : decode cL_law 19 = .ok (.astore_n 3, 1) := by decide +kernel
theorem dL_law_20 : decode cL_law 20 = .ok (.iconst 0, 1) := by decide +kernel
theorem dL_law_21 : decode cL_law 21 = .ok (.istore 4, 2) := by decide +kernel
theorem dL_law_23 : decode cL_law 23 = .ok (.iload 4, 2) := by decide +kernel
theorem dL_law_25 : decode cL_law 25 = .ok (.aload_n 0, 1) := by decide +kernel
theorem dL_law_26 : decode cL_law 26 = .ok (.arraylength, 1) := by decide +kernel
theorem dL_law_27 : decode cL_law 27 = .ok (.bipush 7, 2) := by decide +kernel
theorem dL_law_29 : decode cL_law 29 = .ok (.isub, 1) := by decide +kernel
theorem dL_law_30 : decode cL_law 30 = .ok (.if_icmp .gt 1036, 3) := by decide +kernel
theorem dL_law_33 : decode cL_law 33 = .ok (.aload_n 0, 1) := by decide +kernel
theorem dL_law_34 : decode cL_law 34 = .ok (.iload 4, 2) := by decide +kernel
theorem dL_law_36 : decode cL_law 36 = .ok (.iaload, 1) := by decide +kernel
theorem dL_law_37 : decode cL_law 37 = .ok (.bipush 15, 2) := by decide +kernel
theorem dL_law_39 : decode cL_law 39 = .ok (.iand, 1) := by decide +kernel
theorem dL_law_40 : decode cL_law 40 = .ok (.tableswitch 1020 0 15 #[80, 128, 246, 257, 313, 326, 382, 450, 474, 530, 606, 669, 760, 828, 896, 964], 80) := by decide +kernel
theorem dL_law_120 : decode cL_law 120 = .ok (.aload_n 1, 1) := by decide +kernel
theorem dL_law_121 : decode cL_law 121 = .ok (.aload_n 0, 1) := by decide +kernel
theorem dL_law_122 : decode cL_law 122 = .ok (.iload 4, 2) := by decide +kernel
theorem dL_law_124 : decode cL_law 124 = .ok (.iconst 1, 1) := by decide +kernel
theorem dL_law_125 : decode cL_law 125 = .ok (.iadd, 1) := by decide +kernel
theorem dL_law_126 : decode cL_law 126 = .ok (.iaload, 1) := by decide +kernel
theorem dL_law_127 : decode cL_law 127 = .ok (.aload_n 0, 1) := by decide +kernel
theorem dL_law_128 : decode cL_law 128 = .ok (.iload 4, 2) := by decide +kernel
theorem dL_law_130 : decode cL_law 130 = .ok (.iconst 2, 1) := by decide +kernel
theorem dL_law_131 : decode cL_law 131 = .ok (.iadd, 1) := by decide +kernel
theorem dL_law_132 : decode cL_law 132 = .ok (.iaload, 1) := by decide +kernel
theorem dL_law_133 : decode cL_law 133 = .ok (.invokestatic 70, 3) := by decide +kernel
theorem dL_law_136 : decode cL_law 136 = .ok (.istore 5, 2) := by decide +kernel
theorem dL_law_138 : decode cL_law 138 = .ok (.aload_n 2, 1) := by decide +kernel
theorem dL_law_139 : decode cL_law 139 = .ok (.aload_n 0, 1) := by decide +kernel
theorem dL_law_140 : decode cL_law 140 = .ok (.iload 4, 2) := by decide +kernel
theorem dL_law_142 : decode cL_law 142 = .ok (.iconst 1, 1) := by decide +kernel
theorem dL_law_143 : decode cL_law 143 = .ok (.iadd, 1) := by decide +kernel
theorem dL_law_144 : decode cL_law 144 = .ok (.iaload, 1) := by decide +kernel
theorem dL_law_145 : decode cL_law 145 = .ok (.aload_n 0, 1) := by decide +kernel
theorem dL_law_146 : decode cL_law 146 = .ok (.iload 4, 2) := by decide +kernel
theorem dL_law_148 : decode cL_law 148 = .ok (.iconst 2, 1) := by decide +kernel
theorem dL_law_149 : decode cL_law 149 = .ok (.iadd, 1) := by decide +kernel
theorem dL_law_150 : decode cL_law 150 = .ok (.iaload, 1) := by decide +kernel
theorem dL_law_151 : decode cL_law 151 = .ok (.invokevirtual 75, 3) := by decide +kernel
theorem dL_law_154 : decode cL_law 154 = .ok (.aload_n 2, 1) := by decide +kernel
theorem dL_law_155 : decode cL_law 155 = .ok (.invokevirtual 76, 3) := by decide +kernel
theorem dL_law_158 : decode cL_law 158 = .ok (.iload 5, 2) := by decide +kernel
theorem dL_law_160 : decode cL_law 160 = .ok (.if_icmp .eq 5, 3) := by decide +kernel
theorem dL_law_163 : decode cL_law 163 = .ok (.iconst 0, 1) := by decide +kernel
theorem dL_law_164 : decode cL_law 164 = .ok (.ireturn, 1) := by decide +kernel
theorem dL_law_165 : decode cL_law 165 = .ok (.goto 895, 3) := by decide +kernel
theorem dL_law_168 : decode cL_law 168 = .ok (.aload_n 1, 1) := by decide +kernel
theorem dL_law_169 : decode cL_law 169 = .ok (.aload_n 0, 1) := by decide +kernel
theorem dL_law_170 : decode cL_law 170 = .ok (.iload 4, 2) := by decide +kernel
theorem dL_law_172 : decode cL_law 172 = .ok (.iconst 1, 1) := by decide +kernel
theorem dL_law_173 : decode cL_law 173 = .ok (.iadd, 1) := by decide +kernel
theorem dL_law_174 : decode cL_law 174 = .ok (.iaload, 1) := by decide +kernel
theorem dL_law_175 : decode cL_law 175 = .ok (.aload_n 0, 1) := by decide +kernel
theorem dL_law_176 : decode cL_law 176 = .ok (.iload 4, 2) := by decide +kernel
theorem dL_law_178 : decode cL_law 178 = .ok (.iconst 2, 1) := by decide +kernel
theorem dL_law_179 : decode cL_law 179 = .ok (.iadd, 1) := by decide +kernel
theorem dL_law_180 : decode cL_law 180 = .ok (.iaload, 1) := by decide +kernel
theorem dL_law_181 : decode cL_law 181 = .ok (.aload_n 0, 1) := by decide +kernel
theorem dL_law_182 : decode cL_law 182 = .ok (.iload 4, 2) := by decide +kernel
theorem dL_law_184 : decode cL_law 184 = .ok (.iconst 3, 1) := by decide +kernel
theorem dL_law_185 : decode cL_law 185 = .ok (.iadd, 1) := by decide +kernel
theorem dL_law_186 : decode cL_law 186 = .ok (.iaload, 1) := by decide +kernel
theorem dL_law_187 : decode cL_law 187 = .ok (.aload_n 0, 1) := by decide +kernel
theorem dL_law_188 : decode cL_law 188 = .ok (.iload 4, 2) := by decide +kernel
theorem dL_law_190 : decode cL_law 190 = .ok (.iconst 4, 1) := by decide +kernel
theorem dL_law_191 : decode cL_law 191 = .ok (.iadd, 1) := by decide +kernel
theorem dL_law_192 : decode cL_law 192 = .ok (.iaload, 1) := by decide +kernel
theorem dL_law_193 : decode cL_law 193 = .ok (.aload_n 0, 1) := by decide +kernel
theorem dL_law_194 : decode cL_law 194 = .ok (.iload 4, 2) := by decide +kernel
theorem dL_law_196 : decode cL_law 196 = .ok (.iconst 5, 1) := by decide +kernel
theorem dL_law_197 : decode cL_law 197 = .ok (.iadd, 1) := by decide +kernel
theorem dL_law_198 : decode cL_law 198 = .ok (.iaload, 1) := by decide +kernel
theorem dL_law_199 : decode cL_law 199 = .ok (.aload_n 0, 1) := by decide +kernel
theorem dL_law_200 : decode cL_law 200 = .ok (.iload 4, 2) := by decide +kernel
theorem dL_law_202 : decode cL_law 202 = .ok (.bipush 6, 2) := by decide +kernel
theorem dL_law_204 : decode cL_law 204 = .ok (.iadd, 1) := by decide +kernel
theorem dL_law_205 : decode cL_law 205 = .ok (.iaload, 1) := by decide +kernel
theorem dL_law_206 : decode cL_law 206 = .ok (.aload_n 3, 1) := by decide +kernel
theorem dL_law_207 : decode cL_law 207 = .ok (.invokestatic 80, 3) := by decide +kernel
theorem dL_law_210 : decode cL_law 210 = .ok (.istore 5, 2) := by decide +kernel
theorem dL_law_212 : decode cL_law 212 = .ok (.aload_n 2, 1) := by decide +kernel
theorem dL_law_213 : decode cL_law 213 = .ok (.aload_n 0, 1) := by decide +kernel
theorem dL_law_214 : decode cL_law 214 = .ok (.iload 4, 2) := by decide +kernel
theorem dL_law_216 : decode cL_law 216 = .ok (.iconst 1, 1) := by decide +kernel
theorem dL_law_217 : decode cL_law 217 = .ok (.iadd, 1) := by decide +kernel
theorem dL_law_218 : decode cL_law 218 = .ok (.iaload, 1) := by decide +kernel
theorem dL_law_219 : decode cL_law 219 = .ok (.aload_n 0, 1) := by decide +kernel
theorem dL_law_220 : decode cL_law 220 = .ok (.iload 4, 2) := by decide +kernel
theorem dL_law_222 : decode cL_law 222 = .ok (.iconst 2, 1) := by decide +kernel
theorem dL_law_223 : decode cL_law 223 = .ok (.iadd, 1) := by decide +kernel
theorem dL_law_224 : decode cL_law 224 = .ok (.iaload, 1) := by decide +kernel
theorem dL_law_225 : decode cL_law 225 = .ok (.aload_n 0, 1) := by decide +kernel
theorem dL_law_226 : decode cL_law 226 = .ok (.iload 4, 2) := by decide +kernel
theorem dL_law_228 : decode cL_law 228 = .ok (.iconst 3, 1) := by decide +kernel
theorem dL_law_229 : decode cL_law 229 = .ok (.iadd, 1) := by decide +kernel
theorem dL_law_230 : decode cL_law 230 = .ok (.iaload, 1) := by decide +kernel
theorem dL_law_231 : decode cL_law 231 = .ok (.aload_n 0, 1) := by decide +kernel
theorem dL_law_232 : decode cL_law 232 = .ok (.iload 4, 2) := by decide +kernel
theorem dL_law_234 : decode cL_law 234 = .ok (.iconst 4, 1) := by decide +kernel
theorem dL_law_235 : decode cL_law 235 = .ok (.iadd, 1) := by decide +kernel
theorem dL_law_236 : decode cL_law 236 = .ok (.iaload, 1) := by decide +kernel
theorem dL_law_237 : decode cL_law 237 = .ok (.aload_n 0, 1) := by decide +kernel
theorem dL_law_238 : decode cL_law 238 = .ok (.iload 4, 2) := by decide +kernel
theorem dL_law_240 : decode cL_law 240 = .ok (.iconst 5, 1) := by decide +kernel
theorem dL_law_241 : decode cL_law 241 = .ok (.iadd, 1) := by decide +kernel
theorem dL_law_242 : decode cL_law 242 = .ok (.iaload, 1) := by decide +kernel
theorem dL_law_243 : decode cL_law 243 = .ok (.aload_n 0, 1) := by decide +kernel
theorem dL_law_244 : decode cL_law 244 = .ok (.iload 4, 2) := by decide +kernel
theorem dL_law_246 : decode cL_law 246 = .ok (.bipush 6, 2) := by decide +kernel
theorem dL_law_248 : decode cL_law 248 = .ok (.iadd, 1) := by decide +kernel
theorem dL_law_249 : decode cL_law 249 = .ok (.iaload, 1) := by decide +kernel
theorem dL_law_250 : decode cL_law 250 = .ok (.invokevirtual 83, 3) := by decide +kernel
theorem dL_law_253 : decode cL_law 253 = .ok (.istore 6, 2) := by decide +kernel
theorem dL_law_255 : decode cL_law 255 = .ok (.aload_n 2, 1) := by decide +kernel
theorem dL_law_256 : decode cL_law 256 = .ok (.invokevirtual 76, 3) := by decide +kernel
theorem dL_law_259 : decode cL_law 259 = .ok (.iload 5, 2) := by decide +kernel
theorem dL_law_261 : decode cL_law 261 = .ok (.if_icmp .eq 5, 3) := by decide +kernel
theorem dL_law_264 : decode cL_law 264 = .ok (.iconst 0, 1) := by decide +kernel
theorem dL_law_265 : decode cL_law 265 = .ok (.ireturn, 1) := by decide +kernel
theorem dL_law_266 : decode cL_law 266 = .ok (.iload 5, 2) := by decide +kernel
theorem dL_law_268 : decode cL_law 268 = .ok (.ifCond .ne 15, 3) := by decide +kernel
theorem dL_law_271 : decode cL_law 271 = .ok (.aload_n 3, 1) := by decide +kernel
theorem dL_law_272 : decode cL_law 272 = .ok (.iconst 0, 1) := by decide +kernel
theorem dL_law_273 : decode cL_law 273 = .ok (.laload, 1) := by decide +kernel
theorem dL_law_274 : decode cL_law 274 = .ok (.iload 6, 2) := by decide +kernel
theorem dL_law_276 : decode cL_law 276 = .ok (.i2l, 1) := by decide +kernel
theorem dL_law_277 : decode cL_law 277 = .ok (.lcmp, 1) := by decide +kernel
theorem dL_law_278 : decode cL_law 278 = .ok (.ifCond .eq 5, 3) := by decide +kernel
theorem dL_law_281 : decode cL_law 281 = .ok (.iconst 0, 1) := by decide +kernel
theorem dL_law_282 : decode cL_law 282 = .ok (.ireturn, 1) := by decide +kernel
theorem dL_law_283 : decode cL_law 283 = .ok (.goto 777, 3) := by decide +kernel
theorem dL_law_286 : decode cL_law 286 = .ok (.aload_n 1, 1) := by decide +kernel
theorem dL_law_287 : decode cL_law 287 = .ok (.invokevirtual 84, 3) := by decide +kernel
theorem dL_law_290 : decode cL_law 290 = .ok (.aload_n 2, 1) := by decide +kernel
theorem dL_law_291 : decode cL_law 291 = .ok (.invokevirtual 87, 3) := by decide +kernel
theorem dL_law_294 : decode cL_law 294 = .ok (.goto 766, 3) := by decide +kernel
theorem dL_law_297 : decode cL_law 297 = .ok (.aload_n 1, 1) := by decide +kernel
theorem dL_law_298 : decode cL_law 298 = .ok (.aload_n 0, 1) := by decide +kernel
theorem dL_law_299 : decode cL_law 299 = .ok (.iload 4, 2) := by decide +kernel
theorem dL_law_301 : decode cL_law 301 = .ok (.iconst 1, 1) := by decide +kernel
theorem dL_law_302 : decode cL_law 302 = .ok (.iadd, 1) := by decide +kernel
theorem dL_law_303 : decode cL_law 303 = .ok (.iaload, 1) := by decide +kernel
theorem dL_law_304 : decode cL_law 304 = .ok (.aload_n 3, 1) := by decide +kernel
theorem dL_law_305 : decode cL_law 305 = .ok (.invokestatic 88, 3) := by decide +kernel
theorem dL_law_308 : decode cL_law 308 = .ok (.istore 5, 2) := by decide +kernel
theorem dL_law_310 : decode cL_law 310 = .ok (.aload_n 2, 1) := by decide +kernel
theorem dL_law_311 : decode cL_law 311 = .ok (.aload_n 0, 1) := by decide +kernel
theorem dL_law_312 : decode cL_law 312 = .ok (.iload 4, 2) := by decide +kernel
theorem dL_law_314 : decode cL_law 314 = .ok (.iconst 1, 1) := by decide +kernel
theorem dL_law_315 : decode cL_law 315 = .ok (.iadd, 1) := by decide +kernel
theorem dL_law_316 : decode cL_law 316 = .ok (.iaload, 1) := by decide +kernel
theorem dL_law_317 : decode cL_law 317 = .ok (.invokevirtual 91, 3) := by decide +kernel
theorem dL_law_320 : decode cL_law 320 = .ok (.istore 6, 2) := by decide +kernel
theorem dL_law_322 : decode cL_law 322 = .ok (.aload_n 2, 1) := by decide +kernel
theorem dL_law_323 : decode cL_law 323 = .ok (.invokevirtual 76, 3) := by decide +kernel
theorem dL_law_326 : decode cL_law 326 = .ok (.iload 5, 2) := by decide +kernel
theorem dL_law_328 : decode cL_law 328 = .ok (.if_icmp .eq 5, 3) := by decide +kernel
theorem dL_law_331 : decode cL_law 331 = .ok (.iconst 0, 1) := by decide +kernel
theorem dL_law_332 : decode cL_law 332 = .ok (.ireturn, 1) := by decide +kernel
theorem dL_law_333 : decode cL_law 333 = .ok (.iload 5, 2) := by decide +kernel
theorem dL_law_335 : decode cL_law 335 = .ok (.ifCond .ne 15, 3) := by decide +kernel
theorem dL_law_338 : decode cL_law 338 = .ok (.aload_n 3, 1) := by decide +kernel
theorem dL_law_339 : decode cL_law 339 = .ok (.iconst 0, 1) := by decide +kernel
theorem dL_law_340 : decode cL_law 340 = .ok (.laload, 1) := by decide +kernel
theorem dL_law_341 : decode cL_law 341 = .ok (.iload 6, 2) := by decide +kernel
theorem dL_law_343 : decode cL_law 343 = .ok (.i2l, 1) := by decide +kernel
theorem dL_law_344 : decode cL_law 344 = .ok (.lcmp, 1) := by decide +kernel
theorem dL_law_345 : decode cL_law 345 = .ok (.ifCond .eq 5, 3) := by decide +kernel
theorem dL_law_348 : decode cL_law 348 = .ok (.iconst 0, 1) := by decide +kernel
theorem dL_law_349 : decode cL_law 349 = .ok (.ireturn, 1) := by decide +kernel
theorem dL_law_350 : decode cL_law 350 = .ok (.goto 710, 3) := by decide +kernel
theorem dL_law_353 : decode cL_law 353 = .ok (.aload_n 1, 1) := by decide +kernel
theorem dL_law_354 : decode cL_law 354 = .ok (.invokevirtual 92, 3) := by decide +kernel
theorem dL_law_357 : decode cL_law 357 = .ok (.aload_n 2, 1) := by decide +kernel
theorem dL_law_358 : decode cL_law 358 = .ok (.invokevirtual 95, 3) := by decide +kernel
theorem dL_law_361 : decode cL_law 361 = .ok (.if_icmp .eq 699, 3) := by decide +kernel
theorem dL_law_364 : decode cL_law 364 = .ok (.iconst 0, 1) := by decide +kernel
theorem dL_law_365 : decode cL_law 365 = .ok (.ireturn, 1) := by decide +kernel
theorem dL_law_366 : decode cL_law 366 = .ok (.aload_n 1, 1) := by decide +kernel
theorem dL_law_367 : decode cL_law 367 = .ok (.aload_n 0, 1) := by decide +kernel
theorem dL_law_368 : decode cL_law 368 = .ok (.iload 4, 2) := by decide +kernel
theorem dL_law_370 : decode cL_law 370 = .ok (.iconst 1, 1) := by decide +kernel
theorem dL_law_371 : decode cL_law 371 = .ok (.iadd, 1) := by decide +kernel
theorem dL_law_372 : decode cL_law 372 = .ok (.iaload, 1) := by decide +kernel
theorem dL_law_373 : decode cL_law 373 = .ok (.aload_n 3, 1) := by decide +kernel
theorem dL_law_374 : decode cL_law 374 = .ok (.invokestatic 96, 3) := by decide +kernel
theorem dL_law_377 : decode cL_law 377 = .ok (.istore 5, 2) := by decide +kernel
theorem dL_law_379 : decode cL_law 379 = .ok (.aload_n 2, 1) := by decide +kernel
theorem dL_law_380 : decode cL_law 380 = .ok (.aload_n 0, 1) := by decide +kernel
theorem dL_law_381 : decode cL_law 381 = .ok (.iload 4, 2) := by decide +kernel
theorem dL_law_383 : decode cL_law 383 = .ok (.iconst 1, 1) := by decide +kernel
theorem dL_law_384 : decode cL_law 384 = .ok (.iadd, 1) := by decide +kernel
theorem dL_law_385 : decode cL_law 385 = .ok (.iaload, 1) := by decide +kernel
theorem dL_law_386 : decode cL_law 386 = .ok (.invokevirtual 98, 3) := by decide +kernel
theorem dL_law_389 : decode cL_law 389 = .ok (.istore 6, 2) := by decide +kernel
theorem dL_law_391 : decode cL_law 391 = .ok (.aload_n 2, 1) := by decide +kernel
theorem dL_law_392 : decode cL_law 392 = .ok (.invokevirtual 76, 3) := by decide +kernel
theorem dL_law_395 : decode cL_law 395 = .ok (.iload 5, 2) := by decide +kernel
theorem dL_law_397 : decode cL_law 397 = .ok (.if_icmp .eq 5, 3) := by decide +kernel
theorem dL_law_400 : decode cL_law 400 = .ok (.iconst 0, 1) := by decide +kernel
theorem dL_law_401 : decode cL_law 401 = .ok (.ireturn, 1) := by decide +kernel
theorem dL_law_402 : decode cL_law 402 = .ok (.iload 5, 2) := by decide +kernel
theorem dL_law_404 : decode cL_law 404 = .ok (.ifCond .ne 15, 3) := by decide +kernel
theorem dL_law_407 : decode cL_law 407 = .ok (.aload_n 3, 1) := by decide +kernel
theorem dL_law_408 : decode cL_law 408 = .ok (.iconst 0, 1) := by decide +kernel
theorem dL_law_409 : decode cL_law 409 = .ok (.laload, 1) := by decide +kernel
theorem dL_law_410 : decode cL_law 410 = .ok (.iload 6, 2) := by decide +kernel
theorem dL_law_412 : decode cL_law 412 = .ok (.i2l, 1) := by decide +kernel
theorem dL_law_413 : decode cL_law 413 = .ok (.lcmp, 1) := by decide +kernel
theorem dL_law_414 : decode cL_law 414 = .ok (.ifCond .eq 5, 3) := by decide +kernel
theorem dL_law_417 : decode cL_law 417 = .ok (.iconst 0, 1) := by decide +kernel
theorem dL_law_418 : decode cL_law 418 = .ok (.ireturn, 1) := by decide +kernel
theorem dL_law_419 : decode cL_law 419 = .ok (.goto 641, 3) := by decide +kernel
theorem dL_law_422 : decode cL_law 422 = .ok (.aload_n 1, 1) := by decide +kernel
theorem dL_law_423 : decode cL_law 423 = .ok (.aload_n 0, 1) := by decide +kernel
theorem dL_law_424 : decode cL_law 424 = .ok (.iload 4, 2) := by decide +kernel
theorem dL_law_426 : decode cL_law 426 = .ok (.iconst 1, 1) := by decide +kernel
theorem dL_law_427 : decode cL_law 427 = .ok (.iadd, 1) := by decide +kernel
theorem dL_law_428 : decode cL_law 428 = .ok (.iaload, 1) := by decide +kernel
theorem dL_law_429 : decode cL_law 429 = .ok (.aload_n 0, 1) := by decide +kernel
theorem dL_law_430 : decode cL_law 430 = .ok (.iload 4, 2) := by decide +kernel
theorem dL_law_432 : decode cL_law 432 = .ok (.iconst 2, 1) := by decide +kernel
theorem dL_law_433 : decode cL_law 433 = .ok (.iadd, 1) := by decide +kernel
theorem dL_law_434 : decode cL_law 434 = .ok (.iaload, 1) := by decide +kernel
theorem dL_law_435 : decode cL_law 435 = .ok (.aload_n 3, 1) := by decide +kernel
theorem dL_law_436 : decode cL_law 436 = .ok (.invokestatic 99, 3) := by decide +kernel
theorem dL_law_439 : decode cL_law 439 = .ok (.istore 5, 2) := by decide +kernel
theorem dL_law_441 : decode cL_law 441 = .ok (.aload_n 2, 1) := by decide +kernel
theorem dL_law_442 : decode cL_law 442 = .ok (.aload_n 0, 1) := by decide +kernel
theorem dL_law_443 : decode cL_law 443 = .ok (.iload 4, 2) := by decide +kernel
theorem dL_law_445 : decode cL_law 445 = .ok (.iconst 1, 1) := by decide +kernel
theorem dL_law_446 : decode cL_law 446 = .ok (.iadd, 1) := by decide +kernel
theorem dL_law_447 : decode cL_law 447 = .ok (.iaload, 1) := by decide +kernel
theorem dL_law_448 : decode cL_law 448 = .ok (.aload_n 0, 1) := by decide +kernel
theorem dL_law_449 : decode cL_law 449 = .ok (.iload 4, 2) := by decide +kernel
theorem dL_law_451 : decode cL_law 451 = .ok (.iconst 2, 1) := by decide +kernel
theorem dL_law_452 : decode cL_law 452 = .ok (.iadd, 1) := by decide +kernel
theorem dL_law_453 : decode cL_law 453 = .ok (.iaload, 1) := by decide +kernel
theorem dL_law_454 : decode cL_law 454 = .ok (.invokevirtual 102, 3) := by decide +kernel
theorem dL_law_457 : decode cL_law 457 = .ok (.istore 6, 2) := by decide +kernel
theorem dL_law_459 : decode cL_law 459 = .ok (.aload_n 2, 1) := by decide +kernel
theorem dL_law_460 : decode cL_law 460 = .ok (.invokevirtual 76, 3) := by decide +kernel
theorem dL_law_463 : decode cL_law 463 = .ok (.iload 5, 2) := by decide +kernel
theorem dL_law_465 : decode cL_law 465 = .ok (.if_icmp .eq 5, 3) := by decide +kernel
theorem dL_law_468 : decode cL_law 468 = .ok (.iconst 0, 1) := by decide +kernel
theorem dL_law_469 : decode cL_law 469 = .ok (.ireturn, 1) := by decide +kernel
theorem dL_law_470 : decode cL_law 470 = .ok (.iload 5, 2) := by decide +kernel
theorem dL_law_472 : decode cL_law 472 = .ok (.ifCond .ne 15, 3) := by decide +kernel
theorem dL_law_475 : decode cL_law 475 = .ok (.aload_n 3, 1) := by decide +kernel
theorem dL_law_476 : decode cL_law 476 = .ok (.iconst 0, 1) := by decide +kernel
theorem dL_law_477 : decode cL_law 477 = .ok (.laload, 1) := by decide +kernel
theorem dL_law_478 : decode cL_law 478 = .ok (.iload 6, 2) := by decide +kernel
theorem dL_law_480 : decode cL_law 480 = .ok (.i2l, 1) := by decide +kernel
theorem dL_law_481 : decode cL_law 481 = .ok (.lcmp, 1) := by decide +kernel
theorem dL_law_482 : decode cL_law 482 = .ok (.ifCond .eq 5, 3) := by decide +kernel
theorem dL_law_485 : decode cL_law 485 = .ok (.iconst 0, 1) := by decide +kernel
theorem dL_law_486 : decode cL_law 486 = .ok (.ireturn, 1) := by decide +kernel
theorem dL_law_487 : decode cL_law 487 = .ok (.goto 573, 3) := by decide +kernel
theorem dL_law_490 : decode cL_law 490 = .ok (.aload_n 1, 1) := by decide +kernel
theorem dL_law_491 : decode cL_law 491 = .ok (.invokestatic 103, 3) := by decide +kernel
theorem dL_law_494 : decode cL_law 494 = .ok (.istore 5, 2) := by decide +kernel
theorem dL_law_496 : decode cL_law 496 = .ok (.aload_n 2, 1) := by decide +kernel
theorem dL_law_497 : decode cL_law 497 = .ok (.invokevirtual 106, 3) := by decide +kernel
theorem dL_law_500 : decode cL_law 500 = .ok (.aload_n 2, 1) := by decide +kernel
theorem dL_law_501 : decode cL_law 501 = .ok (.invokevirtual 76, 3) := by decide +kernel
theorem dL_law_504 : decode cL_law 504 = .ok (.iload 5, 2) := by decide +kernel
theorem dL_law_506 : decode cL_law 506 = .ok (.if_icmp .eq 5, 3) := by decide +kernel
theorem dL_law_509 : decode cL_law 509 = .ok (.iconst 0, 1) := by decide +kernel
theorem dL_law_510 : decode cL_law 510 = .ok (.ireturn, 1) := by decide +kernel
theorem dL_law_511 : decode cL_law 511 = .ok (.goto 549, 3) := by decide +kernel
theorem dL_law_514 : decode cL_law 514 = .ok (.aload_n 1, 1) := by decide +kernel
theorem dL_law_515 : decode cL_law 515 = .ok (.aload_n 0, 1) := by decide +kernel
theorem dL_law_516 : decode cL_law 516 = .ok (.iload 4, 2) := by decide +kernel
theorem dL_law_518 : decode cL_law 518 = .ok (.iconst 1, 1) := by decide +kernel
theorem dL_law_519 : decode cL_law 519 = .ok (.iadd, 1) := by decide +kernel
theorem dL_law_520 : decode cL_law 520 = .ok (.iaload, 1) := by decide +kernel
theorem dL_law_521 : decode cL_law 521 = .ok (.aload_n 3, 1) := by decide +kernel
theorem dL_law_522 : decode cL_law 522 = .ok (.invokestatic 107, 3) := by decide +kernel
theorem dL_law_525 : decode cL_law 525 = .ok (.istore 5, 2) := by decide +kernel
theorem dL_law_527 : decode cL_law 527 = .ok (.aload_n 2, 1) := by decide +kernel
theorem dL_law_528 : decode cL_law 528 = .ok (.aload_n 0, 1) := by decide +kernel
theorem dL_law_529 : decode cL_law 529 = .ok (.iload 4, 2) := by decide +kernel
theorem dL_law_531 : decode cL_law 531 = .ok (.iconst 1, 1) := by decide +kernel
theorem dL_law_532 : decode cL_law 532 = .ok (.iadd, 1) := by decide +kernel
theorem dL_law_533 : decode cL_law 533 = .ok (.iaload, 1) := by decide +kernel
theorem dL_law_534 : decode cL_law 534 = .ok (.invokevirtual 109, 3) := by decide +kernel
theorem dL_law_537 : decode cL_law 537 = .ok (.istore 6, 2) := by decide +kernel
theorem dL_law_539 : decode cL_law 539 = .ok (.aload_n 2, 1) := by decide +kernel
theorem dL_law_540 : decode cL_law 540 = .ok (.invokevirtual 76, 3) := by decide +kernel
theorem dL_law_543 : decode cL_law 543 = .ok (.iload 5, 2) := by decide +kernel
theorem dL_law_545 : decode cL_law 545 = .ok (.if_icmp .eq 5, 3) := by decide +kernel
theorem dL_law_548 : decode cL_law 548 = .ok (.iconst 0, 1) := by decide +kernel
theorem dL_law_549 : decode cL_law 549 = .ok (.ireturn, 1) := by decide +kernel
theorem dL_law_550 : decode cL_law 550 = .ok (.iload 5, 2) := by decide +kernel
theorem dL_law_552 : decode cL_law 552 = .ok (.ifCond .ne 15, 3) := by decide +kernel
theorem dL_law_555 : decode cL_law 555 = .ok (.aload_n 3, 1) := by decide +kernel
theorem dL_law_556 : decode cL_law 556 = .ok (.iconst 0, 1) := by decide +kernel
theorem dL_law_557 : decode cL_law 557 = .ok (.laload, 1) := by decide +kernel
theorem dL_law_558 : decode cL_law 558 = .ok (.iload 6, 2) := by decide +kernel
theorem dL_law_560 : decode cL_law 560 = .ok (.i2l, 1) := by decide +kernel
theorem dL_law_561 : decode cL_law 561 = .ok (.lcmp, 1) := by decide +kernel
theorem dL_law_562 : decode cL_law 562 = .ok (.ifCond .eq 5, 3) := by decide +kernel
theorem dL_law_565 : decode cL_law 565 = .ok (.iconst 0, 1) := by decide +kernel
theorem dL_law_566 : decode cL_law 566 = .ok (.ireturn, 1) := by decide +kernel
theorem dL_law_567 : decode cL_law 567 = .ok (.goto 493, 3) := by decide +kernel
theorem dL_law_570 : decode cL_law 570 = .ok (.aload_n 1, 1) := by decide +kernel
theorem dL_law_571 : decode cL_law 571 = .ok (.aload_n 0, 1) := by decide +kernel
theorem dL_law_572 : decode cL_law 572 = .ok (.iload 4, 2) := by decide +kernel
theorem dL_law_574 : decode cL_law 574 = .ok (.iconst 1, 1) := by decide +kernel
theorem dL_law_575 : decode cL_law 575 = .ok (.iadd, 1) := by decide +kernel
theorem dL_law_576 : decode cL_law 576 = .ok (.iaload, 1) := by decide +kernel
theorem dL_law_577 : decode cL_law 577 = .ok (.aload_n 0, 1) := by decide +kernel
theorem dL_law_578 : decode cL_law 578 = .ok (.iload 4, 2) := by decide +kernel
theorem dL_law_580 : decode cL_law 580 = .ok (.iconst 2, 1) := by decide +kernel
theorem dL_law_581 : decode cL_law 581 = .ok (.iadd, 1) := by decide +kernel
theorem dL_law_582 : decode cL_law 582 = .ok (.iaload, 1) := by decide +kernel
theorem dL_law_583 : decode cL_law 583 = .ok (.ifCond .eq 7, 3) := by decide +kernel
theorem dL_law_586 : decode cL_law 586 = .ok (.iconst 1, 1) := by decide +kernel
theorem dL_law_587 : decode cL_law 587 = .ok (.goto 4, 3) := by decide +kernel
theorem dL_law_590 : decode cL_law 590 = .ok (.iconst 0, 1) := by decide +kernel
theorem dL_law_591 : decode cL_law 591 = .ok (.aload_n 0, 1) := by decide +kernel
theorem dL_law_592 : decode cL_law 592 = .ok (.iload 4, 2) := by decide +kernel
theorem dL_law_594 : decode cL_law 594 = .ok (.iconst 3, 1) := by decide +kernel
theorem dL_law_595 : decode cL_law 595 = .ok (.iadd, 1) := by decide +kernel
theorem dL_law_596 : decode cL_law 596 = .ok (.iaload, 1) := by decide +kernel
theorem dL_law_597 : decode cL_law 597 = .ok (.invokestatic 110, 3) := by decide +kernel
theorem dL_law_600 : decode cL_law 600 = .ok (.istore 5, 2) := by decide +kernel
theorem dL_law_602 : decode cL_law 602 = .ok (.aload_n 2, 1) := by decide +kernel
theorem dL_law_603 : decode cL_law 603 = .ok (.aload_n 0, 1) := by decide +kernel
theorem dL_law_604 : decode cL_law 604 = .ok (.iload 4, 2) := by decide +kernel
theorem dL_law_606 : decode cL_law 606 = .ok (.iconst 1, 1) := by decide +kernel
theorem dL_law_607 : decode cL_law 607 = .ok (.iadd, 1) := by decide +kernel
theorem dL_law_608 : decode cL_law 608 = .ok (.iaload, 1) := by decide +kernel
theorem dL_law_609 : decode cL_law 609 = .ok (.aload_n 0, 1) := by decide +kernel
theorem dL_law_610 : decode cL_law 610 = .ok (.iload 4, 2) := by decide +kernel
theorem dL_law_612 : decode cL_law 612 = .ok (.iconst 2, 1) := by decide +kernel
theorem dL_law_613 : decode cL_law 613 = .ok (.iadd, 1) := by decide +kernel
theorem dL_law_614 : decode cL_law 614 = .ok (.iaload, 1) := by decide +kernel
theorem dL_law_615 : decode cL_law 615 = .ok (.ifCond .eq 7, 3) := by decide +kernel
theorem dL_law_618 : decode cL_law 618 = .ok (.iconst 1, 1) := by decide +kernel
theorem dL_law_619 : decode cL_law 619 = .ok (.goto 4, 3) := by decide +kernel
theorem dL_law_622 : decode cL_law 622 = .ok (.iconst 0, 1) := by decide +kernel
theorem dL_law_623 : decode cL_law 623 = .ok (.aload_n 0, 1) := by decide +kernel
theorem dL_law_624 : decode cL_law 624 = .ok (.iload 4, 2) := by decide +kernel
theorem dL_law_626 : decode cL_law 626 = .ok (.iconst 3, 1) := by decide +kernel
theorem dL_law_627 : decode cL_law 627 = .ok (.iadd, 1) := by decide +kernel
theorem dL_law_628 : decode cL_law 628 = .ok (.iaload, 1) := by decide +kernel
theorem dL_law_629 : decode cL_law 629 = .ok (.invokevirtual 113, 3) := by decide +kernel
theorem dL_law_632 : decode cL_law 632 = .ok (.aload_n 2, 1) := by decide +kernel
theorem dL_law_633 : decode cL_law 633 = .ok (.invokevirtual 76, 3) := by decide +kernel
theorem dL_law_636 : decode cL_law 636 = .ok (.iload 5, 2) := by decide +kernel
theorem dL_law_638 : decode cL_law 638 = .ok (.if_icmp .eq 5, 3) := by decide +kernel
theorem dL_law_641 : decode cL_law 641 = .ok (.iconst 0, 1) := by decide +kernel
theorem dL_law_642 : decode cL_law 642 = .ok (.ireturn, 1) := by decide +kernel
theorem dL_law_643 : decode cL_law 643 = .ok (.goto 417, 3) := by decide +kernel
theorem dL_law_646 : decode cL_law 646 = .ok (.aload_n 1, 1) := by decide +kernel
theorem dL_law_647 : decode cL_law 647 = .ok (.aload_n 0, 1) := by decide +kernel
theorem dL_law_648 : decode cL_law 648 = .ok (.iload 4, 2) := by decide +kernel
theorem dL_law_650 : decode cL_law 650 = .ok (.iconst 1, 1) := by decide +kernel
theorem dL_law_651 : decode cL_law 651 = .ok (.iadd, 1) := by decide +kernel
theorem dL_law_652 : decode cL_law 652 = .ok (.iaload, 1) := by decide +kernel
theorem dL_law_653 : decode cL_law 653 = .ok (.aload_n 3, 1) := by decide +kernel
theorem dL_law_654 : decode cL_law 654 = .ok (.invokestatic 114, 3) := by decide +kernel
theorem dL_law_657 : decode cL_law 657 = .ok (.istore 5, 2) := by decide +kernel
theorem dL_law_659 : decode cL_law 659 = .ok (.aload_n 2, 1) := by decide +kernel
theorem dL_law_660 : decode cL_law 660 = .ok (.aload_n 0, 1) := by decide +kernel
theorem dL_law_661 : decode cL_law 661 = .ok (.iload 4, 2) := by decide +kernel
theorem dL_law_663 : decode cL_law 663 = .ok (.iconst 1, 1) := by decide +kernel
theorem dL_law_664 : decode cL_law 664 = .ok (.iadd, 1) := by decide +kernel
theorem dL_law_665 : decode cL_law 665 = .ok (.iaload, 1) := by decide +kernel
theorem dL_law_666 : decode cL_law 666 = .ok (.invokevirtual 116, 3) := by decide +kernel
theorem dL_law_669 : decode cL_law 669 = .ok (.istore 6, 2) := by decide +kernel
theorem dL_law_671 : decode cL_law 671 = .ok (.aload_n 2, 1) := by decide +kernel
theorem dL_law_672 : decode cL_law 672 = .ok (.invokevirtual 76, 3) := by decide +kernel
theorem dL_law_675 : decode cL_law 675 = .ok (.iload 5, 2) := by decide +kernel
theorem dL_law_677 : decode cL_law 677 = .ok (.if_icmp .eq 5, 3) := by decide +kernel
theorem dL_law_680 : decode cL_law 680 = .ok (.iconst 0, 1) := by decide +kernel
theorem dL_law_681 : decode cL_law 681 = .ok (.ireturn, 1) := by decide +kernel
theorem dL_law_682 : decode cL_law 682 = .ok (.iload 5, 2) := by decide +kernel
theorem dL_law_684 : decode cL_law 684 = .ok (.ifCond .ne 22, 3) := by decide +kernel
theorem dL_law_687 : decode cL_law 687 = .ok (.aload_n 3, 1) := by decide +kernel
theorem dL_law_688 : decode cL_law 688 = .ok (.iconst 0, 1) := by decide +kernel
theorem dL_law_689 : decode cL_law 689 = .ok (.laload, 1) := by decide +kernel
theorem dL_law_690 : decode cL_law 690 = .ok (.iload 6, 2) := by decide +kernel
theorem dL_law_692 : decode cL_law 692 = .ok (.ifCond .eq 7, 3) := by decide +kernel
theorem dL_law_695 : decode cL_law 695 = .ok (.lconst 1, 1) := by decide +kernel
theorem dL_law_696 : decode cL_law 696 = .ok (.goto 4, 3) := by decide +kernel
theorem dL_law_699 : decode cL_law 699 = .ok (.lconst 0, 1) := by decide +kernel
theorem dL_law_700 : decode cL_law 700 = .ok (.lcmp, 1) := by decide +kernel
theorem dL_law_701 : decode cL_law 701 = .ok (.ifCond .eq 5, 3) := by decide +kernel
theorem dL_law_704 : decode cL_law 704 = .ok (.iconst 0, 1) := by decide +kernel
theorem dL_law_705 : decode cL_law 705 = .ok (.ireturn, 1) := by decide +kernel
theorem dL_law_706 : decode cL_law 706 = .ok (.goto 354, 3) := by decide +kernel
theorem dL_law_709 : decode cL_law 709 = .ok (.aload_n 1, 1) := by decide +kernel
theorem dL_law_710 : decode cL_law 710 = .ok (.aload_n 0, 1) := by decide +kernel
theorem dL_law_711 : decode cL_law 711 = .ok (.iload 4, 2) := by decide +kernel
theorem dL_law_713 : decode cL_law 713 = .ok (.iconst 1, 1) := by decide +kernel
theorem dL_law_714 : decode cL_law 714 = .ok (.iadd, 1) := by decide +kernel
theorem dL_law_715 : decode cL_law 715 = .ok (.iaload, 1) := by decide +kernel
theorem dL_law_716 : decode cL_law 716 = .ok (.aload_n 0, 1) := by decide +kernel
theorem dL_law_717 : decode cL_law 717 = .ok (.iload 4, 2) := by decide +kernel
theorem dL_law_719 : decode cL_law 719 = .ok (.iconst 2, 1) := by decide +kernel
theorem dL_law_720 : decode cL_law 720 = .ok (.iadd, 1) := by decide +kernel
theorem dL_law_721 : decode cL_law 721 = .ok (.iaload, 1) := by decide +kernel
theorem dL_law_722 : decode cL_law 722 = .ok (.ifCond .eq 7, 3) := by decide +kernel
theorem dL_law_725 : decode cL_law 725 = .ok (.iconst 1, 1) := by decide +kernel
theorem dL_law_726 : decode cL_law 726 = .ok (.goto 4, 3) := by decide +kernel
theorem dL_law_729 : decode cL_law 729 = .ok (.iconst 0, 1) := by decide +kernel
theorem dL_law_730 : decode cL_law 730 = .ok (.aload_n 3, 1) := by decide +kernel
theorem dL_law_731 : decode cL_law 731 = .ok (.invokestatic 117, 3) := by decide +kernel
theorem dL_law_734 : decode cL_law 734 = .ok (.istore 5, 2) := by decide +kernel
theorem dL_law_736 : decode cL_law 736 = .ok (.aload_n 2, 1) := by decide +kernel
theorem dL_law_737 : decode cL_law 737 = .ok (.aload_n 0, 1) := by decide +kernel
theorem dL_law_738 : decode cL_law 738 = .ok (.iload 4, 2) := by decide +kernel
theorem dL_law_740 : decode cL_law 740 = .ok (.iconst 1, 1) := by decide +kernel
theorem dL_law_741 : decode cL_law 741 = .ok (.iadd, 1) := by decide +kernel
theorem dL_law_742 : decode cL_law 742 = .ok (.iaload, 1) := by decide +kernel
theorem dL_law_743 : decode cL_law 743 = .ok (.aload_n 0, 1) := by decide +kernel
theorem dL_law_744 : decode cL_law 744 = .ok (.iload 4, 2) := by decide +kernel
theorem dL_law_746 : decode cL_law 746 = .ok (.iconst 2, 1) := by decide +kernel
theorem dL_law_747 : decode cL_law 747 = .ok (.iadd, 1) := by decide +kernel
theorem dL_law_748 : decode cL_law 748 = .ok (.iaload, 1) := by decide +kernel
theorem dL_law_749 : decode cL_law 749 = .ok (.ifCond .eq 7, 3) := by decide +kernel
theorem dL_law_752 : decode cL_law 752 = .ok (.iconst 1, 1) := by decide +kernel
theorem dL_law_753 : decode cL_law 753 = .ok (.goto 4, 3) := by decide +kernel
theorem dL_law_756 : decode cL_law 756 = .ok (.iconst 0, 1) := by decide +kernel
theorem dL_law_757 : decode cL_law 757 = .ok (.invokevirtual 120, 3) := by decide +kernel
theorem dL_law_760 : decode cL_law 760 = .ok (.istore 6, 2) := by decide +kernel
theorem dL_law_762 : decode cL_law 762 = .ok (.aload_n 2, 1) := by decide +kernel
theorem dL_law_763 : decode cL_law 763 = .ok (.invokevirtual 76, 3) := by decide +kernel
theorem dL_law_766 : decode cL_law 766 = .ok (.iload 5, 2) := by decide +kernel
theorem dL_law_768 : decode cL_law 768 = .ok (.if_icmp .eq 5, 3) := by decide +kernel
theorem dL_law_771 : decode cL_law 771 = .ok (.iconst 0, 1) := by decide +kernel
theorem dL_law_772 : decode cL_law 772 = .ok (.ireturn, 1) := by decide +kernel
theorem dL_law_773 : decode cL_law 773 = .ok (.iload 5, 2) := by decide +kernel
theorem dL_law_775 : decode cL_law 775 = .ok (.ifCond .ne 22, 3) := by decide +kernel
theorem dL_law_778 : decode cL_law 778 = .ok (.aload_n 3, 1) := by decide +kernel
theorem dL_law_779 : decode cL_law 779 = .ok (.iconst 0, 1) := by decide +kernel
theorem dL_law_780 : decode cL_law 780 = .ok (.laload, 1) := by decide +kernel
theorem dL_law_781 : decode cL_law 781 = .ok (.iload 6, 2) := by decide +kernel
theorem dL_law_783 : decode cL_law 783 = .ok (.ifCond .eq 7, 3) := by decide +kernel
theorem dL_law_786 : decode cL_law 786 = .ok (.lconst 1, 1) := by decide +kernel
theorem dL_law_787 : decode cL_law 787 = .ok (.goto 4, 3) := by decide +kernel
theorem dL_law_790 : decode cL_law 790 = .ok (.lconst 0, 1) := by decide +kernel
theorem dL_law_791 : decode cL_law 791 = .ok (.lcmp, 1) := by decide +kernel
theorem dL_law_792 : decode cL_law 792 = .ok (.ifCond .eq 5, 3) := by decide +kernel
theorem dL_law_795 : decode cL_law 795 = .ok (.iconst 0, 1) := by decide +kernel
theorem dL_law_796 : decode cL_law 796 = .ok (.ireturn, 1) := by decide +kernel
theorem dL_law_797 : decode cL_law 797 = .ok (.goto 263, 3) := by decide +kernel
theorem dL_law_800 : decode cL_law 800 = .ok (.aload_n 1, 1) := by decide +kernel
theorem dL_law_801 : decode cL_law 801 = .ok (.aload_n 0, 1) := by decide +kernel
theorem dL_law_802 : decode cL_law 802 = .ok (.iload 4, 2) := by decide +kernel
theorem dL_law_804 : decode cL_law 804 = .ok (.iconst 1, 1) := by decide +kernel
theorem dL_law_805 : decode cL_law 805 = .ok (.iadd, 1) := by decide +kernel
theorem dL_law_806 : decode cL_law 806 = .ok (.iaload, 1) := by decide +kernel
theorem dL_law_807 : decode cL_law 807 = .ok (.aload_n 0, 1) := by decide +kernel
theorem dL_law_808 : decode cL_law 808 = .ok (.iload 4, 2) := by decide +kernel
theorem dL_law_810 : decode cL_law 810 = .ok (.iconst 2, 1) := by decide +kernel
theorem dL_law_811 : decode cL_law 811 = .ok (.iadd, 1) := by decide +kernel
theorem dL_law_812 : decode cL_law 812 = .ok (.iaload, 1) := by decide +kernel
theorem dL_law_813 : decode cL_law 813 = .ok (.aload_n 3, 1) := by decide +kernel
theorem dL_law_814 : decode cL_law 814 = .ok (.invokestatic 121, 3) := by decide +kernel
theorem dL_law_817 : decode cL_law 817 = .ok (.istore 5, 2) := by decide +kernel
theorem dL_law_819 : decode cL_law 819 = .ok (.aload_n 2, 1) := by decide +kernel
theorem dL_law_820 : decode cL_law 820 = .ok (.aload_n 0, 1) := by decide +kernel
theorem dL_law_821 : decode cL_law 821 = .ok (.iload 4, 2) := by decide +kernel
theorem dL_law_823 : decode cL_law 823 = .ok (.iconst 1, 1) := by decide +kernel
theorem dL_law_824 : decode cL_law 824 = .ok (.iadd, 1) := by decide +kernel
theorem dL_law_825 : decode cL_law 825 = .ok (.iaload, 1) := by decide +kernel
theorem dL_law_826 : decode cL_law 826 = .ok (.aload_n 0, 1) := by decide +kernel
theorem dL_law_827 : decode cL_law 827 = .ok (.iload 4, 2) := by decide +kernel
theorem dL_law_829 : decode cL_law 829 = .ok (.iconst 2, 1) := by decide +kernel
theorem dL_law_830 : decode cL_law 830 = .ok (.iadd, 1) := by decide +kernel
theorem dL_law_831 : decode cL_law 831 = .ok (.iaload, 1) := by decide +kernel
theorem dL_law_832 : decode cL_law 832 = .ok (.invokevirtual 123, 3) := by decide +kernel
theorem dL_law_835 : decode cL_law 835 = .ok (.istore 6, 2) := by decide +kernel
theorem dL_law_837 : decode cL_law 837 = .ok (.aload_n 2, 1) := by decide +kernel
theorem dL_law_838 : decode cL_law 838 = .ok (.invokevirtual 76, 3) := by decide +kernel
theorem dL_law_841 : decode cL_law 841 = .ok (.iload 5, 2) := by decide +kernel
theorem dL_law_843 : decode cL_law 843 = .ok (.if_icmp .eq 5, 3) := by decide +kernel
theorem dL_law_846 : decode cL_law 846 = .ok (.iconst 0, 1) := by decide +kernel
theorem dL_law_847 : decode cL_law 847 = .ok (.ireturn, 1) := by decide +kernel
theorem dL_law_848 : decode cL_law 848 = .ok (.iload 5, 2) := by decide +kernel
theorem dL_law_850 : decode cL_law 850 = .ok (.ifCond .ne 15, 3) := by decide +kernel
theorem dL_law_853 : decode cL_law 853 = .ok (.aload_n 3, 1) := by decide +kernel
theorem dL_law_854 : decode cL_law 854 = .ok (.iconst 0, 1) := by decide +kernel
theorem dL_law_855 : decode cL_law 855 = .ok (.laload, 1) := by decide +kernel
theorem dL_law_856 : decode cL_law 856 = .ok (.iload 6, 2) := by decide +kernel
theorem dL_law_858 : decode cL_law 858 = .ok (.i2l, 1) := by decide +kernel
theorem dL_law_859 : decode cL_law 859 = .ok (.lcmp, 1) := by decide +kernel
theorem dL_law_860 : decode cL_law 860 = .ok (.ifCond .eq 5, 3) := by decide +kernel
theorem dL_law_863 : decode cL_law 863 = .ok (.iconst 0, 1) := by decide +kernel
theorem dL_law_864 : decode cL_law 864 = .ok (.ireturn, 1) := by decide +kernel
theorem dL_law_865 : decode cL_law 865 = .ok (.goto 195, 3) := by decide +kernel
theorem dL_law_868 : decode cL_law 868 = .ok (.aload_n 1, 1) := by decide +kernel
theorem dL_law_869 : decode cL_law 869 = .ok (.aload_n 0, 1) := by decide +kernel
theorem dL_law_870 : decode cL_law 870 = .ok (.iload 4, 2) := by decide +kernel
theorem dL_law_872 : decode cL_law 872 = .ok (.iconst 1, 1) := by decide +kernel
theorem dL_law_873 : decode cL_law 873 = .ok (.iadd, 1) := by decide +kernel
theorem dL_law_874 : decode cL_law 874 = .ok (.iaload, 1) := by decide +kernel
theorem dL_law_875 : decode cL_law 875 = .ok (.aload_n 0, 1) := by decide +kernel
theorem dL_law_876 : decode cL_law 876 = .ok (.iload 4, 2) := by decide +kernel
theorem dL_law_878 : decode cL_law 878 = .ok (.iconst 2, 1) := by decide +kernel
theorem dL_law_879 : decode cL_law 879 = .ok (.iadd, 1) := by decide +kernel
theorem dL_law_880 : decode cL_law 880 = .ok (.iaload, 1) := by decide +kernel
theorem dL_law_881 : decode cL_law 881 = .ok (.aload_n 3, 1) := by decide +kernel
theorem dL_law_882 : decode cL_law 882 = .ok (.invokestatic 124, 3) := by decide +kernel
theorem dL_law_885 : decode cL_law 885 = .ok (.istore 5, 2) := by decide +kernel
theorem dL_law_887 : decode cL_law 887 = .ok (.aload_n 2, 1) := by decide +kernel
theorem dL_law_888 : decode cL_law 888 = .ok (.aload_n 0, 1) := by decide +kernel
theorem dL_law_889 : decode cL_law 889 = .ok (.iload 4, 2) := by decide +kernel
theorem dL_law_891 : decode cL_law 891 = .ok (.iconst 1, 1) := by decide +kernel
theorem dL_law_892 : decode cL_law 892 = .ok (.iadd, 1) := by decide +kernel
theorem dL_law_893 : decode cL_law 893 = .ok (.iaload, 1) := by decide +kernel
theorem dL_law_894 : decode cL_law 894 = .ok (.aload_n 0, 1) := by decide +kernel
theorem dL_law_895 : decode cL_law 895 = .ok (.iload 4, 2) := by decide +kernel
theorem dL_law_897 : decode cL_law 897 = .ok (.iconst 2, 1) := by decide +kernel
theorem dL_law_898 : decode cL_law 898 = .ok (.iadd, 1) := by decide +kernel
theorem dL_law_899 : decode cL_law 899 = .ok (.iaload, 1) := by decide +kernel
theorem dL_law_900 : decode cL_law 900 = .ok (.invokevirtual 126, 3) := by decide +kernel
theorem dL_law_903 : decode cL_law 903 = .ok (.istore 6, 2) := by decide +kernel
theorem dL_law_905 : decode cL_law 905 = .ok (.aload_n 2, 1) := by decide +kernel
theorem dL_law_906 : decode cL_law 906 = .ok (.invokevirtual 76, 3) := by decide +kernel
theorem dL_law_909 : decode cL_law 909 = .ok (.iload 5, 2) := by decide +kernel
theorem dL_law_911 : decode cL_law 911 = .ok (.if_icmp .eq 5, 3) := by decide +kernel
theorem dL_law_914 : decode cL_law 914 = .ok (.iconst 0, 1) := by decide +kernel
theorem dL_law_915 : decode cL_law 915 = .ok (.ireturn, 1) := by decide +kernel
theorem dL_law_916 : decode cL_law 916 = .ok (.iload 5, 2) := by decide +kernel
theorem dL_law_918 : decode cL_law 918 = .ok (.ifCond .ne 15, 3) := by decide +kernel
theorem dL_law_921 : decode cL_law 921 = .ok (.aload_n 3, 1) := by decide +kernel
theorem dL_law_922 : decode cL_law 922 = .ok (.iconst 0, 1) := by decide +kernel
theorem dL_law_923 : decode cL_law 923 = .ok (.laload, 1) := by decide +kernel
theorem dL_law_924 : decode cL_law 924 = .ok (.iload 6, 2) := by decide +kernel
theorem dL_law_926 : decode cL_law 926 = .ok (.i2l, 1) := by decide +kernel
theorem dL_law_927 : decode cL_law 927 = .ok (.lcmp, 1) := by decide +kernel
theorem dL_law_928 : decode cL_law 928 = .ok (.ifCond .eq 5, 3) := by decide +kernel
theorem dL_law_931 : decode cL_law 931 = .ok (.iconst 0, 1) := by decide +kernel
theorem dL_law_932 : decode cL_law 932 = .ok (.ireturn, 1) := by decide +kernel
theorem dL_law_933 : decode cL_law 933 = .ok (.goto 127, 3) := by decide +kernel
theorem dL_law_936 : decode cL_law 936 = .ok (.aload_n 1, 1) := by decide +kernel
theorem dL_law_937 : decode cL_law 937 = .ok (.aload_n 0, 1) := by decide +kernel
theorem dL_law_938 : decode cL_law 938 = .ok (.iload 4, 2) := by decide +kernel
theorem dL_law_940 : decode cL_law 940 = .ok (.iconst 1, 1) := by decide +kernel
theorem dL_law_941 : decode cL_law 941 = .ok (.iadd, 1) := by decide +kernel
theorem dL_law_942 : decode cL_law 942 = .ok (.iaload, 1) := by decide +kernel
theorem dL_law_943 : decode cL_law 943 = .ok (.aload_n 0, 1) := by decide +kernel
theorem dL_law_944 : decode cL_law 944 = .ok (.iload 4, 2) := by decide +kernel
theorem dL_law_946 : decode cL_law 946 = .ok (.iconst 2, 1) := by decide +kernel
theorem dL_law_947 : decode cL_law 947 = .ok (.iadd, 1) := by decide +kernel
theorem dL_law_948 : decode cL_law 948 = .ok (.iaload, 1) := by decide +kernel
theorem dL_law_949 : decode cL_law 949 = .ok (.aload_n 3, 1) := by decide +kernel
theorem dL_law_950 : decode cL_law 950 = .ok (.invokestatic 127, 3) := by decide +kernel
theorem dL_law_953 : decode cL_law 953 = .ok (.istore 5, 2) := by decide +kernel
theorem dL_law_955 : decode cL_law 955 = .ok (.aload_n 2, 1) := by decide +kernel
theorem dL_law_956 : decode cL_law 956 = .ok (.aload_n 0, 1) := by decide +kernel
theorem dL_law_957 : decode cL_law 957 = .ok (.iload 4, 2) := by decide +kernel
theorem dL_law_959 : decode cL_law 959 = .ok (.iconst 1, 1) := by decide +kernel
theorem dL_law_960 : decode cL_law 960 = .ok (.iadd, 1) := by decide +kernel
theorem dL_law_961 : decode cL_law 961 = .ok (.iaload, 1) := by decide +kernel
theorem dL_law_962 : decode cL_law 962 = .ok (.aload_n 0, 1) := by decide +kernel
theorem dL_law_963 : decode cL_law 963 = .ok (.iload 4, 2) := by decide +kernel
theorem dL_law_965 : decode cL_law 965 = .ok (.iconst 2, 1) := by decide +kernel
theorem dL_law_966 : decode cL_law 966 = .ok (.iadd, 1) := by decide +kernel
theorem dL_law_967 : decode cL_law 967 = .ok (.iaload, 1) := by decide +kernel
theorem dL_law_968 : decode cL_law 968 = .ok (.invokevirtual 129, 3) := by decide +kernel
theorem dL_law_971 : decode cL_law 971 = .ok (.istore 6, 2) := by decide +kernel
theorem dL_law_973 : decode cL_law 973 = .ok (.aload_n 2, 1) := by decide +kernel
theorem dL_law_974 : decode cL_law 974 = .ok (.invokevirtual 76, 3) := by decide +kernel
theorem dL_law_977 : decode cL_law 977 = .ok (.iload 5, 2) := by decide +kernel
theorem dL_law_979 : decode cL_law 979 = .ok (.if_icmp .eq 5, 3) := by decide +kernel
theorem dL_law_982 : decode cL_law 982 = .ok (.iconst 0, 1) := by decide +kernel
theorem dL_law_983 : decode cL_law 983 = .ok (.ireturn, 1) := by decide +kernel
theorem dL_law_984 : decode cL_law 984 = .ok (.iload 5, 2) := by decide +kernel
theorem dL_law_986 : decode cL_law 986 = .ok (.ifCond .ne 15, 3) := by decide +kernel
theorem dL_law_989 : decode cL_law 989 = .ok (.aload_n 3, 1) := by decide +kernel
theorem dL_law_990 : decode cL_law 990 = .ok (.iconst 0, 1) := by decide +kernel
theorem dL_law_991 : decode cL_law 991 = .ok (.laload, 1) := by decide +kernel
theorem dL_law_992 : decode cL_law 992 = .ok (.iload 6, 2) := by decide +kernel
theorem dL_law_994 : decode cL_law 994 = .ok (.i2l, 1) := by decide +kernel
theorem dL_law_995 : decode cL_law 995 = .ok (.lcmp, 1) := by decide +kernel
theorem dL_law_996 : decode cL_law 996 = .ok (.ifCond .eq 5, 3) := by decide +kernel
theorem dL_law_999 : decode cL_law 999 = .ok (.iconst 0, 1) := by decide +kernel
theorem dL_law_1000 : decode cL_law 1000 = .ok (.ireturn, 1) := by decide +kernel
theorem dL_law_1001 : decode cL_law 1001 = .ok (.goto 59, 3) := by decide +kernel
theorem dL_law_1004 : decode cL_law 1004 = .ok (.aload_n 1, 1) := by decide +kernel
theorem dL_law_1005 : decode cL_law 1005 = .ok (.aload_n 0, 1) := by decide +kernel
theorem dL_law_1006 : decode cL_law 1006 = .ok (.iload 4, 2) := by decide +kernel
theorem dL_law_1008 : decode cL_law 1008 = .ok (.iconst 1, 1) := by decide +kernel
theorem dL_law_1009 : decode cL_law 1009 = .ok (.iadd, 1) := by decide +kernel
theorem dL_law_1010 : decode cL_law 1010 = .ok (.iaload, 1) := by decide +kernel
theorem dL_law_1011 : decode cL_law 1011 = .ok (.aload_n 3, 1) := by decide +kernel
theorem dL_law_1012 : decode cL_law 1012 = .ok (.invokestatic 130, 3) := by decide +kernel
theorem dL_law_1015 : decode cL_law 1015 = .ok (.istore 5, 2) := by decide +kernel
theorem dL_law_1017 : decode cL_law 1017 = .ok (.aload_n 2, 1) := by decide +kernel
theorem dL_law_1018 : decode cL_law 1018 = .ok (.aload_n 0, 1) := by decide +kernel
theorem dL_law_1019 : decode cL_law 1019 = .ok (.iload 4, 2) := by decide +kernel
theorem dL_law_1021 : decode cL_law 1021 = .ok (.iconst 1, 1) := by decide +kernel
theorem dL_law_1022 : decode cL_law 1022 = .ok (.iadd, 1) := by decide +kernel
theorem dL_law_1023 : decode cL_law 1023 = .ok (.iaload, 1) := by decide +kernel
theorem dL_law_1024 : decode cL_law 1024 = .ok (.invokevirtual 132, 3) := by decide +kernel
theorem dL_law_1027 : decode cL_law 1027 = .ok (.istore 6, 2) := by decide +kernel
theorem dL_law_1029 : decode cL_law 1029 = .ok (.aload_n 2, 1) := by decide +kernel
theorem dL_law_1030 : decode cL_law 1030 = .ok (.invokevirtual 76, 3) := by decide +kernel
theorem dL_law_1033 : decode cL_law 1033 = .ok (.iload 5, 2) := by decide +kernel
theorem dL_law_1035 : decode cL_law 1035 = .ok (.if_icmp .eq 5, 3) := by decide +kernel
theorem dL_law_1038 : decode cL_law 1038 = .ok (.iconst 0, 1) := by decide +kernel
theorem dL_law_1039 : decode cL_law 1039 = .ok (.ireturn, 1) := by decide +kernel
theorem dL_law_1040 : decode cL_law 1040 = .ok (.iload 5, 2) := by decide +kernel
theorem dL_law_1042 : decode cL_law 1042 = .ok (.ifCond .ne 15, 3) := by decide +kernel
theorem dL_law_1045 : decode cL_law 1045 = .ok (.aload_n 3, 1) := by decide +kernel
theorem dL_law_1046 : decode cL_law 1046 = .ok (.iconst 0, 1) := by decide +kernel
theorem dL_law_1047 : decode cL_law 1047 = .ok (.laload, 1) := by decide +kernel
theorem dL_law_1048 : decode cL_law 1048 = .ok (.iload 6, 2) := by decide +kernel
theorem dL_law_1050 : decode cL_law 1050 = .ok (.i2l, 1) := by decide +kernel
theorem dL_law_1051 : decode cL_law 1051 = .ok (.lcmp, 1) := by decide +kernel
theorem dL_law_1052 : decode cL_law 1052 = .ok (.ifCond .eq 5, 3) := by decide +kernel
theorem dL_law_1055 : decode cL_law 1055 = .ok (.iconst 0, 1) := by decide +kernel
theorem dL_law_1056 : decode cL_law 1056 = .ok (.ireturn, 1) := by decide +kernel
theorem dL_law_1057 : decode cL_law 1057 = .ok (.goto 3, 3) := by decide +kernel
theorem dL_law_1060 : decode cL_law 1060 = .ok (.iinc 4 7, 3) := by decide +kernel
theorem dL_law_1063 : decode cL_law 1063 = .ok (.goto (-1040), 3) := by decide +kernel
theorem dL_law_1066 : decode cL_law 1066 = .ok (.iconst 1, 1) := by decide +kernel
theorem dL_law_1067 : decode cL_law 1067 = .ok (.ireturn, 1) := by decide +kernel
end
section
/-! THE G LAYER: a heap as a partial function of cells; one judgement, one contract form, a row an instruction -/
def TB : List Cond := lw_tbl.filter goodWord
theorem TB_sub : ∀ w ∈ TB, w ∈ lw_tbl := fun _ h => (List.mem_filter.mp h).1
theorem TB_good : GoodIn TB TB := fun _ h => ⟨h, good_of_word (List.mem_filter.mp h).2⟩
theorem TB_at {w : Cond} (i : Nat) (h : tables_1[i]? = some w) (hg : goodWord w = true) : w ∈ TB := List.mem_filter.mpr ⟨List.mem_append_right _ (List.mem_of_getElem? h), hg⟩
theorem TB_sel {w : Cond} (i : Nat) (h : (k2_sels lw_privs)[i]? = some w) (hg : goodWord w = true) : w ∈ TB := List.mem_filter.mpr ⟨List.mem_append_left _ (List.mem_of_getElem? h), hg⟩
abbrev gcl : List vw_C := [(RX0, TX0, 8), (RX1, TX1, 5), (RX2, TX2, 1), (RX3, TX3, 3), (RX4, TX4, 4), (RX5, TX5, 10), (RX6, TX6, 10), (RX7, TX7, 31)]
def gty (ci : Nat) : Nat → FieldType := match ci with
  | 0 => tyX0
  | 1 => tyX1
  | 2 => tyX2
  | 3 => tyX3
  | 4 => tyX4
  | 5 => tyX5
  | 6 => tyX6
  | _ => tyX7
/-- what is known of each class: its fields' words, types, names -/
def gOk (ci : Nat) (r : vw_C) : Prop := (∀ w ∈ u_ws r.1 r.2.1 r.2.2, w ∈ TB) ∧ (∀ k, k < r.2.2 → parseFieldDescriptor (r.2.1 k).2.2.1 = some (gty ci k)) ∧ (∀ a, a < r.2.2 → ∀ b, b < r.2.2 → a ≠ b → (r.2.1 a).2.1 ≠ (r.2.1 b).2.1)
theorem TB_ofR {ws : List Cond} (h : GoodIn tables_1 ws) (hg : ws.all goodWord = true) : ∀ w ∈ ws, w ∈ TB := fun w hw => List.mem_filter.mpr ⟨List.mem_append_right _ (h w hw).1, List.all_eq_true.mp hg w hw⟩
theorem inT0 : ∀ w ∈ wsX00, w ∈ TB := TB_ofR (goodIn_r (big := tables_1) _ [356, 358, 360, 362, 364, 366, 368, 370] (by decide +kernel) (by decide +kernel)) (by decide +kernel)
theorem inT1 : ∀ w ∈ wsX10, w ∈ TB := TB_ofR (goodIn_r (big := tables_1) _ [111, 113, 115, 117, 119] (by decide +kernel) (by decide +kernel)) (by decide +kernel)
theorem inT2 : ∀ w ∈ wsX20, w ∈ TB := TB_ofR (goodIn_r (big := tables_1) _ [404] (by decide +kernel) (by decide +kernel)) (by decide +kernel)
theorem inT3 : ∀ w ∈ wsX30, w ∈ TB := TB_ofR (goodIn_r (big := tables_1) _ [39, 41, 43] (by decide +kernel) (by decide +kernel)) (by decide +kernel)
theorem inT4 : ∀ w ∈ wsX40, w ∈ TB := TB_ofR (goodIn_r (big := tables_1) _ [312, 314, 316, 318] (by decide +kernel) (by decide +kernel)) (by decide +kernel)
theorem inT5 : ∀ w ∈ wsX50, w ∈ TB := TB_ofR (goodIn_r (big := tables_1) _ [74, 76, 78, 80, 82, 84, 86, 88, 90, 92] (by decide +kernel) (by decide +kernel)) (by decide +kernel)
theorem inT6 : ∀ w ∈ wsX60, w ∈ TB := TB_ofR (goodIn_r (big := tables_1) _ [132, 134, 136, 138, 140, 142, 144, 146, 148, 150] (by decide +kernel) (by decide +kernel)) (by decide +kernel)
theorem inT7 : ∀ w ∈ wsX70, w ∈ TB := TB_ofR (goodIn_r (big := tables_1) _ [651, 653, 655, 657, 659, 661, 663, 665, 667, 669, 671, 673, 675, 677, 679, 681, 683, 685, 687, 689, 691, 693, 695, 697, 699, 701, 703, 705, 707, 709, 711] (by decide +kernel) (by decide +kernel)) (by decide +kernel)
theorem gOk_all (ci : Nat) (r : vw_C) (h : gcl[ci]? = some r) : gOk ci r := by
  match ci, h with
  | 0, h => cases h; exact ⟨inT0, tyX0_ok, nmX0⟩
  | 1, h => cases h; exact ⟨inT1, tyX1_ok, nmX1⟩
  | 2, h => cases h; exact ⟨inT2, tyX2_ok, nmX2⟩
  | 3, h => cases h; exact ⟨inT3, tyX3_ok, nmX3⟩
  | 4, h => cases h; exact ⟨inT4, tyX4_ok, nmX4⟩
  | 5, h => cases h; exact ⟨inT5, tyX5_ok, nmX5⟩
  | 6, h => cases h; exact ⟨inT6, tyX6_ok, nmX6⟩
  | 7, h => cases h; exact ⟨inT7, tyX7_ok, nmX7⟩
  | k + 8, h => simp [gcl] at h
def gF (own : String) (idx ci k : Nat) : Prop := ∃ r : vw_C, gcl[ci]? = some r ∧ k < r.2.2 ∧ (Cond.fieldLink own idx (r.2.1 k).1 (r.2.1 k).2.1 (r.2.1 k).2.2.1) ∈ TB
def gV (own : String) (idx : Nat) (y : MethodName) (w0 : Cond) : Prop := Cond.methodLink own idx y ∈ TB ∧ Cond.instanceMethod y ∈ TB ∧ Cond.selects y.cls y y ∈ TB ∧ Cond.initialized y.cls ∈ TB ∧ w0 ∈ TB
def gS (own : String) (idx : Nat) (y : MethodName) (w0 : Cond) : Prop := Cond.methodLink own idx y ∈ TB ∧ Cond.static y ∈ TB ∧ Cond.initialized y.cls ∈ TB ∧ w0 ∈ TB
def gI (own : String) (idx : Nat) (y : MethodName) (w0 : Cond) : Prop := Cond.methodLink own idx y ∈ TB ∧ Cond.instanceMethod y ∈ TB ∧ Cond.initialized y.cls ∈ TB ∧ w0 ∈ TB
abbrev hS : Type := Nat → Option va_E
def hup (σ : hS) (a : Nat) (e : va_E) : hS := fun q => if q = a then some e else σ q
def gA (σ : hS) (sz : Nat) : Nat → Prop := fun q => σ q ≠ none ∨ sz ≤ q
def hP (D : va_G) (σ : hS) (H : Heap) : Prop := ∀ a e, σ a = some e → va_at D gcl (a, e) H
def tyL (dA : Nat → ClassId) : List (ClassId × FieldType) := [(dA 0, .int), (dA 1, .boolean), (dA 2, .object "GatedLinks$PlannedStream"), (dA 3, .object "GatedLinks$Port"), (dA 4, .object "GatedLinks$Stream"), (dA 5, .object "GatedLinks$Talker"), (dA 6, .array .int), (dA 7, .long)]
theorem hup_s (σ : hS) (a : Nat) (e : va_E) : hup σ a e a = some e := if_pos rfl
theorem hup_n {σ : hS} {a q : Nat} {e : va_E} (h : q ≠ a) : hup σ a e q = σ q := if_neg h
theorem hP.one {D : va_G} {σ : hS} {H : Heap} (h : hP D σ H) {a : Nat} {e : va_E} (he : σ a = some e) : va_P D gcl [(a, e)] H := by
  intro k q hk
  match k, hk with
  | 0, hk => cases hk; exact h a e he
  | k + 1, hk => simp at hk
theorem hP.lt {D : va_G} {σ : hS} {H : Heap} (h : hP D σ H) {a : Nat} {e : va_E} (he : σ a = some e) : a < H.size := (h a e he).lt
theorem hP.put {D : va_G} {σ : hS} {H H1 : Heap} (h : hP D σ H) {a : Nat} {e : va_E} (he : va_at D gcl (a, e) H1) (oq : ∀ q : Nat, q ≠ a → H1[q]? = H[q]?) : hP D (hup σ a e) H1 := by
  intro b e' hb
  by_cases hba : b = a
  · subst hba
    rw [hup_s] at hb
    cases hb
    exact he
  · rw [hup_n hba] at hb
    exact (h b e' hb).kept (oq b hba)
theorem hP.push {D : va_G} {σ : hS} {H H1 : Heap} (h : hP D σ H) {a : Nat} {e : va_E} (he : va_at D gcl (a, e) H1) (ha : H.size ≤ a) (oq : ∀ q : Nat, q < H.size → H1[q]? = H[q]?) : hP D (hup σ a e) H1 := by
  intro b e' hb
  by_cases hba : b = a
  · subst hba
    rw [hup_s] at hb
    cases hb
    exact he
  · rw [hup_n hba] at hb
    exact (h b e' hb).kept (oq b (h.lt hb))
/-- the locals: none: not set -/
abbrev gLs : Type := List (Option Value)
def gL (la : Array Slot) (ls : gLs) : Prop := la.size = ls.length ∧ lv_wf la ∧ ∀ (i : Nat) (v : Value), ls[i]? = some (some v) → la[i]? = some (.val v) ∧ v.category = 1
def gps (ls : gLs) : List (Nat × Value) := (List.range ls.length).filterMap (fun i => (ls[i]?.join).map (fun v => (i, v)))
theorem gps_mem {ls : gLs} {i : Nat} {v : Value} : (i, v) ∈ gps ls ↔ ls[i]? = some (some v) := by
  unfold gps
  constructor
  · intro h
    obtain ⟨j, -, hj⟩ := List.mem_filterMap.mp h
    cases hx : ls[j]? with
    | none => simp [hx] at hj
    | some o =>
      cases o with
      | none => simp [hx] at hj
      | some w =>
        simp [hx] at hj
        obtain ⟨rfl, rfl⟩ := hj
        exact hx
  · intro h
    exact List.mem_filterMap.mpr ⟨i, List.mem_range.mpr (List.getElem?_eq_some_iff.mp h).1, by simp [h]⟩
theorem gL.has {la : Array Slot} {ls : gLs} (h : gL la ls) : lv_has la ls.length (gps ls) := ⟨h.1, h.2.1, fun q hq => (h.2.2 q.1 q.2 (gps_mem.mp hq)).1⟩
theorem gL.store {la la' : Array Slot} {ls : gLs} {i : Nat} {v : Value} (h : gL la ls) (hi : i < ls.length) (hc : v.category = 1) (h' : lv_has la' ls.length ((i, v) :: (gps ls).filter (fun q => !(q.1 == i) && !(q.1 + 1 == i && q.2.category == 2)))) : gL la' (ls.set i (some v)) := by
  refine ⟨by rw [List.length_set]; exact h'.1, h'.2.1, fun j w hj => ?_⟩
  by_cases hji : j = i
  · subst hji
    rw [List.getElem?_set_self hi] at hj
    cases hj
    exact ⟨h'.2.2 (j, v) List.mem_cons_self, hc⟩
  · rw [List.getElem?_set_ne (Ne.symm hji)] at hj
    have hw := (h.2.2 j w hj).2
    refine ⟨h'.2.2 (j, w) (List.mem_cons_of_mem _ (List.mem_filter.mpr ⟨gps_mem.mpr hj, ?_⟩)), hw⟩
    simp [hji, hw]
/-- the machine, and where a method stands in it -/
abbrev gC : Type := Program × Launch × Env × Room × State × MethodId × Array Value × List Frame × Method × Code × (Nat → Prop) × va_G × (Nat → ClassId) × (State → Prop)
def G (Γ : gC) (σ : hS) (k n pc : Nat) (ls : gLs) (st : List Value) : Prop := match Γ with
  | (p, l, e, R, s, m, args, below, meth, c, A, D, _, Q) => ∀ (H : Heap) (locs : List Loc) (la : Array Slot), hP D σ H → (∀ a e, σ a = some e → A a) → va_S A s.heap H locs → gL la ls → W p l e R s m args below meth c H locs k n Q (F0 m pc la st)
/-- the same, with a thrown exception of class E over the frame -/
def GX (Γ : gC) (σ : hS) (k n pc : Nat) (ls : gLs) (st : List Value) (E : String) : Prop := match Γ with
  | (p, l, e, R, s, m, args, below, meth, c, A, D, _, Q) => ∀ (H : Heap) (locs : List Loc) (la : Array Slot) (q : Addr) (ce : Cell), hP D σ H → (∀ a e, σ a = some e → A a) → va_S A s.heap H locs → gL la ls → H[q]? = some ce → ce.vm = .none → s.vm.findClass E = some ce.cls → vx_W p l e R s m args below meth c H locs k n Q (F0 m pc la st) q
/-- the two static fields that a throw reads -/
def gZ (A : Nat → Prop) (U : State) (H : Heap) : Prop := vx_Zq Bundle.tN "UNASSIGNED_STACK" Bundle.steD A U H ∧ vx_Zq Bundle.tN "SUPPRESSED_SENTINEL" Bundle.listD A U H
theorem gZ.moved {A : Nat → Prop} {u U : State} {H : Heap} (hvm : u.vm.Alike U.vm) (h : gZ A u H) : gZ A U H := ⟨h.1.moved hvm, h.2.moved hvm⟩
theorem gZ.kept {A : Nat → Prop} {U : State} {H H1 : Heap} (h : gZ A U H) (hq : ∀ a : Nat, a < H.size → ¬ A a → H1[a]? = H[a]?) : gZ A U H1 := ⟨h.1.kept hq, h.2.kept hq⟩
theorem gZ.narrow {A B : Nat → Prop} {U : State} {H : Heap} (h : gZ A U H) (hAB : ∀ q, B q → A q) : gZ B U H := ⟨h.1.narrow hAB, h.2.narrow hAB⟩
/-- what else of the tables is needed: casts of the thrown classes, strings, nest links, array classes -/
def gExc : List String := ["java/lang/IndexOutOfBoundsException", "java/lang/IllegalArgumentException", "java/lang/UnsupportedOperationException", "java/util/NoSuchElementException"]
def gStr : List (Nat × String) := [(206, "no such link"), (46, "a delay is 0 .. 9 ticks"), (58, "a path is one to three different links"), (64, "no such period, size or deadline"), (72, "there are five streams"), (82, "tries are 0 .. 20000"), (210, "no schedule was found"), (114, "no such stream in the schedule that was found"), (120, "a tick of a gate is 0 .. 31"), (129, "ticks are 1 .. 200"), (217, "no such stream in force"), (140, "a talker is 0 .. 7 ticks late"), (158, "a frame that waits has 1 .. 8 ticks"), (163, "four frames wait"), (183, "of a stream 0 .. 5 is told"), (192, "of a link 0 .. 3 is told"), (201, "streams are told of 0 .. 3")]
def gNst : List (Nat × MethodName) := [(21, yX3_init), (38, yX5_init), (39, yX1_init)]
def gArr : List String := ["GatedLinks$Stream", "GatedLinks$Talker", "GatedLinks$Port", "GatedLinks$PlannedStream"]
def gE (U : State) : Prop := (∀ E ∈ gExc, va_Nw (.castable E E) U) ∧ (∀ q ∈ gStr, ∃ a, vk_R RX6 q.1 q.2 a U) ∧ (∀ q ∈ gNst, va_Nw (.methodLinkNest RX6 q.1 q.2 RX6) U) ∧ (∀ C ∈ gArr, va_AO C U) ∧ va_AOA .int U ∧ ∀ E ∈ gExc, ∀ F ∈ gExc, E ≠ F → va_Nc E F U
theorem va_AOA.moved {ty : FieldType} {u U : State} (hvm : u.vm.Alike U.vm) (h : va_AOA ty u) : va_AOA ty U := arrayOver_alikeB hvm h
theorem gE.same {u U : State} (hv : u.vm = U.vm) (h : gE u) : gE U := ⟨fun E hE => (h.1 E hE).same rfl hv, fun q hq => (h.2.1 q hq).imp fun a ha => ha.same hv.symm, fun q hq => (h.2.2.1 q hq).same rfl hv, fun C hC => (h.2.2.2.1 C hC).moved (by rw [hv]; exact Vm.Alike.refl _), h.2.2.2.2.1.moved (by rw [hv]; exact Vm.Alike.refl _), fun E hE F hF hn => (h.2.2.2.2.2 E hE F hF hn).moved (by rw [hv]; exact Vm.Alike.refl _)⟩
theorem gE.warm {s U : State} (hW : s.WarmedH U.vm) (h : gE s) : gE U := ⟨fun E hE => (h.1 E hE).warmC hW, fun q hq => (h.2.1 q hq).imp fun a ha => ha.warm hW, fun q hq => (h.2.2.1 q hq).warmM hW, fun C hC => (h.2.2.2.1 C hC).moved hW.alike, h.2.2.2.2.1.moved hW.alike, fun E hE F hF hn => (h.2.2.2.2.2 E hE F hF hn).moved hW.alike⟩
/-- what holds all through a method's body -/
def gdA (Γ : gC) : Nat → ClassId := Γ.2.2.2.2.2.2.2.2.2.2.2.2.1
def CX (l0 : Launch) (Γ : gC) (cc : ByteArray) (own : String) (nL : Nat) (R0 : Room) : Prop := match Γ with
  | (p, l, _, R, s, m, args, _, meth, c, A, D, dA, _) => p.tables.exec = Jvm.exec ∧ c.code = cc ∧ c.maxLocals = nL ∧ s.vm.findClass own = some m.cls ∧ (∀ w ∈ TB, w.before args s = true) ∧ va_K D gcl (tyL dA) s ∧ (∀ q, s.heap.size ≤ q → A q) ∧ meth.locks = false ∧ l = l0 ∧ R = R0 ∧ gZ A s s.heap ∧ gE s
/-- a contract: from every heap that holds σ, on the arguments av -/
def gB (D : va_G) (dA : Nat → ClassId) (σ : hS) (sz : Nat) (U : State) : Prop := hP D σ U.heap ∧ va_K D gcl (tyL dA) U ∧ U.heap.size = sz ∧ gZ (gA σ sz) U U.heap ∧ gE U
def gQc (D : va_G) (σ : hS) (sz : Nat) (Post : Option Value → hS → Prop) : Array Value → State → Outcome → State → Prop := fun _ st o t => ∃ (v : Option Value) (σ' : hS), o = .returned v ∧ Post v σ' ∧ hP D σ' t.heap ∧ (∀ a e, σ' a = some e → gA σ sz a) ∧ va_F (gA σ sz) st t
def gXc (D : va_G) (σ : hS) (sz : Nat) (PX : String → hS → Prop) : String → State → State → Prop := fun E st t => ∃ σ' : hS, PX E σ' ∧ hP D σ' t.heap ∧ (∀ a e, σ' a = some e → gA σ sz a) ∧ va_F (gA σ sz) st t
def gM (l : Launch) (dA : Nat → ClassId) (y : MethodName) (w0 : Cond) (rm : Room) (σ : hS) (av : List Value) (Post : Option Value → hS → Prop) (PX : String → hS → Prop) : Prop :=
  ∀ (D : va_G) (sz : Nat), vx_Met l y (w0 :: TB) rm (va_Pc av (gB D dA σ sz)) (gQc D σ sz Post) (gXc D σ sz PX) rm.cells rm.slots (gA σ sz)
/-- what a return needs to know -/
def RX (Γ : gC) (ret : Option FieldType) (rm : Room) (Post : Option Value → hS → Prop) (PX : String → hS → Prop) : Prop := match Γ with
  | (_, _, _, _, s, _, args, below, meth, _, A, D, _, Q) => meth.sig.returnType = ret ∧ ∃ (σ0 : hS) (sz : Nat), A = gA σ0 sz ∧ Q = vx_MQ below (gQc D σ0 sz Post) (gXc D σ0 sz PX) args s rm.cells rm.slots (gA σ0 sz)
/-- no handlers -/
def NX (Γ : gC) : Prop := match Γ with
  | (_, _, _, _, _, _, _, _, _, c, _, _, _, _) => ∀ x ∈ c.exceptionTable.toList, False
theorem gPc_blind {av : List Value} {D : va_G} {dA : Nat → ClassId} {σ : hS} {sz : Nat} : FrameBlind (va_Pc av (gB D dA σ sz)) := fun a U g mk h => ⟨h.1, h.2.1, va_K.moved (u := U) (U := U.calling g mk a) (Vm.Alike.refl U.vm) h.2.2.1, h.2.2.2.1, gZ.moved (u := U) (U := U.calling g mk a) (Vm.Alike.refl U.vm) h.2.2.2.2.1, gE.same (u := U) (U := U.calling g mk a) rfl h.2.2.2.2.2⟩
theorem lg_sl1 : ∀ (av : List Value), (∀ v ∈ av, v.category = 1) → lg_sl av = av.map Slot.val
  | [], _ => rfl
  | v :: t, h => by
    have h1 := h v List.mem_cons_self
    have h2 := lg_sl1 t (fun w hw => h w (List.mem_cons_of_mem _ hw))
    unfold lg_sl at h2 ⊢
    rw [List.flatMap_cons, h2, if_neg (by rw [h1]; decide)]
    rfl
theorem gL_entry {av : List Value} {nL : Nat} (hn : ∀ v ∈ av, v.category = 1) (hlen : av.length ≤ nL) : gL ((lg_sl av ++ List.replicate (nL - (lg_sl av).length) Slot.unset).toArray) (av.map some ++ List.replicate (nL - av.length) none) := by
  have e := lg_sl1 av hn
  have hl : (lg_sl av).length = av.length := by rw [e, List.length_map]
  have h := lv_entry av (n := nL) (by rw [hl]; exact hlen)
  refine ⟨by simp [hl], h.2.1, fun i v hi => ?_⟩
  have hlt : i < av.length := by
    rcases Nat.lt_or_ge i av.length with q | q
    · exact q
    · rw [List.getElem?_append_right (by rw [List.length_map]; exact q)] at hi
      have := List.mem_of_getElem? hi
      have := List.eq_of_mem_replicate this
      cases this
  rw [List.getElem?_append_left (by rw [List.length_map]; exact hlt), List.getElem?_map] at hi
  cases hv : av[i]? with
  | none => rw [hv] at hi; cases hi
  | some w =>
    rw [hv] at hi
    simp at hi
    subst hi
    refine ⟨?_, hn _ (List.mem_of_getElem? hv)⟩
    rw [List.getElem?_toArray, List.getElem?_append_left (by rw [hl]; exact hlt), e, List.getElem?_map, hv]
    rfl
theorem gM_body {l : Launch} {dA : Nat → ClassId} {y : MethodName} {cc : ByteArray} {nL : Nat} {ret : Option FieldType} {rm : Room} {σ : hS} {av : List Value} {Post : Option Value → hS → Prop} {PX : String → hS → Prop} (hy : plainName y.cls = true) (hn : ∀ v ∈ av, v.category = 1) (hlen : av.length ≤ nL)
    (body : ∀ Γ : gC, gdA Γ = dA → CX l Γ cc y.cls nL rm → RX Γ ret rm Post PX → NX Γ → G Γ σ 0 0 0 (av.map some ++ List.replicate (nL - av.length) none) []) : gM l dA y (.code y cc nL ret) rm σ av Post PX := by
  intro D sz
  refine vx_ofW (ws' := TB) hy rfl ?_
  intro p e s m args below meth c s₁ B hml hxt hv
  obtain ⟨rfl, hP, hK, hsz, hZ, hE⟩ := hv
  subst hsz
  have hown : s.vm.findClass y.cls = some m.cls := findClass_of_methodNamed B.named
  have hts0 := atoms_spec B.pre
  rw [lg_entry_eq]
  have hb := body (p, l, e, (headSpec (Cond.code y cc nL ret :: TB) rm).room, s, m, av.toArray, below, meth, c, gA σ s.heap.size, D, dA, vx_MQ below (gQc D σ s.heap.size Post) (gXc D σ s.heap.size PX) av.toArray s rm.cells rm.slots (gA σ s.heap.size))
    rfl ⟨B.exec, B.bytes, hml, hown, fun w hw => hts0 w (List.mem_cons_of_mem _ hw), hK, fun q h => Or.inr h, B.notSynchronized, rfl, rfl, hZ, hE⟩ ⟨B.returns, σ, s.heap.size, rfl, rfl⟩ hxt
  exact hb s.heap [] _ hP (fun a e h => Or.inl (by rw [h]; exact fun q => by cases q)) va_S.rf (gL_entry hn hlen)
end
section
/-! the words that the rows link, by their places in the tables (written by program) -/
abbrev hh_L_delay : List (Nat × Nat × Nat × Nat) := [(0, 6, 9, 13), (0, 6, 12, 15)]
abbrev hh_L_stream : List (Nat × Nat × Nat × Nat) := [(0, 18, 21, 13), (0, 18, 25, 15), (0, 18, 29, 21)]
abbrev hh_L_build : List (Nat × Nat × Nat × Nat) := [(0, 9, 12, 15)]
abbrev hh_L_offset : List (Nat × Nat × Nat × Nat) := [(0, 9, 12, 30), (0, 9, 15, 13)]
abbrev hh_L_gate : List (Nat × Nat × Nat × Nat) := [(0, 10, 13, 13), (0, 10, 17, 15), (0, 10, 21, 30)]
abbrev hh_L_activate : List (Nat × Nat × Nat × Nat) := [(0, 4, 7, 30)]
abbrev hh_L_tick : List (Nat × Nat × Nat × Nat) := [(0, 9, 12, 15)]
abbrev hh_L_talk : List (Nat × Nat × Nat × Nat) := [(0, 7, 10, 13), (0, 7, 14, 15)]
abbrev hh_L_unblock : List (Nat × Nat × Nat × Nat) := [(0, 16, 19, 13)]
abbrev hh_L_cut : List (Nat × Nat × Nat × Nat) := [(0, 17, 20, 13)]
abbrev hh_L_babble : List (Nat × Nat × Nat × Nat) := [(0, 10, 13, 13), (0, 10, 17, 15), (0, 10, 21, 21)]
abbrev hh_L_told : List (Nat × Nat × Nat × Nat) := [(0, 10, 13, 13)]
abbrev hh_L_link : List (Nat × Nat × Nat × Nat) := [(0, 10, 13, 13)]
abbrev hh_L_streams : List (Nat × Nat × Nat × Nat) := [(0, 9, 12, 13)]
theorem fl_X3_20 : gF RX3 20 3 0 := ⟨_, rfl, by decide, TB_at 35 (by decide +kernel) (by decide +kernel)⟩
theorem fl_X6_102 : gF RX6 102 3 0 := ⟨_, rfl, by decide, TB_at 36 (by decide +kernel) (by decide +kernel)⟩
theorem fl_X3_9 : gF RX3 9 3 1 := ⟨_, rfl, by decide, TB_at 37 (by decide +kernel) (by decide +kernel)⟩
theorem fl_X3_17 : gF RX3 17 3 2 := ⟨_, rfl, by decide, TB_at 38 (by decide +kernel) (by decide +kernel)⟩
theorem fl_X5_15 : gF RX5 15 5 0 := ⟨_, rfl, by decide, TB_at 56 (by decide +kernel) (by decide +kernel)⟩
theorem fl_X5_19 : gF RX5 19 5 1 := ⟨_, rfl, by decide, TB_at 57 (by decide +kernel) (by decide +kernel)⟩
theorem fl_X6_142 : gF RX6 142 5 1 := ⟨_, rfl, by decide, TB_at 58 (by decide +kernel) (by decide +kernel)⟩
theorem fl_X5_23 : gF RX5 23 5 2 := ⟨_, rfl, by decide, TB_at 59 (by decide +kernel) (by decide +kernel)⟩
theorem fl_X6_146 : gF RX6 146 5 2 := ⟨_, rfl, by decide, TB_at 60 (by decide +kernel) (by decide +kernel)⟩
theorem fl_X5_27 : gF RX5 27 5 3 := ⟨_, rfl, by decide, TB_at 61 (by decide +kernel) (by decide +kernel)⟩
theorem fl_X6_149 : gF RX6 149 5 3 := ⟨_, rfl, by decide, TB_at 62 (by decide +kernel) (by decide +kernel)⟩
theorem fl_X5_30 : gF RX5 30 5 4 := ⟨_, rfl, by decide, TB_at 63 (by decide +kernel) (by decide +kernel)⟩
theorem fl_X6_168 : gF RX6 168 5 4 := ⟨_, rfl, by decide, TB_at 64 (by decide +kernel) (by decide +kernel)⟩
theorem fl_X5_33 : gF RX5 33 5 5 := ⟨_, rfl, by decide, TB_at 65 (by decide +kernel) (by decide +kernel)⟩
theorem fl_X6_171 : gF RX6 171 5 5 := ⟨_, rfl, by decide, TB_at 66 (by decide +kernel) (by decide +kernel)⟩
theorem fl_X5_36 : gF RX5 36 5 6 := ⟨_, rfl, by decide, TB_at 67 (by decide +kernel) (by decide +kernel)⟩
theorem fl_X6_174 : gF RX6 174 5 6 := ⟨_, rfl, by decide, TB_at 68 (by decide +kernel) (by decide +kernel)⟩
theorem fl_X5_39 : gF RX5 39 5 7 := ⟨_, rfl, by decide, TB_at 69 (by decide +kernel) (by decide +kernel)⟩
theorem fl_X6_177 : gF RX6 177 5 7 := ⟨_, rfl, by decide, TB_at 70 (by decide +kernel) (by decide +kernel)⟩
theorem fl_X5_42 : gF RX5 42 5 8 := ⟨_, rfl, by decide, TB_at 71 (by decide +kernel) (by decide +kernel)⟩
theorem fl_X6_180 : gF RX6 180 5 8 := ⟨_, rfl, by decide, TB_at 72 (by decide +kernel) (by decide +kernel)⟩
theorem fl_X5_9 : gF RX5 9 5 9 := ⟨_, rfl, by decide, TB_at 73 (by decide +kernel) (by decide +kernel)⟩
theorem fl_X1_22 : gF RX1 22 1 0 := ⟨_, rfl, by decide, TB_at 100 (by decide +kernel) (by decide +kernel)⟩
theorem fl_X5_64 : gF RX5 64 1 0 := ⟨_, rfl, by decide, TB_at 101 (by decide +kernel) (by decide +kernel)⟩
theorem fl_X6_152 : gF RX6 152 1 0 := ⟨_, rfl, by decide, TB_at 102 (by decide +kernel) (by decide +kernel)⟩
theorem fl_X1_15 : gF RX1 15 1 1 := ⟨_, rfl, by decide, TB_at 103 (by decide +kernel) (by decide +kernel)⟩
theorem fl_X6_160 : gF RX6 160 1 1 := ⟨_, rfl, by decide, TB_at 104 (by decide +kernel) (by decide +kernel)⟩
theorem fl_X1_9 : gF RX1 9 1 2 := ⟨_, rfl, by decide, TB_at 105 (by decide +kernel) (by decide +kernel)⟩
theorem fl_X6_249 : gF RX6 249 1 2 := ⟨_, rfl, by decide, TB_at 106 (by decide +kernel) (by decide +kernel)⟩
theorem fl_X1_19 : gF RX1 19 1 3 := ⟨_, rfl, by decide, TB_at 107 (by decide +kernel) (by decide +kernel)⟩
theorem fl_X6_239 : gF RX6 239 1 3 := ⟨_, rfl, by decide, TB_at 108 (by decide +kernel) (by decide +kernel)⟩
theorem fl_X1_26 : gF RX1 26 1 4 := ⟨_, rfl, by decide, TB_at 109 (by decide +kernel) (by decide +kernel)⟩
theorem fl_X6_185 : gF RX6 185 1 4 := ⟨_, rfl, by decide, TB_at 110 (by decide +kernel) (by decide +kernel)⟩
theorem fl_X6_9 : gF RX6 9 6 0 := ⟨_, rfl, by decide, TB_at 122 (by decide +kernel) (by decide +kernel)⟩
theorem fl_X6_15 : gF RX6 15 6 1 := ⟨_, rfl, by decide, TB_at 123 (by decide +kernel) (by decide +kernel)⟩
theorem fl_X6_66 : gF RX6 66 6 2 := ⟨_, rfl, by decide, TB_at 124 (by decide +kernel) (by decide +kernel)⟩
theorem fl_X6_22 : gF RX6 22 6 3 := ⟨_, rfl, by decide, TB_at 125 (by decide +kernel) (by decide +kernel)⟩
theorem fl_X6_98 : gF RX6 98 6 4 := ⟨_, rfl, by decide, TB_at 126 (by decide +kernel) (by decide +kernel)⟩
theorem fl_X6_126 : gF RX6 126 6 5 := ⟨_, rfl, by decide, TB_at 127 (by decide +kernel) (by decide +kernel)⟩
theorem fl_X6_198 : gF RX6 198 6 6 := ⟨_, rfl, by decide, TB_at 128 (by decide +kernel) (by decide +kernel)⟩
theorem fl_X6_28 : gF RX6 28 6 7 := ⟨_, rfl, by decide, TB_at 129 (by decide +kernel) (by decide +kernel)⟩
theorem fl_X6_34 : gF RX6 34 6 8 := ⟨_, rfl, by decide, TB_at 130 (by decide +kernel) (by decide +kernel)⟩
theorem fl_X6_134 : gF RX6 134 6 9 := ⟨_, rfl, by decide, TB_at 131 (by decide +kernel) (by decide +kernel)⟩
theorem fl_X4_7 : gF RX4 7 4 0 := ⟨_, rfl, by decide, TB_at 304 (by decide +kernel) (by decide +kernel)⟩
theorem fl_X0_9 : gF RX0 9 4 0 := ⟨_, rfl, by decide, TB_at 305 (by decide +kernel) (by decide +kernel)⟩
theorem fl_X4_13 : gF RX4 13 4 1 := ⟨_, rfl, by decide, TB_at 306 (by decide +kernel) (by decide +kernel)⟩
theorem fl_X0_18 : gF RX0 18 4 1 := ⟨_, rfl, by decide, TB_at 307 (by decide +kernel) (by decide +kernel)⟩
theorem fl_X4_16 : gF RX4 16 4 2 := ⟨_, rfl, by decide, TB_at 308 (by decide +kernel) (by decide +kernel)⟩
theorem fl_X0_22 : gF RX0 22 4 2 := ⟨_, rfl, by decide, TB_at 309 (by decide +kernel) (by decide +kernel)⟩
theorem fl_X4_19 : gF RX4 19 4 3 := ⟨_, rfl, by decide, TB_at 310 (by decide +kernel) (by decide +kernel)⟩
theorem fl_X0_26 : gF RX0 26 4 3 := ⟨_, rfl, by decide, TB_at 311 (by decide +kernel) (by decide +kernel)⟩
theorem fl_X0_15 : gF RX0 15 0 0 := ⟨_, rfl, by decide, TB_at 339 (by decide +kernel) (by decide +kernel)⟩
theorem fl_X3_25 : gF RX3 25 0 0 := ⟨_, rfl, by decide, TB_at 340 (by decide +kernel) (by decide +kernel)⟩
theorem fl_X0_21 : gF RX0 21 0 1 := ⟨_, rfl, by decide, TB_at 341 (by decide +kernel) (by decide +kernel)⟩
theorem fl_X5_76 : gF RX5 76 0 1 := ⟨_, rfl, by decide, TB_at 342 (by decide +kernel) (by decide +kernel)⟩
theorem fl_X0_25 : gF RX0 25 0 2 := ⟨_, rfl, by decide, TB_at 343 (by decide +kernel) (by decide +kernel)⟩
theorem fl_X3_38 : gF RX3 38 0 2 := ⟨_, rfl, by decide, TB_at 344 (by decide +kernel) (by decide +kernel)⟩
theorem fl_X0_30 : gF RX0 30 0 3 := ⟨_, rfl, by decide, TB_at 345 (by decide +kernel) (by decide +kernel)⟩
theorem fl_X3_54 : gF RX3 54 0 3 := ⟨_, rfl, by decide, TB_at 346 (by decide +kernel) (by decide +kernel)⟩
theorem fl_X5_58 : gF RX5 58 0 3 := ⟨_, rfl, by decide, TB_at 347 (by decide +kernel) (by decide +kernel)⟩
theorem fl_X0_31 : gF RX0 31 0 4 := ⟨_, rfl, by decide, TB_at 348 (by decide +kernel) (by decide +kernel)⟩
theorem fl_X5_61 : gF RX5 61 0 4 := ⟨_, rfl, by decide, TB_at 349 (by decide +kernel) (by decide +kernel)⟩
theorem fl_X0_34 : gF RX0 34 0 5 := ⟨_, rfl, by decide, TB_at 350 (by decide +kernel) (by decide +kernel)⟩
theorem fl_X5_73 : gF RX5 73 0 5 := ⟨_, rfl, by decide, TB_at 351 (by decide +kernel) (by decide +kernel)⟩
theorem fl_X0_37 : gF RX0 37 0 6 := ⟨_, rfl, by decide, TB_at 352 (by decide +kernel) (by decide +kernel)⟩
theorem fl_X3_45 : gF RX3 45 0 7 := ⟨_, rfl, by decide, TB_at 353 (by decide +kernel) (by decide +kernel)⟩
theorem fl_X0_44 : gF RX0 44 0 7 := ⟨_, rfl, by decide, TB_at 354 (by decide +kernel) (by decide +kernel)⟩
theorem fl_X6_117 : gF RX6 117 0 7 := ⟨_, rfl, by decide, TB_at 355 (by decide +kernel) (by decide +kernel)⟩
theorem fl_X2_9 : gF RX2 9 2 0 := ⟨_, rfl, by decide, TB_at 402 (by decide +kernel) (by decide +kernel)⟩
theorem fl_X6_108 : gF RX6 108 2 0 := ⟨_, rfl, by decide, TB_at 403 (by decide +kernel) (by decide +kernel)⟩
theorem fl_X7_89 : gF RX7 89 7 0 := ⟨_, rfl, by decide, TB_at 620 (by decide +kernel) (by decide +kernel)⟩
theorem fl_X7_7 : gF RX7 7 7 1 := ⟨_, rfl, by decide, TB_at 621 (by decide +kernel) (by decide +kernel)⟩
theorem fl_X7_97 : gF RX7 97 7 2 := ⟨_, rfl, by decide, TB_at 622 (by decide +kernel) (by decide +kernel)⟩
theorem fl_X7_13 : gF RX7 13 7 3 := ⟨_, rfl, by decide, TB_at 623 (by decide +kernel) (by decide +kernel)⟩
theorem fl_X7_16 : gF RX7 16 7 4 := ⟨_, rfl, by decide, TB_at 624 (by decide +kernel) (by decide +kernel)⟩
theorem fl_X7_19 : gF RX7 19 7 5 := ⟨_, rfl, by decide, TB_at 625 (by decide +kernel) (by decide +kernel)⟩
theorem fl_X7_22 : gF RX7 22 7 6 := ⟨_, rfl, by decide, TB_at 626 (by decide +kernel) (by decide +kernel)⟩
theorem fl_X7_25 : gF RX7 25 7 7 := ⟨_, rfl, by decide, TB_at 627 (by decide +kernel) (by decide +kernel)⟩
theorem fl_X7_28 : gF RX7 28 7 8 := ⟨_, rfl, by decide, TB_at 628 (by decide +kernel) (by decide +kernel)⟩
theorem fl_X7_31 : gF RX7 31 7 9 := ⟨_, rfl, by decide, TB_at 629 (by decide +kernel) (by decide +kernel)⟩
theorem fl_X7_34 : gF RX7 34 7 10 := ⟨_, rfl, by decide, TB_at 630 (by decide +kernel) (by decide +kernel)⟩
theorem fl_X7_37 : gF RX7 37 7 11 := ⟨_, rfl, by decide, TB_at 631 (by decide +kernel) (by decide +kernel)⟩
theorem fl_X7_40 : gF RX7 40 7 12 := ⟨_, rfl, by decide, TB_at 632 (by decide +kernel) (by decide +kernel)⟩
theorem fl_X7_118 : gF RX7 118 7 13 := ⟨_, rfl, by decide, TB_at 633 (by decide +kernel) (by decide +kernel)⟩
theorem fl_X7_43 : gF RX7 43 7 14 := ⟨_, rfl, by decide, TB_at 634 (by decide +kernel) (by decide +kernel)⟩
theorem fl_X7_141 : gF RX7 141 7 15 := ⟨_, rfl, by decide, TB_at 635 (by decide +kernel) (by decide +kernel)⟩
theorem fl_X7_46 : gF RX7 46 7 16 := ⟨_, rfl, by decide, TB_at 636 (by decide +kernel) (by decide +kernel)⟩
theorem fl_X7_50 : gF RX7 50 7 17 := ⟨_, rfl, by decide, TB_at 637 (by decide +kernel) (by decide +kernel)⟩
theorem fl_X7_53 : gF RX7 53 7 18 := ⟨_, rfl, by decide, TB_at 638 (by decide +kernel) (by decide +kernel)⟩
theorem fl_X7_56 : gF RX7 56 7 19 := ⟨_, rfl, by decide, TB_at 639 (by decide +kernel) (by decide +kernel)⟩
theorem fl_X7_59 : gF RX7 59 7 20 := ⟨_, rfl, by decide, TB_at 640 (by decide +kernel) (by decide +kernel)⟩
theorem fl_X7_62 : gF RX7 62 7 21 := ⟨_, rfl, by decide, TB_at 641 (by decide +kernel) (by decide +kernel)⟩
theorem fl_X7_65 : gF RX7 65 7 22 := ⟨_, rfl, by decide, TB_at 642 (by decide +kernel) (by decide +kernel)⟩
theorem fl_X7_138 : gF RX7 138 7 23 := ⟨_, rfl, by decide, TB_at 643 (by decide +kernel) (by decide +kernel)⟩
theorem fl_X7_68 : gF RX7 68 7 24 := ⟨_, rfl, by decide, TB_at 644 (by decide +kernel) (by decide +kernel)⟩
theorem fl_X7_71 : gF RX7 71 7 25 := ⟨_, rfl, by decide, TB_at 645 (by decide +kernel) (by decide +kernel)⟩
theorem fl_X7_74 : gF RX7 74 7 26 := ⟨_, rfl, by decide, TB_at 646 (by decide +kernel) (by decide +kernel)⟩
theorem fl_X7_77 : gF RX7 77 7 27 := ⟨_, rfl, by decide, TB_at 647 (by decide +kernel) (by decide +kernel)⟩
theorem fl_X7_80 : gF RX7 80 7 28 := ⟨_, rfl, by decide, TB_at 648 (by decide +kernel) (by decide +kernel)⟩
theorem fl_X7_83 : gF RX7 83 7 29 := ⟨_, rfl, by decide, TB_at 649 (by decide +kernel) (by decide +kernel)⟩
theorem fl_X7_86 : gF RX7 86 7 30 := ⟨_, rfl, by decide, TB_at 650 (by decide +kernel) (by decide +kernel)⟩
theorem lk_L_66 : gI RL 66 yX6_init (.code yX6_init cX6_init 2 none) := ⟨TB_at 19 (by decide +kernel) (by decide +kernel), TB_at 20 (by decide +kernel) (by decide +kernel), TB_at 1 (by decide +kernel) (by decide +kernel), TB_at 21 (by decide +kernel) (by decide +kernel)⟩
theorem lk_L_84 : gV RL 84 yX6_clear (.code yX6_clear cX6_clear 1 none) := ⟨TB_at 153 (by decide +kernel) (by decide +kernel), TB_at 154 (by decide +kernel) (by decide +kernel), TB_at 155 (by decide +kernel) (by decide +kernel), TB_at 1 (by decide +kernel) (by decide +kernel), TB_at 156 (by decide +kernel) (by decide +kernel)⟩
theorem lk_L_92 : gV RL 92 yX6_tries (.code yX6_tries cX6_tries 1 (some Jvm.ClassFile.FieldType.int)) := ⟨TB_at 157 (by decide +kernel) (by decide +kernel), TB_at 158 (by decide +kernel) (by decide +kernel), TB_at 159 (by decide +kernel) (by decide +kernel), TB_at 1 (by decide +kernel) (by decide +kernel), TB_at 160 (by decide +kernel) (by decide +kernel)⟩
theorem lk_L_70 : gS RL 70 yL_delay (.codeWith yL_delay cL_delay 4 (some Jvm.ClassFile.FieldType.int) hh_L_delay) := ⟨TB_at 161 (by decide +kernel) (by decide +kernel), TB_at 162 (by decide +kernel) (by decide +kernel), TB_at 0 (by decide +kernel) (by decide +kernel), TB_at 163 (by decide +kernel) (by decide +kernel)⟩
theorem lk_L_7 : gV RL 7 yX6_delay (.code yX6_delay cX6_delay 3 none) := ⟨TB_at 166 (by decide +kernel) (by decide +kernel), TB_at 167 (by decide +kernel) (by decide +kernel), TB_at 168 (by decide +kernel) (by decide +kernel), TB_at 1 (by decide +kernel) (by decide +kernel), TB_at 169 (by decide +kernel) (by decide +kernel)⟩
theorem lk_X6_40 : gS RX6 40 yX6_requireLink (.code yX6_requireLink cX6_requireLink 1 none) := ⟨TB_at 170 (by decide +kernel) (by decide +kernel), TB_at 171 (by decide +kernel) (by decide +kernel), TB_at 1 (by decide +kernel) (by decide +kernel), TB_at 172 (by decide +kernel) (by decide +kernel)⟩
theorem lk_X6_203 : gS RX6 203 yX6_isLink (.code yX6_isLink cX6_isLink 1 (some Jvm.ClassFile.FieldType.boolean)) := ⟨TB_at 173 (by decide +kernel) (by decide +kernel), TB_at 174 (by decide +kernel) (by decide +kernel), TB_at 1 (by decide +kernel) (by decide +kernel), TB_at 175 (by decide +kernel) (by decide +kernel)⟩
theorem lk_L_80 : gS RL 80 yL_stream (.codeWith yL_stream cL_stream 9 (some Jvm.ClassFile.FieldType.int) hh_L_stream) := ⟨TB_at 261 (by decide +kernel) (by decide +kernel), TB_at 262 (by decide +kernel) (by decide +kernel), TB_at 0 (by decide +kernel) (by decide +kernel), TB_at 263 (by decide +kernel) (by decide +kernel)⟩
theorem lk_L_17 : gV RL 17 yX6_stream (.code yX6_stream cX6_stream 7 (some Jvm.ClassFile.FieldType.int)) := ⟨TB_at 265 (by decide +kernel) (by decide +kernel), TB_at 266 (by decide +kernel) (by decide +kernel), TB_at 267 (by decide +kernel) (by decide +kernel), TB_at 1 (by decide +kernel) (by decide +kernel), TB_at 268 (by decide +kernel) (by decide +kernel)⟩
theorem lk_X6_51 : gS RX6 51 yX6_requireLinkOrNone (.code yX6_requireLinkOrNone cX6_requireLinkOrNone 1 none) := ⟨TB_at 269 (by decide +kernel) (by decide +kernel), TB_at 270 (by decide +kernel) (by decide +kernel), TB_at 1 (by decide +kernel) (by decide +kernel), TB_at 271 (by decide +kernel) (by decide +kernel)⟩
theorem lk_X6_54 : gS RX6 54 yX6_isPath (.code yX6_isPath cX6_isPath 3 (some Jvm.ClassFile.FieldType.boolean)) := ⟨TB_at 272 (by decide +kernel) (by decide +kernel), TB_at 273 (by decide +kernel) (by decide +kernel), TB_at 1 (by decide +kernel) (by decide +kernel), TB_at 274 (by decide +kernel) (by decide +kernel)⟩
theorem lk_X6_60 : gS RX6 60 yX6_isPeriod (.code yX6_isPeriod cX6_isPeriod 1 (some Jvm.ClassFile.FieldType.boolean)) := ⟨TB_at 276 (by decide +kernel) (by decide +kernel), TB_at 277 (by decide +kernel) (by decide +kernel), TB_at 1 (by decide +kernel) (by decide +kernel), TB_at 278 (by decide +kernel) (by decide +kernel)⟩
theorem lk_X6_75 : gS RX6 75 yX6_pathOf (.code yX6_pathOf cX6_pathOf 5 (some (Jvm.ClassFile.FieldType.array Jvm.ClassFile.FieldType.int))) := ⟨TB_at 297 (by decide +kernel) (by decide +kernel), TB_at 298 (by decide +kernel) (by decide +kernel), TB_at 1 (by decide +kernel) (by decide +kernel), TB_at 299 (by decide +kernel) (by decide +kernel)⟩
theorem lk_X6_79 : gI RX6 79 yX4_init (.code yX4_init cX4_init 5 none) := ⟨TB_at 300 (by decide +kernel) (by decide +kernel), TB_at 301 (by decide +kernel) (by decide +kernel), TB_at 12 (by decide +kernel) (by decide +kernel), TB_at 302 (by decide +kernel) (by decide +kernel)⟩
theorem lk_L_88 : gS RL 88 yL_build (.codeWith yL_build cL_build 4 (some Jvm.ClassFile.FieldType.int) hh_L_build) := ⟨TB_at 321 (by decide +kernel) (by decide +kernel), TB_at 322 (by decide +kernel) (by decide +kernel), TB_at 0 (by decide +kernel) (by decide +kernel), TB_at 323 (by decide +kernel) (by decide +kernel)⟩
theorem lk_L_23 : gV RL 23 yX6_build (.code yX6_build cX6_build 4 (some Jvm.ClassFile.FieldType.int)) := ⟨TB_at 324 (by decide +kernel) (by decide +kernel), TB_at 325 (by decide +kernel) (by decide +kernel), TB_at 326 (by decide +kernel) (by decide +kernel), TB_at 1 (by decide +kernel) (by decide +kernel), TB_at 327 (by decide +kernel) (by decide +kernel)⟩
theorem lk_X6_86 : gI RX6 86 yX0_init (.code yX0_init cX0_init 5 none) := ⟨TB_at 332 (by decide +kernel) (by decide +kernel), TB_at 333 (by decide +kernel) (by decide +kernel), TB_at 13 (by decide +kernel) (by decide +kernel), TB_at 334 (by decide +kernel) (by decide +kernel)⟩
theorem lk_X0_40 : gS RX0 40 yX0_spansFrom (.code yX0_spansFrom cX0_spansFrom 6 (some Jvm.ClassFile.FieldType.int)) := ⟨TB_at 336 (by decide +kernel) (by decide +kernel), TB_at 337 (by decide +kernel) (by decide +kernel), TB_at 13 (by decide +kernel) (by decide +kernel), TB_at 338 (by decide +kernel) (by decide +kernel)⟩
theorem lk_X6_89 : gV RX6 89 yX3_run (.code yX3_run cX3_run 5 (some Jvm.ClassFile.FieldType.int)) := ⟨TB_at 373 (by decide +kernel) (by decide +kernel), TB_at 374 (by decide +kernel) (by decide +kernel), TB_at 375 (by decide +kernel) (by decide +kernel), TB_at 2 (by decide +kernel) (by decide +kernel), TB_at 376 (by decide +kernel) (by decide +kernel)⟩
theorem lk_X3_30 : gV RX3 30 yX3_fits (.code yX3_fits cX3_fits 5 (some Jvm.ClassFile.FieldType.boolean)) := ⟨TB_at 378 (by decide +kernel) (by decide +kernel), TB_at 380 (by decide +kernel) (by decide +kernel), TB_sel 1 (by decide +kernel) (by decide +kernel), TB_at 2 (by decide +kernel) (by decide +kernel), TB_at 381 (by decide +kernel) (by decide +kernel)⟩
theorem lk_X3_34 : gV RX3 34 yX0_latency (.code yX0_latency cX0_latency 1 (some Jvm.ClassFile.FieldType.int)) := ⟨TB_at 382 (by decide +kernel) (by decide +kernel), TB_at 383 (by decide +kernel) (by decide +kernel), TB_at 384 (by decide +kernel) (by decide +kernel), TB_at 13 (by decide +kernel) (by decide +kernel), TB_at 385 (by decide +kernel) (by decide +kernel)⟩
theorem lk_X3_41 : gS RX3 41 yX3_isTaken (.code yX3_isTaken cX3_isTaken 4 (some Jvm.ClassFile.FieldType.boolean)) := ⟨TB_at 386 (by decide +kernel) (by decide +kernel), TB_at 387 (by decide +kernel) (by decide +kernel), TB_at 2 (by decide +kernel) (by decide +kernel), TB_at 388 (by decide +kernel) (by decide +kernel)⟩
theorem lk_X3_57 : gV RX3 57 yX0_spansWith (.code yX0_spansWith cX0_spansWith 3 (some Jvm.ClassFile.FieldType.int)) := ⟨TB_at 389 (by decide +kernel) (by decide +kernel), TB_at 390 (by decide +kernel) (by decide +kernel), TB_at 391 (by decide +kernel) (by decide +kernel), TB_at 13 (by decide +kernel) (by decide +kernel), TB_at 392 (by decide +kernel) (by decide +kernel)⟩
theorem lk_X6_95 : gI RX6 95 yX2_init (.code yX2_init cX2_init 2 none) := ⟨TB_at 398 (by decide +kernel) (by decide +kernel), TB_at 399 (by decide +kernel) (by decide +kernel), TB_at 15 (by decide +kernel) (by decide +kernel), TB_at 400 (by decide +kernel) (by decide +kernel)⟩
theorem lk_L_96 : gS RL 96 yL_offset (.codeWith yL_offset cL_offset 4 (some Jvm.ClassFile.FieldType.int) hh_L_offset) := ⟨TB_at 407 (by decide +kernel) (by decide +kernel), TB_at 408 (by decide +kernel) (by decide +kernel), TB_at 0 (by decide +kernel) (by decide +kernel), TB_at 409 (by decide +kernel) (by decide +kernel)⟩
theorem lk_L_27 : gV RL 27 yX6_offset (.code yX6_offset cX6_offset 2 (some Jvm.ClassFile.FieldType.int)) := ⟨TB_at 411 (by decide +kernel) (by decide +kernel), TB_at 412 (by decide +kernel) (by decide +kernel), TB_at 413 (by decide +kernel) (by decide +kernel), TB_at 1 (by decide +kernel) (by decide +kernel), TB_at 414 (by decide +kernel) (by decide +kernel)⟩
theorem lk_X6_105 : gV RX6 105 yX6_requireFound (.code yX6_requireFound cX6_requireFound 1 none) := ⟨TB_at 415 (by decide +kernel) (by decide +kernel), TB_at 417 (by decide +kernel) (by decide +kernel), TB_sel 2 (by decide +kernel) (by decide +kernel), TB_at 1 (by decide +kernel) (by decide +kernel), TB_at 418 (by decide +kernel) (by decide +kernel)⟩
theorem lk_L_99 : gS RL 99 yL_gate (.codeWith yL_gate cL_gate 5 (some Jvm.ClassFile.FieldType.int) hh_L_gate) := ⟨TB_at 436 (by decide +kernel) (by decide +kernel), TB_at 437 (by decide +kernel) (by decide +kernel), TB_at 0 (by decide +kernel) (by decide +kernel), TB_at 438 (by decide +kernel) (by decide +kernel)⟩
theorem lk_L_32 : gV RL 32 yX6_gate (.code yX6_gate cX6_gate 3 (some Jvm.ClassFile.FieldType.int)) := ⟨TB_at 439 (by decide +kernel) (by decide +kernel), TB_at 440 (by decide +kernel) (by decide +kernel), TB_at 441 (by decide +kernel) (by decide +kernel), TB_at 1 (by decide +kernel) (by decide +kernel), TB_at 442 (by decide +kernel) (by decide +kernel)⟩
theorem lk_X6_122 : gV RX6 122 yX2_ownerOf (.code yX2_ownerOf cX2_ownerOf 5 (some Jvm.ClassFile.FieldType.int)) := ⟨TB_at 444 (by decide +kernel) (by decide +kernel), TB_at 445 (by decide +kernel) (by decide +kernel), TB_at 446 (by decide +kernel) (by decide +kernel), TB_at 15 (by decide +kernel) (by decide +kernel), TB_at 447 (by decide +kernel) (by decide +kernel)⟩
theorem lk_X2_15 : gV RX2 15 yX0_hopOn (.code yX0_hopOn cX0_hopOn 3 (some Jvm.ClassFile.FieldType.int)) := ⟨TB_at 448 (by decide +kernel) (by decide +kernel), TB_at 449 (by decide +kernel) (by decide +kernel), TB_at 450 (by decide +kernel) (by decide +kernel), TB_at 13 (by decide +kernel) (by decide +kernel), TB_at 451 (by decide +kernel) (by decide +kernel)⟩
theorem lk_X2_21 : gV RX2 21 yX0_hasSpanAt (.code yX0_hasSpanAt cX0_hasSpanAt 3 (some Jvm.ClassFile.FieldType.boolean)) := ⟨TB_at 452 (by decide +kernel) (by decide +kernel), TB_at 453 (by decide +kernel) (by decide +kernel), TB_at 454 (by decide +kernel) (by decide +kernel), TB_at 13 (by decide +kernel) (by decide +kernel), TB_at 455 (by decide +kernel) (by decide +kernel)⟩
theorem lk_X0_47 : gV RX0 47 yX0_spansWith (.code yX0_spansWith cX0_spansWith 3 (some Jvm.ClassFile.FieldType.int)) := ⟨TB_at 456 (by decide +kernel) (by decide +kernel), TB_at 390 (by decide +kernel) (by decide +kernel), TB_at 391 (by decide +kernel) (by decide +kernel), TB_at 13 (by decide +kernel) (by decide +kernel), TB_at 392 (by decide +kernel) (by decide +kernel)⟩
theorem lk_L_103 : gS RL 103 yL_activate (.codeWith yL_activate cL_activate 2 (some Jvm.ClassFile.FieldType.int) hh_L_activate) := ⟨TB_at 457 (by decide +kernel) (by decide +kernel), TB_at 458 (by decide +kernel) (by decide +kernel), TB_at 0 (by decide +kernel) (by decide +kernel), TB_at 459 (by decide +kernel) (by decide +kernel)⟩
theorem lk_L_36 : gV RL 36 yX6_activate (.code yX6_activate cX6_activate 1 none) := ⟨TB_at 460 (by decide +kernel) (by decide +kernel), TB_at 461 (by decide +kernel) (by decide +kernel), TB_at 462 (by decide +kernel) (by decide +kernel), TB_at 1 (by decide +kernel) (by decide +kernel), TB_at 463 (by decide +kernel) (by decide +kernel)⟩
theorem lk_L_107 : gS RL 107 yL_tick (.codeWith yL_tick cL_tick 4 (some Jvm.ClassFile.FieldType.int) hh_L_tick) := ⟨TB_at 464 (by decide +kernel) (by decide +kernel), TB_at 465 (by decide +kernel) (by decide +kernel), TB_at 0 (by decide +kernel) (by decide +kernel), TB_at 466 (by decide +kernel) (by decide +kernel)⟩
theorem lk_L_39 : gV RL 39 yX6_tick (.code yX6_tick cX6_tick 3 (some Jvm.ClassFile.FieldType.int)) := ⟨TB_at 467 (by decide +kernel) (by decide +kernel), TB_at 468 (by decide +kernel) (by decide +kernel), TB_at 469 (by decide +kernel) (by decide +kernel), TB_at 1 (by decide +kernel) (by decide +kernel), TB_at 470 (by decide +kernel) (by decide +kernel)⟩
theorem lk_X6_131 : gV RX6 131 yX6_passOneTick (.code yX6_passOneTick cX6_passOneTick 2 none) := ⟨TB_at 472 (by decide +kernel) (by decide +kernel), TB_at 474 (by decide +kernel) (by decide +kernel), TB_sel 3 (by decide +kernel) (by decide +kernel), TB_at 1 (by decide +kernel) (by decide +kernel), TB_at 475 (by decide +kernel) (by decide +kernel)⟩
theorem lk_X6_219 : gV RX6 219 yX6_isTimeToChange (.code yX6_isTimeToChange cX6_isTimeToChange 3 (some Jvm.ClassFile.FieldType.boolean)) := ⟨TB_at 476 (by decide +kernel) (by decide +kernel), TB_at 478 (by decide +kernel) (by decide +kernel), TB_sel 4 (by decide +kernel) (by decide +kernel), TB_at 1 (by decide +kernel) (by decide +kernel), TB_at 479 (by decide +kernel) (by decide +kernel)⟩
theorem lk_X6_213 : gV RX6 213 yX6_talking (.code yX6_talking cX6_talking 1 (some Jvm.ClassFile.FieldType.int)) := ⟨TB_at 480 (by decide +kernel) (by decide +kernel), TB_at 482 (by decide +kernel) (by decide +kernel), TB_sel 5 (by decide +kernel) (by decide +kernel), TB_at 1 (by decide +kernel) (by decide +kernel), TB_at 483 (by decide +kernel) (by decide +kernel)⟩
theorem lk_X6_223 : gV RX6 223 yX6_comeIntoForce (.code yX6_comeIntoForce cX6_comeIntoForce 2 none) := ⟨TB_at 484 (by decide +kernel) (by decide +kernel), TB_at 486 (by decide +kernel) (by decide +kernel), TB_sel 6 (by decide +kernel) (by decide +kernel), TB_at 1 (by decide +kernel) (by decide +kernel), TB_at 487 (by decide +kernel) (by decide +kernel)⟩
theorem lk_X6_242 : gV RX6 242 yX5_startAnew (.code yX5_startAnew cX5_startAnew 2 none) := ⟨TB_at 488 (by decide +kernel) (by decide +kernel), TB_at 489 (by decide +kernel) (by decide +kernel), TB_at 490 (by decide +kernel) (by decide +kernel), TB_at 3 (by decide +kernel) (by decide +kernel), TB_at 491 (by decide +kernel) (by decide +kernel)⟩
theorem lk_X6_226 : gV RX6 226 yX5_speak (.code yX5_speak cX5_speak 2 none) := ⟨TB_at 492 (by decide +kernel) (by decide +kernel), TB_at 493 (by decide +kernel) (by decide +kernel), TB_at 494 (by decide +kernel) (by decide +kernel), TB_at 3 (by decide +kernel) (by decide +kernel), TB_at 495 (by decide +kernel) (by decide +kernel)⟩
theorem lk_X5_45 : gV RX5 45 yX0_beginsAt (.code yX0_beginsAt cX0_beginsAt 2 (some Jvm.ClassFile.FieldType.boolean)) := ⟨TB_at 496 (by decide +kernel) (by decide +kernel), TB_at 497 (by decide +kernel) (by decide +kernel), TB_at 498 (by decide +kernel) (by decide +kernel), TB_at 13 (by decide +kernel) (by decide +kernel), TB_at 499 (by decide +kernel) (by decide +kernel)⟩
theorem lk_X6_229 : gV RX6 229 yX5_moveFrames (.code yX5_moveFrames cX5_moveFrames 6 none) := ⟨TB_at 500 (by decide +kernel) (by decide +kernel), TB_at 501 (by decide +kernel) (by decide +kernel), TB_at 502 (by decide +kernel) (by decide +kernel), TB_at 3 (by decide +kernel) (by decide +kernel), TB_at 503 (by decide +kernel) (by decide +kernel)⟩
theorem lk_X5_51 : gV RX5 51 yX5_beginsOnCut (.code yX5_beginsOnCut cX5_beginsOnCut 4 (some Jvm.ClassFile.FieldType.boolean)) := ⟨TB_at 504 (by decide +kernel) (by decide +kernel), TB_at 506 (by decide +kernel) (by decide +kernel), TB_sel 7 (by decide +kernel) (by decide +kernel), TB_at 3 (by decide +kernel) (by decide +kernel), TB_at 507 (by decide +kernel) (by decide +kernel)⟩
theorem lk_X5_55 : gV RX5 55 yX0_latency (.code yX0_latency cX0_latency 1 (some Jvm.ClassFile.FieldType.int)) := ⟨TB_at 508 (by decide +kernel) (by decide +kernel), TB_at 383 (by decide +kernel) (by decide +kernel), TB_at 384 (by decide +kernel) (by decide +kernel), TB_at 13 (by decide +kernel) (by decide +kernel), TB_at 385 (by decide +kernel) (by decide +kernel)⟩
theorem lk_X6_233 : gV RX6 233 yX6_beginWaiting (.code yX6_beginWaiting cX6_beginWaiting 3 none) := ⟨TB_at 509 (by decide +kernel) (by decide +kernel), TB_at 511 (by decide +kernel) (by decide +kernel), TB_sel 8 (by decide +kernel) (by decide +kernel), TB_at 1 (by decide +kernel) (by decide +kernel), TB_at 512 (by decide +kernel) (by decide +kernel)⟩
theorem lk_X6_246 : gV RX6 246 yX1_canBegin (.code yX1_canBegin cX1_canBegin 1 (some Jvm.ClassFile.FieldType.boolean)) := ⟨TB_at 513 (by decide +kernel) (by decide +kernel), TB_at 514 (by decide +kernel) (by decide +kernel), TB_at 515 (by decide +kernel) (by decide +kernel), TB_at 4 (by decide +kernel) (by decide +kernel), TB_at 516 (by decide +kernel) (by decide +kernel)⟩
theorem lk_X6_252 : gV RX6 252 yX2_isFree (.code yX2_isFree cX2_isFree 5 (some Jvm.ClassFile.FieldType.boolean)) := ⟨TB_at 517 (by decide +kernel) (by decide +kernel), TB_at 518 (by decide +kernel) (by decide +kernel), TB_at 519 (by decide +kernel) (by decide +kernel), TB_at 15 (by decide +kernel) (by decide +kernel), TB_at 520 (by decide +kernel) (by decide +kernel)⟩
theorem lk_X2_25 : gV RX2 25 yX2_ownerOf (.code yX2_ownerOf cX2_ownerOf 5 (some Jvm.ClassFile.FieldType.int)) := ⟨TB_at 521 (by decide +kernel) (by decide +kernel), TB_at 445 (by decide +kernel) (by decide +kernel), TB_at 446 (by decide +kernel) (by decide +kernel), TB_at 15 (by decide +kernel) (by decide +kernel), TB_at 447 (by decide +kernel) (by decide +kernel)⟩
theorem lk_X6_255 : gV RX6 255 yX1_beginFirst (.code yX1_beginFirst cX1_beginFirst 2 none) := ⟨TB_at 522 (by decide +kernel) (by decide +kernel), TB_at 523 (by decide +kernel) (by decide +kernel), TB_at 524 (by decide +kernel) (by decide +kernel), TB_at 4 (by decide +kernel) (by decide +kernel), TB_at 525 (by decide +kernel) (by decide +kernel)⟩
theorem lk_X6_236 : gV RX6 236 yX1_endTick (.code yX1_endTick cX1_endTick 1 none) := ⟨TB_at 526 (by decide +kernel) (by decide +kernel), TB_at 527 (by decide +kernel) (by decide +kernel), TB_at 528 (by decide +kernel) (by decide +kernel), TB_at 4 (by decide +kernel) (by decide +kernel), TB_at 529 (by decide +kernel) (by decide +kernel)⟩
theorem lk_L_110 : gS RL 110 yL_talk (.codeWith yL_talk cL_talk 5 (some Jvm.ClassFile.FieldType.int) hh_L_talk) := ⟨TB_at 530 (by decide +kernel) (by decide +kernel), TB_at 531 (by decide +kernel) (by decide +kernel), TB_at 0 (by decide +kernel) (by decide +kernel), TB_at 532 (by decide +kernel) (by decide +kernel)⟩
theorem lk_L_42 : gV RL 42 yX6_talk (.code yX6_talk cX6_talk 4 none) := ⟨TB_at 533 (by decide +kernel) (by decide +kernel), TB_at 534 (by decide +kernel) (by decide +kernel), TB_at 535 (by decide +kernel) (by decide +kernel), TB_at 1 (by decide +kernel) (by decide +kernel), TB_at 536 (by decide +kernel) (by decide +kernel)⟩
theorem lk_X6_137 : gV RX6 137 yX6_requireInForce (.code yX6_requireInForce cX6_requireInForce 2 none) := ⟨TB_at 537 (by decide +kernel) (by decide +kernel), TB_at 539 (by decide +kernel) (by decide +kernel), TB_sel 9 (by decide +kernel) (by decide +kernel), TB_at 1 (by decide +kernel) (by decide +kernel), TB_at 540 (by decide +kernel) (by decide +kernel)⟩
theorem lk_L_114 : gS RL 114 yL_unblock (.codeWith yL_unblock cL_unblock 4 (some Jvm.ClassFile.FieldType.int) hh_L_unblock) := ⟨TB_at 543 (by decide +kernel) (by decide +kernel), TB_at 544 (by decide +kernel) (by decide +kernel), TB_at 0 (by decide +kernel) (by decide +kernel), TB_at 545 (by decide +kernel) (by decide +kernel)⟩
theorem lk_L_46 : gV RL 46 yX6_unblock (.code yX6_unblock cX6_unblock 3 (some Jvm.ClassFile.FieldType.boolean)) := ⟨TB_at 546 (by decide +kernel) (by decide +kernel), TB_at 547 (by decide +kernel) (by decide +kernel), TB_at 548 (by decide +kernel) (by decide +kernel), TB_at 1 (by decide +kernel) (by decide +kernel), TB_at 549 (by decide +kernel) (by decide +kernel)⟩
theorem lk_L_117 : gS RL 117 yL_cut (.codeWith yL_cut cL_cut 5 (some Jvm.ClassFile.FieldType.int) hh_L_cut) := ⟨TB_at 550 (by decide +kernel) (by decide +kernel), TB_at 551 (by decide +kernel) (by decide +kernel), TB_at 0 (by decide +kernel) (by decide +kernel), TB_at 552 (by decide +kernel) (by decide +kernel)⟩
theorem lk_L_50 : gV RL 50 yX6_cut (.code yX6_cut cX6_cut 4 (some Jvm.ClassFile.FieldType.boolean)) := ⟨TB_at 553 (by decide +kernel) (by decide +kernel), TB_at 554 (by decide +kernel) (by decide +kernel), TB_at 555 (by decide +kernel) (by decide +kernel), TB_at 1 (by decide +kernel) (by decide +kernel), TB_at 556 (by decide +kernel) (by decide +kernel)⟩
theorem lk_X6_155 : gV RX6 155 yX6_loseAllOn (.code yX6_loseAllOn cX6_loseAllOn 3 none) := ⟨TB_at 557 (by decide +kernel) (by decide +kernel), TB_at 559 (by decide +kernel) (by decide +kernel), TB_sel 10 (by decide +kernel) (by decide +kernel), TB_at 1 (by decide +kernel) (by decide +kernel), TB_at 560 (by decide +kernel) (by decide +kernel)⟩
theorem lk_X6_258 : gV RX6 258 yX5_loseOn (.code yX5_loseOn cX5_loseOn 7 none) := ⟨TB_at 561 (by decide +kernel) (by decide +kernel), TB_at 562 (by decide +kernel) (by decide +kernel), TB_at 563 (by decide +kernel) (by decide +kernel), TB_at 3 (by decide +kernel) (by decide +kernel), TB_at 564 (by decide +kernel) (by decide +kernel)⟩
theorem lk_X5_69 : gV RX5 69 yX0_hopOn (.code yX0_hopOn cX0_hopOn 3 (some Jvm.ClassFile.FieldType.int)) := ⟨TB_at 565 (by decide +kernel) (by decide +kernel), TB_at 449 (by decide +kernel) (by decide +kernel), TB_at 450 (by decide +kernel) (by decide +kernel), TB_at 13 (by decide +kernel) (by decide +kernel), TB_at 451 (by decide +kernel) (by decide +kernel)⟩
theorem lk_L_121 : gS RL 121 yL_babble (.codeWith yL_babble cL_babble 5 (some Jvm.ClassFile.FieldType.int) hh_L_babble) := ⟨TB_at 566 (by decide +kernel) (by decide +kernel), TB_at 567 (by decide +kernel) (by decide +kernel), TB_at 0 (by decide +kernel) (by decide +kernel), TB_at 568 (by decide +kernel) (by decide +kernel)⟩
theorem lk_L_54 : gV RL 54 yX6_babble (.code yX6_babble cX6_babble 4 (some Jvm.ClassFile.FieldType.int)) := ⟨TB_at 569 (by decide +kernel) (by decide +kernel), TB_at 570 (by decide +kernel) (by decide +kernel), TB_at 571 (by decide +kernel) (by decide +kernel), TB_at 1 (by decide +kernel) (by decide +kernel), TB_at 572 (by decide +kernel) (by decide +kernel)⟩
theorem lk_X6_165 : gV RX6 165 yX1_append (.code yX1_append cX1_append 2 none) := ⟨TB_at 575 (by decide +kernel) (by decide +kernel), TB_at 576 (by decide +kernel) (by decide +kernel), TB_at 577 (by decide +kernel) (by decide +kernel), TB_at 4 (by decide +kernel) (by decide +kernel), TB_at 578 (by decide +kernel) (by decide +kernel)⟩
theorem lk_L_124 : gS RL 124 yL_told (.codeWith yL_told cL_told 5 (some Jvm.ClassFile.FieldType.int) hh_L_told) := ⟨TB_at 579 (by decide +kernel) (by decide +kernel), TB_at 580 (by decide +kernel) (by decide +kernel), TB_at 0 (by decide +kernel) (by decide +kernel), TB_at 581 (by decide +kernel) (by decide +kernel)⟩
theorem lk_L_57 : gV RL 57 yX6_told (.code yX6_told cX6_told 4 (some Jvm.ClassFile.FieldType.int)) := ⟨TB_at 582 (by decide +kernel) (by decide +kernel), TB_at 583 (by decide +kernel) (by decide +kernel), TB_at 584 (by decide +kernel) (by decide +kernel), TB_at 1 (by decide +kernel) (by decide +kernel), TB_at 585 (by decide +kernel) (by decide +kernel)⟩
theorem lk_L_127 : gS RL 127 yL_link (.codeWith yL_link cL_link 5 (some Jvm.ClassFile.FieldType.int) hh_L_link) := ⟨TB_at 587 (by decide +kernel) (by decide +kernel), TB_at 588 (by decide +kernel) (by decide +kernel), TB_at 0 (by decide +kernel) (by decide +kernel), TB_at 589 (by decide +kernel) (by decide +kernel)⟩
theorem lk_L_60 : gV RL 60 yX6_link (.code yX6_link cX6_link 4 (some Jvm.ClassFile.FieldType.int)) := ⟨TB_at 590 (by decide +kernel) (by decide +kernel), TB_at 591 (by decide +kernel) (by decide +kernel), TB_at 592 (by decide +kernel) (by decide +kernel), TB_at 1 (by decide +kernel) (by decide +kernel), TB_at 593 (by decide +kernel) (by decide +kernel)⟩
theorem lk_X6_188 : gV RX6 188 yX6_whatIsOn (.code yX6_whatIsOn cX6_whatIsOn 3 (some Jvm.ClassFile.FieldType.int)) := ⟨TB_at 594 (by decide +kernel) (by decide +kernel), TB_at 596 (by decide +kernel) (by decide +kernel), TB_sel 11 (by decide +kernel) (by decide +kernel), TB_at 1 (by decide +kernel) (by decide +kernel), TB_at 597 (by decide +kernel) (by decide +kernel)⟩
theorem lk_X6_262 : gV RX6 262 yX5_hasFrameOn (.code yX5_hasFrameOn cX5_hasFrameOn 6 (some Jvm.ClassFile.FieldType.boolean)) := ⟨TB_at 598 (by decide +kernel) (by decide +kernel), TB_at 599 (by decide +kernel) (by decide +kernel), TB_at 600 (by decide +kernel) (by decide +kernel), TB_at 3 (by decide +kernel) (by decide +kernel), TB_at 601 (by decide +kernel) (by decide +kernel)⟩
theorem lk_L_130 : gS RL 130 yL_streams (.codeWith yL_streams cL_streams 4 (some Jvm.ClassFile.FieldType.int) hh_L_streams) := ⟨TB_at 603 (by decide +kernel) (by decide +kernel), TB_at 604 (by decide +kernel) (by decide +kernel), TB_at 0 (by decide +kernel) (by decide +kernel), TB_at 605 (by decide +kernel) (by decide +kernel)⟩
theorem lk_L_63 : gV RL 63 yX6_streams (.code yX6_streams cX6_streams 2 (some Jvm.ClassFile.FieldType.int)) := ⟨TB_at 606 (by decide +kernel) (by decide +kernel), TB_at 607 (by decide +kernel) (by decide +kernel), TB_at 608 (by decide +kernel) (by decide +kernel), TB_at 1 (by decide +kernel) (by decide +kernel), TB_at 609 (by decide +kernel) (by decide +kernel)⟩
theorem lk_X6_194 : gS RX6 194 yX6_streamsOf (.code yX6_streamsOf cX6_streamsOf 1 (some Jvm.ClassFile.FieldType.int)) := ⟨TB_at 610 (by decide +kernel) (by decide +kernel), TB_at 611 (by decide +kernel) (by decide +kernel), TB_at 1 (by decide +kernel) (by decide +kernel), TB_at 612 (by decide +kernel) (by decide +kernel)⟩
theorem lk_L_69 : gI RL 69 yX7_init (.code yX7_init cX7_init 1 none) := ⟨TB_at 616 (by decide +kernel) (by decide +kernel), TB_at 617 (by decide +kernel) (by decide +kernel), TB_at 5 (by decide +kernel) (by decide +kernel), TB_at 618 (by decide +kernel) (by decide +kernel)⟩
theorem lk_L_76 : gV RL 76 yX7_thrown (.code yX7_thrown cX7_thrown 1 (some Jvm.ClassFile.FieldType.int)) := ⟨TB_at 715 (by decide +kernel) (by decide +kernel), TB_at 716 (by decide +kernel) (by decide +kernel), TB_at 717 (by decide +kernel) (by decide +kernel), TB_at 5 (by decide +kernel) (by decide +kernel), TB_at 718 (by decide +kernel) (by decide +kernel)⟩
theorem lk_L_75 : gV RL 75 yX7_delay (.code yX7_delay cX7_delay 3 none) := ⟨TB_at 719 (by decide +kernel) (by decide +kernel), TB_at 720 (by decide +kernel) (by decide +kernel), TB_at 721 (by decide +kernel) (by decide +kernel), TB_at 5 (by decide +kernel) (by decide +kernel), TB_at 722 (by decide +kernel) (by decide +kernel)⟩
theorem lk_X7_93 : gS RX7 93 yX7_isLink (.code yX7_isLink cX7_isLink 1 (some Jvm.ClassFile.FieldType.boolean)) := ⟨TB_at 723 (by decide +kernel) (by decide +kernel), TB_at 724 (by decide +kernel) (by decide +kernel), TB_at 5 (by decide +kernel) (by decide +kernel), TB_at 725 (by decide +kernel) (by decide +kernel)⟩
theorem lk_L_83 : gV RL 83 yX7_stream (.code yX7_stream cX7_stream 10 (some Jvm.ClassFile.FieldType.int)) := ⟨TB_at 726 (by decide +kernel) (by decide +kernel), TB_at 727 (by decide +kernel) (by decide +kernel), TB_at 728 (by decide +kernel) (by decide +kernel), TB_at 5 (by decide +kernel) (by decide +kernel), TB_at 729 (by decide +kernel) (by decide +kernel)⟩
theorem lk_L_87 : gV RL 87 yX7_clear (.code yX7_clear cX7_clear 1 none) := ⟨TB_at 730 (by decide +kernel) (by decide +kernel), TB_at 731 (by decide +kernel) (by decide +kernel), TB_at 732 (by decide +kernel) (by decide +kernel), TB_at 5 (by decide +kernel) (by decide +kernel), TB_at 733 (by decide +kernel) (by decide +kernel)⟩
theorem lk_L_91 : gV RL 91 yX7_build (.code yX7_build cX7_build 4 (some Jvm.ClassFile.FieldType.int)) := ⟨TB_at 734 (by decide +kernel) (by decide +kernel), TB_at 735 (by decide +kernel) (by decide +kernel), TB_at 736 (by decide +kernel) (by decide +kernel), TB_at 5 (by decide +kernel) (by decide +kernel), TB_at 737 (by decide +kernel) (by decide +kernel)⟩
theorem lk_X7_121 : gV RX7 121 yX7_isGood (.code yX7_isGood cX7_isGood 4 (some Jvm.ClassFile.FieldType.boolean)) := ⟨TB_at 738 (by decide +kernel) (by decide +kernel), TB_at 740 (by decide +kernel) (by decide +kernel), TB_sel 12 (by decide +kernel) (by decide +kernel), TB_at 5 (by decide +kernel) (by decide +kernel), TB_at 741 (by decide +kernel) (by decide +kernel)⟩
theorem lk_X7_111 : gV RX7 111 yX7_isOnTime (.code yX7_isOnTime cX7_isOnTime 3 (some Jvm.ClassFile.FieldType.boolean)) := ⟨TB_at 742 (by decide +kernel) (by decide +kernel), TB_at 744 (by decide +kernel) (by decide +kernel), TB_sel 13 (by decide +kernel) (by decide +kernel), TB_at 5 (by decide +kernel) (by decide +kernel), TB_at 745 (by decide +kernel) (by decide +kernel)⟩
theorem lk_X7_100 : gV RX7 100 yX7_begins (.code yX7_begins cX7_begins 5 (some Jvm.ClassFile.FieldType.int)) := ⟨TB_at 746 (by decide +kernel) (by decide +kernel), TB_at 748 (by decide +kernel) (by decide +kernel), TB_sel 14 (by decide +kernel) (by decide +kernel), TB_at 5 (by decide +kernel) (by decide +kernel), TB_at 749 (by decide +kernel) (by decide +kernel)⟩
theorem lk_X7_114 : gV RX7 114 yX7_streamsMeet (.code yX7_streamsMeet cX7_streamsMeet 7 (some Jvm.ClassFile.FieldType.boolean)) := ⟨TB_at 750 (by decide +kernel) (by decide +kernel), TB_at 752 (by decide +kernel) (by decide +kernel), TB_sel 15 (by decide +kernel) (by decide +kernel), TB_at 5 (by decide +kernel) (by decide +kernel), TB_at 753 (by decide +kernel) (by decide +kernel)⟩
theorem lk_X7_107 : gS RX7 107 yX7_meet (.code yX7_meet cX7_meet 8 (some Jvm.ClassFile.FieldType.boolean)) := ⟨TB_at 754 (by decide +kernel) (by decide +kernel), TB_at 755 (by decide +kernel) (by decide +kernel), TB_at 5 (by decide +kernel) (by decide +kernel), TB_at 756 (by decide +kernel) (by decide +kernel)⟩
theorem lk_X7_104 : gS RX7 104 yX7_modulo (.code yX7_modulo cX7_modulo 2 (some Jvm.ClassFile.FieldType.int)) := ⟨TB_at 757 (by decide +kernel) (by decide +kernel), TB_at 758 (by decide +kernel) (by decide +kernel), TB_at 5 (by decide +kernel) (by decide +kernel), TB_at 759 (by decide +kernel) (by decide +kernel)⟩
theorem lk_X7_124 : gV RX7 124 yX7_keep (.code yX7_keep cX7_keep 4 none) := ⟨TB_at 760 (by decide +kernel) (by decide +kernel), TB_at 762 (by decide +kernel) (by decide +kernel), TB_sel 16 (by decide +kernel) (by decide +kernel), TB_at 5 (by decide +kernel) (by decide +kernel), TB_at 763 (by decide +kernel) (by decide +kernel)⟩
theorem lk_L_95 : gV RL 95 yX7_tries (.code yX7_tries cX7_tries 1 (some Jvm.ClassFile.FieldType.int)) := ⟨TB_at 764 (by decide +kernel) (by decide +kernel), TB_at 765 (by decide +kernel) (by decide +kernel), TB_at 766 (by decide +kernel) (by decide +kernel), TB_at 5 (by decide +kernel) (by decide +kernel), TB_at 767 (by decide +kernel) (by decide +kernel)⟩
theorem lk_L_98 : gV RL 98 yX7_offset (.code yX7_offset cX7_offset 2 (some Jvm.ClassFile.FieldType.int)) := ⟨TB_at 768 (by decide +kernel) (by decide +kernel), TB_at 769 (by decide +kernel) (by decide +kernel), TB_at 770 (by decide +kernel) (by decide +kernel), TB_at 5 (by decide +kernel) (by decide +kernel), TB_at 771 (by decide +kernel) (by decide +kernel)⟩
theorem lk_L_102 : gV RL 102 yX7_gate (.code yX7_gate cX7_gate 3 (some Jvm.ClassFile.FieldType.int)) := ⟨TB_at 772 (by decide +kernel) (by decide +kernel), TB_at 773 (by decide +kernel) (by decide +kernel), TB_at 774 (by decide +kernel) (by decide +kernel), TB_at 5 (by decide +kernel) (by decide +kernel), TB_at 775 (by decide +kernel) (by decide +kernel)⟩
theorem lk_X7_131 : gV RX7 131 yX7_spanOf (.code yX7_spanOf cX7_spanOf 7 (some Jvm.ClassFile.FieldType.int)) := ⟨TB_at 776 (by decide +kernel) (by decide +kernel), TB_at 778 (by decide +kernel) (by decide +kernel), TB_sel 17 (by decide +kernel) (by decide +kernel), TB_at 5 (by decide +kernel) (by decide +kernel), TB_at 779 (by decide +kernel) (by decide +kernel)⟩
theorem lk_X7_127 : gV RX7 127 yX7_beginsIn (.code yX7_beginsIn cX7_beginsIn 6 (some Jvm.ClassFile.FieldType.int)) := ⟨TB_at 780 (by decide +kernel) (by decide +kernel), TB_at 782 (by decide +kernel) (by decide +kernel), TB_sel 18 (by decide +kernel) (by decide +kernel), TB_at 5 (by decide +kernel) (by decide +kernel), TB_at 783 (by decide +kernel) (by decide +kernel)⟩
theorem lk_L_106 : gV RL 106 yX7_activate (.code yX7_activate cX7_activate 1 none) := ⟨TB_at 784 (by decide +kernel) (by decide +kernel), TB_at 785 (by decide +kernel) (by decide +kernel), TB_at 786 (by decide +kernel) (by decide +kernel), TB_at 5 (by decide +kernel) (by decide +kernel), TB_at 787 (by decide +kernel) (by decide +kernel)⟩
theorem lk_X7_134 : gV RX7 134 yX7_copy (.code yX7_copy cX7_copy 4 none) := ⟨TB_at 788 (by decide +kernel) (by decide +kernel), TB_at 790 (by decide +kernel) (by decide +kernel), TB_sel 19 (by decide +kernel) (by decide +kernel), TB_at 5 (by decide +kernel) (by decide +kernel), TB_at 791 (by decide +kernel) (by decide +kernel)⟩
theorem lk_L_109 : gV RL 109 yX7_tick (.code yX7_tick cX7_tick 3 (some Jvm.ClassFile.FieldType.int)) := ⟨TB_at 792 (by decide +kernel) (by decide +kernel), TB_at 793 (by decide +kernel) (by decide +kernel), TB_at 794 (by decide +kernel) (by decide +kernel), TB_at 5 (by decide +kernel) (by decide +kernel), TB_at 795 (by decide +kernel) (by decide +kernel)⟩
theorem lk_X7_183 : gV RX7 183 yX7_tickOnce (.code yX7_tickOnce cX7_tickOnce 2 none) := ⟨TB_at 796 (by decide +kernel) (by decide +kernel), TB_at 798 (by decide +kernel) (by decide +kernel), TB_sel 20 (by decide +kernel) (by decide +kernel), TB_at 5 (by decide +kernel) (by decide +kernel), TB_at 799 (by decide +kernel) (by decide +kernel)⟩
theorem lk_X7_167 : gV RX7 167 yX7_isQuiet (.code yX7_isQuiet cX7_isQuiet 3 (some Jvm.ClassFile.FieldType.boolean)) := ⟨TB_at 800 (by decide +kernel) (by decide +kernel), TB_at 802 (by decide +kernel) (by decide +kernel), TB_sel 21 (by decide +kernel) (by decide +kernel), TB_at 5 (by decide +kernel) (by decide +kernel), TB_at 803 (by decide +kernel) (by decide +kernel)⟩
theorem lk_X7_171 : gV RX7 171 yX7_comeIntoForce (.code yX7_comeIntoForce cX7_comeIntoForce 2 none) := ⟨TB_at 804 (by decide +kernel) (by decide +kernel), TB_at 806 (by decide +kernel) (by decide +kernel), TB_sel 22 (by decide +kernel) (by decide +kernel), TB_at 5 (by decide +kernel) (by decide +kernel), TB_at 807 (by decide +kernel) (by decide +kernel)⟩
theorem lk_X7_174 : gV RX7 174 yX7_talkAll (.code yX7_talkAll cX7_talkAll 3 none) := ⟨TB_at 808 (by decide +kernel) (by decide +kernel), TB_at 810 (by decide +kernel) (by decide +kernel), TB_sel 23 (by decide +kernel) (by decide +kernel), TB_at 5 (by decide +kernel) (by decide +kernel), TB_at 811 (by decide +kernel) (by decide +kernel)⟩
theorem lk_X7_177 : gV RX7 177 yX7_flyAll (.code yX7_flyAll cX7_flyAll 3 none) := ⟨TB_at 812 (by decide +kernel) (by decide +kernel), TB_at 814 (by decide +kernel) (by decide +kernel), TB_sel 24 (by decide +kernel) (by decide +kernel), TB_at 5 (by decide +kernel) (by decide +kernel), TB_at 815 (by decide +kernel) (by decide +kernel)⟩
theorem lk_X7_154 : gV RX7 154 yX7_isLost (.code yX7_isLost cX7_isLost 4 (some Jvm.ClassFile.FieldType.boolean)) := ⟨TB_at 816 (by decide +kernel) (by decide +kernel), TB_at 818 (by decide +kernel) (by decide +kernel), TB_sel 25 (by decide +kernel) (by decide +kernel), TB_at 5 (by decide +kernel) (by decide +kernel), TB_at 819 (by decide +kernel) (by decide +kernel)⟩
theorem lk_X7_150 : gV RX7 150 yX7_lastOf (.code yX7_lastOf cX7_lastOf 2 (some Jvm.ClassFile.FieldType.int)) := ⟨TB_at 820 (by decide +kernel) (by decide +kernel), TB_at 822 (by decide +kernel) (by decide +kernel), TB_sel 26 (by decide +kernel) (by decide +kernel), TB_at 5 (by decide +kernel) (by decide +kernel), TB_at 823 (by decide +kernel) (by decide +kernel)⟩
theorem lk_X7_147 : gV RX7 147 yX7_linkOf (.code yX7_linkOf cX7_linkOf 3 (some Jvm.ClassFile.FieldType.int)) := ⟨TB_at 824 (by decide +kernel) (by decide +kernel), TB_at 826 (by decide +kernel) (by decide +kernel), TB_sel 27 (by decide +kernel) (by decide +kernel), TB_at 5 (by decide +kernel) (by decide +kernel), TB_at 827 (by decide +kernel) (by decide +kernel)⟩
theorem lk_X7_144 : gV RX7 144 yX7_beginOf (.code yX7_beginOf cX7_beginOf 3 (some Jvm.ClassFile.FieldType.int)) := ⟨TB_at 828 (by decide +kernel) (by decide +kernel), TB_at 830 (by decide +kernel) (by decide +kernel), TB_sel 28 (by decide +kernel) (by decide +kernel), TB_at 5 (by decide +kernel) (by decide +kernel), TB_at 831 (by decide +kernel) (by decide +kernel)⟩
theorem lk_X7_157 : gV RX7 157 yX7_remove (.code yX7_remove cX7_remove 3 none) := ⟨TB_at 832 (by decide +kernel) (by decide +kernel), TB_at 834 (by decide +kernel) (by decide +kernel), TB_sel 29 (by decide +kernel) (by decide +kernel), TB_at 5 (by decide +kernel) (by decide +kernel), TB_at 835 (by decide +kernel) (by decide +kernel)⟩
theorem lk_X7_161 : gV RX7 161 yX7_throughOf (.code yX7_throughOf cX7_throughOf 4 (some Jvm.ClassFile.FieldType.int)) := ⟨TB_at 836 (by decide +kernel) (by decide +kernel), TB_at 838 (by decide +kernel) (by decide +kernel), TB_sel 30 (by decide +kernel) (by decide +kernel), TB_at 5 (by decide +kernel) (by decide +kernel), TB_at 839 (by decide +kernel) (by decide +kernel)⟩
theorem lk_X7_180 : gV RX7 180 yX7_serve (.code yX7_serve cX7_serve 3 none) := ⟨TB_at 840 (by decide +kernel) (by decide +kernel), TB_at 842 (by decide +kernel) (by decide +kernel), TB_sel 31 (by decide +kernel) (by decide +kernel), TB_at 5 (by decide +kernel) (by decide +kernel), TB_at 843 (by decide +kernel) (by decide +kernel)⟩
theorem lk_X7_164 : gV RX7 164 yX7_isFree (.code yX7_isFree cX7_isFree 5 (some Jvm.ClassFile.FieldType.boolean)) := ⟨TB_at 844 (by decide +kernel) (by decide +kernel), TB_at 846 (by decide +kernel) (by decide +kernel), TB_sel 32 (by decide +kernel) (by decide +kernel), TB_at 5 (by decide +kernel) (by decide +kernel), TB_at 847 (by decide +kernel) (by decide +kernel)⟩
theorem lk_L_113 : gV RL 113 yX7_talk (.code yX7_talk cX7_talk 4 none) := ⟨TB_at 848 (by decide +kernel) (by decide +kernel), TB_at 849 (by decide +kernel) (by decide +kernel), TB_at 850 (by decide +kernel) (by decide +kernel), TB_at 5 (by decide +kernel) (by decide +kernel), TB_at 851 (by decide +kernel) (by decide +kernel)⟩
theorem lk_X7_186 : gV RX7 186 yX7_isTalker (.code yX7_isTalker cX7_isTalker 2 (some Jvm.ClassFile.FieldType.boolean)) := ⟨TB_at 852 (by decide +kernel) (by decide +kernel), TB_at 854 (by decide +kernel) (by decide +kernel), TB_sel 33 (by decide +kernel) (by decide +kernel), TB_at 5 (by decide +kernel) (by decide +kernel), TB_at 855 (by decide +kernel) (by decide +kernel)⟩
theorem lk_L_116 : gV RL 116 yX7_unblock (.code yX7_unblock cX7_unblock 3 (some Jvm.ClassFile.FieldType.boolean)) := ⟨TB_at 856 (by decide +kernel) (by decide +kernel), TB_at 857 (by decide +kernel) (by decide +kernel), TB_at 858 (by decide +kernel) (by decide +kernel), TB_at 5 (by decide +kernel) (by decide +kernel), TB_at 859 (by decide +kernel) (by decide +kernel)⟩
theorem lk_L_120 : gV RL 120 yX7_cut (.code yX7_cut cX7_cut 4 (some Jvm.ClassFile.FieldType.boolean)) := ⟨TB_at 860 (by decide +kernel) (by decide +kernel), TB_at 861 (by decide +kernel) (by decide +kernel), TB_at 862 (by decide +kernel) (by decide +kernel), TB_at 5 (by decide +kernel) (by decide +kernel), TB_at 863 (by decide +kernel) (by decide +kernel)⟩
theorem lk_X7_189 : gV RX7 189 yX7_isHit (.code yX7_isHit cX7_isHit 5 (some Jvm.ClassFile.FieldType.boolean)) := ⟨TB_at 864 (by decide +kernel) (by decide +kernel), TB_at 866 (by decide +kernel) (by decide +kernel), TB_sel 34 (by decide +kernel) (by decide +kernel), TB_at 5 (by decide +kernel) (by decide +kernel), TB_at 867 (by decide +kernel) (by decide +kernel)⟩
theorem lk_L_123 : gV RL 123 yX7_babble (.code yX7_babble cX7_babble 3 (some Jvm.ClassFile.FieldType.int)) := ⟨TB_at 868 (by decide +kernel) (by decide +kernel), TB_at 869 (by decide +kernel) (by decide +kernel), TB_at 870 (by decide +kernel) (by decide +kernel), TB_at 5 (by decide +kernel) (by decide +kernel), TB_at 871 (by decide +kernel) (by decide +kernel)⟩
theorem lk_L_126 : gV RL 126 yX7_told (.code yX7_told cX7_told 5 (some Jvm.ClassFile.FieldType.int)) := ⟨TB_at 872 (by decide +kernel) (by decide +kernel), TB_at 873 (by decide +kernel) (by decide +kernel), TB_at 874 (by decide +kernel) (by decide +kernel), TB_at 5 (by decide +kernel) (by decide +kernel), TB_at 875 (by decide +kernel) (by decide +kernel)⟩
theorem lk_L_129 : gV RL 129 yX7_link (.code yX7_link cX7_link 3 (some Jvm.ClassFile.FieldType.int)) := ⟨TB_at 876 (by decide +kernel) (by decide +kernel), TB_at 877 (by decide +kernel) (by decide +kernel), TB_at 878 (by decide +kernel) (by decide +kernel), TB_at 5 (by decide +kernel) (by decide +kernel), TB_at 879 (by decide +kernel) (by decide +kernel)⟩
theorem lk_X7_192 : gV RX7 192 yX7_on (.code yX7_on cX7_on 5 (some Jvm.ClassFile.FieldType.int)) := ⟨TB_at 880 (by decide +kernel) (by decide +kernel), TB_at 882 (by decide +kernel) (by decide +kernel), TB_sel 35 (by decide +kernel) (by decide +kernel), TB_at 5 (by decide +kernel) (by decide +kernel), TB_at 883 (by decide +kernel) (by decide +kernel)⟩
theorem lk_L_132 : gV RL 132 yX7_streams (.code yX7_streams cX7_streams 2 (some Jvm.ClassFile.FieldType.int)) := ⟨TB_at 884 (by decide +kernel) (by decide +kernel), TB_at 885 (by decide +kernel) (by decide +kernel), TB_at 886 (by decide +kernel) (by decide +kernel), TB_at 5 (by decide +kernel) (by decide +kernel), TB_at 887 (by decide +kernel) (by decide +kernel)⟩
end
section
/-! G: a row an instruction (written by program) -/
theorem g_iadd {l0 : Launch} {Γ : gC} {cc : ByteArray} {own : String} {nL : Nat} {R0 : Room} {σ : hS} {kc ks pc : Nat} {ls : gLs} {st : List Value} {x y : Int32} (cx : CX l0 Γ cc own nL R0) (d : decode cc pc = .ok (.iadd, 1)) (k : G Γ σ kc ks (pc + 1) ls (.int (x + y) :: st)) : G Γ σ kc ks pc ls (.int y :: .int x :: st) := by
  obtain ⟨p, l, e, R, s, m, args, below, meth, c, A, D, dA, Q⟩ := Γ
  obtain ⟨hx, hb, hml, hown, hts, hK, hAA, hlk, hl0, hR0, hZ, hE⟩ := cx
  intro H locs la hP hA hS hL
  exact lv_iadd hx hb d (k H locs la hP hA hS hL)

theorem g_isub {l0 : Launch} {Γ : gC} {cc : ByteArray} {own : String} {nL : Nat} {R0 : Room} {σ : hS} {kc ks pc : Nat} {ls : gLs} {st : List Value} {x y : Int32} (cx : CX l0 Γ cc own nL R0) (d : decode cc pc = .ok (.isub, 1)) (k : G Γ σ kc ks (pc + 1) ls (.int (x - y) :: st)) : G Γ σ kc ks pc ls (.int y :: .int x :: st) := by
  obtain ⟨p, l, e, R, s, m, args, below, meth, c, A, D, dA, Q⟩ := Γ
  obtain ⟨hx, hb, hml, hown, hts, hK, hAA, hlk, hl0, hR0, hZ, hE⟩ := cx
  intro H locs la hP hA hS hL
  exact lv_isub hx hb d (k H locs la hP hA hS hL)

theorem g_imul {l0 : Launch} {Γ : gC} {cc : ByteArray} {own : String} {nL : Nat} {R0 : Room} {σ : hS} {kc ks pc : Nat} {ls : gLs} {st : List Value} {x y : Int32} (cx : CX l0 Γ cc own nL R0) (d : decode cc pc = .ok (.imul, 1)) (k : G Γ σ kc ks (pc + 1) ls (.int (x * y) :: st)) : G Γ σ kc ks pc ls (.int y :: .int x :: st) := by
  obtain ⟨p, l, e, R, s, m, args, below, meth, c, A, D, dA, Q⟩ := Γ
  obtain ⟨hx, hb, hml, hown, hts, hK, hAA, hlk, hl0, hR0, hZ, hE⟩ := cx
  intro H locs la hP hA hS hL
  exact lv_imul hx hb d (k H locs la hP hA hS hL)

theorem g_iand {l0 : Launch} {Γ : gC} {cc : ByteArray} {own : String} {nL : Nat} {R0 : Room} {σ : hS} {kc ks pc : Nat} {ls : gLs} {st : List Value} {x y : Int32} (cx : CX l0 Γ cc own nL R0) (d : decode cc pc = .ok (.iand, 1)) (k : G Γ σ kc ks (pc + 1) ls (.int (x &&& y) :: st)) : G Γ σ kc ks pc ls (.int y :: .int x :: st) := by
  obtain ⟨p, l, e, R, s, m, args, below, meth, c, A, D, dA, Q⟩ := Γ
  obtain ⟨hx, hb, hml, hown, hts, hK, hAA, hlk, hl0, hR0, hZ, hE⟩ := cx
  intro H locs la hP hA hS hL
  exact lv_iand hx hb d (k H locs la hP hA hS hL)

theorem g_ior {l0 : Launch} {Γ : gC} {cc : ByteArray} {own : String} {nL : Nat} {R0 : Room} {σ : hS} {kc ks pc : Nat} {ls : gLs} {st : List Value} {x y : Int32} (cx : CX l0 Γ cc own nL R0) (d : decode cc pc = .ok (.ior, 1)) (k : G Γ σ kc ks (pc + 1) ls (.int (x ||| y) :: st)) : G Γ σ kc ks pc ls (.int y :: .int x :: st) := by
  obtain ⟨p, l, e, R, s, m, args, below, meth, c, A, D, dA, Q⟩ := Γ
  obtain ⟨hx, hb, hml, hown, hts, hK, hAA, hlk, hl0, hR0, hZ, hE⟩ := cx
  intro H locs la hP hA hS hL
  exact lv_ior hx hb d (k H locs la hP hA hS hL)

theorem g_ishl {l0 : Launch} {Γ : gC} {cc : ByteArray} {own : String} {nL : Nat} {R0 : Room} {σ : hS} {kc ks pc : Nat} {ls : gLs} {st : List Value} {x y : Int32} (cx : CX l0 Γ cc own nL R0) (d : decode cc pc = .ok (.ishl, 1)) (k : G Γ σ kc ks (pc + 1) ls (.int (x <<< (y &&& 31)) :: st)) : G Γ σ kc ks pc ls (.int y :: .int x :: st) := by
  obtain ⟨p, l, e, R, s, m, args, below, meth, c, A, D, dA, Q⟩ := Γ
  obtain ⟨hx, hb, hml, hown, hts, hK, hAA, hlk, hl0, hR0, hZ, hE⟩ := cx
  intro H locs la hP hA hS hL
  exact lv_ishl hx hb d (k H locs la hP hA hS hL)

theorem g_iushr {l0 : Launch} {Γ : gC} {cc : ByteArray} {own : String} {nL : Nat} {R0 : Room} {σ : hS} {kc ks pc : Nat} {ls : gLs} {st : List Value} {x y : Int32} (cx : CX l0 Γ cc own nL R0) (d : decode cc pc = .ok (.iushr, 1)) (k : G Γ σ kc ks (pc + 1) ls (.int ((x.toUInt32 >>> (y.toUInt32 &&& Int32.toUInt32 31)).toInt32) :: st)) : G Γ σ kc ks pc ls (.int y :: .int x :: st) := by
  obtain ⟨p, l, e, R, s, m, args, below, meth, c, A, D, dA, Q⟩ := Γ
  obtain ⟨hx, hb, hml, hown, hts, hK, hAA, hlk, hl0, hR0, hZ, hE⟩ := cx
  intro H locs la hP hA hS hL
  exact lv_iushr hx hb d rfl (k H locs la hP hA hS hL)

theorem g_irem {l0 : Launch} {Γ : gC} {cc : ByteArray} {own : String} {nL : Nat} {R0 : Room} {σ : hS} {kc ks pc : Nat} {ls : gLs} {st : List Value} {x y : Int32} (cx : CX l0 Γ cc own nL R0) (hne : ¬ y = 0) (d : decode cc pc = .ok (.irem, 1)) (k : G Γ σ kc ks (pc + 1) ls (.int (x - x / y * y) :: st)) : G Γ σ kc ks pc ls (.int y :: .int x :: st) := by
  obtain ⟨p, l, e, R, s, m, args, below, meth, c, A, D, dA, Q⟩ := Γ
  obtain ⟨hx, hb, hml, hown, hts, hK, hAA, hlk, hl0, hR0, hZ, hE⟩ := cx
  intro H locs la hP hA hS hL
  exact lv_irem hx hb d hne (k H locs la hP hA hS hL)

theorem g_iconst {l0 : Launch} {Γ : gC} {cc : ByteArray} {own : String} {nL : Nat} {R0 : Room} {σ : hS} {kc ks pc : Nat} {ls : gLs} {st : List Value} {z : Int} {v : Int32} (cx : CX l0 Γ cc own nL R0) (hv : Int32.ofInt z = v) (d : decode cc pc = .ok ((.iconst z), 1)) (k : G Γ σ kc ks (pc + 1) ls (.int v :: st)) : G Γ σ kc ks pc ls (st) := by
  obtain ⟨p, l, e, R, s, m, args, below, meth, c, A, D, dA, Q⟩ := Γ
  obtain ⟨hx, hb, hml, hown, hts, hK, hAA, hlk, hl0, hR0, hZ, hE⟩ := cx
  intro H locs la hP hA hS hL
  exact lv_iconst hx hb d hv (k H locs la hP hA hS hL)

theorem g_bipush {l0 : Launch} {Γ : gC} {cc : ByteArray} {own : String} {nL : Nat} {R0 : Room} {σ : hS} {kc ks pc : Nat} {ls : gLs} {st : List Value} {z : Int} {v : Int32} (cx : CX l0 Γ cc own nL R0) (hv : (Int8.ofInt z).toInt32 = v) (d : decode cc pc = .ok ((.bipush z), 2)) (k : G Γ σ kc ks (pc + 2) ls (.int v :: st)) : G Γ σ kc ks pc ls (st) := by
  obtain ⟨p, l, e, R, s, m, args, below, meth, c, A, D, dA, Q⟩ := Γ
  obtain ⟨hx, hb, hml, hown, hts, hK, hAA, hlk, hl0, hR0, hZ, hE⟩ := cx
  intro H locs la hP hA hS hL
  exact lv_bipush hx hb d hv (k H locs la hP hA hS hL)

theorem g_sipush {l0 : Launch} {Γ : gC} {cc : ByteArray} {own : String} {nL : Nat} {R0 : Room} {σ : hS} {kc ks pc : Nat} {ls : gLs} {st : List Value} {z : Int} {v : Int32} (cx : CX l0 Γ cc own nL R0) (hv : (Int16.ofInt z).toInt32 = v) (d : decode cc pc = .ok ((.sipush z), 3)) (k : G Γ σ kc ks (pc + 3) ls (.int v :: st)) : G Γ σ kc ks pc ls (st) := by
  obtain ⟨p, l, e, R, s, m, args, below, meth, c, A, D, dA, Q⟩ := Γ
  obtain ⟨hx, hb, hml, hown, hts, hK, hAA, hlk, hl0, hR0, hZ, hE⟩ := cx
  intro H locs la hP hA hS hL
  exact lv_sipush hx hb d hv (k H locs la hP hA hS hL)

theorem g_lconst {l0 : Launch} {Γ : gC} {cc : ByteArray} {own : String} {nL : Nat} {R0 : Room} {σ : hS} {kc ks pc : Nat} {ls : gLs} {st : List Value} {z : Fin 2} {v : Int64} (cx : CX l0 Γ cc own nL R0) (hv : Int64.ofNat z = v) (d : decode cc pc = .ok ((.lconst z), 1)) (k : G Γ σ kc ks (pc + 1) ls (.long v :: st)) : G Γ σ kc ks pc ls (st) := by
  obtain ⟨p, l, e, R, s, m, args, below, meth, c, A, D, dA, Q⟩ := Γ
  obtain ⟨hx, hb, hml, hown, hts, hK, hAA, hlk, hl0, hR0, hZ, hE⟩ := cx
  intro H locs la hP hA hS hL
  exact lv_lconst hx hb d hv (k H locs la hP hA hS hL)

theorem g_null {l0 : Launch} {Γ : gC} {cc : ByteArray} {own : String} {nL : Nat} {R0 : Room} {σ : hS} {kc ks pc : Nat} {ls : gLs} {st : List Value} (cx : CX l0 Γ cc own nL R0) (d : decode cc pc = .ok (.aconst_null, 1)) (k : G Γ σ kc ks (pc + 1) ls (.null :: st)) : G Γ σ kc ks pc ls (st) := by
  obtain ⟨p, l, e, R, s, m, args, below, meth, c, A, D, dA, Q⟩ := Γ
  obtain ⟨hx, hb, hml, hown, hts, hK, hAA, hlk, hl0, hR0, hZ, hE⟩ := cx
  intro H locs la hP hA hS hL
  exact lv_null hx hb d (k H locs la hP hA hS hL)

theorem g_dup {l0 : Launch} {Γ : gC} {cc : ByteArray} {own : String} {nL : Nat} {R0 : Room} {σ : hS} {kc ks pc : Nat} {ls : gLs} {st : List Value} {v : Value} (cx : CX l0 Γ cc own nL R0) (hv : v.category = 1) (d : decode cc pc = .ok (.dup, 1)) (k : G Γ σ kc ks (pc + 1) ls (v :: v :: st)) : G Γ σ kc ks pc ls (v :: st) := by
  obtain ⟨p, l, e, R, s, m, args, below, meth, c, A, D, dA, Q⟩ := Γ
  obtain ⟨hx, hb, hml, hown, hts, hK, hAA, hlk, hl0, hR0, hZ, hE⟩ := cx
  intro H locs la hP hA hS hL
  exact lv_dup hx hb d hv (k H locs la hP hA hS hL)

theorem g_dup2 {l0 : Launch} {Γ : gC} {cc : ByteArray} {own : String} {nL : Nat} {R0 : Room} {σ : hS} {kc ks pc : Nat} {ls : gLs} {st : List Value} {va vb : Value} (cx : CX l0 Γ cc own nL R0) (hva : va.category = 1) (hvb : vb.category = 1) (d : decode cc pc = .ok (.dup2, 1)) (k : G Γ σ kc ks (pc + 1) ls (va :: vb :: va :: vb :: st)) : G Γ σ kc ks pc ls (va :: vb :: st) := by
  obtain ⟨p, l, e, R, s, m, args, below, meth, c, A, D, dA, Q⟩ := Γ
  obtain ⟨hx, hb, hml, hown, hts, hK, hAA, hlk, hl0, hR0, hZ, hE⟩ := cx
  intro H locs la hP hA hS hL
  exact lv_dup2_11 hx hb d hva hvb (k H locs la hP hA hS hL)

theorem g_dup_x1 {l0 : Launch} {Γ : gC} {cc : ByteArray} {own : String} {nL : Nat} {R0 : Room} {σ : hS} {kc ks pc : Nat} {ls : gLs} {st : List Value} {va vb : Value} (cx : CX l0 Γ cc own nL R0) (hva : va.category = 1) (hvb : vb.category = 1) (d : decode cc pc = .ok (.dup_x1, 1)) (k : G Γ σ kc ks (pc + 1) ls (va :: vb :: va :: st)) : G Γ σ kc ks pc ls (va :: vb :: st) := by
  obtain ⟨p, l, e, R, s, m, args, below, meth, c, A, D, dA, Q⟩ := Γ
  obtain ⟨hx, hb, hml, hown, hts, hK, hAA, hlk, hl0, hR0, hZ, hE⟩ := cx
  intro H locs la hP hA hS hL
  exact lv_dup_x1 hx hb d hva hvb (k H locs la hP hA hS hL)

theorem g_i2l {l0 : Launch} {Γ : gC} {cc : ByteArray} {own : String} {nL : Nat} {R0 : Room} {σ : hS} {kc ks pc : Nat} {ls : gLs} {st : List Value} {x : Int32} (cx : CX l0 Γ cc own nL R0) (d : decode cc pc = .ok (.i2l, 1)) (k : G Γ σ kc ks (pc + 1) ls (.long x.toInt64 :: st)) : G Γ σ kc ks pc ls (.int x :: st) := by
  obtain ⟨p, l, e, R, s, m, args, below, meth, c, A, D, dA, Q⟩ := Γ
  obtain ⟨hx, hb, hml, hown, hts, hK, hAA, hlk, hl0, hR0, hZ, hE⟩ := cx
  intro H locs la hP hA hS hL
  exact lv_i2l hx hb d rfl (k H locs la hP hA hS hL)

theorem g_lcmp {l0 : Launch} {Γ : gC} {cc : ByteArray} {own : String} {nL : Nat} {R0 : Room} {σ : hS} {kc ks pc : Nat} {ls : gLs} {st : List Value} {x y : Int64} (cx : CX l0 Γ cc own nL R0) (d : decode cc pc = .ok (.lcmp, 1)) (k : G Γ σ kc ks (pc + 1) ls (.int (lg_cmp x y) :: st)) : G Γ σ kc ks pc ls (.long y :: .long x :: st) := by
  obtain ⟨p, l, e, R, s, m, args, below, meth, c, A, D, dA, Q⟩ := Γ
  obtain ⟨hx, hb, hml, hown, hts, hK, hAA, hlk, hl0, hR0, hZ, hE⟩ := cx
  intro H locs la hP hA hS hL
  exact W.lcmp hx hb d (k H locs la hP hA hS hL)

theorem g_ldc {l0 : Launch} {Γ : gC} {cc : ByteArray} {own : String} {nL : Nat} {R0 : Room} {σ : hS} {kc ks pc : Nat} {ls : gLs} {st : List Value} {i : Nat} {v : Int32} (cx : CX l0 Γ cc own nL R0) (hw : (Cond.constant own i v) ∈ TB) (d : decode cc pc = .ok ((.ldc i), 2)) (k : G Γ σ kc ks (pc + 2) ls (.int v :: st)) : G Γ σ kc ks pc ls (st) := by
  obtain ⟨p, l, e, R, s, m, args, below, meth, c, A, D, dA, Q⟩ := Γ
  obtain ⟨hx, hb, hml, hown, hts, hK, hAA, hlk, hl0, hR0, hZ, hE⟩ := cx
  intro H locs la hP hA hS hL
  exact lv_ldc hx hb hown (hts _ hw) d (k H locs la hP hA hS hL)

theorem g_iload_n {l0 : Launch} {Γ : gC} {cc : ByteArray} {own : String} {nL : Nat} {R0 : Room} {σ : hS} {kc ks pc : Nat} {ls : gLs} {st : List Value} {q : Fin 4} {i : Nat} {x : Int32} (cx : CX l0 Γ cc own nL R0) (hi : (q : Nat) = i) (hl : ls[i]? = some (some (.int x))) (d : decode cc pc = .ok (.iload_n q, 1)) (k : G Γ σ kc ks (pc + 1) ls (.int x :: st)) : G Γ σ kc ks pc ls st := by
  obtain ⟨p, l, e, R, s, m, args, below, meth, c, A, D, dA, Q⟩ := Γ
  obtain ⟨hx, hb, hml, hown, hts, hK, hAA, hlk, hl0, hR0, hZ, hE⟩ := cx
  intro H locs la hP hA hS hL
  exact lv_iload_n hx hb d hi (hL.2.2 _ _ hl).1 (k H locs la hP hA hS hL)

theorem g_iload {l0 : Launch} {Γ : gC} {cc : ByteArray} {own : String} {nL : Nat} {R0 : Room} {σ : hS} {kc ks pc : Nat} {ls : gLs} {st : List Value} {i : Nat} {x : Int32} (cx : CX l0 Γ cc own nL R0) (hl : ls[i]? = some (some (.int x))) (d : decode cc pc = .ok (.iload i, 2)) (k : G Γ σ kc ks (pc + 2) ls (.int x :: st)) : G Γ σ kc ks pc ls st := by
  obtain ⟨p, l, e, R, s, m, args, below, meth, c, A, D, dA, Q⟩ := Γ
  obtain ⟨hx, hb, hml, hown, hts, hK, hAA, hlk, hl0, hR0, hZ, hE⟩ := cx
  intro H locs la hP hA hS hL
  exact lv_iload hx hb d (hL.2.2 _ _ hl).1 (k H locs la hP hA hS hL)

theorem g_aload_n {l0 : Launch} {Γ : gC} {cc : ByteArray} {own : String} {nL : Nat} {R0 : Room} {σ : hS} {kc ks pc : Nat} {ls : gLs} {st : List Value} {q : Fin 4} {i : Nat} {x : Nat} (cx : CX l0 Γ cc own nL R0) (hi : (q : Nat) = i) (hl : ls[i]? = some (some (.ref x))) (d : decode cc pc = .ok (.aload_n q, 1)) (k : G Γ σ kc ks (pc + 1) ls (.ref x :: st)) : G Γ σ kc ks pc ls st := by
  obtain ⟨p, l, e, R, s, m, args, below, meth, c, A, D, dA, Q⟩ := Γ
  obtain ⟨hx, hb, hml, hown, hts, hK, hAA, hlk, hl0, hR0, hZ, hE⟩ := cx
  intro H locs la hP hA hS hL
  exact lv_aload_n hx hb d hi (hL.2.2 _ _ hl).1 (k H locs la hP hA hS hL)

theorem g_aload {l0 : Launch} {Γ : gC} {cc : ByteArray} {own : String} {nL : Nat} {R0 : Room} {σ : hS} {kc ks pc : Nat} {ls : gLs} {st : List Value} {i : Nat} {x : Nat} (cx : CX l0 Γ cc own nL R0) (hl : ls[i]? = some (some (.ref x))) (d : decode cc pc = .ok (.aload i, 2)) (k : G Γ σ kc ks (pc + 2) ls (.ref x :: st)) : G Γ σ kc ks pc ls st := by
  obtain ⟨p, l, e, R, s, m, args, below, meth, c, A, D, dA, Q⟩ := Γ
  obtain ⟨hx, hb, hml, hown, hts, hK, hAA, hlk, hl0, hR0, hZ, hE⟩ := cx
  intro H locs la hP hA hS hL
  exact lv_aload hx hb d (hL.2.2 _ _ hl).1 (k H locs la hP hA hS hL)

theorem g_aload_nN {l0 : Launch} {Γ : gC} {cc : ByteArray} {own : String} {nL : Nat} {R0 : Room} {σ : hS} {kc ks pc : Nat} {ls : gLs} {st : List Value} {q : Fin 4} {i : Nat} (cx : CX l0 Γ cc own nL R0) (hi : (q : Nat) = i) (hl : ls[i]? = some (some .null)) (d : decode cc pc = .ok (.aload_n q, 1)) (k : G Γ σ kc ks (pc + 1) ls (.null :: st)) : G Γ σ kc ks pc ls st := by
  obtain ⟨p, l, e, R, s, m, args, below, meth, c, A, D, dA, Q⟩ := Γ
  obtain ⟨hx, hb, hml, hown, hts, hK, hAA, hlk, hl0, hR0, hZ, hE⟩ := cx
  intro H locs la hP hA hS hL
  exact lv_aload_nN hx hb d hi (hL.2.2 _ _ hl).1 (k H locs la hP hA hS hL)

theorem g_istore_n {l0 : Launch} {Γ : gC} {cc : ByteArray} {own : String} {nL : Nat} {R0 : Room} {σ : hS} {kc ks pc : Nat} {ls : gLs} {st : List Value} {q : Fin 4} {i : Nat} {x : Int32} (cx : CX l0 Γ cc own nL R0) (hi : (q : Nat) = i) (hn : i < ls.length) (d : decode cc pc = .ok (.istore_n q, 1)) (k : G Γ σ kc ks (pc + 1) (ls.set i (some (.int x))) st) : G Γ σ kc ks pc ls (.int x :: st) := by
  obtain ⟨p, l, e, R, s, m, args, below, meth, c, A, D, dA, Q⟩ := Γ
  obtain ⟨hx, hb, hml, hown, hts, hK, hAA, hlk, hl0, hR0, hZ, hE⟩ := cx
  intro H locs la hP hA hS hL
  exact lv_istore_n hx hb d hi hL.has hn rfl (fun la' hl' => k H locs la' hP hA hS (hL.store hn rfl hl'))

theorem g_istore {l0 : Launch} {Γ : gC} {cc : ByteArray} {own : String} {nL : Nat} {R0 : Room} {σ : hS} {kc ks pc : Nat} {ls : gLs} {st : List Value} {i : Nat} {x : Int32} (cx : CX l0 Γ cc own nL R0) (hn : i < ls.length) (d : decode cc pc = .ok (.istore i, 2)) (k : G Γ σ kc ks (pc + 2) (ls.set i (some (.int x))) st) : G Γ σ kc ks pc ls (.int x :: st) := by
  obtain ⟨p, l, e, R, s, m, args, below, meth, c, A, D, dA, Q⟩ := Γ
  obtain ⟨hx, hb, hml, hown, hts, hK, hAA, hlk, hl0, hR0, hZ, hE⟩ := cx
  intro H locs la hP hA hS hL
  exact lv_istore hx hb d hL.has hn rfl (fun la' hl' => k H locs la' hP hA hS (hL.store hn rfl hl'))

theorem g_astore_n {l0 : Launch} {Γ : gC} {cc : ByteArray} {own : String} {nL : Nat} {R0 : Room} {σ : hS} {kc ks pc : Nat} {ls : gLs} {st : List Value} {q : Fin 4} {i : Nat} {x : Nat} (cx : CX l0 Γ cc own nL R0) (hi : (q : Nat) = i) (hn : i < ls.length) (d : decode cc pc = .ok (.astore_n q, 1)) (k : G Γ σ kc ks (pc + 1) (ls.set i (some (.ref x))) st) : G Γ σ kc ks pc ls (.ref x :: st) := by
  obtain ⟨p, l, e, R, s, m, args, below, meth, c, A, D, dA, Q⟩ := Γ
  obtain ⟨hx, hb, hml, hown, hts, hK, hAA, hlk, hl0, hR0, hZ, hE⟩ := cx
  intro H locs la hP hA hS hL
  exact lv_astore_n hx hb d hi hL.has hn rfl (fun la' hl' => k H locs la' hP hA hS (hL.store hn rfl hl'))

theorem g_astore {l0 : Launch} {Γ : gC} {cc : ByteArray} {own : String} {nL : Nat} {R0 : Room} {σ : hS} {kc ks pc : Nat} {ls : gLs} {st : List Value} {i : Nat} {x : Nat} (cx : CX l0 Γ cc own nL R0) (hn : i < ls.length) (d : decode cc pc = .ok (.astore i, 2)) (k : G Γ σ kc ks (pc + 2) (ls.set i (some (.ref x))) st) : G Γ σ kc ks pc ls (.ref x :: st) := by
  obtain ⟨p, l, e, R, s, m, args, below, meth, c, A, D, dA, Q⟩ := Γ
  obtain ⟨hx, hb, hml, hown, hts, hK, hAA, hlk, hl0, hR0, hZ, hE⟩ := cx
  intro H locs la hP hA hS hL
  exact lv_astore hx hb d hL.has hn rfl (fun la' hl' => k H locs la' hP hA hS (hL.store hn rfl hl'))

theorem g_astore_nN {l0 : Launch} {Γ : gC} {cc : ByteArray} {own : String} {nL : Nat} {R0 : Room} {σ : hS} {kc ks pc : Nat} {ls : gLs} {st : List Value} {q : Fin 4} {i : Nat} (cx : CX l0 Γ cc own nL R0) (hi : (q : Nat) = i) (hn : i < ls.length) (d : decode cc pc = .ok (.astore_n q, 1)) (k : G Γ σ kc ks (pc + 1) (ls.set i (some (.null))) st) : G Γ σ kc ks pc ls (.null :: st) := by
  obtain ⟨p, l, e, R, s, m, args, below, meth, c, A, D, dA, Q⟩ := Γ
  obtain ⟨hx, hb, hml, hown, hts, hK, hAA, hlk, hl0, hR0, hZ, hE⟩ := cx
  intro H locs la hP hA hS hL
  exact lv_astore_nN hx hb d hi hL.has hn rfl (fun la' hl' => k H locs la' hP hA hS (hL.store hn rfl hl'))

theorem g_iinc {l0 : Launch} {Γ : gC} {cc : ByteArray} {own : String} {nL : Nat} {R0 : Room} {σ : hS} {kc ks pc : Nat} {ls : gLs} {st : List Value} {i : Nat} {z : Int} {x v : Int32} (cx : CX l0 Γ cc own nL R0) (hl : ls[i]? = some (some (.int x))) (hv : x + Int32.ofInt z = v) (d : decode cc pc = .ok (.iinc i z, 3)) (k : G Γ σ kc ks (pc + 3) (ls.set i (some (.int v))) st) : G Γ σ kc ks pc ls st := by
  obtain ⟨p, l, e, R, s, m, args, below, meth, c, A, D, dA, Q⟩ := Γ
  obtain ⟨hx, hb, hml, hown, hts, hK, hAA, hlk, hl0, hR0, hZ, hE⟩ := cx
  intro H locs la hP hA hS hL
  have hn : i < ls.length := (List.getElem?_eq_some_iff.mp hl).1
  obtain ⟨j, hj⟩ := List.getElem?_of_mem (gps_mem.mpr hl)
  exact lv_iinc hx hb d hL.has (k := j) hj hv hn rfl (fun la' hl' => k H locs la' hP hA hS (hL.store hn rfl hl'))

theorem g_if_eq {l0 : Launch} {Γ : gC} {cc : ByteArray} {own : String} {nL : Nat} {R0 : Room} {σ : hS} {kc ks pc : Nat} {ls : gLs} {st : List Value} {x : Int32} {off : Int} {tgt : Nat} (cx : CX l0 Γ cc own nL R0) (ht : (pc : Int) + off = (tgt : Int)) (d : decode cc pc = .ok (.ifCond .eq off, 3)) (k1 : x = 0 → G Γ σ kc ks tgt ls st) (k2 : ¬ x = 0 → G Γ σ kc ks (pc + 3) ls st) : G Γ σ kc ks pc ls (.int x :: st) := by
  obtain ⟨p, l, e, R, s, m, args, below, meth, c, A, D, dA, Q⟩ := Γ
  obtain ⟨hx, hb, hml, hown, hts, hK, hAA, hlk, hl0, hR0, hZ, hE⟩ := cx
  intro H locs la hP hA hS hL
  exact lv_if_eq hx hb d ht (fun q => k1 (by first | exact q | simpa using q) H locs la hP hA hS hL) (fun q => k2 (by first | exact q | simpa using q) H locs la hP hA hS hL)

theorem g_if_ne {l0 : Launch} {Γ : gC} {cc : ByteArray} {own : String} {nL : Nat} {R0 : Room} {σ : hS} {kc ks pc : Nat} {ls : gLs} {st : List Value} {x : Int32} {off : Int} {tgt : Nat} (cx : CX l0 Γ cc own nL R0) (ht : (pc : Int) + off = (tgt : Int)) (d : decode cc pc = .ok (.ifCond .ne off, 3)) (k1 : ¬ x = 0 → G Γ σ kc ks tgt ls st) (k2 : x = 0 → G Γ σ kc ks (pc + 3) ls st) : G Γ σ kc ks pc ls (.int x :: st) := by
  obtain ⟨p, l, e, R, s, m, args, below, meth, c, A, D, dA, Q⟩ := Γ
  obtain ⟨hx, hb, hml, hown, hts, hK, hAA, hlk, hl0, hR0, hZ, hE⟩ := cx
  intro H locs la hP hA hS hL
  exact lv_if_ne hx hb d ht (fun q => k1 (by first | exact q | simpa using q) H locs la hP hA hS hL) (fun q => k2 (by first | exact q | simpa using q) H locs la hP hA hS hL)

theorem g_if_lt {l0 : Launch} {Γ : gC} {cc : ByteArray} {own : String} {nL : Nat} {R0 : Room} {σ : hS} {kc ks pc : Nat} {ls : gLs} {st : List Value} {x : Int32} {off : Int} {tgt : Nat} (cx : CX l0 Γ cc own nL R0) (ht : (pc : Int) + off = (tgt : Int)) (d : decode cc pc = .ok (.ifCond .lt off, 3)) (k1 : x < 0 → G Γ σ kc ks tgt ls st) (k2 : ¬ x < 0 → G Γ σ kc ks (pc + 3) ls st) : G Γ σ kc ks pc ls (.int x :: st) := by
  obtain ⟨p, l, e, R, s, m, args, below, meth, c, A, D, dA, Q⟩ := Γ
  obtain ⟨hx, hb, hml, hown, hts, hK, hAA, hlk, hl0, hR0, hZ, hE⟩ := cx
  intro H locs la hP hA hS hL
  exact lv_if_lt hx hb d ht (fun q => k1 (by first | exact q | simpa using q) H locs la hP hA hS hL) (fun q => k2 (by first | exact q | simpa using q) H locs la hP hA hS hL)

theorem g_if_ge {l0 : Launch} {Γ : gC} {cc : ByteArray} {own : String} {nL : Nat} {R0 : Room} {σ : hS} {kc ks pc : Nat} {ls : gLs} {st : List Value} {x : Int32} {off : Int} {tgt : Nat} (cx : CX l0 Γ cc own nL R0) (ht : (pc : Int) + off = (tgt : Int)) (d : decode cc pc = .ok (.ifCond .ge off, 3)) (k1 : 0 ≤ x → G Γ σ kc ks tgt ls st) (k2 : ¬ 0 ≤ x → G Γ σ kc ks (pc + 3) ls st) : G Γ σ kc ks pc ls (.int x :: st) := by
  obtain ⟨p, l, e, R, s, m, args, below, meth, c, A, D, dA, Q⟩ := Γ
  obtain ⟨hx, hb, hml, hown, hts, hK, hAA, hlk, hl0, hR0, hZ, hE⟩ := cx
  intro H locs la hP hA hS hL
  exact lv_if_ge hx hb d ht (fun q => k1 (by first | exact q | simpa using q) H locs la hP hA hS hL) (fun q => k2 (by first | exact q | simpa using q) H locs la hP hA hS hL)

theorem g_if_gt {l0 : Launch} {Γ : gC} {cc : ByteArray} {own : String} {nL : Nat} {R0 : Room} {σ : hS} {kc ks pc : Nat} {ls : gLs} {st : List Value} {x : Int32} {off : Int} {tgt : Nat} (cx : CX l0 Γ cc own nL R0) (ht : (pc : Int) + off = (tgt : Int)) (d : decode cc pc = .ok (.ifCond .gt off, 3)) (k1 : 0 < x → G Γ σ kc ks tgt ls st) (k2 : ¬ 0 < x → G Γ σ kc ks (pc + 3) ls st) : G Γ σ kc ks pc ls (.int x :: st) := by
  obtain ⟨p, l, e, R, s, m, args, below, meth, c, A, D, dA, Q⟩ := Γ
  obtain ⟨hx, hb, hml, hown, hts, hK, hAA, hlk, hl0, hR0, hZ, hE⟩ := cx
  intro H locs la hP hA hS hL
  exact lv_if_gt hx hb d ht (fun q => k1 (by first | exact q | simpa using q) H locs la hP hA hS hL) (fun q => k2 (by first | exact q | simpa using q) H locs la hP hA hS hL)

theorem g_if_le {l0 : Launch} {Γ : gC} {cc : ByteArray} {own : String} {nL : Nat} {R0 : Room} {σ : hS} {kc ks pc : Nat} {ls : gLs} {st : List Value} {x : Int32} {off : Int} {tgt : Nat} (cx : CX l0 Γ cc own nL R0) (ht : (pc : Int) + off = (tgt : Int)) (d : decode cc pc = .ok (.ifCond .le off, 3)) (k1 : x ≤ 0 → G Γ σ kc ks tgt ls st) (k2 : ¬ x ≤ 0 → G Γ σ kc ks (pc + 3) ls st) : G Γ σ kc ks pc ls (.int x :: st) := by
  obtain ⟨p, l, e, R, s, m, args, below, meth, c, A, D, dA, Q⟩ := Γ
  obtain ⟨hx, hb, hml, hown, hts, hK, hAA, hlk, hl0, hR0, hZ, hE⟩ := cx
  intro H locs la hP hA hS hL
  exact lv_if_le hx hb d ht (fun q => k1 (by first | exact q | simpa using q) H locs la hP hA hS hL) (fun q => k2 (by first | exact q | simpa using q) H locs la hP hA hS hL)

theorem g_icmp_eq {l0 : Launch} {Γ : gC} {cc : ByteArray} {own : String} {nL : Nat} {R0 : Room} {σ : hS} {kc ks pc : Nat} {ls : gLs} {st : List Value} {x y : Int32} {off : Int} {tgt : Nat} (cx : CX l0 Γ cc own nL R0) (ht : (pc : Int) + off = (tgt : Int)) (d : decode cc pc = .ok (.if_icmp .eq off, 3)) (k1 : x = y → G Γ σ kc ks tgt ls st) (k2 : ¬ x = y → G Γ σ kc ks (pc + 3) ls st) : G Γ σ kc ks pc ls (.int y :: .int x :: st) := by
  obtain ⟨p, l, e, R, s, m, args, below, meth, c, A, D, dA, Q⟩ := Γ
  obtain ⟨hx, hb, hml, hown, hts, hK, hAA, hlk, hl0, hR0, hZ, hE⟩ := cx
  intro H locs la hP hA hS hL
  exact lv_icmp_eq hx hb d ht (fun q => k1 (by first | exact q | simpa using q) H locs la hP hA hS hL) (fun q => k2 (by first | exact q | simpa using q) H locs la hP hA hS hL)

theorem g_icmp_ne {l0 : Launch} {Γ : gC} {cc : ByteArray} {own : String} {nL : Nat} {R0 : Room} {σ : hS} {kc ks pc : Nat} {ls : gLs} {st : List Value} {x y : Int32} {off : Int} {tgt : Nat} (cx : CX l0 Γ cc own nL R0) (ht : (pc : Int) + off = (tgt : Int)) (d : decode cc pc = .ok (.if_icmp .ne off, 3)) (k1 : ¬ x = y → G Γ σ kc ks tgt ls st) (k2 : x = y → G Γ σ kc ks (pc + 3) ls st) : G Γ σ kc ks pc ls (.int y :: .int x :: st) := by
  obtain ⟨p, l, e, R, s, m, args, below, meth, c, A, D, dA, Q⟩ := Γ
  obtain ⟨hx, hb, hml, hown, hts, hK, hAA, hlk, hl0, hR0, hZ, hE⟩ := cx
  intro H locs la hP hA hS hL
  exact lv_icmp_ne hx hb d ht (fun q => k1 (by first | exact q | simpa using q) H locs la hP hA hS hL) (fun q => k2 (by first | exact q | simpa using q) H locs la hP hA hS hL)

theorem g_icmp_lt {l0 : Launch} {Γ : gC} {cc : ByteArray} {own : String} {nL : Nat} {R0 : Room} {σ : hS} {kc ks pc : Nat} {ls : gLs} {st : List Value} {x y : Int32} {off : Int} {tgt : Nat} (cx : CX l0 Γ cc own nL R0) (ht : (pc : Int) + off = (tgt : Int)) (d : decode cc pc = .ok (.if_icmp .lt off, 3)) (k1 : x < y → G Γ σ kc ks tgt ls st) (k2 : ¬ x < y → G Γ σ kc ks (pc + 3) ls st) : G Γ σ kc ks pc ls (.int y :: .int x :: st) := by
  obtain ⟨p, l, e, R, s, m, args, below, meth, c, A, D, dA, Q⟩ := Γ
  obtain ⟨hx, hb, hml, hown, hts, hK, hAA, hlk, hl0, hR0, hZ, hE⟩ := cx
  intro H locs la hP hA hS hL
  exact lv_icmp_lt hx hb d ht (fun q => k1 (by first | exact q | simpa using q) H locs la hP hA hS hL) (fun q => k2 (by first | exact q | simpa using q) H locs la hP hA hS hL)

theorem g_icmp_ge {l0 : Launch} {Γ : gC} {cc : ByteArray} {own : String} {nL : Nat} {R0 : Room} {σ : hS} {kc ks pc : Nat} {ls : gLs} {st : List Value} {x y : Int32} {off : Int} {tgt : Nat} (cx : CX l0 Γ cc own nL R0) (ht : (pc : Int) + off = (tgt : Int)) (d : decode cc pc = .ok (.if_icmp .ge off, 3)) (k1 : y ≤ x → G Γ σ kc ks tgt ls st) (k2 : ¬ y ≤ x → G Γ σ kc ks (pc + 3) ls st) : G Γ σ kc ks pc ls (.int y :: .int x :: st) := by
  obtain ⟨p, l, e, R, s, m, args, below, meth, c, A, D, dA, Q⟩ := Γ
  obtain ⟨hx, hb, hml, hown, hts, hK, hAA, hlk, hl0, hR0, hZ, hE⟩ := cx
  intro H locs la hP hA hS hL
  exact lv_icmp_ge hx hb d ht (fun q => k1 (by first | exact q | simpa using q) H locs la hP hA hS hL) (fun q => k2 (by first | exact q | simpa using q) H locs la hP hA hS hL)

theorem g_icmp_gt {l0 : Launch} {Γ : gC} {cc : ByteArray} {own : String} {nL : Nat} {R0 : Room} {σ : hS} {kc ks pc : Nat} {ls : gLs} {st : List Value} {x y : Int32} {off : Int} {tgt : Nat} (cx : CX l0 Γ cc own nL R0) (ht : (pc : Int) + off = (tgt : Int)) (d : decode cc pc = .ok (.if_icmp .gt off, 3)) (k1 : y < x → G Γ σ kc ks tgt ls st) (k2 : ¬ y < x → G Γ σ kc ks (pc + 3) ls st) : G Γ σ kc ks pc ls (.int y :: .int x :: st) := by
  obtain ⟨p, l, e, R, s, m, args, below, meth, c, A, D, dA, Q⟩ := Γ
  obtain ⟨hx, hb, hml, hown, hts, hK, hAA, hlk, hl0, hR0, hZ, hE⟩ := cx
  intro H locs la hP hA hS hL
  exact lv_icmp_gt hx hb d ht (fun q => k1 (by first | exact q | simpa using q) H locs la hP hA hS hL) (fun q => k2 (by first | exact q | simpa using q) H locs la hP hA hS hL)

theorem g_icmp_le {l0 : Launch} {Γ : gC} {cc : ByteArray} {own : String} {nL : Nat} {R0 : Room} {σ : hS} {kc ks pc : Nat} {ls : gLs} {st : List Value} {x y : Int32} {off : Int} {tgt : Nat} (cx : CX l0 Γ cc own nL R0) (ht : (pc : Int) + off = (tgt : Int)) (d : decode cc pc = .ok (.if_icmp .le off, 3)) (k1 : x ≤ y → G Γ σ kc ks tgt ls st) (k2 : ¬ x ≤ y → G Γ σ kc ks (pc + 3) ls st) : G Γ σ kc ks pc ls (.int y :: .int x :: st) := by
  obtain ⟨p, l, e, R, s, m, args, below, meth, c, A, D, dA, Q⟩ := Γ
  obtain ⟨hx, hb, hml, hown, hts, hK, hAA, hlk, hl0, hR0, hZ, hE⟩ := cx
  intro H locs la hP hA hS hL
  exact lv_icmp_le hx hb d ht (fun q => k1 (by first | exact q | simpa using q) H locs la hP hA hS hL) (fun q => k2 (by first | exact q | simpa using q) H locs la hP hA hS hL)

theorem g_goto {l0 : Launch} {Γ : gC} {cc : ByteArray} {own : String} {nL : Nat} {R0 : Room} {σ : hS} {kc ks pc : Nat} {ls : gLs} {st : List Value} {off : Int} {tgt : Nat} (cx : CX l0 Γ cc own nL R0) (ht : (pc : Int) + off = (tgt : Int)) (d : decode cc pc = .ok (.goto off, 3)) (k : G Γ σ kc ks tgt ls st) : G Γ σ kc ks pc ls st := by
  obtain ⟨p, l, e, R, s, m, args, below, meth, c, A, D, dA, Q⟩ := Γ
  obtain ⟨hx, hb, hml, hown, hts, hK, hAA, hlk, hl0, hR0, hZ, hE⟩ := cx
  intro H locs la hP hA hS hL
  exact lv_goto hx hb d ht (k H locs la hP hA hS hL)

theorem g_ifnull {l0 : Launch} {Γ : gC} {cc : ByteArray} {own : String} {nL : Nat} {R0 : Room} {σ : hS} {kc ks pc : Nat} {ls : gLs} {st : List Value} {x : Nat} {off : Int} (cx : CX l0 Γ cc own nL R0) (d : decode cc pc = .ok (.ifnull off, 3)) (k : G Γ σ kc ks (pc + 3) ls st) : G Γ σ kc ks pc ls (.ref x :: st) := by
  obtain ⟨p, l, e, R, s, m, args, below, meth, c, A, D, dA, Q⟩ := Γ
  obtain ⟨hx, hb, hml, hown, hts, hK, hAA, hlk, hl0, hR0, hZ, hE⟩ := cx
  intro H locs la hP hA hS hL
  exact lv_ifnull hx hb d (k H locs la hP hA hS hL)

theorem g_ifnullN {l0 : Launch} {Γ : gC} {cc : ByteArray} {own : String} {nL : Nat} {R0 : Room} {σ : hS} {kc ks pc : Nat} {ls : gLs} {st : List Value} {off : Int} {tgt : Nat} (cx : CX l0 Γ cc own nL R0) (ht : (pc : Int) + off = (tgt : Int)) (d : decode cc pc = .ok (.ifnull off, 3)) (k : G Γ σ kc ks tgt ls st) : G Γ σ kc ks pc ls (.null :: st) := by
  obtain ⟨p, l, e, R, s, m, args, below, meth, c, A, D, dA, Q⟩ := Γ
  obtain ⟨hx, hb, hml, hown, hts, hK, hAA, hlk, hl0, hR0, hZ, hE⟩ := cx
  intro H locs la hP hA hS hL
  exact lv_ifnullN hx hb d ht (k H locs la hP hA hS hL)

theorem g_ifnonnull {l0 : Launch} {Γ : gC} {cc : ByteArray} {own : String} {nL : Nat} {R0 : Room} {σ : hS} {kc ks pc : Nat} {ls : gLs} {st : List Value} {x : Nat} {off : Int} {tgt : Nat} (cx : CX l0 Γ cc own nL R0) (ht : (pc : Int) + off = (tgt : Int)) (d : decode cc pc = .ok (.ifnonnull off, 3)) (k : G Γ σ kc ks tgt ls st) : G Γ σ kc ks pc ls (.ref x :: st) := by
  obtain ⟨p, l, e, R, s, m, args, below, meth, c, A, D, dA, Q⟩ := Γ
  obtain ⟨hx, hb, hml, hown, hts, hK, hAA, hlk, hl0, hR0, hZ, hE⟩ := cx
  intro H locs la hP hA hS hL
  exact lv_ifnonnull hx hb d ht (k H locs la hP hA hS hL)

theorem g_ifnonnullN {l0 : Launch} {Γ : gC} {cc : ByteArray} {own : String} {nL : Nat} {R0 : Room} {σ : hS} {kc ks pc : Nat} {ls : gLs} {st : List Value} {off : Int} (cx : CX l0 Γ cc own nL R0) (d : decode cc pc = .ok (.ifnonnull off, 3)) (k : G Γ σ kc ks (pc + 3) ls st) : G Γ σ kc ks pc ls (.null :: st) := by
  obtain ⟨p, l, e, R, s, m, args, below, meth, c, A, D, dA, Q⟩ := Γ
  obtain ⟨hx, hb, hml, hown, hts, hK, hAA, hlk, hl0, hR0, hZ, hE⟩ := cx
  intro H locs la hP hA hS hL
  exact lv_ifnonnullN hx hb d (k H locs la hP hA hS hL)

theorem g_ireturn {l0 : Launch} {Γ : gC} {cc : ByteArray} {own : String} {nL : Nat} {R0 : Room} {σ : hS} {kc ks pc : Nat} {ls : gLs} {x : Int32} {rm : Room} {Post : Option Value → hS → Prop} {PX : String → hS → Prop} (cx : CX l0 Γ cc own nL R0) (rx : RX Γ (some .int) rm Post PX) (hk : kc ≤ rm.cells) (hs : ks ≤ rm.slots) (d : decode cc pc = .ok (.ireturn, 1)) (hp : Post (some (.int x)) σ) : G Γ σ kc ks pc ls [.int x] := by
  obtain ⟨p, l, e, R, s, m, args, below, meth, c, A, D, dA, Q⟩ := Γ
  obtain ⟨hx, hb, hml, hown, hts, hK, hAA, hlk, hl0, hR0, hZ, hE⟩ := cx
  obtain ⟨hr, σ0, sz, rfl, rfl⟩ := rx
  intro H locs la hP hA hS hL
  exact W.widen hk hs (vx_ret (W.iret hx hb hr (fun t ht _ => ⟨_, σ, rfl, hp, by rw [ht]; exact hP, hA, hS.F ht⟩) (fun z hz => hS.2.2 z hz) d (hlocks := hlk)))

theorem g_zreturn {l0 : Launch} {Γ : gC} {cc : ByteArray} {own : String} {nL : Nat} {R0 : Room} {σ : hS} {kc ks pc : Nat} {ls : gLs} {x : Int32} {rm : Room} {Post : Option Value → hS → Prop} {PX : String → hS → Prop} (cx : CX l0 Γ cc own nL R0) (rx : RX Γ (some .boolean) rm Post PX) (hk : kc ≤ rm.cells) (hs : ks ≤ rm.slots) (hnz : narrow .boolean (.int x) = .int x) (d : decode cc pc = .ok (.ireturn, 1)) (hp : Post (some (.int x)) σ) : G Γ σ kc ks pc ls [.int x] := by
  obtain ⟨p, l, e, R, s, m, args, below, meth, c, A, D, dA, Q⟩ := Γ
  obtain ⟨hx, hb, hml, hown, hts, hK, hAA, hlk, hl0, hR0, hZ, hE⟩ := cx
  obtain ⟨hr, σ0, sz, rfl, rfl⟩ := rx
  intro H locs la hP hA hS hL
  exact W.widen hk hs (vx_ret (W.zret hx hb hr hnz (fun t ht _ => ⟨_, σ, rfl, hp, by rw [ht]; exact hP, hA, hS.F ht⟩) (fun z hz => hS.2.2 z hz) d (hlocks := hlk)))

theorem g_return {l0 : Launch} {Γ : gC} {cc : ByteArray} {own : String} {nL : Nat} {R0 : Room} {σ : hS} {kc ks pc : Nat} {ls : gLs} {rm : Room} {Post : Option Value → hS → Prop} {PX : String → hS → Prop} (cx : CX l0 Γ cc own nL R0) (rx : RX Γ none rm Post PX) (hk : kc ≤ rm.cells) (hs : ks ≤ rm.slots) (d : decode cc pc = .ok (.return_, 1)) (hp : Post none σ) : G Γ σ kc ks pc ls [] := by
  obtain ⟨p, l, e, R, s, m, args, below, meth, c, A, D, dA, Q⟩ := Γ
  obtain ⟨hx, hb, hml, hown, hts, hK, hAA, hlk, hl0, hR0, hZ, hE⟩ := cx
  obtain ⟨hr, σ0, sz, rfl, rfl⟩ := rx
  intro H locs la hP hA hS hL
  exact W.widen hk hs (vx_ret (W.vret hx hb hr (fun t ht _ => ⟨_, σ, rfl, hp, by rw [ht]; exact hP, hA, hS.F ht⟩) (fun z hz => hS.2.2 z hz) d (hlocks := hlk)))

theorem g_areturn {l0 : Launch} {Γ : gC} {cc : ByteArray} {own : String} {nL : Nat} {R0 : Room} {σ : hS} {kc ks pc : Nat} {ls : gLs} {x : Nat} {rt : FieldType} {rm : Room} {Post : Option Value → hS → Prop} {PX : String → hS → Prop} (cx : CX l0 Γ cc own nL R0) (rx : RX Γ (some rt) rm Post PX) (hk : kc ≤ rm.cells) (hs : ks ≤ rm.slots) (hrt : (∃ n, rt = .object n) ∨ ∃ t, rt = .array t) (d : decode cc pc = .ok (.areturn, 1)) (hp : Post (some (.ref x)) σ) : G Γ σ kc ks pc ls [.ref x] := by
  obtain ⟨p, l, e, R, s, m, args, below, meth, c, A, D, dA, Q⟩ := Γ
  obtain ⟨hx, hb, hml, hown, hts, hK, hAA, hlk, hl0, hR0, hZ, hE⟩ := cx
  obtain ⟨hr, σ0, sz, rfl, rfl⟩ := rx
  intro H locs la hP hA hS hL
  exact W.widen hk hs (vx_ret (W.aret hx hb hr hrt (Or.inr ⟨_, rfl⟩) (fun t ht _ => ⟨_, σ, rfl, hp, by rw [ht]; exact hP, hA, hS.F ht⟩) (fun z hz => hS.2.2 z hz) d (hlocks := hlk)))

def gFt (ci k : Nat) : FieldType := gty ci k
def gFin (ci k : Nat) : Bool := match gcl[ci]? with
  | some r => (r.2.1 k).2.2.2
  | none => false
theorem g_getf {l0 : Launch} {Γ : gC} {cc : ByteArray} {own : String} {nL : Nat} {R0 : Room} {σ : hS} {kc ks pc : Nat} {ls : gLs} {st : List Value} {idx ci k a : Nat} {fs : List Value} {v : Value} (cx : CX l0 Γ cc own nL R0) (hf : gF own idx ci k) (hσ : σ a = some (.inr (ci, fs))) (hv : fs[k]? = some v) (d : decode cc pc = .ok (.getfield idx, 3)) (kk : G Γ σ kc ks (pc + 3) ls (v :: st)) : G Γ σ kc ks pc ls (.ref a :: st) := by
  obtain ⟨p, l, e, R, s, m, args, below, meth, c, A, D, dA, Q⟩ := Γ
  obtain ⟨hx, hb, hml, hown, hts, hK, hAA, hlk, hl0, hR0, hZ, hE⟩ := cx
  intro H locs la hP hA hS hL
  obtain ⟨⟨C, T, N⟩, hr, hk, hw⟩ := hf
  obtain ⟨h1, h2, h3⟩ := gOk_all ci _ hr
  exact va_get hx hb hts h1 hown hK (hP.one hσ) 0 rfl hr k hk (hts _ hw) (fun _ h => h) hv d (kk H locs la hP hA hS hL)

theorem g_putf {l0 : Launch} {Γ : gC} {cc : ByteArray} {own : String} {nL : Nat} {R0 : Room} {σ : hS} {kc ks pc : Nat} {ls : gLs} {st : List Value} {idx ci k a : Nat} {fs : List Value} {v : Value} (cx : CX l0 Γ cc own nL R0) (hf : gF own idx ci k) (hfin : gFin ci k = false) (hσ : σ a = some (.inr (ci, fs))) (hl : k < fs.length) (hn : narrow (gty ci k) v = v) (hfit : fits (gty ci k) v = true) (d : decode cc pc = .ok (.putfield idx, 3)) (kk : G Γ (hup σ a (.inr (ci, fs.set k v))) kc ks (pc + 3) ls st) : G Γ σ kc ks pc ls (v :: .ref a :: st) := by
  obtain ⟨p, l, e, R, s, m, args, below, meth, c, A, D, dA, Q⟩ := Γ
  obtain ⟨hx, hb, hml, hown, hts, hK, hAA, hlk, hl0, hR0, hZ, hE⟩ := cx
  intro H locs la hP hA hS hL
  obtain ⟨⟨C, T, N⟩, hr, hk, hw⟩ := hf
  obtain ⟨h1, h2, h3⟩ := gOk_all ci _ hr
  have hfin' : (T k).2.2.2 = false := by
    unfold gFin at hfin
    rw [hr] at hfin
    exact hfin
  have hap := va_apart (own := own) hts h1 (gty ci) h2 h3 hK hr
  obtain ⟨r, g1, cell, q1, q2, q3, q4⟩ := hP a _ hσ
  have hre : r = (C, T, N) := Option.some.inj (g1.symm.trans hr)
  subst hre
  obtain ⟨hSl, hfc, kC, hkC, hkind⟩ := hK.1 ci _ hr
  obtain ⟨cf, kf, fi, f, hi, hsl⟩ := hSl k hk
  have hlay := hts _ (h1 _ (u_in_lay hk))
  unfold u_lay at hlay
  rw [if_neg (by rw [hfin']; decide)] at hlay
  have hst := (u_facts hfc hkC (u_lays hts h1 hk) hi).1
  have h6 := u_store hfc hkC hkind hlay hi (h2 k hk) hn hfit
  refine W.putK hx hb (f := f) ⟨hown, hts _ hw, ⟨_, _, _, hi⟩, hst⟩ (by rw [q2]; exact h6) q1 q3 (by rw [hsl]; exact k2_hasslot (q4 k hk)) rfl rfl d fun H' e1 e2 e3 => ?_
  rw [hsl] at e1 ⊢
  refine kk H' _ la (hP.put ⟨_, hr, t_OB.to (V := updV (vp_V fs) k v) ⟨_, e1, q2, q3, t_set q4 hap hk v⟩ (fun j _ => vp_updV_set hl v j)⟩ e3) (fun b e' hb' => ?_) (hS.put e2 e3 (hA a _ hσ)) hL
  by_cases hba : b = a
  · subst hba; exact hA b _ hσ
  · rw [hup_n hba] at hb'; exact hA b _ hb'

def gIni (Γ : gC) : Prop := Γ.2.2.2.2.2.2.2.2.1.name = "<init>"

theorem g_putF {l0 : Launch} {Γ : gC} {cc : ByteArray} {own : String} {nL : Nat} {R0 : Room} {σ : hS} {kc ks pc : Nat} {ls : gLs} {st : List Value} {idx ci k a : Nat} {fs : List Value} {v : Value} (cx : CX l0 Γ cc own nL R0) (hini : gIni Γ) (hdc : ∃ r, gcl[ci]? = some r ∧ (r.2.1 k).1 = own) (hf : gF own idx ci k) (hfin : gFin ci k = true) (hσ : σ a = some (.inr (ci, fs))) (hl : k < fs.length) (hn : narrow (gty ci k) v = v) (hfit : fits (gty ci k) v = true) (d : decode cc pc = .ok (.putfield idx, 3)) (kk : G Γ (hup σ a (.inr (ci, fs.set k v))) kc ks (pc + 3) ls st) : G Γ σ kc ks pc ls (v :: .ref a :: st) := by
  obtain ⟨p, l, e, R, s, m, args, below, meth, c, A, D, dA, Q⟩ := Γ
  obtain ⟨hx, hb, hml, hown, hts, hK, hAA, hlk, hl0, hR0, hZ, hE⟩ := cx
  intro H locs la hP hA hS hL
  obtain ⟨⟨C, T, N⟩, hr, hk, hw⟩ := hf
  obtain ⟨h1, h2, h3⟩ := gOk_all ci _ hr
  have hfin' : (T k).2.2.2 = true := by
    unfold gFin at hfin
    rw [hr] at hfin
    exact hfin
  have hap := va_apart (own := own) hts h1 (gty ci) h2 h3 hK hr
  obtain ⟨r, g1, cell, q1, q2, q3, q4⟩ := hP a _ hσ
  have hre : r = (C, T, N) := Option.some.inj (g1.symm.trans hr)
  subst hre
  obtain ⟨hSl, hfc, kC, hkC, hkind⟩ := hK.1 ci _ hr
  obtain ⟨cf, kf, fi, f, hi, hsl⟩ := hSl k hk
  have hlay := hts _ (h1 _ (u_in_lay hk))
  unfold u_lay at hlay
  rw [if_pos hfin'] at hlay
  have hst := (u_facts hfc hkC (u_lays hts h1 hk) hi).1
  have hcf : m.cls = cf := by
    obtain ⟨_, _, c', _, _, _, -, -, hf', -, -, -, hown2, -⟩ := Cond.laysFinal_spec hlay
    have e1 : c' = cf := by have := hi.symm.trans hf'; simp at this; exact this.1.symm
    obtain ⟨r', hr', hd'⟩ := hdc
    have hre : r' = (C, T, N) := Option.some.inj (hr'.symm.trans hr)
    subst hre
    rw [show (T k).1 = own from hd'] at hown2
    rw [← e1]; exact Option.some.inj (hown.symm.trans hown2)
  have h6 := u_fits hfc hkC hkind (Or.inr hlay) hi (h2 k hk) hn hfit
  refine W.putFinK hx hb hown (hts _ hw) hi hst hcf hini (by rw [q2]; exact h6) q1 q3 (by rw [hsl]; exact k2_hasslot (q4 k hk)) rfl rfl d fun H' e1 e2 e3 => ?_
  rw [hsl] at e1 ⊢
  refine kk H' _ la (hP.put ⟨_, hr, t_OB.to (V := updV (vp_V fs) k v) ⟨_, e1, q2, q3, t_set q4 hap hk v⟩ (fun j _ => vp_updV_set hl v j)⟩ e3) (fun b e' hb' => ?_) (hS.put e2 e3 (hA a _ hσ)) hL
  by_cases hba : b = a
  · subst hba; exact hA b _ hσ
  · rw [hup_n hba] at hb'; exact hA b _ hb'

theorem g_iald {l0 : Launch} {Γ : gC} {cc : ByteArray} {own : String} {nL : Nat} {R0 : Room} {σ : hS} {kc ks pc : Nat} {ls : gLs} {st : List Value} {a N : Nat} {f : Nat → Int32} {i : Int32} (cx : CX l0 Γ cc own nL R0) (hσ : σ a = some (.inl (gdA Γ 0, N, .inl f))) (hin : vp_in i N) (d : decode cc pc = .ok (.iaload, 1)) (kk : G Γ σ kc ks (pc + 1) ls (.int (f i.toNatClampNeg) :: st)) : G Γ σ kc ks pc ls (.int i :: .ref a :: st) := by
  obtain ⟨p, l, e, R, s, m, args, below, meth, c, A, D, dA, Q⟩ := Γ
  obtain ⟨hx, hb, hml, hown, hts, hK, hAA, hlk, hl0, hR0, hZ, hE⟩ := cx
  intro H locs la hP hA hS hL
  exact va_iald hx hb hK (hP.one hσ) 0 0 rfl rfl hin d (kk H locs la hP hA hS hL)

theorem g_zald {l0 : Launch} {Γ : gC} {cc : ByteArray} {own : String} {nL : Nat} {R0 : Room} {σ : hS} {kc ks pc : Nat} {ls : gLs} {st : List Value} {a N : Nat} {f : Nat → Int32} {i : Int32} (cx : CX l0 Γ cc own nL R0) (hσ : σ a = some (.inl (gdA Γ 1, N, .inl f))) (hin : vp_in i N) (d : decode cc pc = .ok (.baload, 1)) (kk : G Γ σ kc ks (pc + 1) ls (.int (f i.toNatClampNeg) :: st)) : G Γ σ kc ks pc ls (.int i :: .ref a :: st) := by
  obtain ⟨p, l, e, R, s, m, args, below, meth, c, A, D, dA, Q⟩ := Γ
  obtain ⟨hx, hb, hml, hown, hts, hK, hAA, hlk, hl0, hR0, hZ, hE⟩ := cx
  intro H locs la hP hA hS hL
  exact va_zald hx hb hK (hP.one hσ) 0 1 rfl rfl hin d (kk H locs la hP hA hS hL)

theorem g_lald {l0 : Launch} {Γ : gC} {cc : ByteArray} {own : String} {nL : Nat} {R0 : Room} {σ : hS} {kc ks pc : Nat} {ls : gLs} {st : List Value} {a N : Nat} {f : Nat → Int64} {i : Int32} (cx : CX l0 Γ cc own nL R0) (hσ : σ a = some (.inl (gdA Γ 7, N, .inr (.inl f)))) (hin : vp_in i N) (d : decode cc pc = .ok (.laload, 1)) (kk : G Γ σ kc ks (pc + 1) ls (.long (f i.toNatClampNeg) :: st)) : G Γ σ kc ks pc ls (.int i :: .ref a :: st) := by
  obtain ⟨p, l, e, R, s, m, args, below, meth, c, A, D, dA, Q⟩ := Γ
  obtain ⟨hx, hb, hml, hown, hts, hK, hAA, hlk, hl0, hR0, hZ, hE⟩ := cx
  intro H locs la hP hA hS hL
  exact va_lald hx hb hK (hP.one hσ) 0 7 rfl rfl hin d (kk H locs la hP hA hS hL)

theorem g_aald2 {l0 : Launch} {Γ : gC} {cc : ByteArray} {own : String} {nL : Nat} {R0 : Room} {σ : hS} {kc ks pc : Nat} {ls : gLs} {st : List Value} {a N : Nat} {f : Nat → Option Nat} {i : Int32} (cx : CX l0 Γ cc own nL R0) (hσ : σ a = some (.inl (gdA Γ 2, N, .inr (.inr (.inr (.inr f)))))) (hin : vp_in i N) (d : decode cc pc = .ok (.aaload, 1)) (kk : G Γ σ kc ks (pc + 1) ls (va_rf (f i.toNatClampNeg) :: st)) : G Γ σ kc ks pc ls (.int i :: .ref a :: st) := by
  obtain ⟨p, l, e, R, s, m, args, below, meth, c, A, D, dA, Q⟩ := Γ
  obtain ⟨hx, hb, hml, hown, hts, hK, hAA, hlk, hl0, hR0, hZ, hE⟩ := cx
  intro H locs la hP hA hS hL
  exact va_aldq hx hb hK (hP.one hσ) 0 2 rfl rfl hin d (kk H locs la hP hA hS hL)

theorem g_aald3 {l0 : Launch} {Γ : gC} {cc : ByteArray} {own : String} {nL : Nat} {R0 : Room} {σ : hS} {kc ks pc : Nat} {ls : gLs} {st : List Value} {a N : Nat} {f : Nat → Option Nat} {i : Int32} (cx : CX l0 Γ cc own nL R0) (hσ : σ a = some (.inl (gdA Γ 3, N, .inr (.inr (.inr (.inr f)))))) (hin : vp_in i N) (d : decode cc pc = .ok (.aaload, 1)) (kk : G Γ σ kc ks (pc + 1) ls (va_rf (f i.toNatClampNeg) :: st)) : G Γ σ kc ks pc ls (.int i :: .ref a :: st) := by
  obtain ⟨p, l, e, R, s, m, args, below, meth, c, A, D, dA, Q⟩ := Γ
  obtain ⟨hx, hb, hml, hown, hts, hK, hAA, hlk, hl0, hR0, hZ, hE⟩ := cx
  intro H locs la hP hA hS hL
  exact va_aldq hx hb hK (hP.one hσ) 0 3 rfl rfl hin d (kk H locs la hP hA hS hL)

theorem g_aald4 {l0 : Launch} {Γ : gC} {cc : ByteArray} {own : String} {nL : Nat} {R0 : Room} {σ : hS} {kc ks pc : Nat} {ls : gLs} {st : List Value} {a N : Nat} {f : Nat → Option Nat} {i : Int32} (cx : CX l0 Γ cc own nL R0) (hσ : σ a = some (.inl (gdA Γ 4, N, .inr (.inr (.inr (.inr f)))))) (hin : vp_in i N) (d : decode cc pc = .ok (.aaload, 1)) (kk : G Γ σ kc ks (pc + 1) ls (va_rf (f i.toNatClampNeg) :: st)) : G Γ σ kc ks pc ls (.int i :: .ref a :: st) := by
  obtain ⟨p, l, e, R, s, m, args, below, meth, c, A, D, dA, Q⟩ := Γ
  obtain ⟨hx, hb, hml, hown, hts, hK, hAA, hlk, hl0, hR0, hZ, hE⟩ := cx
  intro H locs la hP hA hS hL
  exact va_aldq hx hb hK (hP.one hσ) 0 4 rfl rfl hin d (kk H locs la hP hA hS hL)

theorem g_aald5 {l0 : Launch} {Γ : gC} {cc : ByteArray} {own : String} {nL : Nat} {R0 : Room} {σ : hS} {kc ks pc : Nat} {ls : gLs} {st : List Value} {a N : Nat} {f : Nat → Option Nat} {i : Int32} (cx : CX l0 Γ cc own nL R0) (hσ : σ a = some (.inl (gdA Γ 5, N, .inr (.inr (.inr (.inr f)))))) (hin : vp_in i N) (d : decode cc pc = .ok (.aaload, 1)) (kk : G Γ σ kc ks (pc + 1) ls (va_rf (f i.toNatClampNeg) :: st)) : G Γ σ kc ks pc ls (.int i :: .ref a :: st) := by
  obtain ⟨p, l, e, R, s, m, args, below, meth, c, A, D, dA, Q⟩ := Γ
  obtain ⟨hx, hb, hml, hown, hts, hK, hAA, hlk, hl0, hR0, hZ, hE⟩ := cx
  intro H locs la hP hA hS hL
  exact va_aldq hx hb hK (hP.one hσ) 0 5 rfl rfl hin d (kk H locs la hP hA hS hL)

theorem g_hA {A : Nat → Prop} {σ : hS} {a : Nat} {e0 e1 : va_E} (hA : ∀ b e, σ b = some e → A b) (hσ : σ a = some e0) : ∀ b e, hup σ a e1 b = some e → A b := fun b e hb => by
  by_cases hba : b = a
  · subst hba; exact hA b _ hσ
  · rw [hup_n hba] at hb; exact hA b _ hb
theorem g_len {l0 : Launch} {Γ : gC} {cc : ByteArray} {own : String} {nL : Nat} {R0 : Room} {σ : hS} {kc ks pc : Nat} {ls : gLs} {st : List Value} {a : Nat} {t : Nat} {ty : FieldType} {x : vp_A} {v : Int32} (cx : CX l0 Γ cc own nL R0) (hσ : σ a = some (.inl (gdA Γ t, x))) (ht : (tyL (gdA Γ))[t]? = some (gdA Γ t, ty)) (hv : Int32.ofNat x.1 = v) (d : decode cc pc = .ok (.arraylength, 1)) (kk : G Γ σ kc ks (pc + 1) ls (.int v :: st)) : G Γ σ kc ks pc ls (.ref a :: st) := by
  obtain ⟨p, l, e, R, s, m, args, below, meth, c, A, D, dA, Q⟩ := Γ
  obtain ⟨hx, hb, hml, hown, hts, hK, hAA, hlk, hl0, hR0, hZ, hE⟩ := cx
  intro H locs la hP hA hS hL
  exact va_alen hx hb hK (hP.one hσ) 0 t rfl ht hv d (kk H locs la hP hA hS hL)

theorem g_iast {l0 : Launch} {Γ : gC} {cc : ByteArray} {own : String} {nL : Nat} {R0 : Room} {σ : hS} {kc ks pc : Nat} {ls : gLs} {st : List Value} {a N : Nat} {f : Nat → Int32} {i : Int32} {x : Int32} (cx : CX l0 Γ cc own nL R0) (hσ : σ a = some (.inl (gdA Γ 0, N, .inl f))) (hin : vp_in i N) (d : decode cc pc = .ok (.iastore, 1)) (kk : G Γ (hup σ a (.inl (gdA Γ 0, N, .inl (upd f i.toNatClampNeg x)))) kc ks (pc + 1) ls st) : G Γ σ kc ks pc ls (.int x :: .int i :: .ref a :: st) := by
  obtain ⟨p, l, e, R, s, m, args, below, meth, c, A, D, dA, Q⟩ := Γ
  obtain ⟨hx, hb, hml, hown, hts, hK, hAA, hlk, hl0, hR0, hZ, hE⟩ := cx
  intro H locs la hP hA hS hL
  refine W.iast hx hb (hP a _ hσ) ((hK.2 0 _ rfl).1 N (fun j => .int (f j))) (fun q => by cases q) (by show ¬ (i < 0 ∨ (arrV _ _ _).slots.size ≤ _); rw [arrV_size]; exact hin) rfl rfl d fun H1 e z oq => ?_
  refine kk H1 _ la (hP.put ?_ oq) (g_hA hA hσ) (hS.put z oq (hA a _ hσ)) hL
  show H1[a]? = some (vp_cell _ _)
  rw [e]
  rw [vp_cell_i, vp_cell_i, arrV_store]
  congr 2
  funext q
  by_cases hq : q = i.toNatClampNeg
  · subst hq
    simp [updV, upd]
  · simp [updV, upd, hq]

theorem g_last {l0 : Launch} {Γ : gC} {cc : ByteArray} {own : String} {nL : Nat} {R0 : Room} {σ : hS} {kc ks pc : Nat} {ls : gLs} {st : List Value} {a N : Nat} {f : Nat → Int64} {i : Int32} {x : Int64} (cx : CX l0 Γ cc own nL R0) (hσ : σ a = some (.inl (gdA Γ 7, N, .inr (.inl f)))) (hin : vp_in i N) (d : decode cc pc = .ok (.lastore, 1)) (kk : G Γ (hup σ a (.inl (gdA Γ 7, N, .inr (.inl (vp_updL f i.toNatClampNeg x))))) kc ks (pc + 1) ls st) : G Γ σ kc ks pc ls (.long x :: .int i :: .ref a :: st) := by
  obtain ⟨p, l, e, R, s, m, args, below, meth, c, A, D, dA, Q⟩ := Γ
  obtain ⟨hx, hb, hml, hown, hts, hK, hAA, hlk, hl0, hR0, hZ, hE⟩ := cx
  intro H locs la hP hA hS hL
  refine W.last hx hb (hP a _ hσ) ((hK.2 7 _ rfl).1 N (fun j => .long (f j))) (fun q => by cases q) (by show ¬ (i < 0 ∨ (arrV _ _ _).slots.size ≤ _); rw [arrV_size]; exact hin) rfl rfl d fun H1 e z oq => ?_
  refine kk H1 _ la (hP.put ?_ oq) (g_hA hA hσ) (hS.put z oq (hA a _ hσ)) hL
  show H1[a]? = some (vp_cell _ _)
  rw [e]
  rw [vp_cell_l, vp_cell_l, arrV_store]
  congr 2
  funext q
  by_cases hq : q = i.toNatClampNeg
  · subst hq
    simp [updV, vp_updL]
  · simp [updV, vp_updL, hq]
end
section
/-! ===== BEGIN a constructor that throws (launches without stack traces) ===== -/
section VXIA
variable {p : Program} {l : Launch} {e : Env} {R : Room} {s : State} {m : MethodId} {args : Array Value} {below : List Frame} {meth : Method} {c : Code} {T : State} {locs : List Loc} {cells slots : Nat}
theorem vx_callI (X : Stand p l e R s m args below meth c T locs cells slots) (hexec : p.tables.exec = Jvm.exec) {own : String} {index : Nat} {y : MethodName} {bytes : ByteArray} {maxL : Nat}
    (hown : s.vm.findClass own = some m.cls) (hy1 : y.name = "<init>") (hlink : (Cond.methodLink own index y).before args s = true) (hinst : (Cond.instanceMethod y).before args s = true)
    (hcode : (Cond.code y bytes maxL none).before args s = true) (hy : y.cls ≠ "java/lang/invoke/MethodHandle" ∧ y.cls ≠ "java/lang/invoke/VarHandle")
    {W9 : Nat} {Pre : Pt → Array Value → Prop} {Post : Pt → Array Value → Option Value → Pt → Prop} {PostX : Pt → Array Value → Addr → Pt → Prop} (hK : vx_Back l R p e below s args y 3 W9 Pre Post PostX)
    {g : JFrame} (hg : g.method = m) (hsize : g.locals.size = c.maxLocals) {a : Addr} {argsL rest : List Value} (hlen : ∀ sig, parseMethodDescriptor y.desc = some sig → argsL.length = sig.parameters.length)
    (hstack : g.stack = argsL.reverse ++ .ref a :: rest) (hW : 2 * g.monitorRoom + (rest.map fun v => v.category).sum ≤ W9) (hdg : decode c.code g.pc = .ok (.invokespecial index, 3))
    (hpre : ∀ vm₁, s.WarmedH vm₁ → Pre ⟨T.setVm vm₁, locs, cells, slots⟩ (Value.ref a :: argsL).toArray) :
    (∃ (v : Option Value) (vm₁ : Vm) (B : Pt), s.WarmedH vm₁ ∧ Stand p l e R s m args below meth c B.U B.locs B.cells B.slots ∧ Post ⟨T.setVm vm₁, locs, cells, slots⟩ (Value.ref a :: argsL).toArray v B ∧
      ∀ target, Steps p.tables e below (B.U.setTop { g with pc := g.pc + 3, stack := v.toList ++ rest }) target → Steps p.tables e below (T.setTop g) target) ∨
    (∃ (q : Addr) (vm₁ : Vm) (B : Pt), s.WarmedH vm₁ ∧ Stand p l e R s m args below meth c B.U B.locs B.cells B.slots ∧ PostX ⟨T.setVm vm₁, locs, cells, slots⟩ (Value.ref a :: argsL).toArray q B ∧
      Steps p.tables e below (T.setTop g) ((B.U.setTop { g with stack := rest }).pushFrame (.throwing q))) := by
  subst hg
  have hpl : e.platform.magicAccessors = ({} : Platform).magicAccessors := by rw [X.admits.platform]
  obtain ⟨mk, methM, cM, kP, vm₁, hnamed, hmethM, hcodeM, -, hlocalsM, -, hkP, -, hW₁, hstep₁⟩ := Steps.initColdArgs (e := e) X.here hexec X.warmed hpl hown hy1 hy hlink hinst hcode (f := g) rfl hlen hstack hdg
  have X₁ := X.noted hW₁
  rcases hK g.method meth c ⟨T.setVm vm₁, locs, cells, slots⟩ { g with stack := rest } (.invokespecial index) mk (Value.ref a :: argsL).toArray X₁ rfl hsize hdg hW (X₁.named hnamed) (hpre vm₁ X₁.warmed) with ⟨v, B, X', hpost, hsteps⟩ | ⟨q, B, X', hpost, hsteps⟩
  · exact Or.inl ⟨v, vm₁, B, X₁.warmed, X', hpost, fun target h => hstep₁ _ fun acts => by rw [doInvoke_state]; exact hsteps.trans h⟩
  · exact Or.inr ⟨q, vm₁, B, X₁.warmed, X', hpost, hstep₁ _ fun acts => by rw [doInvoke_state]; exact hsteps⟩
end VXIA
section VXIB
variable {p : Program} {l : Launch} {e : Env} {R : Room} {s : State} {m : MethodId} {args : Array Value} {below : List Frame} {meth : Method} {c : Code} {H : Heap} {locs : List Loc} {cells slots : Nat}
variable {y : MethodName} {bytes cc : ByteArray} {maxL nL mc ms n index : Nat} {ret : Option FieldType} {ws : List Cond} {rm : Room} {Pc : Array Value → State → Prop} {Qc : Array Value → State → Outcome → State → Prop} {XC : String → State → State → Prop} {free : Addr → Prop} {Ts : List Cond} {own C : String} {b : Addr} {As rest : List Value} {g : JFrame}
theorem vx_runI (S : CallFix p m c cc nL s args Ts own) (hM : vx_Met l y ws rm Pc Qc XC mc ms free) (cw : CallB R s args own index y bytes maxL none ws rm mc ms n ∧ y.name = "<init>" ∧ (Cond.instanceMethod y).before args s = true) (hp : PreS s H Pc (.ref b :: As))
    (hg : g.method = m) (hn : As.length = n) (hsize : g.locals.size = nL) (hstack : g.stack = As.reverse ++ .ref b :: rest) (hW : 2 * g.monitorRoom + (rest.map fun v => v.category).sum ≤ 8) (hdg : decode cc g.pc = .ok (.invokespecial index, 3)) (hf : cells + mc ≤ R.cells ∧ slots + ms ≤ R.slots) :
    vx_Run p l e R s m args below meth c H locs cells slots mc ms g rest (Qc (Value.ref b :: As).toArray) XC free := by
  have hK : vx_Back l R p e below s args y 3 8 (PreOf R mc ms Pc) (PostOf Qc mc ms free) (vx_Post XC mc ms free) := vx_callBack cw.1 hM hp.1
  obtain ⟨⟨-, -, -, -, -, -, hcode, -, hy, hlen, hl⟩, hy1, hin⟩ := cw
  obtain ⟨hx, hb, hml, ho, -⟩ := S
  have hPc := hp.2
  intro T hT X
  rcases vx_callI X hx (bytes := bytes) (maxL := maxL) ho hy1 hl hin hcode hy hK hg (hsize.trans hml.symm) (a := b) (argsL := As) (rest := rest) (fun sig h => hn.trans (hlen sig h)) hstack hW (by rw [hb]; exact hdg)
    (fun vm₁ hW₁ => ⟨hf.1, hf.2, hPc (T.setVm vm₁) hT hW₁⟩) with ⟨v, vm₁, ⟨U', l2, c2, s2⟩, hW₁, X', ⟨g', mk, t, L, e1, e2, hq, h1, hL, h2, h3⟩, st⟩ | ⟨q, vm₁, ⟨U', l2, c2, s2⟩, hW₁, X', ⟨g', mk, t, L, E, ce, e1, e2, hq, hce, hcv, hcl, h1, hL, h2, h3⟩, st⟩
  · dsimp only [Pt.U, Pt.locs, Pt.cells, Pt.slots] at X' e1 e2 h1 h2 h3 st
    subst h1; subst h2; subst h3
    exact Or.inl ⟨v, (T.setVm vm₁).calling g' mk (Value.ref b :: As).toArray, t, U', L, hT, X', hL, e1, e2, hq, st⟩
  · dsimp only [Pt.U, Pt.locs, Pt.cells, Pt.slots] at X' e1 e2 h1 h2 h3 st hcl
    subst h1; subst h2; subst h3
    exact Or.inr ⟨q, (T.setVm vm₁).calling g' mk (Value.ref b :: As).toArray, t, U', L, E, ce, hT, X', hL, e1, e2, hq, hce, hcv, vx_cls hW₁ hcl, st⟩
end VXIB
/-! ===== END ===== -/
/-! ===== BEGIN a private constructor of a nest mate that throws ===== -/
section VXIC
variable {p : Program} {l : Launch} {e : Env} {R : Room} {s : State} {m : MethodId} {args : Array Value} {below : List Frame} {meth : Method} {c : Code} {T : State} {locs : List Loc} {cells slots : Nat}
theorem vx_callIN (X : Stand p l e R s m args below meth c T locs cells slots) (hexec : p.tables.exec = Jvm.exec) {own : String} {index : Nat} {host : String} {y : MethodName} {bytes : ByteArray} {maxL : Nat}
    (hown : s.vm.findClass own = some m.cls) (hy1 : y.name = "<init>") (hlink : (Cond.methodLinkNest own index y host).before args s = true) (hinst : (Cond.instanceMethod y).before args s = true)
    (hcode : (Cond.code y bytes maxL none).before args s = true) (hy : y.cls ≠ "java/lang/invoke/MethodHandle" ∧ y.cls ≠ "java/lang/invoke/VarHandle")
    {W9 : Nat} {Pre : Pt → Array Value → Prop} {Post : Pt → Array Value → Option Value → Pt → Prop} {PostX : Pt → Array Value → Addr → Pt → Prop} (hK : vx_Back l R p e below s args y 3 W9 Pre Post PostX)
    {g : JFrame} (hg : g.method = m) (hsize : g.locals.size = c.maxLocals) {a : Addr} {argsL rest : List Value} (hlen : ∀ sig, parseMethodDescriptor y.desc = some sig → argsL.length = sig.parameters.length)
    (hstack : g.stack = argsL.reverse ++ .ref a :: rest) (hW : 2 * g.monitorRoom + (rest.map fun v => v.category).sum ≤ W9) (hdg : decode c.code g.pc = .ok (.invokespecial index, 3))
    (hpre : ∀ vm₁, s.WarmedH vm₁ → Pre ⟨T.setVm vm₁, locs, cells, slots⟩ (Value.ref a :: argsL).toArray) :
    (∃ (v : Option Value) (vm₁ : Vm) (B : Pt), s.WarmedH vm₁ ∧ Stand p l e R s m args below meth c B.U B.locs B.cells B.slots ∧ Post ⟨T.setVm vm₁, locs, cells, slots⟩ (Value.ref a :: argsL).toArray v B ∧
      ∀ target, Steps p.tables e below (B.U.setTop { g with pc := g.pc + 3, stack := v.toList ++ rest }) target → Steps p.tables e below (T.setTop g) target) ∨
    (∃ (q : Addr) (vm₁ : Vm) (B : Pt), s.WarmedH vm₁ ∧ Stand p l e R s m args below meth c B.U B.locs B.cells B.slots ∧ PostX ⟨T.setVm vm₁, locs, cells, slots⟩ (Value.ref a :: argsL).toArray q B ∧
      Steps p.tables e below (T.setTop g) ((B.U.setTop { g with stack := rest }).pushFrame (.throwing q))) := by
  subst hg
  have hpl : e.platform.magicAccessors = ({} : Platform).magicAccessors := by rw [X.admits.platform]
  obtain ⟨mk, methM, cM, kP, vm₁, hnamed, hmethM, hcodeM, -, hlocalsM, -, hkP, -, hW₁, hstep₁⟩ := Steps.initColdArgsNest (e := e) X.here hexec X.warmed hpl hown hy1 hy hlink hinst hcode (f := g) rfl hlen hstack hdg
  have X₁ := X.noted hW₁
  rcases hK g.method meth c ⟨T.setVm vm₁, locs, cells, slots⟩ { g with stack := rest } (.invokespecial index) mk (Value.ref a :: argsL).toArray X₁ rfl hsize hdg hW (X₁.named hnamed) (hpre vm₁ X₁.warmed) with ⟨v, B, X', hpost, hsteps⟩ | ⟨q, B, X', hpost, hsteps⟩
  · exact Or.inl ⟨v, vm₁, B, X₁.warmed, X', hpost, fun target h => hstep₁ _ fun acts => by rw [doInvoke_state]; exact hsteps.trans h⟩
  · exact Or.inr ⟨q, vm₁, B, X₁.warmed, X', hpost, hstep₁ _ fun acts => by rw [doInvoke_state]; exact hsteps⟩
end VXIC
section VXID
variable {p : Program} {l : Launch} {e : Env} {R : Room} {s : State} {m : MethodId} {args : Array Value} {below : List Frame} {meth : Method} {c : Code} {H : Heap} {locs : List Loc} {cells slots : Nat}
theorem vx_runIN {y : MethodName} {bytes cc : ByteArray} {maxL nL mc ms n index : Nat} {ws : List Cond} {rm : Room} {Pc : Array Value → State → Prop} {Qc : Array Value → State → Outcome → State → Prop} {XC : String → State → State → Prop} {free : Addr → Prop} {Ts : List Cond} {own host : String} {b : Addr} {As rest : List Value} {g : JFrame}
    (S : CallFix p m c cc nL s args Ts own) (hM : vx_Met l y ws rm Pc Qc XC mc ms free) (cw : va_CN R s args own index y host bytes maxL none ws rm mc ms n ∧ y.name = "<init>" ∧ (Cond.instanceMethod y).before args s = true) (hp : PreS s H Pc (.ref b :: As))
    (hg : g.method = m) (hn : As.length = n) (hsize : g.locals.size = nL) (hstack : g.stack = As.reverse ++ .ref b :: rest) (hW : 2 * g.monitorRoom + (rest.map fun v => v.category).sum ≤ 8) (hdg : decode cc g.pc = .ok (.invokespecial index, 3)) (hf : cells + mc ≤ R.cells ∧ slots + ms ≤ R.slots) :
    vx_Run p l e R s m args below meth c H locs cells slots mc ms g rest (Qc (Value.ref b :: As).toArray) XC free := by
  obtain ⟨⟨⟨hrc, hrs, hfr, hlo, hws, hcw⟩, hcode, hini, hy, hlen, hl⟩, hx1, hx2⟩ := cw
  have hK : vx_Back l R p e below s args y 3 8 (PreOf R mc ms Pc) (PostOf Qc mc ms free) (vx_Post XC mc ms free) := vx_back (bytes := bytes) (maxL := maxL) (ret := none) hM hp.1 hrc hrs hfr hlo hws hcw (fun a' U hW => word_at hW (Or.inl (by first | rfl | simp [Cond.onTables, Cond.keeps, Cond.steady])) hini)
  obtain ⟨hx, hb, hml, ho, -⟩ := S
  have hPc := hp.2
  intro T hT X
  rcases vx_callIN X hx (bytes := bytes) (maxL := maxL) ho hx1 hl hx2 hcode hy hK hg (hsize.trans hml.symm) (a := b) (argsL := As) (rest := rest) (fun sig h => hn.trans (hlen sig h)) hstack hW (by rw [hb]; exact hdg)
    (fun vm₁ hW₁ => ⟨hf.1, hf.2, hPc (T.setVm vm₁) hT hW₁⟩) with ⟨v, vm₁, ⟨U', l2, c2, s2⟩, hW₁, X', ⟨g', mk, t, L, e1, e2, hq, h1, hL, h2, h3⟩, st⟩ | ⟨q, vm₁, ⟨U', l2, c2, s2⟩, hW₁, X', ⟨g', mk, t, L, E, ce, e1, e2, hq, hce, hcv, hcl, h1, hL, h2, h3⟩, st⟩
  · dsimp only [Pt.U, Pt.locs, Pt.cells, Pt.slots] at X' e1 e2 h1 h2 h3 st
    subst h1; subst h2; subst h3
    exact Or.inl ⟨v, (T.setVm vm₁).calling g' mk (Value.ref b :: As).toArray, t, U', L, hT, X', hL, e1, e2, hq, st⟩
  · dsimp only [Pt.U, Pt.locs, Pt.cells, Pt.slots] at X' e1 e2 h1 h2 h3 st hcl
    subst h1; subst h2; subst h3
    exact Or.inr ⟨q, (T.setVm vm₁).calling g' mk (Value.ref b :: As).toArray, t, U', L, E, ce, hT, X', hL, e1, e2, hq, hce, hcv, vx_cls hW₁ hcl, st⟩
end VXID
/-! ===== END ===== -/
end
section
/-! G: calls, throws -/
theorem goodIn_TB {ws : List Cond} (h : ∀ w ∈ ws, w ∈ TB) : GoodIn TB ws := fun w hw => TB_good w (h w hw)
/-- a name that a call may bear, and how many arguments it takes -/
def gY (y : MethodName) (n : Nat) : Prop := y.cls ≠ "java/lang/invoke/MethodHandle" ∧ y.cls ≠ "java/lang/invoke/VarHandle" ∧ (parseMethodDescriptor y.desc).map (fun d => d.parameters.length) = some n
/-- the callee's room within the caller's -/
def gRm (rm R0 : Room) (maxL kc ks : Nat) : Prop := (rm.frames + 1 ≤ R0.frames ∧ 8 + (maxL + 11) + rm.locals ≤ R0.locals) ∧ kc + rm.cells ≤ R0.cells ∧ ks + rm.slots ≤ R0.slots
section GCALL
variable {p : Program} {l : Launch} {e : Env} {R : Room} {s : State} {m : MethodId} {args : Array Value} {below : List Frame} {meth : Method} {c : Code} {A : Nat → Prop} {D : va_G} {dA : Nat → ClassId} {Q : State → Prop}
/-- what a run says, said of G -/
theorem g_ofRun {σ : hS} {kc ks pc mc ms : Nat} {ls : gLs} {la : Array Slot} {rest st0 : List Value} {H : Heap} {locs : List Loc} {Post : Option Value → hS → Prop} {PX : String → hS → Prop} {a : Array Value}
    (hr : vx_Run p l e R s m args below meth c H locs kc ks mc ms (F0 m pc la st0) rest (gQc D σ H.size Post a) (gXc D σ H.size PX) (gA σ H.size))
    (hAA : ∀ q, s.heap.size ≤ q → A q) (hA : ∀ a e, σ a = some e → A a) (hS : va_S A s.heap H locs) (hL : gL la ls)
    (kN : ∀ v σ', Post v σ' → G (p, l, e, R, s, m, args, below, meth, c, A, D, dA, Q) σ' (kc + mc) (ks + ms) (pc + 3) ls (v.toList ++ rest))
    (kX : ∀ E σ', PX E σ' → GX (p, l, e, R, s, m, args, below, meth, c, A, D, dA, Q) σ' (kc + mc) (ks + ms) pc ls rest E) : W p l e R s m args below meth c H locs kc ks Q (F0 m pc la st0) := by
  intro T hT X
  have hsub : ∀ q, gA σ H.size q → A q := fun q hq => hq.elim (fun h => by
    cases hs : σ q with
    | none => exact absurd hs h
    | some e0 => exact hA q e0 hs) (fun h => hAA q (Nat.le_trans hS.1 h))
  rcases hr T hT X with ⟨v, st₀, t, T', L, h0, X', hL', e1, e2, ⟨v', σ', ho, hp, hP', hdom, hF⟩, st⟩ | ⟨q, st₀, t, T', L, E, ce, h0, X', hL', e1, e2, ⟨σ', hp, hP', hdom, hF⟩, hce, hcv, hcl, st⟩
  · cases ho
    obtain ⟨k1, k2, k3⟩ := vx_keep h0 e1 hS (fun q _ h => hsub q h) hsub hL' hF
    obtain ⟨t2, a1, b1⟩ := kN v σ' hp T'.heap (locs ++ L) la (by rw [e1]; exact hP') (fun a e h => hsub a (hdom a e h)) k3 hL T' rfl X'
    exact ⟨t2, st t2 a1, b1⟩
  · obtain ⟨k1, k2, k3⟩ := vx_keep h0 e1 hS (fun q _ h => hsub q h) hsub hL' hF
    obtain ⟨t2, a1, b1⟩ := kX E σ' hp T'.heap (locs ++ L) la q ce (by rw [e1]; exact hP') (fun a e h => hsub a (hdom a e h)) k3 hL (by rw [e1]; exact hce) hcv hcl T' rfl X'
    exact ⟨t2, st.trans a1, b1⟩
/-- a callee's start holds -/
theorem g_pre {σ : hS} {H : Heap} {locs : List Loc} {av : List Value} (hK : va_K D gcl (tyL dA) s) (hZ : gZ A s s.heap) (hE : gE s) (hP : hP D σ H) (hAA : ∀ q, s.heap.size ≤ q → A q) (hA : ∀ a e, σ a = some e → A a) (hS : va_S A s.heap H locs) : ∀ U : State, U.heap = H → s.WarmedH U.vm → va_Pc av (gB D dA σ H.size) av.toArray U := by
  intro U hU hW
  have hsub : ∀ q, gA σ H.size q → A q := fun q hq => hq.elim (fun h => by
    cases hs : σ q with
    | none => exact absurd hs h
    | some e0 => exact hA q e0 hs) (fun h => hAA q (Nat.le_trans hS.1 h))
  exact ⟨rfl, by rw [hU]; exact hP, va_K.moved hW.alike hK, by rw [hU], by rw [hU]; exact ((hZ.moved hW.alike).kept hS.2.1).narrow hsub, hE.warm hW⟩
end GCALL
section GCALLS
variable {l0 : Launch} {Γ : gC} {cc : ByteArray} {own : String} {nL : Nat} {R0 : Room} {σ : hS} {kc ks pc : Nat} {ls : gLs} {st rest As : List Value} {idx : Nat} {y : MethodName} {cc' : ByteArray} {nL' : Nat} {ret' : Option FieldType} {rm : Room} {Post : Option Value → hS → Prop} {PX : String → hS → Prop}
theorem g_callV (cx : CX l0 Γ cc own nL R0) {b ci : Nat} {fs : List Value} (hl : gV own idx y (.code y cc' nL' ret')) (hM : gM l0 (gdA Γ) y (.code y cc' nL' ret') rm σ (.ref b :: As) Post PX) (hb : σ b = some (.inr (ci, fs))) (hci : (gcl[ci]?).map (fun r => r.1) = some y.cls) (hy : gY y As.length) (hR : gRm rm R0 nL' kc ks) (hlen : ls.length = nL) (hW : (rest.map fun v => v.category).sum ≤ 8) (hst : st = As.reverse ++ .ref b :: rest) (d : decode cc pc = .ok (.invokevirtual idx, 3))
    (kX : ∀ E σ', PX E σ' → GX Γ σ' (kc + rm.cells) (ks + rm.slots) pc ls rest E)
    (kN : ∀ v σ', Post v σ' → G Γ σ' (kc + rm.cells) (ks + rm.slots) (pc + 3) ls (v.toList ++ rest)) : G Γ σ kc ks pc ls st := by
  obtain ⟨p, l, e, R, s, m, args, below, meth, c, A, D, dA, Q⟩ := Γ
  obtain ⟨hx, hbc, hml, hown, hts, hK, hAA, hlk, hl0, hR0, hZ, hE⟩ := cx
  subst hl0; subst hR0
  intro H locs la hP hA hS hL
  obtain ⟨l1, l2, l3, l4, l5⟩ := hl
  obtain ⟨r, hr, hrn⟩ := Option.map_eq_some_iff.mp hci
  have hG : GoodIn TB (wsV own idx y.cls y (.code y cc' nL' ret' :: TB)) := goodIn_TB (fun w hw => by
    rcases List.mem_append.mp hw with h | h
    · simp only [List.mem_cons, List.not_mem_nil, or_false] at h
      rcases h with rfl | rfl | rfl | rfl <;> assumption
    · rcases List.mem_cons.mp h with rfl | h
      · exact l5
      · exact h)
  have hrecv : ∃ cellB : Cell, H[b]? = some cellB ∧ cellB.vm.isStatics = false ∧ s.vm.findClass y.cls = some cellB.cls := by
    rw [← hrn]
    exact va_recv hK (hP.one hb) hr (q0 := 0) rfl
  exact g_ofRun (vx_runV (As := As) (rest := rest) (nL := nL) (g := F0 m pc la st) ⟨hx, hbc, hml, hown, hts⟩ (hM D H.size) (cwV As.length hts hG rfl rfl rfl ⟨rfl, hy⟩ hR.1) ⟨gPc_blind, hrecv, g_pre hK hZ hE hP hAA hA hS⟩ rfl rfl (by rw [← hlen]; exact hL.1) hst (lv_room hW) d hR.2) hAA hA hS hL kN kX
theorem g_callS (cx : CX l0 Γ cc own nL R0) (hl : gS own idx y (.code y cc' nL' ret')) (hM : gM l0 (gdA Γ) y (.code y cc' nL' ret') rm σ As Post PX) (hy : gY y As.length) (hR : gRm rm R0 nL' kc ks) (hlen : ls.length = nL) (hW : (rest.map fun v => v.category).sum ≤ 8) (hst : st = As.reverse ++ rest) (d : decode cc pc = .ok (.invokestatic idx, 3))
    (kX : ∀ E σ', PX E σ' → GX Γ σ' (kc + rm.cells) (ks + rm.slots) pc ls rest E)
    (kN : ∀ v σ', Post v σ' → G Γ σ' (kc + rm.cells) (ks + rm.slots) (pc + 3) ls (v.toList ++ rest)) : G Γ σ kc ks pc ls st := by
  obtain ⟨p, l, e, R, s, m, args, below, meth, c, A, D, dA, Q⟩ := Γ
  obtain ⟨hx, hbc, hml, hown, hts, hK, hAA, hlk, hl0, hR0, hZ, hE⟩ := cx
  subst hl0; subst hR0
  intro H locs la hP hA hS hL
  obtain ⟨l1, l2, l4, l5⟩ := hl
  have hG : GoodIn TB (va_wsS own idx y (.code y cc' nL' ret' :: TB)) := goodIn_TB (fun w hw => by
    rcases List.mem_append.mp hw with h | h
    · simp only [List.mem_cons, List.not_mem_nil, or_false] at h
      rcases h with rfl | rfl | rfl <;> assumption
    · rcases List.mem_cons.mp h with rfl | h
      · exact l5
      · exact h)
  exact g_ofRun (vx_runS (As := As) (rest := rest) (nL := nL) (g := F0 m pc la st) ⟨hx, hbc, hml, hown, hts⟩ (hM D H.size) (va_cwS As.length hts hG rfl rfl rfl hy hR.1) ⟨gPc_blind, g_pre hK hZ hE hP hAA hA hS⟩ rfl rfl (by rw [← hlen]; exact hL.1) hst (lv_room hW) d hR.2) hAA hA hS hL kN kX
theorem g_callSX (cx : CX l0 Γ cc own nL R0) {hh : List (Nat × Nat × Nat × Nat)} (hl : gS own idx y (.codeWith y cc' nL' ret' hh)) (hM : gM l0 (gdA Γ) y (.codeWith y cc' nL' ret' hh) rm σ As Post PX) (hy : gY y As.length) (hR : gRm rm R0 nL' kc ks) (hlen : ls.length = nL) (hW : (rest.map fun v => v.category).sum ≤ 8) (hst : st = As.reverse ++ rest) (d : decode cc pc = .ok (.invokestatic idx, 3))
    (kX : ∀ E σ', PX E σ' → GX Γ σ' (kc + rm.cells) (ks + rm.slots) pc ls rest E)
    (kN : ∀ v σ', Post v σ' → G Γ σ' (kc + rm.cells) (ks + rm.slots) (pc + 3) ls (v.toList ++ rest)) : G Γ σ kc ks pc ls st := by
  obtain ⟨p, l, e, R, s, m, args, below, meth, c, A, D, dA, Q⟩ := Γ
  obtain ⟨hx, hbc, hml, hown, hts, hK, hAA, hlk, hl0, hR0, hZ, hE⟩ := cx
  subst hl0; subst hR0
  intro H locs la hP hA hS hL
  obtain ⟨l1, l2, l4, l5⟩ := hl
  have hG : GoodIn TB (va_wsS own idx y (.codeWith y cc' nL' ret' hh :: TB)) := goodIn_TB (fun w hw => by
    rcases List.mem_append.mp hw with h | h
    · simp only [List.mem_cons, List.not_mem_nil, or_false] at h
      rcases h with rfl | rfl | rfl <;> assumption
    · rcases List.mem_cons.mp h with rfl | h
      · exact l5
      · exact h)
  exact g_ofRun (vx_runSX (As := As) (rest := rest) (nL := nL) (g := F0 m pc la st) ⟨hx, hbc, hml, hown, hts⟩ (hM D H.size) (vx_cwSW As.length hts hG rfl rfl rfl hy hR.1) ⟨gPc_blind, g_pre hK hZ hE hP hAA hA hS⟩ rfl rfl (by rw [← hlen]; exact hL.1) hst (lv_room hW) d hR.2) hAA hA hS hL kN kX
theorem g_callI (cx : CX l0 Γ cc own nL R0) {b : Nat} (hl : gI own idx y (.code y cc' nL' none)) (hM : gM l0 (gdA Γ) y (.code y cc' nL' none) rm σ (.ref b :: As) Post PX) (hin : y.name = "<init>") (hy : gY y As.length) (hR : gRm rm R0 nL' kc ks) (hlen : ls.length = nL) (hW : (rest.map fun v => v.category).sum ≤ 8) (hst : st = As.reverse ++ .ref b :: rest) (d : decode cc pc = .ok (.invokespecial idx, 3))
    (kX : ∀ E σ', PX E σ' → GX Γ σ' (kc + rm.cells) (ks + rm.slots) pc ls rest E)
    (kN : ∀ v σ', Post v σ' → G Γ σ' (kc + rm.cells) (ks + rm.slots) (pc + 3) ls (v.toList ++ rest)) : G Γ σ kc ks pc ls st := by
  obtain ⟨p, l, e, R, s, m, args, below, meth, c, A, D, dA, Q⟩ := Γ
  obtain ⟨hx, hbc, hml, hown, hts, hK, hAA, hlk, hl0, hR0, hZ, hE⟩ := cx
  subst hl0; subst hR0
  intro H locs la hP hA hS hL
  obtain ⟨l1, l2, l4, l5⟩ := hl
  have hG : GoodIn TB (.code y cc' nL' none :: TB) := goodIn_TB (fun w hw => by
    rcases List.mem_cons.mp hw with rfl | h
    · exact l5
    · exact h)
  exact g_ofRun (vx_runI (As := As) (rest := rest) (nL := nL) (g := F0 m pc la st) ⟨hx, hbc, hml, hown, hts⟩ (hM D H.size) (cwI As.length hts hG rfl rfl rfl (hts _ l4) (hts _ l1) (hts _ l2) hin hy hR.1) ⟨gPc_blind, g_pre hK hZ hE hP hAA hA hS⟩ rfl rfl (by rw [← hlen]; exact hL.1) hst (lv_room hW) d hR.2) hAA hA hS hL kN kX
/-- the private constructor of a nest mate, called from GatedLinks -/
theorem g_callIN (cx : CX l0 Γ cc RX6 nL R0) {b : Nat} (hl : (idx, y) ∈ gNst) (hl2 : Cond.instanceMethod y ∈ TB ∧ Cond.initialized y.cls ∈ TB ∧ Cond.code y cc' nL' none ∈ TB) (hM : gM l0 (gdA Γ) y (.code y cc' nL' none) rm σ (.ref b :: As) Post PX) (hin : y.name = "<init>") (hy : gY y As.length) (hR : gRm rm R0 nL' kc ks) (hlen : ls.length = nL) (hW : (rest.map fun v => v.category).sum ≤ 8) (hst : st = As.reverse ++ .ref b :: rest) (d : decode cc pc = .ok (.invokespecial idx, 3))
    (kX : ∀ E σ', PX E σ' → GX Γ σ' (kc + rm.cells) (ks + rm.slots) pc ls rest E)
    (kN : ∀ v σ', Post v σ' → G Γ σ' (kc + rm.cells) (ks + rm.slots) (pc + 3) ls (v.toList ++ rest)) : G Γ σ kc ks pc ls st := by
  obtain ⟨p, l, e, R, s, m, args, below, meth, c, A, D, dA, Q⟩ := Γ
  obtain ⟨hx, hbc, hml, hown, hts, hK, hAA, hlk, hl0, hR0, hZ, hE⟩ := cx
  subst hl0; subst hR0
  intro H locs la hP hA hS hL
  obtain ⟨l2, l4, l5⟩ := hl2
  have hG : GoodIn TB (.code y cc' nL' none :: TB) := goodIn_TB (fun w hw => by
    rcases List.mem_cons.mp hw with rfl | h
    · exact l5
    · exact h)
  exact g_ofRun (vx_runIN (As := As) (rest := rest) (nL := nL) (g := F0 m pc la st) ⟨hx, hbc, hml, hown, hts⟩ (hM D H.size) ⟨va_cnB As.length hts hG rfl rfl rfl (hE.2.2.1 _ hl) (hts _ l4) hy hR.1, hin, hts _ l2⟩ ⟨gPc_blind, g_pre hK hZ hE hP hAA hA hS⟩ rfl rfl (by rw [← hlen]; exact hL.1) hst (lv_room hW) d hR.2) hAA hA hS hL kN kX
/-- not caught here -/
theorem gx_out {E : String} {ret : Option FieldType} (cx : CX l0 Γ cc own nL R0) (rx : RX Γ ret rm Post PX) (nx : NX Γ) (hk : kc ≤ rm.cells) (hs : ks ≤ rm.slots) (hp : PX E σ) : GX Γ σ kc ks pc ls st E := by
  obtain ⟨p, l, e, R, s, m, args, below, meth, c, A, D, dA, Q⟩ := Γ
  obtain ⟨hx, hbc, hml, hown, hts, hK, hAA, hlk, hl0, hR0, hZ, hE⟩ := cx
  obtain ⟨hr, σ0, sz, rfl, rfl⟩ := rx
  intro H locs la q ce hP hA hS hL h1 h2 h3
  exact vx_out (fun x hx => (nx x hx).elim) hlk h1 h2 h3 (fun t ht _ => ⟨σ, hp, by rw [ht]; exact hP, hA, hS.F ht⟩) (fun z hz => hS.2.2 z hz) hk hs
end GCALLS
end
section
/-! G: throws, catches, new objects and arrays, switches -/
section GMORE
variable {l0 : Launch} {Γ : gC} {cc : ByteArray} {own : String} {nL : Nat} {R0 : Room} {σ : hS} {kc ks pc : Nat} {ls : gLs} {st : List Value} {rm : Room} {Post : Option Value → hS → Prop} {PX : String → hS → Prop}
abbrev gNames : List String := ["java/lang/RuntimeException", "java/lang/Exception"]
def gThr (ik ic : Nat) (cls : String) : Prop := Cond.classLink RX6 ik cls ∈ TB ∧ Cond.initialized cls ∈ TB ∧ (∀ w ∈ (vx_atS RX6 ic cls gNames).filter goodWord, w ∈ TB) ∧ (vx_atS RX6 ic cls gNames).all (fun w => goodWord w || decide (w = .castable cls cls)) = true ∧ Bundle.fit cls = true
theorem g_throwS {ret : Option FieldType} (cx : CX l0 Γ cc RX6 nL R0) (hst : l0.stackTraces = false) (rx : RX Γ ret rm Post PX) (nx : NX Γ) (hlen : ls.length = nL) {cls text : String} {ik is ic : Nat} (hcls : cls ∈ gExc) (hstr : (is, text) ∈ gStr) (ht : gThr ik ic cls)
    (d0 : decode cc pc = .ok (.new ik, 3)) (d3 : decode cc (pc + 3) = .ok (.dup, 1)) (d4 : decode cc (pc + 4) = .ok (.ldc is, 2)) (d6 : decode cc (pc + 6) = .ok (.invokespecial ic, 3)) (d9 : decode cc (pc + 9) = .ok (.athrow, 1))
    (hR : 5 < R0.frames ∧ (st.map fun v => v.category).sum + 82 ≤ R0.locals ∧ kc + 1 ≤ R0.cells ∧ ks + 6 ≤ R0.slots) (hk : kc + 1 ≤ rm.cells ∧ ks + 6 ≤ rm.slots) (hp : PX cls σ) : G Γ σ kc ks pc ls st := by
  obtain ⟨p, l, e, R, s, m, args, below, meth, c, A, D, dA, Q⟩ := Γ
  obtain ⟨hx, hbc, hml, hown, hts, hK, hAA, hlk, hl0, hR0, hZ, hE⟩ := cx
  subst hl0; subst hR0
  obtain ⟨hr, σ0, sz, rfl, rfl⟩ := rx
  intro H locs la hP hA hS hL
  obtain ⟨sa, hsa⟩ := hE.2.1 _ hstr
  obtain ⟨t1, t2, t3, t4, t5⟩ := ht
  have hcast : (Cond.castable cls cls).before args s = true := (hE.1 _ hcls).use rfl
  have hall : ∀ w ∈ vx_atS RX6 ic cls gNames, goodWord w = true ∨ w = .castable cls cls := fun w hw => by
    have := List.all_eq_true.mp t4 w hw
    simpa using this
  exact vx_throwS (names := gNames) (sa := sa) hx hbc hst hown t5 (by decide +kernel) (hts _ t1) (hts _ t2) hsa
    (fun w hw => (hall w hw).elim (fun h => hts _ (t3 w (List.mem_filter.mpr ⟨hw, h⟩))) (fun h => by rw [h]; exact hcast))
    (fun w hw => by
      rcases List.mem_cons.mp hw with rfl | hw
      · rfl
      · rcases List.mem_cons.mp hw with rfl | hw
        · rfl
        · rcases hall w hw with h | h
          · unfold vx_ot; rw [h]; simp
          · rw [h]; rfl)
    hZ.1 hZ.2 hS (by rw [hml, ← hlen]; exact hL.1) d0 d3 d4 d6 d9 (fun x hx => (nx x hx).elim) hR.1 hR.2.1 hR.2.2.1 hR.2.2.2 hlk
    (fun t ha hz hq => ⟨σ, hp, fun a e he => (hP a e he).kept (hq a (hP.lt he)), hA, Nat.le_trans hS.1 hz, fun q h1 h2 => (hq q (Nat.lt_of_lt_of_le h1 hS.1)).trans (hS.2.1 q h1 h2)⟩)
    (fun z hz => hS.2.2 z hz) hk.1 hk.2
theorem g_zast {a N : Nat} {f : Nat → Int32} {i x : Int32} (cx : CX l0 Γ cc own nL R0) (hσ : σ a = some (.inl (gdA Γ 1, N, .inl f))) (hin : vp_in i N) (hx01 : narrow .boolean (.int x) = .int x) (d : decode cc pc = .ok (.bastore, 1)) (kk : G Γ (hup σ a (.inl (gdA Γ 1, N, .inl (upd f i.toNatClampNeg x)))) kc ks (pc + 1) ls st) : G Γ σ kc ks pc ls (.int x :: .int i :: .ref a :: st) := by
  obtain ⟨p, l, e, R, s, m, args, below, meth, c, A, D, dA, Q⟩ := Γ
  obtain ⟨hx, hb, hml, hown, hts, hK, hAA, hlk, hl0, hR0, hZ, hE⟩ := cx
  intro H locs la hP hA hS hL
  refine W.zast hx hb (hP a _ hσ) ((hK.2 1 _ rfl).1 N (fun j => .int (f j))) (fun q => by cases q) (by show ¬ (i < 0 ∨ (arrV _ _ _).slots.size ≤ _); rw [arrV_size]; exact hin) rfl rfl d fun H1 e z oq => ?_
  refine kk H1 _ la (hP.put ?_ oq) (g_hA hA hσ) (hS.put z oq (hA a _ hσ)) hL
  show H1[a]? = some (vp_cell _ _)
  rw [e]
  rw [vp_cell_i, vp_cell_i, arrV_store]
  congr 2
  funext q
  by_cases hq : q = i.toNatClampNeg
  · subst hq
    simp [updV, upd, hx01]
  · simp [updV, upd, hq]
/-- int[][] -/
theorem g_aald6 {a N : Nat} {f : Nat → Option Nat} {i : Int32} (cx : CX l0 Γ cc own nL R0) (hσ : σ a = some (.inl (gdA Γ 6, N, .inr (.inr (.inr (.inr f)))))) (hin : vp_in i N) (d : decode cc pc = .ok (.aaload, 1)) (kk : G Γ σ kc ks (pc + 1) ls (va_rf (f i.toNatClampNeg) :: st)) : G Γ σ kc ks pc ls (.int i :: .ref a :: st) := by
  obtain ⟨p, l, e, R, s, m, args, below, meth, c, A, D, dA, Q⟩ := Γ
  obtain ⟨hx, hb, hml, hown, hts, hK, hAA, hlk, hl0, hR0, hZ, hE⟩ := cx
  intro H locs la hP hA hS hL
  have hlt : i.toNatClampNeg < N := Nat.not_le.mp fun q => hin (Or.inr q)
  exact W.aald (v := va_rf (f i.toNatClampNeg)) (ty := .array .int) hx hb (hP a _ hσ) ((hK.2 6 _ rfl).1 N (fun j => va_rf (f j))) rfl (fun q => by cases q) (by show ¬ (i < 0 ∨ (arrV _ _ _).slots.size ≤ _); rw [arrV_size]; exact hin) (by show (arrV _ _ _).slots[_]? = _; rw [arrV_read _ _ hlt]) rfl rfl d (kk H locs la hP hA hS hL)
theorem g_aast {a N v t ci : Nat} {r : vw_C} {vs : List Value} {f : Nat → Option Nat} {i : Int32} (cx : CX l0 Γ cc own nL R0) (hσ : σ a = some (.inl (gdA Γ t, N, .inr (.inr (.inr (.inr f)))))) (hv : σ v = some (.inr (ci, vs))) (hc : gcl[ci]? = some r) (ht : (tyL (gdA Γ))[t]? = some (gdA Γ t, .object r.1)) (hin : vp_in i N) (d : decode cc pc = .ok (.aastore, 1)) (kk : G Γ (hup σ a (.inl (gdA Γ t, N, .inr (.inr (.inr (.inr (va_up f i.toNatClampNeg (some v)))))))) kc ks (pc + 1) ls st) : G Γ σ kc ks pc ls (.ref v :: .int i :: .ref a :: st) := by
  obtain ⟨p, l, e, R, s, m, args, below, meth, c, A, D, dA, Q⟩ := Γ
  obtain ⟨hx, hb, hml, hown, hts, hK, hAA, hlk, hl0, hR0, hZ, hE⟩ := cx
  intro H locs la hP hA hS hL
  have hlt : i.toNatClampNeg < N := Nat.not_le.mp fun q => hin (Or.inr q)
  have h0 : ¬ i < 0 := fun q => hin (Or.inl q)
  obtain ⟨r', hr', cellV, g1, g2, g3, -⟩ := hP v _ hv
  have hcls := (hK.1 ci r hc).2
  obtain ⟨kA, comp, k1, k2, k3, -⟩ := (hK.2 t _ ht).2
  have hcomp : comp = D.1 ci := Option.some.inj (k3.symm.trans hcls.1)
  subst hcomp
  obtain ⟨kC, hkC, -⟩ := hcls.2
  refine W.aast hx hb (hP a _ hσ) (fun q h => by cases h) (fun h => by cases h) k1 k2 rfl hkC ⟨h0, by show _ < (arrV _ _ _).slots.size; rw [arrV_size]; exact hlt⟩ g1 (fun q h => by rw [g3] at h; cases h) (by rw [g2]; exact hkC) (by rw [g2]; exact va_assign hcls) rfl rfl d fun H1 e z oq => ?_
  refine kk H1 _ la (hP.put ?_ oq) (g_hA hA hσ) (hS.put z oq (hA a _ hσ)) hL
  show H1[a]? = some (vp_cell _ _)
  rw [e]
  rw [vp_cell_q, vp_cell_q, arrV_store]
  congr 2
  funext q
  by_cases hq : q = i.toNatClampNeg
  · subst hq
    simp [updV, va_up, va_rf]
  · simp [updV, va_up, hq]
theorem g_hAn {A : Nat → Prop} {H0 H : Heap} {locs : List Loc} {e1 : va_E} (hA : ∀ b e, σ b = some e → A b) (hAA : ∀ q, H0.size ≤ q → A q) (hS : va_S A H0 H locs) : ∀ b e, hup σ H.size e1 b = some e → A b := fun b e hb => by
  by_cases hba : b = H.size
  · subst hba; exact hAA _ hS.1
  · rw [hup_n hba] at hb; exact hA b _ hb
theorem g_fresh {D : va_G} {H : Heap} (hP : hP D σ H) : σ H.size = none := by
  cases h : σ H.size with
  | none => rfl
  | some e => exact absurd (hP.lt h) (Nat.lt_irrefl _)
theorem g_new {idx ci : Nat} {r : vw_C} {fs : List Value} (cx : CX l0 Γ cc own nL R0) (hr : gcl[ci]? = some r) (hw : Cond.classLink own idx r.1 ∈ TB) (hi : Cond.instantiable r.1 r.2.2 ∈ TB) (hn : Cond.initialized r.1 ∈ TB) (hfs : ∀ j, j < r.2.2 → defaultValue (gty ci j) = vp_V fs j) (hc : kc + 1 ≤ R0.cells) (hs : ks + r.2.2 ≤ R0.slots) (d : decode cc pc = .ok (.new idx, 3)) (kk : ∀ q, σ q = none → G Γ (hup σ q (.inr (ci, fs))) (kc + 1) (ks + r.2.2) (pc + 3) ls (.ref q :: st)) : G Γ σ kc ks pc ls st := by
  obtain ⟨p, l, e, R, s, m, args, below, meth, c, A, D, dA, Q⟩ := Γ
  obtain ⟨hx, hb, hml, hown, hts, hK, hAA, hlk, hl0, hR0, hZ, hE⟩ := cx
  subst hR0
  intro H locs la hP hA hS hL
  obtain ⟨h1, h2, h3⟩ := gOk_all ci _ hr
  have hKn := hK.1 ci _ hr
  refine W.newcK hx hb hown (hts _ hw) (hts _ hi) (hts _ hn) rfl d hc hs hKn.2.1 rfl fun H1 kC hkC e1 z1 o1 => ?_
  exact kk H.size (g_fresh hP) H1 locs la (hP.push ⟨_, hr, (u_born (gty ci) hts h1 hKn hkC e1 h2).to hfs⟩ (Nat.le_refl _) o1) (g_hAn hA hAA hS) ⟨Nat.le_trans hS.1 (by omega), fun x h1 h2 => (o1 x (Nat.lt_of_lt_of_le h1 hS.1)).trans (hS.2.1 x h1 h2), hS.2.2⟩ hL
theorem g_newa {atype : ArrayType} {ty : FieldType} {t N : Nat} {n : Int32} {a0 : vp_A} (cx : CX l0 Γ cc own nL R0) (hty : newarray.typeOf atype = ty) (hw : Cond.arrayClass ty ∈ TB) (ht : (tyL (gdA Γ))[t]? = some (gdA Γ t, ty)) (ha : ∀ cA : ClassId, vp_cell cA a0 = arrV cA N (fun _ => defaultValue ty)) (hn : ¬ n < 0) (hN : n.toNatClampNeg = N) (hbytes : N * componentBytes ty ≤ 536870912) (hc : kc + 1 ≤ R0.cells) (hs : ks + N ≤ R0.slots) (d : decode cc pc = .ok (.newarray atype, 2)) (kk : ∀ q, σ q = none → G Γ (hup σ q (.inl (gdA Γ t, a0))) (kc + 1) (ks + N) (pc + 2) ls (.ref q :: st)) : G Γ σ kc ks pc ls (.int n :: st) := by
  subst hty
  obtain ⟨p, l, e, R, s, m, args, below, meth, c, A, D, dA, Q⟩ := Γ
  obtain ⟨hx, hb, hml, hown, hts, hK, hAA, hlk, hl0, hR0, hZ, hE⟩ := cx
  subst hR0
  intro H locs la hP hA hS hL
  refine va_newaK hx hb (hts _ hw) rfl d rfl hn hN hbytes hc hs rfl fun H1 cA e1 z1 o1 hAr hNm => ?_
  have hra := (hK.2 t _ ht).2
  have hcA : cA = dA t := by
    have h0 : s.vm.findClass ("[" ++ (newarray.typeOf atype).toString) = some (dA t) := by cases atype <;> exact hra
    exact Option.some.inj (hNm.symm.trans h0)
  subst hcA
  refine kk H.size (g_fresh hP) H1 locs la (hP.push ?_ (Nat.le_refl _) o1) (g_hAn hA hAA hS) ⟨Nat.le_trans hS.1 (by omega), fun x h1 h2 => (o1 x (Nat.lt_of_lt_of_le h1 hS.1)).trans (hS.2.1 x h1 h2), hS.2.2⟩ hL
  show H1[H.size]? = some (vp_cell _ _)
  have := ha (dA t)
  rw [show vp_cell (gdA (p, l, e, R, s, m, args, below, meth, c, A, D, dA, Q) t) a0 = vp_cell (dA t) a0 from rfl, this]
  exact e1
theorem g_anew {C : String} {idx t N : Nat} {n : Int32} (cx : CX l0 Γ cc own nL R0) (hC : C ∈ gArr) (hw : Cond.classLink own idx C ∈ TB) (ht : (tyL (gdA Γ))[t]? = some (gdA Γ t, .object C)) (hn : ¬ n < 0) (hN : n.toNatClampNeg = N) (hbytes : N * 4 ≤ 536870912) (hc : kc + 1 ≤ R0.cells) (hs : ks + N ≤ R0.slots) (d : decode cc pc = .ok (.anewarray idx, 3)) (kk : ∀ q, σ q = none → G Γ (hup σ q (.inl (gdA Γ t, N, .inr (.inr (.inr (.inr (fun _ => none))))))) (kc + 1) (ks + N) (pc + 3) ls (.ref q :: st)) : G Γ σ kc ks pc ls (.int n :: st) := by
  subst hN
  obtain ⟨p, l, e, R, s, m, args, below, meth, c, A, D, dA, Q⟩ := Γ
  obtain ⟨hx, hb, hml, hown, hts, hK, hAA, hlk, hl0, hR0, hZ, hE⟩ := cx
  subst hR0
  intro H locs la hP hA hS hL
  refine W.anew hx hb hown (hts _ hw) ((hE.2.2.2.1 C hC).use) rfl d rfl hn hbytes hc hs fun cA kA comp f1 f2 f3 f4 => ?_
  generalize hH1 : H.push ({ cls := cA, slots := Array.replicate n.toNatClampNeg .null, vm := .none } : Cell) = H1
  have z1 : H1.size = H.size + 1 := by rw [← hH1, Array.size_push]
  have e1 : H1[H.size]? = some (arrV cA n.toNatClampNeg (fun _ => .null)) := by rw [← hH1, Array.getElem?_push_size, ← arrV_new]
  have o1 : ∀ q : Nat, q < H.size → H1[q]? = H[q]? := fun q hq => by rw [← hH1, Array.getElem?_push, if_neg (Nat.ne_of_lt hq)]
  obtain ⟨kA', comp', k1, k2, k3, k4⟩ := (hK.2 t _ ht).2
  have hcA : cA = dA t := Option.some.inj (f1.symm.trans k4)
  subst hcA
  refine kk H.size (g_fresh hP) H1 locs la (hP.push ?_ (Nat.le_refl _) o1) (g_hAn hA hAA hS) ⟨Nat.le_trans hS.1 (by omega), fun x h1 h2 => (o1 x (Nat.lt_of_lt_of_le h1 hS.1)).trans (hS.2.1 x h1 h2), hS.2.2⟩ hL
  show H1[H.size]? = some (vp_cell _ _)
  rw [vp_cell_q]
  exact e1
theorem g_objInit {idx a : Nat} (cx : CX l0 Γ cc own nL R0) (hw : Cond.methodLink own idx objectInit ∈ TB) (hi : Cond.instanceMethod objectInit ∈ TB) (hcd : Cond.code objectInit ⟨#[0xb1]⟩ 1 none ∈ TB) (hlen : ls.length = nL) (hf : 1 ≤ R0.frames) (hl : (st.map fun v => v.category).sum + 12 ≤ R0.locals) (d : decode cc pc = .ok (.invokespecial idx, 3)) (k : G Γ σ kc ks (pc + 3) ls st) : G Γ σ kc ks pc ls (.ref a :: st) := by
  obtain ⟨p, l, e, R, s, m, args, below, meth, c, A, D, dA, Q⟩ := Γ
  obtain ⟨hx, hb, hml, hown, hts, hK, hAA, hlk, hl0, hR0, hZ, hE⟩ := cx
  subst hR0
  intro H locs la hP hA hS hL
  exact W.objInit hx hb hown (hts _ hw) (hts _ hi) (hts _ hcd) rfl (by rw [hml, ← hlen]; exact hL.1) rfl d hf (by show 2 * 0 + _ + 12 ≤ _; omega) (k H locs la hP hA hS hL)
theorem g_tswIn {dflt lo hi : Int} {offs : Array Int} {len : Nat} {x : Int32} {off : Int} {tgt : Nat} (cx : CX l0 Γ cc own nL R0) (d : decode cc pc = .ok (.tableswitch dflt lo hi offs, len)) (h1 : ¬ x.toInt < lo) (h2 : ¬ hi < x.toInt) (ho : offs[(x.toInt - lo).toNat]? = some off) (ht : (pc : Int) + off = (tgt : Int)) (k : G Γ σ kc ks tgt ls st) : G Γ σ kc ks pc ls (.int x :: st) := by
  obtain ⟨p, l, e, R, s, m, args, below, meth, c, A, D, dA, Q⟩ := Γ
  obtain ⟨hx, hb, hml, hown, hts, hK, hAA, hlk, hl0, hR0, hZ, hE⟩ := cx
  intro H locs la hP hA hS hL
  exact lv_tableIn hx hb d h1 h2 ho ht (k H locs la hP hA hS hL)
theorem g_tswOut {dflt lo hi : Int} {offs : Array Int} {len : Nat} {x : Int32} {tgt : Nat} (cx : CX l0 Γ cc own nL R0) (d : decode cc pc = .ok (.tableswitch dflt lo hi offs, len)) (h : x.toInt < lo ∨ hi < x.toInt) (ht : (pc : Int) + dflt = (tgt : Int)) (k : G Γ σ kc ks tgt ls st) : G Γ σ kc ks pc ls (.int x :: st) := by
  obtain ⟨p, l, e, R, s, m, args, below, meth, c, A, D, dA, Q⟩ := Γ
  obtain ⟨hx, hb, hml, hown, hts, hK, hAA, hlk, hl0, hR0, hZ, hE⟩ := cx
  intro H locs la hP hA hS hL
  exact lv_tableOut hx hb d h ht (k H locs la hP hA hS hL)
theorem g_widen {k n : Nat} (h1 : kc ≤ k) (h2 : ks ≤ n) (kk : G Γ σ k n pc ls st) : G Γ σ kc ks pc ls st := by
  obtain ⟨p, l, e, R, s, m, args, below, meth, c, A, D, dA, Q⟩ := Γ
  intro H locs la hP hA hS hL
  exact W.widen h1 h2 (kk H locs la hP hA hS hL)
end GMORE
end
section
/-! numbers as integers: iI; rows over them -/
def iI (a : Int) : Int32 := Int32.ofInt a
def bz (b : Bool) : Int := if b then 1 else 0
theorem iI_toInt {a : Int} (h : -2147483648 ≤ a ∧ a ≤ 2147483647) : (iI a).toInt = a := Int32.toInt_ofInt_of_le (by omega) (by omega)
theorem iI_of (x : Int32) : ∃ a : Int, (-2147483648 ≤ a ∧ a ≤ 2147483647) ∧ x = iI a := ⟨x.toInt, ⟨by have := Int32.le_toInt x; omega, by have := Int32.toInt_lt x; omega⟩, (Int32.ofInt_toInt x).symm⟩
theorem iI_cl {a : Int} (h : 0 ≤ a ∧ a ≤ 2147483647) : (iI a).toNatClampNeg = a.toNat := by
  show (iI a).toInt.toNat = a.toNat
  rw [iI_toInt (by omega)]
theorem iI_add (a b : Int) : iI a + iI b = iI (a + b) := (Int32.ofInt_add a b).symm
theorem iI_sub (a b : Int) : iI a - iI b = iI (a - b) := (Int32.ofInt_sub a b).symm
theorem iI_mul (a b : Int) : iI a * iI b = iI (a * b) := (Int32.ofInt_mul a b).symm
theorem iI_lt {a b : Int} (ha : -2147483648 ≤ a ∧ a ≤ 2147483647) (hb : -2147483648 ≤ b ∧ b ≤ 2147483647) : iI a < iI b ↔ a < b := by rw [Int32.lt_iff_toInt_lt, iI_toInt ha, iI_toInt hb]
theorem iI_le {a b : Int} (ha : -2147483648 ≤ a ∧ a ≤ 2147483647) (hb : -2147483648 ≤ b ∧ b ≤ 2147483647) : iI a ≤ iI b ↔ a ≤ b := by rw [Int32.le_iff_toInt_le, iI_toInt ha, iI_toInt hb]
theorem iI_eq {a b : Int} (ha : -2147483648 ≤ a ∧ a ≤ 2147483647) (hb : -2147483648 ≤ b ∧ b ≤ 2147483647) : iI a = iI b ↔ a = b := by rw [← Int32.toInt_inj, iI_toInt ha, iI_toInt hb]
theorem iI_0 : (0 : Int32) = iI 0 := rfl
theorem iI_rem {a b : Int} (ha : -2147483648 ≤ a ∧ a ≤ 2147483647) (hb : 0 < b ∧ b ≤ 2147483647) : iI a - iI a / iI b * iI b = iI (a.tmod b) := by
  have h1 : iI a / iI b = iI (a.tdiv b) := by
    refine Int32.toInt_inj.mp ?_
    have hne : iI b ≠ -1 := fun h => by
      have := congrArg Int32.toInt h
      rw [iI_toInt (by omega)] at this
      have h2 : (-1 : Int32).toInt = -1 := rfl
      omega
    rw [Int32.toInt_div_of_ne_right _ _ hne, iI_toInt ha, iI_toInt (by omega), iI_toInt]
    have h3 := Int.natAbs_tdiv_le_natAbs a b
    rcases Int.le_total 0 a with h0 | h0
    · have h4 := Int.tdiv_nonneg h0 (show 0 ≤ b by omega)
      omega
    · have h4 := Int.tdiv_nonneg (show 0 ≤ -a by omega) (show 0 ≤ b by omega)
      rw [Int.neg_tdiv] at h4
      omega
  rw [h1, iI_mul, iI_sub]
  congr 1
  have := Int.tdiv_mul_add_tmod a b
  omega
theorem iI_in {a : Int} {N : Nat} (h : 0 ≤ a ∧ a < (N : Int)) (hN : (N : Int) ≤ 2147483647) : vp_in (iI a) N := by
  rw [vp_in_iff, iI_toInt (by omega)]
  omega
theorem iI_bz (b : Bool) : narrow .boolean (.int (iI (bz b))) = .int (iI (bz b)) := by cases b <;> rfl
section ZROWS
variable {l0 : Launch} {Γ : gC} {cc : ByteArray} {own : String} {nL : Nat} {R0 : Room} {σ : hS} {kc ks pc : Nat} {ls : gLs} {st : List Value} {a b : Int}
theorem z_iconst {z : Int} (cx : CX l0 Γ cc own nL R0) (d : decode cc pc = .ok (.iconst z, 1)) (k : G Γ σ kc ks (pc + 1) ls (.int (iI z) :: st)) : G Γ σ kc ks pc ls st := g_iconst cx rfl d k
theorem z_bipush {z : Int} (cx : CX l0 Γ cc own nL R0) (h : (Int8.ofInt z).toInt32 = iI z) (d : decode cc pc = .ok (.bipush z, 2)) (k : G Γ σ kc ks (pc + 2) ls (.int (iI z) :: st)) : G Γ σ kc ks pc ls st := g_bipush cx h d k
theorem z_sipush {z : Int} (cx : CX l0 Γ cc own nL R0) (h : (Int16.ofInt z).toInt32 = iI z) (d : decode cc pc = .ok (.sipush z, 3)) (k : G Γ σ kc ks (pc + 3) ls (.int (iI z) :: st)) : G Γ σ kc ks pc ls st := g_sipush cx h d k
theorem z_iadd (cx : CX l0 Γ cc own nL R0) (d : decode cc pc = .ok (.iadd, 1)) (k : G Γ σ kc ks (pc + 1) ls (.int (iI (a + b)) :: st)) : G Γ σ kc ks pc ls (.int (iI b) :: .int (iI a) :: st) := g_iadd cx d (by rw [iI_add]; exact k)
theorem z_isub (cx : CX l0 Γ cc own nL R0) (d : decode cc pc = .ok (.isub, 1)) (k : G Γ σ kc ks (pc + 1) ls (.int (iI (a - b)) :: st)) : G Γ σ kc ks pc ls (.int (iI b) :: .int (iI a) :: st) := g_isub cx d (by rw [iI_sub]; exact k)
theorem z_imul (cx : CX l0 Γ cc own nL R0) (d : decode cc pc = .ok (.imul, 1)) (k : G Γ σ kc ks (pc + 1) ls (.int (iI (a * b)) :: st)) : G Γ σ kc ks pc ls (.int (iI b) :: .int (iI a) :: st) := g_imul cx d (by rw [iI_mul]; exact k)
theorem z_irem (cx : CX l0 Γ cc own nL R0) (h : (-2147483648 ≤ a ∧ a ≤ 2147483647) ∧ (0 < b ∧ b ≤ 2147483647)) (d : decode cc pc = .ok (.irem, 1)) (k : G Γ σ kc ks (pc + 1) ls (.int (iI (a.tmod b)) :: st)) : G Γ σ kc ks pc ls (.int (iI b) :: .int (iI a) :: st) := by
  refine g_irem cx (fun q => ?_) d (by rw [iI_rem h.1 h.2]; exact k)
  rw [iI_0, iI_eq (by omega) (by omega)] at q
  omega
theorem z_iinc {i : Nat} {z : Int} (cx : CX l0 Γ cc own nL R0) (hl : ls[i]? = some (some (.int (iI a)))) (d : decode cc pc = .ok (.iinc i z, 3)) (k : G Γ σ kc ks (pc + 3) (ls.set i (some (.int (iI (a + z))))) st) : G Γ σ kc ks pc ls st := g_iinc cx hl (iI_add a z) d k
variable {off : Int} {tgt : Nat}
theorem z_if_eq (cx : CX l0 Γ cc own nL R0) (h : -2147483648 ≤ a ∧ a ≤ 2147483647) (ht : (pc : Int) + off = (tgt : Int)) (d : decode cc pc = .ok (.ifCond .eq off, 3)) (k1 : a = 0 → G Γ σ kc ks tgt ls st) (k2 : ¬ a = 0 → G Γ σ kc ks (pc + 3) ls st) : G Γ σ kc ks pc ls (.int (iI a) :: st) :=
  g_if_eq cx ht d (fun q => k1 (by rw [iI_0, iI_eq h (by omega)] at q; exact q)) (fun q => k2 (by rw [iI_0, iI_eq h (by omega)] at q; exact q))
theorem z_if_ne (cx : CX l0 Γ cc own nL R0) (h : -2147483648 ≤ a ∧ a ≤ 2147483647) (ht : (pc : Int) + off = (tgt : Int)) (d : decode cc pc = .ok (.ifCond .ne off, 3)) (k1 : ¬ a = 0 → G Γ σ kc ks tgt ls st) (k2 : a = 0 → G Γ σ kc ks (pc + 3) ls st) : G Γ σ kc ks pc ls (.int (iI a) :: st) :=
  g_if_ne cx ht d (fun q => k1 (by rw [iI_0, iI_eq h (by omega)] at q; exact q)) (fun q => k2 (by rw [iI_0, iI_eq h (by omega)] at q; exact q))
theorem z_if_lt (cx : CX l0 Γ cc own nL R0) (h : -2147483648 ≤ a ∧ a ≤ 2147483647) (ht : (pc : Int) + off = (tgt : Int)) (d : decode cc pc = .ok (.ifCond .lt off, 3)) (k1 : a < 0 → G Γ σ kc ks tgt ls st) (k2 : 0 ≤ a → G Γ σ kc ks (pc + 3) ls st) : G Γ σ kc ks pc ls (.int (iI a) :: st) :=
  g_if_lt cx ht d (fun q => k1 (by rw [iI_0, iI_lt h (by omega)] at q; exact q)) (fun q => k2 (by rw [iI_0, iI_lt h (by omega)] at q; omega))
theorem z_if_ge (cx : CX l0 Γ cc own nL R0) (h : -2147483648 ≤ a ∧ a ≤ 2147483647) (ht : (pc : Int) + off = (tgt : Int)) (d : decode cc pc = .ok (.ifCond .ge off, 3)) (k1 : 0 ≤ a → G Γ σ kc ks tgt ls st) (k2 : a < 0 → G Γ σ kc ks (pc + 3) ls st) : G Γ σ kc ks pc ls (.int (iI a) :: st) :=
  g_if_ge cx ht d (fun q => k1 (by rw [iI_0, iI_le (by omega) h] at q; exact q)) (fun q => k2 (by rw [iI_0, iI_le (by omega) h] at q; omega))
theorem z_if_gt (cx : CX l0 Γ cc own nL R0) (h : -2147483648 ≤ a ∧ a ≤ 2147483647) (ht : (pc : Int) + off = (tgt : Int)) (d : decode cc pc = .ok (.ifCond .gt off, 3)) (k1 : 0 < a → G Γ σ kc ks tgt ls st) (k2 : a ≤ 0 → G Γ σ kc ks (pc + 3) ls st) : G Γ σ kc ks pc ls (.int (iI a) :: st) :=
  g_if_gt cx ht d (fun q => k1 (by rw [iI_0, iI_lt (by omega) h] at q; exact q)) (fun q => k2 (by rw [iI_0, iI_lt (by omega) h] at q; omega))
theorem z_if_le (cx : CX l0 Γ cc own nL R0) (h : -2147483648 ≤ a ∧ a ≤ 2147483647) (ht : (pc : Int) + off = (tgt : Int)) (d : decode cc pc = .ok (.ifCond .le off, 3)) (k1 : a ≤ 0 → G Γ σ kc ks tgt ls st) (k2 : 0 < a → G Γ σ kc ks (pc + 3) ls st) : G Γ σ kc ks pc ls (.int (iI a) :: st) :=
  g_if_le cx ht d (fun q => k1 (by rw [iI_0, iI_le h (by omega)] at q; exact q)) (fun q => k2 (by rw [iI_0, iI_le h (by omega)] at q; omega))
abbrev zR (a b : Int) : Prop := (-2147483648 ≤ a ∧ a ≤ 2147483647) ∧ (-2147483648 ≤ b ∧ b ≤ 2147483647)
theorem z_icmp_eq (cx : CX l0 Γ cc own nL R0) (h : zR a b) (ht : (pc : Int) + off = (tgt : Int)) (d : decode cc pc = .ok (.if_icmp .eq off, 3)) (k1 : a = b → G Γ σ kc ks tgt ls st) (k2 : ¬ a = b → G Γ σ kc ks (pc + 3) ls st) : G Γ σ kc ks pc ls (.int (iI b) :: .int (iI a) :: st) :=
  g_icmp_eq cx ht d (fun q => k1 (by rw [iI_eq h.1 h.2] at q; exact q)) (fun q => k2 (by rw [iI_eq h.1 h.2] at q; exact q))
theorem z_icmp_ne (cx : CX l0 Γ cc own nL R0) (h : zR a b) (ht : (pc : Int) + off = (tgt : Int)) (d : decode cc pc = .ok (.if_icmp .ne off, 3)) (k1 : ¬ a = b → G Γ σ kc ks tgt ls st) (k2 : a = b → G Γ σ kc ks (pc + 3) ls st) : G Γ σ kc ks pc ls (.int (iI b) :: .int (iI a) :: st) :=
  g_icmp_ne cx ht d (fun q => k1 (by rw [iI_eq h.1 h.2] at q; exact q)) (fun q => k2 (by rw [iI_eq h.1 h.2] at q; exact q))
theorem z_icmp_lt (cx : CX l0 Γ cc own nL R0) (h : zR a b) (ht : (pc : Int) + off = (tgt : Int)) (d : decode cc pc = .ok (.if_icmp .lt off, 3)) (k1 : a < b → G Γ σ kc ks tgt ls st) (k2 : b ≤ a → G Γ σ kc ks (pc + 3) ls st) : G Γ σ kc ks pc ls (.int (iI b) :: .int (iI a) :: st) :=
  g_icmp_lt cx ht d (fun q => k1 (by rw [iI_lt h.1 h.2] at q; exact q)) (fun q => k2 (by rw [iI_lt h.1 h.2] at q; omega))
theorem z_icmp_ge (cx : CX l0 Γ cc own nL R0) (h : zR a b) (ht : (pc : Int) + off = (tgt : Int)) (d : decode cc pc = .ok (.if_icmp .ge off, 3)) (k1 : b ≤ a → G Γ σ kc ks tgt ls st) (k2 : a < b → G Γ σ kc ks (pc + 3) ls st) : G Γ σ kc ks pc ls (.int (iI b) :: .int (iI a) :: st) :=
  g_icmp_ge cx ht d (fun q => k1 (by rw [iI_le h.2 h.1] at q; exact q)) (fun q => k2 (by rw [iI_le h.2 h.1] at q; omega))
theorem z_icmp_gt (cx : CX l0 Γ cc own nL R0) (h : zR a b) (ht : (pc : Int) + off = (tgt : Int)) (d : decode cc pc = .ok (.if_icmp .gt off, 3)) (k1 : b < a → G Γ σ kc ks tgt ls st) (k2 : a ≤ b → G Γ σ kc ks (pc + 3) ls st) : G Γ σ kc ks pc ls (.int (iI b) :: .int (iI a) :: st) :=
  g_icmp_gt cx ht d (fun q => k1 (by rw [iI_lt h.2 h.1] at q; exact q)) (fun q => k2 (by rw [iI_lt h.2 h.1] at q; omega))
theorem z_icmp_le (cx : CX l0 Γ cc own nL R0) (h : zR a b) (ht : (pc : Int) + off = (tgt : Int)) (d : decode cc pc = .ok (.if_icmp .le off, 3)) (k1 : a ≤ b → G Γ σ kc ks tgt ls st) (k2 : b < a → G Γ σ kc ks (pc + 3) ls st) : G Γ σ kc ks pc ls (.int (iI b) :: .int (iI a) :: st) :=
  g_icmp_le cx ht d (fun q => k1 (by rw [iI_le h.1 h.2] at q; exact q)) (fun q => k2 (by rw [iI_le h.1 h.2] at q; omega))
theorem z_ret {rm : Room} {Post : Option Value → hS → Prop} {PX : String → hS → Prop} (cx : CX l0 Γ cc own nL R0) (rx : RX Γ (some .int) rm Post PX) (hk : kc ≤ rm.cells) (hs : ks ≤ rm.slots) (d : decode cc pc = .ok (.ireturn, 1)) (hp : Post (some (.int (iI a))) σ) : G Γ σ kc ks pc ls [.int (iI a)] := g_ireturn cx rx hk hs d hp
theorem z_retb {rm : Room} {Post : Option Value → hS → Prop} {PX : String → hS → Prop} {b : Bool} (cx : CX l0 Γ cc own nL R0) (rx : RX Γ (some .boolean) rm Post PX) (hk : kc ≤ rm.cells) (hs : ks ≤ rm.slots) (d : decode cc pc = .ok (.ireturn, 1)) (hab : a = bz b) (hp : Post (some (.int (iI (bz b)))) σ) : G Γ σ kc ks pc ls [.int (iI a)] := by
  subst hab
  exact g_zreturn cx rx hk hs (iI_bz b) d hp
end ZROWS
end
section
/-! THE REFERENCE: its one object and its arrays as a table of integers: S k e, field k, place e (an int field: place 0) -/
abbrev mS : Type := Nat → Int → Int
def mFs (ad : Nat → Nat) (S : mS) : List Value := [.int (iI (S 0 0)), .ref (ad 1), .int (iI (S 2 0)), .ref (ad 3), .ref (ad 4), .ref (ad 5), .ref (ad 6), .ref (ad 7), .ref (ad 8), .ref (ad 9), .ref (ad 10), .ref (ad 11), .ref (ad 12), .int (iI (S 13 0)), .ref (ad 14), .int (iI (S 15 0)), .ref (ad 16), .ref (ad 17), .ref (ad 18), .ref (ad 19), .ref (ad 20), .ref (ad 21), .ref (ad 22), .int (iI (S 23 0)), .ref (ad 24), .ref (ad 25), .ref (ad 26), .ref (ad 27), .ref (ad 28), .ref (ad 29), .ref (ad 30)]
def mLen (k : Nat) : Nat := [0, 6, 0, 5, 5, 5, 15, 3, 15, 15, 15, 45, 45, 0, 5, 0, 5, 5, 5, 5, 5, 5, 5, 0, 64, 64, 6, 6, 24, 6, 6].getD k 0
def mT (k : Nat) : Nat := if k = 16 ∨ k = 18 ∨ k = 26 then 1 else 0
/-- place e of field k is v now -/
def mw (S : mS) (k : Nat) (e v : Int) : mS := fun a b => if a = k ∧ b = e then v else S a b
theorem mw_s {S : mS} {k : Nat} {e v : Int} : mw S k e v k e = v := if_pos ⟨rfl, rfl⟩
theorem mw_k {S : mS} {k a : Nat} {e b v : Int} (h : a ≠ k) : mw S k e v a b = S a b := if_neg (fun q => h q.1)
theorem mw_e {S : mS} {k a : Nat} {e b v : Int} (h : b ≠ e) : mw S k e v a b = S a b := if_neg (fun q => h q.2)
def mat (dA : Nat → ClassId) (ad : Nat → Nat) (σ : hS) (h : Nat) (S : mS) : Prop := σ h = some (.inr (7, mFs ad S)) ∧ (∀ k, 0 < mLen k → σ (ad k) = some (.inl (dA (mT k), mLen k, .inl (fun j => iI (S k (j : Int)))))) ∧ (∀ k, 0 < mLen k → ad k ≠ h) ∧ ∀ k k', 0 < mLen k → 0 < mLen k' → ad k = ad k' → k = k'
/-- nothing else changed -/
def mFr (ad : Nat → Nat) (h : Nat) (σ σ' : hS) : Prop := ∀ a, a ≠ h → (∀ k, 0 < mLen k → a ≠ ad k) → σ' a = σ a
theorem mFr.rf {ad : Nat → Nat} {h : Nat} {σ : hS} : mFr ad h σ σ := fun _ _ _ => rfl
theorem mFr.tr {ad : Nat → Nat} {h : Nat} {σ σ1 σ2 : hS} (h1 : mFr ad h σ σ1) (h2 : mFr ad h σ1 σ2) : mFr ad h σ σ2 := fun a q1 q2 => (h2 a q1 q2).trans (h1 a q1 q2)
/-- what a method of the reference does: its answer, the table behind it -/
def mP (dA : Nat → ClassId) (ad : Nat → Nat) (h : Nat) (σ : hS) (r : Option Value) (S : mS) : Option Value → hS → Prop := fun v σ' => v = r ∧ mat dA ad σ' h S ∧ mFr ad h σ σ'
def nX : String → hS → Prop := fun _ _ => False
theorem mat_putA {dA : Nat → ClassId} {ad : Nat → Nat} {σ : hS} {h : Nat} {S : mS} (hm : mat dA ad σ h S) {k : Nat} {e v : Int} (hk : 0 < mLen k) {f : Nat → Int32} (hf : ∀ j : Nat, f j = iI (mw S k e v k (j : Int))) : mat dA ad (hup σ (ad k) (.inl (dA (mT k), mLen k, .inl f))) h (mw S k e v) ∧ mFr ad h σ (hup σ (ad k) (.inl (dA (mT k), mLen k, .inl f))) := by
  obtain ⟨h1, h2, h3, h4⟩ := hm
  refine ⟨⟨?_, fun k' hk' => ?_, h3, h4⟩, fun a q1 q2 => hup_n (q2 k hk)⟩
  · rw [hup_n (Ne.symm (h3 k hk)), h1]
    have : mFs ad (mw S k e v) = mFs ad S := by
      have hne : k ≠ 0 ∧ k ≠ 2 ∧ k ≠ 13 ∧ k ≠ 15 ∧ k ≠ 23 := by
        refine ⟨?_, ?_, ?_, ?_, ?_⟩ <;> (intro q; subst q; exact absurd hk (by decide))
      unfold mFs
      rw [mw_k (Ne.symm hne.1), mw_k (Ne.symm hne.2.1), mw_k (Ne.symm hne.2.2.1), mw_k (Ne.symm hne.2.2.2.1), mw_k (Ne.symm hne.2.2.2.2)]
    rw [this]
  · by_cases hkk : k' = k
    · subst hkk
      rw [hup_s]
      have : f = fun j : Nat => iI (mw S k' e v k' (j : Int)) := funext hf
      rw [this]
    · rw [hup_n (fun q => hkk (h4 k' k hk' hk q)), h2 k' hk']
      have : (fun j : Nat => iI (mw S k e v k' (j : Int))) = fun j : Nat => iI (S k' (j : Int)) := funext fun j => by rw [mw_k hkk]
      rw [this]
theorem mat_putI {dA : Nat → ClassId} {ad : Nat → Nat} {σ : hS} {h : Nat} {S : mS} (hm : mat dA ad σ h S) {k : Nat} {v : Int} (hk : mLen k = 0) {fs : List Value} (hf : fs = mFs ad (mw S k 0 v)) : mat dA ad (hup σ h (.inr (7, fs))) h (mw S k 0 v) ∧ mFr ad h σ (hup σ h (.inr (7, fs))) := by
  obtain ⟨h1, h2, h3, h4⟩ := hm
  refine ⟨⟨by rw [hup_s, hf], fun k' hk' => ?_, h3, h4⟩, fun a q1 q2 => hup_n q1⟩
  rw [hup_n (h3 k' hk'), h2 k' hk']
  have hne : k' ≠ k := fun q => by subst q; omega
  have : (fun j : Nat => iI (mw S k 0 v k' (j : Int))) = fun j : Nat => iI (S k' (j : Int)) := funext fun j => by rw [mw_k hne]
  rw [this]
theorem mFs_0 (ad : Nat → Nat) (S : mS) (v : Int) : (mFs ad S).set 0 (.int (iI v)) = mFs ad (mw S 0 0 v) := by simp [mFs, mw]
theorem mFs_2 (ad : Nat → Nat) (S : mS) (v : Int) : (mFs ad S).set 2 (.int (iI v)) = mFs ad (mw S 2 0 v) := by simp [mFs, mw]
theorem mFs_13 (ad : Nat → Nat) (S : mS) (v : Int) : (mFs ad S).set 13 (.int (iI v)) = mFs ad (mw S 13 0 v) := by simp [mFs, mw]
theorem mFs_15 (ad : Nat → Nat) (S : mS) (v : Int) : (mFs ad S).set 15 (.int (iI v)) = mFs ad (mw S 15 0 v) := by simp [mFs, mw]
theorem mFs_23 (ad : Nat → Nat) (S : mS) (v : Int) : (mFs ad S).set 23 (.int (iI v)) = mFs ad (mw S 23 0 v) := by simp [mFs, mw]
section MROWS
variable {l0 : Launch} {Γ : gC} {cc : ByteArray} {own : String} {nL : Nat} {R0 : Room} {σ σ0 : hS} {kc ks pc idx : Nat} {ls : gLs} {st : List Value} {ad : Nat → Nat} {h : Nat} {S : mS}
theorem m_iald {k L : Nat} {e : Int} (cx : CX l0 Γ cc own nL R0) (hm : mat (gdA Γ) ad σ h S) (hk : mLen k = L ∧ mT k = 0 ∧ 0 < mLen k ∧ mLen k < 100) (d : decode cc pc = .ok (.iaload, 1)) (he : 0 ≤ e ∧ e < (L : Int)) (kk : G Γ σ kc ks (pc + 1) ls (.int (iI (S k e)) :: st)) : G Γ σ kc ks pc ls (.int (iI e) :: .ref (ad k) :: st) := by
  obtain ⟨rfl, hT, h0, h1⟩ := hk
  have hc := hm.2.1 k h0
  rw [hT] at hc
  refine g_iald cx hc (iI_in he (by omega)) d ?_
  rw [iI_cl (by omega)]
  have : ((e.toNat : Nat) : Int) = e := by omega
  rw [this]
  exact kk
theorem m_zald {k L : Nat} {e : Int} (cx : CX l0 Γ cc own nL R0) (hm : mat (gdA Γ) ad σ h S) (hk : mLen k = L ∧ mT k = 1 ∧ 0 < mLen k ∧ mLen k < 100) (d : decode cc pc = .ok (.baload, 1)) (he : 0 ≤ e ∧ e < (L : Int)) (kk : G Γ σ kc ks (pc + 1) ls (.int (iI (S k e)) :: st)) : G Γ σ kc ks pc ls (.int (iI e) :: .ref (ad k) :: st) := by
  obtain ⟨rfl, hT, h0, h1⟩ := hk
  have hc := hm.2.1 k h0
  rw [hT] at hc
  refine g_zald cx hc (iI_in he (by omega)) d ?_
  rw [iI_cl (by omega)]
  have : ((e.toNat : Nat) : Int) = e := by omega
  rw [this]
  exact kk
theorem mw_upd {k : Nat} {e v : Int} (he : 0 ≤ e) : ∀ j : Nat, upd (fun j : Nat => iI (S k (j : Int))) e.toNat (iI v) j = iI (mw S k e v k (j : Int)) := fun j => by
  unfold upd mw
  by_cases hj : j = e.toNat
  · rw [if_pos hj, if_pos ⟨rfl, by omega⟩]
  · rw [if_neg hj, if_neg (fun q => hj (by omega))]
theorem m_iast {k L : Nat} {e v : Int} (cx : CX l0 Γ cc own nL R0) (hm : mat (gdA Γ) ad σ h S) (hF : mFr ad h σ0 σ) (hk : mLen k = L ∧ mT k = 0 ∧ 0 < mLen k ∧ mLen k < 100) (d : decode cc pc = .ok (.iastore, 1)) (he : 0 ≤ e ∧ e < (L : Int)) (kk : ∀ σ', mat (gdA Γ) ad σ' h (mw S k e v) → mFr ad h σ0 σ' → G Γ σ' kc ks (pc + 1) ls st) : G Γ σ kc ks pc ls (.int (iI v) :: .int (iI e) :: .ref (ad k) :: st) := by
  obtain ⟨rfl, hT, h0, h1⟩ := hk
  have hc := hm.2.1 k h0
  rw [hT] at hc
  refine g_iast cx hc (iI_in he (by omega)) d ?_
  rw [iI_cl (by omega)]
  obtain ⟨q1, q2⟩ := mat_putA hm (k := k) (e := e) (v := v) h0 (mw_upd he.1)
  rw [hT] at q1 q2
  exact kk _ q1 (hF.tr q2)
theorem m_zast {k L : Nat} {e v : Int} (cx : CX l0 Γ cc own nL R0) (hm : mat (gdA Γ) ad σ h S) (hF : mFr ad h σ0 σ) (hk : mLen k = L ∧ mT k = 1 ∧ 0 < mLen k ∧ mLen k < 100) (d : decode cc pc = .ok (.bastore, 1)) (he : 0 ≤ e ∧ e < (L : Int)) (hv : v = 0 ∨ v = 1) (kk : ∀ σ', mat (gdA Γ) ad σ' h (mw S k e v) → mFr ad h σ0 σ' → G Γ σ' kc ks (pc + 1) ls st) : G Γ σ kc ks pc ls (.int (iI v) :: .int (iI e) :: .ref (ad k) :: st) := by
  obtain ⟨rfl, hT, h0, h1⟩ := hk
  have hc := hm.2.1 k h0
  rw [hT] at hc
  refine g_zast cx hc (iI_in he (by omega)) (by rcases hv with rfl | rfl <;> rfl) d ?_
  rw [iI_cl (by omega)]
  obtain ⟨q1, q2⟩ := mat_putA hm (k := k) (e := e) (v := v) h0 (mw_upd he.1)
  rw [hT] at q1 q2
  exact kk _ q1 (hF.tr q2)
theorem m_get {k : Nat} {v : Value} (cx : CX l0 Γ cc own nL R0) (hm : mat (gdA Γ) ad σ h S) (hf : gF own idx 7 k) (hv : (mFs ad S)[k]? = some v) (d : decode cc pc = .ok (.getfield idx, 3)) (kk : G Γ σ kc ks (pc + 3) ls (v :: st)) : G Γ σ kc ks pc ls (.ref h :: st) := g_getf cx hf hm.1 hv d kk
theorem m_put {k : Nat} {v : Int} (cx : CX l0 Γ cc own nL R0) (hm : mat (gdA Γ) ad σ h S) (hF : mFr ad h σ0 σ) (hf : gF own idx 7 k) (hk : mLen k = 0 ∧ gFin 7 k = false ∧ k < 31 ∧ gty 7 k = .int) (hs : (mFs ad S).set k (.int (iI v)) = mFs ad (mw S k 0 v)) (d : decode cc pc = .ok (.putfield idx, 3)) (kk : ∀ σ', mat (gdA Γ) ad σ' h (mw S k 0 v) → mFr ad h σ0 σ' → G Γ σ' kc ks (pc + 3) ls st) : G Γ σ kc ks pc ls (.int (iI v) :: .ref h :: st) := by
  obtain ⟨h0, h1, h2, h3⟩ := hk
  refine g_putf cx hf h1 hm.1 (by simpa [mFs] using h2) (by rw [h3]; rfl) (by rw [h3]; rfl) d ?_
  obtain ⟨q1, q2⟩ := mat_putI hm (k := k) (v := v) h0 hs
  exact kk _ q1 (hF.tr q2)
variable {y : MethodName} {cc' : ByteArray} {nL' : Nat} {ret' : Option FieldType} {rm : Room} {rest As : List Value} {r : Option Value} {S' : mS}
theorem m_callV (cx : CX l0 Γ cc own nL R0) (hl : gV own idx y (.code y cc' nL' ret')) (hM : gM l0 (gdA Γ) y (.code y cc' nL' ret') rm σ (.ref h :: As) (mP (gdA Γ) ad h σ r S') nX) (hm : mat (gdA Γ) ad σ h S) (hF : mFr ad h σ0 σ) (hc : y.cls = RX7) (hy : gY y As.length) (hR : gRm rm R0 nL' kc ks) (h0 : rm.cells = 0 ∧ rm.slots = 0) (hlen : ls.length = nL) (hst : st = As.reverse ++ .ref h :: rest) (hW : (rest.map fun v => v.category).sum ≤ 8) (d : decode cc pc = .ok (.invokevirtual idx, 3))
    (kk : ∀ σ', mat (gdA Γ) ad σ' h S' → mFr ad h σ0 σ' → G Γ σ' kc ks (pc + 3) ls (r.toList ++ rest)) : G Γ σ kc ks pc ls st := by
  refine g_callV cx hl hM hm.1 (by rw [hc]; rfl) hy hR hlen hW hst d (fun _ _ q => q.elim) (fun v σ' q => ?_)
  obtain ⟨rfl, q1, q2⟩ := q
  rw [h0.1, h0.2]
  exact kk σ' q1 (hF.tr q2)
/-- a static method: answers out of its arguments alone -/
def sP (σ : hS) (r : Option Value) : Option Value → hS → Prop := fun v σ' => v = r ∧ σ' = σ
theorem m_callS (cx : CX l0 Γ cc own nL R0) (hl : gS own idx y (.code y cc' nL' ret')) (hM : gM l0 (gdA Γ) y (.code y cc' nL' ret') rm σ As (sP σ r) nX) (hy : gY y As.length) (hR : gRm rm R0 nL' kc ks) (h0 : rm.cells = 0 ∧ rm.slots = 0) (hlen : ls.length = nL) (hst : st = As.reverse ++ rest) (hW : (rest.map fun v => v.category).sum ≤ 8) (d : decode cc pc = .ok (.invokestatic idx, 3))
    (kk : G Γ σ kc ks (pc + 3) ls (r.toList ++ rest)) : G Γ σ kc ks pc ls st := by
  refine g_callS cx hl hM hy hR hlen hW hst d (fun _ _ q => q.elim) (fun v σ' q => ?_)
  obtain ⟨rfl, rfl⟩ := q
  rw [h0.1, h0.2]
  exact kk
end MROWS
end
section
/-! locals: a row a place (written by program) -/
theorem z_al_1_0 {l0 : Launch} {Γ : gC} {cc : ByteArray} {own : String} {nL : Nat} {R0 : Room} {σ : hS} {kc ks pc : Nat} {st : List Value} {v : Nat} (cx : CX l0 Γ cc own nL R0) (d : decode cc pc = .ok (.aload_n 0, 1)) (k : G Γ σ kc ks (pc + 1) [some (.ref v)] (.ref v :: st)) : G Γ σ kc ks pc [some (.ref v)] st := g_aload_n (q := 0) (i := 0) cx rfl rfl d k
theorem z_al_2_0 {l0 : Launch} {Γ : gC} {cc : ByteArray} {own : String} {nL : Nat} {R0 : Room} {σ : hS} {kc ks pc : Nat} {st : List Value} {x1 : Option Value} {v : Nat} (cx : CX l0 Γ cc own nL R0) (d : decode cc pc = .ok (.aload_n 0, 1)) (k : G Γ σ kc ks (pc + 1) [some (.ref v), x1] (.ref v :: st)) : G Γ σ kc ks pc [some (.ref v), x1] st := g_aload_n (q := 0) (i := 0) cx rfl rfl d k
theorem z_al_2_1 {l0 : Launch} {Γ : gC} {cc : ByteArray} {own : String} {nL : Nat} {R0 : Room} {σ : hS} {kc ks pc : Nat} {st : List Value} {x0 : Option Value} {v : Nat} (cx : CX l0 Γ cc own nL R0) (d : decode cc pc = .ok (.aload_n 1, 1)) (k : G Γ σ kc ks (pc + 1) [x0, some (.ref v)] (.ref v :: st)) : G Γ σ kc ks pc [x0, some (.ref v)] st := g_aload_n (q := 1) (i := 1) cx rfl rfl d k
theorem z_al_3_0 {l0 : Launch} {Γ : gC} {cc : ByteArray} {own : String} {nL : Nat} {R0 : Room} {σ : hS} {kc ks pc : Nat} {st : List Value} {x1 x2 : Option Value} {v : Nat} (cx : CX l0 Γ cc own nL R0) (d : decode cc pc = .ok (.aload_n 0, 1)) (k : G Γ σ kc ks (pc + 1) [some (.ref v), x1, x2] (.ref v :: st)) : G Γ σ kc ks pc [some (.ref v), x1, x2] st := g_aload_n (q := 0) (i := 0) cx rfl rfl d k
theorem z_al_3_1 {l0 : Launch} {Γ : gC} {cc : ByteArray} {own : String} {nL : Nat} {R0 : Room} {σ : hS} {kc ks pc : Nat} {st : List Value} {x0 x2 : Option Value} {v : Nat} (cx : CX l0 Γ cc own nL R0) (d : decode cc pc = .ok (.aload_n 1, 1)) (k : G Γ σ kc ks (pc + 1) [x0, some (.ref v), x2] (.ref v :: st)) : G Γ σ kc ks pc [x0, some (.ref v), x2] st := g_aload_n (q := 1) (i := 1) cx rfl rfl d k
theorem z_al_3_2 {l0 : Launch} {Γ : gC} {cc : ByteArray} {own : String} {nL : Nat} {R0 : Room} {σ : hS} {kc ks pc : Nat} {st : List Value} {x0 x1 : Option Value} {v : Nat} (cx : CX l0 Γ cc own nL R0) (d : decode cc pc = .ok (.aload_n 2, 1)) (k : G Γ σ kc ks (pc + 1) [x0, x1, some (.ref v)] (.ref v :: st)) : G Γ σ kc ks pc [x0, x1, some (.ref v)] st := g_aload_n (q := 2) (i := 2) cx rfl rfl d k
theorem z_al_4_0 {l0 : Launch} {Γ : gC} {cc : ByteArray} {own : String} {nL : Nat} {R0 : Room} {σ : hS} {kc ks pc : Nat} {st : List Value} {x1 x2 x3 : Option Value} {v : Nat} (cx : CX l0 Γ cc own nL R0) (d : decode cc pc = .ok (.aload_n 0, 1)) (k : G Γ σ kc ks (pc + 1) [some (.ref v), x1, x2, x3] (.ref v :: st)) : G Γ σ kc ks pc [some (.ref v), x1, x2, x3] st := g_aload_n (q := 0) (i := 0) cx rfl rfl d k
theorem z_al_4_1 {l0 : Launch} {Γ : gC} {cc : ByteArray} {own : String} {nL : Nat} {R0 : Room} {σ : hS} {kc ks pc : Nat} {st : List Value} {x0 x2 x3 : Option Value} {v : Nat} (cx : CX l0 Γ cc own nL R0) (d : decode cc pc = .ok (.aload_n 1, 1)) (k : G Γ σ kc ks (pc + 1) [x0, some (.ref v), x2, x3] (.ref v :: st)) : G Γ σ kc ks pc [x0, some (.ref v), x2, x3] st := g_aload_n (q := 1) (i := 1) cx rfl rfl d k
theorem z_al_4_2 {l0 : Launch} {Γ : gC} {cc : ByteArray} {own : String} {nL : Nat} {R0 : Room} {σ : hS} {kc ks pc : Nat} {st : List Value} {x0 x1 x3 : Option Value} {v : Nat} (cx : CX l0 Γ cc own nL R0) (d : decode cc pc = .ok (.aload_n 2, 1)) (k : G Γ σ kc ks (pc + 1) [x0, x1, some (.ref v), x3] (.ref v :: st)) : G Γ σ kc ks pc [x0, x1, some (.ref v), x3] st := g_aload_n (q := 2) (i := 2) cx rfl rfl d k
theorem z_al_4_3 {l0 : Launch} {Γ : gC} {cc : ByteArray} {own : String} {nL : Nat} {R0 : Room} {σ : hS} {kc ks pc : Nat} {st : List Value} {x0 x1 x2 : Option Value} {v : Nat} (cx : CX l0 Γ cc own nL R0) (d : decode cc pc = .ok (.aload_n 3, 1)) (k : G Γ σ kc ks (pc + 1) [x0, x1, x2, some (.ref v)] (.ref v :: st)) : G Γ σ kc ks pc [x0, x1, x2, some (.ref v)] st := g_aload_n (q := 3) (i := 3) cx rfl rfl d k
theorem z_al_5_0 {l0 : Launch} {Γ : gC} {cc : ByteArray} {own : String} {nL : Nat} {R0 : Room} {σ : hS} {kc ks pc : Nat} {st : List Value} {x1 x2 x3 x4 : Option Value} {v : Nat} (cx : CX l0 Γ cc own nL R0) (d : decode cc pc = .ok (.aload_n 0, 1)) (k : G Γ σ kc ks (pc + 1) [some (.ref v), x1, x2, x3, x4] (.ref v :: st)) : G Γ σ kc ks pc [some (.ref v), x1, x2, x3, x4] st := g_aload_n (q := 0) (i := 0) cx rfl rfl d k
theorem z_al_5_1 {l0 : Launch} {Γ : gC} {cc : ByteArray} {own : String} {nL : Nat} {R0 : Room} {σ : hS} {kc ks pc : Nat} {st : List Value} {x0 x2 x3 x4 : Option Value} {v : Nat} (cx : CX l0 Γ cc own nL R0) (d : decode cc pc = .ok (.aload_n 1, 1)) (k : G Γ σ kc ks (pc + 1) [x0, some (.ref v), x2, x3, x4] (.ref v :: st)) : G Γ σ kc ks pc [x0, some (.ref v), x2, x3, x4] st := g_aload_n (q := 1) (i := 1) cx rfl rfl d k
theorem z_al_5_2 {l0 : Launch} {Γ : gC} {cc : ByteArray} {own : String} {nL : Nat} {R0 : Room} {σ : hS} {kc ks pc : Nat} {st : List Value} {x0 x1 x3 x4 : Option Value} {v : Nat} (cx : CX l0 Γ cc own nL R0) (d : decode cc pc = .ok (.aload_n 2, 1)) (k : G Γ σ kc ks (pc + 1) [x0, x1, some (.ref v), x3, x4] (.ref v :: st)) : G Γ σ kc ks pc [x0, x1, some (.ref v), x3, x4] st := g_aload_n (q := 2) (i := 2) cx rfl rfl d k
theorem z_al_5_3 {l0 : Launch} {Γ : gC} {cc : ByteArray} {own : String} {nL : Nat} {R0 : Room} {σ : hS} {kc ks pc : Nat} {st : List Value} {x0 x1 x2 x4 : Option Value} {v : Nat} (cx : CX l0 Γ cc own nL R0) (d : decode cc pc = .ok (.aload_n 3, 1)) (k : G Γ σ kc ks (pc + 1) [x0, x1, x2, some (.ref v), x4] (.ref v :: st)) : G Γ σ kc ks pc [x0, x1, x2, some (.ref v), x4] st := g_aload_n (q := 3) (i := 3) cx rfl rfl d k
theorem z_al_5_4 {l0 : Launch} {Γ : gC} {cc : ByteArray} {own : String} {nL : Nat} {R0 : Room} {σ : hS} {kc ks pc : Nat} {st : List Value} {x0 x1 x2 x3 : Option Value} {v : Nat} (cx : CX l0 Γ cc own nL R0) (d : decode cc pc = .ok (.aload 4, 2)) (k : G Γ σ kc ks (pc + 2) [x0, x1, x2, x3, some (.ref v)] (.ref v :: st)) : G Γ σ kc ks pc [x0, x1, x2, x3, some (.ref v)] st := g_aload (i := 4) cx rfl d k
theorem z_al_6_0 {l0 : Launch} {Γ : gC} {cc : ByteArray} {own : String} {nL : Nat} {R0 : Room} {σ : hS} {kc ks pc : Nat} {st : List Value} {x1 x2 x3 x4 x5 : Option Value} {v : Nat} (cx : CX l0 Γ cc own nL R0) (d : decode cc pc = .ok (.aload_n 0, 1)) (k : G Γ σ kc ks (pc + 1) [some (.ref v), x1, x2, x3, x4, x5] (.ref v :: st)) : G Γ σ kc ks pc [some (.ref v), x1, x2, x3, x4, x5] st := g_aload_n (q := 0) (i := 0) cx rfl rfl d k
theorem z_al_6_1 {l0 : Launch} {Γ : gC} {cc : ByteArray} {own : String} {nL : Nat} {R0 : Room} {σ : hS} {kc ks pc : Nat} {st : List Value} {x0 x2 x3 x4 x5 : Option Value} {v : Nat} (cx : CX l0 Γ cc own nL R0) (d : decode cc pc = .ok (.aload_n 1, 1)) (k : G Γ σ kc ks (pc + 1) [x0, some (.ref v), x2, x3, x4, x5] (.ref v :: st)) : G Γ σ kc ks pc [x0, some (.ref v), x2, x3, x4, x5] st := g_aload_n (q := 1) (i := 1) cx rfl rfl d k
theorem z_al_6_2 {l0 : Launch} {Γ : gC} {cc : ByteArray} {own : String} {nL : Nat} {R0 : Room} {σ : hS} {kc ks pc : Nat} {st : List Value} {x0 x1 x3 x4 x5 : Option Value} {v : Nat} (cx : CX l0 Γ cc own nL R0) (d : decode cc pc = .ok (.aload_n 2, 1)) (k : G Γ σ kc ks (pc + 1) [x0, x1, some (.ref v), x3, x4, x5] (.ref v :: st)) : G Γ σ kc ks pc [x0, x1, some (.ref v), x3, x4, x5] st := g_aload_n (q := 2) (i := 2) cx rfl rfl d k
theorem z_al_6_3 {l0 : Launch} {Γ : gC} {cc : ByteArray} {own : String} {nL : Nat} {R0 : Room} {σ : hS} {kc ks pc : Nat} {st : List Value} {x0 x1 x2 x4 x5 : Option Value} {v : Nat} (cx : CX l0 Γ cc own nL R0) (d : decode cc pc = .ok (.aload_n 3, 1)) (k : G Γ σ kc ks (pc + 1) [x0, x1, x2, some (.ref v), x4, x5] (.ref v :: st)) : G Γ σ kc ks pc [x0, x1, x2, some (.ref v), x4, x5] st := g_aload_n (q := 3) (i := 3) cx rfl rfl d k
theorem z_al_6_4 {l0 : Launch} {Γ : gC} {cc : ByteArray} {own : String} {nL : Nat} {R0 : Room} {σ : hS} {kc ks pc : Nat} {st : List Value} {x0 x1 x2 x3 x5 : Option Value} {v : Nat} (cx : CX l0 Γ cc own nL R0) (d : decode cc pc = .ok (.aload 4, 2)) (k : G Γ σ kc ks (pc + 2) [x0, x1, x2, x3, some (.ref v), x5] (.ref v :: st)) : G Γ σ kc ks pc [x0, x1, x2, x3, some (.ref v), x5] st := g_aload (i := 4) cx rfl d k
theorem z_al_6_5 {l0 : Launch} {Γ : gC} {cc : ByteArray} {own : String} {nL : Nat} {R0 : Room} {σ : hS} {kc ks pc : Nat} {st : List Value} {x0 x1 x2 x3 x4 : Option Value} {v : Nat} (cx : CX l0 Γ cc own nL R0) (d : decode cc pc = .ok (.aload 5, 2)) (k : G Γ σ kc ks (pc + 2) [x0, x1, x2, x3, x4, some (.ref v)] (.ref v :: st)) : G Γ σ kc ks pc [x0, x1, x2, x3, x4, some (.ref v)] st := g_aload (i := 5) cx rfl d k
theorem z_al_7_0 {l0 : Launch} {Γ : gC} {cc : ByteArray} {own : String} {nL : Nat} {R0 : Room} {σ : hS} {kc ks pc : Nat} {st : List Value} {x1 x2 x3 x4 x5 x6 : Option Value} {v : Nat} (cx : CX l0 Γ cc own nL R0) (d : decode cc pc = .ok (.aload_n 0, 1)) (k : G Γ σ kc ks (pc + 1) [some (.ref v), x1, x2, x3, x4, x5, x6] (.ref v :: st)) : G Γ σ kc ks pc [some (.ref v), x1, x2, x3, x4, x5, x6] st := g_aload_n (q := 0) (i := 0) cx rfl rfl d k
theorem z_al_7_1 {l0 : Launch} {Γ : gC} {cc : ByteArray} {own : String} {nL : Nat} {R0 : Room} {σ : hS} {kc ks pc : Nat} {st : List Value} {x0 x2 x3 x4 x5 x6 : Option Value} {v : Nat} (cx : CX l0 Γ cc own nL R0) (d : decode cc pc = .ok (.aload_n 1, 1)) (k : G Γ σ kc ks (pc + 1) [x0, some (.ref v), x2, x3, x4, x5, x6] (.ref v :: st)) : G Γ σ kc ks pc [x0, some (.ref v), x2, x3, x4, x5, x6] st := g_aload_n (q := 1) (i := 1) cx rfl rfl d k
theorem z_al_7_2 {l0 : Launch} {Γ : gC} {cc : ByteArray} {own : String} {nL : Nat} {R0 : Room} {σ : hS} {kc ks pc : Nat} {st : List Value} {x0 x1 x3 x4 x5 x6 : Option Value} {v : Nat} (cx : CX l0 Γ cc own nL R0) (d : decode cc pc = .ok (.aload_n 2, 1)) (k : G Γ σ kc ks (pc + 1) [x0, x1, some (.ref v), x3, x4, x5, x6] (.ref v :: st)) : G Γ σ kc ks pc [x0, x1, some (.ref v), x3, x4, x5, x6] st := g_aload_n (q := 2) (i := 2) cx rfl rfl d k
theorem z_al_7_3 {l0 : Launch} {Γ : gC} {cc : ByteArray} {own : String} {nL : Nat} {R0 : Room} {σ : hS} {kc ks pc : Nat} {st : List Value} {x0 x1 x2 x4 x5 x6 : Option Value} {v : Nat} (cx : CX l0 Γ cc own nL R0) (d : decode cc pc = .ok (.aload_n 3, 1)) (k : G Γ σ kc ks (pc + 1) [x0, x1, x2, some (.ref v), x4, x5, x6] (.ref v :: st)) : G Γ σ kc ks pc [x0, x1, x2, some (.ref v), x4, x5, x6] st := g_aload_n (q := 3) (i := 3) cx rfl rfl d k
theorem z_al_7_4 {l0 : Launch} {Γ : gC} {cc : ByteArray} {own : String} {nL : Nat} {R0 : Room} {σ : hS} {kc ks pc : Nat} {st : List Value} {x0 x1 x2 x3 x5 x6 : Option Value} {v : Nat} (cx : CX l0 Γ cc own nL R0) (d : decode cc pc = .ok (.aload 4, 2)) (k : G Γ σ kc ks (pc + 2) [x0, x1, x2, x3, some (.ref v), x5, x6] (.ref v :: st)) : G Γ σ kc ks pc [x0, x1, x2, x3, some (.ref v), x5, x6] st := g_aload (i := 4) cx rfl d k
theorem z_al_7_5 {l0 : Launch} {Γ : gC} {cc : ByteArray} {own : String} {nL : Nat} {R0 : Room} {σ : hS} {kc ks pc : Nat} {st : List Value} {x0 x1 x2 x3 x4 x6 : Option Value} {v : Nat} (cx : CX l0 Γ cc own nL R0) (d : decode cc pc = .ok (.aload 5, 2)) (k : G Γ σ kc ks (pc + 2) [x0, x1, x2, x3, x4, some (.ref v), x6] (.ref v :: st)) : G Γ σ kc ks pc [x0, x1, x2, x3, x4, some (.ref v), x6] st := g_aload (i := 5) cx rfl d k
theorem z_al_7_6 {l0 : Launch} {Γ : gC} {cc : ByteArray} {own : String} {nL : Nat} {R0 : Room} {σ : hS} {kc ks pc : Nat} {st : List Value} {x0 x1 x2 x3 x4 x5 : Option Value} {v : Nat} (cx : CX l0 Γ cc own nL R0) (d : decode cc pc = .ok (.aload 6, 2)) (k : G Γ σ kc ks (pc + 2) [x0, x1, x2, x3, x4, x5, some (.ref v)] (.ref v :: st)) : G Γ σ kc ks pc [x0, x1, x2, x3, x4, x5, some (.ref v)] st := g_aload (i := 6) cx rfl d k
theorem z_al_8_0 {l0 : Launch} {Γ : gC} {cc : ByteArray} {own : String} {nL : Nat} {R0 : Room} {σ : hS} {kc ks pc : Nat} {st : List Value} {x1 x2 x3 x4 x5 x6 x7 : Option Value} {v : Nat} (cx : CX l0 Γ cc own nL R0) (d : decode cc pc = .ok (.aload_n 0, 1)) (k : G Γ σ kc ks (pc + 1) [some (.ref v), x1, x2, x3, x4, x5, x6, x7] (.ref v :: st)) : G Γ σ kc ks pc [some (.ref v), x1, x2, x3, x4, x5, x6, x7] st := g_aload_n (q := 0) (i := 0) cx rfl rfl d k
theorem z_al_8_1 {l0 : Launch} {Γ : gC} {cc : ByteArray} {own : String} {nL : Nat} {R0 : Room} {σ : hS} {kc ks pc : Nat} {st : List Value} {x0 x2 x3 x4 x5 x6 x7 : Option Value} {v : Nat} (cx : CX l0 Γ cc own nL R0) (d : decode cc pc = .ok (.aload_n 1, 1)) (k : G Γ σ kc ks (pc + 1) [x0, some (.ref v), x2, x3, x4, x5, x6, x7] (.ref v :: st)) : G Γ σ kc ks pc [x0, some (.ref v), x2, x3, x4, x5, x6, x7] st := g_aload_n (q := 1) (i := 1) cx rfl rfl d k
theorem z_al_8_2 {l0 : Launch} {Γ : gC} {cc : ByteArray} {own : String} {nL : Nat} {R0 : Room} {σ : hS} {kc ks pc : Nat} {st : List Value} {x0 x1 x3 x4 x5 x6 x7 : Option Value} {v : Nat} (cx : CX l0 Γ cc own nL R0) (d : decode cc pc = .ok (.aload_n 2, 1)) (k : G Γ σ kc ks (pc + 1) [x0, x1, some (.ref v), x3, x4, x5, x6, x7] (.ref v :: st)) : G Γ σ kc ks pc [x0, x1, some (.ref v), x3, x4, x5, x6, x7] st := g_aload_n (q := 2) (i := 2) cx rfl rfl d k
theorem z_al_8_3 {l0 : Launch} {Γ : gC} {cc : ByteArray} {own : String} {nL : Nat} {R0 : Room} {σ : hS} {kc ks pc : Nat} {st : List Value} {x0 x1 x2 x4 x5 x6 x7 : Option Value} {v : Nat} (cx : CX l0 Γ cc own nL R0) (d : decode cc pc = .ok (.aload_n 3, 1)) (k : G Γ σ kc ks (pc + 1) [x0, x1, x2, some (.ref v), x4, x5, x6, x7] (.ref v :: st)) : G Γ σ kc ks pc [x0, x1, x2, some (.ref v), x4, x5, x6, x7] st := g_aload_n (q := 3) (i := 3) cx rfl rfl d k
theorem z_al_8_4 {l0 : Launch} {Γ : gC} {cc : ByteArray} {own : String} {nL : Nat} {R0 : Room} {σ : hS} {kc ks pc : Nat} {st : List Value} {x0 x1 x2 x3 x5 x6 x7 : Option Value} {v : Nat} (cx : CX l0 Γ cc own nL R0) (d : decode cc pc = .ok (.aload 4, 2)) (k : G Γ σ kc ks (pc + 2) [x0, x1, x2, x3, some (.ref v), x5, x6, x7] (.ref v :: st)) : G Γ σ kc ks pc [x0, x1, x2, x3, some (.ref v), x5, x6, x7] st := g_aload (i := 4) cx rfl d k
theorem z_al_8_5 {l0 : Launch} {Γ : gC} {cc : ByteArray} {own : String} {nL : Nat} {R0 : Room} {σ : hS} {kc ks pc : Nat} {st : List Value} {x0 x1 x2 x3 x4 x6 x7 : Option Value} {v : Nat} (cx : CX l0 Γ cc own nL R0) (d : decode cc pc = .ok (.aload 5, 2)) (k : G Γ σ kc ks (pc + 2) [x0, x1, x2, x3, x4, some (.ref v), x6, x7] (.ref v :: st)) : G Γ σ kc ks pc [x0, x1, x2, x3, x4, some (.ref v), x6, x7] st := g_aload (i := 5) cx rfl d k
theorem z_al_8_6 {l0 : Launch} {Γ : gC} {cc : ByteArray} {own : String} {nL : Nat} {R0 : Room} {σ : hS} {kc ks pc : Nat} {st : List Value} {x0 x1 x2 x3 x4 x5 x7 : Option Value} {v : Nat} (cx : CX l0 Γ cc own nL R0) (d : decode cc pc = .ok (.aload 6, 2)) (k : G Γ σ kc ks (pc + 2) [x0, x1, x2, x3, x4, x5, some (.ref v), x7] (.ref v :: st)) : G Γ σ kc ks pc [x0, x1, x2, x3, x4, x5, some (.ref v), x7] st := g_aload (i := 6) cx rfl d k
theorem z_al_8_7 {l0 : Launch} {Γ : gC} {cc : ByteArray} {own : String} {nL : Nat} {R0 : Room} {σ : hS} {kc ks pc : Nat} {st : List Value} {x0 x1 x2 x3 x4 x5 x6 : Option Value} {v : Nat} (cx : CX l0 Γ cc own nL R0) (d : decode cc pc = .ok (.aload 7, 2)) (k : G Γ σ kc ks (pc + 2) [x0, x1, x2, x3, x4, x5, x6, some (.ref v)] (.ref v :: st)) : G Γ σ kc ks pc [x0, x1, x2, x3, x4, x5, x6, some (.ref v)] st := g_aload (i := 7) cx rfl d k
theorem z_al_9_0 {l0 : Launch} {Γ : gC} {cc : ByteArray} {own : String} {nL : Nat} {R0 : Room} {σ : hS} {kc ks pc : Nat} {st : List Value} {x1 x2 x3 x4 x5 x6 x7 x8 : Option Value} {v : Nat} (cx : CX l0 Γ cc own nL R0) (d : decode cc pc = .ok (.aload_n 0, 1)) (k : G Γ σ kc ks (pc + 1) [some (.ref v), x1, x2, x3, x4, x5, x6, x7, x8] (.ref v :: st)) : G Γ σ kc ks pc [some (.ref v), x1, x2, x3, x4, x5, x6, x7, x8] st := g_aload_n (q := 0) (i := 0) cx rfl rfl d k
theorem z_al_9_1 {l0 : Launch} {Γ : gC} {cc : ByteArray} {own : String} {nL : Nat} {R0 : Room} {σ : hS} {kc ks pc : Nat} {st : List Value} {x0 x2 x3 x4 x5 x6 x7 x8 : Option Value} {v : Nat} (cx : CX l0 Γ cc own nL R0) (d : decode cc pc = .ok (.aload_n 1, 1)) (k : G Γ σ kc ks (pc + 1) [x0, some (.ref v), x2, x3, x4, x5, x6, x7, x8] (.ref v :: st)) : G Γ σ kc ks pc [x0, some (.ref v), x2, x3, x4, x5, x6, x7, x8] st := g_aload_n (q := 1) (i := 1) cx rfl rfl d k
theorem z_al_9_2 {l0 : Launch} {Γ : gC} {cc : ByteArray} {own : String} {nL : Nat} {R0 : Room} {σ : hS} {kc ks pc : Nat} {st : List Value} {x0 x1 x3 x4 x5 x6 x7 x8 : Option Value} {v : Nat} (cx : CX l0 Γ cc own nL R0) (d : decode cc pc = .ok (.aload_n 2, 1)) (k : G Γ σ kc ks (pc + 1) [x0, x1, some (.ref v), x3, x4, x5, x6, x7, x8] (.ref v :: st)) : G Γ σ kc ks pc [x0, x1, some (.ref v), x3, x4, x5, x6, x7, x8] st := g_aload_n (q := 2) (i := 2) cx rfl rfl d k
theorem z_al_9_3 {l0 : Launch} {Γ : gC} {cc : ByteArray} {own : String} {nL : Nat} {R0 : Room} {σ : hS} {kc ks pc : Nat} {st : List Value} {x0 x1 x2 x4 x5 x6 x7 x8 : Option Value} {v : Nat} (cx : CX l0 Γ cc own nL R0) (d : decode cc pc = .ok (.aload_n 3, 1)) (k : G Γ σ kc ks (pc + 1) [x0, x1, x2, some (.ref v), x4, x5, x6, x7, x8] (.ref v :: st)) : G Γ σ kc ks pc [x0, x1, x2, some (.ref v), x4, x5, x6, x7, x8] st := g_aload_n (q := 3) (i := 3) cx rfl rfl d k
theorem z_al_9_4 {l0 : Launch} {Γ : gC} {cc : ByteArray} {own : String} {nL : Nat} {R0 : Room} {σ : hS} {kc ks pc : Nat} {st : List Value} {x0 x1 x2 x3 x5 x6 x7 x8 : Option Value} {v : Nat} (cx : CX l0 Γ cc own nL R0) (d : decode cc pc = .ok (.aload 4, 2)) (k : G Γ σ kc ks (pc + 2) [x0, x1, x2, x3, some (.ref v), x5, x6, x7, x8] (.ref v :: st)) : G Γ σ kc ks pc [x0, x1, x2, x3, some (.ref v), x5, x6, x7, x8] st := g_aload (i := 4) cx rfl d k
theorem z_al_9_5 {l0 : Launch} {Γ : gC} {cc : ByteArray} {own : String} {nL : Nat} {R0 : Room} {σ : hS} {kc ks pc : Nat} {st : List Value} {x0 x1 x2 x3 x4 x6 x7 x8 : Option Value} {v : Nat} (cx : CX l0 Γ cc own nL R0) (d : decode cc pc = .ok (.aload 5, 2)) (k : G Γ σ kc ks (pc + 2) [x0, x1, x2, x3, x4, some (.ref v), x6, x7, x8] (.ref v :: st)) : G Γ σ kc ks pc [x0, x1, x2, x3, x4, some (.ref v), x6, x7, x8] st := g_aload (i := 5) cx rfl d k
theorem z_al_9_6 {l0 : Launch} {Γ : gC} {cc : ByteArray} {own : String} {nL : Nat} {R0 : Room} {σ : hS} {kc ks pc : Nat} {st : List Value} {x0 x1 x2 x3 x4 x5 x7 x8 : Option Value} {v : Nat} (cx : CX l0 Γ cc own nL R0) (d : decode cc pc = .ok (.aload 6, 2)) (k : G Γ σ kc ks (pc + 2) [x0, x1, x2, x3, x4, x5, some (.ref v), x7, x8] (.ref v :: st)) : G Γ σ kc ks pc [x0, x1, x2, x3, x4, x5, some (.ref v), x7, x8] st := g_aload (i := 6) cx rfl d k
theorem z_al_9_7 {l0 : Launch} {Γ : gC} {cc : ByteArray} {own : String} {nL : Nat} {R0 : Room} {σ : hS} {kc ks pc : Nat} {st : List Value} {x0 x1 x2 x3 x4 x5 x6 x8 : Option Value} {v : Nat} (cx : CX l0 Γ cc own nL R0) (d : decode cc pc = .ok (.aload 7, 2)) (k : G Γ σ kc ks (pc + 2) [x0, x1, x2, x3, x4, x5, x6, some (.ref v), x8] (.ref v :: st)) : G Γ σ kc ks pc [x0, x1, x2, x3, x4, x5, x6, some (.ref v), x8] st := g_aload (i := 7) cx rfl d k
theorem z_al_9_8 {l0 : Launch} {Γ : gC} {cc : ByteArray} {own : String} {nL : Nat} {R0 : Room} {σ : hS} {kc ks pc : Nat} {st : List Value} {x0 x1 x2 x3 x4 x5 x6 x7 : Option Value} {v : Nat} (cx : CX l0 Γ cc own nL R0) (d : decode cc pc = .ok (.aload 8, 2)) (k : G Γ σ kc ks (pc + 2) [x0, x1, x2, x3, x4, x5, x6, x7, some (.ref v)] (.ref v :: st)) : G Γ σ kc ks pc [x0, x1, x2, x3, x4, x5, x6, x7, some (.ref v)] st := g_aload (i := 8) cx rfl d k
theorem z_al_10_0 {l0 : Launch} {Γ : gC} {cc : ByteArray} {own : String} {nL : Nat} {R0 : Room} {σ : hS} {kc ks pc : Nat} {st : List Value} {x1 x2 x3 x4 x5 x6 x7 x8 x9 : Option Value} {v : Nat} (cx : CX l0 Γ cc own nL R0) (d : decode cc pc = .ok (.aload_n 0, 1)) (k : G Γ σ kc ks (pc + 1) [some (.ref v), x1, x2, x3, x4, x5, x6, x7, x8, x9] (.ref v :: st)) : G Γ σ kc ks pc [some (.ref v), x1, x2, x3, x4, x5, x6, x7, x8, x9] st := g_aload_n (q := 0) (i := 0) cx rfl rfl d k
theorem z_al_10_1 {l0 : Launch} {Γ : gC} {cc : ByteArray} {own : String} {nL : Nat} {R0 : Room} {σ : hS} {kc ks pc : Nat} {st : List Value} {x0 x2 x3 x4 x5 x6 x7 x8 x9 : Option Value} {v : Nat} (cx : CX l0 Γ cc own nL R0) (d : decode cc pc = .ok (.aload_n 1, 1)) (k : G Γ σ kc ks (pc + 1) [x0, some (.ref v), x2, x3, x4, x5, x6, x7, x8, x9] (.ref v :: st)) : G Γ σ kc ks pc [x0, some (.ref v), x2, x3, x4, x5, x6, x7, x8, x9] st := g_aload_n (q := 1) (i := 1) cx rfl rfl d k
theorem z_al_10_2 {l0 : Launch} {Γ : gC} {cc : ByteArray} {own : String} {nL : Nat} {R0 : Room} {σ : hS} {kc ks pc : Nat} {st : List Value} {x0 x1 x3 x4 x5 x6 x7 x8 x9 : Option Value} {v : Nat} (cx : CX l0 Γ cc own nL R0) (d : decode cc pc = .ok (.aload_n 2, 1)) (k : G Γ σ kc ks (pc + 1) [x0, x1, some (.ref v), x3, x4, x5, x6, x7, x8, x9] (.ref v :: st)) : G Γ σ kc ks pc [x0, x1, some (.ref v), x3, x4, x5, x6, x7, x8, x9] st := g_aload_n (q := 2) (i := 2) cx rfl rfl d k
theorem z_al_10_3 {l0 : Launch} {Γ : gC} {cc : ByteArray} {own : String} {nL : Nat} {R0 : Room} {σ : hS} {kc ks pc : Nat} {st : List Value} {x0 x1 x2 x4 x5 x6 x7 x8 x9 : Option Value} {v : Nat} (cx : CX l0 Γ cc own nL R0) (d : decode cc pc = .ok (.aload_n 3, 1)) (k : G Γ σ kc ks (pc + 1) [x0, x1, x2, some (.ref v), x4, x5, x6, x7, x8, x9] (.ref v :: st)) : G Γ σ kc ks pc [x0, x1, x2, some (.ref v), x4, x5, x6, x7, x8, x9] st := g_aload_n (q := 3) (i := 3) cx rfl rfl d k
theorem z_al_10_4 {l0 : Launch} {Γ : gC} {cc : ByteArray} {own : String} {nL : Nat} {R0 : Room} {σ : hS} {kc ks pc : Nat} {st : List Value} {x0 x1 x2 x3 x5 x6 x7 x8 x9 : Option Value} {v : Nat} (cx : CX l0 Γ cc own nL R0) (d : decode cc pc = .ok (.aload 4, 2)) (k : G Γ σ kc ks (pc + 2) [x0, x1, x2, x3, some (.ref v), x5, x6, x7, x8, x9] (.ref v :: st)) : G Γ σ kc ks pc [x0, x1, x2, x3, some (.ref v), x5, x6, x7, x8, x9] st := g_aload (i := 4) cx rfl d k
theorem z_al_10_5 {l0 : Launch} {Γ : gC} {cc : ByteArray} {own : String} {nL : Nat} {R0 : Room} {σ : hS} {kc ks pc : Nat} {st : List Value} {x0 x1 x2 x3 x4 x6 x7 x8 x9 : Option Value} {v : Nat} (cx : CX l0 Γ cc own nL R0) (d : decode cc pc = .ok (.aload 5, 2)) (k : G Γ σ kc ks (pc + 2) [x0, x1, x2, x3, x4, some (.ref v), x6, x7, x8, x9] (.ref v :: st)) : G Γ σ kc ks pc [x0, x1, x2, x3, x4, some (.ref v), x6, x7, x8, x9] st := g_aload (i := 5) cx rfl d k
theorem z_al_10_6 {l0 : Launch} {Γ : gC} {cc : ByteArray} {own : String} {nL : Nat} {R0 : Room} {σ : hS} {kc ks pc : Nat} {st : List Value} {x0 x1 x2 x3 x4 x5 x7 x8 x9 : Option Value} {v : Nat} (cx : CX l0 Γ cc own nL R0) (d : decode cc pc = .ok (.aload 6, 2)) (k : G Γ σ kc ks (pc + 2) [x0, x1, x2, x3, x4, x5, some (.ref v), x7, x8, x9] (.ref v :: st)) : G Γ σ kc ks pc [x0, x1, x2, x3, x4, x5, some (.ref v), x7, x8, x9] st := g_aload (i := 6) cx rfl d k
theorem z_al_10_7 {l0 : Launch} {Γ : gC} {cc : ByteArray} {own : String} {nL : Nat} {R0 : Room} {σ : hS} {kc ks pc : Nat} {st : List Value} {x0 x1 x2 x3 x4 x5 x6 x8 x9 : Option Value} {v : Nat} (cx : CX l0 Γ cc own nL R0) (d : decode cc pc = .ok (.aload 7, 2)) (k : G Γ σ kc ks (pc + 2) [x0, x1, x2, x3, x4, x5, x6, some (.ref v), x8, x9] (.ref v :: st)) : G Γ σ kc ks pc [x0, x1, x2, x3, x4, x5, x6, some (.ref v), x8, x9] st := g_aload (i := 7) cx rfl d k
theorem z_al_10_8 {l0 : Launch} {Γ : gC} {cc : ByteArray} {own : String} {nL : Nat} {R0 : Room} {σ : hS} {kc ks pc : Nat} {st : List Value} {x0 x1 x2 x3 x4 x5 x6 x7 x9 : Option Value} {v : Nat} (cx : CX l0 Γ cc own nL R0) (d : decode cc pc = .ok (.aload 8, 2)) (k : G Γ σ kc ks (pc + 2) [x0, x1, x2, x3, x4, x5, x6, x7, some (.ref v), x9] (.ref v :: st)) : G Γ σ kc ks pc [x0, x1, x2, x3, x4, x5, x6, x7, some (.ref v), x9] st := g_aload (i := 8) cx rfl d k
theorem z_al_10_9 {l0 : Launch} {Γ : gC} {cc : ByteArray} {own : String} {nL : Nat} {R0 : Room} {σ : hS} {kc ks pc : Nat} {st : List Value} {x0 x1 x2 x3 x4 x5 x6 x7 x8 : Option Value} {v : Nat} (cx : CX l0 Γ cc own nL R0) (d : decode cc pc = .ok (.aload 9, 2)) (k : G Γ σ kc ks (pc + 2) [x0, x1, x2, x3, x4, x5, x6, x7, x8, some (.ref v)] (.ref v :: st)) : G Γ σ kc ks pc [x0, x1, x2, x3, x4, x5, x6, x7, x8, some (.ref v)] st := g_aload (i := 9) cx rfl d k
theorem z_as_1_0 {l0 : Launch} {Γ : gC} {cc : ByteArray} {own : String} {nL : Nat} {R0 : Room} {σ : hS} {kc ks pc : Nat} {st : List Value} {x0 : Option Value} {v : Nat} (cx : CX l0 Γ cc own nL R0) (d : decode cc pc = .ok (.astore_n 0, 1)) (k : G Γ σ kc ks (pc + 1) [some (.ref v)] st) : G Γ σ kc ks pc [x0] (.ref v :: st) := g_astore_n (q := 0) (i := 0) cx rfl (by simp) d k
theorem z_as_2_0 {l0 : Launch} {Γ : gC} {cc : ByteArray} {own : String} {nL : Nat} {R0 : Room} {σ : hS} {kc ks pc : Nat} {st : List Value} {x0 x1 : Option Value} {v : Nat} (cx : CX l0 Γ cc own nL R0) (d : decode cc pc = .ok (.astore_n 0, 1)) (k : G Γ σ kc ks (pc + 1) [some (.ref v), x1] st) : G Γ σ kc ks pc [x0, x1] (.ref v :: st) := g_astore_n (q := 0) (i := 0) cx rfl (by simp) d k
theorem z_as_2_1 {l0 : Launch} {Γ : gC} {cc : ByteArray} {own : String} {nL : Nat} {R0 : Room} {σ : hS} {kc ks pc : Nat} {st : List Value} {x0 x1 : Option Value} {v : Nat} (cx : CX l0 Γ cc own nL R0) (d : decode cc pc = .ok (.astore_n 1, 1)) (k : G Γ σ kc ks (pc + 1) [x0, some (.ref v)] st) : G Γ σ kc ks pc [x0, x1] (.ref v :: st) := g_astore_n (q := 1) (i := 1) cx rfl (by simp) d k
theorem z_as_3_0 {l0 : Launch} {Γ : gC} {cc : ByteArray} {own : String} {nL : Nat} {R0 : Room} {σ : hS} {kc ks pc : Nat} {st : List Value} {x0 x1 x2 : Option Value} {v : Nat} (cx : CX l0 Γ cc own nL R0) (d : decode cc pc = .ok (.astore_n 0, 1)) (k : G Γ σ kc ks (pc + 1) [some (.ref v), x1, x2] st) : G Γ σ kc ks pc [x0, x1, x2] (.ref v :: st) := g_astore_n (q := 0) (i := 0) cx rfl (by simp) d k
theorem z_as_3_1 {l0 : Launch} {Γ : gC} {cc : ByteArray} {own : String} {nL : Nat} {R0 : Room} {σ : hS} {kc ks pc : Nat} {st : List Value} {x0 x1 x2 : Option Value} {v : Nat} (cx : CX l0 Γ cc own nL R0) (d : decode cc pc = .ok (.astore_n 1, 1)) (k : G Γ σ kc ks (pc + 1) [x0, some (.ref v), x2] st) : G Γ σ kc ks pc [x0, x1, x2] (.ref v :: st) := g_astore_n (q := 1) (i := 1) cx rfl (by simp) d k
theorem z_as_3_2 {l0 : Launch} {Γ : gC} {cc : ByteArray} {own : String} {nL : Nat} {R0 : Room} {σ : hS} {kc ks pc : Nat} {st : List Value} {x0 x1 x2 : Option Value} {v : Nat} (cx : CX l0 Γ cc own nL R0) (d : decode cc pc = .ok (.astore_n 2, 1)) (k : G Γ σ kc ks (pc + 1) [x0, x1, some (.ref v)] st) : G Γ σ kc ks pc [x0, x1, x2] (.ref v :: st) := g_astore_n (q := 2) (i := 2) cx rfl (by simp) d k
theorem z_as_4_0 {l0 : Launch} {Γ : gC} {cc : ByteArray} {own : String} {nL : Nat} {R0 : Room} {σ : hS} {kc ks pc : Nat} {st : List Value} {x0 x1 x2 x3 : Option Value} {v : Nat} (cx : CX l0 Γ cc own nL R0) (d : decode cc pc = .ok (.astore_n 0, 1)) (k : G Γ σ kc ks (pc + 1) [some (.ref v), x1, x2, x3] st) : G Γ σ kc ks pc [x0, x1, x2, x3] (.ref v :: st) := g_astore_n (q := 0) (i := 0) cx rfl (by simp) d k
theorem z_as_4_1 {l0 : Launch} {Γ : gC} {cc : ByteArray} {own : String} {nL : Nat} {R0 : Room} {σ : hS} {kc ks pc : Nat} {st : List Value} {x0 x1 x2 x3 : Option Value} {v : Nat} (cx : CX l0 Γ cc own nL R0) (d : decode cc pc = .ok (.astore_n 1, 1)) (k : G Γ σ kc ks (pc + 1) [x0, some (.ref v), x2, x3] st) : G Γ σ kc ks pc [x0, x1, x2, x3] (.ref v :: st) := g_astore_n (q := 1) (i := 1) cx rfl (by simp) d k
theorem z_as_4_2 {l0 : Launch} {Γ : gC} {cc : ByteArray} {own : String} {nL : Nat} {R0 : Room} {σ : hS} {kc ks pc : Nat} {st : List Value} {x0 x1 x2 x3 : Option Value} {v : Nat} (cx : CX l0 Γ cc own nL R0) (d : decode cc pc = .ok (.astore_n 2, 1)) (k : G Γ σ kc ks (pc + 1) [x0, x1, some (.ref v), x3] st) : G Γ σ kc ks pc [x0, x1, x2, x3] (.ref v :: st) := g_astore_n (q := 2) (i := 2) cx rfl (by simp) d k
theorem z_as_4_3 {l0 : Launch} {Γ : gC} {cc : ByteArray} {own : String} {nL : Nat} {R0 : Room} {σ : hS} {kc ks pc : Nat} {st : List Value} {x0 x1 x2 x3 : Option Value} {v : Nat} (cx : CX l0 Γ cc own nL R0) (d : decode cc pc = .ok (.astore_n 3, 1)) (k : G Γ σ kc ks (pc + 1) [x0, x1, x2, some (.ref v)] st) : G Γ σ kc ks pc [x0, x1, x2, x3] (.ref v :: st) := g_astore_n (q := 3) (i := 3) cx rfl (by simp) d k
theorem z_as_5_0 {l0 : Launch} {Γ : gC} {cc : ByteArray} {own : String} {nL : Nat} {R0 : Room} {σ : hS} {kc ks pc : Nat} {st : List Value} {x0 x1 x2 x3 x4 : Option Value} {v : Nat} (cx : CX l0 Γ cc own nL R0) (d : decode cc pc = .ok (.astore_n 0, 1)) (k : G Γ σ kc ks (pc + 1) [some (.ref v), x1, x2, x3, x4] st) : G Γ σ kc ks pc [x0, x1, x2, x3, x4] (.ref v :: st) := g_astore_n (q := 0) (i := 0) cx rfl (by simp) d k
theorem z_as_5_1 {l0 : Launch} {Γ : gC} {cc : ByteArray} {own : String} {nL : Nat} {R0 : Room} {σ : hS} {kc ks pc : Nat} {st : List Value} {x0 x1 x2 x3 x4 : Option Value} {v : Nat} (cx : CX l0 Γ cc own nL R0) (d : decode cc pc = .ok (.astore_n 1, 1)) (k : G Γ σ kc ks (pc + 1) [x0, some (.ref v), x2, x3, x4] st) : G Γ σ kc ks pc [x0, x1, x2, x3, x4] (.ref v :: st) := g_astore_n (q := 1) (i := 1) cx rfl (by simp) d k
theorem z_as_5_2 {l0 : Launch} {Γ : gC} {cc : ByteArray} {own : String} {nL : Nat} {R0 : Room} {σ : hS} {kc ks pc : Nat} {st : List Value} {x0 x1 x2 x3 x4 : Option Value} {v : Nat} (cx : CX l0 Γ cc own nL R0) (d : decode cc pc = .ok (.astore_n 2, 1)) (k : G Γ σ kc ks (pc + 1) [x0, x1, some (.ref v), x3, x4] st) : G Γ σ kc ks pc [x0, x1, x2, x3, x4] (.ref v :: st) := g_astore_n (q := 2) (i := 2) cx rfl (by simp) d k
theorem z_as_5_3 {l0 : Launch} {Γ : gC} {cc : ByteArray} {own : String} {nL : Nat} {R0 : Room} {σ : hS} {kc ks pc : Nat} {st : List Value} {x0 x1 x2 x3 x4 : Option Value} {v : Nat} (cx : CX l0 Γ cc own nL R0) (d : decode cc pc = .ok (.astore_n 3, 1)) (k : G Γ σ kc ks (pc + 1) [x0, x1, x2, some (.ref v), x4] st) : G Γ σ kc ks pc [x0, x1, x2, x3, x4] (.ref v :: st) := g_astore_n (q := 3) (i := 3) cx rfl (by simp) d k
theorem z_as_5_4 {l0 : Launch} {Γ : gC} {cc : ByteArray} {own : String} {nL : Nat} {R0 : Room} {σ : hS} {kc ks pc : Nat} {st : List Value} {x0 x1 x2 x3 x4 : Option Value} {v : Nat} (cx : CX l0 Γ cc own nL R0) (d : decode cc pc = .ok (.astore 4, 2)) (k : G Γ σ kc ks (pc + 2) [x0, x1, x2, x3, some (.ref v)] st) : G Γ σ kc ks pc [x0, x1, x2, x3, x4] (.ref v :: st) := g_astore (i := 4) cx (by simp) d k
theorem z_as_6_0 {l0 : Launch} {Γ : gC} {cc : ByteArray} {own : String} {nL : Nat} {R0 : Room} {σ : hS} {kc ks pc : Nat} {st : List Value} {x0 x1 x2 x3 x4 x5 : Option Value} {v : Nat} (cx : CX l0 Γ cc own nL R0) (d : decode cc pc = .ok (.astore_n 0, 1)) (k : G Γ σ kc ks (pc + 1) [some (.ref v), x1, x2, x3, x4, x5] st) : G Γ σ kc ks pc [x0, x1, x2, x3, x4, x5] (.ref v :: st) := g_astore_n (q := 0) (i := 0) cx rfl (by simp) d k
theorem z_as_6_1 {l0 : Launch} {Γ : gC} {cc : ByteArray} {own : String} {nL : Nat} {R0 : Room} {σ : hS} {kc ks pc : Nat} {st : List Value} {x0 x1 x2 x3 x4 x5 : Option Value} {v : Nat} (cx : CX l0 Γ cc own nL R0) (d : decode cc pc = .ok (.astore_n 1, 1)) (k : G Γ σ kc ks (pc + 1) [x0, some (.ref v), x2, x3, x4, x5] st) : G Γ σ kc ks pc [x0, x1, x2, x3, x4, x5] (.ref v :: st) := g_astore_n (q := 1) (i := 1) cx rfl (by simp) d k
theorem z_as_6_2 {l0 : Launch} {Γ : gC} {cc : ByteArray} {own : String} {nL : Nat} {R0 : Room} {σ : hS} {kc ks pc : Nat} {st : List Value} {x0 x1 x2 x3 x4 x5 : Option Value} {v : Nat} (cx : CX l0 Γ cc own nL R0) (d : decode cc pc = .ok (.astore_n 2, 1)) (k : G Γ σ kc ks (pc + 1) [x0, x1, some (.ref v), x3, x4, x5] st) : G Γ σ kc ks pc [x0, x1, x2, x3, x4, x5] (.ref v :: st) := g_astore_n (q := 2) (i := 2) cx rfl (by simp) d k
theorem z_as_6_3 {l0 : Launch} {Γ : gC} {cc : ByteArray} {own : String} {nL : Nat} {R0 : Room} {σ : hS} {kc ks pc : Nat} {st : List Value} {x0 x1 x2 x3 x4 x5 : Option Value} {v : Nat} (cx : CX l0 Γ cc own nL R0) (d : decode cc pc = .ok (.astore_n 3, 1)) (k : G Γ σ kc ks (pc + 1) [x0, x1, x2, some (.ref v), x4, x5] st) : G Γ σ kc ks pc [x0, x1, x2, x3, x4, x5] (.ref v :: st) := g_astore_n (q := 3) (i := 3) cx rfl (by simp) d k
theorem z_as_6_4 {l0 : Launch} {Γ : gC} {cc : ByteArray} {own : String} {nL : Nat} {R0 : Room} {σ : hS} {kc ks pc : Nat} {st : List Value} {x0 x1 x2 x3 x4 x5 : Option Value} {v : Nat} (cx : CX l0 Γ cc own nL R0) (d : decode cc pc = .ok (.astore 4, 2)) (k : G Γ σ kc ks (pc + 2) [x0, x1, x2, x3, some (.ref v), x5] st) : G Γ σ kc ks pc [x0, x1, x2, x3, x4, x5] (.ref v :: st) := g_astore (i := 4) cx (by simp) d k
theorem z_as_6_5 {l0 : Launch} {Γ : gC} {cc : ByteArray} {own : String} {nL : Nat} {R0 : Room} {σ : hS} {kc ks pc : Nat} {st : List Value} {x0 x1 x2 x3 x4 x5 : Option Value} {v : Nat} (cx : CX l0 Γ cc own nL R0) (d : decode cc pc = .ok (.astore 5, 2)) (k : G Γ σ kc ks (pc + 2) [x0, x1, x2, x3, x4, some (.ref v)] st) : G Γ σ kc ks pc [x0, x1, x2, x3, x4, x5] (.ref v :: st) := g_astore (i := 5) cx (by simp) d k
theorem z_as_7_0 {l0 : Launch} {Γ : gC} {cc : ByteArray} {own : String} {nL : Nat} {R0 : Room} {σ : hS} {kc ks pc : Nat} {st : List Value} {x0 x1 x2 x3 x4 x5 x6 : Option Value} {v : Nat} (cx : CX l0 Γ cc own nL R0) (d : decode cc pc = .ok (.astore_n 0, 1)) (k : G Γ σ kc ks (pc + 1) [some (.ref v), x1, x2, x3, x4, x5, x6] st) : G Γ σ kc ks pc [x0, x1, x2, x3, x4, x5, x6] (.ref v :: st) := g_astore_n (q := 0) (i := 0) cx rfl (by simp) d k
theorem z_as_7_1 {l0 : Launch} {Γ : gC} {cc : ByteArray} {own : String} {nL : Nat} {R0 : Room} {σ : hS} {kc ks pc : Nat} {st : List Value} {x0 x1 x2 x3 x4 x5 x6 : Option Value} {v : Nat} (cx : CX l0 Γ cc own nL R0) (d : decode cc pc = .ok (.astore_n 1, 1)) (k : G Γ σ kc ks (pc + 1) [x0, some (.ref v), x2, x3, x4, x5, x6] st) : G Γ σ kc ks pc [x0, x1, x2, x3, x4, x5, x6] (.ref v :: st) := g_astore_n (q := 1) (i := 1) cx rfl (by simp) d k
theorem z_as_7_2 {l0 : Launch} {Γ : gC} {cc : ByteArray} {own : String} {nL : Nat} {R0 : Room} {σ : hS} {kc ks pc : Nat} {st : List Value} {x0 x1 x2 x3 x4 x5 x6 : Option Value} {v : Nat} (cx : CX l0 Γ cc own nL R0) (d : decode cc pc = .ok (.astore_n 2, 1)) (k : G Γ σ kc ks (pc + 1) [x0, x1, some (.ref v), x3, x4, x5, x6] st) : G Γ σ kc ks pc [x0, x1, x2, x3, x4, x5, x6] (.ref v :: st) := g_astore_n (q := 2) (i := 2) cx rfl (by simp) d k
theorem z_as_7_3 {l0 : Launch} {Γ : gC} {cc : ByteArray} {own : String} {nL : Nat} {R0 : Room} {σ : hS} {kc ks pc : Nat} {st : List Value} {x0 x1 x2 x3 x4 x5 x6 : Option Value} {v : Nat} (cx : CX l0 Γ cc own nL R0) (d : decode cc pc = .ok (.astore_n 3, 1)) (k : G Γ σ kc ks (pc + 1) [x0, x1, x2, some (.ref v), x4, x5, x6] st) : G Γ σ kc ks pc [x0, x1, x2, x3, x4, x5, x6] (.ref v :: st) := g_astore_n (q := 3) (i := 3) cx rfl (by simp) d k
theorem z_as_7_4 {l0 : Launch} {Γ : gC} {cc : ByteArray} {own : String} {nL : Nat} {R0 : Room} {σ : hS} {kc ks pc : Nat} {st : List Value} {x0 x1 x2 x3 x4 x5 x6 : Option Value} {v : Nat} (cx : CX l0 Γ cc own nL R0) (d : decode cc pc = .ok (.astore 4, 2)) (k : G Γ σ kc ks (pc + 2) [x0, x1, x2, x3, some (.ref v), x5, x6] st) : G Γ σ kc ks pc [x0, x1, x2, x3, x4, x5, x6] (.ref v :: st) := g_astore (i := 4) cx (by simp) d k
theorem z_as_7_5 {l0 : Launch} {Γ : gC} {cc : ByteArray} {own : String} {nL : Nat} {R0 : Room} {σ : hS} {kc ks pc : Nat} {st : List Value} {x0 x1 x2 x3 x4 x5 x6 : Option Value} {v : Nat} (cx : CX l0 Γ cc own nL R0) (d : decode cc pc = .ok (.astore 5, 2)) (k : G Γ σ kc ks (pc + 2) [x0, x1, x2, x3, x4, some (.ref v), x6] st) : G Γ σ kc ks pc [x0, x1, x2, x3, x4, x5, x6] (.ref v :: st) := g_astore (i := 5) cx (by simp) d k
theorem z_as_7_6 {l0 : Launch} {Γ : gC} {cc : ByteArray} {own : String} {nL : Nat} {R0 : Room} {σ : hS} {kc ks pc : Nat} {st : List Value} {x0 x1 x2 x3 x4 x5 x6 : Option Value} {v : Nat} (cx : CX l0 Γ cc own nL R0) (d : decode cc pc = .ok (.astore 6, 2)) (k : G Γ σ kc ks (pc + 2) [x0, x1, x2, x3, x4, x5, some (.ref v)] st) : G Γ σ kc ks pc [x0, x1, x2, x3, x4, x5, x6] (.ref v :: st) := g_astore (i := 6) cx (by simp) d k
theorem z_as_8_0 {l0 : Launch} {Γ : gC} {cc : ByteArray} {own : String} {nL : Nat} {R0 : Room} {σ : hS} {kc ks pc : Nat} {st : List Value} {x0 x1 x2 x3 x4 x5 x6 x7 : Option Value} {v : Nat} (cx : CX l0 Γ cc own nL R0) (d : decode cc pc = .ok (.astore_n 0, 1)) (k : G Γ σ kc ks (pc + 1) [some (.ref v), x1, x2, x3, x4, x5, x6, x7] st) : G Γ σ kc ks pc [x0, x1, x2, x3, x4, x5, x6, x7] (.ref v :: st) := g_astore_n (q := 0) (i := 0) cx rfl (by simp) d k
theorem z_as_8_1 {l0 : Launch} {Γ : gC} {cc : ByteArray} {own : String} {nL : Nat} {R0 : Room} {σ : hS} {kc ks pc : Nat} {st : List Value} {x0 x1 x2 x3 x4 x5 x6 x7 : Option Value} {v : Nat} (cx : CX l0 Γ cc own nL R0) (d : decode cc pc = .ok (.astore_n 1, 1)) (k : G Γ σ kc ks (pc + 1) [x0, some (.ref v), x2, x3, x4, x5, x6, x7] st) : G Γ σ kc ks pc [x0, x1, x2, x3, x4, x5, x6, x7] (.ref v :: st) := g_astore_n (q := 1) (i := 1) cx rfl (by simp) d k
theorem z_as_8_2 {l0 : Launch} {Γ : gC} {cc : ByteArray} {own : String} {nL : Nat} {R0 : Room} {σ : hS} {kc ks pc : Nat} {st : List Value} {x0 x1 x2 x3 x4 x5 x6 x7 : Option Value} {v : Nat} (cx : CX l0 Γ cc own nL R0) (d : decode cc pc = .ok (.astore_n 2, 1)) (k : G Γ σ kc ks (pc + 1) [x0, x1, some (.ref v), x3, x4, x5, x6, x7] st) : G Γ σ kc ks pc [x0, x1, x2, x3, x4, x5, x6, x7] (.ref v :: st) := g_astore_n (q := 2) (i := 2) cx rfl (by simp) d k
theorem z_as_8_3 {l0 : Launch} {Γ : gC} {cc : ByteArray} {own : String} {nL : Nat} {R0 : Room} {σ : hS} {kc ks pc : Nat} {st : List Value} {x0 x1 x2 x3 x4 x5 x6 x7 : Option Value} {v : Nat} (cx : CX l0 Γ cc own nL R0) (d : decode cc pc = .ok (.astore_n 3, 1)) (k : G Γ σ kc ks (pc + 1) [x0, x1, x2, some (.ref v), x4, x5, x6, x7] st) : G Γ σ kc ks pc [x0, x1, x2, x3, x4, x5, x6, x7] (.ref v :: st) := g_astore_n (q := 3) (i := 3) cx rfl (by simp) d k
theorem z_as_8_4 {l0 : Launch} {Γ : gC} {cc : ByteArray} {own : String} {nL : Nat} {R0 : Room} {σ : hS} {kc ks pc : Nat} {st : List Value} {x0 x1 x2 x3 x4 x5 x6 x7 : Option Value} {v : Nat} (cx : CX l0 Γ cc own nL R0) (d : decode cc pc = .ok (.astore 4, 2)) (k : G Γ σ kc ks (pc + 2) [x0, x1, x2, x3, some (.ref v), x5, x6, x7] st) : G Γ σ kc ks pc [x0, x1, x2, x3, x4, x5, x6, x7] (.ref v :: st) := g_astore (i := 4) cx (by simp) d k
theorem z_as_8_5 {l0 : Launch} {Γ : gC} {cc : ByteArray} {own : String} {nL : Nat} {R0 : Room} {σ : hS} {kc ks pc : Nat} {st : List Value} {x0 x1 x2 x3 x4 x5 x6 x7 : Option Value} {v : Nat} (cx : CX l0 Γ cc own nL R0) (d : decode cc pc = .ok (.astore 5, 2)) (k : G Γ σ kc ks (pc + 2) [x0, x1, x2, x3, x4, some (.ref v), x6, x7] st) : G Γ σ kc ks pc [x0, x1, x2, x3, x4, x5, x6, x7] (.ref v :: st) := g_astore (i := 5) cx (by simp) d k
theorem z_as_8_6 {l0 : Launch} {Γ : gC} {cc : ByteArray} {own : String} {nL : Nat} {R0 : Room} {σ : hS} {kc ks pc : Nat} {st : List Value} {x0 x1 x2 x3 x4 x5 x6 x7 : Option Value} {v : Nat} (cx : CX l0 Γ cc own nL R0) (d : decode cc pc = .ok (.astore 6, 2)) (k : G Γ σ kc ks (pc + 2) [x0, x1, x2, x3, x4, x5, some (.ref v), x7] st) : G Γ σ kc ks pc [x0, x1, x2, x3, x4, x5, x6, x7] (.ref v :: st) := g_astore (i := 6) cx (by simp) d k
theorem z_as_8_7 {l0 : Launch} {Γ : gC} {cc : ByteArray} {own : String} {nL : Nat} {R0 : Room} {σ : hS} {kc ks pc : Nat} {st : List Value} {x0 x1 x2 x3 x4 x5 x6 x7 : Option Value} {v : Nat} (cx : CX l0 Γ cc own nL R0) (d : decode cc pc = .ok (.astore 7, 2)) (k : G Γ σ kc ks (pc + 2) [x0, x1, x2, x3, x4, x5, x6, some (.ref v)] st) : G Γ σ kc ks pc [x0, x1, x2, x3, x4, x5, x6, x7] (.ref v :: st) := g_astore (i := 7) cx (by simp) d k
theorem z_as_9_0 {l0 : Launch} {Γ : gC} {cc : ByteArray} {own : String} {nL : Nat} {R0 : Room} {σ : hS} {kc ks pc : Nat} {st : List Value} {x0 x1 x2 x3 x4 x5 x6 x7 x8 : Option Value} {v : Nat} (cx : CX l0 Γ cc own nL R0) (d : decode cc pc = .ok (.astore_n 0, 1)) (k : G Γ σ kc ks (pc + 1) [some (.ref v), x1, x2, x3, x4, x5, x6, x7, x8] st) : G Γ σ kc ks pc [x0, x1, x2, x3, x4, x5, x6, x7, x8] (.ref v :: st) := g_astore_n (q := 0) (i := 0) cx rfl (by simp) d k
theorem z_as_9_1 {l0 : Launch} {Γ : gC} {cc : ByteArray} {own : String} {nL : Nat} {R0 : Room} {σ : hS} {kc ks pc : Nat} {st : List Value} {x0 x1 x2 x3 x4 x5 x6 x7 x8 : Option Value} {v : Nat} (cx : CX l0 Γ cc own nL R0) (d : decode cc pc = .ok (.astore_n 1, 1)) (k : G Γ σ kc ks (pc + 1) [x0, some (.ref v), x2, x3, x4, x5, x6, x7, x8] st) : G Γ σ kc ks pc [x0, x1, x2, x3, x4, x5, x6, x7, x8] (.ref v :: st) := g_astore_n (q := 1) (i := 1) cx rfl (by simp) d k
theorem z_as_9_2 {l0 : Launch} {Γ : gC} {cc : ByteArray} {own : String} {nL : Nat} {R0 : Room} {σ : hS} {kc ks pc : Nat} {st : List Value} {x0 x1 x2 x3 x4 x5 x6 x7 x8 : Option Value} {v : Nat} (cx : CX l0 Γ cc own nL R0) (d : decode cc pc = .ok (.astore_n 2, 1)) (k : G Γ σ kc ks (pc + 1) [x0, x1, some (.ref v), x3, x4, x5, x6, x7, x8] st) : G Γ σ kc ks pc [x0, x1, x2, x3, x4, x5, x6, x7, x8] (.ref v :: st) := g_astore_n (q := 2) (i := 2) cx rfl (by simp) d k
theorem z_as_9_3 {l0 : Launch} {Γ : gC} {cc : ByteArray} {own : String} {nL : Nat} {R0 : Room} {σ : hS} {kc ks pc : Nat} {st : List Value} {x0 x1 x2 x3 x4 x5 x6 x7 x8 : Option Value} {v : Nat} (cx : CX l0 Γ cc own nL R0) (d : decode cc pc = .ok (.astore_n 3, 1)) (k : G Γ σ kc ks (pc + 1) [x0, x1, x2, some (.ref v), x4, x5, x6, x7, x8] st) : G Γ σ kc ks pc [x0, x1, x2, x3, x4, x5, x6, x7, x8] (.ref v :: st) := g_astore_n (q := 3) (i := 3) cx rfl (by simp) d k
theorem z_as_9_4 {l0 : Launch} {Γ : gC} {cc : ByteArray} {own : String} {nL : Nat} {R0 : Room} {σ : hS} {kc ks pc : Nat} {st : List Value} {x0 x1 x2 x3 x4 x5 x6 x7 x8 : Option Value} {v : Nat} (cx : CX l0 Γ cc own nL R0) (d : decode cc pc = .ok (.astore 4, 2)) (k : G Γ σ kc ks (pc + 2) [x0, x1, x2, x3, some (.ref v), x5, x6, x7, x8] st) : G Γ σ kc ks pc [x0, x1, x2, x3, x4, x5, x6, x7, x8] (.ref v :: st) := g_astore (i := 4) cx (by simp) d k
theorem z_as_9_5 {l0 : Launch} {Γ : gC} {cc : ByteArray} {own : String} {nL : Nat} {R0 : Room} {σ : hS} {kc ks pc : Nat} {st : List Value} {x0 x1 x2 x3 x4 x5 x6 x7 x8 : Option Value} {v : Nat} (cx : CX l0 Γ cc own nL R0) (d : decode cc pc = .ok (.astore 5, 2)) (k : G Γ σ kc ks (pc + 2) [x0, x1, x2, x3, x4, some (.ref v), x6, x7, x8] st) : G Γ σ kc ks pc [x0, x1, x2, x3, x4, x5, x6, x7, x8] (.ref v :: st) := g_astore (i := 5) cx (by simp) d k
theorem z_as_9_6 {l0 : Launch} {Γ : gC} {cc : ByteArray} {own : String} {nL : Nat} {R0 : Room} {σ : hS} {kc ks pc : Nat} {st : List Value} {x0 x1 x2 x3 x4 x5 x6 x7 x8 : Option Value} {v : Nat} (cx : CX l0 Γ cc own nL R0) (d : decode cc pc = .ok (.astore 6, 2)) (k : G Γ σ kc ks (pc + 2) [x0, x1, x2, x3, x4, x5, some (.ref v), x7, x8] st) : G Γ σ kc ks pc [x0, x1, x2, x3, x4, x5, x6, x7, x8] (.ref v :: st) := g_astore (i := 6) cx (by simp) d k
theorem z_as_9_7 {l0 : Launch} {Γ : gC} {cc : ByteArray} {own : String} {nL : Nat} {R0 : Room} {σ : hS} {kc ks pc : Nat} {st : List Value} {x0 x1 x2 x3 x4 x5 x6 x7 x8 : Option Value} {v : Nat} (cx : CX l0 Γ cc own nL R0) (d : decode cc pc = .ok (.astore 7, 2)) (k : G Γ σ kc ks (pc + 2) [x0, x1, x2, x3, x4, x5, x6, some (.ref v), x8] st) : G Γ σ kc ks pc [x0, x1, x2, x3, x4, x5, x6, x7, x8] (.ref v :: st) := g_astore (i := 7) cx (by simp) d k
theorem z_as_9_8 {l0 : Launch} {Γ : gC} {cc : ByteArray} {own : String} {nL : Nat} {R0 : Room} {σ : hS} {kc ks pc : Nat} {st : List Value} {x0 x1 x2 x3 x4 x5 x6 x7 x8 : Option Value} {v : Nat} (cx : CX l0 Γ cc own nL R0) (d : decode cc pc = .ok (.astore 8, 2)) (k : G Γ σ kc ks (pc + 2) [x0, x1, x2, x3, x4, x5, x6, x7, some (.ref v)] st) : G Γ σ kc ks pc [x0, x1, x2, x3, x4, x5, x6, x7, x8] (.ref v :: st) := g_astore (i := 8) cx (by simp) d k
theorem z_as_10_0 {l0 : Launch} {Γ : gC} {cc : ByteArray} {own : String} {nL : Nat} {R0 : Room} {σ : hS} {kc ks pc : Nat} {st : List Value} {x0 x1 x2 x3 x4 x5 x6 x7 x8 x9 : Option Value} {v : Nat} (cx : CX l0 Γ cc own nL R0) (d : decode cc pc = .ok (.astore_n 0, 1)) (k : G Γ σ kc ks (pc + 1) [some (.ref v), x1, x2, x3, x4, x5, x6, x7, x8, x9] st) : G Γ σ kc ks pc [x0, x1, x2, x3, x4, x5, x6, x7, x8, x9] (.ref v :: st) := g_astore_n (q := 0) (i := 0) cx rfl (by simp) d k
theorem z_as_10_1 {l0 : Launch} {Γ : gC} {cc : ByteArray} {own : String} {nL : Nat} {R0 : Room} {σ : hS} {kc ks pc : Nat} {st : List Value} {x0 x1 x2 x3 x4 x5 x6 x7 x8 x9 : Option Value} {v : Nat} (cx : CX l0 Γ cc own nL R0) (d : decode cc pc = .ok (.astore_n 1, 1)) (k : G Γ σ kc ks (pc + 1) [x0, some (.ref v), x2, x3, x4, x5, x6, x7, x8, x9] st) : G Γ σ kc ks pc [x0, x1, x2, x3, x4, x5, x6, x7, x8, x9] (.ref v :: st) := g_astore_n (q := 1) (i := 1) cx rfl (by simp) d k
theorem z_as_10_2 {l0 : Launch} {Γ : gC} {cc : ByteArray} {own : String} {nL : Nat} {R0 : Room} {σ : hS} {kc ks pc : Nat} {st : List Value} {x0 x1 x2 x3 x4 x5 x6 x7 x8 x9 : Option Value} {v : Nat} (cx : CX l0 Γ cc own nL R0) (d : decode cc pc = .ok (.astore_n 2, 1)) (k : G Γ σ kc ks (pc + 1) [x0, x1, some (.ref v), x3, x4, x5, x6, x7, x8, x9] st) : G Γ σ kc ks pc [x0, x1, x2, x3, x4, x5, x6, x7, x8, x9] (.ref v :: st) := g_astore_n (q := 2) (i := 2) cx rfl (by simp) d k
theorem z_as_10_3 {l0 : Launch} {Γ : gC} {cc : ByteArray} {own : String} {nL : Nat} {R0 : Room} {σ : hS} {kc ks pc : Nat} {st : List Value} {x0 x1 x2 x3 x4 x5 x6 x7 x8 x9 : Option Value} {v : Nat} (cx : CX l0 Γ cc own nL R0) (d : decode cc pc = .ok (.astore_n 3, 1)) (k : G Γ σ kc ks (pc + 1) [x0, x1, x2, some (.ref v), x4, x5, x6, x7, x8, x9] st) : G Γ σ kc ks pc [x0, x1, x2, x3, x4, x5, x6, x7, x8, x9] (.ref v :: st) := g_astore_n (q := 3) (i := 3) cx rfl (by simp) d k
theorem z_as_10_4 {l0 : Launch} {Γ : gC} {cc : ByteArray} {own : String} {nL : Nat} {R0 : Room} {σ : hS} {kc ks pc : Nat} {st : List Value} {x0 x1 x2 x3 x4 x5 x6 x7 x8 x9 : Option Value} {v : Nat} (cx : CX l0 Γ cc own nL R0) (d : decode cc pc = .ok (.astore 4, 2)) (k : G Γ σ kc ks (pc + 2) [x0, x1, x2, x3, some (.ref v), x5, x6, x7, x8, x9] st) : G Γ σ kc ks pc [x0, x1, x2, x3, x4, x5, x6, x7, x8, x9] (.ref v :: st) := g_astore (i := 4) cx (by simp) d k
theorem z_as_10_5 {l0 : Launch} {Γ : gC} {cc : ByteArray} {own : String} {nL : Nat} {R0 : Room} {σ : hS} {kc ks pc : Nat} {st : List Value} {x0 x1 x2 x3 x4 x5 x6 x7 x8 x9 : Option Value} {v : Nat} (cx : CX l0 Γ cc own nL R0) (d : decode cc pc = .ok (.astore 5, 2)) (k : G Γ σ kc ks (pc + 2) [x0, x1, x2, x3, x4, some (.ref v), x6, x7, x8, x9] st) : G Γ σ kc ks pc [x0, x1, x2, x3, x4, x5, x6, x7, x8, x9] (.ref v :: st) := g_astore (i := 5) cx (by simp) d k
theorem z_as_10_6 {l0 : Launch} {Γ : gC} {cc : ByteArray} {own : String} {nL : Nat} {R0 : Room} {σ : hS} {kc ks pc : Nat} {st : List Value} {x0 x1 x2 x3 x4 x5 x6 x7 x8 x9 : Option Value} {v : Nat} (cx : CX l0 Γ cc own nL R0) (d : decode cc pc = .ok (.astore 6, 2)) (k : G Γ σ kc ks (pc + 2) [x0, x1, x2, x3, x4, x5, some (.ref v), x7, x8, x9] st) : G Γ σ kc ks pc [x0, x1, x2, x3, x4, x5, x6, x7, x8, x9] (.ref v :: st) := g_astore (i := 6) cx (by simp) d k
theorem z_as_10_7 {l0 : Launch} {Γ : gC} {cc : ByteArray} {own : String} {nL : Nat} {R0 : Room} {σ : hS} {kc ks pc : Nat} {st : List Value} {x0 x1 x2 x3 x4 x5 x6 x7 x8 x9 : Option Value} {v : Nat} (cx : CX l0 Γ cc own nL R0) (d : decode cc pc = .ok (.astore 7, 2)) (k : G Γ σ kc ks (pc + 2) [x0, x1, x2, x3, x4, x5, x6, some (.ref v), x8, x9] st) : G Γ σ kc ks pc [x0, x1, x2, x3, x4, x5, x6, x7, x8, x9] (.ref v :: st) := g_astore (i := 7) cx (by simp) d k
theorem z_as_10_8 {l0 : Launch} {Γ : gC} {cc : ByteArray} {own : String} {nL : Nat} {R0 : Room} {σ : hS} {kc ks pc : Nat} {st : List Value} {x0 x1 x2 x3 x4 x5 x6 x7 x8 x9 : Option Value} {v : Nat} (cx : CX l0 Γ cc own nL R0) (d : decode cc pc = .ok (.astore 8, 2)) (k : G Γ σ kc ks (pc + 2) [x0, x1, x2, x3, x4, x5, x6, x7, some (.ref v), x9] st) : G Γ σ kc ks pc [x0, x1, x2, x3, x4, x5, x6, x7, x8, x9] (.ref v :: st) := g_astore (i := 8) cx (by simp) d k
theorem z_as_10_9 {l0 : Launch} {Γ : gC} {cc : ByteArray} {own : String} {nL : Nat} {R0 : Room} {σ : hS} {kc ks pc : Nat} {st : List Value} {x0 x1 x2 x3 x4 x5 x6 x7 x8 x9 : Option Value} {v : Nat} (cx : CX l0 Γ cc own nL R0) (d : decode cc pc = .ok (.astore 9, 2)) (k : G Γ σ kc ks (pc + 2) [x0, x1, x2, x3, x4, x5, x6, x7, x8, some (.ref v)] st) : G Γ σ kc ks pc [x0, x1, x2, x3, x4, x5, x6, x7, x8, x9] (.ref v :: st) := g_astore (i := 9) cx (by simp) d k
theorem z_ii_1_0 {l0 : Launch} {Γ : gC} {cc : ByteArray} {own : String} {nL : Nat} {R0 : Room} {σ : hS} {kc ks pc : Nat} {st : List Value} {a z : Int} (cx : CX l0 Γ cc own nL R0) (d : decode cc pc = .ok (.iinc 0 z, 3)) (k : G Γ σ kc ks (pc + 3) [some (.int (iI (a + z)))] st) : G Γ σ kc ks pc [some (.int (iI a))] st := z_iinc (i := 0) cx rfl d k
theorem z_ii_2_0 {l0 : Launch} {Γ : gC} {cc : ByteArray} {own : String} {nL : Nat} {R0 : Room} {σ : hS} {kc ks pc : Nat} {st : List Value} {x1 : Option Value} {a z : Int} (cx : CX l0 Γ cc own nL R0) (d : decode cc pc = .ok (.iinc 0 z, 3)) (k : G Γ σ kc ks (pc + 3) [some (.int (iI (a + z))), x1] st) : G Γ σ kc ks pc [some (.int (iI a)), x1] st := z_iinc (i := 0) cx rfl d k
theorem z_ii_2_1 {l0 : Launch} {Γ : gC} {cc : ByteArray} {own : String} {nL : Nat} {R0 : Room} {σ : hS} {kc ks pc : Nat} {st : List Value} {x0 : Option Value} {a z : Int} (cx : CX l0 Γ cc own nL R0) (d : decode cc pc = .ok (.iinc 1 z, 3)) (k : G Γ σ kc ks (pc + 3) [x0, some (.int (iI (a + z)))] st) : G Γ σ kc ks pc [x0, some (.int (iI a))] st := z_iinc (i := 1) cx rfl d k
theorem z_ii_3_0 {l0 : Launch} {Γ : gC} {cc : ByteArray} {own : String} {nL : Nat} {R0 : Room} {σ : hS} {kc ks pc : Nat} {st : List Value} {x1 x2 : Option Value} {a z : Int} (cx : CX l0 Γ cc own nL R0) (d : decode cc pc = .ok (.iinc 0 z, 3)) (k : G Γ σ kc ks (pc + 3) [some (.int (iI (a + z))), x1, x2] st) : G Γ σ kc ks pc [some (.int (iI a)), x1, x2] st := z_iinc (i := 0) cx rfl d k
theorem z_ii_3_1 {l0 : Launch} {Γ : gC} {cc : ByteArray} {own : String} {nL : Nat} {R0 : Room} {σ : hS} {kc ks pc : Nat} {st : List Value} {x0 x2 : Option Value} {a z : Int} (cx : CX l0 Γ cc own nL R0) (d : decode cc pc = .ok (.iinc 1 z, 3)) (k : G Γ σ kc ks (pc + 3) [x0, some (.int (iI (a + z))), x2] st) : G Γ σ kc ks pc [x0, some (.int (iI a)), x2] st := z_iinc (i := 1) cx rfl d k
theorem z_ii_3_2 {l0 : Launch} {Γ : gC} {cc : ByteArray} {own : String} {nL : Nat} {R0 : Room} {σ : hS} {kc ks pc : Nat} {st : List Value} {x0 x1 : Option Value} {a z : Int} (cx : CX l0 Γ cc own nL R0) (d : decode cc pc = .ok (.iinc 2 z, 3)) (k : G Γ σ kc ks (pc + 3) [x0, x1, some (.int (iI (a + z)))] st) : G Γ σ kc ks pc [x0, x1, some (.int (iI a))] st := z_iinc (i := 2) cx rfl d k
theorem z_ii_4_0 {l0 : Launch} {Γ : gC} {cc : ByteArray} {own : String} {nL : Nat} {R0 : Room} {σ : hS} {kc ks pc : Nat} {st : List Value} {x1 x2 x3 : Option Value} {a z : Int} (cx : CX l0 Γ cc own nL R0) (d : decode cc pc = .ok (.iinc 0 z, 3)) (k : G Γ σ kc ks (pc + 3) [some (.int (iI (a + z))), x1, x2, x3] st) : G Γ σ kc ks pc [some (.int (iI a)), x1, x2, x3] st := z_iinc (i := 0) cx rfl d k
theorem z_ii_4_1 {l0 : Launch} {Γ : gC} {cc : ByteArray} {own : String} {nL : Nat} {R0 : Room} {σ : hS} {kc ks pc : Nat} {st : List Value} {x0 x2 x3 : Option Value} {a z : Int} (cx : CX l0 Γ cc own nL R0) (d : decode cc pc = .ok (.iinc 1 z, 3)) (k : G Γ σ kc ks (pc + 3) [x0, some (.int (iI (a + z))), x2, x3] st) : G Γ σ kc ks pc [x0, some (.int (iI a)), x2, x3] st := z_iinc (i := 1) cx rfl d k
theorem z_ii_4_2 {l0 : Launch} {Γ : gC} {cc : ByteArray} {own : String} {nL : Nat} {R0 : Room} {σ : hS} {kc ks pc : Nat} {st : List Value} {x0 x1 x3 : Option Value} {a z : Int} (cx : CX l0 Γ cc own nL R0) (d : decode cc pc = .ok (.iinc 2 z, 3)) (k : G Γ σ kc ks (pc + 3) [x0, x1, some (.int (iI (a + z))), x3] st) : G Γ σ kc ks pc [x0, x1, some (.int (iI a)), x3] st := z_iinc (i := 2) cx rfl d k
theorem z_ii_4_3 {l0 : Launch} {Γ : gC} {cc : ByteArray} {own : String} {nL : Nat} {R0 : Room} {σ : hS} {kc ks pc : Nat} {st : List Value} {x0 x1 x2 : Option Value} {a z : Int} (cx : CX l0 Γ cc own nL R0) (d : decode cc pc = .ok (.iinc 3 z, 3)) (k : G Γ σ kc ks (pc + 3) [x0, x1, x2, some (.int (iI (a + z)))] st) : G Γ σ kc ks pc [x0, x1, x2, some (.int (iI a))] st := z_iinc (i := 3) cx rfl d k
theorem z_ii_5_0 {l0 : Launch} {Γ : gC} {cc : ByteArray} {own : String} {nL : Nat} {R0 : Room} {σ : hS} {kc ks pc : Nat} {st : List Value} {x1 x2 x3 x4 : Option Value} {a z : Int} (cx : CX l0 Γ cc own nL R0) (d : decode cc pc = .ok (.iinc 0 z, 3)) (k : G Γ σ kc ks (pc + 3) [some (.int (iI (a + z))), x1, x2, x3, x4] st) : G Γ σ kc ks pc [some (.int (iI a)), x1, x2, x3, x4] st := z_iinc (i := 0) cx rfl d k
theorem z_ii_5_1 {l0 : Launch} {Γ : gC} {cc : ByteArray} {own : String} {nL : Nat} {R0 : Room} {σ : hS} {kc ks pc : Nat} {st : List Value} {x0 x2 x3 x4 : Option Value} {a z : Int} (cx : CX l0 Γ cc own nL R0) (d : decode cc pc = .ok (.iinc 1 z, 3)) (k : G Γ σ kc ks (pc + 3) [x0, some (.int (iI (a + z))), x2, x3, x4] st) : G Γ σ kc ks pc [x0, some (.int (iI a)), x2, x3, x4] st := z_iinc (i := 1) cx rfl d k
theorem z_ii_5_2 {l0 : Launch} {Γ : gC} {cc : ByteArray} {own : String} {nL : Nat} {R0 : Room} {σ : hS} {kc ks pc : Nat} {st : List Value} {x0 x1 x3 x4 : Option Value} {a z : Int} (cx : CX l0 Γ cc own nL R0) (d : decode cc pc = .ok (.iinc 2 z, 3)) (k : G Γ σ kc ks (pc + 3) [x0, x1, some (.int (iI (a + z))), x3, x4] st) : G Γ σ kc ks pc [x0, x1, some (.int (iI a)), x3, x4] st := z_iinc (i := 2) cx rfl d k
theorem z_ii_5_3 {l0 : Launch} {Γ : gC} {cc : ByteArray} {own : String} {nL : Nat} {R0 : Room} {σ : hS} {kc ks pc : Nat} {st : List Value} {x0 x1 x2 x4 : Option Value} {a z : Int} (cx : CX l0 Γ cc own nL R0) (d : decode cc pc = .ok (.iinc 3 z, 3)) (k : G Γ σ kc ks (pc + 3) [x0, x1, x2, some (.int (iI (a + z))), x4] st) : G Γ σ kc ks pc [x0, x1, x2, some (.int (iI a)), x4] st := z_iinc (i := 3) cx rfl d k
theorem z_ii_5_4 {l0 : Launch} {Γ : gC} {cc : ByteArray} {own : String} {nL : Nat} {R0 : Room} {σ : hS} {kc ks pc : Nat} {st : List Value} {x0 x1 x2 x3 : Option Value} {a z : Int} (cx : CX l0 Γ cc own nL R0) (d : decode cc pc = .ok (.iinc 4 z, 3)) (k : G Γ σ kc ks (pc + 3) [x0, x1, x2, x3, some (.int (iI (a + z)))] st) : G Γ σ kc ks pc [x0, x1, x2, x3, some (.int (iI a))] st := z_iinc (i := 4) cx rfl d k
theorem z_ii_6_0 {l0 : Launch} {Γ : gC} {cc : ByteArray} {own : String} {nL : Nat} {R0 : Room} {σ : hS} {kc ks pc : Nat} {st : List Value} {x1 x2 x3 x4 x5 : Option Value} {a z : Int} (cx : CX l0 Γ cc own nL R0) (d : decode cc pc = .ok (.iinc 0 z, 3)) (k : G Γ σ kc ks (pc + 3) [some (.int (iI (a + z))), x1, x2, x3, x4, x5] st) : G Γ σ kc ks pc [some (.int (iI a)), x1, x2, x3, x4, x5] st := z_iinc (i := 0) cx rfl d k
theorem z_ii_6_1 {l0 : Launch} {Γ : gC} {cc : ByteArray} {own : String} {nL : Nat} {R0 : Room} {σ : hS} {kc ks pc : Nat} {st : List Value} {x0 x2 x3 x4 x5 : Option Value} {a z : Int} (cx : CX l0 Γ cc own nL R0) (d : decode cc pc = .ok (.iinc 1 z, 3)) (k : G Γ σ kc ks (pc + 3) [x0, some (.int (iI (a + z))), x2, x3, x4, x5] st) : G Γ σ kc ks pc [x0, some (.int (iI a)), x2, x3, x4, x5] st := z_iinc (i := 1) cx rfl d k
theorem z_ii_6_2 {l0 : Launch} {Γ : gC} {cc : ByteArray} {own : String} {nL : Nat} {R0 : Room} {σ : hS} {kc ks pc : Nat} {st : List Value} {x0 x1 x3 x4 x5 : Option Value} {a z : Int} (cx : CX l0 Γ cc own nL R0) (d : decode cc pc = .ok (.iinc 2 z, 3)) (k : G Γ σ kc ks (pc + 3) [x0, x1, some (.int (iI (a + z))), x3, x4, x5] st) : G Γ σ kc ks pc [x0, x1, some (.int (iI a)), x3, x4, x5] st := z_iinc (i := 2) cx rfl d k
theorem z_ii_6_3 {l0 : Launch} {Γ : gC} {cc : ByteArray} {own : String} {nL : Nat} {R0 : Room} {σ : hS} {kc ks pc : Nat} {st : List Value} {x0 x1 x2 x4 x5 : Option Value} {a z : Int} (cx : CX l0 Γ cc own nL R0) (d : decode cc pc = .ok (.iinc 3 z, 3)) (k : G Γ σ kc ks (pc + 3) [x0, x1, x2, some (.int (iI (a + z))), x4, x5] st) : G Γ σ kc ks pc [x0, x1, x2, some (.int (iI a)), x4, x5] st := z_iinc (i := 3) cx rfl d k
theorem z_ii_6_4 {l0 : Launch} {Γ : gC} {cc : ByteArray} {own : String} {nL : Nat} {R0 : Room} {σ : hS} {kc ks pc : Nat} {st : List Value} {x0 x1 x2 x3 x5 : Option Value} {a z : Int} (cx : CX l0 Γ cc own nL R0) (d : decode cc pc = .ok (.iinc 4 z, 3)) (k : G Γ σ kc ks (pc + 3) [x0, x1, x2, x3, some (.int (iI (a + z))), x5] st) : G Γ σ kc ks pc [x0, x1, x2, x3, some (.int (iI a)), x5] st := z_iinc (i := 4) cx rfl d k
theorem z_ii_6_5 {l0 : Launch} {Γ : gC} {cc : ByteArray} {own : String} {nL : Nat} {R0 : Room} {σ : hS} {kc ks pc : Nat} {st : List Value} {x0 x1 x2 x3 x4 : Option Value} {a z : Int} (cx : CX l0 Γ cc own nL R0) (d : decode cc pc = .ok (.iinc 5 z, 3)) (k : G Γ σ kc ks (pc + 3) [x0, x1, x2, x3, x4, some (.int (iI (a + z)))] st) : G Γ σ kc ks pc [x0, x1, x2, x3, x4, some (.int (iI a))] st := z_iinc (i := 5) cx rfl d k
theorem z_ii_7_0 {l0 : Launch} {Γ : gC} {cc : ByteArray} {own : String} {nL : Nat} {R0 : Room} {σ : hS} {kc ks pc : Nat} {st : List Value} {x1 x2 x3 x4 x5 x6 : Option Value} {a z : Int} (cx : CX l0 Γ cc own nL R0) (d : decode cc pc = .ok (.iinc 0 z, 3)) (k : G Γ σ kc ks (pc + 3) [some (.int (iI (a + z))), x1, x2, x3, x4, x5, x6] st) : G Γ σ kc ks pc [some (.int (iI a)), x1, x2, x3, x4, x5, x6] st := z_iinc (i := 0) cx rfl d k
theorem z_ii_7_1 {l0 : Launch} {Γ : gC} {cc : ByteArray} {own : String} {nL : Nat} {R0 : Room} {σ : hS} {kc ks pc : Nat} {st : List Value} {x0 x2 x3 x4 x5 x6 : Option Value} {a z : Int} (cx : CX l0 Γ cc own nL R0) (d : decode cc pc = .ok (.iinc 1 z, 3)) (k : G Γ σ kc ks (pc + 3) [x0, some (.int (iI (a + z))), x2, x3, x4, x5, x6] st) : G Γ σ kc ks pc [x0, some (.int (iI a)), x2, x3, x4, x5, x6] st := z_iinc (i := 1) cx rfl d k
theorem z_ii_7_2 {l0 : Launch} {Γ : gC} {cc : ByteArray} {own : String} {nL : Nat} {R0 : Room} {σ : hS} {kc ks pc : Nat} {st : List Value} {x0 x1 x3 x4 x5 x6 : Option Value} {a z : Int} (cx : CX l0 Γ cc own nL R0) (d : decode cc pc = .ok (.iinc 2 z, 3)) (k : G Γ σ kc ks (pc + 3) [x0, x1, some (.int (iI (a + z))), x3, x4, x5, x6] st) : G Γ σ kc ks pc [x0, x1, some (.int (iI a)), x3, x4, x5, x6] st := z_iinc (i := 2) cx rfl d k
theorem z_ii_7_3 {l0 : Launch} {Γ : gC} {cc : ByteArray} {own : String} {nL : Nat} {R0 : Room} {σ : hS} {kc ks pc : Nat} {st : List Value} {x0 x1 x2 x4 x5 x6 : Option Value} {a z : Int} (cx : CX l0 Γ cc own nL R0) (d : decode cc pc = .ok (.iinc 3 z, 3)) (k : G Γ σ kc ks (pc + 3) [x0, x1, x2, some (.int (iI (a + z))), x4, x5, x6] st) : G Γ σ kc ks pc [x0, x1, x2, some (.int (iI a)), x4, x5, x6] st := z_iinc (i := 3) cx rfl d k
theorem z_ii_7_4 {l0 : Launch} {Γ : gC} {cc : ByteArray} {own : String} {nL : Nat} {R0 : Room} {σ : hS} {kc ks pc : Nat} {st : List Value} {x0 x1 x2 x3 x5 x6 : Option Value} {a z : Int} (cx : CX l0 Γ cc own nL R0) (d : decode cc pc = .ok (.iinc 4 z, 3)) (k : G Γ σ kc ks (pc + 3) [x0, x1, x2, x3, some (.int (iI (a + z))), x5, x6] st) : G Γ σ kc ks pc [x0, x1, x2, x3, some (.int (iI a)), x5, x6] st := z_iinc (i := 4) cx rfl d k
theorem z_ii_7_5 {l0 : Launch} {Γ : gC} {cc : ByteArray} {own : String} {nL : Nat} {R0 : Room} {σ : hS} {kc ks pc : Nat} {st : List Value} {x0 x1 x2 x3 x4 x6 : Option Value} {a z : Int} (cx : CX l0 Γ cc own nL R0) (d : decode cc pc = .ok (.iinc 5 z, 3)) (k : G Γ σ kc ks (pc + 3) [x0, x1, x2, x3, x4, some (.int (iI (a + z))), x6] st) : G Γ σ kc ks pc [x0, x1, x2, x3, x4, some (.int (iI a)), x6] st := z_iinc (i := 5) cx rfl d k
theorem z_ii_7_6 {l0 : Launch} {Γ : gC} {cc : ByteArray} {own : String} {nL : Nat} {R0 : Room} {σ : hS} {kc ks pc : Nat} {st : List Value} {x0 x1 x2 x3 x4 x5 : Option Value} {a z : Int} (cx : CX l0 Γ cc own nL R0) (d : decode cc pc = .ok (.iinc 6 z, 3)) (k : G Γ σ kc ks (pc + 3) [x0, x1, x2, x3, x4, x5, some (.int (iI (a + z)))] st) : G Γ σ kc ks pc [x0, x1, x2, x3, x4, x5, some (.int (iI a))] st := z_iinc (i := 6) cx rfl d k
theorem z_ii_8_0 {l0 : Launch} {Γ : gC} {cc : ByteArray} {own : String} {nL : Nat} {R0 : Room} {σ : hS} {kc ks pc : Nat} {st : List Value} {x1 x2 x3 x4 x5 x6 x7 : Option Value} {a z : Int} (cx : CX l0 Γ cc own nL R0) (d : decode cc pc = .ok (.iinc 0 z, 3)) (k : G Γ σ kc ks (pc + 3) [some (.int (iI (a + z))), x1, x2, x3, x4, x5, x6, x7] st) : G Γ σ kc ks pc [some (.int (iI a)), x1, x2, x3, x4, x5, x6, x7] st := z_iinc (i := 0) cx rfl d k
theorem z_ii_8_1 {l0 : Launch} {Γ : gC} {cc : ByteArray} {own : String} {nL : Nat} {R0 : Room} {σ : hS} {kc ks pc : Nat} {st : List Value} {x0 x2 x3 x4 x5 x6 x7 : Option Value} {a z : Int} (cx : CX l0 Γ cc own nL R0) (d : decode cc pc = .ok (.iinc 1 z, 3)) (k : G Γ σ kc ks (pc + 3) [x0, some (.int (iI (a + z))), x2, x3, x4, x5, x6, x7] st) : G Γ σ kc ks pc [x0, some (.int (iI a)), x2, x3, x4, x5, x6, x7] st := z_iinc (i := 1) cx rfl d k
theorem z_ii_8_2 {l0 : Launch} {Γ : gC} {cc : ByteArray} {own : String} {nL : Nat} {R0 : Room} {σ : hS} {kc ks pc : Nat} {st : List Value} {x0 x1 x3 x4 x5 x6 x7 : Option Value} {a z : Int} (cx : CX l0 Γ cc own nL R0) (d : decode cc pc = .ok (.iinc 2 z, 3)) (k : G Γ σ kc ks (pc + 3) [x0, x1, some (.int (iI (a + z))), x3, x4, x5, x6, x7] st) : G Γ σ kc ks pc [x0, x1, some (.int (iI a)), x3, x4, x5, x6, x7] st := z_iinc (i := 2) cx rfl d k
theorem z_ii_8_3 {l0 : Launch} {Γ : gC} {cc : ByteArray} {own : String} {nL : Nat} {R0 : Room} {σ : hS} {kc ks pc : Nat} {st : List Value} {x0 x1 x2 x4 x5 x6 x7 : Option Value} {a z : Int} (cx : CX l0 Γ cc own nL R0) (d : decode cc pc = .ok (.iinc 3 z, 3)) (k : G Γ σ kc ks (pc + 3) [x0, x1, x2, some (.int (iI (a + z))), x4, x5, x6, x7] st) : G Γ σ kc ks pc [x0, x1, x2, some (.int (iI a)), x4, x5, x6, x7] st := z_iinc (i := 3) cx rfl d k
theorem z_ii_8_4 {l0 : Launch} {Γ : gC} {cc : ByteArray} {own : String} {nL : Nat} {R0 : Room} {σ : hS} {kc ks pc : Nat} {st : List Value} {x0 x1 x2 x3 x5 x6 x7 : Option Value} {a z : Int} (cx : CX l0 Γ cc own nL R0) (d : decode cc pc = .ok (.iinc 4 z, 3)) (k : G Γ σ kc ks (pc + 3) [x0, x1, x2, x3, some (.int (iI (a + z))), x5, x6, x7] st) : G Γ σ kc ks pc [x0, x1, x2, x3, some (.int (iI a)), x5, x6, x7] st := z_iinc (i := 4) cx rfl d k
theorem z_ii_8_5 {l0 : Launch} {Γ : gC} {cc : ByteArray} {own : String} {nL : Nat} {R0 : Room} {σ : hS} {kc ks pc : Nat} {st : List Value} {x0 x1 x2 x3 x4 x6 x7 : Option Value} {a z : Int} (cx : CX l0 Γ cc own nL R0) (d : decode cc pc = .ok (.iinc 5 z, 3)) (k : G Γ σ kc ks (pc + 3) [x0, x1, x2, x3, x4, some (.int (iI (a + z))), x6, x7] st) : G Γ σ kc ks pc [x0, x1, x2, x3, x4, some (.int (iI a)), x6, x7] st := z_iinc (i := 5) cx rfl d k
theorem z_ii_8_6 {l0 : Launch} {Γ : gC} {cc : ByteArray} {own : String} {nL : Nat} {R0 : Room} {σ : hS} {kc ks pc : Nat} {st : List Value} {x0 x1 x2 x3 x4 x5 x7 : Option Value} {a z : Int} (cx : CX l0 Γ cc own nL R0) (d : decode cc pc = .ok (.iinc 6 z, 3)) (k : G Γ σ kc ks (pc + 3) [x0, x1, x2, x3, x4, x5, some (.int (iI (a + z))), x7] st) : G Γ σ kc ks pc [x0, x1, x2, x3, x4, x5, some (.int (iI a)), x7] st := z_iinc (i := 6) cx rfl d k
theorem z_ii_8_7 {l0 : Launch} {Γ : gC} {cc : ByteArray} {own : String} {nL : Nat} {R0 : Room} {σ : hS} {kc ks pc : Nat} {st : List Value} {x0 x1 x2 x3 x4 x5 x6 : Option Value} {a z : Int} (cx : CX l0 Γ cc own nL R0) (d : decode cc pc = .ok (.iinc 7 z, 3)) (k : G Γ σ kc ks (pc + 3) [x0, x1, x2, x3, x4, x5, x6, some (.int (iI (a + z)))] st) : G Γ σ kc ks pc [x0, x1, x2, x3, x4, x5, x6, some (.int (iI a))] st := z_iinc (i := 7) cx rfl d k
theorem z_ii_9_0 {l0 : Launch} {Γ : gC} {cc : ByteArray} {own : String} {nL : Nat} {R0 : Room} {σ : hS} {kc ks pc : Nat} {st : List Value} {x1 x2 x3 x4 x5 x6 x7 x8 : Option Value} {a z : Int} (cx : CX l0 Γ cc own nL R0) (d : decode cc pc = .ok (.iinc 0 z, 3)) (k : G Γ σ kc ks (pc + 3) [some (.int (iI (a + z))), x1, x2, x3, x4, x5, x6, x7, x8] st) : G Γ σ kc ks pc [some (.int (iI a)), x1, x2, x3, x4, x5, x6, x7, x8] st := z_iinc (i := 0) cx rfl d k
theorem z_ii_9_1 {l0 : Launch} {Γ : gC} {cc : ByteArray} {own : String} {nL : Nat} {R0 : Room} {σ : hS} {kc ks pc : Nat} {st : List Value} {x0 x2 x3 x4 x5 x6 x7 x8 : Option Value} {a z : Int} (cx : CX l0 Γ cc own nL R0) (d : decode cc pc = .ok (.iinc 1 z, 3)) (k : G Γ σ kc ks (pc + 3) [x0, some (.int (iI (a + z))), x2, x3, x4, x5, x6, x7, x8] st) : G Γ σ kc ks pc [x0, some (.int (iI a)), x2, x3, x4, x5, x6, x7, x8] st := z_iinc (i := 1) cx rfl d k
theorem z_ii_9_2 {l0 : Launch} {Γ : gC} {cc : ByteArray} {own : String} {nL : Nat} {R0 : Room} {σ : hS} {kc ks pc : Nat} {st : List Value} {x0 x1 x3 x4 x5 x6 x7 x8 : Option Value} {a z : Int} (cx : CX l0 Γ cc own nL R0) (d : decode cc pc = .ok (.iinc 2 z, 3)) (k : G Γ σ kc ks (pc + 3) [x0, x1, some (.int (iI (a + z))), x3, x4, x5, x6, x7, x8] st) : G Γ σ kc ks pc [x0, x1, some (.int (iI a)), x3, x4, x5, x6, x7, x8] st := z_iinc (i := 2) cx rfl d k
theorem z_ii_9_3 {l0 : Launch} {Γ : gC} {cc : ByteArray} {own : String} {nL : Nat} {R0 : Room} {σ : hS} {kc ks pc : Nat} {st : List Value} {x0 x1 x2 x4 x5 x6 x7 x8 : Option Value} {a z : Int} (cx : CX l0 Γ cc own nL R0) (d : decode cc pc = .ok (.iinc 3 z, 3)) (k : G Γ σ kc ks (pc + 3) [x0, x1, x2, some (.int (iI (a + z))), x4, x5, x6, x7, x8] st) : G Γ σ kc ks pc [x0, x1, x2, some (.int (iI a)), x4, x5, x6, x7, x8] st := z_iinc (i := 3) cx rfl d k
theorem z_ii_9_4 {l0 : Launch} {Γ : gC} {cc : ByteArray} {own : String} {nL : Nat} {R0 : Room} {σ : hS} {kc ks pc : Nat} {st : List Value} {x0 x1 x2 x3 x5 x6 x7 x8 : Option Value} {a z : Int} (cx : CX l0 Γ cc own nL R0) (d : decode cc pc = .ok (.iinc 4 z, 3)) (k : G Γ σ kc ks (pc + 3) [x0, x1, x2, x3, some (.int (iI (a + z))), x5, x6, x7, x8] st) : G Γ σ kc ks pc [x0, x1, x2, x3, some (.int (iI a)), x5, x6, x7, x8] st := z_iinc (i := 4) cx rfl d k
theorem z_ii_9_5 {l0 : Launch} {Γ : gC} {cc : ByteArray} {own : String} {nL : Nat} {R0 : Room} {σ : hS} {kc ks pc : Nat} {st : List Value} {x0 x1 x2 x3 x4 x6 x7 x8 : Option Value} {a z : Int} (cx : CX l0 Γ cc own nL R0) (d : decode cc pc = .ok (.iinc 5 z, 3)) (k : G Γ σ kc ks (pc + 3) [x0, x1, x2, x3, x4, some (.int (iI (a + z))), x6, x7, x8] st) : G Γ σ kc ks pc [x0, x1, x2, x3, x4, some (.int (iI a)), x6, x7, x8] st := z_iinc (i := 5) cx rfl d k
theorem z_ii_9_6 {l0 : Launch} {Γ : gC} {cc : ByteArray} {own : String} {nL : Nat} {R0 : Room} {σ : hS} {kc ks pc : Nat} {st : List Value} {x0 x1 x2 x3 x4 x5 x7 x8 : Option Value} {a z : Int} (cx : CX l0 Γ cc own nL R0) (d : decode cc pc = .ok (.iinc 6 z, 3)) (k : G Γ σ kc ks (pc + 3) [x0, x1, x2, x3, x4, x5, some (.int (iI (a + z))), x7, x8] st) : G Γ σ kc ks pc [x0, x1, x2, x3, x4, x5, some (.int (iI a)), x7, x8] st := z_iinc (i := 6) cx rfl d k
theorem z_ii_9_7 {l0 : Launch} {Γ : gC} {cc : ByteArray} {own : String} {nL : Nat} {R0 : Room} {σ : hS} {kc ks pc : Nat} {st : List Value} {x0 x1 x2 x3 x4 x5 x6 x8 : Option Value} {a z : Int} (cx : CX l0 Γ cc own nL R0) (d : decode cc pc = .ok (.iinc 7 z, 3)) (k : G Γ σ kc ks (pc + 3) [x0, x1, x2, x3, x4, x5, x6, some (.int (iI (a + z))), x8] st) : G Γ σ kc ks pc [x0, x1, x2, x3, x4, x5, x6, some (.int (iI a)), x8] st := z_iinc (i := 7) cx rfl d k
theorem z_ii_9_8 {l0 : Launch} {Γ : gC} {cc : ByteArray} {own : String} {nL : Nat} {R0 : Room} {σ : hS} {kc ks pc : Nat} {st : List Value} {x0 x1 x2 x3 x4 x5 x6 x7 : Option Value} {a z : Int} (cx : CX l0 Γ cc own nL R0) (d : decode cc pc = .ok (.iinc 8 z, 3)) (k : G Γ σ kc ks (pc + 3) [x0, x1, x2, x3, x4, x5, x6, x7, some (.int (iI (a + z)))] st) : G Γ σ kc ks pc [x0, x1, x2, x3, x4, x5, x6, x7, some (.int (iI a))] st := z_iinc (i := 8) cx rfl d k
theorem z_ii_10_0 {l0 : Launch} {Γ : gC} {cc : ByteArray} {own : String} {nL : Nat} {R0 : Room} {σ : hS} {kc ks pc : Nat} {st : List Value} {x1 x2 x3 x4 x5 x6 x7 x8 x9 : Option Value} {a z : Int} (cx : CX l0 Γ cc own nL R0) (d : decode cc pc = .ok (.iinc 0 z, 3)) (k : G Γ σ kc ks (pc + 3) [some (.int (iI (a + z))), x1, x2, x3, x4, x5, x6, x7, x8, x9] st) : G Γ σ kc ks pc [some (.int (iI a)), x1, x2, x3, x4, x5, x6, x7, x8, x9] st := z_iinc (i := 0) cx rfl d k
theorem z_ii_10_1 {l0 : Launch} {Γ : gC} {cc : ByteArray} {own : String} {nL : Nat} {R0 : Room} {σ : hS} {kc ks pc : Nat} {st : List Value} {x0 x2 x3 x4 x5 x6 x7 x8 x9 : Option Value} {a z : Int} (cx : CX l0 Γ cc own nL R0) (d : decode cc pc = .ok (.iinc 1 z, 3)) (k : G Γ σ kc ks (pc + 3) [x0, some (.int (iI (a + z))), x2, x3, x4, x5, x6, x7, x8, x9] st) : G Γ σ kc ks pc [x0, some (.int (iI a)), x2, x3, x4, x5, x6, x7, x8, x9] st := z_iinc (i := 1) cx rfl d k
theorem z_ii_10_2 {l0 : Launch} {Γ : gC} {cc : ByteArray} {own : String} {nL : Nat} {R0 : Room} {σ : hS} {kc ks pc : Nat} {st : List Value} {x0 x1 x3 x4 x5 x6 x7 x8 x9 : Option Value} {a z : Int} (cx : CX l0 Γ cc own nL R0) (d : decode cc pc = .ok (.iinc 2 z, 3)) (k : G Γ σ kc ks (pc + 3) [x0, x1, some (.int (iI (a + z))), x3, x4, x5, x6, x7, x8, x9] st) : G Γ σ kc ks pc [x0, x1, some (.int (iI a)), x3, x4, x5, x6, x7, x8, x9] st := z_iinc (i := 2) cx rfl d k
theorem z_ii_10_3 {l0 : Launch} {Γ : gC} {cc : ByteArray} {own : String} {nL : Nat} {R0 : Room} {σ : hS} {kc ks pc : Nat} {st : List Value} {x0 x1 x2 x4 x5 x6 x7 x8 x9 : Option Value} {a z : Int} (cx : CX l0 Γ cc own nL R0) (d : decode cc pc = .ok (.iinc 3 z, 3)) (k : G Γ σ kc ks (pc + 3) [x0, x1, x2, some (.int (iI (a + z))), x4, x5, x6, x7, x8, x9] st) : G Γ σ kc ks pc [x0, x1, x2, some (.int (iI a)), x4, x5, x6, x7, x8, x9] st := z_iinc (i := 3) cx rfl d k
theorem z_ii_10_4 {l0 : Launch} {Γ : gC} {cc : ByteArray} {own : String} {nL : Nat} {R0 : Room} {σ : hS} {kc ks pc : Nat} {st : List Value} {x0 x1 x2 x3 x5 x6 x7 x8 x9 : Option Value} {a z : Int} (cx : CX l0 Γ cc own nL R0) (d : decode cc pc = .ok (.iinc 4 z, 3)) (k : G Γ σ kc ks (pc + 3) [x0, x1, x2, x3, some (.int (iI (a + z))), x5, x6, x7, x8, x9] st) : G Γ σ kc ks pc [x0, x1, x2, x3, some (.int (iI a)), x5, x6, x7, x8, x9] st := z_iinc (i := 4) cx rfl d k
theorem z_ii_10_5 {l0 : Launch} {Γ : gC} {cc : ByteArray} {own : String} {nL : Nat} {R0 : Room} {σ : hS} {kc ks pc : Nat} {st : List Value} {x0 x1 x2 x3 x4 x6 x7 x8 x9 : Option Value} {a z : Int} (cx : CX l0 Γ cc own nL R0) (d : decode cc pc = .ok (.iinc 5 z, 3)) (k : G Γ σ kc ks (pc + 3) [x0, x1, x2, x3, x4, some (.int (iI (a + z))), x6, x7, x8, x9] st) : G Γ σ kc ks pc [x0, x1, x2, x3, x4, some (.int (iI a)), x6, x7, x8, x9] st := z_iinc (i := 5) cx rfl d k
theorem z_ii_10_6 {l0 : Launch} {Γ : gC} {cc : ByteArray} {own : String} {nL : Nat} {R0 : Room} {σ : hS} {kc ks pc : Nat} {st : List Value} {x0 x1 x2 x3 x4 x5 x7 x8 x9 : Option Value} {a z : Int} (cx : CX l0 Γ cc own nL R0) (d : decode cc pc = .ok (.iinc 6 z, 3)) (k : G Γ σ kc ks (pc + 3) [x0, x1, x2, x3, x4, x5, some (.int (iI (a + z))), x7, x8, x9] st) : G Γ σ kc ks pc [x0, x1, x2, x3, x4, x5, some (.int (iI a)), x7, x8, x9] st := z_iinc (i := 6) cx rfl d k
theorem z_ii_10_7 {l0 : Launch} {Γ : gC} {cc : ByteArray} {own : String} {nL : Nat} {R0 : Room} {σ : hS} {kc ks pc : Nat} {st : List Value} {x0 x1 x2 x3 x4 x5 x6 x8 x9 : Option Value} {a z : Int} (cx : CX l0 Γ cc own nL R0) (d : decode cc pc = .ok (.iinc 7 z, 3)) (k : G Γ σ kc ks (pc + 3) [x0, x1, x2, x3, x4, x5, x6, some (.int (iI (a + z))), x8, x9] st) : G Γ σ kc ks pc [x0, x1, x2, x3, x4, x5, x6, some (.int (iI a)), x8, x9] st := z_iinc (i := 7) cx rfl d k
theorem z_ii_10_8 {l0 : Launch} {Γ : gC} {cc : ByteArray} {own : String} {nL : Nat} {R0 : Room} {σ : hS} {kc ks pc : Nat} {st : List Value} {x0 x1 x2 x3 x4 x5 x6 x7 x9 : Option Value} {a z : Int} (cx : CX l0 Γ cc own nL R0) (d : decode cc pc = .ok (.iinc 8 z, 3)) (k : G Γ σ kc ks (pc + 3) [x0, x1, x2, x3, x4, x5, x6, x7, some (.int (iI (a + z))), x9] st) : G Γ σ kc ks pc [x0, x1, x2, x3, x4, x5, x6, x7, some (.int (iI a)), x9] st := z_iinc (i := 8) cx rfl d k
theorem z_ii_10_9 {l0 : Launch} {Γ : gC} {cc : ByteArray} {own : String} {nL : Nat} {R0 : Room} {σ : hS} {kc ks pc : Nat} {st : List Value} {x0 x1 x2 x3 x4 x5 x6 x7 x8 : Option Value} {a z : Int} (cx : CX l0 Γ cc own nL R0) (d : decode cc pc = .ok (.iinc 9 z, 3)) (k : G Γ σ kc ks (pc + 3) [x0, x1, x2, x3, x4, x5, x6, x7, x8, some (.int (iI (a + z)))] st) : G Γ σ kc ks pc [x0, x1, x2, x3, x4, x5, x6, x7, x8, some (.int (iI a))] st := z_iinc (i := 9) cx rfl d k
theorem z_il_1_0 {l0 : Launch} {Γ : gC} {cc : ByteArray} {own : String} {nL : Nat} {R0 : Room} {σ : hS} {kc ks pc : Nat} {st : List Value} {v : Int32} (cx : CX l0 Γ cc own nL R0) (d : decode cc pc = .ok (.iload_n 0, 1)) (k : G Γ σ kc ks (pc + 1) [some (.int v)] (.int v :: st)) : G Γ σ kc ks pc [some (.int v)] st := g_iload_n (q := 0) (i := 0) cx rfl rfl d k
theorem z_il_2_0 {l0 : Launch} {Γ : gC} {cc : ByteArray} {own : String} {nL : Nat} {R0 : Room} {σ : hS} {kc ks pc : Nat} {st : List Value} {x1 : Option Value} {v : Int32} (cx : CX l0 Γ cc own nL R0) (d : decode cc pc = .ok (.iload_n 0, 1)) (k : G Γ σ kc ks (pc + 1) [some (.int v), x1] (.int v :: st)) : G Γ σ kc ks pc [some (.int v), x1] st := g_iload_n (q := 0) (i := 0) cx rfl rfl d k
theorem z_il_2_1 {l0 : Launch} {Γ : gC} {cc : ByteArray} {own : String} {nL : Nat} {R0 : Room} {σ : hS} {kc ks pc : Nat} {st : List Value} {x0 : Option Value} {v : Int32} (cx : CX l0 Γ cc own nL R0) (d : decode cc pc = .ok (.iload_n 1, 1)) (k : G Γ σ kc ks (pc + 1) [x0, some (.int v)] (.int v :: st)) : G Γ σ kc ks pc [x0, some (.int v)] st := g_iload_n (q := 1) (i := 1) cx rfl rfl d k
theorem z_il_3_0 {l0 : Launch} {Γ : gC} {cc : ByteArray} {own : String} {nL : Nat} {R0 : Room} {σ : hS} {kc ks pc : Nat} {st : List Value} {x1 x2 : Option Value} {v : Int32} (cx : CX l0 Γ cc own nL R0) (d : decode cc pc = .ok (.iload_n 0, 1)) (k : G Γ σ kc ks (pc + 1) [some (.int v), x1, x2] (.int v :: st)) : G Γ σ kc ks pc [some (.int v), x1, x2] st := g_iload_n (q := 0) (i := 0) cx rfl rfl d k
theorem z_il_3_1 {l0 : Launch} {Γ : gC} {cc : ByteArray} {own : String} {nL : Nat} {R0 : Room} {σ : hS} {kc ks pc : Nat} {st : List Value} {x0 x2 : Option Value} {v : Int32} (cx : CX l0 Γ cc own nL R0) (d : decode cc pc = .ok (.iload_n 1, 1)) (k : G Γ σ kc ks (pc + 1) [x0, some (.int v), x2] (.int v :: st)) : G Γ σ kc ks pc [x0, some (.int v), x2] st := g_iload_n (q := 1) (i := 1) cx rfl rfl d k
theorem z_il_3_2 {l0 : Launch} {Γ : gC} {cc : ByteArray} {own : String} {nL : Nat} {R0 : Room} {σ : hS} {kc ks pc : Nat} {st : List Value} {x0 x1 : Option Value} {v : Int32} (cx : CX l0 Γ cc own nL R0) (d : decode cc pc = .ok (.iload_n 2, 1)) (k : G Γ σ kc ks (pc + 1) [x0, x1, some (.int v)] (.int v :: st)) : G Γ σ kc ks pc [x0, x1, some (.int v)] st := g_iload_n (q := 2) (i := 2) cx rfl rfl d k
theorem z_il_4_0 {l0 : Launch} {Γ : gC} {cc : ByteArray} {own : String} {nL : Nat} {R0 : Room} {σ : hS} {kc ks pc : Nat} {st : List Value} {x1 x2 x3 : Option Value} {v : Int32} (cx : CX l0 Γ cc own nL R0) (d : decode cc pc = .ok (.iload_n 0, 1)) (k : G Γ σ kc ks (pc + 1) [some (.int v), x1, x2, x3] (.int v :: st)) : G Γ σ kc ks pc [some (.int v), x1, x2, x3] st := g_iload_n (q := 0) (i := 0) cx rfl rfl d k
theorem z_il_4_1 {l0 : Launch} {Γ : gC} {cc : ByteArray} {own : String} {nL : Nat} {R0 : Room} {σ : hS} {kc ks pc : Nat} {st : List Value} {x0 x2 x3 : Option Value} {v : Int32} (cx : CX l0 Γ cc own nL R0) (d : decode cc pc = .ok (.iload_n 1, 1)) (k : G Γ σ kc ks (pc + 1) [x0, some (.int v), x2, x3] (.int v :: st)) : G Γ σ kc ks pc [x0, some (.int v), x2, x3] st := g_iload_n (q := 1) (i := 1) cx rfl rfl d k
theorem z_il_4_2 {l0 : Launch} {Γ : gC} {cc : ByteArray} {own : String} {nL : Nat} {R0 : Room} {σ : hS} {kc ks pc : Nat} {st : List Value} {x0 x1 x3 : Option Value} {v : Int32} (cx : CX l0 Γ cc own nL R0) (d : decode cc pc = .ok (.iload_n 2, 1)) (k : G Γ σ kc ks (pc + 1) [x0, x1, some (.int v), x3] (.int v :: st)) : G Γ σ kc ks pc [x0, x1, some (.int v), x3] st := g_iload_n (q := 2) (i := 2) cx rfl rfl d k
theorem z_il_4_3 {l0 : Launch} {Γ : gC} {cc : ByteArray} {own : String} {nL : Nat} {R0 : Room} {σ : hS} {kc ks pc : Nat} {st : List Value} {x0 x1 x2 : Option Value} {v : Int32} (cx : CX l0 Γ cc own nL R0) (d : decode cc pc = .ok (.iload_n 3, 1)) (k : G Γ σ kc ks (pc + 1) [x0, x1, x2, some (.int v)] (.int v :: st)) : G Γ σ kc ks pc [x0, x1, x2, some (.int v)] st := g_iload_n (q := 3) (i := 3) cx rfl rfl d k
theorem z_il_5_0 {l0 : Launch} {Γ : gC} {cc : ByteArray} {own : String} {nL : Nat} {R0 : Room} {σ : hS} {kc ks pc : Nat} {st : List Value} {x1 x2 x3 x4 : Option Value} {v : Int32} (cx : CX l0 Γ cc own nL R0) (d : decode cc pc = .ok (.iload_n 0, 1)) (k : G Γ σ kc ks (pc + 1) [some (.int v), x1, x2, x3, x4] (.int v :: st)) : G Γ σ kc ks pc [some (.int v), x1, x2, x3, x4] st := g_iload_n (q := 0) (i := 0) cx rfl rfl d k
theorem z_il_5_1 {l0 : Launch} {Γ : gC} {cc : ByteArray} {own : String} {nL : Nat} {R0 : Room} {σ : hS} {kc ks pc : Nat} {st : List Value} {x0 x2 x3 x4 : Option Value} {v : Int32} (cx : CX l0 Γ cc own nL R0) (d : decode cc pc = .ok (.iload_n 1, 1)) (k : G Γ σ kc ks (pc + 1) [x0, some (.int v), x2, x3, x4] (.int v :: st)) : G Γ σ kc ks pc [x0, some (.int v), x2, x3, x4] st := g_iload_n (q := 1) (i := 1) cx rfl rfl d k
theorem z_il_5_2 {l0 : Launch} {Γ : gC} {cc : ByteArray} {own : String} {nL : Nat} {R0 : Room} {σ : hS} {kc ks pc : Nat} {st : List Value} {x0 x1 x3 x4 : Option Value} {v : Int32} (cx : CX l0 Γ cc own nL R0) (d : decode cc pc = .ok (.iload_n 2, 1)) (k : G Γ σ kc ks (pc + 1) [x0, x1, some (.int v), x3, x4] (.int v :: st)) : G Γ σ kc ks pc [x0, x1, some (.int v), x3, x4] st := g_iload_n (q := 2) (i := 2) cx rfl rfl d k
theorem z_il_5_3 {l0 : Launch} {Γ : gC} {cc : ByteArray} {own : String} {nL : Nat} {R0 : Room} {σ : hS} {kc ks pc : Nat} {st : List Value} {x0 x1 x2 x4 : Option Value} {v : Int32} (cx : CX l0 Γ cc own nL R0) (d : decode cc pc = .ok (.iload_n 3, 1)) (k : G Γ σ kc ks (pc + 1) [x0, x1, x2, some (.int v), x4] (.int v :: st)) : G Γ σ kc ks pc [x0, x1, x2, some (.int v), x4] st := g_iload_n (q := 3) (i := 3) cx rfl rfl d k
theorem z_il_5_4 {l0 : Launch} {Γ : gC} {cc : ByteArray} {own : String} {nL : Nat} {R0 : Room} {σ : hS} {kc ks pc : Nat} {st : List Value} {x0 x1 x2 x3 : Option Value} {v : Int32} (cx : CX l0 Γ cc own nL R0) (d : decode cc pc = .ok (.iload 4, 2)) (k : G Γ σ kc ks (pc + 2) [x0, x1, x2, x3, some (.int v)] (.int v :: st)) : G Γ σ kc ks pc [x0, x1, x2, x3, some (.int v)] st := g_iload (i := 4) cx rfl d k
theorem z_il_6_0 {l0 : Launch} {Γ : gC} {cc : ByteArray} {own : String} {nL : Nat} {R0 : Room} {σ : hS} {kc ks pc : Nat} {st : List Value} {x1 x2 x3 x4 x5 : Option Value} {v : Int32} (cx : CX l0 Γ cc own nL R0) (d : decode cc pc = .ok (.iload_n 0, 1)) (k : G Γ σ kc ks (pc + 1) [some (.int v), x1, x2, x3, x4, x5] (.int v :: st)) : G Γ σ kc ks pc [some (.int v), x1, x2, x3, x4, x5] st := g_iload_n (q := 0) (i := 0) cx rfl rfl d k
theorem z_il_6_1 {l0 : Launch} {Γ : gC} {cc : ByteArray} {own : String} {nL : Nat} {R0 : Room} {σ : hS} {kc ks pc : Nat} {st : List Value} {x0 x2 x3 x4 x5 : Option Value} {v : Int32} (cx : CX l0 Γ cc own nL R0) (d : decode cc pc = .ok (.iload_n 1, 1)) (k : G Γ σ kc ks (pc + 1) [x0, some (.int v), x2, x3, x4, x5] (.int v :: st)) : G Γ σ kc ks pc [x0, some (.int v), x2, x3, x4, x5] st := g_iload_n (q := 1) (i := 1) cx rfl rfl d k
theorem z_il_6_2 {l0 : Launch} {Γ : gC} {cc : ByteArray} {own : String} {nL : Nat} {R0 : Room} {σ : hS} {kc ks pc : Nat} {st : List Value} {x0 x1 x3 x4 x5 : Option Value} {v : Int32} (cx : CX l0 Γ cc own nL R0) (d : decode cc pc = .ok (.iload_n 2, 1)) (k : G Γ σ kc ks (pc + 1) [x0, x1, some (.int v), x3, x4, x5] (.int v :: st)) : G Γ σ kc ks pc [x0, x1, some (.int v), x3, x4, x5] st := g_iload_n (q := 2) (i := 2) cx rfl rfl d k
theorem z_il_6_3 {l0 : Launch} {Γ : gC} {cc : ByteArray} {own : String} {nL : Nat} {R0 : Room} {σ : hS} {kc ks pc : Nat} {st : List Value} {x0 x1 x2 x4 x5 : Option Value} {v : Int32} (cx : CX l0 Γ cc own nL R0) (d : decode cc pc = .ok (.iload_n 3, 1)) (k : G Γ σ kc ks (pc + 1) [x0, x1, x2, some (.int v), x4, x5] (.int v :: st)) : G Γ σ kc ks pc [x0, x1, x2, some (.int v), x4, x5] st := g_iload_n (q := 3) (i := 3) cx rfl rfl d k
theorem z_il_6_4 {l0 : Launch} {Γ : gC} {cc : ByteArray} {own : String} {nL : Nat} {R0 : Room} {σ : hS} {kc ks pc : Nat} {st : List Value} {x0 x1 x2 x3 x5 : Option Value} {v : Int32} (cx : CX l0 Γ cc own nL R0) (d : decode cc pc = .ok (.iload 4, 2)) (k : G Γ σ kc ks (pc + 2) [x0, x1, x2, x3, some (.int v), x5] (.int v :: st)) : G Γ σ kc ks pc [x0, x1, x2, x3, some (.int v), x5] st := g_iload (i := 4) cx rfl d k
theorem z_il_6_5 {l0 : Launch} {Γ : gC} {cc : ByteArray} {own : String} {nL : Nat} {R0 : Room} {σ : hS} {kc ks pc : Nat} {st : List Value} {x0 x1 x2 x3 x4 : Option Value} {v : Int32} (cx : CX l0 Γ cc own nL R0) (d : decode cc pc = .ok (.iload 5, 2)) (k : G Γ σ kc ks (pc + 2) [x0, x1, x2, x3, x4, some (.int v)] (.int v :: st)) : G Γ σ kc ks pc [x0, x1, x2, x3, x4, some (.int v)] st := g_iload (i := 5) cx rfl d k
theorem z_il_7_0 {l0 : Launch} {Γ : gC} {cc : ByteArray} {own : String} {nL : Nat} {R0 : Room} {σ : hS} {kc ks pc : Nat} {st : List Value} {x1 x2 x3 x4 x5 x6 : Option Value} {v : Int32} (cx : CX l0 Γ cc own nL R0) (d : decode cc pc = .ok (.iload_n 0, 1)) (k : G Γ σ kc ks (pc + 1) [some (.int v), x1, x2, x3, x4, x5, x6] (.int v :: st)) : G Γ σ kc ks pc [some (.int v), x1, x2, x3, x4, x5, x6] st := g_iload_n (q := 0) (i := 0) cx rfl rfl d k
theorem z_il_7_1 {l0 : Launch} {Γ : gC} {cc : ByteArray} {own : String} {nL : Nat} {R0 : Room} {σ : hS} {kc ks pc : Nat} {st : List Value} {x0 x2 x3 x4 x5 x6 : Option Value} {v : Int32} (cx : CX l0 Γ cc own nL R0) (d : decode cc pc = .ok (.iload_n 1, 1)) (k : G Γ σ kc ks (pc + 1) [x0, some (.int v), x2, x3, x4, x5, x6] (.int v :: st)) : G Γ σ kc ks pc [x0, some (.int v), x2, x3, x4, x5, x6] st := g_iload_n (q := 1) (i := 1) cx rfl rfl d k
theorem z_il_7_2 {l0 : Launch} {Γ : gC} {cc : ByteArray} {own : String} {nL : Nat} {R0 : Room} {σ : hS} {kc ks pc : Nat} {st : List Value} {x0 x1 x3 x4 x5 x6 : Option Value} {v : Int32} (cx : CX l0 Γ cc own nL R0) (d : decode cc pc = .ok (.iload_n 2, 1)) (k : G Γ σ kc ks (pc + 1) [x0, x1, some (.int v), x3, x4, x5, x6] (.int v :: st)) : G Γ σ kc ks pc [x0, x1, some (.int v), x3, x4, x5, x6] st := g_iload_n (q := 2) (i := 2) cx rfl rfl d k
theorem z_il_7_3 {l0 : Launch} {Γ : gC} {cc : ByteArray} {own : String} {nL : Nat} {R0 : Room} {σ : hS} {kc ks pc : Nat} {st : List Value} {x0 x1 x2 x4 x5 x6 : Option Value} {v : Int32} (cx : CX l0 Γ cc own nL R0) (d : decode cc pc = .ok (.iload_n 3, 1)) (k : G Γ σ kc ks (pc + 1) [x0, x1, x2, some (.int v), x4, x5, x6] (.int v :: st)) : G Γ σ kc ks pc [x0, x1, x2, some (.int v), x4, x5, x6] st := g_iload_n (q := 3) (i := 3) cx rfl rfl d k
theorem z_il_7_4 {l0 : Launch} {Γ : gC} {cc : ByteArray} {own : String} {nL : Nat} {R0 : Room} {σ : hS} {kc ks pc : Nat} {st : List Value} {x0 x1 x2 x3 x5 x6 : Option Value} {v : Int32} (cx : CX l0 Γ cc own nL R0) (d : decode cc pc = .ok (.iload 4, 2)) (k : G Γ σ kc ks (pc + 2) [x0, x1, x2, x3, some (.int v), x5, x6] (.int v :: st)) : G Γ σ kc ks pc [x0, x1, x2, x3, some (.int v), x5, x6] st := g_iload (i := 4) cx rfl d k
theorem z_il_7_5 {l0 : Launch} {Γ : gC} {cc : ByteArray} {own : String} {nL : Nat} {R0 : Room} {σ : hS} {kc ks pc : Nat} {st : List Value} {x0 x1 x2 x3 x4 x6 : Option Value} {v : Int32} (cx : CX l0 Γ cc own nL R0) (d : decode cc pc = .ok (.iload 5, 2)) (k : G Γ σ kc ks (pc + 2) [x0, x1, x2, x3, x4, some (.int v), x6] (.int v :: st)) : G Γ σ kc ks pc [x0, x1, x2, x3, x4, some (.int v), x6] st := g_iload (i := 5) cx rfl d k
theorem z_il_7_6 {l0 : Launch} {Γ : gC} {cc : ByteArray} {own : String} {nL : Nat} {R0 : Room} {σ : hS} {kc ks pc : Nat} {st : List Value} {x0 x1 x2 x3 x4 x5 : Option Value} {v : Int32} (cx : CX l0 Γ cc own nL R0) (d : decode cc pc = .ok (.iload 6, 2)) (k : G Γ σ kc ks (pc + 2) [x0, x1, x2, x3, x4, x5, some (.int v)] (.int v :: st)) : G Γ σ kc ks pc [x0, x1, x2, x3, x4, x5, some (.int v)] st := g_iload (i := 6) cx rfl d k
theorem z_il_8_0 {l0 : Launch} {Γ : gC} {cc : ByteArray} {own : String} {nL : Nat} {R0 : Room} {σ : hS} {kc ks pc : Nat} {st : List Value} {x1 x2 x3 x4 x5 x6 x7 : Option Value} {v : Int32} (cx : CX l0 Γ cc own nL R0) (d : decode cc pc = .ok (.iload_n 0, 1)) (k : G Γ σ kc ks (pc + 1) [some (.int v), x1, x2, x3, x4, x5, x6, x7] (.int v :: st)) : G Γ σ kc ks pc [some (.int v), x1, x2, x3, x4, x5, x6, x7] st := g_iload_n (q := 0) (i := 0) cx rfl rfl d k
theorem z_il_8_1 {l0 : Launch} {Γ : gC} {cc : ByteArray} {own : String} {nL : Nat} {R0 : Room} {σ : hS} {kc ks pc : Nat} {st : List Value} {x0 x2 x3 x4 x5 x6 x7 : Option Value} {v : Int32} (cx : CX l0 Γ cc own nL R0) (d : decode cc pc = .ok (.iload_n 1, 1)) (k : G Γ σ kc ks (pc + 1) [x0, some (.int v), x2, x3, x4, x5, x6, x7] (.int v :: st)) : G Γ σ kc ks pc [x0, some (.int v), x2, x3, x4, x5, x6, x7] st := g_iload_n (q := 1) (i := 1) cx rfl rfl d k
theorem z_il_8_2 {l0 : Launch} {Γ : gC} {cc : ByteArray} {own : String} {nL : Nat} {R0 : Room} {σ : hS} {kc ks pc : Nat} {st : List Value} {x0 x1 x3 x4 x5 x6 x7 : Option Value} {v : Int32} (cx : CX l0 Γ cc own nL R0) (d : decode cc pc = .ok (.iload_n 2, 1)) (k : G Γ σ kc ks (pc + 1) [x0, x1, some (.int v), x3, x4, x5, x6, x7] (.int v :: st)) : G Γ σ kc ks pc [x0, x1, some (.int v), x3, x4, x5, x6, x7] st := g_iload_n (q := 2) (i := 2) cx rfl rfl d k
theorem z_il_8_3 {l0 : Launch} {Γ : gC} {cc : ByteArray} {own : String} {nL : Nat} {R0 : Room} {σ : hS} {kc ks pc : Nat} {st : List Value} {x0 x1 x2 x4 x5 x6 x7 : Option Value} {v : Int32} (cx : CX l0 Γ cc own nL R0) (d : decode cc pc = .ok (.iload_n 3, 1)) (k : G Γ σ kc ks (pc + 1) [x0, x1, x2, some (.int v), x4, x5, x6, x7] (.int v :: st)) : G Γ σ kc ks pc [x0, x1, x2, some (.int v), x4, x5, x6, x7] st := g_iload_n (q := 3) (i := 3) cx rfl rfl d k
theorem z_il_8_4 {l0 : Launch} {Γ : gC} {cc : ByteArray} {own : String} {nL : Nat} {R0 : Room} {σ : hS} {kc ks pc : Nat} {st : List Value} {x0 x1 x2 x3 x5 x6 x7 : Option Value} {v : Int32} (cx : CX l0 Γ cc own nL R0) (d : decode cc pc = .ok (.iload 4, 2)) (k : G Γ σ kc ks (pc + 2) [x0, x1, x2, x3, some (.int v), x5, x6, x7] (.int v :: st)) : G Γ σ kc ks pc [x0, x1, x2, x3, some (.int v), x5, x6, x7] st := g_iload (i := 4) cx rfl d k
theorem z_il_8_5 {l0 : Launch} {Γ : gC} {cc : ByteArray} {own : String} {nL : Nat} {R0 : Room} {σ : hS} {kc ks pc : Nat} {st : List Value} {x0 x1 x2 x3 x4 x6 x7 : Option Value} {v : Int32} (cx : CX l0 Γ cc own nL R0) (d : decode cc pc = .ok (.iload 5, 2)) (k : G Γ σ kc ks (pc + 2) [x0, x1, x2, x3, x4, some (.int v), x6, x7] (.int v :: st)) : G Γ σ kc ks pc [x0, x1, x2, x3, x4, some (.int v), x6, x7] st := g_iload (i := 5) cx rfl d k
theorem z_il_8_6 {l0 : Launch} {Γ : gC} {cc : ByteArray} {own : String} {nL : Nat} {R0 : Room} {σ : hS} {kc ks pc : Nat} {st : List Value} {x0 x1 x2 x3 x4 x5 x7 : Option Value} {v : Int32} (cx : CX l0 Γ cc own nL R0) (d : decode cc pc = .ok (.iload 6, 2)) (k : G Γ σ kc ks (pc + 2) [x0, x1, x2, x3, x4, x5, some (.int v), x7] (.int v :: st)) : G Γ σ kc ks pc [x0, x1, x2, x3, x4, x5, some (.int v), x7] st := g_iload (i := 6) cx rfl d k
theorem z_il_8_7 {l0 : Launch} {Γ : gC} {cc : ByteArray} {own : String} {nL : Nat} {R0 : Room} {σ : hS} {kc ks pc : Nat} {st : List Value} {x0 x1 x2 x3 x4 x5 x6 : Option Value} {v : Int32} (cx : CX l0 Γ cc own nL R0) (d : decode cc pc = .ok (.iload 7, 2)) (k : G Γ σ kc ks (pc + 2) [x0, x1, x2, x3, x4, x5, x6, some (.int v)] (.int v :: st)) : G Γ σ kc ks pc [x0, x1, x2, x3, x4, x5, x6, some (.int v)] st := g_iload (i := 7) cx rfl d k
theorem z_il_9_0 {l0 : Launch} {Γ : gC} {cc : ByteArray} {own : String} {nL : Nat} {R0 : Room} {σ : hS} {kc ks pc : Nat} {st : List Value} {x1 x2 x3 x4 x5 x6 x7 x8 : Option Value} {v : Int32} (cx : CX l0 Γ cc own nL R0) (d : decode cc pc = .ok (.iload_n 0, 1)) (k : G Γ σ kc ks (pc + 1) [some (.int v), x1, x2, x3, x4, x5, x6, x7, x8] (.int v :: st)) : G Γ σ kc ks pc [some (.int v), x1, x2, x3, x4, x5, x6, x7, x8] st := g_iload_n (q := 0) (i := 0) cx rfl rfl d k
theorem z_il_9_1 {l0 : Launch} {Γ : gC} {cc : ByteArray} {own : String} {nL : Nat} {R0 : Room} {σ : hS} {kc ks pc : Nat} {st : List Value} {x0 x2 x3 x4 x5 x6 x7 x8 : Option Value} {v : Int32} (cx : CX l0 Γ cc own nL R0) (d : decode cc pc = .ok (.iload_n 1, 1)) (k : G Γ σ kc ks (pc + 1) [x0, some (.int v), x2, x3, x4, x5, x6, x7, x8] (.int v :: st)) : G Γ σ kc ks pc [x0, some (.int v), x2, x3, x4, x5, x6, x7, x8] st := g_iload_n (q := 1) (i := 1) cx rfl rfl d k
theorem z_il_9_2 {l0 : Launch} {Γ : gC} {cc : ByteArray} {own : String} {nL : Nat} {R0 : Room} {σ : hS} {kc ks pc : Nat} {st : List Value} {x0 x1 x3 x4 x5 x6 x7 x8 : Option Value} {v : Int32} (cx : CX l0 Γ cc own nL R0) (d : decode cc pc = .ok (.iload_n 2, 1)) (k : G Γ σ kc ks (pc + 1) [x0, x1, some (.int v), x3, x4, x5, x6, x7, x8] (.int v :: st)) : G Γ σ kc ks pc [x0, x1, some (.int v), x3, x4, x5, x6, x7, x8] st := g_iload_n (q := 2) (i := 2) cx rfl rfl d k
theorem z_il_9_3 {l0 : Launch} {Γ : gC} {cc : ByteArray} {own : String} {nL : Nat} {R0 : Room} {σ : hS} {kc ks pc : Nat} {st : List Value} {x0 x1 x2 x4 x5 x6 x7 x8 : Option Value} {v : Int32} (cx : CX l0 Γ cc own nL R0) (d : decode cc pc = .ok (.iload_n 3, 1)) (k : G Γ σ kc ks (pc + 1) [x0, x1, x2, some (.int v), x4, x5, x6, x7, x8] (.int v :: st)) : G Γ σ kc ks pc [x0, x1, x2, some (.int v), x4, x5, x6, x7, x8] st := g_iload_n (q := 3) (i := 3) cx rfl rfl d k
theorem z_il_9_4 {l0 : Launch} {Γ : gC} {cc : ByteArray} {own : String} {nL : Nat} {R0 : Room} {σ : hS} {kc ks pc : Nat} {st : List Value} {x0 x1 x2 x3 x5 x6 x7 x8 : Option Value} {v : Int32} (cx : CX l0 Γ cc own nL R0) (d : decode cc pc = .ok (.iload 4, 2)) (k : G Γ σ kc ks (pc + 2) [x0, x1, x2, x3, some (.int v), x5, x6, x7, x8] (.int v :: st)) : G Γ σ kc ks pc [x0, x1, x2, x3, some (.int v), x5, x6, x7, x8] st := g_iload (i := 4) cx rfl d k
theorem z_il_9_5 {l0 : Launch} {Γ : gC} {cc : ByteArray} {own : String} {nL : Nat} {R0 : Room} {σ : hS} {kc ks pc : Nat} {st : List Value} {x0 x1 x2 x3 x4 x6 x7 x8 : Option Value} {v : Int32} (cx : CX l0 Γ cc own nL R0) (d : decode cc pc = .ok (.iload 5, 2)) (k : G Γ σ kc ks (pc + 2) [x0, x1, x2, x3, x4, some (.int v), x6, x7, x8] (.int v :: st)) : G Γ σ kc ks pc [x0, x1, x2, x3, x4, some (.int v), x6, x7, x8] st := g_iload (i := 5) cx rfl d k
theorem z_il_9_6 {l0 : Launch} {Γ : gC} {cc : ByteArray} {own : String} {nL : Nat} {R0 : Room} {σ : hS} {kc ks pc : Nat} {st : List Value} {x0 x1 x2 x3 x4 x5 x7 x8 : Option Value} {v : Int32} (cx : CX l0 Γ cc own nL R0) (d : decode cc pc = .ok (.iload 6, 2)) (k : G Γ σ kc ks (pc + 2) [x0, x1, x2, x3, x4, x5, some (.int v), x7, x8] (.int v :: st)) : G Γ σ kc ks pc [x0, x1, x2, x3, x4, x5, some (.int v), x7, x8] st := g_iload (i := 6) cx rfl d k
theorem z_il_9_7 {l0 : Launch} {Γ : gC} {cc : ByteArray} {own : String} {nL : Nat} {R0 : Room} {σ : hS} {kc ks pc : Nat} {st : List Value} {x0 x1 x2 x3 x4 x5 x6 x8 : Option Value} {v : Int32} (cx : CX l0 Γ cc own nL R0) (d : decode cc pc = .ok (.iload 7, 2)) (k : G Γ σ kc ks (pc + 2) [x0, x1, x2, x3, x4, x5, x6, some (.int v), x8] (.int v :: st)) : G Γ σ kc ks pc [x0, x1, x2, x3, x4, x5, x6, some (.int v), x8] st := g_iload (i := 7) cx rfl d k
theorem z_il_9_8 {l0 : Launch} {Γ : gC} {cc : ByteArray} {own : String} {nL : Nat} {R0 : Room} {σ : hS} {kc ks pc : Nat} {st : List Value} {x0 x1 x2 x3 x4 x5 x6 x7 : Option Value} {v : Int32} (cx : CX l0 Γ cc own nL R0) (d : decode cc pc = .ok (.iload 8, 2)) (k : G Γ σ kc ks (pc + 2) [x0, x1, x2, x3, x4, x5, x6, x7, some (.int v)] (.int v :: st)) : G Γ σ kc ks pc [x0, x1, x2, x3, x4, x5, x6, x7, some (.int v)] st := g_iload (i := 8) cx rfl d k
theorem z_il_10_0 {l0 : Launch} {Γ : gC} {cc : ByteArray} {own : String} {nL : Nat} {R0 : Room} {σ : hS} {kc ks pc : Nat} {st : List Value} {x1 x2 x3 x4 x5 x6 x7 x8 x9 : Option Value} {v : Int32} (cx : CX l0 Γ cc own nL R0) (d : decode cc pc = .ok (.iload_n 0, 1)) (k : G Γ σ kc ks (pc + 1) [some (.int v), x1, x2, x3, x4, x5, x6, x7, x8, x9] (.int v :: st)) : G Γ σ kc ks pc [some (.int v), x1, x2, x3, x4, x5, x6, x7, x8, x9] st := g_iload_n (q := 0) (i := 0) cx rfl rfl d k
theorem z_il_10_1 {l0 : Launch} {Γ : gC} {cc : ByteArray} {own : String} {nL : Nat} {R0 : Room} {σ : hS} {kc ks pc : Nat} {st : List Value} {x0 x2 x3 x4 x5 x6 x7 x8 x9 : Option Value} {v : Int32} (cx : CX l0 Γ cc own nL R0) (d : decode cc pc = .ok (.iload_n 1, 1)) (k : G Γ σ kc ks (pc + 1) [x0, some (.int v), x2, x3, x4, x5, x6, x7, x8, x9] (.int v :: st)) : G Γ σ kc ks pc [x0, some (.int v), x2, x3, x4, x5, x6, x7, x8, x9] st := g_iload_n (q := 1) (i := 1) cx rfl rfl d k
theorem z_il_10_2 {l0 : Launch} {Γ : gC} {cc : ByteArray} {own : String} {nL : Nat} {R0 : Room} {σ : hS} {kc ks pc : Nat} {st : List Value} {x0 x1 x3 x4 x5 x6 x7 x8 x9 : Option Value} {v : Int32} (cx : CX l0 Γ cc own nL R0) (d : decode cc pc = .ok (.iload_n 2, 1)) (k : G Γ σ kc ks (pc + 1) [x0, x1, some (.int v), x3, x4, x5, x6, x7, x8, x9] (.int v :: st)) : G Γ σ kc ks pc [x0, x1, some (.int v), x3, x4, x5, x6, x7, x8, x9] st := g_iload_n (q := 2) (i := 2) cx rfl rfl d k
theorem z_il_10_3 {l0 : Launch} {Γ : gC} {cc : ByteArray} {own : String} {nL : Nat} {R0 : Room} {σ : hS} {kc ks pc : Nat} {st : List Value} {x0 x1 x2 x4 x5 x6 x7 x8 x9 : Option Value} {v : Int32} (cx : CX l0 Γ cc own nL R0) (d : decode cc pc = .ok (.iload_n 3, 1)) (k : G Γ σ kc ks (pc + 1) [x0, x1, x2, some (.int v), x4, x5, x6, x7, x8, x9] (.int v :: st)) : G Γ σ kc ks pc [x0, x1, x2, some (.int v), x4, x5, x6, x7, x8, x9] st := g_iload_n (q := 3) (i := 3) cx rfl rfl d k
theorem z_il_10_4 {l0 : Launch} {Γ : gC} {cc : ByteArray} {own : String} {nL : Nat} {R0 : Room} {σ : hS} {kc ks pc : Nat} {st : List Value} {x0 x1 x2 x3 x5 x6 x7 x8 x9 : Option Value} {v : Int32} (cx : CX l0 Γ cc own nL R0) (d : decode cc pc = .ok (.iload 4, 2)) (k : G Γ σ kc ks (pc + 2) [x0, x1, x2, x3, some (.int v), x5, x6, x7, x8, x9] (.int v :: st)) : G Γ σ kc ks pc [x0, x1, x2, x3, some (.int v), x5, x6, x7, x8, x9] st := g_iload (i := 4) cx rfl d k
theorem z_il_10_5 {l0 : Launch} {Γ : gC} {cc : ByteArray} {own : String} {nL : Nat} {R0 : Room} {σ : hS} {kc ks pc : Nat} {st : List Value} {x0 x1 x2 x3 x4 x6 x7 x8 x9 : Option Value} {v : Int32} (cx : CX l0 Γ cc own nL R0) (d : decode cc pc = .ok (.iload 5, 2)) (k : G Γ σ kc ks (pc + 2) [x0, x1, x2, x3, x4, some (.int v), x6, x7, x8, x9] (.int v :: st)) : G Γ σ kc ks pc [x0, x1, x2, x3, x4, some (.int v), x6, x7, x8, x9] st := g_iload (i := 5) cx rfl d k
theorem z_il_10_6 {l0 : Launch} {Γ : gC} {cc : ByteArray} {own : String} {nL : Nat} {R0 : Room} {σ : hS} {kc ks pc : Nat} {st : List Value} {x0 x1 x2 x3 x4 x5 x7 x8 x9 : Option Value} {v : Int32} (cx : CX l0 Γ cc own nL R0) (d : decode cc pc = .ok (.iload 6, 2)) (k : G Γ σ kc ks (pc + 2) [x0, x1, x2, x3, x4, x5, some (.int v), x7, x8, x9] (.int v :: st)) : G Γ σ kc ks pc [x0, x1, x2, x3, x4, x5, some (.int v), x7, x8, x9] st := g_iload (i := 6) cx rfl d k
theorem z_il_10_7 {l0 : Launch} {Γ : gC} {cc : ByteArray} {own : String} {nL : Nat} {R0 : Room} {σ : hS} {kc ks pc : Nat} {st : List Value} {x0 x1 x2 x3 x4 x5 x6 x8 x9 : Option Value} {v : Int32} (cx : CX l0 Γ cc own nL R0) (d : decode cc pc = .ok (.iload 7, 2)) (k : G Γ σ kc ks (pc + 2) [x0, x1, x2, x3, x4, x5, x6, some (.int v), x8, x9] (.int v :: st)) : G Γ σ kc ks pc [x0, x1, x2, x3, x4, x5, x6, some (.int v), x8, x9] st := g_iload (i := 7) cx rfl d k
theorem z_il_10_8 {l0 : Launch} {Γ : gC} {cc : ByteArray} {own : String} {nL : Nat} {R0 : Room} {σ : hS} {kc ks pc : Nat} {st : List Value} {x0 x1 x2 x3 x4 x5 x6 x7 x9 : Option Value} {v : Int32} (cx : CX l0 Γ cc own nL R0) (d : decode cc pc = .ok (.iload 8, 2)) (k : G Γ σ kc ks (pc + 2) [x0, x1, x2, x3, x4, x5, x6, x7, some (.int v), x9] (.int v :: st)) : G Γ σ kc ks pc [x0, x1, x2, x3, x4, x5, x6, x7, some (.int v), x9] st := g_iload (i := 8) cx rfl d k
theorem z_il_10_9 {l0 : Launch} {Γ : gC} {cc : ByteArray} {own : String} {nL : Nat} {R0 : Room} {σ : hS} {kc ks pc : Nat} {st : List Value} {x0 x1 x2 x3 x4 x5 x6 x7 x8 : Option Value} {v : Int32} (cx : CX l0 Γ cc own nL R0) (d : decode cc pc = .ok (.iload 9, 2)) (k : G Γ σ kc ks (pc + 2) [x0, x1, x2, x3, x4, x5, x6, x7, x8, some (.int v)] (.int v :: st)) : G Γ σ kc ks pc [x0, x1, x2, x3, x4, x5, x6, x7, x8, some (.int v)] st := g_iload (i := 9) cx rfl d k
theorem z_is_1_0 {l0 : Launch} {Γ : gC} {cc : ByteArray} {own : String} {nL : Nat} {R0 : Room} {σ : hS} {kc ks pc : Nat} {st : List Value} {x0 : Option Value} {v : Int32} (cx : CX l0 Γ cc own nL R0) (d : decode cc pc = .ok (.istore_n 0, 1)) (k : G Γ σ kc ks (pc + 1) [some (.int v)] st) : G Γ σ kc ks pc [x0] (.int v :: st) := g_istore_n (q := 0) (i := 0) cx rfl (by simp) d k
theorem z_is_2_0 {l0 : Launch} {Γ : gC} {cc : ByteArray} {own : String} {nL : Nat} {R0 : Room} {σ : hS} {kc ks pc : Nat} {st : List Value} {x0 x1 : Option Value} {v : Int32} (cx : CX l0 Γ cc own nL R0) (d : decode cc pc = .ok (.istore_n 0, 1)) (k : G Γ σ kc ks (pc + 1) [some (.int v), x1] st) : G Γ σ kc ks pc [x0, x1] (.int v :: st) := g_istore_n (q := 0) (i := 0) cx rfl (by simp) d k
theorem z_is_2_1 {l0 : Launch} {Γ : gC} {cc : ByteArray} {own : String} {nL : Nat} {R0 : Room} {σ : hS} {kc ks pc : Nat} {st : List Value} {x0 x1 : Option Value} {v : Int32} (cx : CX l0 Γ cc own nL R0) (d : decode cc pc = .ok (.istore_n 1, 1)) (k : G Γ σ kc ks (pc + 1) [x0, some (.int v)] st) : G Γ σ kc ks pc [x0, x1] (.int v :: st) := g_istore_n (q := 1) (i := 1) cx rfl (by simp) d k
theorem z_is_3_0 {l0 : Launch} {Γ : gC} {cc : ByteArray} {own : String} {nL : Nat} {R0 : Room} {σ : hS} {kc ks pc : Nat} {st : List Value} {x0 x1 x2 : Option Value} {v : Int32} (cx : CX l0 Γ cc own nL R0) (d : decode cc pc = .ok (.istore_n 0, 1)) (k : G Γ σ kc ks (pc + 1) [some (.int v), x1, x2] st) : G Γ σ kc ks pc [x0, x1, x2] (.int v :: st) := g_istore_n (q := 0) (i := 0) cx rfl (by simp) d k
theorem z_is_3_1 {l0 : Launch} {Γ : gC} {cc : ByteArray} {own : String} {nL : Nat} {R0 : Room} {σ : hS} {kc ks pc : Nat} {st : List Value} {x0 x1 x2 : Option Value} {v : Int32} (cx : CX l0 Γ cc own nL R0) (d : decode cc pc = .ok (.istore_n 1, 1)) (k : G Γ σ kc ks (pc + 1) [x0, some (.int v), x2] st) : G Γ σ kc ks pc [x0, x1, x2] (.int v :: st) := g_istore_n (q := 1) (i := 1) cx rfl (by simp) d k
theorem z_is_3_2 {l0 : Launch} {Γ : gC} {cc : ByteArray} {own : String} {nL : Nat} {R0 : Room} {σ : hS} {kc ks pc : Nat} {st : List Value} {x0 x1 x2 : Option Value} {v : Int32} (cx : CX l0 Γ cc own nL R0) (d : decode cc pc = .ok (.istore_n 2, 1)) (k : G Γ σ kc ks (pc + 1) [x0, x1, some (.int v)] st) : G Γ σ kc ks pc [x0, x1, x2] (.int v :: st) := g_istore_n (q := 2) (i := 2) cx rfl (by simp) d k
theorem z_is_4_0 {l0 : Launch} {Γ : gC} {cc : ByteArray} {own : String} {nL : Nat} {R0 : Room} {σ : hS} {kc ks pc : Nat} {st : List Value} {x0 x1 x2 x3 : Option Value} {v : Int32} (cx : CX l0 Γ cc own nL R0) (d : decode cc pc = .ok (.istore_n 0, 1)) (k : G Γ σ kc ks (pc + 1) [some (.int v), x1, x2, x3] st) : G Γ σ kc ks pc [x0, x1, x2, x3] (.int v :: st) := g_istore_n (q := 0) (i := 0) cx rfl (by simp) d k
theorem z_is_4_1 {l0 : Launch} {Γ : gC} {cc : ByteArray} {own : String} {nL : Nat} {R0 : Room} {σ : hS} {kc ks pc : Nat} {st : List Value} {x0 x1 x2 x3 : Option Value} {v : Int32} (cx : CX l0 Γ cc own nL R0) (d : decode cc pc = .ok (.istore_n 1, 1)) (k : G Γ σ kc ks (pc + 1) [x0, some (.int v), x2, x3] st) : G Γ σ kc ks pc [x0, x1, x2, x3] (.int v :: st) := g_istore_n (q := 1) (i := 1) cx rfl (by simp) d k
theorem z_is_4_2 {l0 : Launch} {Γ : gC} {cc : ByteArray} {own : String} {nL : Nat} {R0 : Room} {σ : hS} {kc ks pc : Nat} {st : List Value} {x0 x1 x2 x3 : Option Value} {v : Int32} (cx : CX l0 Γ cc own nL R0) (d : decode cc pc = .ok (.istore_n 2, 1)) (k : G Γ σ kc ks (pc + 1) [x0, x1, some (.int v), x3] st) : G Γ σ kc ks pc [x0, x1, x2, x3] (.int v :: st) := g_istore_n (q := 2) (i := 2) cx rfl (by simp) d k
theorem z_is_4_3 {l0 : Launch} {Γ : gC} {cc : ByteArray} {own : String} {nL : Nat} {R0 : Room} {σ : hS} {kc ks pc : Nat} {st : List Value} {x0 x1 x2 x3 : Option Value} {v : Int32} (cx : CX l0 Γ cc own nL R0) (d : decode cc pc = .ok (.istore_n 3, 1)) (k : G Γ σ kc ks (pc + 1) [x0, x1, x2, some (.int v)] st) : G Γ σ kc ks pc [x0, x1, x2, x3] (.int v :: st) := g_istore_n (q := 3) (i := 3) cx rfl (by simp) d k
theorem z_is_5_0 {l0 : Launch} {Γ : gC} {cc : ByteArray} {own : String} {nL : Nat} {R0 : Room} {σ : hS} {kc ks pc : Nat} {st : List Value} {x0 x1 x2 x3 x4 : Option Value} {v : Int32} (cx : CX l0 Γ cc own nL R0) (d : decode cc pc = .ok (.istore_n 0, 1)) (k : G Γ σ kc ks (pc + 1) [some (.int v), x1, x2, x3, x4] st) : G Γ σ kc ks pc [x0, x1, x2, x3, x4] (.int v :: st) := g_istore_n (q := 0) (i := 0) cx rfl (by simp) d k
theorem z_is_5_1 {l0 : Launch} {Γ : gC} {cc : ByteArray} {own : String} {nL : Nat} {R0 : Room} {σ : hS} {kc ks pc : Nat} {st : List Value} {x0 x1 x2 x3 x4 : Option Value} {v : Int32} (cx : CX l0 Γ cc own nL R0) (d : decode cc pc = .ok (.istore_n 1, 1)) (k : G Γ σ kc ks (pc + 1) [x0, some (.int v), x2, x3, x4] st) : G Γ σ kc ks pc [x0, x1, x2, x3, x4] (.int v :: st) := g_istore_n (q := 1) (i := 1) cx rfl (by simp) d k
theorem z_is_5_2 {l0 : Launch} {Γ : gC} {cc : ByteArray} {own : String} {nL : Nat} {R0 : Room} {σ : hS} {kc ks pc : Nat} {st : List Value} {x0 x1 x2 x3 x4 : Option Value} {v : Int32} (cx : CX l0 Γ cc own nL R0) (d : decode cc pc = .ok (.istore_n 2, 1)) (k : G Γ σ kc ks (pc + 1) [x0, x1, some (.int v), x3, x4] st) : G Γ σ kc ks pc [x0, x1, x2, x3, x4] (.int v :: st) := g_istore_n (q := 2) (i := 2) cx rfl (by simp) d k
theorem z_is_5_3 {l0 : Launch} {Γ : gC} {cc : ByteArray} {own : String} {nL : Nat} {R0 : Room} {σ : hS} {kc ks pc : Nat} {st : List Value} {x0 x1 x2 x3 x4 : Option Value} {v : Int32} (cx : CX l0 Γ cc own nL R0) (d : decode cc pc = .ok (.istore_n 3, 1)) (k : G Γ σ kc ks (pc + 1) [x0, x1, x2, some (.int v), x4] st) : G Γ σ kc ks pc [x0, x1, x2, x3, x4] (.int v :: st) := g_istore_n (q := 3) (i := 3) cx rfl (by simp) d k
theorem z_is_5_4 {l0 : Launch} {Γ : gC} {cc : ByteArray} {own : String} {nL : Nat} {R0 : Room} {σ : hS} {kc ks pc : Nat} {st : List Value} {x0 x1 x2 x3 x4 : Option Value} {v : Int32} (cx : CX l0 Γ cc own nL R0) (d : decode cc pc = .ok (.istore 4, 2)) (k : G Γ σ kc ks (pc + 2) [x0, x1, x2, x3, some (.int v)] st) : G Γ σ kc ks pc [x0, x1, x2, x3, x4] (.int v :: st) := g_istore (i := 4) cx (by simp) d k
theorem z_is_6_0 {l0 : Launch} {Γ : gC} {cc : ByteArray} {own : String} {nL : Nat} {R0 : Room} {σ : hS} {kc ks pc : Nat} {st : List Value} {x0 x1 x2 x3 x4 x5 : Option Value} {v : Int32} (cx : CX l0 Γ cc own nL R0) (d : decode cc pc = .ok (.istore_n 0, 1)) (k : G Γ σ kc ks (pc + 1) [some (.int v), x1, x2, x3, x4, x5] st) : G Γ σ kc ks pc [x0, x1, x2, x3, x4, x5] (.int v :: st) := g_istore_n (q := 0) (i := 0) cx rfl (by simp) d k
theorem z_is_6_1 {l0 : Launch} {Γ : gC} {cc : ByteArray} {own : String} {nL : Nat} {R0 : Room} {σ : hS} {kc ks pc : Nat} {st : List Value} {x0 x1 x2 x3 x4 x5 : Option Value} {v : Int32} (cx : CX l0 Γ cc own nL R0) (d : decode cc pc = .ok (.istore_n 1, 1)) (k : G Γ σ kc ks (pc + 1) [x0, some (.int v), x2, x3, x4, x5] st) : G Γ σ kc ks pc [x0, x1, x2, x3, x4, x5] (.int v :: st) := g_istore_n (q := 1) (i := 1) cx rfl (by simp) d k
theorem z_is_6_2 {l0 : Launch} {Γ : gC} {cc : ByteArray} {own : String} {nL : Nat} {R0 : Room} {σ : hS} {kc ks pc : Nat} {st : List Value} {x0 x1 x2 x3 x4 x5 : Option Value} {v : Int32} (cx : CX l0 Γ cc own nL R0) (d : decode cc pc = .ok (.istore_n 2, 1)) (k : G Γ σ kc ks (pc + 1) [x0, x1, some (.int v), x3, x4, x5] st) : G Γ σ kc ks pc [x0, x1, x2, x3, x4, x5] (.int v :: st) := g_istore_n (q := 2) (i := 2) cx rfl (by simp) d k
theorem z_is_6_3 {l0 : Launch} {Γ : gC} {cc : ByteArray} {own : String} {nL : Nat} {R0 : Room} {σ : hS} {kc ks pc : Nat} {st : List Value} {x0 x1 x2 x3 x4 x5 : Option Value} {v : Int32} (cx : CX l0 Γ cc own nL R0) (d : decode cc pc = .ok (.istore_n 3, 1)) (k : G Γ σ kc ks (pc + 1) [x0, x1, x2, some (.int v), x4, x5] st) : G Γ σ kc ks pc [x0, x1, x2, x3, x4, x5] (.int v :: st) := g_istore_n (q := 3) (i := 3) cx rfl (by simp) d k
theorem z_is_6_4 {l0 : Launch} {Γ : gC} {cc : ByteArray} {own : String} {nL : Nat} {R0 : Room} {σ : hS} {kc ks pc : Nat} {st : List Value} {x0 x1 x2 x3 x4 x5 : Option Value} {v : Int32} (cx : CX l0 Γ cc own nL R0) (d : decode cc pc = .ok (.istore 4, 2)) (k : G Γ σ kc ks (pc + 2) [x0, x1, x2, x3, some (.int v), x5] st) : G Γ σ kc ks pc [x0, x1, x2, x3, x4, x5] (.int v :: st) := g_istore (i := 4) cx (by simp) d k
theorem z_is_6_5 {l0 : Launch} {Γ : gC} {cc : ByteArray} {own : String} {nL : Nat} {R0 : Room} {σ : hS} {kc ks pc : Nat} {st : List Value} {x0 x1 x2 x3 x4 x5 : Option Value} {v : Int32} (cx : CX l0 Γ cc own nL R0) (d : decode cc pc = .ok (.istore 5, 2)) (k : G Γ σ kc ks (pc + 2) [x0, x1, x2, x3, x4, some (.int v)] st) : G Γ σ kc ks pc [x0, x1, x2, x3, x4, x5] (.int v :: st) := g_istore (i := 5) cx (by simp) d k
theorem z_is_7_0 {l0 : Launch} {Γ : gC} {cc : ByteArray} {own : String} {nL : Nat} {R0 : Room} {σ : hS} {kc ks pc : Nat} {st : List Value} {x0 x1 x2 x3 x4 x5 x6 : Option Value} {v : Int32} (cx : CX l0 Γ cc own nL R0) (d : decode cc pc = .ok (.istore_n 0, 1)) (k : G Γ σ kc ks (pc + 1) [some (.int v), x1, x2, x3, x4, x5, x6] st) : G Γ σ kc ks pc [x0, x1, x2, x3, x4, x5, x6] (.int v :: st) := g_istore_n (q := 0) (i := 0) cx rfl (by simp) d k
theorem z_is_7_1 {l0 : Launch} {Γ : gC} {cc : ByteArray} {own : String} {nL : Nat} {R0 : Room} {σ : hS} {kc ks pc : Nat} {st : List Value} {x0 x1 x2 x3 x4 x5 x6 : Option Value} {v : Int32} (cx : CX l0 Γ cc own nL R0) (d : decode cc pc = .ok (.istore_n 1, 1)) (k : G Γ σ kc ks (pc + 1) [x0, some (.int v), x2, x3, x4, x5, x6] st) : G Γ σ kc ks pc [x0, x1, x2, x3, x4, x5, x6] (.int v :: st) := g_istore_n (q := 1) (i := 1) cx rfl (by simp) d k
theorem z_is_7_2 {l0 : Launch} {Γ : gC} {cc : ByteArray} {own : String} {nL : Nat} {R0 : Room} {σ : hS} {kc ks pc : Nat} {st : List Value} {x0 x1 x2 x3 x4 x5 x6 : Option Value} {v : Int32} (cx : CX l0 Γ cc own nL R0) (d : decode cc pc = .ok (.istore_n 2, 1)) (k : G Γ σ kc ks (pc + 1) [x0, x1, some (.int v), x3, x4, x5, x6] st) : G Γ σ kc ks pc [x0, x1, x2, x3, x4, x5, x6] (.int v :: st) := g_istore_n (q := 2) (i := 2) cx rfl (by simp) d k
theorem z_is_7_3 {l0 : Launch} {Γ : gC} {cc : ByteArray} {own : String} {nL : Nat} {R0 : Room} {σ : hS} {kc ks pc : Nat} {st : List Value} {x0 x1 x2 x3 x4 x5 x6 : Option Value} {v : Int32} (cx : CX l0 Γ cc own nL R0) (d : decode cc pc = .ok (.istore_n 3, 1)) (k : G Γ σ kc ks (pc + 1) [x0, x1, x2, some (.int v), x4, x5, x6] st) : G Γ σ kc ks pc [x0, x1, x2, x3, x4, x5, x6] (.int v :: st) := g_istore_n (q := 3) (i := 3) cx rfl (by simp) d k
theorem z_is_7_4 {l0 : Launch} {Γ : gC} {cc : ByteArray} {own : String} {nL : Nat} {R0 : Room} {σ : hS} {kc ks pc : Nat} {st : List Value} {x0 x1 x2 x3 x4 x5 x6 : Option Value} {v : Int32} (cx : CX l0 Γ cc own nL R0) (d : decode cc pc = .ok (.istore 4, 2)) (k : G Γ σ kc ks (pc + 2) [x0, x1, x2, x3, some (.int v), x5, x6] st) : G Γ σ kc ks pc [x0, x1, x2, x3, x4, x5, x6] (.int v :: st) := g_istore (i := 4) cx (by simp) d k
theorem z_is_7_5 {l0 : Launch} {Γ : gC} {cc : ByteArray} {own : String} {nL : Nat} {R0 : Room} {σ : hS} {kc ks pc : Nat} {st : List Value} {x0 x1 x2 x3 x4 x5 x6 : Option Value} {v : Int32} (cx : CX l0 Γ cc own nL R0) (d : decode cc pc = .ok (.istore 5, 2)) (k : G Γ σ kc ks (pc + 2) [x0, x1, x2, x3, x4, some (.int v), x6] st) : G Γ σ kc ks pc [x0, x1, x2, x3, x4, x5, x6] (.int v :: st) := g_istore (i := 5) cx (by simp) d k
theorem z_is_7_6 {l0 : Launch} {Γ : gC} {cc : ByteArray} {own : String} {nL : Nat} {R0 : Room} {σ : hS} {kc ks pc : Nat} {st : List Value} {x0 x1 x2 x3 x4 x5 x6 : Option Value} {v : Int32} (cx : CX l0 Γ cc own nL R0) (d : decode cc pc = .ok (.istore 6, 2)) (k : G Γ σ kc ks (pc + 2) [x0, x1, x2, x3, x4, x5, some (.int v)] st) : G Γ σ kc ks pc [x0, x1, x2, x3, x4, x5, x6] (.int v :: st) := g_istore (i := 6) cx (by simp) d k
theorem z_is_8_0 {l0 : Launch} {Γ : gC} {cc : ByteArray} {own : String} {nL : Nat} {R0 : Room} {σ : hS} {kc ks pc : Nat} {st : List Value} {x0 x1 x2 x3 x4 x5 x6 x7 : Option Value} {v : Int32} (cx : CX l0 Γ cc own nL R0) (d : decode cc pc = .ok (.istore_n 0, 1)) (k : G Γ σ kc ks (pc + 1) [some (.int v), x1, x2, x3, x4, x5, x6, x7] st) : G Γ σ kc ks pc [x0, x1, x2, x3, x4, x5, x6, x7] (.int v :: st) := g_istore_n (q := 0) (i := 0) cx rfl (by simp) d k
theorem z_is_8_1 {l0 : Launch} {Γ : gC} {cc : ByteArray} {own : String} {nL : Nat} {R0 : Room} {σ : hS} {kc ks pc : Nat} {st : List Value} {x0 x1 x2 x3 x4 x5 x6 x7 : Option Value} {v : Int32} (cx : CX l0 Γ cc own nL R0) (d : decode cc pc = .ok (.istore_n 1, 1)) (k : G Γ σ kc ks (pc + 1) [x0, some (.int v), x2, x3, x4, x5, x6, x7] st) : G Γ σ kc ks pc [x0, x1, x2, x3, x4, x5, x6, x7] (.int v :: st) := g_istore_n (q := 1) (i := 1) cx rfl (by simp) d k
theorem z_is_8_2 {l0 : Launch} {Γ : gC} {cc : ByteArray} {own : String} {nL : Nat} {R0 : Room} {σ : hS} {kc ks pc : Nat} {st : List Value} {x0 x1 x2 x3 x4 x5 x6 x7 : Option Value} {v : Int32} (cx : CX l0 Γ cc own nL R0) (d : decode cc pc = .ok (.istore_n 2, 1)) (k : G Γ σ kc ks (pc + 1) [x0, x1, some (.int v), x3, x4, x5, x6, x7] st) : G Γ σ kc ks pc [x0, x1, x2, x3, x4, x5, x6, x7] (.int v :: st) := g_istore_n (q := 2) (i := 2) cx rfl (by simp) d k
theorem z_is_8_3 {l0 : Launch} {Γ : gC} {cc : ByteArray} {own : String} {nL : Nat} {R0 : Room} {σ : hS} {kc ks pc : Nat} {st : List Value} {x0 x1 x2 x3 x4 x5 x6 x7 : Option Value} {v : Int32} (cx : CX l0 Γ cc own nL R0) (d : decode cc pc = .ok (.istore_n 3, 1)) (k : G Γ σ kc ks (pc + 1) [x0, x1, x2, some (.int v), x4, x5, x6, x7] st) : G Γ σ kc ks pc [x0, x1, x2, x3, x4, x5, x6, x7] (.int v :: st) := g_istore_n (q := 3) (i := 3) cx rfl (by simp) d k
theorem z_is_8_4 {l0 : Launch} {Γ : gC} {cc : ByteArray} {own : String} {nL : Nat} {R0 : Room} {σ : hS} {kc ks pc : Nat} {st : List Value} {x0 x1 x2 x3 x4 x5 x6 x7 : Option Value} {v : Int32} (cx : CX l0 Γ cc own nL R0) (d : decode cc pc = .ok (.istore 4, 2)) (k : G Γ σ kc ks (pc + 2) [x0, x1, x2, x3, some (.int v), x5, x6, x7] st) : G Γ σ kc ks pc [x0, x1, x2, x3, x4, x5, x6, x7] (.int v :: st) := g_istore (i := 4) cx (by simp) d k
theorem z_is_8_5 {l0 : Launch} {Γ : gC} {cc : ByteArray} {own : String} {nL : Nat} {R0 : Room} {σ : hS} {kc ks pc : Nat} {st : List Value} {x0 x1 x2 x3 x4 x5 x6 x7 : Option Value} {v : Int32} (cx : CX l0 Γ cc own nL R0) (d : decode cc pc = .ok (.istore 5, 2)) (k : G Γ σ kc ks (pc + 2) [x0, x1, x2, x3, x4, some (.int v), x6, x7] st) : G Γ σ kc ks pc [x0, x1, x2, x3, x4, x5, x6, x7] (.int v :: st) := g_istore (i := 5) cx (by simp) d k
theorem z_is_8_6 {l0 : Launch} {Γ : gC} {cc : ByteArray} {own : String} {nL : Nat} {R0 : Room} {σ : hS} {kc ks pc : Nat} {st : List Value} {x0 x1 x2 x3 x4 x5 x6 x7 : Option Value} {v : Int32} (cx : CX l0 Γ cc own nL R0) (d : decode cc pc = .ok (.istore 6, 2)) (k : G Γ σ kc ks (pc + 2) [x0, x1, x2, x3, x4, x5, some (.int v), x7] st) : G Γ σ kc ks pc [x0, x1, x2, x3, x4, x5, x6, x7] (.int v :: st) := g_istore (i := 6) cx (by simp) d k
theorem z_is_8_7 {l0 : Launch} {Γ : gC} {cc : ByteArray} {own : String} {nL : Nat} {R0 : Room} {σ : hS} {kc ks pc : Nat} {st : List Value} {x0 x1 x2 x3 x4 x5 x6 x7 : Option Value} {v : Int32} (cx : CX l0 Γ cc own nL R0) (d : decode cc pc = .ok (.istore 7, 2)) (k : G Γ σ kc ks (pc + 2) [x0, x1, x2, x3, x4, x5, x6, some (.int v)] st) : G Γ σ kc ks pc [x0, x1, x2, x3, x4, x5, x6, x7] (.int v :: st) := g_istore (i := 7) cx (by simp) d k
theorem z_is_9_0 {l0 : Launch} {Γ : gC} {cc : ByteArray} {own : String} {nL : Nat} {R0 : Room} {σ : hS} {kc ks pc : Nat} {st : List Value} {x0 x1 x2 x3 x4 x5 x6 x7 x8 : Option Value} {v : Int32} (cx : CX l0 Γ cc own nL R0) (d : decode cc pc = .ok (.istore_n 0, 1)) (k : G Γ σ kc ks (pc + 1) [some (.int v), x1, x2, x3, x4, x5, x6, x7, x8] st) : G Γ σ kc ks pc [x0, x1, x2, x3, x4, x5, x6, x7, x8] (.int v :: st) := g_istore_n (q := 0) (i := 0) cx rfl (by simp) d k
theorem z_is_9_1 {l0 : Launch} {Γ : gC} {cc : ByteArray} {own : String} {nL : Nat} {R0 : Room} {σ : hS} {kc ks pc : Nat} {st : List Value} {x0 x1 x2 x3 x4 x5 x6 x7 x8 : Option Value} {v : Int32} (cx : CX l0 Γ cc own nL R0) (d : decode cc pc = .ok (.istore_n 1, 1)) (k : G Γ σ kc ks (pc + 1) [x0, some (.int v), x2, x3, x4, x5, x6, x7, x8] st) : G Γ σ kc ks pc [x0, x1, x2, x3, x4, x5, x6, x7, x8] (.int v :: st) := g_istore_n (q := 1) (i := 1) cx rfl (by simp) d k
theorem z_is_9_2 {l0 : Launch} {Γ : gC} {cc : ByteArray} {own : String} {nL : Nat} {R0 : Room} {σ : hS} {kc ks pc : Nat} {st : List Value} {x0 x1 x2 x3 x4 x5 x6 x7 x8 : Option Value} {v : Int32} (cx : CX l0 Γ cc own nL R0) (d : decode cc pc = .ok (.istore_n 2, 1)) (k : G Γ σ kc ks (pc + 1) [x0, x1, some (.int v), x3, x4, x5, x6, x7, x8] st) : G Γ σ kc ks pc [x0, x1, x2, x3, x4, x5, x6, x7, x8] (.int v :: st) := g_istore_n (q := 2) (i := 2) cx rfl (by simp) d k
theorem z_is_9_3 {l0 : Launch} {Γ : gC} {cc : ByteArray} {own : String} {nL : Nat} {R0 : Room} {σ : hS} {kc ks pc : Nat} {st : List Value} {x0 x1 x2 x3 x4 x5 x6 x7 x8 : Option Value} {v : Int32} (cx : CX l0 Γ cc own nL R0) (d : decode cc pc = .ok (.istore_n 3, 1)) (k : G Γ σ kc ks (pc + 1) [x0, x1, x2, some (.int v), x4, x5, x6, x7, x8] st) : G Γ σ kc ks pc [x0, x1, x2, x3, x4, x5, x6, x7, x8] (.int v :: st) := g_istore_n (q := 3) (i := 3) cx rfl (by simp) d k
theorem z_is_9_4 {l0 : Launch} {Γ : gC} {cc : ByteArray} {own : String} {nL : Nat} {R0 : Room} {σ : hS} {kc ks pc : Nat} {st : List Value} {x0 x1 x2 x3 x4 x5 x6 x7 x8 : Option Value} {v : Int32} (cx : CX l0 Γ cc own nL R0) (d : decode cc pc = .ok (.istore 4, 2)) (k : G Γ σ kc ks (pc + 2) [x0, x1, x2, x3, some (.int v), x5, x6, x7, x8] st) : G Γ σ kc ks pc [x0, x1, x2, x3, x4, x5, x6, x7, x8] (.int v :: st) := g_istore (i := 4) cx (by simp) d k
theorem z_is_9_5 {l0 : Launch} {Γ : gC} {cc : ByteArray} {own : String} {nL : Nat} {R0 : Room} {σ : hS} {kc ks pc : Nat} {st : List Value} {x0 x1 x2 x3 x4 x5 x6 x7 x8 : Option Value} {v : Int32} (cx : CX l0 Γ cc own nL R0) (d : decode cc pc = .ok (.istore 5, 2)) (k : G Γ σ kc ks (pc + 2) [x0, x1, x2, x3, x4, some (.int v), x6, x7, x8] st) : G Γ σ kc ks pc [x0, x1, x2, x3, x4, x5, x6, x7, x8] (.int v :: st) := g_istore (i := 5) cx (by simp) d k
theorem z_is_9_6 {l0 : Launch} {Γ : gC} {cc : ByteArray} {own : String} {nL : Nat} {R0 : Room} {σ : hS} {kc ks pc : Nat} {st : List Value} {x0 x1 x2 x3 x4 x5 x6 x7 x8 : Option Value} {v : Int32} (cx : CX l0 Γ cc own nL R0) (d : decode cc pc = .ok (.istore 6, 2)) (k : G Γ σ kc ks (pc + 2) [x0, x1, x2, x3, x4, x5, some (.int v), x7, x8] st) : G Γ σ kc ks pc [x0, x1, x2, x3, x4, x5, x6, x7, x8] (.int v :: st) := g_istore (i := 6) cx (by simp) d k
theorem z_is_9_7 {l0 : Launch} {Γ : gC} {cc : ByteArray} {own : String} {nL : Nat} {R0 : Room} {σ : hS} {kc ks pc : Nat} {st : List Value} {x0 x1 x2 x3 x4 x5 x6 x7 x8 : Option Value} {v : Int32} (cx : CX l0 Γ cc own nL R0) (d : decode cc pc = .ok (.istore 7, 2)) (k : G Γ σ kc ks (pc + 2) [x0, x1, x2, x3, x4, x5, x6, some (.int v), x8] st) : G Γ σ kc ks pc [x0, x1, x2, x3, x4, x5, x6, x7, x8] (.int v :: st) := g_istore (i := 7) cx (by simp) d k
theorem z_is_9_8 {l0 : Launch} {Γ : gC} {cc : ByteArray} {own : String} {nL : Nat} {R0 : Room} {σ : hS} {kc ks pc : Nat} {st : List Value} {x0 x1 x2 x3 x4 x5 x6 x7 x8 : Option Value} {v : Int32} (cx : CX l0 Γ cc own nL R0) (d : decode cc pc = .ok (.istore 8, 2)) (k : G Γ σ kc ks (pc + 2) [x0, x1, x2, x3, x4, x5, x6, x7, some (.int v)] st) : G Γ σ kc ks pc [x0, x1, x2, x3, x4, x5, x6, x7, x8] (.int v :: st) := g_istore (i := 8) cx (by simp) d k
theorem z_is_10_0 {l0 : Launch} {Γ : gC} {cc : ByteArray} {own : String} {nL : Nat} {R0 : Room} {σ : hS} {kc ks pc : Nat} {st : List Value} {x0 x1 x2 x3 x4 x5 x6 x7 x8 x9 : Option Value} {v : Int32} (cx : CX l0 Γ cc own nL R0) (d : decode cc pc = .ok (.istore_n 0, 1)) (k : G Γ σ kc ks (pc + 1) [some (.int v), x1, x2, x3, x4, x5, x6, x7, x8, x9] st) : G Γ σ kc ks pc [x0, x1, x2, x3, x4, x5, x6, x7, x8, x9] (.int v :: st) := g_istore_n (q := 0) (i := 0) cx rfl (by simp) d k
theorem z_is_10_1 {l0 : Launch} {Γ : gC} {cc : ByteArray} {own : String} {nL : Nat} {R0 : Room} {σ : hS} {kc ks pc : Nat} {st : List Value} {x0 x1 x2 x3 x4 x5 x6 x7 x8 x9 : Option Value} {v : Int32} (cx : CX l0 Γ cc own nL R0) (d : decode cc pc = .ok (.istore_n 1, 1)) (k : G Γ σ kc ks (pc + 1) [x0, some (.int v), x2, x3, x4, x5, x6, x7, x8, x9] st) : G Γ σ kc ks pc [x0, x1, x2, x3, x4, x5, x6, x7, x8, x9] (.int v :: st) := g_istore_n (q := 1) (i := 1) cx rfl (by simp) d k
theorem z_is_10_2 {l0 : Launch} {Γ : gC} {cc : ByteArray} {own : String} {nL : Nat} {R0 : Room} {σ : hS} {kc ks pc : Nat} {st : List Value} {x0 x1 x2 x3 x4 x5 x6 x7 x8 x9 : Option Value} {v : Int32} (cx : CX l0 Γ cc own nL R0) (d : decode cc pc = .ok (.istore_n 2, 1)) (k : G Γ σ kc ks (pc + 1) [x0, x1, some (.int v), x3, x4, x5, x6, x7, x8, x9] st) : G Γ σ kc ks pc [x0, x1, x2, x3, x4, x5, x6, x7, x8, x9] (.int v :: st) := g_istore_n (q := 2) (i := 2) cx rfl (by simp) d k
theorem z_is_10_3 {l0 : Launch} {Γ : gC} {cc : ByteArray} {own : String} {nL : Nat} {R0 : Room} {σ : hS} {kc ks pc : Nat} {st : List Value} {x0 x1 x2 x3 x4 x5 x6 x7 x8 x9 : Option Value} {v : Int32} (cx : CX l0 Γ cc own nL R0) (d : decode cc pc = .ok (.istore_n 3, 1)) (k : G Γ σ kc ks (pc + 1) [x0, x1, x2, some (.int v), x4, x5, x6, x7, x8, x9] st) : G Γ σ kc ks pc [x0, x1, x2, x3, x4, x5, x6, x7, x8, x9] (.int v :: st) := g_istore_n (q := 3) (i := 3) cx rfl (by simp) d k
theorem z_is_10_4 {l0 : Launch} {Γ : gC} {cc : ByteArray} {own : String} {nL : Nat} {R0 : Room} {σ : hS} {kc ks pc : Nat} {st : List Value} {x0 x1 x2 x3 x4 x5 x6 x7 x8 x9 : Option Value} {v : Int32} (cx : CX l0 Γ cc own nL R0) (d : decode cc pc = .ok (.istore 4, 2)) (k : G Γ σ kc ks (pc + 2) [x0, x1, x2, x3, some (.int v), x5, x6, x7, x8, x9] st) : G Γ σ kc ks pc [x0, x1, x2, x3, x4, x5, x6, x7, x8, x9] (.int v :: st) := g_istore (i := 4) cx (by simp) d k
theorem z_is_10_5 {l0 : Launch} {Γ : gC} {cc : ByteArray} {own : String} {nL : Nat} {R0 : Room} {σ : hS} {kc ks pc : Nat} {st : List Value} {x0 x1 x2 x3 x4 x5 x6 x7 x8 x9 : Option Value} {v : Int32} (cx : CX l0 Γ cc own nL R0) (d : decode cc pc = .ok (.istore 5, 2)) (k : G Γ σ kc ks (pc + 2) [x0, x1, x2, x3, x4, some (.int v), x6, x7, x8, x9] st) : G Γ σ kc ks pc [x0, x1, x2, x3, x4, x5, x6, x7, x8, x9] (.int v :: st) := g_istore (i := 5) cx (by simp) d k
theorem z_is_10_6 {l0 : Launch} {Γ : gC} {cc : ByteArray} {own : String} {nL : Nat} {R0 : Room} {σ : hS} {kc ks pc : Nat} {st : List Value} {x0 x1 x2 x3 x4 x5 x6 x7 x8 x9 : Option Value} {v : Int32} (cx : CX l0 Γ cc own nL R0) (d : decode cc pc = .ok (.istore 6, 2)) (k : G Γ σ kc ks (pc + 2) [x0, x1, x2, x3, x4, x5, some (.int v), x7, x8, x9] st) : G Γ σ kc ks pc [x0, x1, x2, x3, x4, x5, x6, x7, x8, x9] (.int v :: st) := g_istore (i := 6) cx (by simp) d k
theorem z_is_10_7 {l0 : Launch} {Γ : gC} {cc : ByteArray} {own : String} {nL : Nat} {R0 : Room} {σ : hS} {kc ks pc : Nat} {st : List Value} {x0 x1 x2 x3 x4 x5 x6 x7 x8 x9 : Option Value} {v : Int32} (cx : CX l0 Γ cc own nL R0) (d : decode cc pc = .ok (.istore 7, 2)) (k : G Γ σ kc ks (pc + 2) [x0, x1, x2, x3, x4, x5, x6, some (.int v), x8, x9] st) : G Γ σ kc ks pc [x0, x1, x2, x3, x4, x5, x6, x7, x8, x9] (.int v :: st) := g_istore (i := 7) cx (by simp) d k
theorem z_is_10_8 {l0 : Launch} {Γ : gC} {cc : ByteArray} {own : String} {nL : Nat} {R0 : Room} {σ : hS} {kc ks pc : Nat} {st : List Value} {x0 x1 x2 x3 x4 x5 x6 x7 x8 x9 : Option Value} {v : Int32} (cx : CX l0 Γ cc own nL R0) (d : decode cc pc = .ok (.istore 8, 2)) (k : G Γ σ kc ks (pc + 2) [x0, x1, x2, x3, x4, x5, x6, x7, some (.int v), x9] st) : G Γ σ kc ks pc [x0, x1, x2, x3, x4, x5, x6, x7, x8, x9] (.int v :: st) := g_istore (i := 8) cx (by simp) d k
theorem z_is_10_9 {l0 : Launch} {Γ : gC} {cc : ByteArray} {own : String} {nL : Nat} {R0 : Room} {σ : hS} {kc ks pc : Nat} {st : List Value} {x0 x1 x2 x3 x4 x5 x6 x7 x8 x9 : Option Value} {v : Int32} (cx : CX l0 Γ cc own nL R0) (d : decode cc pc = .ok (.istore 9, 2)) (k : G Γ σ kc ks (pc + 2) [x0, x1, x2, x3, x4, x5, x6, x7, x8, some (.int v)] st) : G Γ σ kc ks pc [x0, x1, x2, x3, x4, x5, x6, x7, x8, x9] (.int v :: st) := g_istore (i := 9) cx (by simp) d k
end
section
/-! names of calls -/
theorem gy_X6_init : gY yX6_init 0 := ⟨by decide +kernel, by decide +kernel, by decide +kernel⟩
theorem gy_X6_clear : gY yX6_clear 0 := ⟨by decide +kernel, by decide +kernel, by decide +kernel⟩
theorem gy_X6_tries : gY yX6_tries 0 := ⟨by decide +kernel, by decide +kernel, by decide +kernel⟩
theorem gy_L_delay : gY yL_delay 3 := ⟨by decide +kernel, by decide +kernel, by decide +kernel⟩
theorem gy_X6_delay : gY yX6_delay 2 := ⟨by decide +kernel, by decide +kernel, by decide +kernel⟩
theorem gy_X6_requireLink : gY yX6_requireLink 1 := ⟨by decide +kernel, by decide +kernel, by decide +kernel⟩
theorem gy_X6_isLink : gY yX6_isLink 1 := ⟨by decide +kernel, by decide +kernel, by decide +kernel⟩
theorem gy_L_stream : gY yL_stream 8 := ⟨by decide +kernel, by decide +kernel, by decide +kernel⟩
theorem gy_X6_stream : gY yX6_stream 6 := ⟨by decide +kernel, by decide +kernel, by decide +kernel⟩
theorem gy_X6_requireLinkOrNone : gY yX6_requireLinkOrNone 1 := ⟨by decide +kernel, by decide +kernel, by decide +kernel⟩
theorem gy_X6_isPath : gY yX6_isPath 3 := ⟨by decide +kernel, by decide +kernel, by decide +kernel⟩
theorem gy_X6_isPeriod : gY yX6_isPeriod 1 := ⟨by decide +kernel, by decide +kernel, by decide +kernel⟩
theorem gy_X6_pathOf : gY yX6_pathOf 3 := ⟨by decide +kernel, by decide +kernel, by decide +kernel⟩
theorem gy_X4_init : gY yX4_init 4 := ⟨by decide +kernel, by decide +kernel, by decide +kernel⟩
theorem gy_L_build : gY yL_build 3 := ⟨by decide +kernel, by decide +kernel, by decide +kernel⟩
theorem gy_X6_build : gY yX6_build 1 := ⟨by decide +kernel, by decide +kernel, by decide +kernel⟩
theorem gy_X0_init : gY yX0_init 2 := ⟨by decide +kernel, by decide +kernel, by decide +kernel⟩
theorem gy_X0_spansFrom : gY yX0_spansFrom 3 := ⟨by decide +kernel, by decide +kernel, by decide +kernel⟩
theorem gy_X3_run : gY yX3_run 2 := ⟨by decide +kernel, by decide +kernel, by decide +kernel⟩
theorem gy_X3_fits : gY yX3_fits 2 := ⟨by decide +kernel, by decide +kernel, by decide +kernel⟩
theorem gy_X0_latency : gY yX0_latency 0 := ⟨by decide +kernel, by decide +kernel, by decide +kernel⟩
theorem gy_X3_isTaken : gY yX3_isTaken 3 := ⟨by decide +kernel, by decide +kernel, by decide +kernel⟩
theorem gy_X0_spansWith : gY yX0_spansWith 2 := ⟨by decide +kernel, by decide +kernel, by decide +kernel⟩
theorem gy_X2_init : gY yX2_init 1 := ⟨by decide +kernel, by decide +kernel, by decide +kernel⟩
theorem gy_L_offset : gY yL_offset 3 := ⟨by decide +kernel, by decide +kernel, by decide +kernel⟩
theorem gy_X6_offset : gY yX6_offset 1 := ⟨by decide +kernel, by decide +kernel, by decide +kernel⟩
theorem gy_X6_requireFound : gY yX6_requireFound 0 := ⟨by decide +kernel, by decide +kernel, by decide +kernel⟩
theorem gy_L_gate : gY yL_gate 4 := ⟨by decide +kernel, by decide +kernel, by decide +kernel⟩
theorem gy_X6_gate : gY yX6_gate 2 := ⟨by decide +kernel, by decide +kernel, by decide +kernel⟩
theorem gy_X2_ownerOf : gY yX2_ownerOf 2 := ⟨by decide +kernel, by decide +kernel, by decide +kernel⟩
theorem gy_X0_hopOn : gY yX0_hopOn 1 := ⟨by decide +kernel, by decide +kernel, by decide +kernel⟩
theorem gy_X0_hasSpanAt : gY yX0_hasSpanAt 2 := ⟨by decide +kernel, by decide +kernel, by decide +kernel⟩
theorem gy_L_activate : gY yL_activate 1 := ⟨by decide +kernel, by decide +kernel, by decide +kernel⟩
theorem gy_X6_activate : gY yX6_activate 0 := ⟨by decide +kernel, by decide +kernel, by decide +kernel⟩
theorem gy_L_tick : gY yL_tick 3 := ⟨by decide +kernel, by decide +kernel, by decide +kernel⟩
theorem gy_X6_tick : gY yX6_tick 1 := ⟨by decide +kernel, by decide +kernel, by decide +kernel⟩
theorem gy_X6_passOneTick : gY yX6_passOneTick 0 := ⟨by decide +kernel, by decide +kernel, by decide +kernel⟩
theorem gy_X6_isTimeToChange : gY yX6_isTimeToChange 0 := ⟨by decide +kernel, by decide +kernel, by decide +kernel⟩
theorem gy_X6_talking : gY yX6_talking 0 := ⟨by decide +kernel, by decide +kernel, by decide +kernel⟩
theorem gy_X6_comeIntoForce : gY yX6_comeIntoForce 0 := ⟨by decide +kernel, by decide +kernel, by decide +kernel⟩
theorem gy_X5_startAnew : gY yX5_startAnew 1 := ⟨by decide +kernel, by decide +kernel, by decide +kernel⟩
theorem gy_X5_speak : gY yX5_speak 1 := ⟨by decide +kernel, by decide +kernel, by decide +kernel⟩
theorem gy_X0_beginsAt : gY yX0_beginsAt 1 := ⟨by decide +kernel, by decide +kernel, by decide +kernel⟩
theorem gy_X5_moveFrames : gY yX5_moveFrames 2 := ⟨by decide +kernel, by decide +kernel, by decide +kernel⟩
theorem gy_X5_beginsOnCut : gY yX5_beginsOnCut 2 := ⟨by decide +kernel, by decide +kernel, by decide +kernel⟩
theorem gy_X6_beginWaiting : gY yX6_beginWaiting 1 := ⟨by decide +kernel, by decide +kernel, by decide +kernel⟩
theorem gy_X1_canBegin : gY yX1_canBegin 0 := ⟨by decide +kernel, by decide +kernel, by decide +kernel⟩
theorem gy_X2_isFree : gY yX2_isFree 3 := ⟨by decide +kernel, by decide +kernel, by decide +kernel⟩
theorem gy_X1_beginFirst : gY yX1_beginFirst 0 := ⟨by decide +kernel, by decide +kernel, by decide +kernel⟩
theorem gy_X1_endTick : gY yX1_endTick 0 := ⟨by decide +kernel, by decide +kernel, by decide +kernel⟩
theorem gy_L_talk : gY yL_talk 4 := ⟨by decide +kernel, by decide +kernel, by decide +kernel⟩
theorem gy_X6_talk : gY yX6_talk 3 := ⟨by decide +kernel, by decide +kernel, by decide +kernel⟩
theorem gy_X6_requireInForce : gY yX6_requireInForce 1 := ⟨by decide +kernel, by decide +kernel, by decide +kernel⟩
theorem gy_L_unblock : gY yL_unblock 3 := ⟨by decide +kernel, by decide +kernel, by decide +kernel⟩
theorem gy_X6_unblock : gY yX6_unblock 1 := ⟨by decide +kernel, by decide +kernel, by decide +kernel⟩
theorem gy_L_cut : gY yL_cut 4 := ⟨by decide +kernel, by decide +kernel, by decide +kernel⟩
theorem gy_X6_cut : gY yX6_cut 2 := ⟨by decide +kernel, by decide +kernel, by decide +kernel⟩
theorem gy_X6_loseAllOn : gY yX6_loseAllOn 1 := ⟨by decide +kernel, by decide +kernel, by decide +kernel⟩
theorem gy_X5_loseOn : gY yX5_loseOn 2 := ⟨by decide +kernel, by decide +kernel, by decide +kernel⟩
theorem gy_L_babble : gY yL_babble 4 := ⟨by decide +kernel, by decide +kernel, by decide +kernel⟩
theorem gy_X6_babble : gY yX6_babble 2 := ⟨by decide +kernel, by decide +kernel, by decide +kernel⟩
theorem gy_X1_append : gY yX1_append 1 := ⟨by decide +kernel, by decide +kernel, by decide +kernel⟩
theorem gy_L_told : gY yL_told 4 := ⟨by decide +kernel, by decide +kernel, by decide +kernel⟩
theorem gy_X6_told : gY yX6_told 2 := ⟨by decide +kernel, by decide +kernel, by decide +kernel⟩
theorem gy_L_link : gY yL_link 4 := ⟨by decide +kernel, by decide +kernel, by decide +kernel⟩
theorem gy_X6_link : gY yX6_link 2 := ⟨by decide +kernel, by decide +kernel, by decide +kernel⟩
theorem gy_X6_whatIsOn : gY yX6_whatIsOn 1 := ⟨by decide +kernel, by decide +kernel, by decide +kernel⟩
theorem gy_X5_hasFrameOn : gY yX5_hasFrameOn 2 := ⟨by decide +kernel, by decide +kernel, by decide +kernel⟩
theorem gy_L_streams : gY yL_streams 3 := ⟨by decide +kernel, by decide +kernel, by decide +kernel⟩
theorem gy_X6_streams : gY yX6_streams 1 := ⟨by decide +kernel, by decide +kernel, by decide +kernel⟩
theorem gy_X6_streamsOf : gY yX6_streamsOf 1 := ⟨by decide +kernel, by decide +kernel, by decide +kernel⟩
theorem gy_X7_init : gY yX7_init 0 := ⟨by decide +kernel, by decide +kernel, by decide +kernel⟩
theorem gy_X7_thrown : gY yX7_thrown 0 := ⟨by decide +kernel, by decide +kernel, by decide +kernel⟩
theorem gy_X7_delay : gY yX7_delay 2 := ⟨by decide +kernel, by decide +kernel, by decide +kernel⟩
theorem gy_X7_isLink : gY yX7_isLink 1 := ⟨by decide +kernel, by decide +kernel, by decide +kernel⟩
theorem gy_X7_stream : gY yX7_stream 6 := ⟨by decide +kernel, by decide +kernel, by decide +kernel⟩
theorem gy_X7_clear : gY yX7_clear 0 := ⟨by decide +kernel, by decide +kernel, by decide +kernel⟩
theorem gy_X7_build : gY yX7_build 1 := ⟨by decide +kernel, by decide +kernel, by decide +kernel⟩
theorem gy_X7_isGood : gY yX7_isGood 1 := ⟨by decide +kernel, by decide +kernel, by decide +kernel⟩
theorem gy_X7_isOnTime : gY yX7_isOnTime 1 := ⟨by decide +kernel, by decide +kernel, by decide +kernel⟩
theorem gy_X7_begins : gY yX7_begins 2 := ⟨by decide +kernel, by decide +kernel, by decide +kernel⟩
theorem gy_X7_streamsMeet : gY yX7_streamsMeet 2 := ⟨by decide +kernel, by decide +kernel, by decide +kernel⟩
theorem gy_X7_meet : gY yX7_meet 6 := ⟨by decide +kernel, by decide +kernel, by decide +kernel⟩
theorem gy_X7_modulo : gY yX7_modulo 2 := ⟨by decide +kernel, by decide +kernel, by decide +kernel⟩
theorem gy_X7_keep : gY yX7_keep 0 := ⟨by decide +kernel, by decide +kernel, by decide +kernel⟩
theorem gy_X7_tries : gY yX7_tries 0 := ⟨by decide +kernel, by decide +kernel, by decide +kernel⟩
theorem gy_X7_offset : gY yX7_offset 1 := ⟨by decide +kernel, by decide +kernel, by decide +kernel⟩
theorem gy_X7_gate : gY yX7_gate 2 := ⟨by decide +kernel, by decide +kernel, by decide +kernel⟩
theorem gy_X7_spanOf : gY yX7_spanOf 3 := ⟨by decide +kernel, by decide +kernel, by decide +kernel⟩
theorem gy_X7_beginsIn : gY yX7_beginsIn 3 := ⟨by decide +kernel, by decide +kernel, by decide +kernel⟩
theorem gy_X7_activate : gY yX7_activate 0 := ⟨by decide +kernel, by decide +kernel, by decide +kernel⟩
theorem gy_X7_copy : gY yX7_copy 2 := ⟨by decide +kernel, by decide +kernel, by decide +kernel⟩
theorem gy_X7_tick : gY yX7_tick 1 := ⟨by decide +kernel, by decide +kernel, by decide +kernel⟩
theorem gy_X7_tickOnce : gY yX7_tickOnce 0 := ⟨by decide +kernel, by decide +kernel, by decide +kernel⟩
theorem gy_X7_isQuiet : gY yX7_isQuiet 0 := ⟨by decide +kernel, by decide +kernel, by decide +kernel⟩
theorem gy_X7_comeIntoForce : gY yX7_comeIntoForce 0 := ⟨by decide +kernel, by decide +kernel, by decide +kernel⟩
theorem gy_X7_talkAll : gY yX7_talkAll 0 := ⟨by decide +kernel, by decide +kernel, by decide +kernel⟩
theorem gy_X7_flyAll : gY yX7_flyAll 0 := ⟨by decide +kernel, by decide +kernel, by decide +kernel⟩
theorem gy_X7_isLost : gY yX7_isLost 1 := ⟨by decide +kernel, by decide +kernel, by decide +kernel⟩
theorem gy_X7_lastOf : gY yX7_lastOf 1 := ⟨by decide +kernel, by decide +kernel, by decide +kernel⟩
theorem gy_X7_linkOf : gY yX7_linkOf 2 := ⟨by decide +kernel, by decide +kernel, by decide +kernel⟩
theorem gy_X7_beginOf : gY yX7_beginOf 2 := ⟨by decide +kernel, by decide +kernel, by decide +kernel⟩
theorem gy_X7_remove : gY yX7_remove 1 := ⟨by decide +kernel, by decide +kernel, by decide +kernel⟩
theorem gy_X7_throughOf : gY yX7_throughOf 2 := ⟨by decide +kernel, by decide +kernel, by decide +kernel⟩
theorem gy_X7_serve : gY yX7_serve 1 := ⟨by decide +kernel, by decide +kernel, by decide +kernel⟩
theorem gy_X7_isFree : gY yX7_isFree 2 := ⟨by decide +kernel, by decide +kernel, by decide +kernel⟩
theorem gy_X7_talk : gY yX7_talk 3 := ⟨by decide +kernel, by decide +kernel, by decide +kernel⟩
theorem gy_X7_isTalker : gY yX7_isTalker 1 := ⟨by decide +kernel, by decide +kernel, by decide +kernel⟩
theorem gy_X7_unblock : gY yX7_unblock 1 := ⟨by decide +kernel, by decide +kernel, by decide +kernel⟩
theorem gy_X7_cut : gY yX7_cut 2 := ⟨by decide +kernel, by decide +kernel, by decide +kernel⟩
theorem gy_X7_isHit : gY yX7_isHit 2 := ⟨by decide +kernel, by decide +kernel, by decide +kernel⟩
theorem gy_X7_babble : gY yX7_babble 2 := ⟨by decide +kernel, by decide +kernel, by decide +kernel⟩
theorem gy_X7_told : gY yX7_told 2 := ⟨by decide +kernel, by decide +kernel, by decide +kernel⟩
theorem gy_X7_link : gY yX7_link 2 := ⟨by decide +kernel, by decide +kernel, by decide +kernel⟩
theorem gy_X7_on : gY yX7_on 1 := ⟨by decide +kernel, by decide +kernel, by decide +kernel⟩
theorem gy_X7_streams : gY yX7_streams 1 := ⟨by decide +kernel, by decide +kernel, by decide +kernel⟩
end
section
/-! what the reference's methods compute: pure words -/
theorem bz_r (b : Bool) : 0 ≤ bz b ∧ bz b ≤ 1 := by cases b <;> decide
theorem bz_1 {b : Bool} : bz b = 1 ↔ b = true := by cases b <;> decide
theorem bz_0 {b : Bool} : bz b = 0 ↔ b = false := by cases b <;> decide
theorem bz_n0 {b : Bool} : ¬ bz b = 0 ↔ b = true := by cases b <;> decide
def anyN : Nat → (Nat → Bool) → Bool
  | 0, _ => false
  | n + 1, f => anyN n f || f n
theorem anyN_iff {n : Nat} {f : Nat → Bool} : anyN n f = true ↔ ∃ k, k < n ∧ f k = true := by
  induction n with
  | zero => exact ⟨fun h => (by cases h), fun ⟨k, h, _⟩ => absurd h (Nat.not_lt_zero _)⟩
  | succ n ih =>
    show (anyN n f || f n) = true ↔ _
    rw [Bool.or_eq_true, ih]
    constructor
    · rintro (⟨k, h1, h2⟩ | h)
      · exact ⟨k, Nat.lt_succ_of_lt h1, h2⟩
      · exact ⟨n, Nat.lt_succ_self n, h⟩
    · rintro ⟨k, h1, h2⟩
      rcases Nat.lt_succ_iff_lt_or_eq.mp h1 with h | h
      · exact Or.inl ⟨k, h, h2⟩
      · exact Or.inr (h ▸ h2)
def allN : Nat → (Nat → Bool) → Bool
  | 0, _ => true
  | n + 1, f => allN n f && f n
theorem allN_iff {n : Nat} {f : Nat → Bool} : allN n f = true ↔ ∀ k, k < n → f k = true := by
  induction n with
  | zero => exact ⟨fun _ k h => absurd h (Nat.not_lt_zero _), fun _ => rfl⟩
  | succ n ih =>
    show (allN n f && f n) = true ↔ _
    rw [Bool.and_eq_true, ih]
    constructor
    · rintro ⟨h1, h2⟩ k hk
      rcases Nat.lt_succ_iff_lt_or_eq.mp hk with h | h
      · exact h1 k h
      · exact h ▸ h2
    · intro h
      exact ⟨fun k hk => h k (Nat.lt_succ_of_lt hk), h n (Nat.lt_succ_self n)⟩
theorem g_l {Γ : gC} {σ : hS} {kc ks pc : Nat} {ls ls' : gLs} {st : List Value} (k : G Γ σ kc ks pc ls st) (h : ls' = ls) : G Γ σ kc ks pc ls' st := h ▸ k
theorem tmod_mod {a n : Int} (hn : 0 < n) : (a.tmod n + n).tmod n = a % n := by
  have h1 : -n < a.tmod n ∧ a.tmod n < n := by
    rcases Int.le_total 0 a with h | h
    · rw [Int.tmod_eq_emod_of_nonneg h]
      have := Int.emod_nonneg a (by omega : n ≠ 0)
      have := Int.emod_lt_of_pos a hn
      omega
    · have h2 : a.tmod n = -((-a).tmod n) := by rw [Int.neg_tmod]; omega
      rw [h2, Int.tmod_eq_emod_of_nonneg (by omega)]
      have := Int.emod_nonneg (-a) (by omega : n ≠ 0)
      have := Int.emod_lt_of_pos (-a) hn
      omega
  rw [Int.tmod_eq_emod_of_nonneg (by omega)]
  have h3 : a.tmod n + n = a + n * (1 - a.tdiv n) := by
    have := Int.tdiv_mul_add_tmod a n
    rw [Int.mul_sub, Int.mul_one, Int.mul_comm]
    omega
  rw [h3, Int.add_mul_emod_self_left]
theorem tmod_r (a n : Int) (hn : 0 < n) : -n < a.tmod n ∧ a.tmod n < n := by
  rcases Int.le_total 0 a with h | h
  · rw [Int.tmod_eq_emod_of_nonneg h]
    have := Int.emod_nonneg a (by omega : n ≠ 0)
    have := Int.emod_lt_of_pos a hn
    omega
  · have h2 : a.tmod n = -((-a).tmod n) := by rw [Int.neg_tmod]; omega
    rw [h2, Int.tmod_eq_emod_of_nonneg (by omega)]
    have := Int.emod_nonneg (-a) (by omega : n ≠ 0)
    have := Int.emod_lt_of_pos (-a) hn
    omega
/-- the reference's streams (those added): their rows as the document has them -/
def mSt (S : mS) (i : Int) : Prop := (S 3 i = 8 ∨ S 3 i = 16 ∨ S 3 i = 32) ∧ (1 ≤ S 4 i ∧ S 4 i ≤ 4) ∧ (1 ≤ S 5 i ∧ S 5 i ≤ 60) ∧ (0 ≤ S 6 (3 * i) ∧ S 6 (3 * i) < 6) ∧ (-1 ≤ S 6 (3 * i + 1) ∧ S 6 (3 * i + 1) < 6) ∧ (-1 ≤ S 6 (3 * i + 2) ∧ S 6 (3 * i + 2) < 6) ∧ (S 6 (3 * i + 1) = -1 → S 6 (3 * i + 2) = -1)
def mDl (S : mS) : Prop := ∀ l, 0 ≤ l → l < 6 → 0 ≤ S 1 l ∧ S 1 l ≤ 9
def begF (S : mS) (i : Int) : Nat → Int
  | 0 => 0
  | k + 1 => begF S i k + S 4 i + S 1 (S 6 (3 * i + (k : Int))) + 2
theorem begF_r {S : mS} {i : Int} (hd : mDl S) (h4 : 1 ≤ S 4 i ∧ S 4 i ≤ 4) : ∀ (k : Nat), (∀ q : Nat, q < k → 0 ≤ S 6 (3 * i + (q : Int)) ∧ S 6 (3 * i + (q : Int)) < 6) → 0 ≤ begF S i k ∧ begF S i k ≤ 15 * (k : Int)
  | 0, _ => ⟨Int.le_refl _, Int.le_refl _⟩
  | k + 1, h => by
    have h1 := begF_r hd h4 k (fun q hq => h q (Nat.lt_succ_of_lt hq))
    have h2 := h k (Nat.lt_succ_self k)
    have h3 := hd _ h2.1 h2.2
    show 0 ≤ begF S i k + S 4 i + S 1 (S 6 (3 * i + (k : Int))) + 2 ∧ begF S i k + S 4 i + S 1 (S 6 (3 * i + (k : Int))) + 2 ≤ 15 * ((k + 1 : Nat) : Int)
    omega
def lastF (S : mS) (i : Int) : Nat := if 0 ≤ S 6 (3 * i + 2) then 2 else if 0 ≤ S 6 (3 * i + 1) then 1 else 0
theorem mSt_path {S : mS} {i : Int} (h : mSt S i) {j : Nat} (hj : j ≤ lastF S i) : 0 ≤ S 6 (3 * i + (j : Int)) ∧ S 6 (3 * i + (j : Int)) < 6 := by
  obtain ⟨-, -, -, h0, h1, h2, h3⟩ := h
  unfold lastF at hj
  split at hj
  · match j, hj with
    | 0, _ => simpa using h0
    | 1, _ => exact ⟨show 0 ≤ S 6 (3 * i + 1) by omega, h1.2⟩
    | 2, _ => exact ⟨show 0 ≤ S 6 (3 * i + 2) by omega, h2.2⟩
  · split at hj
    · match j, hj with
      | 0, _ => simpa using h0
      | 1, _ => exact ⟨show 0 ≤ S 6 (3 * i + 1) by omega, h1.2⟩
    · match j, hj with
      | 0, _ => simpa using h0
/-- path entries ahead of one that is a link are links -/
theorem mSt_pre {S : mS} {i : Int} (h : mSt S i) {x : Nat} (hx : x < 3) (h0 : 0 ≤ S 6 (3 * i + (x : Int))) : ∀ q : Nat, q < x → 0 ≤ S 6 (3 * i + (q : Int)) ∧ S 6 (3 * i + (q : Int)) < 6 := by
  obtain ⟨-, -, -, k0, k1, k2, k3⟩ := h
  intro q hq
  match x, hx, hq with
  | 1, _, hq =>
    obtain rfl : q = 0 := by omega
    simpa using k0
  | 2, _, hq =>
    have h0' : 0 ≤ S 6 (3 * i + 2) := h0
    match q, hq with
    | 0, _ => simpa using k0
    | 1, _ => exact ⟨show 0 ≤ S 6 (3 * i + 1) by omega, k1.2⟩
def onTF (S : mS) (i : Int) : Bool := decide (begF S i (lastF S i) + S 4 i + S 1 (S 6 (3 * i + (lastF S i : Int))) ≤ S 5 i)
def meetF (a n p b m q : Int) : Bool := decide ((b - a) % (if p < q then p else q) < n) || decide ((a - b) % (if p < q then p else q) < m)
def smXY (S : mS) (i j : Int) (x y : Nat) : Bool := decide (0 ≤ S 6 (3 * i + (x : Int))) && decide (S 6 (3 * i + (x : Int)) = S 6 (3 * j + (y : Int))) && meetF (S 14 i + begF S i x) (S 4 i + 1) (S 3 i) (S 14 j + begF S j y) (S 4 j + 1) (S 3 j)
def smF (S : mS) (i j : Int) : Bool := anyN 3 fun x => anyN 3 fun y => smXY S i j x y
def goodF (S : mS) (i : Nat) : Bool := onTF S i && allN i fun j => !smF S i j
/-- a stream of a schedule: its row p, its links from q on -/
def mSi (S : mS) (p q : Int) : Prop := (S 8 p = 8 ∨ S 8 p = 16 ∨ S 8 p = 32) ∧ (1 ≤ S 9 p ∧ S 9 p ≤ 4) ∧ (0 ≤ S 10 p ∧ S 10 p < S 8 p) ∧ (0 ≤ S 11 q ∧ S 11 q < 6) ∧ (-1 ≤ S 11 (q + 1) ∧ S 11 (q + 1) < 6) ∧ (-1 ≤ S 11 (q + 2) ∧ S 11 (q + 2) < 6) ∧ (S 11 (q + 1) = -1 → S 11 (q + 2) = -1) ∧ (0 ≤ S 12 q ∧ S 12 q ≤ 9) ∧ (0 ≤ S 12 (q + 1) ∧ S 12 (q + 1) ≤ 9) ∧ (0 ≤ S 12 (q + 2) ∧ S 12 (q + 2) ≤ 9)
def mSch (S : mS) (k : Int) : Prop := (-1 ≤ S 7 k ∧ S 7 k ≤ 5) ∧ ∀ i, 0 ≤ i → i < S 7 k → mSi S (5 * k + i) (15 * k + 3 * i)
/-- in a schedule -/
def binF (S : mS) (p q : Int) : Nat → Int
  | 0 => 0
  | j + 1 => binF S p q j + S 9 p + S 12 (q + (j : Int)) + 2
theorem binF_r {S : mS} {p q : Int} (h : mSi S p q) : ∀ (j : Nat), j ≤ 3 → 0 ≤ binF S p q j ∧ binF S p q j ≤ 15 * (j : Int) := by
  obtain ⟨-, h9, -, -, -, -, -, a0, a1, a2⟩ := h
  intro j hj
  have e0 : S 12 (q + ((0 : Nat) : Int)) = S 12 q := by congr 1; exact Int.add_zero q
  match j, hj with
  | 0, _ => exact ⟨Int.le_refl _, Int.le_refl _⟩
  | 1, _ => show 0 ≤ 0 + S 9 p + S 12 (q + ((0 : Nat) : Int)) + 2 ∧ 0 + S 9 p + S 12 (q + ((0 : Nat) : Int)) + 2 ≤ 15 * ((1 : Nat) : Int); omega
  | 2, _ => show 0 ≤ 0 + S 9 p + S 12 (q + ((0 : Nat) : Int)) + 2 + S 9 p + S 12 (q + 1) + 2 ∧ 0 + S 9 p + S 12 (q + ((0 : Nat) : Int)) + 2 + S 9 p + S 12 (q + 1) + 2 ≤ 15 * ((2 : Nat) : Int); omega
  | 3, _ => show 0 ≤ 0 + S 9 p + S 12 (q + ((0 : Nat) : Int)) + 2 + S 9 p + S 12 (q + 1) + 2 + S 9 p + S 12 (q + 2) + 2 ∧ 0 + S 9 p + S 12 (q + ((0 : Nat) : Int)) + 2 + S 9 p + S 12 (q + 1) + 2 + S 9 p + S 12 (q + 2) + 2 ≤ 15 * ((3 : Nat) : Int); omega
def fstN : Nat → (Nat → Bool) → Int
  | 0, _ => -1
  | n + 1, f => if 0 ≤ fstN n f then fstN n f else if f n = true then (n : Int) else -1
theorem fstN_none {f : Nat → Bool} : ∀ {n : Nat}, (∀ k, k < n → f k = false) → fstN n f = -1
  | 0, _ => rfl
  | n + 1, h => by
    have h1 := fstN_none (n := n) (fun k hk => h k (Nat.lt_succ_of_lt hk))
    have h2 := h n (Nat.lt_succ_self n)
    show (if 0 ≤ fstN n f then fstN n f else if f n = true then (n : Int) else -1) = -1
    rw [h1, h2]
    rfl
theorem fstN_hit {f : Nat → Bool} {m : Nat} (h0 : ∀ k, k < m → f k = false) (h1 : f m = true) : ∀ {n : Nat}, m < n → fstN n f = (m : Int)
  | n + 1, h => by
    show (if 0 ≤ fstN n f then fstN n f else if f n = true then (n : Int) else -1) = (m : Int)
    rcases Nat.lt_succ_iff_lt_or_eq.mp h with q | q
    · rw [fstN_hit h0 h1 q, if_pos (by omega)]
    · subst q
      rw [fstN_none h0, if_neg (by omega), if_pos h1]
theorem fstN_r {f : Nat → Bool} : ∀ {n : Nat}, -1 ≤ fstN n f ∧ fstN n f < (n : Int)
  | 0 => ⟨Int.le_refl _, show (-1 : Int) < 0 by decide⟩
  | n + 1 => by
    have h := fstN_r (f := f) (n := n)
    show -1 ≤ (if 0 ≤ fstN n f then fstN n f else if f n = true then (n : Int) else -1) ∧ (if 0 ≤ fstN n f then fstN n f else if f n = true then (n : Int) else -1) < ((n + 1 : Nat) : Int)
    split
    · omega
    · split <;> omega
def spAt (S : mS) (p q l t : Int) (j : Nat) : Bool := decide (S 11 (q + (j : Int)) = l) && decide ((t - (S 10 p + binF S p q j - 1)) % S 8 p ≤ S 9 p)
def spI (S : mS) (k l t : Int) (i : Nat) : Bool := anyN 3 (spAt S (5 * k + (i : Int)) (15 * k + 3 * (i : Int)) l t)
/-- whose span: the first stream of the schedule k in whose span tick t of link l is, else -1 -/
def spF (S : mS) (k l t : Int) : Int := fstN (S 7 k).toNat (spI S k l t)
theorem anyN_0 {n : Nat} {f : Nat → Bool} (h : ∀ k, k < n → f k = false) : anyN n f = false := by
  cases hb : anyN n f with
  | false => rfl
  | true =>
    obtain ⟨k, h1, h2⟩ := anyN_iff.mp hb
    rw [h k h1] at h2
    cases h2
/-- the last hop of a stream in force -/
def laF (S : mS) (q : Int) : Nat := if 0 ≤ S 11 (q + 2) then 2 else if 0 ≤ S 11 (q + 1) then 1 else 0
theorem laF_le (S : mS) (q : Int) : laF S q ≤ 2 := by unfold laF; split <;> (try split) <;> omega
/-- a frame f: when it begins on hop j, when it is through it and its delay -/
def begO (S : mS) (f : Int) (j : Nat) : Int := S 25 f + binF S (10 + S 24 f) (30 + 3 * S 24 f) j
def thrO (S : mS) (f : Int) (j : Nat) : Int := begO S f j + S 9 (10 + S 24 f) + S 12 (30 + 3 * S 24 f + (j : Int))
abbrev lnkO (S : mS) (f : Int) (j : Nat) : Int := S 11 (30 + 3 * S 24 f + (j : Int))

/-- the frames that are on their way: of streams in force, begun by now -/
def mFly (S : mS) : Prop := (0 ≤ S 23 0 ∧ S 23 0 ≤ 64) ∧ ∀ f, 0 ≤ f → f < S 23 0 → (0 ≤ S 24 f ∧ S 24 f < S 7 2) ∧ (0 ≤ S 25 f ∧ S 25 f ≤ 1000000)
/-- the mute of a waiting frame's search: no tick of n is reserved on link l from now -/
def onJ (S : mS) (l f : Int) (j : Nat) : Bool := decide (lnkO S f j = l) && decide (begO S f j < S 15 0) && decide (S 15 0 < begO S f j + S 9 (10 + S 24 f))
def onFr (S : mS) (l : Int) (f : Nat) : Bool := anyN (laF S (30 + 3 * S 24 (f : Int)) + 1) (onJ S l f)
def onF (S : mS) (l : Int) : Int := if 0 ≤ fstN (S 23 0).toNat (onFr S l) then S 24 (fstN (S 23 0).toNat (onFr S l)) else if 0 < S 29 l then 5 else -1
def isTk (S : mS) (i : Int) : Bool := decide (0 ≤ i ∧ i < S 7 2)
theorem mSi_path {S : mS} {p q : Int} (h : mSi S p q) {j : Nat} (hj : j ≤ laF S q) : 0 ≤ S 11 (q + (j : Int)) ∧ S 11 (q + (j : Int)) < 6 := by
  obtain ⟨-, -, -, h0, h1, h2, h3, -⟩ := h
  unfold laF at hj
  split at hj
  · match j, hj with
    | 0, _ => simpa using h0
    | 1, _ => exact ⟨show 0 ≤ S 11 (q + 1) by omega, h1.2⟩
    | 2, _ => exact ⟨show 0 ≤ S 11 (q + 2) by omega, h2.2⟩
  · split at hj
    · match j, hj with
      | 0, _ => simpa using h0
      | 1, _ => exact ⟨show 0 ≤ S 11 (q + 1) by omega, h1.2⟩
    · match j, hj with
      | 0, _ => simpa using h0
/-- a frame that is on its way, as the rows of the table have it -/
def mFm (S : mS) (f : Int) : Prop := (0 ≤ f ∧ f < 64) ∧ (0 ≤ S 24 f ∧ S 24 f < 5) ∧ (0 ≤ S 25 f ∧ S 25 f ≤ 1000000) ∧ mSi S (10 + S 24 f) (30 + 3 * S 24 f)
def mTm (S : mS) : Prop := 0 ≤ S 15 0 ∧ S 15 0 ≤ 1000000
theorem begO_r {S : mS} {f : Int} (h : mFm S f) {j : Nat} (hj : j ≤ 3) : 0 ≤ begO S f j ∧ begO S f j ≤ 1000045 := by
  have h1 := binF_r h.2.2.2 j hj
  have h2 := h.2.2.1
  unfold begO
  omega
theorem thrO_r {S : mS} {f : Int} (h : mFm S f) {j : Nat} (hj : j ≤ 2) : 0 ≤ thrO S f j ∧ thrO S f j ≤ 1000100 := by
  have h1 := begO_r h (j := j) (by omega)
  obtain ⟨-, -, -, -, h9, -, -, -, -, -, a0, a1, a2⟩ := h
  have a : 0 ≤ S 12 (30 + 3 * S 24 f + (j : Int)) ∧ S 12 (30 + 3 * S 24 f + (j : Int)) ≤ 9 := by
    rcases (show j = 0 ∨ j = 1 ∨ j = 2 by omega) with rfl | rfl | rfl
    · simpa using a0
    · exact a1
    · exact a2
  unfold thrO
  omega
def quietF (S : mS) : Bool := decide (S 23 0 = 0) && allN 6 fun l => decide (S 29 (l : Int) = 0)
def lostJ (S : mS) (f : Int) (j : Nat) : Bool := decide (begO S f j = S 15 0) && decide (S 26 (lnkO S f j) ≠ 0)
def hitJ (S : mS) (f l : Int) (j : Nat) : Bool := decide (lnkO S f j = l) && decide (begO S f j < S 15 0) && decide (S 15 0 < thrO S f j)
def lostF (S : mS) (f : Int) : Bool := anyN (laF S (30 + 3 * S 24 f) + 1) (lostJ S f)
def hitF (S : mS) (f l : Int) : Bool := anyN (laF S (30 + 3 * S 24 f) + 1) (hitJ S f l)
def freeK (S : mS) (l : Int) (k : Nat) : Bool := decide (spF S 2 l (S 15 0 + (k : Int)) < 0)
def freeF (S : mS) (l : Int) (n : Nat) : Bool := decide (S 7 2 < 0) || allN n (freeK S l)
end
section
/-! contracts (walks laid by program) -/
set_option maxRecDepth 100000 in
set_option maxHeartbeats 4000000 in
theorem c_X7_isLink {lc : Launch} {dA : Nat → ClassId} {σ0 : hS} {a : Int} (ha : -2147483648 ≤ a ∧ a ≤ 2147483647) : gM lc dA yX7_isLink (.code yX7_isLink cX7_isLink 1 (some .boolean)) { frames := 0, cells := 0, slots := 0, locals := 0 } σ0 [.int (iI a)] (sP σ0 (some (.int (iI (bz (decide (0 ≤ a ∧ a < 6))))))) nX := by
  refine gM_body (by decide +kernel) (by simp [Value.category]) (Nat.le_of_ble_eq_true rfl) (fun Γ hdA cx rx nx => ?_)
  subst hdA
  have cx : CX lc Γ cX7_isLink RX7 1 { frames := 0, cells := 0, slots := 0, locals := 0 } := cx
  show G Γ σ0 0 0 0 [some (.int (iI a))] []
  refine z_il_1_0 (pc := 0) cx dX7_isLink_0 ?_
  refine z_if_lt (pc := 1) (tgt := 14) cx (by omega) (by decide) dX7_isLink_1 (fun c_1 => ?_) (fun c_1 => ?_)
  · skip
    refine z_iconst (pc := 14) cx dX7_isLink_14 ?_
    exact (z_retb (pc := 15) (b := decide (0 ≤ a ∧ a < 6)) cx rx (by decide) (by decide) dX7_isLink_15 (by simp only [bz, decide_eq_true_eq]; split <;> omega) ⟨rfl, rfl⟩)
  · skip
    refine z_il_1_0 (pc := 4) cx dX7_isLink_4 ?_
    refine z_bipush (pc := 5) cx rfl dX7_isLink_5 ?_
    refine z_icmp_ge (pc := 7) (tgt := 14) cx (by omega) (by decide) dX7_isLink_7 (fun c_7 => ?_) (fun c_7 => ?_)
    · skip
      refine z_iconst (pc := 14) cx dX7_isLink_14 ?_
      exact (z_retb (pc := 15) (b := decide (0 ≤ a ∧ a < 6)) cx rx (by decide) (by decide) dX7_isLink_15 (by simp only [bz, decide_eq_true_eq]; split <;> omega) ⟨rfl, rfl⟩)
    · skip
      refine z_iconst (pc := 10) cx dX7_isLink_10 ?_
      refine g_goto (pc := 11) (tgt := 15) cx (by decide) dX7_isLink_11 ?_
      exact (z_retb (pc := 15) (b := decide (0 ≤ a ∧ a < 6)) cx rx (by decide) (by decide) dX7_isLink_15 (by simp only [bz, decide_eq_true_eq]; split <;> omega) ⟨rfl, rfl⟩)

set_option maxRecDepth 100000 in
set_option maxHeartbeats 4000000 in
theorem c_X7_thrown {lc : Launch} {dA : Nat → ClassId} {ad : Nat → Nat} {σ0 : hS} {h : Nat} {S : mS} (hm : mat dA ad σ0 h S) : gM lc dA yX7_thrown (.code yX7_thrown cX7_thrown 1 (some .int)) { frames := 0, cells := 0, slots := 0, locals := 0 } σ0 [.ref h] (mP dA ad h σ0 (some (.int (iI (S 0 0)))) (S)) nX := by
  refine gM_body (by decide +kernel) (by simp [Value.category]) (Nat.le_of_ble_eq_true rfl) (fun Γ hdA cx rx nx => ?_)
  subst hdA
  have cx : CX lc Γ cX7_thrown RX7 1 { frames := 0, cells := 0, slots := 0, locals := 0 } := cx
  show G Γ σ0 0 0 0 [some (.ref h)] []
  have hF : mFr ad h σ0 σ0 := mFr.rf
  refine z_al_1_0 (pc := 0) cx dX7_thrown_0 ?_
  refine m_get (pc := 1) cx hm fl_X7_89 rfl dX7_thrown_1 ?_
  exact z_ret (pc := 4) cx rx (by decide) (by decide) dX7_thrown_4 ⟨rfl, hm, hF⟩

set_option maxRecDepth 100000 in
set_option maxHeartbeats 4000000 in
theorem c_X7_modulo {lc : Launch} {dA : Nat → ClassId} {σ0 : hS} {a n : Int} (ha : (-1000000000 ≤ a ∧ a ≤ 1000000000) ∧ (0 < n ∧ n ≤ 1000000)) : gM lc dA yX7_modulo (.code yX7_modulo cX7_modulo 2 (some .int)) { frames := 0, cells := 0, slots := 0, locals := 0 } σ0 [.int (iI a), .int (iI n)] (sP σ0 (some (.int (iI (a % n))))) nX := by
  refine gM_body (by decide +kernel) (by simp [Value.category]) (Nat.le_of_ble_eq_true rfl) (fun Γ hdA cx rx nx => ?_)
  subst hdA
  have cx : CX lc Γ cX7_modulo RX7 2 { frames := 0, cells := 0, slots := 0, locals := 0 } := cx
  show G Γ σ0 0 0 0 [some (.int (iI a)), some (.int (iI n))] []
  have hr := tmod_r a n ha.2.1
  refine z_il_2_0 (pc := 0) cx dX7_modulo_0 ?_
  refine z_il_2_1 (pc := 1) cx dX7_modulo_1 ?_
  refine z_irem (pc := 2) cx (by omega) dX7_modulo_2 ?_
  refine z_il_2_1 (pc := 3) cx dX7_modulo_3 ?_
  refine z_iadd (pc := 4) cx dX7_modulo_4 ?_
  refine z_il_2_1 (pc := 5) cx dX7_modulo_5 ?_
  refine z_irem (pc := 6) cx (by omega) dX7_modulo_6 ?_
  rw [tmod_mod ha.2.1]
  exact z_ret (pc := 7) cx rx (by decide) (by decide) dX7_modulo_7 ⟨rfl, rfl⟩

set_option maxRecDepth 100000 in
set_option maxHeartbeats 4000000 in
theorem c_X7_meet {lc : Launch} {dA : Nat → ClassId} {σ0 : hS} {a n p b m q : Int} (ha : ((-10000000 ≤ a ∧ a ≤ 10000000) ∧ (-1000000 ≤ n ∧ n ≤ 1000000) ∧ (0 < p ∧ p ≤ 1000000)) ∧ (-10000000 ≤ b ∧ b ≤ 10000000) ∧ (-1000000 ≤ m ∧ m ≤ 1000000) ∧ (0 < q ∧ q ≤ 1000000)) : gM lc dA yX7_meet (.code yX7_meet cX7_meet 8 (some .boolean)) { frames := 1, cells := 0, slots := 0, locals := 21 } σ0 [.int (iI a), .int (iI n), .int (iI p), .int (iI b), .int (iI m), .int (iI q)] (sP σ0 (some (.int (iI (bz (meetF a n p b m q)))))) nX := by
  refine gM_body (by decide +kernel) (by simp [Value.category]) (Nat.le_of_ble_eq_true rfl) (fun Γ hdA cx rx nx => ?_)
  subst hdA
  have cx : CX lc Γ cX7_meet RX7 8 { frames := 1, cells := 0, slots := 0, locals := 21 } := cx
  show G Γ σ0 0 0 0 [some (.int (iI a)), some (.int (iI n)), some (.int (iI p)), some (.int (iI b)), some (.int (iI m)), some (.int (iI q)), none, none] []
  have J12 : ∀ e : Int, e = (if p < q then p else q) → G Γ σ0 0 0 12 [some (.int (iI (a))), some (.int (iI (n))), some (.int (iI (p))), some (.int (iI (b))), some (.int (iI (m))), some (.int (iI (q))), none, none] [.int (iI e)] := by
    intro e he
    have hr1 := Int.emod_nonneg (b - a) (show e ≠ 0 by split at he <;> omega)
    have hr2 := Int.emod_lt_of_pos (b - a) (show 0 < e by split at he <;> omega)
    have hr3 := Int.emod_nonneg (a - b) (show e ≠ 0 by split at he <;> omega)
    have hr4 := Int.emod_lt_of_pos (a - b) (show 0 < e by split at he <;> omega)
    have he2 : 0 < e ∧ e ≤ 1000000 := by split at he <;> omega
    refine z_is_8_6 (pc := 12) cx dX7_meet_12 ?_
    refine z_il_8_3 (pc := 14) cx dX7_meet_14 ?_
    refine z_il_8_0 (pc := 15) cx dX7_meet_15 ?_
    refine z_isub (pc := 16) cx dX7_meet_16 ?_
    refine z_il_8_6 (pc := 17) cx dX7_meet_17 ?_
    refine m_callS (pc := 19) cx lk_X7_104 (c_X7_modulo (by omega)) gy_X7_modulo ⟨⟨by decide, by decide⟩, by decide, by decide⟩ ⟨rfl, rfl⟩ rfl rfl (Nat.le_of_ble_eq_true rfl) dX7_meet_19 ?_
    show G Γ _ _ _ 22 _ (.int (iI _) :: _)
    refine z_is_8_7 (pc := 22) cx dX7_meet_22 ?_
    refine z_il_8_7 (pc := 24) cx dX7_meet_24 ?_
    refine z_il_8_1 (pc := 26) cx dX7_meet_26 ?_
    refine z_icmp_lt (pc := 27) (tgt := 43) cx (by omega) (by decide) dX7_meet_27 (fun c_27 => ?_) (fun c_27 => ?_)
    · skip
      refine z_iconst (pc := 43) cx dX7_meet_43 ?_
      refine g_goto (pc := 44) (tgt := 48) cx (by decide) dX7_meet_44 ?_
      exact (z_retb (pc := 48) (b := meetF a n p b m q) cx rx (by decide) (by decide) dX7_meet_48 (by rw [meetF, ← he]; simp only [bz, Bool.or_eq_true, decide_eq_true_eq]; split <;> omega) ⟨rfl, rfl⟩)
    · skip
      refine z_il_8_0 (pc := 30) cx dX7_meet_30 ?_
      refine z_il_8_3 (pc := 31) cx dX7_meet_31 ?_
      refine z_isub (pc := 32) cx dX7_meet_32 ?_
      refine z_il_8_6 (pc := 33) cx dX7_meet_33 ?_
      refine m_callS (pc := 35) cx lk_X7_104 (c_X7_modulo (by omega)) gy_X7_modulo ⟨⟨by decide, by decide⟩, by decide, by decide⟩ ⟨rfl, rfl⟩ rfl rfl (Nat.le_of_ble_eq_true rfl) dX7_meet_35 ?_
      show G Γ _ _ _ 38 _ (.int (iI _) :: _)
      refine z_il_8_4 (pc := 38) cx dX7_meet_38 ?_
      refine z_icmp_ge (pc := 40) (tgt := 47) cx (by omega) (by decide) dX7_meet_40 (fun c_40 => ?_) (fun c_40 => ?_)
      · skip
        refine z_iconst (pc := 47) cx dX7_meet_47 ?_
        exact (z_retb (pc := 48) (b := meetF a n p b m q) cx rx (by decide) (by decide) dX7_meet_48 (by rw [meetF, ← he]; simp only [bz, Bool.or_eq_true, decide_eq_true_eq]; split <;> omega) ⟨rfl, rfl⟩)
      · skip
        refine z_iconst (pc := 43) cx dX7_meet_43 ?_
        refine g_goto (pc := 44) (tgt := 48) cx (by decide) dX7_meet_44 ?_
        exact (z_retb (pc := 48) (b := meetF a n p b m q) cx rx (by decide) (by decide) dX7_meet_48 (by rw [meetF, ← he]; simp only [bz, Bool.or_eq_true, decide_eq_true_eq]; split <;> omega) ⟨rfl, rfl⟩)
  refine z_il_8_2 (pc := 0) cx dX7_meet_0 ?_
  refine z_il_8_5 (pc := 1) cx dX7_meet_1 ?_
  refine z_icmp_ge (pc := 3) (tgt := 10) cx (by omega) (by decide) dX7_meet_3 (fun c_3 => ?_) (fun c_3 => ?_)
  · skip
    refine z_il_8_5 (pc := 10) cx dX7_meet_10 ?_
    exact J12 _ (by split <;> omega)
  · skip
    refine z_il_8_2 (pc := 6) cx dX7_meet_6 ?_
    refine g_goto (pc := 7) (tgt := 12) cx (by decide) dX7_meet_7 ?_
    exact J12 _ (by split <;> omega)

set_option maxRecDepth 100000 in
set_option maxHeartbeats 4000000 in
theorem c_X7_begins {lc : Launch} {dA : Nat → ClassId} {ad : Nat → Nat} {σ0 : hS} {h : Nat} {S : mS} (hm : mat dA ad σ0 h S) {i : Int} {j : Nat} (hi : 0 ≤ i ∧ i < 5) (hj : j ≤ 3) (hp : ∀ q : Nat, q < j → 0 ≤ S 6 (3 * i + (q : Int)) ∧ S 6 (3 * i + (q : Int)) < 6) : gM lc dA yX7_begins (.code yX7_begins cX7_begins 5 (some .int)) { frames := 0, cells := 0, slots := 0, locals := 0 } σ0 [.ref h, .int (iI i), .int (iI (j : Int))] (mP dA ad h σ0 (some (.int (iI (begF S i j)))) (S)) nX := by
  refine gM_body (by decide +kernel) (by simp [Value.category]) (Nat.le_of_ble_eq_true rfl) (fun Γ hdA cx rx nx => ?_)
  subst hdA
  have cx : CX lc Γ cX7_begins RX7 5 { frames := 0, cells := 0, slots := 0, locals := 0 } := cx
  show G Γ σ0 0 0 0 [some (.ref h), some (.int (iI i)), some (.int (iI (j : Int))), none, none] []
  have hF : mFr ad h σ0 σ0 := mFr.rf
  refine z_iconst (pc := 0) cx dX7_begins_0 ?_
  refine z_is_5_3 (pc := 1) cx dX7_begins_1 ?_
  refine z_iconst (pc := 2) cx dX7_begins_2 ?_
  refine z_is_5_4 (pc := 3) cx dX7_begins_3 ?_
  have J5 : ∀ (n k : Nat) (σ : hS), k + n = j → mat (gdA Γ) ad σ h S → mFr ad h σ0 σ → G Γ σ 0 0 5 [some (.ref h), some (.int (iI (i))), some (.int (iI ((j : Int)))), some (.int (iI (begF S i k))), some (.int (iI ((k : Int))))] [] := by
    intro n
    induction n using Nat.strongRecOn with
    | _ n ih =>
    intro k σ hn hm hF
    refine z_il_5_4 (pc := 5) cx dX7_begins_5 ?_
    refine z_il_5_2 (pc := 7) cx dX7_begins_7 ?_
    refine z_icmp_ge (pc := 8) (tgt := 45) cx (by omega) (by decide) dX7_begins_8 (fun c_8 => ?_) (fun c_8 => ?_)
    · obtain rfl : k = j := by omega
      refine z_il_5_3 (pc := 45) cx dX7_begins_45 ?_
      exact z_ret (pc := 46) cx rx (by decide) (by decide) dX7_begins_46 ⟨rfl, hm, hF⟩
    · skip
      refine z_il_5_3 (pc := 11) cx dX7_begins_11 ?_
      refine z_al_5_0 (pc := 12) cx dX7_begins_12 ?_
      refine m_get (pc := 13) cx hm fl_X7_16 rfl dX7_begins_13 ?_
      refine z_il_5_1 (pc := 16) cx dX7_begins_16 ?_
      refine m_iald (pc := 17) (k := 4) (L := 5) cx hm ⟨rfl, rfl, by decide, by decide⟩ dX7_begins_17 (by omega) ?_
      refine z_iadd (pc := 18) cx dX7_begins_18 ?_
      refine z_al_5_0 (pc := 19) cx dX7_begins_19 ?_
      refine m_get (pc := 20) cx hm fl_X7_7 rfl dX7_begins_20 ?_
      refine z_al_5_0 (pc := 23) cx dX7_begins_23 ?_
      refine m_get (pc := 24) cx hm fl_X7_22 rfl dX7_begins_24 ?_
      refine z_iconst (pc := 27) cx dX7_begins_27 ?_
      refine z_il_5_1 (pc := 28) cx dX7_begins_28 ?_
      refine z_imul (pc := 29) cx dX7_begins_29 ?_
      refine z_il_5_4 (pc := 30) cx dX7_begins_30 ?_
      refine z_iadd (pc := 32) cx dX7_begins_32 ?_
      refine m_iald (pc := 33) (k := 6) (L := 15) cx hm ⟨rfl, rfl, by decide, by decide⟩ dX7_begins_33 (by omega) ?_
      refine m_iald (pc := 34) (k := 1) (L := 6) cx hm ⟨rfl, rfl, by decide, by decide⟩ dX7_begins_34 (by have := hp k (by omega); omega) ?_
      refine z_iadd (pc := 35) cx dX7_begins_35 ?_
      refine z_iconst (pc := 36) cx dX7_begins_36 ?_
      refine z_iadd (pc := 37) cx dX7_begins_37 ?_
      refine z_is_5_3 (pc := 38) cx dX7_begins_38 ?_
      refine z_ii_5_4 (pc := 39) cx dX7_begins_39 ?_
      refine g_goto (pc := 42) (tgt := 5) cx (by decide) dX7_begins_42 ?_
      exact ih (n - 1) (by omega) (k + 1) σ (by omega) hm hF
  exact J5 j 0 σ0 (by omega) hm hF
end
section
/-! contracts (walks laid by program) -/
set_option maxRecDepth 100000 in
set_option maxHeartbeats 4000000 in
theorem c_X7_isOnTime {lc : Launch} {dA : Nat → ClassId} {ad : Nat → Nat} {σ0 : hS} {h : Nat} {S : mS} (hm : mat dA ad σ0 h S) {i : Int} (hi : 0 ≤ i ∧ i < 5) (hs : mSt S i) (hd : mDl S) : gM lc dA yX7_isOnTime (.code yX7_isOnTime cX7_isOnTime 3 (some .boolean)) { frames := 1, cells := 0, slots := 0, locals := 24 } σ0 [.ref h, .int (iI i)] (mP dA ad h σ0 (some (.int (iI (bz (onTF S i))))) (S)) nX := by
  refine gM_body (by decide +kernel) (by simp [Value.category]) (Nat.le_of_ble_eq_true rfl) (fun Γ hdA cx rx nx => ?_)
  subst hdA
  have cx : CX lc Γ cX7_isOnTime RX7 3 { frames := 1, cells := 0, slots := 0, locals := 24 } := cx
  show G Γ σ0 0 0 0 [some (.ref h), some (.int (iI i)), none] []
  have hF : mFr ad h σ0 σ0 := mFr.rf
  have hs' := hs
  obtain ⟨-, h4, h5, g0, g1, g2, g3⟩ := hs'
  have e0 : S 6 (3 * i + (((0 : Nat)) : Int)) = S 6 (3 * i) := by congr 1; exact Int.add_zero _
  have J35 : ∀ (k : Nat) (σ : hS), k = lastF S i → mat (gdA Γ) ad σ h S → mFr ad h σ0 σ → G Γ σ 0 0 35 [some (.ref h), some (.int (iI i)), none] [.int (iI (k : Int))] := by
    intro k σ hk hm hF
    have hk2 : k ≤ 2 := by rw [hk]; unfold lastF; split <;> (try split) <;> omega
    have hp := fun q (hq : q ≤ k) => mSt_path hs (show q ≤ lastF S i by omega)
    have hpk := hp k (Nat.le_refl _)
    have hbr := begF_r (i := i) hd h4 k (fun q hq => hp q (by omega))
    have hdk := hd _ hpk.1 hpk.2
    refine z_is_3_2 (pc := 35) cx dX7_isOnTime_35 ?_
    refine z_al_3_0 (pc := 36) cx dX7_isOnTime_36 ?_
    refine z_il_3_1 (pc := 37) cx dX7_isOnTime_37 ?_
    refine z_il_3_2 (pc := 38) cx dX7_isOnTime_38 ?_
    refine m_callV (pc := 39) cx lk_X7_100 (c_X7_begins hm (j := k) hi (by omega) (fun q hq => hp q (by omega))) hm hF rfl gy_X7_begins ⟨⟨by decide, by decide⟩, by decide, by decide⟩ ⟨rfl, rfl⟩ rfl rfl (Nat.le_of_ble_eq_true rfl) dX7_isOnTime_39 ?_
    intro σ hm hF
    show G Γ _ _ _ 42 _ (.int (iI _) :: _)
    refine z_al_3_0 (pc := 42) cx dX7_isOnTime_42 ?_
    refine m_get (pc := 43) cx hm fl_X7_16 rfl dX7_isOnTime_43 ?_
    refine z_il_3_1 (pc := 46) cx dX7_isOnTime_46 ?_
    refine m_iald (pc := 47) (k := 4) (L := 5) cx hm ⟨rfl, rfl, by decide, by decide⟩ dX7_isOnTime_47 (by omega) ?_
    refine z_iadd (pc := 48) cx dX7_isOnTime_48 ?_
    refine z_al_3_0 (pc := 49) cx dX7_isOnTime_49 ?_
    refine m_get (pc := 50) cx hm fl_X7_7 rfl dX7_isOnTime_50 ?_
    refine z_al_3_0 (pc := 53) cx dX7_isOnTime_53 ?_
    refine m_get (pc := 54) cx hm fl_X7_22 rfl dX7_isOnTime_54 ?_
    refine z_iconst (pc := 57) cx dX7_isOnTime_57 ?_
    refine z_il_3_1 (pc := 58) cx dX7_isOnTime_58 ?_
    refine z_imul (pc := 59) cx dX7_isOnTime_59 ?_
    refine z_il_3_2 (pc := 60) cx dX7_isOnTime_60 ?_
    refine z_iadd (pc := 61) cx dX7_isOnTime_61 ?_
    refine m_iald (pc := 62) (k := 6) (L := 15) cx hm ⟨rfl, rfl, by decide, by decide⟩ dX7_isOnTime_62 (by omega) ?_
    refine m_iald (pc := 63) (k := 1) (L := 6) cx hm ⟨rfl, rfl, by decide, by decide⟩ dX7_isOnTime_63 (by omega) ?_
    refine z_iadd (pc := 64) cx dX7_isOnTime_64 ?_
    refine z_al_3_0 (pc := 65) cx dX7_isOnTime_65 ?_
    refine m_get (pc := 66) cx hm fl_X7_19 rfl dX7_isOnTime_66 ?_
    refine z_il_3_1 (pc := 69) cx dX7_isOnTime_69 ?_
    refine m_iald (pc := 70) (k := 5) (L := 5) cx hm ⟨rfl, rfl, by decide, by decide⟩ dX7_isOnTime_70 (by omega) ?_
    refine z_icmp_gt (pc := 71) (tgt := 78) cx (by omega) (by decide) dX7_isOnTime_71 (fun c_71 => ?_) (fun c_71 => ?_)
    · skip
      refine z_iconst (pc := 78) cx dX7_isOnTime_78 ?_
      exact (z_retb (pc := 79) (b := onTF S i) cx rx (by decide) (by decide) dX7_isOnTime_79 (by unfold onTF; rw [← hk]; simp only [bz, decide_eq_true_eq]; split <;> omega) ⟨rfl, hm, hF⟩)
    · skip
      refine z_iconst (pc := 74) cx dX7_isOnTime_74 ?_
      refine g_goto (pc := 75) (tgt := 79) cx (by decide) dX7_isOnTime_75 ?_
      exact (z_retb (pc := 79) (b := onTF S i) cx rx (by decide) (by decide) dX7_isOnTime_79 (by unfold onTF; rw [← hk]; simp only [bz, decide_eq_true_eq]; split <;> omega) ⟨rfl, hm, hF⟩)
  refine z_al_3_0 (pc := 0) cx dX7_isOnTime_0 ?_
  refine m_get (pc := 1) cx hm fl_X7_22 rfl dX7_isOnTime_1 ?_
  refine z_iconst (pc := 4) cx dX7_isOnTime_4 ?_
  refine z_il_3_1 (pc := 5) cx dX7_isOnTime_5 ?_
  refine z_imul (pc := 6) cx dX7_isOnTime_6 ?_
  refine z_iconst (pc := 7) cx dX7_isOnTime_7 ?_
  refine z_iadd (pc := 8) cx dX7_isOnTime_8 ?_
  refine m_iald (pc := 9) (k := 6) (L := 15) cx hm ⟨rfl, rfl, by decide, by decide⟩ dX7_isOnTime_9 (by omega) ?_
  refine z_if_lt (pc := 10) (tgt := 17) cx (by omega) (by decide) dX7_isOnTime_10 (fun c_10 => ?_) (fun c_10 => ?_)
  · skip
    refine z_al_3_0 (pc := 17) cx dX7_isOnTime_17 ?_
    refine m_get (pc := 18) cx hm fl_X7_22 rfl dX7_isOnTime_18 ?_
    refine z_iconst (pc := 21) cx dX7_isOnTime_21 ?_
    refine z_il_3_1 (pc := 22) cx dX7_isOnTime_22 ?_
    refine z_imul (pc := 23) cx dX7_isOnTime_23 ?_
    refine z_iconst (pc := 24) cx dX7_isOnTime_24 ?_
    refine z_iadd (pc := 25) cx dX7_isOnTime_25 ?_
    refine m_iald (pc := 26) (k := 6) (L := 15) cx hm ⟨rfl, rfl, by decide, by decide⟩ dX7_isOnTime_26 (by omega) ?_
    refine z_if_lt (pc := 27) (tgt := 34) cx (by omega) (by decide) dX7_isOnTime_27 (fun c_27 => ?_) (fun c_27 => ?_)
    · skip
      refine z_iconst (pc := 34) cx dX7_isOnTime_34 ?_
      exact J35 0 σ0 (by unfold lastF; rw [if_neg (by omega), if_neg (by omega)]) hm hF
    · skip
      refine z_iconst (pc := 30) cx dX7_isOnTime_30 ?_
      refine g_goto (pc := 31) (tgt := 35) cx (by decide) dX7_isOnTime_31 ?_
      exact J35 1 σ0 (by unfold lastF; rw [if_neg (by omega), if_pos (by omega)]) hm hF
  · skip
    refine z_iconst (pc := 13) cx dX7_isOnTime_13 ?_
    refine g_goto (pc := 14) (tgt := 35) cx (by decide) dX7_isOnTime_14 ?_
    exact J35 2 σ0 (by unfold lastF; rw [if_pos (by omega)]) hm hF

set_option maxRecDepth 100000 in
set_option maxHeartbeats 4000000 in
theorem c_X7_streamsMeet {lc : Launch} {dA : Nat → ClassId} {ad : Nat → Nat} {σ0 : hS} {h : Nat} {S : mS} (hm : mat dA ad σ0 h S) {i j : Int} (hi : 0 ≤ i ∧ i < 5) (hj : 0 ≤ j ∧ j < 5) (hsi : mSt S i) (hsj : mSt S j) (hd : mDl S) (ht : (-1 ≤ S 14 i ∧ S 14 i ≤ 32) ∧ (-1 ≤ S 14 j ∧ S 14 j ≤ 32)) : gM lc dA yX7_streamsMeet (.code yX7_streamsMeet cX7_streamsMeet 7 (some .boolean)) { frames := 2, cells := 0, slots := 0, locals := 48 } σ0 [.ref h, .int (iI i), .int (iI j)] (mP dA ad h σ0 (some (.int (iI (bz (smF S i j))))) (S)) nX := by
  refine gM_body (by decide +kernel) (by simp [Value.category]) (Nat.le_of_ble_eq_true rfl) (fun Γ hdA cx rx nx => ?_)
  subst hdA
  have cx : CX lc Γ cX7_streamsMeet RX7 7 { frames := 2, cells := 0, slots := 0, locals := 48 } := cx
  show G Γ σ0 0 0 0 [some (.ref h), some (.int (iI i)), some (.int (iI j)), none, none, none, none] []
  have hF : mFr ad h σ0 σ0 := mFr.rf
  obtain ⟨i3, i4, i5, i60, i61, i62, i63⟩ := id hsi
  obtain ⟨j3, j4, j5, j60, j61, j62, j63⟩ := id hsj
  have pi : ∀ x : Nat, x < 3 → -1 ≤ S 6 (3 * i + (x : Int)) ∧ S 6 (3 * i + (x : Int)) < 6 := fun x hx => by
    match x, hx with
    | 0, _ => simpa using (show -1 ≤ S 6 (3 * i) ∧ S 6 (3 * i) < 6 by omega)
    | 1, _ => exact i61
    | 2, _ => exact i62
  have pj : ∀ x : Nat, x < 3 → -1 ≤ S 6 (3 * j + (x : Int)) ∧ S 6 (3 * j + (x : Int)) < 6 := fun x hx => by
    match x, hx with
    | 0, _ => simpa using (show -1 ≤ S 6 (3 * j) ∧ S 6 (3 * j) < 6 by omega)
    | 1, _ => exact j61
    | 2, _ => exact j62
  refine z_iconst (pc := 0) cx dX7_streamsMeet_0 ?_
  refine z_is_7_3 (pc := 1) cx dX7_streamsMeet_1 ?_
  refine z_iconst (pc := 2) cx dX7_streamsMeet_2 ?_
  refine z_is_7_4 (pc := 3) cx dX7_streamsMeet_3 ?_
  have J5 : ∀ (n x : Nat) (x5 x6 : Option Value) (σ : hS), x + n = 3 → mat (gdA Γ) ad σ h S → mFr ad h σ0 σ → G Γ σ 0 0 5 [some (.ref h), some (.int (iI (i))), some (.int (iI (j))), some (.int (iI (bz (anyN x fun x => anyN 3 fun y => smXY S i j x y)))), some (.int (iI ((x : Int)))), x5, x6] [] := by
    intro n
    induction n using Nat.strongRecOn with
    | _ n ih =>
    intro x x5 x6 σ hn hm hF
    refine z_il_7_4 (pc := 5) cx dX7_streamsMeet_5 ?_
    refine z_iconst (pc := 7) cx dX7_streamsMeet_7 ?_
    refine z_icmp_ge (pc := 8) (tgt := 138) cx (by omega) (by decide) dX7_streamsMeet_8 (fun c_8 => ?_) (fun c_8 => ?_)
    · obtain rfl : x = 3 := by omega
      refine z_il_7_3 (pc := 138) cx dX7_streamsMeet_138 ?_
      exact (z_retb (pc := 139) (b := smF S i j) cx rx (by decide) (by decide) dX7_streamsMeet_139 rfl ⟨rfl, hm, hF⟩)
    · skip
      refine z_iconst (pc := 11) cx dX7_streamsMeet_11 ?_
      refine z_is_7_5 (pc := 12) cx dX7_streamsMeet_12 ?_
      have J14 : ∀ (n2 y : Nat) (x6 : Option Value) (σ : hS), y + n2 = 3 → mat (gdA Γ) ad σ h S → mFr ad h σ0 σ → G Γ σ 0 0 14 [some (.ref h), some (.int (iI (i))), some (.int (iI (j))), some (.int (iI (bz (anyN x (fun x => anyN 3 fun y => smXY S i j x y) || anyN y fun y => smXY S i j x y)))), some (.int (iI ((x : Int)))), some (.int (iI ((y : Int)))), x6] [] := by
        intro n2
        induction n2 using Nat.strongRecOn with
        | _ n2 ih2 =>
        intro y x6 σ hn2 hm hF
        have hx3 : x < 3 := by omega
        have hpx := pi x hx3
        refine z_il_7_5 (pc := 14) cx dX7_streamsMeet_14 ?_
        refine z_iconst (pc := 16) cx dX7_streamsMeet_16 ?_
        refine z_icmp_ge (pc := 17) (tgt := 132) cx (by omega) (by decide) dX7_streamsMeet_17 (fun c_17 => ?_) (fun c_17 => ?_)
        · obtain rfl : y = 3 := by omega
          refine z_ii_7_4 (pc := 132) cx dX7_streamsMeet_132 ?_
          refine g_goto (pc := 135) (tgt := 5) cx (by decide) dX7_streamsMeet_135 ?_
          exact ih (n - 1) (by omega) (x + 1) _ _ σ (by omega) hm hF
        · skip
          have J126 : ∀ (e : Int) (x6 : Option Value) (σ : hS), e = bz (anyN x (fun x => anyN 3 fun y => smXY S i j x y) || anyN (y + 1) fun y => smXY S i j x y) → mat (gdA Γ) ad σ h S → mFr ad h σ0 σ → G Γ σ 0 0 126 [some (.ref h), some (.int (iI (i))), some (.int (iI (j))), some (.int (iI (e))), some (.int (iI ((x : Int)))), some (.int (iI ((y : Int)))), x6] [] := by
            intro e x6 σ he hm hF
            subst he
            refine z_ii_7_5 (pc := 126) cx dX7_streamsMeet_126 ?_
            refine g_goto (pc := 129) (tgt := 14) cx (by decide) dX7_streamsMeet_129 ?_
            exact ih2 (n2 - 1) (by omega) (y + 1) _ σ (by omega) hm hF
          have hy3 : y < 3 := by omega
          have hpy := pj y hy3
          refine z_al_7_0 (pc := 20) cx dX7_streamsMeet_20 ?_
          refine m_get (pc := 21) cx hm fl_X7_22 rfl dX7_streamsMeet_21 ?_
          refine z_iconst (pc := 24) cx dX7_streamsMeet_24 ?_
          refine z_il_7_1 (pc := 25) cx dX7_streamsMeet_25 ?_
          refine z_imul (pc := 26) cx dX7_streamsMeet_26 ?_
          refine z_il_7_4 (pc := 27) cx dX7_streamsMeet_27 ?_
          refine z_iadd (pc := 29) cx dX7_streamsMeet_29 ?_
          refine m_iald (pc := 30) (k := 6) (L := 15) cx hm ⟨rfl, rfl, by decide, by decide⟩ dX7_streamsMeet_30 (by omega) ?_
          refine z_is_7_6 (pc := 31) cx dX7_streamsMeet_31 ?_
          refine z_il_7_6 (pc := 33) cx dX7_streamsMeet_33 ?_
          refine z_if_lt (pc := 35) (tgt := 126) cx (by omega) (by decide) dX7_streamsMeet_35 (fun c_35 => ?_) (fun c_35 => ?_)
          · skip
            exact J126 _ _ σ (by rw [anyN, smXY, decide_eq_false (show ¬ 0 ≤ S 6 (3 * i + (x : Int)) by omega)]; simp) hm hF
          · skip
            refine z_il_7_6 (pc := 38) cx dX7_streamsMeet_38 ?_
            refine z_al_7_0 (pc := 40) cx dX7_streamsMeet_40 ?_
            refine m_get (pc := 41) cx hm fl_X7_22 rfl dX7_streamsMeet_41 ?_
            refine z_iconst (pc := 44) cx dX7_streamsMeet_44 ?_
            refine z_il_7_2 (pc := 45) cx dX7_streamsMeet_45 ?_
            refine z_imul (pc := 46) cx dX7_streamsMeet_46 ?_
            refine z_il_7_5 (pc := 47) cx dX7_streamsMeet_47 ?_
            refine z_iadd (pc := 49) cx dX7_streamsMeet_49 ?_
            refine m_iald (pc := 50) (k := 6) (L := 15) cx hm ⟨rfl, rfl, by decide, by decide⟩ dX7_streamsMeet_50 (by omega) ?_
            refine z_icmp_ne (pc := 51) (tgt := 126) cx (by omega) (by decide) dX7_streamsMeet_51 (fun c_51 => ?_) (fun c_51 => ?_)
            · skip
              exact J126 _ _ σ (by rw [anyN, smXY, decide_eq_false c_51]; simp) hm hF
            · skip
              refine z_il_7_3 (pc := 54) cx dX7_streamsMeet_54 ?_
              refine z_if_ne (pc := 55) (tgt := 120) cx (by have := bz_r (anyN x (fun x => anyN 3 fun y => smXY S i j x y) || anyN y fun y => smXY S i j x y); omega) (by decide) dX7_streamsMeet_55 (fun c_55 => ?_) (fun c_55 => ?_)
              · skip
                refine z_iconst (pc := 120) cx dX7_streamsMeet_120 ?_
                refine g_goto (pc := 121) (tgt := 125) cx (by decide) dX7_streamsMeet_121 ?_
                refine z_is_7_3 (pc := 125) cx dX7_streamsMeet_125 ?_
                exact J126 _ _ σ (by
                  rw [anyN, ← Bool.or_assoc]
                  first
                  | (rw [bz_n0.mp c_55]; rfl)
                  | (rw [bz_0.mp c_55, smXY, decide_eq_true c_35, decide_eq_true c_51, bz_n0.mp c_117]; rfl)
                  | (rw [bz_0.mp c_55, smXY, decide_eq_true c_35, decide_eq_true c_51, bz_0.mp c_117]; rfl)) hm hF
              · skip
                have qi := mSt_pre hsi hx3 c_35
                have qj := mSt_pre hsj hy3 (show 0 ≤ S 6 (3 * j + (y : Int)) by omega)
                have bi := begF_r (i := i) hd i4 x qi
                have bj := begF_r (i := j) hd j4 y qj
                refine z_al_7_0 (pc := 58) cx dX7_streamsMeet_58 ?_
                refine m_get (pc := 59) cx hm fl_X7_43 rfl dX7_streamsMeet_59 ?_
                refine z_il_7_1 (pc := 62) cx dX7_streamsMeet_62 ?_
                refine m_iald (pc := 63) (k := 14) (L := 5) cx hm ⟨rfl, rfl, by decide, by decide⟩ dX7_streamsMeet_63 (by omega) ?_
                refine z_al_7_0 (pc := 64) cx dX7_streamsMeet_64 ?_
                refine z_il_7_1 (pc := 65) cx dX7_streamsMeet_65 ?_
                refine z_il_7_4 (pc := 66) cx dX7_streamsMeet_66 ?_
                refine m_callV (pc := 68) cx lk_X7_100 (c_X7_begins hm (j := x) hi (by omega) qi) hm hF rfl gy_X7_begins ⟨⟨by decide, by decide⟩, by decide, by decide⟩ ⟨rfl, rfl⟩ rfl rfl (Nat.le_of_ble_eq_true rfl) dX7_streamsMeet_68 ?_
                intro σ hm hF
                show G Γ _ _ _ 71 _ (.int (iI _) :: _)
                refine z_iadd (pc := 71) cx dX7_streamsMeet_71 ?_
                refine z_al_7_0 (pc := 72) cx dX7_streamsMeet_72 ?_
                refine m_get (pc := 73) cx hm fl_X7_16 rfl dX7_streamsMeet_73 ?_
                refine z_il_7_1 (pc := 76) cx dX7_streamsMeet_76 ?_
                refine m_iald (pc := 77) (k := 4) (L := 5) cx hm ⟨rfl, rfl, by decide, by decide⟩ dX7_streamsMeet_77 (by omega) ?_
                refine z_iconst (pc := 78) cx dX7_streamsMeet_78 ?_
                refine z_iadd (pc := 79) cx dX7_streamsMeet_79 ?_
                refine z_al_7_0 (pc := 80) cx dX7_streamsMeet_80 ?_
                refine m_get (pc := 81) cx hm fl_X7_13 rfl dX7_streamsMeet_81 ?_
                refine z_il_7_1 (pc := 84) cx dX7_streamsMeet_84 ?_
                refine m_iald (pc := 85) (k := 3) (L := 5) cx hm ⟨rfl, rfl, by decide, by decide⟩ dX7_streamsMeet_85 (by omega) ?_
                refine z_al_7_0 (pc := 86) cx dX7_streamsMeet_86 ?_
                refine m_get (pc := 87) cx hm fl_X7_43 rfl dX7_streamsMeet_87 ?_
                refine z_il_7_2 (pc := 90) cx dX7_streamsMeet_90 ?_
                refine m_iald (pc := 91) (k := 14) (L := 5) cx hm ⟨rfl, rfl, by decide, by decide⟩ dX7_streamsMeet_91 (by omega) ?_
                refine z_al_7_0 (pc := 92) cx dX7_streamsMeet_92 ?_
                refine z_il_7_2 (pc := 93) cx dX7_streamsMeet_93 ?_
                refine z_il_7_5 (pc := 94) cx dX7_streamsMeet_94 ?_
                refine m_callV (pc := 96) cx lk_X7_100 (c_X7_begins hm (j := y) hj (by omega) qj) hm hF rfl gy_X7_begins ⟨⟨by decide, by decide⟩, by decide, by decide⟩ ⟨rfl, rfl⟩ rfl rfl (Nat.le_of_ble_eq_true rfl) dX7_streamsMeet_96 ?_
                intro σ hm hF
                show G Γ _ _ _ 99 _ (.int (iI _) :: _)
                refine z_iadd (pc := 99) cx dX7_streamsMeet_99 ?_
                refine z_al_7_0 (pc := 100) cx dX7_streamsMeet_100 ?_
                refine m_get (pc := 101) cx hm fl_X7_16 rfl dX7_streamsMeet_101 ?_
                refine z_il_7_2 (pc := 104) cx dX7_streamsMeet_104 ?_
                refine m_iald (pc := 105) (k := 4) (L := 5) cx hm ⟨rfl, rfl, by decide, by decide⟩ dX7_streamsMeet_105 (by omega) ?_
                refine z_iconst (pc := 106) cx dX7_streamsMeet_106 ?_
                refine z_iadd (pc := 107) cx dX7_streamsMeet_107 ?_
                refine z_al_7_0 (pc := 108) cx dX7_streamsMeet_108 ?_
                refine m_get (pc := 109) cx hm fl_X7_13 rfl dX7_streamsMeet_109 ?_
                refine z_il_7_2 (pc := 112) cx dX7_streamsMeet_112 ?_
                refine m_iald (pc := 113) (k := 3) (L := 5) cx hm ⟨rfl, rfl, by decide, by decide⟩ dX7_streamsMeet_113 (by omega) ?_
                refine m_callS (pc := 114) cx lk_X7_107 (c_X7_meet (by omega)) gy_X7_meet ⟨⟨by decide, by decide⟩, by decide, by decide⟩ ⟨rfl, rfl⟩ rfl rfl (Nat.le_of_ble_eq_true rfl) dX7_streamsMeet_114 ?_
                show G Γ _ _ _ 117 _ (.int (iI _) :: _)
                refine z_if_eq (pc := 117) (tgt := 124) cx (by have := bz_r (meetF (S 14 i + begF S i x) (S 4 i + 1) (S 3 i) (S 14 j + begF S j y) (S 4 j + 1) (S 3 j)); omega) (by decide) dX7_streamsMeet_117 (fun c_117 => ?_) (fun c_117 => ?_)
                · skip
                  refine z_iconst (pc := 124) cx dX7_streamsMeet_124 ?_
                  refine z_is_7_3 (pc := 125) cx dX7_streamsMeet_125 ?_
                  exact J126 _ _ σ (by
                    rw [anyN, ← Bool.or_assoc]
                    first
                    | (rw [bz_n0.mp c_55]; rfl)
                    | (rw [bz_0.mp c_55, smXY, decide_eq_true c_35, decide_eq_true c_51, bz_n0.mp c_117]; rfl)
                    | (rw [bz_0.mp c_55, smXY, decide_eq_true c_35, decide_eq_true c_51, bz_0.mp c_117]; rfl)) hm hF
                · skip
                  refine z_iconst (pc := 120) cx dX7_streamsMeet_120 ?_
                  refine g_goto (pc := 121) (tgt := 125) cx (by decide) dX7_streamsMeet_121 ?_
                  refine z_is_7_3 (pc := 125) cx dX7_streamsMeet_125 ?_
                  exact J126 _ _ σ (by
                    rw [anyN, ← Bool.or_assoc]
                    first
                    | (rw [bz_n0.mp c_55]; rfl)
                    | (rw [bz_0.mp c_55, smXY, decide_eq_true c_35, decide_eq_true c_51, bz_n0.mp c_117]; rfl)
                    | (rw [bz_0.mp c_55, smXY, decide_eq_true c_35, decide_eq_true c_51, bz_0.mp c_117]; rfl)) hm hF
      refine g_l (J14 3 0 x6 σ rfl hm hF) ?_
      simp [anyN]
  exact J5 3 0 _ _ σ0 rfl hm hF

set_option maxRecDepth 100000 in
set_option maxHeartbeats 4000000 in
theorem c_X7_isGood {lc : Launch} {dA : Nat → ClassId} {ad : Nat → Nat} {σ0 : hS} {h : Nat} {S : mS} (hm : mat dA ad σ0 h S) {i : Nat} (hi : i < 5) (hs : ∀ j : Nat, j ≤ i → mSt S j ∧ -1 ≤ S 14 j ∧ S 14 j ≤ 32) (hd : mDl S) : gM lc dA yX7_isGood (.code yX7_isGood cX7_isGood 4 (some .boolean)) { frames := 3, cells := 0, slots := 0, locals := 74 } σ0 [.ref h, .int (iI (i : Int))] (mP dA ad h σ0 (some (.int (iI (bz (goodF S i))))) (S)) nX := by
  refine gM_body (by decide +kernel) (by simp [Value.category]) (Nat.le_of_ble_eq_true rfl) (fun Γ hdA cx rx nx => ?_)
  subst hdA
  have cx : CX lc Γ cX7_isGood RX7 4 { frames := 3, cells := 0, slots := 0, locals := 74 } := cx
  show G Γ σ0 0 0 0 [some (.ref h), some (.int (iI (i : Int))), none, none] []
  have hF : mFr ad h σ0 σ0 := mFr.rf
  have hsi := hs i (Nat.le_refl _)
  refine z_al_4_0 (pc := 0) cx dX7_isGood_0 ?_
  refine z_il_4_1 (pc := 1) cx dX7_isGood_1 ?_
  refine m_callV (pc := 2) cx lk_X7_111 (c_X7_isOnTime hm (by omega) hsi.1 hd) hm hF rfl gy_X7_isOnTime ⟨⟨by decide, by decide⟩, by decide, by decide⟩ ⟨rfl, rfl⟩ rfl rfl (Nat.le_of_ble_eq_true rfl) dX7_isGood_2 ?_
  intro σ hm hF
  show G Γ _ _ _ 5 _ (.int (iI _) :: _)
  refine z_is_4_2 (pc := 5) cx dX7_isGood_5 ?_
  refine z_iconst (pc := 6) cx dX7_isGood_6 ?_
  refine z_is_4_3 (pc := 7) cx dX7_isGood_7 ?_
  have J8 : ∀ (n j : Nat) (σ : hS), j + n = i → mat (gdA Γ) ad σ h S → mFr ad h σ0 σ → G Γ σ 0 0 8 [some (.ref h), some (.int (iI ((i : Int)))), some (.int (iI (bz (onTF S i && allN j fun j => !smF S i j)))), some (.int (iI ((j : Int))))] [] := by
    intro n
    induction n using Nat.strongRecOn with
    | _ n ih =>
    intro j σ hn hm hF
    refine z_il_4_3 (pc := 8) cx dX7_isGood_8 ?_
    refine z_il_4_1 (pc := 9) cx dX7_isGood_9 ?_
    refine z_icmp_ge (pc := 10) (tgt := 38) cx (by omega) (by decide) dX7_isGood_10 (fun c_10 => ?_) (fun c_10 => ?_)
    · obtain rfl : i = j := by omega
      refine z_il_4_2 (pc := 38) cx dX7_isGood_38 ?_
      exact (z_retb (pc := 39) (b := goodF S i) cx rx (by decide) (by decide) dX7_isGood_39 rfl ⟨rfl, hm, hF⟩)
    · skip
      have J31 : ∀ (e : Int) (σ : hS), e = bz (onTF S i && allN (j + 1) fun j => !smF S i j) → mat (gdA Γ) ad σ h S → mFr ad h σ0 σ → G Γ σ 0 0 31 [some (.ref h), some (.int (iI ((i : Int)))), some (.int (iI (bz (onTF S i && allN j fun j => !smF S i j)))), some (.int (iI ((j : Int))))] [.int (iI e)] := by
        intro e σ he hm hF
        subst he
        refine z_is_4_2 (pc := 31) cx dX7_isGood_31 ?_
        refine z_ii_4_3 (pc := 32) cx dX7_isGood_32 ?_
        refine g_goto (pc := 35) (tgt := 8) cx (by decide) dX7_isGood_35 ?_
        exact ih (n - 1) (by omega) (j + 1) σ (by omega) hm hF
      have hsj := hs j (by omega)
      refine z_il_4_2 (pc := 13) cx dX7_isGood_13 ?_
      refine z_if_eq (pc := 14) (tgt := 30) cx (by have := bz_r (onTF S i && allN j fun j => !smF S i j); omega) (by decide) dX7_isGood_14 (fun c_14 => ?_) (fun c_14 => ?_)
      · skip
        refine z_iconst (pc := 30) cx dX7_isGood_30 ?_
        exact J31 _ σ (by
          rw [allN, ← Bool.and_assoc]
          first
          | (rw [bz_0.mp c_14]; rfl)
          | (rw [bz_n0.mp c_23]; simp [bz])) hm hF
      · skip
        refine z_al_4_0 (pc := 17) cx dX7_isGood_17 ?_
        refine z_il_4_1 (pc := 18) cx dX7_isGood_18 ?_
        refine z_il_4_3 (pc := 19) cx dX7_isGood_19 ?_
        refine m_callV (pc := 20) cx lk_X7_114 (c_X7_streamsMeet hm (by omega) (by omega) hsi.1 hsj.1 hd ⟨hsi.2, hsj.2⟩) hm hF rfl gy_X7_streamsMeet ⟨⟨by decide, by decide⟩, by decide, by decide⟩ ⟨rfl, rfl⟩ rfl rfl (Nat.le_of_ble_eq_true rfl) dX7_isGood_20 ?_
        intro σ hm hF
        show G Γ _ _ _ 23 _ (.int (iI _) :: _)
        refine z_if_ne (pc := 23) (tgt := 30) cx (by have := bz_r (smF S i j); omega) (by decide) dX7_isGood_23 (fun c_23 => ?_) (fun c_23 => ?_)
        · skip
          refine z_iconst (pc := 30) cx dX7_isGood_30 ?_
          exact J31 _ σ (by
            rw [allN, ← Bool.and_assoc]
            first
            | (rw [bz_0.mp c_14]; rfl)
            | (rw [bz_n0.mp c_23]; simp [bz])) hm hF
        · skip
          refine z_iconst (pc := 26) cx dX7_isGood_26 ?_
          refine g_goto (pc := 27) (tgt := 31) cx (by decide) dX7_isGood_27 ?_
          exact J31 _ σ (by rw [allN, ← Bool.and_assoc, bz_n0.mp c_14, bz_0.mp c_23]; rfl) hm hF
  refine g_l (J8 i 0 σ (by omega) hm hF) ?_
  simp [allN]

set_option maxRecDepth 100000 in
set_option maxHeartbeats 4000000 in
theorem c_X7_beginsIn {lc : Launch} {dA : Nat → ClassId} {ad : Nat → Nat} {σ0 : hS} {h : Nat} {S : mS} (hm : mat dA ad σ0 h S) {k i p q : Int} {j : Nat} (hk : 0 ≤ k ∧ k ≤ 2) (hi : 0 ≤ i ∧ i < 5) (hj : j ≤ 3) (hp : p = 5 * k + i) (hq : q = 15 * k + 3 * i) : gM lc dA yX7_beginsIn (.code yX7_beginsIn cX7_beginsIn 6 (some .int)) { frames := 0, cells := 0, slots := 0, locals := 0 } σ0 [.ref h, .int (iI k), .int (iI i), .int (iI (j : Int))] (mP dA ad h σ0 (some (.int (iI (binF S p q j)))) (S)) nX := by
  refine gM_body (by decide +kernel) (by simp [Value.category]) (Nat.le_of_ble_eq_true rfl) (fun Γ hdA cx rx nx => ?_)
  subst hdA
  have cx : CX lc Γ cX7_beginsIn RX7 6 { frames := 0, cells := 0, slots := 0, locals := 0 } := cx
  show G Γ σ0 0 0 0 [some (.ref h), some (.int (iI k)), some (.int (iI i)), some (.int (iI (j : Int))), none, none] []
  have hF : mFr ad h σ0 σ0 := mFr.rf
  subst hp
  subst hq
  refine z_iconst (pc := 0) cx dX7_beginsIn_0 ?_
  refine z_is_6_4 (pc := 1) cx dX7_beginsIn_1 ?_
  refine z_iconst (pc := 3) cx dX7_beginsIn_3 ?_
  refine z_is_6_5 (pc := 4) cx dX7_beginsIn_4 ?_
  have J6 : ∀ (n x : Nat) (σ : hS), x + n = j → mat (gdA Γ) ad σ h S → mFr ad h σ0 σ → G Γ σ 0 0 6 [some (.ref h), some (.int (iI (k))), some (.int (iI (i))), some (.int (iI ((j : Int)))), some (.int (iI (binF S (5 * k + i) (15 * k + 3 * i) x))), some (.int (iI ((x : Int))))] [] := by
    intro n
    induction n using Nat.strongRecOn with
    | _ n ih =>
    intro x σ hn hm hF
    refine z_il_6_5 (pc := 6) cx dX7_beginsIn_6 ?_
    refine z_il_6_3 (pc := 8) cx dX7_beginsIn_8 ?_
    refine z_icmp_ge (pc := 9) (tgt := 52) cx (by omega) (by decide) dX7_beginsIn_9 (fun c_9 => ?_) (fun c_9 => ?_)
    · obtain rfl : x = j := by omega
      refine z_il_6_4 (pc := 52) cx dX7_beginsIn_52 ?_
      exact z_ret (pc := 54) cx rx (by decide) (by decide) dX7_beginsIn_54 ⟨rfl, hm, hF⟩
    · skip
      refine z_il_6_4 (pc := 12) cx dX7_beginsIn_12 ?_
      refine z_al_6_0 (pc := 14) cx dX7_beginsIn_14 ?_
      refine m_get (pc := 15) cx hm fl_X7_31 rfl dX7_beginsIn_15 ?_
      refine z_iconst (pc := 18) cx dX7_beginsIn_18 ?_
      refine z_il_6_1 (pc := 19) cx dX7_beginsIn_19 ?_
      refine z_imul (pc := 20) cx dX7_beginsIn_20 ?_
      refine z_il_6_2 (pc := 21) cx dX7_beginsIn_21 ?_
      refine z_iadd (pc := 22) cx dX7_beginsIn_22 ?_
      refine m_iald (pc := 23) (k := 9) (L := 15) cx hm ⟨rfl, rfl, by decide, by decide⟩ dX7_beginsIn_23 (by omega) ?_
      refine z_iadd (pc := 24) cx dX7_beginsIn_24 ?_
      refine z_al_6_0 (pc := 25) cx dX7_beginsIn_25 ?_
      refine m_get (pc := 26) cx hm fl_X7_40 rfl dX7_beginsIn_26 ?_
      refine z_bipush (pc := 29) cx rfl dX7_beginsIn_29 ?_
      refine z_il_6_1 (pc := 31) cx dX7_beginsIn_31 ?_
      refine z_imul (pc := 32) cx dX7_beginsIn_32 ?_
      refine z_iconst (pc := 33) cx dX7_beginsIn_33 ?_
      refine z_il_6_2 (pc := 34) cx dX7_beginsIn_34 ?_
      refine z_imul (pc := 35) cx dX7_beginsIn_35 ?_
      refine z_iadd (pc := 36) cx dX7_beginsIn_36 ?_
      refine z_il_6_5 (pc := 37) cx dX7_beginsIn_37 ?_
      refine z_iadd (pc := 39) cx dX7_beginsIn_39 ?_
      refine m_iald (pc := 40) (k := 12) (L := 45) cx hm ⟨rfl, rfl, by decide, by decide⟩ dX7_beginsIn_40 (by omega) ?_
      refine z_iadd (pc := 41) cx dX7_beginsIn_41 ?_
      refine z_iconst (pc := 42) cx dX7_beginsIn_42 ?_
      refine z_iadd (pc := 43) cx dX7_beginsIn_43 ?_
      refine z_is_6_4 (pc := 44) cx dX7_beginsIn_44 ?_
      refine z_ii_6_5 (pc := 46) cx dX7_beginsIn_46 ?_
      refine g_goto (pc := 49) (tgt := 6) cx (by decide) dX7_beginsIn_49 ?_
      exact ih (n - 1) (by omega) (x + 1) σ (by omega) hm hF
  exact J6 j 0 σ0 (by omega) hm hF

set_option maxRecDepth 100000 in
set_option maxHeartbeats 4000000 in
theorem c_X7_spanOf {lc : Launch} {dA : Nat → ClassId} {ad : Nat → Nat} {σ0 : hS} {h : Nat} {S : mS} (hm : mat dA ad σ0 h S) {k l t : Int} (hk : 0 ≤ k ∧ k ≤ 2) (hs : mSch S k) (hl : -1000000 ≤ l ∧ l ≤ 1000000) (ht : 0 ≤ t ∧ t ≤ 10000000) : gM lc dA yX7_spanOf (.code yX7_spanOf cX7_spanOf 7 (some .int)) { frames := 1, cells := 0, slots := 0, locals := 25 } σ0 [.ref h, .int (iI k), .int (iI l), .int (iI t)] (mP dA ad h σ0 (some (.int (iI (spF S k l t)))) (S)) nX := by
  refine gM_body (by decide +kernel) (by simp [Value.category]) (Nat.le_of_ble_eq_true rfl) (fun Γ hdA cx rx nx => ?_)
  subst hdA
  have cx : CX lc Γ cX7_spanOf RX7 7 { frames := 1, cells := 0, slots := 0, locals := 25 } := cx
  show G Γ σ0 0 0 0 [some (.ref h), some (.int (iI k)), some (.int (iI l)), some (.int (iI t)), none, none, none] []
  have hF : mFr ad h σ0 σ0 := mFr.rf
  refine z_iconst (pc := 0) cx dX7_spanOf_0 ?_
  refine z_is_7_4 (pc := 1) cx dX7_spanOf_1 ?_
  have J3 : ∀ (n i : Nat) (x5 x6 : Option Value) (σ : hS), i + n = (S 7 k).toNat → (∀ i' : Nat, i' < i → spI S k l t i' = false) → mat (gdA Γ) ad σ h S → mFr ad h σ0 σ → G Γ σ 0 0 3 [some (.ref h), some (.int (iI (k))), some (.int (iI (l))), some (.int (iI (t))), some (.int (iI ((i : Int)))), x5, x6] [] := by
    intro n
    induction n using Nat.strongRecOn with
    | _ n ih =>
    intro i x5 x6 σ hn hno hm hF
    have hs1 := hs.1
    refine z_il_7_4 (pc := 3) cx dX7_spanOf_3 ?_
    refine z_al_7_0 (pc := 5) cx dX7_spanOf_5 ?_
    refine m_get (pc := 6) cx hm fl_X7_25 rfl dX7_spanOf_6 ?_
    refine z_il_7_1 (pc := 9) cx dX7_spanOf_9 ?_
    refine m_iald (pc := 10) (k := 7) (L := 3) cx hm ⟨rfl, rfl, by decide, by decide⟩ dX7_spanOf_10 (by omega) ?_
    refine z_icmp_ge (pc := 11) (tgt := 116) cx (by omega) (by decide) dX7_spanOf_11 (fun c_11 => ?_) (fun c_11 => ?_)
    · skip
      refine z_iconst (pc := 116) cx dX7_spanOf_116 ?_
      exact z_ret (pc := 117) cx rx (by decide) (by decide) dX7_spanOf_117 ⟨by rw [spF, fstN_none (fun i' q => hno i' (by omega))], hm, hF⟩
    · skip
      have hsi := hs.2 (i : Int) (by omega) (by omega)
      obtain ⟨g8, g9, g10, g11, g11b, g11c, -, -⟩ := id hsi
      refine z_iconst (pc := 14) cx dX7_spanOf_14 ?_
      refine z_is_7_5 (pc := 15) cx dX7_spanOf_15 ?_
      have J17 : ∀ (n2 j : Nat) (x6 : Option Value) (σ : hS), j + n2 = 3 → (∀ j' : Nat, j' < j → spAt S (5 * k + (i : Int)) (15 * k + 3 * (i : Int)) l t j' = false) → mat (gdA Γ) ad σ h S → mFr ad h σ0 σ → G Γ σ 0 0 17 [some (.ref h), some (.int (iI (k))), some (.int (iI (l))), some (.int (iI (t))), some (.int (iI ((i : Int)))), some (.int (iI ((j : Int)))), x6] [] := by
        intro n2
        induction n2 using Nat.strongRecOn with
        | _ n2 ih2 =>
        intro j x6 σ hn2 hno2 hm hF
        refine z_il_7_5 (pc := 17) cx dX7_spanOf_17 ?_
        refine z_iconst (pc := 19) cx dX7_spanOf_19 ?_
        refine z_icmp_ge (pc := 20) (tgt := 110) cx (by omega) (by decide) dX7_spanOf_20 (fun c_20 => ?_) (fun c_20 => ?_)
        · skip
          refine z_ii_7_4 (pc := 110) cx dX7_spanOf_110 ?_
          refine g_goto (pc := 113) (tgt := 3) cx (by decide) dX7_spanOf_113 ?_
          exact ih (n - 1) (by omega) (i + 1) _ _ σ (by omega) (fun i' q => (Nat.lt_succ_iff_lt_or_eq.mp q).elim (hno i') (fun q => by rw [q]; exact anyN_0 (fun j hj => hno2 j (by omega)))) hm hF
        · skip
          have hb := binF_r hsi j (by omega)
          have gj : -1 ≤ S 11 (15 * k + 3 * (i : Int) + (j : Int)) ∧ S 11 (15 * k + 3 * (i : Int) + (j : Int)) < 6 := by
            rcases (show j = 0 ∨ j = 1 ∨ j = 2 by omega) with rfl | rfl | rfl
            · simpa using (show -1 ≤ S 11 (15 * k + 3 * (i : Int)) ∧ S 11 (15 * k + 3 * (i : Int)) < 6 by omega)
            · exact g11b
            · exact g11c
          refine z_al_7_0 (pc := 23) cx dX7_spanOf_23 ?_
          refine m_get (pc := 24) cx hm fl_X7_34 rfl dX7_spanOf_24 ?_
          refine z_iconst (pc := 27) cx dX7_spanOf_27 ?_
          refine z_il_7_1 (pc := 28) cx dX7_spanOf_28 ?_
          refine z_imul (pc := 29) cx dX7_spanOf_29 ?_
          refine z_il_7_4 (pc := 30) cx dX7_spanOf_30 ?_
          refine z_iadd (pc := 32) cx dX7_spanOf_32 ?_
          refine m_iald (pc := 33) (k := 10) (L := 15) cx hm ⟨rfl, rfl, by decide, by decide⟩ dX7_spanOf_33 (by omega) ?_
          refine z_al_7_0 (pc := 34) cx dX7_spanOf_34 ?_
          refine z_il_7_1 (pc := 35) cx dX7_spanOf_35 ?_
          refine z_il_7_4 (pc := 36) cx dX7_spanOf_36 ?_
          refine z_il_7_5 (pc := 38) cx dX7_spanOf_38 ?_
          refine m_callV (pc := 40) cx lk_X7_127 (c_X7_beginsIn hm (j := j) hk (by omega) (by omega) rfl rfl) hm hF rfl gy_X7_beginsIn ⟨⟨by decide, by decide⟩, by decide, by decide⟩ ⟨rfl, rfl⟩ rfl rfl (Nat.le_of_ble_eq_true rfl) dX7_spanOf_40 ?_
          intro σ hm hF
          show G Γ _ _ _ 43 _ (.int (iI _) :: _)
          refine z_iadd (pc := 43) cx dX7_spanOf_43 ?_
          refine z_iconst (pc := 44) cx dX7_spanOf_44 ?_
          refine z_isub (pc := 45) cx dX7_spanOf_45 ?_
          refine z_is_7_6 (pc := 46) cx dX7_spanOf_46 ?_
          refine z_al_7_0 (pc := 48) cx dX7_spanOf_48 ?_
          refine m_get (pc := 49) cx hm fl_X7_37 rfl dX7_spanOf_49 ?_
          refine z_bipush (pc := 52) cx rfl dX7_spanOf_52 ?_
          refine z_il_7_1 (pc := 54) cx dX7_spanOf_54 ?_
          refine z_imul (pc := 55) cx dX7_spanOf_55 ?_
          refine z_iconst (pc := 56) cx dX7_spanOf_56 ?_
          refine z_il_7_4 (pc := 57) cx dX7_spanOf_57 ?_
          refine z_imul (pc := 59) cx dX7_spanOf_59 ?_
          refine z_iadd (pc := 60) cx dX7_spanOf_60 ?_
          refine z_il_7_5 (pc := 61) cx dX7_spanOf_61 ?_
          refine z_iadd (pc := 63) cx dX7_spanOf_63 ?_
          refine m_iald (pc := 64) (k := 11) (L := 45) cx hm ⟨rfl, rfl, by decide, by decide⟩ dX7_spanOf_64 (by omega) ?_
          refine z_il_7_2 (pc := 65) cx dX7_spanOf_65 ?_
          refine z_icmp_ne (pc := 66) (tgt := 104) cx (by omega) (by decide) dX7_spanOf_66 (fun c_66 => ?_) (fun c_66 => ?_)
          · skip
            refine z_ii_7_5 (pc := 104) cx dX7_spanOf_104 ?_
            refine g_goto (pc := 107) (tgt := 17) cx (by decide) dX7_spanOf_107 ?_
            exact ih2 (n2 - 1) (by omega) (j + 1) _ σ (by omega) (fun j' q => (Nat.lt_succ_iff_lt_or_eq.mp q).elim (hno2 j') (fun q => by rw [q, spAt]; first | rw [decide_eq_false c_66]; rfl | (rw [decide_eq_false (show ¬ (t - (S 10 (5 * k + (i : Int)) + binF S (5 * k + (i : Int)) (15 * k + 3 * (i : Int)) j - 1)) % S 8 (5 * k + (i : Int)) ≤ S 9 (5 * k + (i : Int)) by omega)]; simp))) hm hF
          · skip
            refine z_il_7_3 (pc := 69) cx dX7_spanOf_69 ?_
            refine z_il_7_6 (pc := 70) cx dX7_spanOf_70 ?_
            refine z_isub (pc := 72) cx dX7_spanOf_72 ?_
            refine z_al_7_0 (pc := 73) cx dX7_spanOf_73 ?_
            refine m_get (pc := 74) cx hm fl_X7_28 rfl dX7_spanOf_74 ?_
            refine z_iconst (pc := 77) cx dX7_spanOf_77 ?_
            refine z_il_7_1 (pc := 78) cx dX7_spanOf_78 ?_
            refine z_imul (pc := 79) cx dX7_spanOf_79 ?_
            refine z_il_7_4 (pc := 80) cx dX7_spanOf_80 ?_
            refine z_iadd (pc := 82) cx dX7_spanOf_82 ?_
            refine m_iald (pc := 83) (k := 8) (L := 15) cx hm ⟨rfl, rfl, by decide, by decide⟩ dX7_spanOf_83 (by omega) ?_
            refine m_callS (pc := 84) cx lk_X7_104 (c_X7_modulo (by omega)) gy_X7_modulo ⟨⟨by decide, by decide⟩, by decide, by decide⟩ ⟨rfl, rfl⟩ rfl rfl (Nat.le_of_ble_eq_true rfl) dX7_spanOf_84 ?_
            show G Γ _ _ _ 87 _ (.int (iI _) :: _)
            have hm1 := Int.emod_nonneg (t - (S 10 (5 * k + (i : Int)) + binF S (5 * k + (i : Int)) (15 * k + 3 * (i : Int)) j - 1)) (show S 8 (5 * k + (i : Int)) ≠ 0 by omega)
            have hm2 := Int.emod_lt_of_pos (t - (S 10 (5 * k + (i : Int)) + binF S (5 * k + (i : Int)) (15 * k + 3 * (i : Int)) j - 1)) (show 0 < S 8 (5 * k + (i : Int)) by omega)
            refine z_al_7_0 (pc := 87) cx dX7_spanOf_87 ?_
            refine m_get (pc := 88) cx hm fl_X7_31 rfl dX7_spanOf_88 ?_
            refine z_iconst (pc := 91) cx dX7_spanOf_91 ?_
            refine z_il_7_1 (pc := 92) cx dX7_spanOf_92 ?_
            refine z_imul (pc := 93) cx dX7_spanOf_93 ?_
            refine z_il_7_4 (pc := 94) cx dX7_spanOf_94 ?_
            refine z_iadd (pc := 96) cx dX7_spanOf_96 ?_
            refine m_iald (pc := 97) (k := 9) (L := 15) cx hm ⟨rfl, rfl, by decide, by decide⟩ dX7_spanOf_97 (by omega) ?_
            refine z_icmp_gt (pc := 98) (tgt := 104) cx (by omega) (by decide) dX7_spanOf_98 (fun c_98 => ?_) (fun c_98 => ?_)
            · skip
              refine z_ii_7_5 (pc := 104) cx dX7_spanOf_104 ?_
              refine g_goto (pc := 107) (tgt := 17) cx (by decide) dX7_spanOf_107 ?_
              exact ih2 (n2 - 1) (by omega) (j + 1) _ σ (by omega) (fun j' q => (Nat.lt_succ_iff_lt_or_eq.mp q).elim (hno2 j') (fun q => by rw [q, spAt]; first | rw [decide_eq_false c_66]; rfl | (rw [decide_eq_false (show ¬ (t - (S 10 (5 * k + (i : Int)) + binF S (5 * k + (i : Int)) (15 * k + 3 * (i : Int)) j - 1)) % S 8 (5 * k + (i : Int)) ≤ S 9 (5 * k + (i : Int)) by omega)]; simp))) hm hF
            · skip
              refine z_il_7_4 (pc := 101) cx dX7_spanOf_101 ?_
              exact z_ret (pc := 103) cx rx (by decide) (by decide) dX7_spanOf_103 ⟨by rw [spF, fstN_hit hno (anyN_iff.mpr ⟨j, by omega, by rw [spAt, decide_eq_true c_66, decide_eq_true c_98]; rfl⟩) (by omega)], hm, hF⟩
      exact J17 3 0 _ σ rfl (fun j q => absurd q (Nat.not_lt_zero _)) hm hF
  exact J3 (S 7 k).toNat 0 _ _ σ0 (by omega) (fun i q => absurd q (Nat.not_lt_zero _)) hm hF
end
section
/-! contracts (walks laid by program) -/
set_option maxRecDepth 100000 in
set_option maxHeartbeats 4000000 in
theorem c_X7_linkOf {lc : Launch} {dA : Nat → ClassId} {ad : Nat → Nat} {σ0 : hS} {h : Nat} {S : mS} (hm : mat dA ad σ0 h S) {i : Int} {j : Nat} (hi : 0 ≤ i ∧ i < 5) (hj : j ≤ 2) : gM lc dA yX7_linkOf (.code yX7_linkOf cX7_linkOf 3 (some .int)) { frames := 0, cells := 0, slots := 0, locals := 0 } σ0 [.ref h, .int (iI i), .int (iI (j : Int))] (mP dA ad h σ0 (some (.int (iI (S 11 (30 + 3 * i + (j : Int)))))) (S)) nX := by
  refine gM_body (by decide +kernel) (by simp [Value.category]) (Nat.le_of_ble_eq_true rfl) (fun Γ hdA cx rx nx => ?_)
  subst hdA
  have cx : CX lc Γ cX7_linkOf RX7 3 { frames := 0, cells := 0, slots := 0, locals := 0 } := cx
  show G Γ σ0 0 0 0 [some (.ref h), some (.int (iI i)), some (.int (iI (j : Int)))] []
  have hF : mFr ad h σ0 σ0 := mFr.rf
  refine z_al_3_0 (pc := 0) cx dX7_linkOf_0 ?_
  refine m_get (pc := 1) cx hm fl_X7_37 rfl dX7_linkOf_1 ?_
  refine z_bipush (pc := 4) cx rfl dX7_linkOf_4 ?_
  refine z_iconst (pc := 6) cx dX7_linkOf_6 ?_
  refine z_il_3_1 (pc := 7) cx dX7_linkOf_7 ?_
  refine z_imul (pc := 8) cx dX7_linkOf_8 ?_
  refine z_iadd (pc := 9) cx dX7_linkOf_9 ?_
  refine z_il_3_2 (pc := 10) cx dX7_linkOf_10 ?_
  refine z_iadd (pc := 11) cx dX7_linkOf_11 ?_
  refine m_iald (pc := 12) (k := 11) (L := 45) cx hm ⟨rfl, rfl, by decide, by decide⟩ dX7_linkOf_12 (by omega) ?_
  exact z_ret (pc := 13) cx rx (by decide) (by decide) dX7_linkOf_13 ⟨rfl, hm, hF⟩

set_option maxRecDepth 100000 in
set_option maxHeartbeats 4000000 in
theorem c_X7_beginOf {lc : Launch} {dA : Nat → ClassId} {ad : Nat → Nat} {σ0 : hS} {h : Nat} {S : mS} (hm : mat dA ad σ0 h S) {f : Int} {j : Nat} (hf : mFm S f) (hj : j ≤ 3) : gM lc dA yX7_beginOf (.code yX7_beginOf cX7_beginOf 3 (some .int)) { frames := 1, cells := 0, slots := 0, locals := 25 } σ0 [.ref h, .int (iI f), .int (iI (j : Int))] (mP dA ad h σ0 (some (.int (iI (begO S f j)))) (S)) nX := by
  refine gM_body (by decide +kernel) (by simp [Value.category]) (Nat.le_of_ble_eq_true rfl) (fun Γ hdA cx rx nx => ?_)
  subst hdA
  have cx : CX lc Γ cX7_beginOf RX7 3 { frames := 1, cells := 0, slots := 0, locals := 25 } := cx
  show G Γ σ0 0 0 0 [some (.ref h), some (.int (iI f)), some (.int (iI (j : Int)))] []
  have hF : mFr ad h σ0 σ0 := mFr.rf
  obtain ⟨f1, f2, f3, f4⟩ := id hf
  refine z_al_3_0 (pc := 0) cx dX7_beginOf_0 ?_
  refine m_get (pc := 1) cx hm fl_X7_71 rfl dX7_beginOf_1 ?_
  refine z_il_3_1 (pc := 4) cx dX7_beginOf_4 ?_
  refine m_iald (pc := 5) (k := 25) (L := 64) cx hm ⟨rfl, rfl, by decide, by decide⟩ dX7_beginOf_5 (by omega) ?_
  refine z_al_3_0 (pc := 6) cx dX7_beginOf_6 ?_
  refine z_iconst (pc := 7) cx dX7_beginOf_7 ?_
  refine z_al_3_0 (pc := 8) cx dX7_beginOf_8 ?_
  refine m_get (pc := 9) cx hm fl_X7_68 rfl dX7_beginOf_9 ?_
  refine z_il_3_1 (pc := 12) cx dX7_beginOf_12 ?_
  refine m_iald (pc := 13) (k := 24) (L := 64) cx hm ⟨rfl, rfl, by decide, by decide⟩ dX7_beginOf_13 (by omega) ?_
  refine z_il_3_2 (pc := 14) cx dX7_beginOf_14 ?_
  refine m_callV (pc := 15) cx lk_X7_127 (c_X7_beginsIn hm (k := 2) (p := 10 + S 24 f) (q := 30 + 3 * S 24 f) (j := j) (by omega) f2 hj (by omega) (by omega)) hm hF rfl gy_X7_beginsIn ⟨⟨by decide, by decide⟩, by decide, by decide⟩ ⟨rfl, rfl⟩ rfl rfl (Nat.le_of_ble_eq_true rfl) dX7_beginOf_15 ?_
  intro σ hm hF
  show G Γ _ _ _ 18 _ (.int (iI _) :: _)
  refine z_iadd (pc := 18) cx dX7_beginOf_18 ?_
  exact z_ret (pc := 19) cx rx (by decide) (by decide) dX7_beginOf_19 ⟨rfl, hm, hF⟩

set_option maxRecDepth 100000 in
set_option maxHeartbeats 4000000 in
theorem c_X7_throughOf {lc : Launch} {dA : Nat → ClassId} {ad : Nat → Nat} {σ0 : hS} {h : Nat} {S : mS} (hm : mat dA ad σ0 h S) {f : Int} {j : Nat} (hf : mFm S f) (hj : j ≤ 2) : gM lc dA yX7_throughOf (.code yX7_throughOf cX7_throughOf 4 (some .int)) { frames := 2, cells := 0, slots := 0, locals := 47 } σ0 [.ref h, .int (iI f), .int (iI (j : Int))] (mP dA ad h σ0 (some (.int (iI (thrO S f j)))) (S)) nX := by
  refine gM_body (by decide +kernel) (by simp [Value.category]) (Nat.le_of_ble_eq_true rfl) (fun Γ hdA cx rx nx => ?_)
  subst hdA
  have cx : CX lc Γ cX7_throughOf RX7 4 { frames := 2, cells := 0, slots := 0, locals := 47 } := cx
  show G Γ σ0 0 0 0 [some (.ref h), some (.int (iI f)), some (.int (iI (j : Int))), none] []
  have hF : mFr ad h σ0 σ0 := mFr.rf
  obtain ⟨f1, f2, f3, f4⟩ := id hf
  refine z_al_4_0 (pc := 0) cx dX7_throughOf_0 ?_
  refine m_get (pc := 1) cx hm fl_X7_68 rfl dX7_throughOf_1 ?_
  refine z_il_4_1 (pc := 4) cx dX7_throughOf_4 ?_
  refine m_iald (pc := 5) (k := 24) (L := 64) cx hm ⟨rfl, rfl, by decide, by decide⟩ dX7_throughOf_5 (by omega) ?_
  refine z_is_4_3 (pc := 6) cx dX7_throughOf_6 ?_
  refine z_al_4_0 (pc := 7) cx dX7_throughOf_7 ?_
  refine z_il_4_1 (pc := 8) cx dX7_throughOf_8 ?_
  refine z_il_4_2 (pc := 9) cx dX7_throughOf_9 ?_
  refine m_callV (pc := 10) cx lk_X7_144 (c_X7_beginOf hm hf (j := j) (by omega)) hm hF rfl gy_X7_beginOf ⟨⟨by decide, by decide⟩, by decide, by decide⟩ ⟨rfl, rfl⟩ rfl rfl (Nat.le_of_ble_eq_true rfl) dX7_throughOf_10 ?_
  intro σ hm hF
  show G Γ _ _ _ 13 _ (.int (iI _) :: _)
  refine z_al_4_0 (pc := 13) cx dX7_throughOf_13 ?_
  refine m_get (pc := 14) cx hm fl_X7_31 rfl dX7_throughOf_14 ?_
  refine z_bipush (pc := 17) cx rfl dX7_throughOf_17 ?_
  refine z_il_4_3 (pc := 19) cx dX7_throughOf_19 ?_
  refine z_iadd (pc := 20) cx dX7_throughOf_20 ?_
  refine m_iald (pc := 21) (k := 9) (L := 15) cx hm ⟨rfl, rfl, by decide, by decide⟩ dX7_throughOf_21 (by omega) ?_
  refine z_iadd (pc := 22) cx dX7_throughOf_22 ?_
  refine z_al_4_0 (pc := 23) cx dX7_throughOf_23 ?_
  refine m_get (pc := 24) cx hm fl_X7_40 rfl dX7_throughOf_24 ?_
  refine z_bipush (pc := 27) cx rfl dX7_throughOf_27 ?_
  refine z_iconst (pc := 29) cx dX7_throughOf_29 ?_
  refine z_il_4_3 (pc := 30) cx dX7_throughOf_30 ?_
  refine z_imul (pc := 31) cx dX7_throughOf_31 ?_
  refine z_iadd (pc := 32) cx dX7_throughOf_32 ?_
  refine z_il_4_2 (pc := 33) cx dX7_throughOf_33 ?_
  refine z_iadd (pc := 34) cx dX7_throughOf_34 ?_
  refine m_iald (pc := 35) (k := 12) (L := 45) cx hm ⟨rfl, rfl, by decide, by decide⟩ dX7_throughOf_35 (by omega) ?_
  refine z_iadd (pc := 36) cx dX7_throughOf_36 ?_
  exact z_ret (pc := 37) cx rx (by decide) (by decide) dX7_throughOf_37 ⟨rfl, hm, hF⟩

set_option maxRecDepth 100000 in
set_option maxHeartbeats 4000000 in
theorem c_X7_lastOf {lc : Launch} {dA : Nat → ClassId} {ad : Nat → Nat} {σ0 : hS} {h : Nat} {S : mS} (hm : mat dA ad σ0 h S) {i : Int} (hi : 0 ≤ i ∧ i < 5) (hs : mSi S (10 + i) (30 + 3 * i)) : gM lc dA yX7_lastOf (.code yX7_lastOf cX7_lastOf 2 (some .int)) { frames := 1, cells := 0, slots := 0, locals := 22 } σ0 [.ref h, .int (iI i)] (mP dA ad h σ0 (some (.int (iI ((laF S (30 + 3 * i) : Int))))) (S)) nX := by
  refine gM_body (by decide +kernel) (by simp [Value.category]) (Nat.le_of_ble_eq_true rfl) (fun Γ hdA cx rx nx => ?_)
  subst hdA
  have cx : CX lc Γ cX7_lastOf RX7 2 { frames := 1, cells := 0, slots := 0, locals := 22 } := cx
  show G Γ σ0 0 0 0 [some (.ref h), some (.int (iI i))] []
  have hF : mFr ad h σ0 σ0 := mFr.rf
  obtain ⟨-, -, -, g0, g1, g2, g3, -⟩ := id hs
  have e2 : S 11 (30 + 3 * i + ((2 : Nat) : Int)) = S 11 (30 + 3 * i + 2) := rfl
  have e1 : S 11 (30 + 3 * i + ((1 : Nat) : Int)) = S 11 (30 + 3 * i + 1) := rfl
  have J27 : ∀ (k : Nat) (σ : hS), laF S (30 + 3 * i) = k → mat (gdA Γ) ad σ h S → mFr ad h σ0 σ → G Γ σ 0 0 27 [some (.ref h), some (.int (iI i))] [.int (iI (k : Int))] := by
    intro k σ hk hm hF
    exact z_ret (pc := 27) cx rx (by decide) (by decide) dX7_lastOf_27 ⟨by rw [hk], hm, hF⟩
  refine z_al_2_0 (pc := 0) cx dX7_lastOf_0 ?_
  refine z_il_2_1 (pc := 1) cx dX7_lastOf_1 ?_
  refine z_iconst (pc := 2) cx dX7_lastOf_2 ?_
  refine m_callV (pc := 3) cx lk_X7_147 (c_X7_linkOf hm (j := 2) hi (by omega)) hm hF rfl gy_X7_linkOf ⟨⟨by decide, by decide⟩, by decide, by decide⟩ ⟨rfl, rfl⟩ rfl rfl (Nat.le_of_ble_eq_true rfl) dX7_lastOf_3 ?_
  intro σ hm hF
  show G Γ _ _ _ 6 _ (.int (iI _) :: _)
  refine z_if_lt (pc := 6) (tgt := 13) cx (by omega) (by decide) dX7_lastOf_6 (fun c_6 => ?_) (fun c_6 => ?_)
  · skip
    refine z_al_2_0 (pc := 13) cx dX7_lastOf_13 ?_
    refine z_il_2_1 (pc := 14) cx dX7_lastOf_14 ?_
    refine z_iconst (pc := 15) cx dX7_lastOf_15 ?_
    refine m_callV (pc := 16) cx lk_X7_147 (c_X7_linkOf hm (j := 1) hi (by omega)) hm hF rfl gy_X7_linkOf ⟨⟨by decide, by decide⟩, by decide, by decide⟩ ⟨rfl, rfl⟩ rfl rfl (Nat.le_of_ble_eq_true rfl) dX7_lastOf_16 ?_
    intro σ hm hF
    show G Γ _ _ _ 19 _ (.int (iI _) :: _)
    refine z_if_lt (pc := 19) (tgt := 26) cx (by omega) (by decide) dX7_lastOf_19 (fun c_19 => ?_) (fun c_19 => ?_)
    · skip
      refine z_iconst (pc := 26) cx dX7_lastOf_26 ?_
      exact J27 0 σ (by unfold laF; rw [if_neg (by omega), if_neg (by omega)]) hm hF
    · skip
      refine z_iconst (pc := 22) cx dX7_lastOf_22 ?_
      refine g_goto (pc := 23) (tgt := 27) cx (by decide) dX7_lastOf_23 ?_
      exact J27 1 σ (by unfold laF; rw [if_neg (by omega), if_pos (by omega)]) hm hF
  · skip
    refine z_iconst (pc := 9) cx dX7_lastOf_9 ?_
    refine g_goto (pc := 10) (tgt := 27) cx (by decide) dX7_lastOf_10 ?_
    exact J27 2 σ (by unfold laF; rw [if_pos (by omega)]) hm hF

set_option maxRecDepth 100000 in
set_option maxHeartbeats 4000000 in
theorem c_X7_isTalker {lc : Launch} {dA : Nat → ClassId} {ad : Nat → Nat} {σ0 : hS} {h : Nat} {S : mS} (hm : mat dA ad σ0 h S) {i : Int} (hi : -2147483648 ≤ i ∧ i ≤ 2147483647) (hs : -1 ≤ S 7 2 ∧ S 7 2 ≤ 5) : gM lc dA yX7_isTalker (.code yX7_isTalker cX7_isTalker 2 (some .boolean)) { frames := 0, cells := 0, slots := 0, locals := 0 } σ0 [.ref h, .int (iI i)] (mP dA ad h σ0 (some (.int (iI (bz (isTk S i))))) (S)) nX := by
  refine gM_body (by decide +kernel) (by simp [Value.category]) (Nat.le_of_ble_eq_true rfl) (fun Γ hdA cx rx nx => ?_)
  subst hdA
  have cx : CX lc Γ cX7_isTalker RX7 2 { frames := 0, cells := 0, slots := 0, locals := 0 } := cx
  show G Γ σ0 0 0 0 [some (.ref h), some (.int (iI i))] []
  have hF : mFr ad h σ0 σ0 := mFr.rf
  refine z_il_2_1 (pc := 0) cx dX7_isTalker_0 ?_
  refine z_if_lt (pc := 1) (tgt := 18) cx (by omega) (by decide) dX7_isTalker_1 (fun c_1 => ?_) (fun c_1 => ?_)
  · skip
    refine z_iconst (pc := 18) cx dX7_isTalker_18 ?_
    exact (z_retb (pc := 19) (b := isTk S i) cx rx (by decide) (by decide) dX7_isTalker_19 (by unfold isTk; simp only [bz, decide_eq_true_eq]; split <;> omega) ⟨rfl, hm, hF⟩)
  · skip
    refine z_il_2_1 (pc := 4) cx dX7_isTalker_4 ?_
    refine z_al_2_0 (pc := 5) cx dX7_isTalker_5 ?_
    refine m_get (pc := 6) cx hm fl_X7_25 rfl dX7_isTalker_6 ?_
    refine z_iconst (pc := 9) cx dX7_isTalker_9 ?_
    refine m_iald (pc := 10) (k := 7) (L := 3) cx hm ⟨rfl, rfl, by decide, by decide⟩ dX7_isTalker_10 (by omega) ?_
    refine z_icmp_ge (pc := 11) (tgt := 18) cx (by omega) (by decide) dX7_isTalker_11 (fun c_11 => ?_) (fun c_11 => ?_)
    · skip
      refine z_iconst (pc := 18) cx dX7_isTalker_18 ?_
      exact (z_retb (pc := 19) (b := isTk S i) cx rx (by decide) (by decide) dX7_isTalker_19 (by unfold isTk; simp only [bz, decide_eq_true_eq]; split <;> omega) ⟨rfl, hm, hF⟩)
    · skip
      refine z_iconst (pc := 14) cx dX7_isTalker_14 ?_
      refine g_goto (pc := 15) (tgt := 19) cx (by decide) dX7_isTalker_15 ?_
      exact (z_retb (pc := 19) (b := isTk S i) cx rx (by decide) (by decide) dX7_isTalker_19 (by unfold isTk; simp only [bz, decide_eq_true_eq]; split <;> omega) ⟨rfl, hm, hF⟩)

set_option maxRecDepth 100000 in
set_option maxHeartbeats 4000000 in
theorem c_X7_isLost {lc : Launch} {dA : Nat → ClassId} {ad : Nat → Nat} {σ0 : hS} {h : Nat} {S : mS} (hm : mat dA ad σ0 h S) {f : Int} (hf : mFm S f) (ht : mTm S) (hc : ∀ l, 0 ≤ l → l < 6 → 0 ≤ S 26 l ∧ S 26 l ≤ 1) : gM lc dA yX7_isLost (.code yX7_isLost cX7_isLost 4 (some .boolean)) { frames := 2, cells := 0, slots := 0, locals := 47 } σ0 [.ref h, .int (iI f)] (mP dA ad h σ0 (some (.int (iI (bz (lostF S f))))) (S)) nX := by
  refine gM_body (by decide +kernel) (by simp [Value.category]) (Nat.le_of_ble_eq_true rfl) (fun Γ hdA cx rx nx => ?_)
  subst hdA
  have cx : CX lc Γ cX7_isLost RX7 4 { frames := 2, cells := 0, slots := 0, locals := 47 } := cx
  show G Γ σ0 0 0 0 [some (.ref h), some (.int (iI f)), none, none] []
  have hF : mFr ad h σ0 σ0 := mFr.rf
  obtain ⟨f1, f2, f3, f4⟩ := id hf
  have hla := laF_le S (30 + 3 * S 24 f)
  unfold mTm at ht
  refine z_iconst (pc := 0) cx dX7_isLost_0 ?_
  refine z_is_4_2 (pc := 1) cx dX7_isLost_1 ?_
  refine z_iconst (pc := 2) cx dX7_isLost_2 ?_
  refine z_is_4_3 (pc := 3) cx dX7_isLost_3 ?_
  have J4 : ∀ (n j : Nat) (σ : hS), j + n = laF S (30 + 3 * S 24 f) + 1 → mat (gdA Γ) ad σ h S → mFr ad h σ0 σ → G Γ σ 0 0 4 [some (.ref h), some (.int (iI (f))), some (.int (iI (bz (anyN j (lostJ S f))))), some (.int (iI ((j : Int))))] [] := by
    intro n
    induction n using Nat.strongRecOn with
    | _ n ih =>
    intro j σ hn hm hF
    refine z_il_4_3 (pc := 4) cx dX7_isLost_4 ?_
    refine z_al_4_0 (pc := 5) cx dX7_isLost_5 ?_
    refine z_al_4_0 (pc := 6) cx dX7_isLost_6 ?_
    refine m_get (pc := 7) cx hm fl_X7_68 rfl dX7_isLost_7 ?_
    refine z_il_4_1 (pc := 10) cx dX7_isLost_10 ?_
    refine m_iald (pc := 11) (k := 24) (L := 64) cx hm ⟨rfl, rfl, by decide, by decide⟩ dX7_isLost_11 (by omega) ?_
    refine m_callV (pc := 12) cx lk_X7_150 (c_X7_lastOf hm f2 f4) hm hF rfl gy_X7_lastOf ⟨⟨by decide, by decide⟩, by decide, by decide⟩ ⟨rfl, rfl⟩ rfl rfl (Nat.le_of_ble_eq_true rfl) dX7_isLost_12 ?_
    intro σ hm hF
    show G Γ _ _ _ 15 _ (.int (iI _) :: _)
    refine z_icmp_gt (pc := 15) (tgt := 66) cx (by omega) (by decide) dX7_isLost_15 (fun c_15 => ?_) (fun c_15 => ?_)
    · obtain rfl : j = laF S (30 + 3 * S 24 f) + 1 := by omega
      refine z_il_4_2 (pc := 66) cx dX7_isLost_66 ?_
      exact (z_retb (pc := 67) (b := lostF S f) cx rx (by decide) (by decide) dX7_isLost_67 rfl ⟨rfl, hm, hF⟩)
    · skip
      have J59 : ∀ (e : Int) (σ : hS), e = bz (anyN (j + 1) (lostJ S f)) → mat (gdA Γ) ad σ h S → mFr ad h σ0 σ → G Γ σ 0 0 59 [some (.ref h), some (.int (iI (f))), some (.int (iI (bz (anyN j (lostJ S f))))), some (.int (iI ((j : Int))))] [.int (iI e)] := by
        intro e σ he hm hF
        subst he
        refine z_is_4_2 (pc := 59) cx dX7_isLost_59 ?_
        refine z_ii_4_3 (pc := 60) cx dX7_isLost_60 ?_
        refine g_goto (pc := 63) (tgt := 4) cx (by decide) dX7_isLost_63 ?_
        exact ih (n - 1) (by omega) (j + 1) σ (by omega) hm hF
      have hjl : j ≤ laF S (30 + 3 * S 24 f) := by omega
      have hpl := mSi_path f4 hjl
      have hbr := begO_r hf (j := j) (by omega)
      have hcr := hc _ hpl.1 hpl.2
      refine z_il_4_2 (pc := 18) cx dX7_isLost_18 ?_
      refine z_if_ne (pc := 19) (tgt := 54) cx (by have := bz_r (anyN j (lostJ S f)); omega) (by decide) dX7_isLost_19 (fun c_19 => ?_) (fun c_19 => ?_)
      · skip
        refine z_iconst (pc := 54) cx dX7_isLost_54 ?_
        refine g_goto (pc := 55) (tgt := 59) cx (by decide) dX7_isLost_55 ?_
        exact J59 _ σ (by
          rw [anyN]
          first
          | (rw [bz_n0.mp c_19]; rfl)
          | (rw [bz_0.mp c_19, lostJ, decide_eq_true c_32, decide_eq_true c_51]; rfl)) hm hF
      · skip
        refine z_al_4_0 (pc := 22) cx dX7_isLost_22 ?_
        refine z_il_4_1 (pc := 23) cx dX7_isLost_23 ?_
        refine z_il_4_3 (pc := 24) cx dX7_isLost_24 ?_
        refine m_callV (pc := 25) cx lk_X7_144 (c_X7_beginOf hm hf (j := j) (by omega)) hm hF rfl gy_X7_beginOf ⟨⟨by decide, by decide⟩, by decide, by decide⟩ ⟨rfl, rfl⟩ rfl rfl (Nat.le_of_ble_eq_true rfl) dX7_isLost_25 ?_
        intro σ hm hF
        show G Γ _ _ _ 28 _ (.int (iI _) :: _)
        refine z_al_4_0 (pc := 28) cx dX7_isLost_28 ?_
        refine m_get (pc := 29) cx hm fl_X7_141 rfl dX7_isLost_29 ?_
        refine z_icmp_ne (pc := 32) (tgt := 58) cx (by omega) (by decide) dX7_isLost_32 (fun c_32 => ?_) (fun c_32 => ?_)
        · skip
          refine z_iconst (pc := 58) cx dX7_isLost_58 ?_
          exact J59 _ σ (by
            rw [anyN, bz_0.mp c_19, lostJ]
            first
            | (rw [decide_eq_false c_32]; rfl)
            | (rw [decide_eq_true c_32, decide_eq_false (fun q => q c_51)]; rfl)) hm hF
        · skip
          refine z_al_4_0 (pc := 35) cx dX7_isLost_35 ?_
          refine m_get (pc := 36) cx hm fl_X7_74 rfl dX7_isLost_36 ?_
          refine z_al_4_0 (pc := 39) cx dX7_isLost_39 ?_
          refine z_al_4_0 (pc := 40) cx dX7_isLost_40 ?_
          refine m_get (pc := 41) cx hm fl_X7_68 rfl dX7_isLost_41 ?_
          refine z_il_4_1 (pc := 44) cx dX7_isLost_44 ?_
          refine m_iald (pc := 45) (k := 24) (L := 64) cx hm ⟨rfl, rfl, by decide, by decide⟩ dX7_isLost_45 (by omega) ?_
          refine z_il_4_3 (pc := 46) cx dX7_isLost_46 ?_
          refine m_callV (pc := 47) cx lk_X7_147 (c_X7_linkOf hm (j := j) f2 (by omega)) hm hF rfl gy_X7_linkOf ⟨⟨by decide, by decide⟩, by decide, by decide⟩ ⟨rfl, rfl⟩ rfl rfl (Nat.le_of_ble_eq_true rfl) dX7_isLost_47 ?_
          intro σ hm hF
          show G Γ _ _ _ 50 _ (.int (iI _) :: _)
          refine m_zald (pc := 50) (k := 26) (L := 6) cx hm ⟨rfl, rfl, by decide, by decide⟩ dX7_isLost_50 (by omega) ?_
          refine z_if_eq (pc := 51) (tgt := 58) cx (by omega) (by decide) dX7_isLost_51 (fun c_51 => ?_) (fun c_51 => ?_)
          · skip
            refine z_iconst (pc := 58) cx dX7_isLost_58 ?_
            exact J59 _ σ (by
              rw [anyN, bz_0.mp c_19, lostJ]
              first
              | (rw [decide_eq_false c_32]; rfl)
              | (rw [decide_eq_true c_32, decide_eq_false (fun q => q c_51)]; rfl)) hm hF
          · skip
            refine z_iconst (pc := 54) cx dX7_isLost_54 ?_
            refine g_goto (pc := 55) (tgt := 59) cx (by decide) dX7_isLost_55 ?_
            exact J59 _ σ (by
              rw [anyN]
              first
              | (rw [bz_n0.mp c_19]; rfl)
              | (rw [bz_0.mp c_19, lostJ, decide_eq_true c_32, decide_eq_true c_51]; rfl)) hm hF
  exact J4 (laF S (30 + 3 * S 24 f) + 1) 0 σ0 (by omega) hm hF

set_option maxRecDepth 100000 in
set_option maxHeartbeats 4000000 in
theorem c_X7_isHit {lc : Launch} {dA : Nat → ClassId} {ad : Nat → Nat} {σ0 : hS} {h : Nat} {S : mS} (hm : mat dA ad σ0 h S) {f w : Int} (hf : mFm S f) (ht : mTm S) (hw : 0 ≤ w ∧ w < 6) : gM lc dA yX7_isHit (.code yX7_isHit cX7_isHit 5 (some .boolean)) { frames := 3, cells := 0, slots := 0, locals := 70 } σ0 [.ref h, .int (iI f), .int (iI w)] (mP dA ad h σ0 (some (.int (iI (bz (hitF S f w))))) (S)) nX := by
  refine gM_body (by decide +kernel) (by simp [Value.category]) (Nat.le_of_ble_eq_true rfl) (fun Γ hdA cx rx nx => ?_)
  subst hdA
  have cx : CX lc Γ cX7_isHit RX7 5 { frames := 3, cells := 0, slots := 0, locals := 70 } := cx
  show G Γ σ0 0 0 0 [some (.ref h), some (.int (iI f)), some (.int (iI w)), none, none] []
  have hF : mFr ad h σ0 σ0 := mFr.rf
  obtain ⟨f1, f2, f3, f4⟩ := id hf
  have hla := laF_le S (30 + 3 * S 24 f)
  unfold mTm at ht
  refine z_iconst (pc := 0) cx dX7_isHit_0 ?_
  refine z_is_5_3 (pc := 1) cx dX7_isHit_1 ?_
  refine z_iconst (pc := 2) cx dX7_isHit_2 ?_
  refine z_is_5_4 (pc := 3) cx dX7_isHit_3 ?_
  have J5 : ∀ (n j : Nat) (σ : hS), j + n = laF S (30 + 3 * S 24 f) + 1 → mat (gdA Γ) ad σ h S → mFr ad h σ0 σ → G Γ σ 0 0 5 [some (.ref h), some (.int (iI (f))), some (.int (iI (w))), some (.int (iI (bz (anyN j (hitJ S f w))))), some (.int (iI ((j : Int))))] [] := by
    intro n
    induction n using Nat.strongRecOn with
    | _ n ih =>
    intro j σ hn hm hF
    refine z_il_5_4 (pc := 5) cx dX7_isHit_5 ?_
    refine z_al_5_0 (pc := 7) cx dX7_isHit_7 ?_
    refine z_al_5_0 (pc := 8) cx dX7_isHit_8 ?_
    refine m_get (pc := 9) cx hm fl_X7_68 rfl dX7_isHit_9 ?_
    refine z_il_5_1 (pc := 12) cx dX7_isHit_12 ?_
    refine m_iald (pc := 13) (k := 24) (L := 64) cx hm ⟨rfl, rfl, by decide, by decide⟩ dX7_isHit_13 (by omega) ?_
    refine m_callV (pc := 14) cx lk_X7_150 (c_X7_lastOf hm f2 f4) hm hF rfl gy_X7_lastOf ⟨⟨by decide, by decide⟩, by decide, by decide⟩ ⟨rfl, rfl⟩ rfl rfl (Nat.le_of_ble_eq_true rfl) dX7_isHit_14 ?_
    intro σ hm hF
    show G Γ _ _ _ 17 _ (.int (iI _) :: _)
    refine z_icmp_gt (pc := 17) (tgt := 80) cx (by omega) (by decide) dX7_isHit_17 (fun c_17 => ?_) (fun c_17 => ?_)
    · obtain rfl : j = laF S (30 + 3 * S 24 f) + 1 := by omega
      refine z_il_5_3 (pc := 80) cx dX7_isHit_80 ?_
      exact (z_retb (pc := 81) (b := hitF S f w) cx rx (by decide) (by decide) dX7_isHit_81 rfl ⟨rfl, hm, hF⟩)
    · skip
      have J73 : ∀ (e : Int) (σ : hS), e = bz (anyN (j + 1) (hitJ S f w)) → mat (gdA Γ) ad σ h S → mFr ad h σ0 σ → G Γ σ 0 0 73 [some (.ref h), some (.int (iI (f))), some (.int (iI (w))), some (.int (iI (bz (anyN j (hitJ S f w))))), some (.int (iI ((j : Int))))] [.int (iI e)] := by
        intro e σ he hm hF
        subst he
        refine z_is_5_3 (pc := 73) cx dX7_isHit_73 ?_
        refine z_ii_5_4 (pc := 74) cx dX7_isHit_74 ?_
        refine g_goto (pc := 77) (tgt := 5) cx (by decide) dX7_isHit_77 ?_
        exact ih (n - 1) (by omega) (j + 1) σ (by omega) hm hF
      have hjl : j ≤ laF S (30 + 3 * S 24 f) := by omega
      have hpl := mSi_path f4 hjl
      have hbr := begO_r hf (j := j) (by omega)
      have htr := thrO_r hf (j := j) (by omega)
      refine z_il_5_3 (pc := 20) cx dX7_isHit_20 ?_
      refine z_if_ne (pc := 21) (tgt := 68) cx (by have := bz_r (anyN j (hitJ S f w)); omega) (by decide) dX7_isHit_21 (fun c_21 => ?_) (fun c_21 => ?_)
      · skip
        refine z_iconst (pc := 68) cx dX7_isHit_68 ?_
        refine g_goto (pc := 69) (tgt := 73) cx (by decide) dX7_isHit_69 ?_
        exact J73 _ σ (by
          rw [anyN]
          first
          | (rw [bz_n0.mp c_21]; rfl)
          | (rw [bz_0.mp c_21, hitJ, decide_eq_true c_37, decide_eq_true c_51, decide_eq_true c_65]; rfl)) hm hF
      · skip
        refine z_al_5_0 (pc := 24) cx dX7_isHit_24 ?_
        refine z_al_5_0 (pc := 25) cx dX7_isHit_25 ?_
        refine m_get (pc := 26) cx hm fl_X7_68 rfl dX7_isHit_26 ?_
        refine z_il_5_1 (pc := 29) cx dX7_isHit_29 ?_
        refine m_iald (pc := 30) (k := 24) (L := 64) cx hm ⟨rfl, rfl, by decide, by decide⟩ dX7_isHit_30 (by omega) ?_
        refine z_il_5_4 (pc := 31) cx dX7_isHit_31 ?_
        refine m_callV (pc := 33) cx lk_X7_147 (c_X7_linkOf hm (j := j) f2 (by omega)) hm hF rfl gy_X7_linkOf ⟨⟨by decide, by decide⟩, by decide, by decide⟩ ⟨rfl, rfl⟩ rfl rfl (Nat.le_of_ble_eq_true rfl) dX7_isHit_33 ?_
        intro σ hm hF
        show G Γ _ _ _ 36 _ (.int (iI _) :: _)
        refine z_il_5_2 (pc := 36) cx dX7_isHit_36 ?_
        refine z_icmp_ne (pc := 37) (tgt := 72) cx (by omega) (by decide) dX7_isHit_37 (fun c_37 => ?_) (fun c_37 => ?_)
        · skip
          refine z_iconst (pc := 72) cx dX7_isHit_72 ?_
          exact J73 _ σ (by
            rw [anyN, bz_0.mp c_21, hitJ]
            first
            | (rw [decide_eq_false c_37]; rfl)
            | (rw [decide_eq_false (show ¬ begO S f j < S 15 0 by omega), Bool.and_false]; rfl)
            | (rw [decide_eq_false (show ¬ S 15 0 < thrO S f j by omega), Bool.and_false]; rfl)) hm hF
        · skip
          refine z_al_5_0 (pc := 40) cx dX7_isHit_40 ?_
          refine z_il_5_1 (pc := 41) cx dX7_isHit_41 ?_
          refine z_il_5_4 (pc := 42) cx dX7_isHit_42 ?_
          refine m_callV (pc := 44) cx lk_X7_144 (c_X7_beginOf hm hf (j := j) (by omega)) hm hF rfl gy_X7_beginOf ⟨⟨by decide, by decide⟩, by decide, by decide⟩ ⟨rfl, rfl⟩ rfl rfl (Nat.le_of_ble_eq_true rfl) dX7_isHit_44 ?_
          intro σ hm hF
          show G Γ _ _ _ 47 _ (.int (iI _) :: _)
          refine z_al_5_0 (pc := 47) cx dX7_isHit_47 ?_
          refine m_get (pc := 48) cx hm fl_X7_141 rfl dX7_isHit_48 ?_
          refine z_icmp_ge (pc := 51) (tgt := 72) cx (by omega) (by decide) dX7_isHit_51 (fun c_51 => ?_) (fun c_51 => ?_)
          · skip
            refine z_iconst (pc := 72) cx dX7_isHit_72 ?_
            exact J73 _ σ (by
              rw [anyN, bz_0.mp c_21, hitJ]
              first
              | (rw [decide_eq_false c_37]; rfl)
              | (rw [decide_eq_false (show ¬ begO S f j < S 15 0 by omega), Bool.and_false]; rfl)
              | (rw [decide_eq_false (show ¬ S 15 0 < thrO S f j by omega), Bool.and_false]; rfl)) hm hF
          · skip
            refine z_al_5_0 (pc := 54) cx dX7_isHit_54 ?_
            refine z_il_5_1 (pc := 55) cx dX7_isHit_55 ?_
            refine z_il_5_4 (pc := 56) cx dX7_isHit_56 ?_
            refine m_callV (pc := 58) cx lk_X7_161 (c_X7_throughOf hm hf (j := j) (by omega)) hm hF rfl gy_X7_throughOf ⟨⟨by decide, by decide⟩, by decide, by decide⟩ ⟨rfl, rfl⟩ rfl rfl (Nat.le_of_ble_eq_true rfl) dX7_isHit_58 ?_
            intro σ hm hF
            show G Γ _ _ _ 61 _ (.int (iI _) :: _)
            refine z_al_5_0 (pc := 61) cx dX7_isHit_61 ?_
            refine m_get (pc := 62) cx hm fl_X7_141 rfl dX7_isHit_62 ?_
            refine z_icmp_le (pc := 65) (tgt := 72) cx (by omega) (by decide) dX7_isHit_65 (fun c_65 => ?_) (fun c_65 => ?_)
            · skip
              refine z_iconst (pc := 72) cx dX7_isHit_72 ?_
              exact J73 _ σ (by
                rw [anyN, bz_0.mp c_21, hitJ]
                first
                | (rw [decide_eq_false c_37]; rfl)
                | (rw [decide_eq_false (show ¬ begO S f j < S 15 0 by omega), Bool.and_false]; rfl)
                | (rw [decide_eq_false (show ¬ S 15 0 < thrO S f j by omega), Bool.and_false]; rfl)) hm hF
            · skip
              refine z_iconst (pc := 68) cx dX7_isHit_68 ?_
              refine g_goto (pc := 69) (tgt := 73) cx (by decide) dX7_isHit_69 ?_
              exact J73 _ σ (by
                rw [anyN]
                first
                | (rw [bz_n0.mp c_21]; rfl)
                | (rw [bz_0.mp c_21, hitJ, decide_eq_true c_37, decide_eq_true c_51, decide_eq_true c_65]; rfl)) hm hF
  exact J5 (laF S (30 + 3 * S 24 f) + 1) 0 σ0 (by omega) hm hF

set_option maxRecDepth 100000 in
set_option maxHeartbeats 4000000 in
theorem c_X7_isFree {lc : Launch} {dA : Nat → ClassId} {ad : Nat → Nat} {σ0 : hS} {h : Nat} {S : mS} (hm : mat dA ad σ0 h S) {w : Int} {m : Nat} (hw : 0 ≤ w ∧ w < 6) (hn : m ≤ 8) (ht : mTm S) (hs : mSch S 2) : gM lc dA yX7_isFree (.code yX7_isFree cX7_isFree 5 (some .boolean)) { frames := 2, cells := 0, slots := 0, locals := 51 } σ0 [.ref h, .int (iI w), .int (iI (m : Int))] (mP dA ad h σ0 (some (.int (iI (bz (freeF S w m))))) (S)) nX := by
  refine gM_body (by decide +kernel) (by simp [Value.category]) (Nat.le_of_ble_eq_true rfl) (fun Γ hdA cx rx nx => ?_)
  subst hdA
  have cx : CX lc Γ cX7_isFree RX7 5 { frames := 2, cells := 0, slots := 0, locals := 51 } := cx
  show G Γ σ0 0 0 0 [some (.ref h), some (.int (iI w)), some (.int (iI (m : Int))), none, none] []
  have hF : mFr ad h σ0 σ0 := mFr.rf
  unfold mTm at ht
  have hs1 := hs.1
  have J52 : ∀ (e : Int) (x4 : Option Value) (σ : hS), e = bz (freeF S w m) → mat (gdA Γ) ad σ h S → mFr ad h σ0 σ → G Γ σ 0 0 52 [some (.ref h), some (.int (iI (w))), some (.int (iI ((m : Int)))), some (.int (iI (e))), x4] [] := by
    intro e x4 σ he hm hF
    subst he
    refine z_il_5_3 (pc := 52) cx dX7_isFree_52 ?_
    exact (z_retb (pc := 53) (b := freeF S w m) cx rx (by decide) (by decide) dX7_isFree_53 rfl ⟨rfl, hm, hF⟩)
  refine z_iconst (pc := 0) cx dX7_isFree_0 ?_
  refine z_is_5_3 (pc := 1) cx dX7_isFree_1 ?_
  refine z_iconst (pc := 2) cx dX7_isFree_2 ?_
  refine z_is_5_4 (pc := 3) cx dX7_isFree_3 ?_
  have J5 : ∀ (n k : Nat) (σ : hS), k + n = m → (k = 0 ∨ 0 ≤ S 7 2) → mat (gdA Γ) ad σ h S → mFr ad h σ0 σ → G Γ σ 0 0 5 [some (.ref h), some (.int (iI (w))), some (.int (iI ((m : Int)))), some (.int (iI (bz (allN k (freeK S w))))), some (.int (iI ((k : Int))))] [] := by
    intro n
    induction n using Nat.strongRecOn with
    | _ n ih =>
    intro k σ hkn hk0 hm hF
    refine z_il_5_4 (pc := 5) cx dX7_isFree_5 ?_
    refine z_il_5_2 (pc := 7) cx dX7_isFree_7 ?_
    refine z_icmp_ge (pc := 8) (tgt := 52) cx (by omega) (by decide) dX7_isFree_8 (fun c_8 => ?_) (fun c_8 => ?_)
    · skip
      exact J52 _ _ σ (by
        obtain rfl : k = m := by omega
        unfold freeF
        rcases hk0 with q | q
        · subst q; simp [allN]
        · rw [decide_eq_false (show ¬ S 7 2 < 0 by omega)]; rfl) hm hF
    · skip
      refine z_al_5_0 (pc := 11) cx dX7_isFree_11 ?_
      refine m_get (pc := 12) cx hm fl_X7_25 rfl dX7_isFree_12 ?_
      refine z_iconst (pc := 15) cx dX7_isFree_15 ?_
      refine m_iald (pc := 16) (k := 7) (L := 3) cx hm ⟨rfl, rfl, by decide, by decide⟩ dX7_isFree_16 (by omega) ?_
      refine z_if_lt (pc := 17) (tgt := 52) cx (by omega) (by decide) dX7_isFree_17 (fun c_17 => ?_) (fun c_17 => ?_)
      · skip
        exact J52 _ _ σ (by
          obtain rfl : k = 0 := by omega
          unfold freeF
          rw [decide_eq_true c_17]; rfl) hm hF
      · skip
        have J45 : ∀ (e : Int) (σ : hS), e = bz (allN (k + 1) (freeK S w)) → mat (gdA Γ) ad σ h S → mFr ad h σ0 σ → G Γ σ 0 0 45 [some (.ref h), some (.int (iI (w))), some (.int (iI ((m : Int)))), some (.int (iI (bz (allN k (freeK S w))))), some (.int (iI ((k : Int))))] [.int (iI e)] := by
          intro e σ he hm hF
          subst he
          refine z_is_5_3 (pc := 45) cx dX7_isFree_45 ?_
          refine z_ii_5_4 (pc := 46) cx dX7_isFree_46 ?_
          refine g_goto (pc := 49) (tgt := 5) cx (by decide) dX7_isFree_49 ?_
          exact ih (n - 1) (by omega) (k + 1) σ (by omega) (Or.inr c_17) hm hF
        refine z_il_5_3 (pc := 20) cx dX7_isFree_20 ?_
        refine z_if_eq (pc := 21) (tgt := 44) cx (by have := bz_r (allN k (freeK S w)); omega) (by decide) dX7_isFree_21 (fun c_21 => ?_) (fun c_21 => ?_)
        · skip
          refine z_iconst (pc := 44) cx dX7_isFree_44 ?_
          exact J45 _ σ (by
            rw [allN]
            first
            | (rw [bz_0.mp c_21]; rfl)
            | (rw [bz_n0.mp c_21, freeK, decide_eq_false (show ¬ spF S 2 w (S 15 0 + (k : Int)) < 0 by omega)]; rfl)) hm hF
        · skip
          refine z_al_5_0 (pc := 24) cx dX7_isFree_24 ?_
          refine z_iconst (pc := 25) cx dX7_isFree_25 ?_
          refine z_il_5_1 (pc := 26) cx dX7_isFree_26 ?_
          refine z_al_5_0 (pc := 27) cx dX7_isFree_27 ?_
          refine m_get (pc := 28) cx hm fl_X7_141 rfl dX7_isFree_28 ?_
          refine z_il_5_4 (pc := 31) cx dX7_isFree_31 ?_
          refine z_iadd (pc := 33) cx dX7_isFree_33 ?_
          refine m_callV (pc := 34) cx lk_X7_131 (c_X7_spanOf hm (k := 2) (by omega) hs (by omega) (by omega)) hm hF rfl gy_X7_spanOf ⟨⟨by decide, by decide⟩, by decide, by decide⟩ ⟨rfl, rfl⟩ rfl rfl (Nat.le_of_ble_eq_true rfl) dX7_isFree_34 ?_
          intro σ hm hF
          show G Γ _ _ _ 37 _ (.int (iI _) :: _)
          have hsr := fstN_r (n := (S 7 2).toNat) (f := spI S 2 w (S 15 0 + (k : Int)))
          have hsr2 : -1 ≤ spF S 2 w (S 15 0 + (k : Int)) ∧ spF S 2 w (S 15 0 + (k : Int)) ≤ 5 := by unfold spF; omega
          refine z_if_ge (pc := 37) (tgt := 44) cx (by omega) (by decide) dX7_isFree_37 (fun c_37 => ?_) (fun c_37 => ?_)
          · skip
            refine z_iconst (pc := 44) cx dX7_isFree_44 ?_
            exact J45 _ σ (by
              rw [allN]
              first
              | (rw [bz_0.mp c_21]; rfl)
              | (rw [bz_n0.mp c_21, freeK, decide_eq_false (show ¬ spF S 2 w (S 15 0 + (k : Int)) < 0 by omega)]; rfl)) hm hF
          · skip
            refine z_iconst (pc := 40) cx dX7_isFree_40 ?_
            refine g_goto (pc := 41) (tgt := 45) cx (by decide) dX7_isFree_41 ?_
            exact J45 _ σ (by rw [allN, bz_n0.mp c_21, freeK, decide_eq_true c_37]; rfl) hm hF
  exact J5 m 0 σ0 (by omega) (Or.inl rfl) hm hF

set_option maxRecDepth 100000 in
set_option maxHeartbeats 4000000 in
theorem c_X7_on {lc : Launch} {dA : Nat → ClassId} {ad : Nat → Nat} {σ0 : hS} {h : Nat} {S : mS} (hm : mat dA ad σ0 h S) {w : Int} (hw : 0 ≤ w ∧ w < 6) (hn : 0 ≤ S 23 0 ∧ S 23 0 ≤ 64) (hff : ∀ f, 0 ≤ f → f < S 23 0 → mFm S f) (ht : mTm S) (hbu : 0 ≤ S 29 w ∧ S 29 w ≤ 8) : gM lc dA yX7_on (.code yX7_on cX7_on 5 (some .int)) { frames := 2, cells := 0, slots := 0, locals := 47 } σ0 [.ref h, .int (iI w)] (mP dA ad h σ0 (some (.int (iI (onF S w)))) (S)) nX := by
  refine gM_body (by decide +kernel) (by simp [Value.category]) (Nat.le_of_ble_eq_true rfl) (fun Γ hdA cx rx nx => ?_)
  subst hdA
  have cx : CX lc Γ cX7_on RX7 5 { frames := 2, cells := 0, slots := 0, locals := 47 } := cx
  show G Γ σ0 0 0 0 [some (.ref h), some (.int (iI w)), none, none, none] []
  have hF : mFr ad h σ0 σ0 := mFr.rf
  unfold mTm at ht
  refine z_iconst (pc := 0) cx dX7_on_0 ?_
  refine z_is_5_2 (pc := 1) cx dX7_on_1 ?_
  have J2 : ∀ (n f : Nat) (x3 x4 : Option Value) (σ : hS), f + n = (S 23 0).toNat → (∀ f' : Nat, f' < f → onFr S w f' = false) → mat (gdA Γ) ad σ h S → mFr ad h σ0 σ → G Γ σ 0 0 2 [some (.ref h), some (.int (iI (w))), some (.int (iI ((f : Int)))), x3, x4] [] := by
    intro n
    induction n using Nat.strongRecOn with
    | _ n ih =>
    intro f x3 x4 σ hfn hno hm hF
    refine z_il_5_2 (pc := 2) cx dX7_on_2 ?_
    refine z_al_5_0 (pc := 3) cx dX7_on_3 ?_
    refine m_get (pc := 4) cx hm fl_X7_138 rfl dX7_on_4 ?_
    refine z_icmp_ge (pc := 7) (tgt := 101) cx (by omega) (by decide) dX7_on_7 (fun c_7 => ?_) (fun c_7 => ?_)
    · skip
      refine z_al_5_0 (pc := 101) cx dX7_on_101 ?_
      refine m_get (pc := 102) cx hm fl_X7_83 rfl dX7_on_102 ?_
      refine z_il_5_1 (pc := 105) cx dX7_on_105 ?_
      refine m_iald (pc := 106) (k := 29) (L := 6) cx hm ⟨rfl, rfl, by decide, by decide⟩ dX7_on_106 (by omega) ?_
      refine z_if_le (pc := 107) (tgt := 114) cx (by omega) (by decide) dX7_on_107 (fun c_107 => ?_) (fun c_107 => ?_)
      · skip
        refine z_iconst (pc := 114) cx dX7_on_114 ?_
        have eh := fstN_none (n := (S 23 0).toNat) (f := onFr S w) (fun f' q => hno f' (by omega))
        exact z_ret (pc := 115) cx rx (by decide) (by decide) dX7_on_115 ⟨by rw [onF, eh, if_neg (by omega)]; first | rw [if_pos (by omega)] | rw [if_neg (by omega)], hm, hF⟩
      · skip
        refine z_iconst (pc := 110) cx dX7_on_110 ?_
        refine g_goto (pc := 111) (tgt := 115) cx (by decide) dX7_on_111 ?_
        have eh := fstN_none (n := (S 23 0).toNat) (f := onFr S w) (fun f' q => hno f' (by omega))
        exact z_ret (pc := 115) cx rx (by decide) (by decide) dX7_on_115 ⟨by rw [onF, eh, if_neg (by omega)]; first | rw [if_pos (by omega)] | rw [if_neg (by omega)], hm, hF⟩
    · skip
      have hf := hff (f : Int) (by omega) (by omega)
      obtain ⟨f1, f2, f3, f4⟩ := id hf
      have hla := laF_le S (30 + 3 * S 24 (f : Int))
      have g9 := f4.2.1
      refine z_iconst (pc := 10) cx dX7_on_10 ?_
      refine z_is_5_3 (pc := 11) cx dX7_on_11 ?_
      have J12 : ∀ (n2 j : Nat) (x4 : Option Value) (σ : hS), j + n2 = laF S (30 + 3 * S 24 (f : Int)) + 1 → (∀ j' : Nat, j' < j → onJ S w (f : Int) j' = false) → mat (gdA Γ) ad σ h S → mFr ad h σ0 σ → G Γ σ 0 0 12 [some (.ref h), some (.int (iI (w))), some (.int (iI ((f : Int)))), some (.int (iI ((j : Int)))), x4] [] := by
        intro n2
        induction n2 using Nat.strongRecOn with
        | _ n2 ih2 =>
        intro j x4 σ hn2 hno2 hm hF
        refine z_il_5_3 (pc := 12) cx dX7_on_12 ?_
        refine z_al_5_0 (pc := 13) cx dX7_on_13 ?_
        refine z_al_5_0 (pc := 14) cx dX7_on_14 ?_
        refine m_get (pc := 15) cx hm fl_X7_68 rfl dX7_on_15 ?_
        refine z_il_5_2 (pc := 18) cx dX7_on_18 ?_
        refine m_iald (pc := 19) (k := 24) (L := 64) cx hm ⟨rfl, rfl, by decide, by decide⟩ dX7_on_19 (by omega) ?_
        refine m_callV (pc := 20) cx lk_X7_150 (c_X7_lastOf hm f2 f4) hm hF rfl gy_X7_lastOf ⟨⟨by decide, by decide⟩, by decide, by decide⟩ ⟨rfl, rfl⟩ rfl rfl (Nat.le_of_ble_eq_true rfl) dX7_on_20 ?_
        intro σ hm hF
        show G Γ _ _ _ 23 _ (.int (iI _) :: _)
        refine z_icmp_gt (pc := 23) (tgt := 95) cx (by omega) (by decide) dX7_on_23 (fun c_23 => ?_) (fun c_23 => ?_)
        · skip
          refine z_ii_5_2 (pc := 95) cx dX7_on_95 ?_
          refine g_goto (pc := 98) (tgt := 2) cx (by decide) dX7_on_98 ?_
          exact ih (n - 1) (by omega) (f + 1) _ _ σ (by omega) (fun f' q => (Nat.lt_succ_iff_lt_or_eq.mp q).elim (hno f') (fun q => by rw [q]; exact anyN_0 (fun j hj => hno2 j (by omega)))) hm hF
        · skip
          have hjl : j ≤ laF S (30 + 3 * S 24 (f : Int)) := by omega
          have hpl := mSi_path f4 hjl
          have hbr := begO_r hf (j := j) (by omega)
          refine z_al_5_0 (pc := 26) cx dX7_on_26 ?_
          refine z_il_5_2 (pc := 27) cx dX7_on_27 ?_
          refine z_il_5_3 (pc := 28) cx dX7_on_28 ?_
          refine m_callV (pc := 29) cx lk_X7_144 (c_X7_beginOf hm hf (j := j) (by omega)) hm hF rfl gy_X7_beginOf ⟨⟨by decide, by decide⟩, by decide, by decide⟩ ⟨rfl, rfl⟩ rfl rfl (Nat.le_of_ble_eq_true rfl) dX7_on_29 ?_
          intro σ hm hF
          show G Γ _ _ _ 32 _ (.int (iI _) :: _)
          refine z_is_5_4 (pc := 32) cx dX7_on_32 ?_
          refine z_al_5_0 (pc := 34) cx dX7_on_34 ?_
          refine z_al_5_0 (pc := 35) cx dX7_on_35 ?_
          refine m_get (pc := 36) cx hm fl_X7_68 rfl dX7_on_36 ?_
          refine z_il_5_2 (pc := 39) cx dX7_on_39 ?_
          refine m_iald (pc := 40) (k := 24) (L := 64) cx hm ⟨rfl, rfl, by decide, by decide⟩ dX7_on_40 (by omega) ?_
          refine z_il_5_3 (pc := 41) cx dX7_on_41 ?_
          refine m_callV (pc := 42) cx lk_X7_147 (c_X7_linkOf hm (j := j) f2 (by omega)) hm hF rfl gy_X7_linkOf ⟨⟨by decide, by decide⟩, by decide, by decide⟩ ⟨rfl, rfl⟩ rfl rfl (Nat.le_of_ble_eq_true rfl) dX7_on_42 ?_
          intro σ hm hF
          show G Γ _ _ _ 45 _ (.int (iI _) :: _)
          refine z_il_5_1 (pc := 45) cx dX7_on_45 ?_
          refine z_icmp_ne (pc := 46) (tgt := 89) cx (by omega) (by decide) dX7_on_46 (fun c_46 => ?_) (fun c_46 => ?_)
          · skip
            refine z_ii_5_3 (pc := 89) cx dX7_on_89 ?_
            refine g_goto (pc := 92) (tgt := 12) cx (by decide) dX7_on_92 ?_
            exact ih2 (n2 - 1) (by omega) (j + 1) _ σ (by omega) (fun j' q => (Nat.lt_succ_iff_lt_or_eq.mp q).elim (hno2 j') (fun q => by
              rw [q, onJ]
              first
              | (rw [decide_eq_false c_46]; rfl)
              | (rw [decide_eq_false (show ¬ begO S (f : Int) j < S 15 0 by omega), Bool.and_false]; rfl)
              | (rw [decide_eq_false (show ¬ S 15 0 < begO S (f : Int) j + S 9 (10 + S 24 (f : Int)) by omega), Bool.and_false]))) hm hF
          · skip
            refine z_il_5_4 (pc := 49) cx dX7_on_49 ?_
            refine z_al_5_0 (pc := 51) cx dX7_on_51 ?_
            refine m_get (pc := 52) cx hm fl_X7_141 rfl dX7_on_52 ?_
            refine z_icmp_ge (pc := 55) (tgt := 89) cx (by omega) (by decide) dX7_on_55 (fun c_55 => ?_) (fun c_55 => ?_)
            · skip
              refine z_ii_5_3 (pc := 89) cx dX7_on_89 ?_
              refine g_goto (pc := 92) (tgt := 12) cx (by decide) dX7_on_92 ?_
              exact ih2 (n2 - 1) (by omega) (j + 1) _ σ (by omega) (fun j' q => (Nat.lt_succ_iff_lt_or_eq.mp q).elim (hno2 j') (fun q => by
                rw [q, onJ]
                first
                | (rw [decide_eq_false c_46]; rfl)
                | (rw [decide_eq_false (show ¬ begO S (f : Int) j < S 15 0 by omega), Bool.and_false]; rfl)
                | (rw [decide_eq_false (show ¬ S 15 0 < begO S (f : Int) j + S 9 (10 + S 24 (f : Int)) by omega), Bool.and_false]))) hm hF
            · skip
              refine z_il_5_4 (pc := 58) cx dX7_on_58 ?_
              refine z_al_5_0 (pc := 60) cx dX7_on_60 ?_
              refine m_get (pc := 61) cx hm fl_X7_31 rfl dX7_on_61 ?_
              refine z_bipush (pc := 64) cx rfl dX7_on_64 ?_
              refine z_al_5_0 (pc := 66) cx dX7_on_66 ?_
              refine m_get (pc := 67) cx hm fl_X7_68 rfl dX7_on_67 ?_
              refine z_il_5_2 (pc := 70) cx dX7_on_70 ?_
              refine m_iald (pc := 71) (k := 24) (L := 64) cx hm ⟨rfl, rfl, by decide, by decide⟩ dX7_on_71 (by omega) ?_
              refine z_iadd (pc := 72) cx dX7_on_72 ?_
              refine m_iald (pc := 73) (k := 9) (L := 15) cx hm ⟨rfl, rfl, by decide, by decide⟩ dX7_on_73 (by omega) ?_
              refine z_iadd (pc := 74) cx dX7_on_74 ?_
              refine z_al_5_0 (pc := 75) cx dX7_on_75 ?_
              refine m_get (pc := 76) cx hm fl_X7_141 rfl dX7_on_76 ?_
              refine z_icmp_le (pc := 79) (tgt := 89) cx (by omega) (by decide) dX7_on_79 (fun c_79 => ?_) (fun c_79 => ?_)
              · skip
                refine z_ii_5_3 (pc := 89) cx dX7_on_89 ?_
                refine g_goto (pc := 92) (tgt := 12) cx (by decide) dX7_on_92 ?_
                exact ih2 (n2 - 1) (by omega) (j + 1) _ σ (by omega) (fun j' q => (Nat.lt_succ_iff_lt_or_eq.mp q).elim (hno2 j') (fun q => by
                  rw [q, onJ]
                  first
                  | (rw [decide_eq_false c_46]; rfl)
                  | (rw [decide_eq_false (show ¬ begO S (f : Int) j < S 15 0 by omega), Bool.and_false]; rfl)
                  | (rw [decide_eq_false (show ¬ S 15 0 < begO S (f : Int) j + S 9 (10 + S 24 (f : Int)) by omega), Bool.and_false]))) hm hF
              · skip
                refine z_al_5_0 (pc := 82) cx dX7_on_82 ?_
                refine m_get (pc := 83) cx hm fl_X7_68 rfl dX7_on_83 ?_
                refine z_il_5_2 (pc := 86) cx dX7_on_86 ?_
                refine m_iald (pc := 87) (k := 24) (L := 64) cx hm ⟨rfl, rfl, by decide, by decide⟩ dX7_on_87 (by omega) ?_
                have eh := fstN_hit hno (show onFr S w f = true from anyN_iff.mpr ⟨j, by omega, by rw [onJ, decide_eq_true c_46, decide_eq_true c_55, decide_eq_true c_79]; rfl⟩) (show f < (S 23 0).toNat by omega)
                exact z_ret (pc := 88) cx rx (by decide) (by decide) dX7_on_88 ⟨by rw [onF, eh, if_pos (by omega)], hm, hF⟩
      exact J12 (laF S (30 + 3 * S 24 (f : Int)) + 1) 0 x4 σ (by omega) (fun j q => absurd q (Nat.not_lt_zero _)) hm hF
  exact J2 (S 23 0).toNat 0 _ _ σ0 (by omega) (fun f q => absurd q (Nat.not_lt_zero _)) hm hF

set_option maxRecDepth 100000 in
set_option maxHeartbeats 4000000 in
theorem c_X7_isQuiet {lc : Launch} {dA : Nat → ClassId} {ad : Nat → Nat} {σ0 : hS} {h : Nat} {S : mS} (hm : mat dA ad σ0 h S) (hn : 0 ≤ S 23 0 ∧ S 23 0 ≤ 64) (hb : ∀ l, 0 ≤ l → l < 6 → 0 ≤ S 29 l ∧ S 29 l ≤ 8) : gM lc dA yX7_isQuiet (.code yX7_isQuiet cX7_isQuiet 3 (some .boolean)) { frames := 0, cells := 0, slots := 0, locals := 0 } σ0 [.ref h] (mP dA ad h σ0 (some (.int (iI (bz (quietF S))))) (S)) nX := by
  refine gM_body (by decide +kernel) (by simp [Value.category]) (Nat.le_of_ble_eq_true rfl) (fun Γ hdA cx rx nx => ?_)
  subst hdA
  have cx : CX lc Γ cX7_isQuiet RX7 3 { frames := 0, cells := 0, slots := 0, locals := 0 } := cx
  show G Γ σ0 0 0 0 [some (.ref h), none, none] []
  have hF : mFr ad h σ0 σ0 := mFr.rf
  have J12 : ∀ (e : Int) (σ : hS), e = bz (decide (S 23 0 = 0)) → mat (gdA Γ) ad σ h S → mFr ad h σ0 σ → G Γ σ 0 0 12 [some (.ref h), none, none] [.int (iI e)] := by
    intro e σ he hm hF
    subst he
    refine z_is_3_1 (pc := 12) cx dX7_isQuiet_12 ?_
    refine z_iconst (pc := 13) cx dX7_isQuiet_13 ?_
    refine z_is_3_2 (pc := 14) cx dX7_isQuiet_14 ?_
    have J15 : ∀ (n w : Nat) (σ : hS), w + n = 6 → mat (gdA Γ) ad σ h S → mFr ad h σ0 σ → G Γ σ 0 0 15 [some (.ref h), some (.int (iI (bz (decide (S 23 0 = 0) && allN w fun l => decide (S 29 (l : Int) = 0))))), some (.int (iI ((w : Int))))] [] := by
      intro n
      induction n using Nat.strongRecOn with
      | _ n ih =>
      intro w σ hwn hm hF
      refine z_il_3_2 (pc := 15) cx dX7_isQuiet_15 ?_
      refine z_bipush (pc := 16) cx rfl dX7_isQuiet_16 ?_
      refine z_icmp_ge (pc := 18) (tgt := 46) cx (by omega) (by decide) dX7_isQuiet_18 (fun c_18 => ?_) (fun c_18 => ?_)
      · obtain rfl : w = 6 := by omega
        refine z_il_3_1 (pc := 46) cx dX7_isQuiet_46 ?_
        exact (z_retb (pc := 47) (b := quietF S) cx rx (by decide) (by decide) dX7_isQuiet_47 rfl ⟨rfl, hm, hF⟩)
      · skip
        have J39 : ∀ (e : Int) (σ : hS), e = bz (decide (S 23 0 = 0) && allN (w + 1) fun l => decide (S 29 (l : Int) = 0)) → mat (gdA Γ) ad σ h S → mFr ad h σ0 σ → G Γ σ 0 0 39 [some (.ref h), some (.int (iI (bz (decide (S 23 0 = 0) && allN w fun l => decide (S 29 (l : Int) = 0))))), some (.int (iI ((w : Int))))] [.int (iI e)] := by
          intro e σ he hm hF
          subst he
          refine z_is_3_1 (pc := 39) cx dX7_isQuiet_39 ?_
          refine z_ii_3_2 (pc := 40) cx dX7_isQuiet_40 ?_
          refine g_goto (pc := 43) (tgt := 15) cx (by decide) dX7_isQuiet_43 ?_
          exact ih (n - 1) (by omega) (w + 1) σ (by omega) hm hF
        have hbw := hb (w : Int) (by omega) (by omega)
        refine z_il_3_1 (pc := 21) cx dX7_isQuiet_21 ?_
        refine z_if_eq (pc := 22) (tgt := 38) cx (by have := bz_r (decide (S 23 0 = 0) && allN w fun l => decide (S 29 (l : Int) = 0)); omega) (by decide) dX7_isQuiet_22 (fun c_22 => ?_) (fun c_22 => ?_)
        · skip
          refine z_iconst (pc := 38) cx dX7_isQuiet_38 ?_
          exact J39 _ σ (by
            rw [allN, ← Bool.and_assoc]
            first
            | (rw [bz_0.mp c_22]; rfl)
            | (rw [decide_eq_false c_31, Bool.and_false]; rfl)) hm hF
        · skip
          refine z_al_3_0 (pc := 25) cx dX7_isQuiet_25 ?_
          refine m_get (pc := 26) cx hm fl_X7_83 rfl dX7_isQuiet_26 ?_
          refine z_il_3_2 (pc := 29) cx dX7_isQuiet_29 ?_
          refine m_iald (pc := 30) (k := 29) (L := 6) cx hm ⟨rfl, rfl, by decide, by decide⟩ dX7_isQuiet_30 (by omega) ?_
          refine z_if_ne (pc := 31) (tgt := 38) cx (by omega) (by decide) dX7_isQuiet_31 (fun c_31 => ?_) (fun c_31 => ?_)
          · skip
            refine z_iconst (pc := 38) cx dX7_isQuiet_38 ?_
            exact J39 _ σ (by
              rw [allN, ← Bool.and_assoc]
              first
              | (rw [bz_0.mp c_22]; rfl)
              | (rw [decide_eq_false c_31, Bool.and_false]; rfl)) hm hF
          · skip
            refine z_iconst (pc := 34) cx dX7_isQuiet_34 ?_
            refine g_goto (pc := 35) (tgt := 39) cx (by decide) dX7_isQuiet_35 ?_
            exact J39 _ σ (by rw [allN, ← Bool.and_assoc, bz_n0.mp c_22, decide_eq_true c_31]; rfl) hm hF
    refine g_l (J15 6 0 σ rfl hm hF) ?_
    simp [allN]
  refine z_al_3_0 (pc := 0) cx dX7_isQuiet_0 ?_
  refine m_get (pc := 1) cx hm fl_X7_138 rfl dX7_isQuiet_1 ?_
  refine z_if_ne (pc := 4) (tgt := 11) cx (by omega) (by decide) dX7_isQuiet_4 (fun c_4 => ?_) (fun c_4 => ?_)
  · skip
    refine z_iconst (pc := 11) cx dX7_isQuiet_11 ?_
    exact J12 _ σ0 (by rw [decide_eq_false c_4]; rfl) hm hF
  · skip
    refine z_iconst (pc := 7) cx dX7_isQuiet_7 ?_
    refine g_goto (pc := 8) (tgt := 12) cx (by decide) dX7_isQuiet_8 ?_
    exact J12 _ σ0 (by rw [decide_eq_true c_4]; rfl) hm hF
end
section
theorem zz_look : 1 + 1 = 2 := rfl
end
