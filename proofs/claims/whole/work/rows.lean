section
-- ===== PART A: goes FIRST, ahead of the names: the tables' words, and 'selects' of the private methods out of them =====
/-- a private method of a class that the tables say can be made, by its rows of tables_1 -/
def lw_okq (q : MethodName × Nat) : Prop := (q.1.cls ≠ "java/lang/invoke/MethodHandle" ∧ q.1.cls ≠ "java/lang/invoke/VarHandle") ∧ Cond.instantiable q.1.cls q.2 ∈ tables_1 ∧ Cond.privateMethod q.1 ∈ tables_1 ∧ Cond.instanceMethod q.1 ∈ tables_1
theorem lw_p0 : lw_okq (⟨"java/lang/Throwable", "fillInStackTrace", "(I)Ljava/lang/Throwable;"⟩, 6) := ⟨⟨by decide +kernel, by decide +kernel⟩, List.mem_of_getElem? (i := 210) (by decide +kernel), List.mem_of_getElem? (i := 208) (by decide +kernel), List.mem_of_getElem? (i := 209) (by decide +kernel)⟩
theorem lw_p1 : lw_okq (⟨"java/util/ArrayList", "add", "(Ljava/lang/Object;[Ljava/lang/Object;I)V"⟩, 3) := ⟨⟨by decide +kernel, by decide +kernel⟩, List.mem_of_getElem? (i := 32) (by decide +kernel), List.mem_of_getElem? (i := 284) (by decide +kernel), List.mem_of_getElem? (i := 285) (by decide +kernel)⟩
theorem lw_p2 : lw_okq (⟨"java/util/ArrayList", "grow", "()[Ljava/lang/Object;"⟩, 3) := ⟨⟨by decide +kernel, by decide +kernel⟩, List.mem_of_getElem? (i := 32) (by decide +kernel), List.mem_of_getElem? (i := 288) (by decide +kernel), List.mem_of_getElem? (i := 289) (by decide +kernel)⟩
theorem lw_p3 : lw_okq (⟨"java/util/ArrayList", "grow", "(I)[Ljava/lang/Object;"⟩, 3) := ⟨⟨by decide +kernel, by decide +kernel⟩, List.mem_of_getElem? (i := 32) (by decide +kernel), List.mem_of_getElem? (i := 292) (by decide +kernel), List.mem_of_getElem? (i := 293) (by decide +kernel)⟩
theorem lw_p4 : lw_okq (⟨"RightsCounter", "rightOf", "(I)LRightsCounter$Right;"⟩, 5) := ⟨⟨by decide +kernel, by decide +kernel⟩, List.mem_of_getElem? (i := 24) (by decide +kernel), List.mem_of_getElem? (i := 346) (by decide +kernel), List.mem_of_getElem? (i := 347) (by decide +kernel)⟩
theorem lw_p5 : lw_okq (⟨"RightsCounter", "machineOf", "(I)LRightsCounter$Machine;"⟩, 5) := ⟨⟨by decide +kernel, by decide +kernel⟩, List.mem_of_getElem? (i := 24) (by decide +kernel), List.mem_of_getElem? (i := 395) (by decide +kernel), List.mem_of_getElem? (i := 396) (by decide +kernel)⟩
theorem lw_p6 : lw_okq (⟨"RightsCounter", "historyOf", "(II)LRightsCounter$History;"⟩, 5) := ⟨⟨by decide +kernel, by decide +kernel⟩, List.mem_of_getElem? (i := 24) (by decide +kernel), List.mem_of_getElem? (i := 483) (by decide +kernel), List.mem_of_getElem? (i := 484) (by decide +kernel)⟩
theorem lw_p7 : lw_okq (⟨"RightsCounter", "findNeeds", "(I)V"⟩, 5) := ⟨⟨by decide +kernel, by decide +kernel⟩, List.mem_of_getElem? (i := 24) (by decide +kernel), List.mem_of_getElem? (i := 539) (by decide +kernel), List.mem_of_getElem? (i := 540) (by decide +kernel)⟩
theorem lw_p8 : lw_okq (⟨"RightsCounter", "checkNeed", "(I)V"⟩, 5) := ⟨⟨by decide +kernel, by decide +kernel⟩, List.mem_of_getElem? (i := 24) (by decide +kernel), List.mem_of_getElem? (i := 567) (by decide +kernel), List.mem_of_getElem? (i := 568) (by decide +kernel)⟩
theorem lw_p9 : lw_okq (⟨"RightsCounter", "serveFirst", "(II)I"⟩, 5) := ⟨⟨by decide +kernel, by decide +kernel⟩, List.mem_of_getElem? (i := 24) (by decide +kernel), List.mem_of_getElem? (i := 586) (by decide +kernel), List.mem_of_getElem? (i := 587) (by decide +kernel)⟩
theorem lw_p10 : lw_okq (⟨"RightsCounter", "findGivers", "(I)V"⟩, 5) := ⟨⟨by decide +kernel, by decide +kernel⟩, List.mem_of_getElem? (i := 24) (by decide +kernel), List.mem_of_getElem? (i := 590) (by decide +kernel), List.mem_of_getElem? (i := 591) (by decide +kernel)⟩
theorem lw_p11 : lw_okq (⟨"RightsCounter", "giversFor", "(III)I"⟩, 5) := ⟨⟨by decide +kernel, by decide +kernel⟩, List.mem_of_getElem? (i := 24) (by decide +kernel), List.mem_of_getElem? (i := 594) (by decide +kernel), List.mem_of_getElem? (i := 595) (by decide +kernel)⟩
theorem lw_p12 : lw_okq (⟨"RightsCounter$Giving", "searchUnitsLeft", "(I)I"⟩, 9) := ⟨⟨by decide +kernel, by decide +kernel⟩, List.mem_of_getElem? (i := 93) (by decide +kernel), List.mem_of_getElem? (i := 615) (by decide +kernel), List.mem_of_getElem? (i := 616) (by decide +kernel)⟩
theorem lw_p13 : lw_okq (⟨"RightsCounter$Giving", "reach", "(III)V"⟩, 9) := ⟨⟨by decide +kernel, by decide +kernel⟩, List.mem_of_getElem? (i := 93) (by decide +kernel), List.mem_of_getElem? (i := 619) (by decide +kernel), List.mem_of_getElem? (i := 620) (by decide +kernel)⟩
theorem lw_p14 : lw_okq (⟨"RightsCounter$Giving", "giveAlong", "(III)I"⟩, 9) := ⟨⟨by decide +kernel, by decide +kernel⟩, List.mem_of_getElem? (i := 93) (by decide +kernel), List.mem_of_getElem? (i := 623) (by decide +kernel), List.mem_of_getElem? (i := 624) (by decide +kernel)⟩
theorem lw_p15 : lw_okq (⟨"RightsCounter", "unitsOf", "(I)I"⟩, 5) := ⟨⟨by decide +kernel, by decide +kernel⟩, List.mem_of_getElem? (i := 24) (by decide +kernel), List.mem_of_getElem? (i := 655) (by decide +kernel), List.mem_of_getElem? (i := 656) (by decide +kernel)⟩
def lw_privs_1 : List (MethodName × Nat) := [(⟨"java/lang/Throwable", "fillInStackTrace", "(I)Ljava/lang/Throwable;"⟩, 6), (⟨"java/util/ArrayList", "add", "(Ljava/lang/Object;[Ljava/lang/Object;I)V"⟩, 3), (⟨"java/util/ArrayList", "grow", "()[Ljava/lang/Object;"⟩, 3), (⟨"java/util/ArrayList", "grow", "(I)[Ljava/lang/Object;"⟩, 3), (⟨"RightsCounter", "rightOf", "(I)LRightsCounter$Right;"⟩, 5), (⟨"RightsCounter", "machineOf", "(I)LRightsCounter$Machine;"⟩, 5), (⟨"RightsCounter", "historyOf", "(II)LRightsCounter$History;"⟩, 5), (⟨"RightsCounter", "findNeeds", "(I)V"⟩, 5), (⟨"RightsCounter", "checkNeed", "(I)V"⟩, 5), (⟨"RightsCounter", "serveFirst", "(II)I"⟩, 5), (⟨"RightsCounter", "findGivers", "(I)V"⟩, 5), (⟨"RightsCounter", "giversFor", "(III)I"⟩, 5), (⟨"RightsCounter$Giving", "searchUnitsLeft", "(I)I"⟩, 9), (⟨"RightsCounter$Giving", "reach", "(III)V"⟩, 9), (⟨"RightsCounter$Giving", "giveAlong", "(III)I"⟩, 9), (⟨"RightsCounter", "unitsOf", "(I)I"⟩, 5)]
theorem lw_r1 : ∀ q ∈ lw_privs_1, lw_okq q := List.forall_mem_cons.mpr ⟨lw_p0, List.forall_mem_cons.mpr ⟨lw_p1, List.forall_mem_cons.mpr ⟨lw_p2, List.forall_mem_cons.mpr ⟨lw_p3, List.forall_mem_cons.mpr ⟨lw_p4, List.forall_mem_cons.mpr ⟨lw_p5, List.forall_mem_cons.mpr ⟨lw_p6, List.forall_mem_cons.mpr ⟨lw_p7, List.forall_mem_cons.mpr ⟨lw_p8, List.forall_mem_cons.mpr ⟨lw_p9, List.forall_mem_cons.mpr ⟨lw_p10, List.forall_mem_cons.mpr ⟨lw_p11, List.forall_mem_cons.mpr ⟨lw_p12, List.forall_mem_cons.mpr ⟨lw_p13, List.forall_mem_cons.mpr ⟨lw_p14, List.forall_mem_cons.mpr ⟨lw_p15, fun _ h => absurd h List.not_mem_nil⟩⟩⟩⟩⟩⟩⟩⟩⟩⟩⟩⟩⟩⟩⟩⟩
theorem lw_p16 : lw_okq (⟨"RightsCounterModel", "isRight", "(I)Z"⟩, 23) := ⟨⟨by decide +kernel, by decide +kernel⟩, List.mem_of_getElem? (i := 678) (by decide +kernel), List.mem_of_getElem? (i := 770) (by decide +kernel), List.mem_of_getElem? (i := 771) (by decide +kernel)⟩
theorem lw_p17 : lw_okq (⟨"RightsCounterModel", "isMachine", "(I)Z"⟩, 23) := ⟨⟨by decide +kernel, by decide +kernel⟩, List.mem_of_getElem? (i := 678) (by decide +kernel), List.mem_of_getElem? (i := 786) (by decide +kernel), List.mem_of_getElem? (i := 787) (by decide +kernel)⟩
theorem lw_p18 : lw_okq (⟨"RightsCounterModel", "countsBy", "(I)I"⟩, 23) := ⟨⟨by decide +kernel, by decide +kernel⟩, List.mem_of_getElem? (i := 678) (by decide +kernel), List.mem_of_getElem? (i := 798) (by decide +kernel), List.mem_of_getElem? (i := 799) (by decide +kernel)⟩
theorem lw_p19 : lw_okq (⟨"RightsCounterModel", "latest", "(I)I"⟩, 23) := ⟨⟨by decide +kernel, by decide +kernel⟩, List.mem_of_getElem? (i := 678) (by decide +kernel), List.mem_of_getElem? (i := 823) (by decide +kernel), List.mem_of_getElem? (i := 824) (by decide +kernel)⟩
theorem lw_p20 : lw_okq (⟨"RightsCounterModel", "tells", "(III)V"⟩, 23) := ⟨⟨by decide +kernel, by decide +kernel⟩, List.mem_of_getElem? (i := 678) (by decide +kernel), List.mem_of_getElem? (i := 827) (by decide +kernel), List.mem_of_getElem? (i := 828) (by decide +kernel)⟩
theorem lw_p21 : lw_okq (⟨"RightsCounterModel", "versionOn", "(II)I"⟩, 23) := ⟨⟨by decide +kernel, by decide +kernel⟩, List.mem_of_getElem? (i := 678) (by decide +kernel), List.mem_of_getElem? (i := 839) (by decide +kernel), List.mem_of_getElem? (i := 840) (by decide +kernel)⟩
theorem lw_p22 : lw_okq (⟨"RightsCounterModel", "laysNeeds", "(I)V"⟩, 23) := ⟨⟨by decide +kernel, by decide +kernel⟩, List.mem_of_getElem? (i := 678) (by decide +kernel), List.mem_of_getElem? (i := 847) (by decide +kernel), List.mem_of_getElem? (i := 848) (by decide +kernel)⟩
theorem lw_p23 : lw_okq (⟨"RightsCounterModel", "asks", "(II)Z"⟩, 23) := ⟨⟨by decide +kernel, by decide +kernel⟩, List.mem_of_getElem? (i := 678) (by decide +kernel), List.mem_of_getElem? (i := 855) (by decide +kernel), List.mem_of_getElem? (i := 856) (by decide +kernel)⟩
theorem lw_p24 : lw_okq (⟨"RightsCounterModel", "laysGets", "(I)I"⟩, 23) := ⟨⟨by decide +kernel, by decide +kernel⟩, List.mem_of_getElem? (i := 678) (by decide +kernel), List.mem_of_getElem? (i := 867) (by decide +kernel), List.mem_of_getElem? (i := 868) (by decide +kernel)⟩
theorem lw_p25 : lw_okq (⟨"RightsCounterModel", "beginsCut", "()V"⟩, 23) := ⟨⟨by decide +kernel, by decide +kernel⟩, List.mem_of_getElem? (i := 678) (by decide +kernel), List.mem_of_getElem? (i := 871) (by decide +kernel), List.mem_of_getElem? (i := 872) (by decide +kernel)⟩
theorem lw_p26 : lw_okq (⟨"RightsCounterModel", "rightsFor", "(III)I"⟩, 23) := ⟨⟨by decide +kernel, by decide +kernel⟩, List.mem_of_getElem? (i := 678) (by decide +kernel), List.mem_of_getElem? (i := 875) (by decide +kernel), List.mem_of_getElem? (i := 876) (by decide +kernel)⟩
theorem lw_p27 : lw_okq (⟨"RightsCounterModel", "serves", "(II)I"⟩, 23) := ⟨⟨by decide +kernel, by decide +kernel⟩, List.mem_of_getElem? (i := 678) (by decide +kernel), List.mem_of_getElem? (i := 879) (by decide +kernel), List.mem_of_getElem? (i := 880) (by decide +kernel)⟩
theorem lw_p28 : lw_okq (⟨"RightsCounterModel", "leastCut", "()I"⟩, 23) := ⟨⟨by decide +kernel, by decide +kernel⟩, List.mem_of_getElem? (i := 678) (by decide +kernel), List.mem_of_getElem? (i := 883) (by decide +kernel), List.mem_of_getElem? (i := 884) (by decide +kernel)⟩
theorem lw_p29 : lw_okq (⟨"RightsCounterModel", "lacks", "(I)I"⟩, 23) := ⟨⟨by decide +kernel, by decide +kernel⟩, List.mem_of_getElem? (i := 678) (by decide +kernel), List.mem_of_getElem? (i := 891) (by decide +kernel), List.mem_of_getElem? (i := 892) (by decide +kernel)⟩
def lw_privs_2 : List (MethodName × Nat) := [(⟨"RightsCounterModel", "isRight", "(I)Z"⟩, 23), (⟨"RightsCounterModel", "isMachine", "(I)Z"⟩, 23), (⟨"RightsCounterModel", "countsBy", "(I)I"⟩, 23), (⟨"RightsCounterModel", "latest", "(I)I"⟩, 23), (⟨"RightsCounterModel", "tells", "(III)V"⟩, 23), (⟨"RightsCounterModel", "versionOn", "(II)I"⟩, 23), (⟨"RightsCounterModel", "laysNeeds", "(I)V"⟩, 23), (⟨"RightsCounterModel", "asks", "(II)Z"⟩, 23), (⟨"RightsCounterModel", "laysGets", "(I)I"⟩, 23), (⟨"RightsCounterModel", "beginsCut", "()V"⟩, 23), (⟨"RightsCounterModel", "rightsFor", "(III)I"⟩, 23), (⟨"RightsCounterModel", "serves", "(II)I"⟩, 23), (⟨"RightsCounterModel", "leastCut", "()I"⟩, 23), (⟨"RightsCounterModel", "lacks", "(I)I"⟩, 23)]
theorem lw_r2 : ∀ q ∈ lw_privs_2, lw_okq q := List.forall_mem_cons.mpr ⟨lw_p16, List.forall_mem_cons.mpr ⟨lw_p17, List.forall_mem_cons.mpr ⟨lw_p18, List.forall_mem_cons.mpr ⟨lw_p19, List.forall_mem_cons.mpr ⟨lw_p20, List.forall_mem_cons.mpr ⟨lw_p21, List.forall_mem_cons.mpr ⟨lw_p22, List.forall_mem_cons.mpr ⟨lw_p23, List.forall_mem_cons.mpr ⟨lw_p24, List.forall_mem_cons.mpr ⟨lw_p25, List.forall_mem_cons.mpr ⟨lw_p26, List.forall_mem_cons.mpr ⟨lw_p27, List.forall_mem_cons.mpr ⟨lw_p28, List.forall_mem_cons.mpr ⟨lw_p29, fun _ h => absurd h List.not_mem_nil⟩⟩⟩⟩⟩⟩⟩⟩⟩⟩⟩⟩⟩⟩
def lw_privs : List (MethodName × Nat) := lw_privs_1 ++ (lw_privs_2)
def lw_tbl : List Cond := k2_sels lw_privs ++ tables_1
theorem lw_privs_ok : ∀ q ∈ lw_privs, lw_okq q := by
  show ∀ q ∈ lw_privs_1 ++ (lw_privs_2), lw_okq q
  exact List.forall_mem_append.mpr ⟨lw_r1, lw_r2⟩
/-- an array class over arrays of ty is known (what the printed row va_mna names) -/
def va_AOA (ty : FieldType) (U : State) : Prop := (Cond.arrayOver (.array ty)).before #[] U = true
theorem va_AOA.use {ty : FieldType} {A : Array Value} {U : State} (h : va_AOA ty U) : (Cond.arrayOver (.array ty)).before A U = true := h
theorem va_AOA.of {ty : FieldType} {A : Array Value} {U : State} (h : (Cond.arrayOver (.array ty)).before A U = true) : va_AOA ty U := h
/-! ===== BEGIN words of one list among another's, by their places ===== -/
theorem goodIn_r {big : List Cond} (ws : List Cond) (ps : List Nat) (hp : ws = ps.filterMap (fun i => big[i]?)) (h : ws.all goodWord = true) : GoodIn big ws := by
  intro w hw
  have h1 := List.all_eq_true.mp h w hw
  rw [hp] at hw
  obtain ⟨i, -, hi⟩ := List.mem_filterMap.mp hw
  have hm : w ∈ big := by first | exact List.mem_of_getElem? hi | exact List.getElem?_mem hi
  exact ⟨hm, good_of_word h1⟩
theorem goodIn_app {big a b : List Cond} (ha : GoodIn big a) (hb : GoodIn big b) : GoodIn big (a ++ b) := fun w h => (List.mem_append.mp h).elim (ha w) (hb w)
theorem goodIn_ca {big a b : List Cond} {c : Cond} (ha : GoodIn big (c :: a)) (hb : GoodIn big b) : GoodIn big (c :: (a ++ b)) := fun w h => (List.mem_cons.mp h).elim (fun e => ha w (List.mem_cons.mpr (Or.inl e))) (fun h => (List.mem_append.mp h).elim (fun h => ha w (List.mem_cons.mpr (Or.inr h))) (hb w))
theorem goodIn_sub {big ws : List Cond} (hm : ∀ w ∈ ws, w ∈ big) (h : ws.all goodWord = true) : GoodIn big ws := fun w hw => ⟨hm w hw, good_of_word (List.all_eq_true.mp h w hw)⟩
/-! ===== END ===== -/

/-! ===== BEGIN new T[n][m]: the outer array a place, the inner ones among the pooled ===== -/
/-- f, but v at every address of l -/
def vr_up {α : Type} (f : Nat → α) (l : List Nat) (v : α) : Nat → α := fun a => if a ∈ l then v else f a
theorem vr_up_in {α : Type} {f : Nat → α} {l : List Nat} {v : α} {a : Nat} (h : a ∈ l) : vr_up f l v a = v := if_pos h
theorem vr_up_ne {α : Type} {f : Nat → α} {l : List Nat} {v : α} {a : Nat} (h : a ∉ l) : vr_up f l v a = f a := if_neg h
theorem vr_rows {L l : List Nat} {f : Nat → va_E} {e : va_E} (h : ∀ a, a ∈ l → a ∉ L) : va_pl L f ++ l.map (fun a => (a, e)) = va_pl (L ++ l) (vr_up f l e) := by
  unfold va_pl
  rw [List.map_append]
  congr 1
  · apply List.map_congr_left
    intro a ha
    rw [vr_up_ne (fun q => h a q ha)]
  · apply List.map_congr_left
    intro a ha
    rw [vr_up_in ha]
theorem vr_lay {X rows : va_W} {x : Nat × va_E} {pl : va_W} {D : va_G} {cl : List vw_C} {H : Heap} (hP : va_P D cl (((X ++ pl) ++ [x]) ++ rows) H) : va_P D cl ((X ++ [x]) ++ (pl ++ rows)) H := by
  rw [List.append_assoc (X ++ pl)] at hP
  have h := va_P.swap hP
  rw [← List.append_assoc X] at h
  have h2 := va_P.swap h
  rw [List.append_assoc (X ++ [x])] at h2
  exact h2
theorem vr_layD {X rows : va_W} {x : Nat × va_E} {pl : va_W} {A : Nat → Prop} (hD : va_D A (((X ++ pl) ++ [x]) ++ rows)) : va_D A ((X ++ [x]) ++ (pl ++ rows)) := by
  rw [List.append_assoc (X ++ pl)] at hD
  have h := va_D.swap hD
  rw [← List.append_assoc X] at h
  have h2 := va_D.swap h
  rw [List.append_assoc (X ++ [x])] at h2
  exact h2
theorem vr_outer (c : ClassId) (N h0 : Nat) : ∀ i : Nat, Jvm.Free.Multi.outerC c N h0 i = arrV c N (fun j => va_rf (if j < i then some (h0 + 1 + j) else none))
  | 0 => by
    show ({ cls := c, slots := Array.replicate N .null, vm := .none } : Cell) = _
    rw [arrV_new]
    refine congrArg (arrV c N) (funext fun j => ?_)
    simp [va_rf]
  | i + 1 => by
    show (Jvm.Free.Multi.outerC c N h0 i).setSlot i (.ref (h0 + 1 + i)) = _
    rw [vr_outer c N h0 i, arrV_store]
    refine congrArg (arrV c N) (funext fun j => ?_)
    by_cases e : j = i
    · subst e
      simp [updV, va_rf]
    · by_cases h : j < i
      · simp [updV, e, h, Nat.lt_succ_of_lt h]
      · simp [updV, e, h, show ¬ j < i + 1 by omega]
section VGM
variable {p : Program} {l : Launch} {e : Env} {R : Room} {s : State} {m : MethodId} {args : Array Value} {below : List Frame} {meth : Method} {c : Code} {H : Heap} {locs : List Loc} {cells slots : Nat} {Q : State → Prop}
variable {cc : ByteArray} {pc : Nat} {ls : Array Slot} {rest : List Value} {D : va_G} {cl : List vw_C} {A : Nat → Prop} {a : Nat} {tys : List (ClassId × FieldType)} {ws : va_W} {H0 : Heap}
theorem va_mna {X : va_W} {L : List Nat} {f : Nat → va_E} {cc : ByteArray} (hexec : p.tables.exec = Jvm.exec) (hb : c.code = cc) {own : String} {index : Nat} {ty : FieldType} {cy : ClassId} (hown : s.vm.findClass own = some m.cls) (hclink : (Cond.classLink own index ("[" ++ (FieldType.array ty).toString)).before args s = true) (hover : va_AOA ty s) (harr : (Cond.arrayClass ty).before args s = true) (hcy : s.vm.findClass (FieldType.array ty).toString = some cy)
    (hK : va_K D cl tys s) (hP : va_P D cl (X ++ va_pl L f) H) (hD : va_D A (X ++ va_pl L f)) (hS : va_S A H0 H locs) (hA : ∀ q, H0.size ≤ q → A q) {n k : Int32} {N' K' : Nat} {z : vp_A} (hn : ¬ n < 0) (hk : ¬ k < 0) (hN : n.toNatClampNeg = N') (hM : k.toNatClampNeg = K')
    (hb1 : N' * 4 ≤ 536870912) (hb2 : K' * componentBytes ty ≤ 536870912) (hb3 : K' ≤ 536870912) (hdf : fits ty (defaultValue ty) = true) (hdd : (defaultValue ty).isDefault = true) (hcells : cells + (1 + N') ≤ R.cells) (hslots : slots + (N' + N' * K') ≤ R.slots) (hz : ∀ c : ClassId, Jvm.Free.Multi.innerC c K' (defaultValue ty) = vp_cell c z) (hdg : decode cc pc = .ok (.multianewarray index 2, 4))
    (kk : ∀ (q : Nat) (r : Nat → Nat) (cA : ClassId) (H1 : Heap), (∀ i j : Nat, i < N' → j < N' → r i = r j → i = j) → (∀ i : Nat, i < N' → r i ∉ L) → va_K D cl (tys ++ [(cA, .array ty)]) s →
      va_P D cl ((X ++ [(q, .inl (cA, N', .inr (.inr (.inr (.inr (fun i => if i < N' then some (r i) else none))))))]) ++ va_pl (L ++ (List.range N').map r) (vr_up f ((List.range N').map r) (.inl (cy, z)))) H1 → va_D A ((X ++ [(q, .inl (cA, N', .inr (.inr (.inr (.inr (fun i => if i < N' then some (r i) else none))))))]) ++ va_pl (L ++ (List.range N').map r) (vr_up f ((List.range N').map r) (.inl (cy, z)))) → va_S A H0 H1 locs →
      W p l e R s m args below meth c H1 locs (cells + 1 + N') (slots + N' + N' * K') Q (F0 m (pc + 4) ls (.ref q :: rest))) : W p l e R s m args below meth c H locs cells slots Q (F0 m pc ls (.int k :: .int n :: rest)) := by
  subst hN
  subst hM
  intro T hT Xs
  obtain ⟨vm₁, cA, comp, -, fA, fC, hO, -, X', step⟩ := Xs.multianewarray2F hexec hown hclink (va_AOA.use hover) harr (g := F0 m pc ls (.int k :: .int n :: rest)) rfl (by rw [hb]; exact hdg) rfl hn hk hb1 hb2 hb3 hdf hdd hcells hslots
  have ec : some cy = some comp := hcy.symm.trans fC
  cases ec
  generalize hF : Jvm.Free.Multi.fill (T.setVm vm₁) cA cy n.toNatClampNeg k.toNatClampNeg (defaultValue ty) n.toNatClampNeg = F at X' step
  have hTh : (T.setVm vm₁).heap = H := hT
  obtain ⟨f1, f2, -, -⟩ := Jvm.Free.Multi.fill_facts (T.setVm vm₁) cA cy n.toNatClampNeg k.toNatClampNeg (defaultValue ty) n.toNatClampNeg
  rw [hF, hTh] at f1 f2
  have hold : ∀ x : Nat, x < H.size → F.heap[x]? = H[x]? := fun x hx => by
    have := Jvm.Free.Multi.fill_old (T.setVm vm₁) cA cy n.toNatClampNeg k.toNatClampNeg (defaultValue ty) (a := x) (by rw [hTh]; exact hx) n.toNatClampNeg
    rw [hF, hTh] at this
    exact this
  have hrow : ∀ j : Nat, j < n.toNatClampNeg → F.heap[H.size + 1 + j]? = some (vp_cell cy z) := fun j hj => by
    have := Jvm.Free.Multi.fill_inner (T.setVm vm₁) cA cy n.toNatClampNeg k.toNatClampNeg (defaultValue ty) n.toNatClampNeg j hj
    rw [hF, hTh, hz] at this
    exact this
  have hout : Jvm.Free.Multi.outerC cA n.toNatClampNeg H.size n.toNatClampNeg = vp_cell cA (n.toNatClampNeg, .inr (.inr (.inr (.inr (fun i => if i < n.toNatClampNeg then some (H.size + 1 + i) else none))))) := by
    rw [vp_cell_q]
    exact vr_outer cA n.toNatClampNeg H.size n.toNatClampNeg
  rw [hout] at f2
  have hlt : ∀ a, a ∈ L → a < H.size := fun a ha => by
    obtain ⟨k9, hk9⟩ := va_pl_get (X := X) (f := f) ha
    exact (hP k9 _ hk9).lt
  have hnl : ∀ i : Nat, i < n.toNatClampNeg → H.size + 1 + i ∉ L := fun i _ h => by
    have := hlt _ h
    omega
  have hnm : ∀ a, a ∈ (List.range n.toNatClampNeg).map (fun i => H.size + 1 + i) → a ∉ L := fun a ha h => by
    obtain ⟨i, -, rfl⟩ := List.mem_map.mp ha
    have := hlt _ h
    omega
  have hP0 : va_P D cl (X ++ va_pl L f) F.heap := hP.kept (fun k9 x hx => hold x.1 ((hP k9 x hx).lt))
  have hP1 : va_P D cl ((X ++ va_pl L f) ++ [(H.size, .inl (cA, n.toNatClampNeg, .inr (.inr (.inr (.inr (fun i => if i < n.toNatClampNeg then some (H.size + 1 + i) else none))))))]) F.heap := hP0.app (fun k9 x hx => by
    have h0 : k9 < 1 := (List.getElem?_eq_some_iff.mp hx).1
    rw [show k9 = 0 by omega] at hx
    cases hx
    exact f2)
  have hP2 : va_P D cl (((X ++ va_pl L f) ++ [(H.size, .inl (cA, n.toNatClampNeg, .inr (.inr (.inr (.inr (fun i => if i < n.toNatClampNeg then some (H.size + 1 + i) else none))))))]) ++ ((List.range n.toNatClampNeg).map (fun i => H.size + 1 + i)).map (fun a => (a, .inl (cy, z)))) F.heap := hP1.app (fun k9 x hx => by
    obtain ⟨a, ha, rfl⟩ := List.mem_map.mp (List.mem_of_getElem? hx)
    obtain ⟨i, hi, rfl⟩ := List.mem_map.mp ha
    exact hrow i (List.mem_range.mp hi))
  have hD2 : va_D A (((X ++ va_pl L f) ++ [(H.size, .inl (cA, n.toNatClampNeg, .inr (.inr (.inr (.inr (fun i => if i < n.toNatClampNeg then some (H.size + 1 + i) else none))))))]) ++ ((List.range n.toNatClampNeg).map (fun i => H.size + 1 + i)).map (fun a => (a, .inl (cy, z)))) := by
    have hD1 := hD.push (e := .inl (cA, n.toNatClampNeg, .inr (.inr (.inr (.inr (fun i => if i < n.toNatClampNeg then some (H.size + 1 + i) else none)))))) hP rfl (hA _ hS.1)
    generalize hW1 : (X ++ va_pl L f) ++ [(H.size, .inl (cA, n.toNatClampNeg, .inr (.inr (.inr (.inr (fun i => if i < n.toNatClampNeg then some (H.size + 1 + i) else none))))))] = W1 at hD1 hP1 ⊢
    have hle : ∀ (k9 : Nat) (x : Nat × va_E), W1[k9]? = some x → x.1 ≤ H.size := fun k9 x hx => by
      rw [← hW1] at hx
      by_cases hl : k9 < (X ++ va_pl L f).length
      · rw [List.getElem?_append_left hl] at hx
        exact Nat.le_of_lt ((hP k9 x hx).lt)
      · rw [List.getElem?_append_right (by omega)] at hx
        have h0 : k9 - (X ++ va_pl L f).length < 1 := (List.getElem?_eq_some_iff.mp hx).1
        rw [show k9 - (X ++ va_pl L f).length = 0 by omega] at hx
        cases hx
        exact Nat.le_refl _
    have hr : ∀ (k9 : Nat) (x : Nat × va_E), (((List.range n.toNatClampNeg).map (fun i => H.size + 1 + i)).map (fun a => ((a, .inl (cy, z)) : Nat × va_E)))[k9]? = some x → x.1 = H.size + 1 + k9 := fun k9 x hx => by
      rw [List.getElem?_map, List.getElem?_map] at hx
      by_cases h9 : k9 < n.toNatClampNeg
      · rw [List.getElem?_range h9] at hx
        cases hx
        rfl
      · have hn0 : (List.range n.toNatClampNeg)[k9]? = none := List.getElem?_eq_none (by rw [List.length_range]; omega)
        rw [hn0] at hx
        cases hx
    refine ⟨fun i j x y hi hj hxy => ?_, fun k9 x hx => ?_⟩
    · by_cases h1 : i < W1.length <;> by_cases h2 : j < W1.length
      · rw [List.getElem?_append_left h1] at hi
        rw [List.getElem?_append_left h2] at hj
        exact hD1.1 i j x y hi hj hxy
      · rw [List.getElem?_append_left h1] at hi
        rw [List.getElem?_append_right (by omega)] at hj
        have := hle _ _ hi
        have := hr _ _ hj
        omega
      · rw [List.getElem?_append_right (by omega)] at hi
        rw [List.getElem?_append_left h2] at hj
        have := hle _ _ hj
        have := hr _ _ hi
        omega
      · rw [List.getElem?_append_right (by omega)] at hi hj
        have := hr _ _ hi
        have := hr _ _ hj
        omega
    · by_cases h1 : k9 < W1.length
      · rw [List.getElem?_append_left h1] at hx
        exact hD1.2 k9 x hx
      · rw [List.getElem?_append_right (by omega)] at hx
        have := hr _ _ hx
        exact hA _ (by have := hS.1; omega)
  have hAr : ArrOfT s cA (.array ty) := fun N9 z9 => by
    obtain ⟨-, k9, hk9, cm9, hkk9⟩ := (hO 0 0 0).1
    exact ⟨(fun q hq => by cases hq), k9, hk9, cm9, hkk9⟩
  have hK2 : va_K D cl (tys ++ [(cA, .array ty)]) s := ⟨hK.1, fun k9 x hx => by
    by_cases hl : k9 < tys.length
    · rw [List.getElem?_append_left hl] at hx
      exact hK.2 k9 x hx
    · rw [List.getElem?_append_right (by omega)] at hx
      have h0 : k9 - tys.length < 1 := (List.getElem?_eq_some_iff.mp hx).1
      rw [show k9 - tys.length = 0 by omega] at hx
      cases hx
      exact ⟨hAr, fA⟩⟩
  obtain ⟨t, a1, b1⟩ := kk H.size (fun i => H.size + 1 + i) cA F.heap (fun i j _ _ h => by have h9 : H.size + 1 + i = H.size + 1 + j := h; omega) hnl hK2 (by rw [← vr_rows hnm]; exact vr_lay hP2) (by rw [← vr_rows hnm]; exact vr_layD hD2) ⟨by rw [f1]; have := hS.1; omega, fun x h1 h2 => (hold x (Nat.lt_of_lt_of_le h1 hS.1)).trans (hS.2.1 x h1 h2), hS.2.2⟩ F rfl X'
  refine ⟨t, step t ?_, b1⟩
  have e : T.heap.size = H.size := by rw [hT]
  rw [e]
  exact a1
end VGM
/-! ===== END ===== -/

/-! ===== BEGIN exceptions that leave a method, and their catching by the caller (launches without stack traces) ===== -/
section VXA
/-! The laws vx_back, vx_callV, vx_callS, vx_callSW, vx_throw0, vx_throwS follow proofs of the library, with one case more: JvmDerived/Free/Laws.lean (Back.of_free), Shelf42/LK1.lean (callV, callS), Shelf/KitTraced.lean (throwNew0V, throwNewS). -/
/-- where a method has thrown q: the class by its name, the cell, what was written, the world -/
def vx_T (XC : String → State → State → Prop) (st : State) (q : Addr) (t : State) (mc ms : Nat) (free : Addr → Prop) : Prop :=
  ∃ (E : String) (ce : Cell) (L : List Loc), XC E st t ∧ t.heap[q]? = some ce ∧ ce.vm = .none ∧ st.vm.findClass E = some ce.cls ∧ st.WarmedH t.vm ∧ st.sameButNew ({ t with vm := st.vm } : State) L mc ms ∧ ∀ z ∈ L, free z.base
def vx_Q (Qc : Array Value → State → Outcome → State → Prop) (XC : String → State → State → Prop) (mc ms : Nat) (free : Addr → Prop) : Array Value → State → Outcome → State → Prop := fun a st o t =>
  (Qc a st o t ∧ ∃ L, FrameEnd st o t L mc ms ∧ ∀ q ∈ L, free q.base) ∨ ∃ q, o = .threw q ∧ vx_T XC st q t mc ms free
/-- a callee that returns or throws -/
def vx_Met (l : Launch) (y : MethodName) (ws : List Cond) (rm : Room) (Pc : Array Value → State → Prop) (Qc : Array Value → State → Outcome → State → Prop) (XC : String → State → State → Prop) (mc ms : Nat) (free : Addr → Prop) : Prop :=
  MetFree l y (headSpec ws rm) Pc (fun _ _ _ _ _ => True) (vx_Q Qc XC mc ms free)
def vx_Post (XC : String → State → State → Prop) (mc ms : Nat) (free : Addr → Prop) : Pt → Array Value → Addr → Pt → Prop := fun A a q B =>
  ∃ (g : JFrame) (mk : MethodId) (t : State) (L : List Loc) (E : String) (ce : Cell), B.U.heap = t.heap ∧ B.U.vm = t.vm ∧ XC E (A.U.calling g mk a) t ∧ t.heap[q]? = some ce ∧ ce.vm = .none ∧ A.U.vm.findClass E = some ce.cls ∧ B.locs = A.locs ++ L ∧ (∀ z ∈ L, free z.base) ∧ B.cells = A.cells + mc ∧ B.slots = A.slots + ms
def vx_Back (l : Launch) (R : Room) (p : Program) (e : Env) (below : List Frame) (s : State) (sargs : Array Value) (y : MethodName) (len W9 : Nat)
    (Pre : Pt → Array Value → Prop) (Post : Pt → Array Value → Option Value → Pt → Prop) (PostX : Pt → Array Value → Addr → Pt → Prop) : Prop :=
  ∀ (m : MethodId) (meth : Method) (c : Code) (A : Pt) (g : JFrame) (ig : Instr) (mk : MethodId) (a : Array Value),
    Stand p l e R s m sargs below meth c A.U A.locs A.cells A.slots → g.method = m → g.locals.size = c.maxLocals → decode c.code g.pc = .ok (ig, len) →
    2 * g.monitorRoom + (g.stack.map fun v => v.category).sum ≤ W9 → A.U.methodNamed? y = some mk → Pre A a →
    (∃ (v : Option Value) (B : Pt), Stand p l e R s m sargs below meth c B.U B.locs B.cells B.slots ∧ Post A a v B ∧
      Steps p.tables e below (doInvoke e (A.U.setTop g) [] mk a).1 (B.U.setTop { g with pc := g.pc + len, stack := v.toList ++ g.stack })) ∨
    (∃ (q : Addr) (B : Pt), Stand p l e R s m sargs below meth c B.U B.locs B.cells B.slots ∧ PostX A a q B ∧
      Steps p.tables e below (doInvoke e (A.U.setTop g) [] mk a).1 ((B.U.setTop g).pushFrame (.throwing q)))
section Payer
variable {l : Launch} {R : Room} {p : Program} {e : Env} {below : List Frame} {s : State} {sargs : Array Value} {y : MethodName} {len W9 : Nat}
theorem vx_back {ws : List Cond} {rm : Room} {Pc : Array Value → State → Prop} {Qc : Array Value → State → Outcome → State → Prop} {XC : String → State → State → Prop} {mc ms : Nat} {free : Addr → Prop} {bytes : ByteArray} {maxL : Nat} {ret : Option FieldType}
    (hM : vx_Met l y ws rm Pc Qc XC mc ms free) (hblind : FrameBlind Pc) (hrc : rm.cells = mc) (hrs : rm.slots = ms)
    (hframes : rm.frames + 1 ≤ R.frames) (hlocals : W9 + (maxL + 11) + rm.locals ≤ R.locals)
    (hws : ∀ w ∈ ws, ∀ a' U, s.WarmedH U.vm → w.before a' U = true) (hcode : Cond.code y bytes maxL ret ∈ ws) (hinit : ∀ a' U, s.WarmedH U.vm → (Cond.initialized y.cls).before a' U = true) :
    vx_Back l R p e below s sargs y len W9 (PreOf R mc ms Pc) (PostOf Qc mc ms free) (vx_Post XC mc ms free) := by
  intro m meth c A g ig mk a X hg hsize hdg hW hn hp
  have h1 : (headSpec ws rm).pre.before a A.U = true := atoms_intro fun w hw => hws w hw _ _ X.warmed
  have h2 : (Cond.code y bytes maxL ret).before a A.U = true := hws _ hcode _ _ X.warmed
  have h3 : (Cond.initialized y.cls).before a A.U = true := hinit _ _ X.warmed
  have h4 : A.cells + (headSpec ws rm).room.cells ≤ R.cells := by rw [show (headSpec ws rm).room.cells = mc from hrc]; exact hp.1
  have h5 : A.slots + (headSpec ws rm).room.slots ≤ R.slots := by rw [show (headSpec ws rm).room.slots = ms from hrs]; exact hp.2.1
  have hPc : Pc a (A.U.calling g mk a) := hblind _ _ _ _ hp.2.2
  obtain ⟨U, Ls, c0, s0⟩ := A
  dsimp only [Pt.U, Pt.locs, Pt.cells, Pt.slots] at h1 h2 h3 h4 h5 X hn hPc ⊢
  obtain ⟨methY, cY, hmY, hcY, -, hlY, -, -, -, -⟩ := Cond.code_spec hn h2
  obtain ⟨kY, hkY, -⟩ := className_of_methodNamed hn
  have hinitY : kY.init = .initialized := Cond.initialized_spec (findClass_of_methodNamed hn) hkY h3
  have h : At U g.method c below := by rw [hg]; exact X.here
  have hlocals9 : W9 + (maxL + 11) + (headSpec ws rm).room.locals ≤ R.locals := hlocals
  have happ : (headSpec ws rm).appliesLoose y e.platform (U.calling g mk a) = true :=
    Spec.appliesLoose_calling (g := g) h hdg hn hkY hinitY
      (X.room_calling (g := g) (R' := (headSpec ws rm).room) hsize hmY hcY hframes (by rw [hlY]; omega) h4 h5) h1
  obtain ⟨mid, hmid⟩ := h.above
  have hfr : (U.setTop g).frames = (.java g :: mid) ++ below := by rw [State.frames_setTop' g h.top, hmid]; rfl
  obtain ⟨o, s₂, hsteps, -, hend, hq⟩ := Steps.callFree hM p X.admits X.cas X.clock (acts := []) hfr happ hPc trivial
  have hq' : vx_Q Qc XC mc ms free a (U.calling g mk a) o s₂ := hq
  rw [State.frames_setTop' g h.top] at hend
  obtain ⟨g₀, hg0⟩ := Option.isSome_iff_exists.mp h.top
  obtain ⟨r, hr⟩ := State.topJava?_eq_some.mp hg0
  have hr' : (({ U with heap := s₂.heap, slotsUsed := s₂.slotsUsed } : State).setVm s₂.vm).frames = .java g₀ :: r := hr
  rcases hq' with ⟨hqc, L, hfe, hL⟩ | ⟨q, rfl, E, ce, L, hx, hce, hcv, hcl, hW₂, hsm, hL⟩
  · obtain ⟨⟨v, rfl⟩, hW₂, e2, q2, q3, q4, q5, q6⟩ := id hfe
    have e3 : s₂ = ({ (U.calling g mk a).setFrames s₂.frames with heap := s₂.heap, slotsUsed := s₂.slotsUsed } : State).setVm s₂.vm := by
      have : s₂ = ({ s₂ with vm := (U.calling g mk a).vm } : State).setVm s₂.vm := rfl
      rw [e2] at this
      exact this
    obtain ⟨c₂, i₂, len₂, hc₂, hd₂, hf₂⟩ := hend
    have hW' : U.WarmedH s₂.vm := hW₂
    have hcc : c₂ = c := by
      have h1 : s₂.code? g.method = U.code? g.method := by
        rw [State.code?_eq, State.code?_eq, hW'.alike.method?]
      exact Option.some.inj (hc₂.symm.trans (h1.trans h.code))
    subst hcc
    have hlen : len₂ = len := by rw [hdg] at hd₂; cases hd₂; rfl
    subst hlen
    have hs₂ : s₂ = (({ U with heap := s₂.heap, slotsUsed := s₂.slotsUsed } : State).setVm s₂.vm).setTop { g with pc := g.pc + len₂, stack := v.toList ++ g.stack } := by
      refine e3.trans ?_
      rw [hf₂, State.calling_eq h.top, State.setFrames_setFrames, State.setTop_of_frames _ hr', hr]
      rfl
    have hsame : U.sameButNew ({ U with heap := s₂.heap, slotsUsed := s₂.slotsUsed } : State) L mc ms := by
      refine ⟨?_, q2, q3, q4, q5, q6⟩
      obtain ⟨t, ht, -⟩ := State.frames_cons hr
      show ({ U with heap := s₂.heap, slotsUsed := s₂.slotsUsed } : State) = { U.setFrames U.frames with heap := s₂.heap, slotsUsed := s₂.slotsUsed }
      rw [State.setFrames_self ht]
    subst hg
    refine Or.inl ⟨v, ⟨(({ U with heap := s₂.heap, slotsUsed := s₂.slotsUsed } : State).setVm s₂.vm), Ls ++ L, c0 + mc, s0 + ms⟩,
      ⟨X.admits, X.cas, X.clock, X.frames, X.room, X.hears, X.method, X.code, (X.here.setHeapUsed s₂.heap s₂.slotsUsed).setVm hW'.alike, X.tail, State.WarmedH.trans X.warmed hW', X.limits, X.bytes, X.same.trans (hsame.setVm s.vm)⟩,
      ⟨g, mk, s₂, L, rfl, rfl, hqc, rfl, hL, rfl, rfl⟩, ?_⟩
    show Steps p.tables e below _ ((({ U with heap := s₂.heap, slotsUsed := s₂.slotsUsed } : State).setVm s₂.vm).setTop { g with pc := g.pc + len₂, stack := v.toList ++ g.stack })
    rw [← hs₂]
    exact hsteps
  · obtain ⟨e2, q2, q3, q4, q5, q6⟩ := id hsm
    have e3 : s₂ = ({ (U.calling g mk a).setFrames s₂.frames with heap := s₂.heap, slotsUsed := s₂.slotsUsed } : State).setVm s₂.vm := by
      have : s₂ = ({ s₂ with vm := (U.calling g mk a).vm } : State).setVm s₂.vm := rfl
      rw [e2] at this
      exact this
    have hf₂ : s₂.frames = .throwing q :: .java g :: U.frames.tail := hend
    have hW' : U.WarmedH s₂.vm := hW₂
    have hs₂ : s₂ = ((({ U with heap := s₂.heap, slotsUsed := s₂.slotsUsed } : State).setVm s₂.vm).setTop g).pushFrame (.throwing q) := by
      refine e3.trans ?_
      rw [hf₂, State.calling_eq h.top, State.setFrames_setFrames, State.pushFrame, State.frames_setTop _ hr', State.setTop_of_frames _ hr', State.setFrames_setFrames, hr]
      rfl
    have hsame : U.sameButNew ({ U with heap := s₂.heap, slotsUsed := s₂.slotsUsed } : State) L mc ms := by
      refine ⟨?_, q2, q3, q4, q5, q6⟩
      obtain ⟨t, ht, -⟩ := State.frames_cons hr
      show ({ U with heap := s₂.heap, slotsUsed := s₂.slotsUsed } : State) = { U.setFrames U.frames with heap := s₂.heap, slotsUsed := s₂.slotsUsed }
      rw [State.setFrames_self ht]
    subst hg
    refine Or.inr ⟨q, ⟨(({ U with heap := s₂.heap, slotsUsed := s₂.slotsUsed } : State).setVm s₂.vm), Ls ++ L, c0 + mc, s0 + ms⟩,
      ⟨X.admits, X.cas, X.clock, X.frames, X.room, X.hears, X.method, X.code, (X.here.setHeapUsed s₂.heap s₂.slotsUsed).setVm hW'.alike, X.tail, State.WarmedH.trans X.warmed hW', X.limits, X.bytes, X.same.trans (hsame.setVm s.vm)⟩,
      ⟨g, mk, s₂, L, E, ce, rfl, rfl, hx, hce, hcv, hcl, rfl, hL, rfl, rfl⟩, ?_⟩
    show Steps p.tables e below _ (((({ U with heap := s₂.heap, slotsUsed := s₂.slotsUsed } : State).setVm s₂.vm).setTop g).pushFrame (.throwing q))
    rw [← hs₂]
    exact hsteps
end Payer
section Calls
variable {p : Program} {l : Launch} {e : Env} {R : Room} {s : State} {m : MethodId} {args : Array Value} {below : List Frame} {meth : Method} {c : Code} {T : State} {locs : List Loc} {cells slots : Nat}
theorem vx_callV (X : Stand p l e R s m args below meth c T locs cells slots) (hexec : p.tables.exec = Jvm.exec) {own C : String} {index : Nat} {y : MethodName} {bytes : ByteArray} {maxL : Nat} {ret : Option FieldType}
    (hown : s.vm.findClass own = some m.cls) (hlink : (Cond.methodLink own index y).before args s = true) (hinst : (Cond.instanceMethod y).before args s = true) (hsel : (Cond.selects C y y).before args s = true)
    (hcode : (Cond.code y bytes maxL ret).before args s = true) (hy : y.cls ≠ "java/lang/invoke/MethodHandle" ∧ y.cls ≠ "java/lang/invoke/VarHandle")
    {W9 : Nat} {Pre : Pt → Array Value → Prop} {Post : Pt → Array Value → Option Value → Pt → Prop} {PostX : Pt → Array Value → Addr → Pt → Prop} (hK : vx_Back l R p e below s args y 3 W9 Pre Post PostX)
    {b : Addr} {cellB : Cell} (hcell : T.heap[b]? = some cellB) (hobj : cellB.vm.isStatics = false) (hcls : s.vm.findClass C = some cellB.cls)
    {g : JFrame} (hg : g.method = m) (hsize : g.locals.size = c.maxLocals) {argsL rest : List Value} (hlen : ∀ sig, parseMethodDescriptor y.desc = some sig → argsL.length = sig.parameters.length)
    (hstack : g.stack = argsL.reverse ++ .ref b :: rest) (hW : 2 * g.monitorRoom + (rest.map fun v => v.category).sum ≤ W9) (hdg : decode c.code g.pc = .ok (.invokevirtual index, 3))
    (hpre : ∀ vm₁, s.WarmedH vm₁ → Pre ⟨T.setVm vm₁, locs, cells, slots⟩ (Value.ref b :: argsL).toArray) :
    (∃ (v : Option Value) (vm₁ : Vm) (B : Pt), s.WarmedH vm₁ ∧ Stand p l e R s m args below meth c B.U B.locs B.cells B.slots ∧ Post ⟨T.setVm vm₁, locs, cells, slots⟩ (Value.ref b :: argsL).toArray v B ∧
      ∀ target, Steps p.tables e below (B.U.setTop { g with pc := g.pc + 3, stack := v.toList ++ rest }) target → Steps p.tables e below (T.setTop g) target) ∨
    (∃ (q : Addr) (vm₁ : Vm) (B : Pt), s.WarmedH vm₁ ∧ Stand p l e R s m args below meth c B.U B.locs B.cells B.slots ∧ PostX ⟨T.setVm vm₁, locs, cells, slots⟩ (Value.ref b :: argsL).toArray q B ∧
      Steps p.tables e below (T.setTop g) ((B.U.setTop { g with stack := rest }).pushFrame (.throwing q))) := by
  obtain ⟨mk, methM, hnamed, hmethM, hstM, habM⟩ := Cond.instanceMethod_spec hinst
  obtain ⟨methM', cM, hmethM', -, -, -, -, -, -, hsigM⟩ := Cond.code_spec hnamed hcode
  cases hmethM.symm.trans hmethM'
  obtain ⟨c2, r2, m2, q1, q2, q3, q4, kP, hkP, hkPi⟩ := Cond.selects_spec hsel
  cases hcls.symm.trans q1
  cases (State.methodFound?_of_named hnamed hy).symm.trans q2
  cases hnamed.symm.trans q3
  have hselP : selectMethod e.platform s.vm cellB.cls mk = .method mk := by rw [Launch.admits_selectMethod X.admits]; exact q4
  obtain ⟨vm₁, X₁, hstep₁⟩ := X.invokevirtual hexec hown hlink hnamed hmethM hstM hkP hkPi hy (a := b) (cell := cellB) hcell
    (fun z h => by rw [h] at hobj; cases hobj) hselP hmethM habM hkP hkPi (g := g) hg (argsL := argsL) (rest := rest) (hlen _ hsigM) hstack hdg
  rcases hK m meth c ⟨T.setVm vm₁, locs, cells, slots⟩ { g with stack := rest } (.invokevirtual index) mk (Value.ref b :: argsL).toArray X₁ hg hsize hdg hW (X₁.named hnamed) (hpre vm₁ X₁.warmed) with ⟨v, B, X', hpost, hsteps⟩ | ⟨q, B, X', hpost, hsteps⟩
  · exact Or.inl ⟨v, vm₁, B, X₁.warmed, X', hpost, fun target h => hstep₁ _ fun acts => by rw [doInvoke_state]; exact hsteps.trans h⟩
  · exact Or.inr ⟨q, vm₁, B, X₁.warmed, X', hpost, hstep₁ _ fun acts => by rw [doInvoke_state]; exact hsteps⟩
theorem vx_callS (X : Stand p l e R s m args below meth c T locs cells slots) (hexec : p.tables.exec = Jvm.exec) {own : String} {index : Nat} {y : MethodName} {bytes : ByteArray} {maxL : Nat} {ret : Option FieldType}
    (hown : s.vm.findClass own = some m.cls) (hlink : (Cond.methodLink own index y).before args s = true) (hstat : (Cond.static y).before args s = true) (hinit : (Cond.initialized y.cls).before args s = true)
    (hcode : (Cond.code y bytes maxL ret).before args s = true) (hy : y.cls ≠ "java/lang/invoke/MethodHandle" ∧ y.cls ≠ "java/lang/invoke/VarHandle")
    {W9 : Nat} {Pre : Pt → Array Value → Prop} {Post : Pt → Array Value → Option Value → Pt → Prop} {PostX : Pt → Array Value → Addr → Pt → Prop} (hK : vx_Back l R p e below s args y 3 W9 Pre Post PostX)
    {g : JFrame} (hg : g.method = m) (hsize : g.locals.size = c.maxLocals) {argsL rest : List Value} (hlen : ∀ sig, parseMethodDescriptor y.desc = some sig → argsL.length = sig.parameters.length)
    (hstack : g.stack = argsL.reverse ++ rest) (hW : 2 * g.monitorRoom + (rest.map fun v => v.category).sum ≤ W9) (hdg : decode c.code g.pc = .ok (.invokestatic index, 3))
    (hpre : ∀ vm₁, s.WarmedH vm₁ → Pre ⟨T.setVm vm₁, locs, cells, slots⟩ argsL.toArray) :
    (∃ (v : Option Value) (vm₁ : Vm) (B : Pt), s.WarmedH vm₁ ∧ Stand p l e R s m args below meth c B.U B.locs B.cells B.slots ∧ Post ⟨T.setVm vm₁, locs, cells, slots⟩ argsL.toArray v B ∧
      ∀ target, Steps p.tables e below (B.U.setTop { g with pc := g.pc + 3, stack := v.toList ++ rest }) target → Steps p.tables e below (T.setTop g) target) ∨
    (∃ (q : Addr) (vm₁ : Vm) (B : Pt), s.WarmedH vm₁ ∧ Stand p l e R s m args below meth c B.U B.locs B.cells B.slots ∧ PostX ⟨T.setVm vm₁, locs, cells, slots⟩ argsL.toArray q B ∧
      Steps p.tables e below (T.setTop g) ((B.U.setTop { g with stack := rest }).pushFrame (.throwing q))) := by
  obtain ⟨mk, hnamed⟩ := Cond.code_named hcode
  obtain ⟨methM, cM, hmethM, -, -, -, -, -, -, hsigM⟩ := Cond.code_spec hnamed hcode
  have hstatic : methM.isStatic = true := Cond.static_spec hnamed hmethM hstat
  obtain ⟨kP, hkP, -⟩ := className_of_methodNamed hnamed
  have hinitP : kP.init = .initialized := Cond.initialized_spec (findClass_of_methodNamed hnamed) hkP hinit
  obtain ⟨vm₁, X₁, hstep₁⟩ := X.invokestatic hexec hown hlink hnamed hmethM hstatic hkP hinitP hy (g := g) hg (argsL := argsL) (rest := rest) (hlen _ hsigM) hstack hdg
  rcases hK m meth c ⟨T.setVm vm₁, locs, cells, slots⟩ { g with stack := rest } (.invokestatic index) mk argsL.toArray X₁ hg hsize hdg hW (X₁.named hnamed) (hpre vm₁ X₁.warmed) with ⟨v, B, X', hpost, hsteps⟩ | ⟨q, B, X', hpost, hsteps⟩
  · exact Or.inl ⟨v, vm₁, B, X₁.warmed, X', hpost, fun target h => hstep₁ _ fun acts => by rw [doInvoke_state]; exact hsteps.trans h⟩
  · exact Or.inr ⟨q, vm₁, B, X₁.warmed, X', hpost, hstep₁ _ fun acts => by rw [doInvoke_state]; exact hsteps⟩
end Calls
theorem vx_cls {s : State} {T : State} {vm₁ : Vm} {E : String} {k : ClassId} (hW : s.WarmedH vm₁) (h : (T.setVm vm₁).vm.findClass E = some k) : s.vm.findClass E = some k := by
  have h1 : vm₁.findClass E = some k := h
  rw [hW.alike.findClass] at h1
  exact h1
/-- the method's frame g, with q thrown over it -/
def vx_W (p : Program) (l : Launch) (e : Env) (R : Room) (s : State) (m : MethodId) (args : Array Value) (below : List Frame) (meth : Method) (c : Code) (H : Heap) (locs : List Loc) (cells slots : Nat) (Q : State → Prop) (g : JFrame) (q : Addr) : Prop :=
  ∀ T : State, T.heap = H → Stand p l e R s m args below meth c T locs cells slots → ∃ t, Steps p.tables e below ((T.setTop g).pushFrame (.throwing q)) t ∧ Q t
def vx_Run (p : Program) (l : Launch) (e : Env) (R : Room) (s : State) (m : MethodId) (args : Array Value) (below : List Frame) (meth : Method) (c : Code) (H : Heap) (locs : List Loc) (cells slots mc ms : Nat) (g : JFrame) (rest : List Value) (Qa : State → Outcome → State → Prop) (XC : String → State → State → Prop) (free : Addr → Prop) : Prop :=
  ∀ T : State, T.heap = H → Stand p l e R s m args below meth c T locs cells slots →
    (∃ (v : Option Value) (st₀ t T' : State) (L : List Loc), st₀.heap = H ∧ Stand p l e R s m args below meth c T' (locs ++ L) (cells + mc) (slots + ms) ∧ (∀ q ∈ L, free q.base) ∧ T'.heap = t.heap ∧ T'.vm = t.vm ∧ Qa st₀ (.returned v) t ∧
      Goes p e below T g T' { g with pc := g.pc + 3, stack := v.toList ++ rest }) ∨
    (∃ (q : Addr) (st₀ t T' : State) (L : List Loc) (E : String) (ce : Cell), st₀.heap = H ∧ Stand p l e R s m args below meth c T' (locs ++ L) (cells + mc) (slots + ms) ∧ (∀ z ∈ L, free z.base) ∧ T'.heap = t.heap ∧ T'.vm = t.vm ∧ XC E st₀ t ∧ t.heap[q]? = some ce ∧ ce.vm = .none ∧ s.vm.findClass E = some ce.cls ∧
      Steps p.tables e below (T.setTop g) ((T'.setTop { g with stack := rest }).pushFrame (.throwing q)))
def vx_X {S : Type} (px : S → Prop) (B : String → S → State → Prop) (A : Nat → Prop) : String → State → State → Prop := fun E st t => ∃ u : S, px u ∧ B E u t ∧ va_F A st t
section Runs
variable {p : Program} {l : Launch} {e : Env} {R : Room} {s : State} {m : MethodId} {args : Array Value} {below : List Frame} {meth : Method} {c : Code} {H : Heap} {locs : List Loc} {cells slots : Nat}
variable {y : MethodName} {bytes cc : ByteArray} {maxL nL mc ms n index : Nat} {ret : Option FieldType} {ws : List Cond} {rm : Room} {Pc : Array Value → State → Prop} {Qc : Array Value → State → Outcome → State → Prop} {XC : String → State → State → Prop} {free : Addr → Prop} {Ts : List Cond} {own C : String} {b : Addr} {As rest : List Value} {g : JFrame}
theorem vx_callBack (cb : CallB R s args own index y bytes maxL ret ws rm mc ms n) (hM : vx_Met l y ws rm Pc Qc XC mc ms free) (hbl : FrameBlind Pc) : vx_Back l R p e below s args y 3 8 (PreOf R mc ms Pc) (PostOf Qc mc ms free) (vx_Post XC mc ms free) := by
  obtain ⟨hrc, hrs, hfr, hlo, hws, hcw, -, hini, -⟩ := cb
  exact vx_back (bytes := bytes) (maxL := maxL) (ret := ret) hM hbl hrc hrs hfr hlo hws hcw (fun a' U hW => word_at hW (Or.inl (by first | rfl | simp [Cond.onTables, Cond.keeps, Cond.steady])) hini)
theorem vx_runV (S : CallFix p m c cc nL s args Ts own) (hM : vx_Met l y ws rm Pc Qc XC mc ms free) (cw : CallW R s args own C index y bytes maxL ret ws rm mc ms n) (hp : PreV s H C b Pc As)
    (hg : g.method = m) (hn : As.length = n) (hsize : g.locals.size = nL) (hstack : g.stack = As.reverse ++ .ref b :: rest) (hW : 2 * g.monitorRoom + (rest.map fun v => v.category).sum ≤ 8) (hdg : decode cc g.pc = .ok (.invokevirtual index, 3)) (hf : cells + mc ≤ R.cells ∧ slots + ms ≤ R.slots) :
    vx_Run p l e R s m args below meth c H locs cells slots mc ms g rest (Qc (Value.ref b :: As).toArray) XC free := by
  have hK : vx_Back l R p e below s args y 3 8 (PreOf R mc ms Pc) (PostOf Qc mc ms free) (vx_Post XC mc ms free) := vx_callBack cw.1 hM hp.1
  obtain ⟨⟨-, -, -, -, -, -, hcode, -, hy, hlen, hl⟩, hin, hse⟩ := cw
  obtain ⟨hx, hb, hml, ho, -⟩ := S
  obtain ⟨-, ⟨cellB, hcB, hoB, hclB⟩, hPc⟩ := hp
  intro T hT X
  rcases vx_callV X hx (C := C) (bytes := bytes) (maxL := maxL) (ret := ret) ho hl hin hse hcode hy hK (by rw [hT]; exact hcB) hoB hclB hg (hsize.trans hml.symm) (argsL := As) (rest := rest) (fun sig h => hn.trans (hlen sig h)) hstack hW (by rw [hb]; exact hdg)
    (fun vm₁ hW₁ => ⟨hf.1, hf.2, hPc (T.setVm vm₁) hT hW₁⟩) with ⟨v, vm₁, ⟨U', l2, c2, s2⟩, hW₁, X', ⟨g', mk, t, L, e1, e2, hq, h1, hL, h2, h3⟩, st⟩ | ⟨q, vm₁, ⟨U', l2, c2, s2⟩, hW₁, X', ⟨g', mk, t, L, E, ce, e1, e2, hq, hce, hcv, hcl, h1, hL, h2, h3⟩, st⟩
  · dsimp only [Pt.U, Pt.locs, Pt.cells, Pt.slots] at X' e1 e2 h1 h2 h3 st
    subst h1; subst h2; subst h3
    exact Or.inl ⟨v, (T.setVm vm₁).calling g' mk (Value.ref b :: As).toArray, t, U', L, hT, X', hL, e1, e2, hq, st⟩
  · dsimp only [Pt.U, Pt.locs, Pt.cells, Pt.slots] at X' e1 e2 h1 h2 h3 st hcl
    subst h1; subst h2; subst h3
    exact Or.inr ⟨q, (T.setVm vm₁).calling g' mk (Value.ref b :: As).toArray, t, U', L, E, ce, hT, X', hL, e1, e2, hq, hce, hcv, vx_cls hW₁ hcl, st⟩
theorem vx_runS (S : CallFix p m c cc nL s args Ts own) (hM : vx_Met l y ws rm Pc Qc XC mc ms free) (cw : CallB R s args own index y bytes maxL ret ws rm mc ms n ∧ (Cond.static y).before args s = true) (hp : PreS s H Pc As)
    (hg : g.method = m) (hn : As.length = n) (hsize : g.locals.size = nL) (hstack : g.stack = As.reverse ++ rest) (hW : 2 * g.monitorRoom + (rest.map fun v => v.category).sum ≤ 8) (hdg : decode cc g.pc = .ok (.invokestatic index, 3)) (hf : cells + mc ≤ R.cells ∧ slots + ms ≤ R.slots) :
    vx_Run p l e R s m args below meth c H locs cells slots mc ms g rest (Qc As.toArray) XC free := by
  have hK : vx_Back l R p e below s args y 3 8 (PreOf R mc ms Pc) (PostOf Qc mc ms free) (vx_Post XC mc ms free) := vx_callBack cw.1 hM hp.1
  obtain ⟨⟨-, -, -, -, -, -, hcode, hini, hy, hlen, hl⟩, hstt⟩ := cw
  obtain ⟨hx, hb, hml, ho, -⟩ := S
  intro T hT X
  rcases vx_callS X hx (bytes := bytes) (maxL := maxL) (ret := ret) ho hl hstt hini hcode hy hK hg (hsize.trans hml.symm) (argsL := As) (rest := rest) (fun sig h => hn.trans (hlen sig h)) hstack hW (by rw [hb]; exact hdg)
    (fun vm₁ hW₁ => ⟨hf.1, hf.2, hp.2 (T.setVm vm₁) hT hW₁⟩) with ⟨v, vm₁, ⟨U', l2, c2, s2⟩, hW₁, X', ⟨g', mk, t, L, e1, e2, hq, h1, hL, h2, h3⟩, st⟩ | ⟨q, vm₁, ⟨U', l2, c2, s2⟩, hW₁, X', ⟨g', mk, t, L, E, ce, e1, e2, hq, hce, hcv, hcl, h1, hL, h2, h3⟩, st⟩
  · dsimp only [Pt.U, Pt.locs, Pt.cells, Pt.slots] at X' e1 e2 h1 h2 h3 st
    subst h1; subst h2; subst h3
    exact Or.inl ⟨v, (T.setVm vm₁).calling g' mk As.toArray, t, U', L, hT, X', hL, e1, e2, hq, st⟩
  · dsimp only [Pt.U, Pt.locs, Pt.cells, Pt.slots] at X' e1 e2 h1 h2 h3 st hcl
    subst h1; subst h2; subst h3
    exact Or.inr ⟨q, (T.setVm vm₁).calling g' mk As.toArray, t, U', L, E, ce, hT, X', hL, e1, e2, hq, hce, hcv, vx_cls hW₁ hcl, st⟩
end Runs
section Rows
variable {p : Program} {l : Launch} {e : Env} {R : Room} {s : State} {m : MethodId} {args : Array Value} {below : List Frame} {meth : Method} {c : Code} {H : Heap} {locs : List Loc} {cells slots : Nat} {Q : State → Prop}
variable {mc ms : Nat} {free : Addr → Prop} {A0 A1 : Nat → Prop} {H0 : Heap} {a : Array Value} {pc : Nat} {ls : Array Slot} {st0 rest : List Value}
theorem vx_keep {st₀ t T' : State} {L : List Loc} (h0 : st₀.heap = H) (e1 : T'.heap = t.heap) (hS : va_S A0 H0 H locs) (hA : ∀ q, q < H.size → A1 q → A0 q) (hf : ∀ q, free q → A0 q) (hL : ∀ q ∈ L, free q.base) (hF : va_F A1 st₀ t) :
    H.size ≤ T'.heap.size ∧ (∀ q : Nat, q < H.size → ¬ A1 q → T'.heap[q]? = H[q]?) ∧ va_S A0 H0 T'.heap (locs ++ L) := by
  obtain ⟨hz, hk⟩ := hF
  rw [h0] at hz hk
  exact ⟨by rw [e1]; exact hz, fun q h1 h2 => by rw [e1]; exact hk q h1 h2,
    ⟨Nat.le_trans hS.1 (by rw [e1]; exact hz), fun q h1 h2 => by rw [e1, hk q (Nat.lt_of_lt_of_le h1 hS.1) (fun z => h2 (hA q (Nat.lt_of_lt_of_le h1 hS.1) z))]; exact hS.2.1 q h1 h2, fun q hq => by
      rcases List.mem_append.mp hq with h | h
      · exact hS.2.2 q h
      · exact hf _ (hL q h)⟩⟩
theorem vx_calli {S SX : Type} {post : Int32 → S → Prop} {px : SX → Prop} {B : S → State → Prop} {BX : String → SX → State → Prop} {AX : Nat → Prop} (hr : vx_Run p l e R s m args below meth c H locs cells slots mc ms (F0 m pc ls st0) rest (va_Qi post B A1 a) (vx_X px BX AX) free) (hS : va_S A0 H0 H locs) (hA : ∀ q, q < H.size → A1 q → A0 q) (hf : ∀ q, free q → A0 q) (hAX : ∀ q, q < H.size → AX q → A0 q)
    (kx : ∀ (E : String) (ce : Cell) (q9 : Addr) (u : SX) (t : State) (H1 : Heap) (locs1 : List Loc), t.heap = H1 → s.vm.Alike t.vm → px u → BX E u t → H.size ≤ H1.size → (∀ q : Nat, q < H.size → ¬ AX q → H1[q]? = H[q]?) → va_S A0 H0 H1 locs1 → H1[q9]? = some ce → ce.vm = .none → s.vm.findClass E = some ce.cls → vx_W p l e R s m args below meth c H1 locs1 (cells + mc) (slots + ms) Q (F0 m pc ls rest) q9)
    (kk : ∀ (r : Int32) (u : S) (t : State) (H1 : Heap) (locs1 : List Loc), t.heap = H1 → s.vm.Alike t.vm → post r u → B u t → H.size ≤ H1.size → (∀ q : Nat, q < H.size → ¬ A1 q → H1[q]? = H[q]?) → va_S A0 H0 H1 locs1 → W p l e R s m args below meth c H1 locs1 (cells + mc) (slots + ms) Q (F0 m (pc + 3) ls (.int r :: rest))) : W p l e R s m args below meth c H locs cells slots Q (F0 m pc ls st0) := by
  intro T hT X
  rcases hr T hT X with ⟨v, st₀, t, T', L, h0, X', hL, e1, e2, ⟨⟨r, u, hv, hp, hb⟩, hF⟩, st⟩ | ⟨q, st₀, t, T', L, E, ce, h0, X', hL, e1, e2, ⟨u, hp, hb, hF⟩, hce, hcv, hcl, st⟩
  · cases hv
    obtain ⟨k1, k2, k3⟩ := vx_keep h0 e1 hS hA hf hL hF
    obtain ⟨t2, a1, b1⟩ := kk r u t T'.heap (locs ++ L) e1.symm (by rw [← e2]; exact X'.warmed.alike) hp hb k1 k2 k3 T' rfl X'
    exact ⟨t2, st t2 a1, b1⟩
  · obtain ⟨k1, k2, k3⟩ := vx_keep h0 e1 hS hAX hf hL hF
    obtain ⟨t2, a1, b1⟩ := kx E ce q u t T'.heap (locs ++ L) e1.symm (by rw [← e2]; exact X'.warmed.alike) hp hb k1 k2 k3 (by rw [e1]; exact hce) hcv hcl T' rfl X'
    exact ⟨t2, st.trans a1, b1⟩
theorem vx_calll {S SX : Type} {post : Int64 → S → Prop} {px : SX → Prop} {B : S → State → Prop} {BX : String → SX → State → Prop} {AX : Nat → Prop} (hr : vx_Run p l e R s m args below meth c H locs cells slots mc ms (F0 m pc ls st0) rest (va_Ql post B A1 a) (vx_X px BX AX) free) (hS : va_S A0 H0 H locs) (hA : ∀ q, q < H.size → A1 q → A0 q) (hf : ∀ q, free q → A0 q) (hAX : ∀ q, q < H.size → AX q → A0 q)
    (kx : ∀ (E : String) (ce : Cell) (q9 : Addr) (u : SX) (t : State) (H1 : Heap) (locs1 : List Loc), t.heap = H1 → s.vm.Alike t.vm → px u → BX E u t → H.size ≤ H1.size → (∀ q : Nat, q < H.size → ¬ AX q → H1[q]? = H[q]?) → va_S A0 H0 H1 locs1 → H1[q9]? = some ce → ce.vm = .none → s.vm.findClass E = some ce.cls → vx_W p l e R s m args below meth c H1 locs1 (cells + mc) (slots + ms) Q (F0 m pc ls rest) q9)
    (kk : ∀ (r : Int64) (u : S) (t : State) (H1 : Heap) (locs1 : List Loc), t.heap = H1 → s.vm.Alike t.vm → post r u → B u t → H.size ≤ H1.size → (∀ q : Nat, q < H.size → ¬ A1 q → H1[q]? = H[q]?) → va_S A0 H0 H1 locs1 → W p l e R s m args below meth c H1 locs1 (cells + mc) (slots + ms) Q (F0 m (pc + 3) ls (.long r :: rest))) : W p l e R s m args below meth c H locs cells slots Q (F0 m pc ls st0) := by
  intro T hT X
  rcases hr T hT X with ⟨v, st₀, t, T', L, h0, X', hL, e1, e2, ⟨⟨r, u, hv, hp, hb⟩, hF⟩, st⟩ | ⟨q, st₀, t, T', L, E, ce, h0, X', hL, e1, e2, ⟨u, hp, hb, hF⟩, hce, hcv, hcl, st⟩
  · cases hv
    obtain ⟨k1, k2, k3⟩ := vx_keep h0 e1 hS hA hf hL hF
    obtain ⟨t2, a1, b1⟩ := kk r u t T'.heap (locs ++ L) e1.symm (by rw [← e2]; exact X'.warmed.alike) hp hb k1 k2 k3 T' rfl X'
    exact ⟨t2, st t2 a1, b1⟩
  · obtain ⟨k1, k2, k3⟩ := vx_keep h0 e1 hS hAX hf hL hF
    obtain ⟨t2, a1, b1⟩ := kx E ce q u t T'.heap (locs ++ L) e1.symm (by rw [← e2]; exact X'.warmed.alike) hp hb k1 k2 k3 (by rw [e1]; exact hce) hcv hcl T' rfl X'
    exact ⟨t2, st.trans a1, b1⟩
theorem vx_callf {S SX : Type} {post : UInt32 → S → Prop} {px : SX → Prop} {B : S → State → Prop} {BX : String → SX → State → Prop} {AX : Nat → Prop} (hr : vx_Run p l e R s m args below meth c H locs cells slots mc ms (F0 m pc ls st0) rest (va_Qf post B A1 a) (vx_X px BX AX) free) (hS : va_S A0 H0 H locs) (hA : ∀ q, q < H.size → A1 q → A0 q) (hf : ∀ q, free q → A0 q) (hAX : ∀ q, q < H.size → AX q → A0 q)
    (kx : ∀ (E : String) (ce : Cell) (q9 : Addr) (u : SX) (t : State) (H1 : Heap) (locs1 : List Loc), t.heap = H1 → s.vm.Alike t.vm → px u → BX E u t → H.size ≤ H1.size → (∀ q : Nat, q < H.size → ¬ AX q → H1[q]? = H[q]?) → va_S A0 H0 H1 locs1 → H1[q9]? = some ce → ce.vm = .none → s.vm.findClass E = some ce.cls → vx_W p l e R s m args below meth c H1 locs1 (cells + mc) (slots + ms) Q (F0 m pc ls rest) q9)
    (kk : ∀ (r : UInt32) (u : S) (t : State) (H1 : Heap) (locs1 : List Loc), t.heap = H1 → s.vm.Alike t.vm → post r u → B u t → H.size ≤ H1.size → (∀ q : Nat, q < H.size → ¬ A1 q → H1[q]? = H[q]?) → va_S A0 H0 H1 locs1 → W p l e R s m args below meth c H1 locs1 (cells + mc) (slots + ms) Q (F0 m (pc + 3) ls (.float r :: rest))) : W p l e R s m args below meth c H locs cells slots Q (F0 m pc ls st0) := by
  intro T hT X
  rcases hr T hT X with ⟨v, st₀, t, T', L, h0, X', hL, e1, e2, ⟨⟨r, u, hv, hp, hb⟩, hF⟩, st⟩ | ⟨q, st₀, t, T', L, E, ce, h0, X', hL, e1, e2, ⟨u, hp, hb, hF⟩, hce, hcv, hcl, st⟩
  · cases hv
    obtain ⟨k1, k2, k3⟩ := vx_keep h0 e1 hS hA hf hL hF
    obtain ⟨t2, a1, b1⟩ := kk r u t T'.heap (locs ++ L) e1.symm (by rw [← e2]; exact X'.warmed.alike) hp hb k1 k2 k3 T' rfl X'
    exact ⟨t2, st t2 a1, b1⟩
  · obtain ⟨k1, k2, k3⟩ := vx_keep h0 e1 hS hAX hf hL hF
    obtain ⟨t2, a1, b1⟩ := kx E ce q u t T'.heap (locs ++ L) e1.symm (by rw [← e2]; exact X'.warmed.alike) hp hb k1 k2 k3 (by rw [e1]; exact hce) hcv hcl T' rfl X'
    exact ⟨t2, st.trans a1, b1⟩
theorem vx_calld {S SX : Type} {post : UInt64 → S → Prop} {px : SX → Prop} {B : S → State → Prop} {BX : String → SX → State → Prop} {AX : Nat → Prop} (hr : vx_Run p l e R s m args below meth c H locs cells slots mc ms (F0 m pc ls st0) rest (va_Qd post B A1 a) (vx_X px BX AX) free) (hS : va_S A0 H0 H locs) (hA : ∀ q, q < H.size → A1 q → A0 q) (hf : ∀ q, free q → A0 q) (hAX : ∀ q, q < H.size → AX q → A0 q)
    (kx : ∀ (E : String) (ce : Cell) (q9 : Addr) (u : SX) (t : State) (H1 : Heap) (locs1 : List Loc), t.heap = H1 → s.vm.Alike t.vm → px u → BX E u t → H.size ≤ H1.size → (∀ q : Nat, q < H.size → ¬ AX q → H1[q]? = H[q]?) → va_S A0 H0 H1 locs1 → H1[q9]? = some ce → ce.vm = .none → s.vm.findClass E = some ce.cls → vx_W p l e R s m args below meth c H1 locs1 (cells + mc) (slots + ms) Q (F0 m pc ls rest) q9)
    (kk : ∀ (r : UInt64) (u : S) (t : State) (H1 : Heap) (locs1 : List Loc), t.heap = H1 → s.vm.Alike t.vm → post r u → B u t → H.size ≤ H1.size → (∀ q : Nat, q < H.size → ¬ A1 q → H1[q]? = H[q]?) → va_S A0 H0 H1 locs1 → W p l e R s m args below meth c H1 locs1 (cells + mc) (slots + ms) Q (F0 m (pc + 3) ls (.double r :: rest))) : W p l e R s m args below meth c H locs cells slots Q (F0 m pc ls st0) := by
  intro T hT X
  rcases hr T hT X with ⟨v, st₀, t, T', L, h0, X', hL, e1, e2, ⟨⟨r, u, hv, hp, hb⟩, hF⟩, st⟩ | ⟨q, st₀, t, T', L, E, ce, h0, X', hL, e1, e2, ⟨u, hp, hb, hF⟩, hce, hcv, hcl, st⟩
  · cases hv
    obtain ⟨k1, k2, k3⟩ := vx_keep h0 e1 hS hA hf hL hF
    obtain ⟨t2, a1, b1⟩ := kk r u t T'.heap (locs ++ L) e1.symm (by rw [← e2]; exact X'.warmed.alike) hp hb k1 k2 k3 T' rfl X'
    exact ⟨t2, st t2 a1, b1⟩
  · obtain ⟨k1, k2, k3⟩ := vx_keep h0 e1 hS hAX hf hL hF
    obtain ⟨t2, a1, b1⟩ := kx E ce q u t T'.heap (locs ++ L) e1.symm (by rw [← e2]; exact X'.warmed.alike) hp hb k1 k2 k3 (by rw [e1]; exact hce) hcv hcl T' rfl X'
    exact ⟨t2, st.trans a1, b1⟩
theorem vx_callv {S SX : Type} {post : S → Prop} {px : SX → Prop} {B : S → State → Prop} {BX : String → SX → State → Prop} {AX : Nat → Prop} (hr : vx_Run p l e R s m args below meth c H locs cells slots mc ms (F0 m pc ls st0) rest (va_Qv post B A1 a) (vx_X px BX AX) free) (hS : va_S A0 H0 H locs) (hA : ∀ q, q < H.size → A1 q → A0 q) (hf : ∀ q, free q → A0 q) (hAX : ∀ q, q < H.size → AX q → A0 q)
    (kx : ∀ (E : String) (ce : Cell) (q9 : Addr) (u : SX) (t : State) (H1 : Heap) (locs1 : List Loc), t.heap = H1 → s.vm.Alike t.vm → px u → BX E u t → H.size ≤ H1.size → (∀ q : Nat, q < H.size → ¬ AX q → H1[q]? = H[q]?) → va_S A0 H0 H1 locs1 → H1[q9]? = some ce → ce.vm = .none → s.vm.findClass E = some ce.cls → vx_W p l e R s m args below meth c H1 locs1 (cells + mc) (slots + ms) Q (F0 m pc ls rest) q9)
    (kk : ∀ (u : S) (t : State) (H1 : Heap) (locs1 : List Loc), t.heap = H1 → s.vm.Alike t.vm → post u → B u t → H.size ≤ H1.size → (∀ q : Nat, q < H.size → ¬ A1 q → H1[q]? = H[q]?) → va_S A0 H0 H1 locs1 → W p l e R s m args below meth c H1 locs1 (cells + mc) (slots + ms) Q (F0 m (pc + 3) ls (rest))) : W p l e R s m args below meth c H locs cells slots Q (F0 m pc ls st0) := by
  intro T hT X
  rcases hr T hT X with ⟨v, st₀, t, T', L, h0, X', hL, e1, e2, ⟨⟨u, hv, hp, hb⟩, hF⟩, st⟩ | ⟨q, st₀, t, T', L, E, ce, h0, X', hL, e1, e2, ⟨u, hp, hb, hF⟩, hce, hcv, hcl, st⟩
  · cases hv
    obtain ⟨k1, k2, k3⟩ := vx_keep h0 e1 hS hA hf hL hF
    obtain ⟨t2, a1, b1⟩ := kk u t T'.heap (locs ++ L) e1.symm (by rw [← e2]; exact X'.warmed.alike) hp hb k1 k2 k3 T' rfl X'
    exact ⟨t2, st t2 a1, b1⟩
  · obtain ⟨k1, k2, k3⟩ := vx_keep h0 e1 hS hAX hf hL hF
    obtain ⟨t2, a1, b1⟩ := kx E ce q u t T'.heap (locs ++ L) e1.symm (by rw [← e2]; exact X'.warmed.alike) hp hb k1 k2 k3 (by rw [e1]; exact hce) hcv hcl T' rfl X'
    exact ⟨t2, st.trans a1, b1⟩
/-- caught by the row x of this method's table; the rows ahead don't take it -/
theorem vx_catch {own name : String} {E : String} {ce : Cell} {q : Addr} (hown : s.vm.findClass own = some m.cls) (pre : List ExceptionTableEntry) (x : ExceptionTableEntry) (suf : List ExceptionTableEntry) (hsplit : c.exceptionTable.toList = pre ++ x :: suf)
    (hpass : ∀ z ∈ pre, covers z pc = false ∨ (z.catchType ≠ 0 ∧ ∃ nm : String, (Cond.classLink own z.catchType nm).before args s = true ∧ va_Nc E nm s)) (hx : covers x pc = true) (h0 : x.catchType ≠ 0)
    (hlink : (Cond.classLink own x.catchType name).before args s = true) (hcast : (Cond.castable E name).before args s = true) (hcell : H[q]? = some ce) (hv : ce.vm = .none) (hcl : s.vm.findClass E = some ce.cls)
    (kk : W p l e R s m args below meth c H locs cells slots Q (F0 m x.handlerPc ls [.ref q])) : vx_W p l e R s m args below meth c H locs cells slots Q (F0 m pc ls rest) q := by
  intro T hT X
  have hpl : e.platform.magicAccessors = ({} : Platform).magicAccessors := by rw [X.admits.platform]
  obtain ⟨c3, c4, hc3, hc4, hasg⟩ := Cond.castable_spec hcast
  cases Option.some.inj (hc3.symm.trans hcl)
  obtain ⟨c5, hc5, hcl5⟩ := Cond.classLink_spec hown hlink e.platform hpl
  cases Option.some.inj (hc4.symm.trans hc5)
  obtain ⟨vm', X', st⟩ := X.thenCaughtThrough q (g := F0 m pc ls rest) rfl (Steps.refl _) (by rw [hT]; exact hcell) (by rw [hv]; rfl) (by obtain ⟨k9, h9, -⟩ := Vm.findClass_spec hcl; exact ⟨k9, h9⟩) pre x suf hsplit
    (fun z hz => by
      rcases hpass z hz with h | ⟨hz0, nm, hl1, hn1⟩
      · exact Or.inl h
      · obtain ⟨c6, hc6, hcl6⟩ := Cond.classLink_spec hown hl1 e.platform hpl
        obtain ⟨a8, b8, h1, h2, h3⟩ := hn1
        cases Option.some.inj (h1.symm.trans hcl)
        cases Option.some.inj (h2.symm.trans hc6)
        exact Or.inr ⟨hz0, _, hcl6, h3⟩) hx (Or.inr ⟨h0, c4, hcl5, hasg⟩)
  obtain ⟨t, a1, b1⟩ := kk (T.setVm vm') hT X'
  exact ⟨t, st.trans a1, b1⟩
end Rows
section Ends
variable {p : Program} {l : Launch} {e : Env} {R : Room} {s : State} {m : MethodId} {args : Array Value} {below : List Frame} {meth : Method} {c : Code} {H : Heap} {locs : List Loc} {cells slots : Nat} {Q : State → Prop}
variable {mc ms : Nat} {free : Addr → Prop} {A0 A1 : Nat → Prop} {H0 : Heap} {a : Array Value} {ls : Array Slot} {st0 rest : List Value}
variable {Qc : Array Value → State → Outcome → State → Prop} {XC : String → State → State → Prop}
/-- what a body that may throw owes at its end -/
def vx_MQ (below : List Frame) (Qc : Array Value → State → Outcome → State → Prop) (XC : String → State → State → Prop) (a : Array Value) (s : State) (mc ms : Nat) (free : Addr → Prop) : State → Prop := fun t =>
  ∃ o, t.status = .running ∧ Ended t below o ∧ vx_Q Qc XC mc ms free a s o t
theorem vx_ret {g : JFrame} {mc ms : Nat} (k : W p l e R s m args below meth c H locs cells slots (MQ below Qc args s mc ms free) g) : W p l e R s m args below meth c H locs cells slots (vx_MQ below Qc XC args s mc ms free) g := by
  intro T hT X
  obtain ⟨t, a1, o, b1, b2, b3, b4⟩ := k T hT X
  exact ⟨t, a1, o, b1, b2, Or.inl ⟨b3, b4⟩⟩
/-- not caught here: it goes on to the caller -/
theorem vx_widen {g : JFrame} {q : Addr} {k n : Nat} (h1 : cells ≤ k) (h2 : slots ≤ n) (kk : vx_W p l e R s m args below meth c H locs k n Q g q) : vx_W p l e R s m args below meth c H locs cells slots Q g q := fun T hT X => kk T hT (stand_widen X h1 h2)
theorem vx_out {pc : Nat} {E : String} {ce : Cell} {q : Addr} {mc ms : Nat} (hout : ∀ x ∈ c.exceptionTable.toList, covers x pc = false) (hlocks : meth.locks = false) (hcell : H[q]? = some ce) (hv : ce.vm = .none) (hcl : s.vm.findClass E = some ce.cls)
    (hx : ∀ t : State, t.heap = H → s.vm.Alike t.vm → XC E s t) (hf : ∀ z ∈ locs, free z.base) (hc : cells ≤ mc) (hs : slots ≤ ms) :
    vx_W p l e R s m args below meth c H locs cells slots (vx_MQ below Qc XC args s mc ms free) (F0 m pc ls rest) q := by
  intro T hT X
  obtain ⟨st1, hrun, hend, hW, hsm⟩ := X.leaveThrown q (g := F0 m pc ls rest) rfl rfl rfl hout hlocks
  have hcell9 : (T.setFrames (.throwing q :: below)).heap[q]? = some ce := by
    show T.heap[q]? = some ce
    rw [hT]; exact hcell
  exact ⟨_, st1, .threw q, hrun, hend, Or.inr ⟨q, rfl, E, ce, locs, hx _ hT hW.alike, hcell9, hv, hcl, hW, hsm.mono hc hs, hf⟩⟩
theorem vx_frame {U : State} {k n : Nat} (h : s.sameButNew ({ U with vm := s.vm } : State) locs k n) : s.heap.size ≤ U.heap.size ∧ ∀ q : Nat, q < s.heap.size → (∀ z ∈ locs, z.base ≠ q) → U.heap[q]? = s.heap[q]? := by
  obtain ⟨-, h2, -, -, -, h6⟩ := h
  refine ⟨h2, fun q hq hz => ?_⟩
  obtain ⟨c9, e1, e2, e3, e4⟩ := h6 q _ (Array.getElem?_eq_getElem hq)
  have hs : c9.slots = (s.heap[q]).slots := Array.ext_getElem? fun i => e4 i fun hm => hz _ hm rfl
  have h9 : c9 = s.heap[q] := by
    rw [hs] at e2
    exact e2
  have e5 : U.heap[q]? = some c9 := e1
  rw [e5, h9, Array.getElem?_eq_getElem hq]
/-- the words of a throw but the four that speak of the heap -/
def vx_no (w : Cond) : Bool := decide (w ≠ .isRef (.static Bundle.tN "UNASSIGNED_STACK" Bundle.steD)) && decide (w ≠ .isRef (.static Bundle.tN "SUPPRESSED_SENTINEL" Bundle.listD)) && decide (w ≠ .laysStatic Bundle.tN "UNASSIGNED_STACK" Bundle.steD) && decide (w ≠ .laysStatic Bundle.tN "SUPPRESSED_SENTINEL" Bundle.listD)
def vx_at0 (own : String) (ic : Nat) (X : String) (names : List String) : List Cond := (Bundle.ownAtoms0 own ic X names).filter vx_no
def vx_atS (own : String) (ic : Nat) (X : String) (names : List String) : List Cond := (Bundle.ownAtoms own ic X names).filter vx_no
/-- a word that the tables alone decide, or a good one -/
def vx_ot (w : Cond) : Bool := w.onTables || goodWord w
theorem vx_ot_at {args a' : Array Value} {s U : State} {w : Cond} (hW : s.WarmedH U.vm) (hvm : s.vm = U.vm) (hg : vx_ot w = true) (h : w.before args s = true) : w.before a' U = true := by
  simp only [vx_ot, Bool.or_eq_true] at hg
  rcases hg with hg | hg
  · exact va_tabs hg hvm h
  · exact word_at hW (good_of_word hg) h
/-- a list's words: the good ones out of the method's own list, the others by premises of their own -/
theorem vx_hat {args : Array Value} {s : State} {L B : List Cond} (h1 : ∀ w ∈ L.filter goodWord, w.before args s = true) (h2 : ∀ w ∈ L.filter (fun w => !goodWord w), w ∈ B) (h3 : ∀ w ∈ B, w.before args s = true) : ∀ w ∈ L, w.before args s = true := by
  intro w hw
  by_cases g : goodWord w = true
  · exact h1 w (List.mem_filter.mpr ⟨hw, g⟩)
  · refine h3 w (h2 w (List.mem_filter.mpr ⟨hw, ?_⟩))
    show (!goodWord w) = true
    cases hgw : goodWord w
    · rfl
    · exact absurd hgw g
theorem vx_c {args : Array Value} {s : State} {w : Cond} {B : List Cond} (h : w.before args s = true) (t : ∀ w ∈ B, w.before args s = true) : ∀ w' ∈ w :: B, w'.before args s = true := fun w' h' => (List.mem_cons.mp h').elim (fun e => by rw [e]; exact h) (t w')
theorem vx_n {args : Array Value} {s : State} : ∀ w ∈ ([] : List Cond), w.before args s = true := fun _ h => nomatch h
theorem vx_own {args : Array Value} {s : State} {L : List Cond} (h1 : ∀ w ∈ L.filter vx_no, w.before args s = true)
    (hU : (Cond.isRef (.static Bundle.tN "UNASSIGNED_STACK" Bundle.steD)).before args s = true) (hN : (Cond.isRef (.static Bundle.tN "SUPPRESSED_SENTINEL" Bundle.listD)).before args s = true)
    (lU : (Cond.laysStatic Bundle.tN "UNASSIGNED_STACK" Bundle.steD).before args s = true) (lN : (Cond.laysStatic Bundle.tN "SUPPRESSED_SENTINEL" Bundle.listD).before args s = true) : ∀ w ∈ L, w.before args s = true := by
  intro w hw
  by_cases e1 : w = .isRef (.static Bundle.tN "UNASSIGNED_STACK" Bundle.steD)
  · rw [e1]; exact hU
  · by_cases e2 : w = .isRef (.static Bundle.tN "SUPPRESSED_SENTINEL" Bundle.listD)
    · rw [e2]; exact hN
    · by_cases e3 : w = .laysStatic Bundle.tN "UNASSIGNED_STACK" Bundle.steD
      · rw [e3]; exact lU
      · by_cases e4 : w = .laysStatic Bundle.tN "SUPPRESSED_SENTINEL" Bundle.listD
        · rw [e4]; exact lN
        · exact h1 w (List.mem_filter.mpr ⟨hw, by unfold vx_no; rw [decide_eq_true e1, decide_eq_true e2, decide_eq_true e3, decide_eq_true e4]; rfl⟩)
/-- where a static field lies, its class's statics cell in H -/
def vx_L (C n d : String) (A : Nat → Prop) (U : State) (H : Heap) : Prop := ∃ (c : ClassId) (k : Class) (i : Nat) (f : Field) (a : Nat) (cell : Cell), U.vm.findClass C = some c ∧ U.fieldFound? C n d = some (c, k, i, f) ∧ f.isStatic = true ∧ k.statics = some a ∧ H[a]? = some cell ∧ cell.vm.isStatics = true ∧ cell.cls = c ∧ f.slot < cell.slots.size ∧ k.staticTypes[f.slot]? = some f.type ∧ ¬ A a
theorem vx_L.moved {C n d : String} {A : Nat → Prop} {u U : State} {H : Heap} (hvm : u.vm.Alike U.vm) (h : vx_L C n d A u H) : vx_L C n d A U H := by
  obtain ⟨c, k, i, f, a, cell, h1, h2, h3, h4, h5, h6, h7, h8, h9, h10⟩ := h
  obtain ⟨k', hi', he⟩ := State.fieldFound?_setVm hvm h2
  exact ⟨c, k', i, f, a, cell, by rw [hvm.findClass]; exact h1, hi', h3, by rw [he]; exact h4, h5, h6, h7, h8, by rw [he]; exact h9, h10⟩
theorem vx_L.kept {C n d : String} {A : Nat → Prop} {U : State} {H H1 : Heap} (h : vx_L C n d A U H) (hq : ∀ a : Nat, a < H.size → ¬ A a → H1[a]? = H[a]?) : vx_L C n d A U H1 := by
  obtain ⟨c, k, i, f, a, cell, h1, h2, h3, h4, h5, h6, h7, h8, h9, h10⟩ := h
  exact ⟨c, k, i, f, a, cell, h1, h2, h3, h4, by rw [hq a (Array.getElem?_eq_some_iff.mp h5).1 h10]; exact h5, h6, h7, h8, h9, h10⟩
theorem vx_L.narrow {C n d : String} {A B : Nat → Prop} {U : State} {H : Heap} (h : vx_L C n d A U H) (hAB : ∀ q, B q → A q) : vx_L C n d B U H := by
  obtain ⟨c, k, i, f, a, cell, h1, h2, h3, h4, h5, h6, h7, h8, h9, h10⟩ := h
  exact ⟨c, k, i, f, a, cell, h1, h2, h3, h4, h5, h6, h7, h8, h9, fun z => h10 (hAB _ z)⟩
theorem vx_L.word {C n d : String} {A : Nat → Prop} {s : State} {args : Array Value} (h : vx_L C n d A s s.heap) : (Cond.laysStatic C n d).before args s = true := by
  obtain ⟨c, k, i, f, a, cell, h1, h2, h3, h4, h5, h6, h7, h8, h9, -⟩ := h
  show (Cond.laysStatic C n d).holds args s none s [] = true
  exact Cond.laysStatic_of h1 h2 h3 h4 h5 h6 h7 h8 h9
/-- .. and what it holds: null or some reference -/
def vx_Zq (C n d : String) (A : Nat → Prop) (U : State) (H : Heap) : Prop := va_Zq C n d A U H ∧ vx_L C n d A U H
theorem vx_Zq.moved {C n d : String} {A : Nat → Prop} {u U : State} {H : Heap} (hvm : u.vm.Alike U.vm) (h : vx_Zq C n d A u H) : vx_Zq C n d A U H := ⟨va_Zq.moved hvm h.1, vx_L.moved hvm h.2⟩
theorem vx_Zq.kept {C n d : String} {A : Nat → Prop} {U : State} {H H1 : Heap} (h : vx_Zq C n d A U H) (hq : ∀ a : Nat, a < H.size → ¬ A a → H1[a]? = H[a]?) : vx_Zq C n d A U H1 := ⟨va_Zq.kept h.1 hq, vx_L.kept h.2 hq⟩
theorem vx_Zq.narrow {C n d : String} {A B : Nat → Prop} {U : State} {H : Heap} (h : vx_Zq C n d A U H) (hAB : ∀ q, B q → A q) : vx_Zq C n d B U H := ⟨va_Zq.narrow h.1 hAB, vx_L.narrow h.2 hAB⟩
theorem vx_Zqof {args : Array Value} {s : State} {C n d : String} {A : Nat → Prop} (hl : (Cond.laysStatic C n d).before args s = true) (hini : (Cond.initialized C).before args s = true) (h : (Cond.isRef (.static C n d)).before args s = true) (hA : ∀ a : Nat, a < s.heap.size → ¬ A a) : vx_Zq C n d A s s.heap := by
  refine ⟨va_Zqof hl hini h hA, ?_⟩
  obtain ⟨c, k, i, f, a, cell, h1, h2, h3, h4, h5, h6, h7, h8, h9⟩ := Cond.laysStatic_spec hl
  exact ⟨c, k, i, f, a, cell, h1, h2, h3, h4, h5, h6, h7, h8, h9, hA a (Array.getElem?_eq_some_iff.mp h5).1⟩
theorem vx_isRef {C n d : String} {v : Value} {A : Nat → Prop} {s : State} {args : Array Value} (h : va_Z C n d v A s s.heap) (hv : v.isRef = true) : (Cond.isRef (.static C n d)).before args s = true := by
  obtain ⟨cf, kf, fi, f, a, cell, h1, h2, h3, h4, h5, h6, h7, -⟩ := h
  have he : (Term.static C n d).eval args s none [] s = some v := by
    simp [Term.eval, State.fieldNamed?, h1, h2, h4, h5, h6, h7]
  simp only [Cond.before, Cond.holds, Cond.value, he]
  cases v <;> simp_all [Value.isRef]
theorem vx_isRefq {C n d : String} {A : Nat → Prop} {s : State} {args : Array Value} (h : va_Zq C n d A s s.heap) : (Cond.isRef (.static C n d)).before args s = true := by
  rcases h with h | ⟨t, h⟩
  · exact vx_isRef h rfl
  · exact vx_isRef h rfl
/-- the same frame, seen from here: as if the method were called anew in this heap -/
theorem vx_rebase {T : State} (X : Stand p l e R s m args below meth c T locs cells slots) {R' : Room} (hf : R'.frames ≤ R.frames) (hl : R'.locals ≤ R.locals) (hc : cells + R'.cells ≤ R.cells) (hs : slots + R'.slots ≤ R.slots) :
    Stand p l e R' ((T.setVm s.vm).setFrames (.invoking m args :: below)) m args below meth c T [] 0 0 := by
  have htop : (T.setVm s.vm).topJava?.isSome := X.here.top
  have hF : ((T.setVm s.vm).setFrames (.invoking m args :: below)).frames = .invoking m args :: below := State.frames_setFrames _ (State.cur_lt_of_top htop)
  obtain ⟨g₀, hg0⟩ := Option.isSome_iff_exists.mp htop
  obtain ⟨r, hr⟩ := State.topJava?_eq_some.mp hg0
  have hl9 : e.platform.stackLimits (T.setVm s.vm).me = e.platform.stackLimits s.me := X.limits
  have hb9 : (T.setVm s.vm).me.stackBytes = s.me.stackBytes := X.bytes
  refine ⟨X.admits, X.cas, X.clock, hF, ?_, X.hears, X.method, X.code, X.here, X.tail, X.warmed, ?_, ?_, ?_⟩
  · have h := X.room
    have hU : ((T.setVm s.vm).setFrames (.invoking m args :: below)).localsInUse = s.localsInUse := by
      rw [State.localsInUse_invoking hF (meth := meth) (c := c) X.method X.code, State.localsInUse_invoking X.frames X.method X.code]
    simp only [State.hasRoom, Bool.and_eq_true, decide_eq_true_eq] at h ⊢
    obtain ⟨⟨⟨⟨h1, h2, h3, h4, h5, h6⟩, h7⟩, h8⟩, h9⟩ := h
    rw [X.frames, List.length_cons] at h2 h3
    have q1 := X.heapSize
    have q2 := X.used
    simp only [hF, hU, List.length_cons, State.stackLimits_setFrames, State.stackBytes_setFrames, hl9, hb9]
    refine ⟨⟨⟨⟨by omega, by omega, by omega, by omega, by omega, h6⟩, ?_⟩, ?_⟩, X.book⟩
    · show T.heap.size + R'.cells ≤ e.platform.maxCells
      omega
    · show T.slotsUsed + R'.slots ≤ e.platform.maxSlots
      omega
  · rw [State.stackLimits_setFrames]; rfl
  · rw [State.stackBytes_setFrames]; rfl
  · refine ⟨?_, Nat.le_refl _, Nat.le_refl _, ?_, ?_, fun a c9 h9 => ⟨c9, h9, rfl, rfl, fun _ _ => rfl⟩⟩
    · obtain ⟨t, ht, -⟩ := State.frames_cons hr
      show T.setVm s.vm = { ((T.setVm s.vm).setFrames (.invoking m args :: below)).setFrames (T.setVm s.vm).frames with heap := T.heap, slotsUsed := T.slotsUsed }
      rw [State.setFrames_setFrames, State.setFrames_self ht]
      rfl
    · show T.slotsUsed = T.slotsUsed + ((T.heap.toList.drop T.heap.size).map (·.slots.size)).sum
      rw [List.drop_eq_nil_of_le (Nat.le_of_eq Array.length_toList)]
      rfl
    · show ((T.heap.toList.drop T.heap.size).map (·.slots.size)).sum ≤ 0
      rw [List.drop_eq_nil_of_le (Nat.le_of_eq Array.length_toList)]
      exact Nat.le_refl _
/-- 'throw new E()': new; dup; invokespecial; athrow -/
theorem vx_throw0 {cc : ByteArray} {pc : Nat} (hexec : p.tables.exec = Jvm.exec) (hb : c.code = cc) (hl : l.stackTraces = false) {own cls : String} {names : List String} {ik ic mc ms : Nat} {A : Nat → Prop}
    (hown : s.vm.findClass own = some m.cls) (hcls : Bundle.fit cls = true) (hnames : ∀ n ∈ names, Bundle.fit n = true)
    (hk : (Cond.classLink own ik cls).before args s = true) (hini : (Cond.initialized cls).before args s = true) (hat : ∀ w ∈ vx_at0 own ic cls names, w.before args s = true)
    (hgood : ∀ w ∈ Cond.classLink own ik cls :: Cond.initialized cls :: vx_at0 own ic cls names, vx_ot w = true)
    (hU : vx_Zq Bundle.tN "UNASSIGNED_STACK" Bundle.steD A s s.heap) (hN : vx_Zq Bundle.tN "SUPPRESSED_SENTINEL" Bundle.listD A s s.heap) (hS : va_S A s.heap H locs) (hsize : ls.size = c.maxLocals)
    (d0 : decode cc pc = .ok (.new ik, 3)) (d3 : decode cc (pc + 3) = .ok (.dup, 1)) (d4 : decode cc (pc + 4) = .ok (.invokespecial ic, 3)) (d7 : decode cc (pc + 7) = .ok (.athrow, 1))
    (hout : ∀ x ∈ c.exceptionTable.toList, covers x (pc + 7) = false)
    (hRframes : names.length + 3 < R.frames) (hRlocals : (rest.map fun v => v.category).sum + (13 * (names.length + 1) + 42) ≤ R.locals) (hRcells : cells + 1 ≤ R.cells) (hRslots : slots + 6 ≤ R.slots) (hlocks : meth.locks = false)
    (hx : ∀ t : State, s.vm.Alike t.vm → H.size ≤ t.heap.size → (∀ q : Nat, q < H.size → t.heap[q]? = H[q]?) → XC cls s t)
    (hf : ∀ z ∈ locs, free z.base) (hc : cells + 1 ≤ mc) (hs : slots + 6 ≤ ms) :
    W p l e R s m args below meth c H locs cells slots (vx_MQ below Qc XC args s mc ms free) (F0 m pc ls rest) := by
  intro T hT X
  have htr : e.platform.stackTraces = false := (show e.platform.stackTraces = l.stackTraces by rw [X.admits.platform]).trans hl
  have Y := vx_rebase X (R' := { frames := R.frames, locals := R.locals, cells := 1, slots := 6 }) (Nat.le_refl _) (Nat.le_refl _) hRcells hRslots
  obtain ⟨s', hA⟩ : ∃ z, z = (T.setVm s.vm).setFrames (.invoking m args :: below) := ⟨_, rfl⟩
  rw [← hA] at Y
  have hvm : s'.vm = s.vm := by rw [hA]; rfl
  have hhp : s'.heap = H := by rw [hA]; exact hT
  have hW0 : s.WarmedH s'.vm := by rw [hvm]; exact State.WarmedH.refl s
  have hat' : ∀ w ∈ vx_at0 own ic cls names, w.before args s' = true := fun w hw => vx_ot_at hW0 hvm.symm (hgood w (List.mem_cons_of_mem _ (List.mem_cons_of_mem _ hw))) (hat w hw)
  have hk' : (Cond.classLink own ik cls).before args s' = true := vx_ot_at hW0 hvm.symm (hgood _ List.mem_cons_self) hk
  have hini' : (Cond.initialized cls).before args s' = true := vx_ot_at hW0 hvm.symm (hgood _ (List.mem_cons_of_mem _ List.mem_cons_self)) hini
  have hU' : vx_Zq Bundle.tN "UNASSIGNED_STACK" Bundle.steD A s' s'.heap := by rw [hhp]; exact vx_Zq.moved hW0.alike (hU.kept hS.2.1)
  have hN' : vx_Zq Bundle.tN "SUPPRESSED_SENTINEL" Bundle.listD A s' s'.heap := by rw [hhp]; exact vx_Zq.moved hW0.alike (hN.kept hS.2.1)
  have h : ∀ w ∈ Bundle.ownAtoms0 own ic cls names, w.before args s' = true := vx_own hat' (vx_isRefq hU'.1) (vx_isRefq hN'.1) hU'.2.word hN'.2.word
  have hown' : s'.vm.findClass own = some m.cls := by rw [hvm]; exact hown
  have hins : (Cond.instantiable cls 6).before args s' = true := h _ (by simp [Bundle.ownAtoms0])
  obtain ⟨vm₁, cX, kX, hfX, hkX, -, -, X₁, st1⟩ := Y.newCold hexec (own := own) (C := cls) (index := ik) (n := 6) hown' hk' hins hini'
    (g := F0 m pc ls rest) rfl (by rw [hb]; exact d0) (Nat.le_refl _) (Nat.le_refl _)
  generalize hT1 : (T.setVm vm₁).pushCell { cls := cX, slots := kX.instanceTypes.map defaultValue, vm := .none } = T1 at X₁ st1
  have hcat : (Value.ref T.heap.size).category = 1 := rfl
  have hcellA : T1.heap[T.heap.size]? = some (freshCell cX kX) := by rw [← hT1]; exact State.heap_pushCell_size _ _
  have d3' : decode c.code (pc + 3) = .ok (.dup, 1) := by rw [hb]; exact d3
  obtain ⟨U, hsteps, hrun, hend, hW, hsame, ce, hce, hO⟩ := X₁.ctorThrow0 hexec htr (own := own) (cls := cls) (names := names) (ic := ic) hown' hcls hnames h (fun x hx => nomatch hx) hfX hkX hcellA (by rw [hhp, hT]; exact Nat.le_refl _)
    (g := { method := m, pc := pc + 4, locals := ls, stack := .ref T.heap.size :: .ref T.heap.size :: rest, locked := none }) rfl hsize rfl rfl (rest := rest) rfl
    (by rw [hb]; exact d4) (by rw [hb]; exact d7) hout hRframes (by simp only [List.map_cons, List.sum_cons, hcat]; omega) hlocks
  obtain ⟨f1, f2⟩ := vx_frame hsame
  rw [hhp] at f1 f2
  have hWs : s.WarmedH U.vm := State.WarmedH.trans hW0 hW
  have hcl : s.vm.findClass cls = some ce.cls := by
    have h9 := hO.cls
    rw [hvm] at h9
    exact h9
  have hall : s.sameButNew ({ U with vm := s.vm } : State) locs mc ms := by
    subst hA
    obtain ⟨e1, e2⟩ := hsame
    rw [State.setFrames_setFrames] at e1
    have h2 : (T.setVm s.vm).sameButNew ({ U with vm := s.vm } : State) [] (0 + 1) (0 + 6) := ⟨e1, e2⟩
    have h3 := X.same.trans h2
    rw [List.append_nil] at h3
    exact h3.mono hc hs
  refine ⟨U, ?_, .threw T.heap.size, hrun, hend, Or.inr ⟨T.heap.size, rfl, cls, ce, locs, hx U hWs.alike f1 (fun q hq => f2 q hq (fun z hz => nomatch hz)), hce, hO.vm, hcl, hWs, hall, hf⟩⟩
  refine st1 _ ?_
  show Steps p.tables e below (T1.setTop { method := m, pc := pc + 3, locals := ls, stack := .ref T.heap.size :: rest, locked := none }) _
  jvm_step X₁.here [X₁.here.top, hexec, d3', Value.category]
  exact hsteps
/-- 'throw new E("text")': new; dup; ldc; invokespecial; athrow -/
theorem vx_throwS {cc : ByteArray} {pc : Nat} (hexec : p.tables.exec = Jvm.exec) (hb : c.code = cc) (hl : l.stackTraces = false) {own cls text : String} {names : List String} {ik is ic mc ms sa : Nat} {A : Nat → Prop}
    (hown : s.vm.findClass own = some m.cls) (hcls : Bundle.fit cls = true) (hnames : ∀ n ∈ names, Bundle.fit n = true)
    (hk : (Cond.classLink own ik cls).before args s = true) (hini : (Cond.initialized cls).before args s = true) (hstr : vk_R own is text sa s) (hat : ∀ w ∈ vx_atS own ic cls names, w.before args s = true)
    (hgood : ∀ w ∈ Cond.classLink own ik cls :: Cond.initialized cls :: vx_atS own ic cls names, vx_ot w = true)
    (hU : vx_Zq Bundle.tN "UNASSIGNED_STACK" Bundle.steD A s s.heap) (hN : vx_Zq Bundle.tN "SUPPRESSED_SENTINEL" Bundle.listD A s s.heap) (hS : va_S A s.heap H locs) (hsize : ls.size = c.maxLocals)
    (d0 : decode cc pc = .ok (.new ik, 3)) (d3 : decode cc (pc + 3) = .ok (.dup, 1)) (d4 : decode cc (pc + 4) = .ok (.ldc is, 2)) (d6 : decode cc (pc + 6) = .ok (.invokespecial ic, 3)) (d9 : decode cc (pc + 9) = .ok (.athrow, 1))
    (hout : ∀ x ∈ c.exceptionTable.toList, covers x (pc + 9) = false)
    (hRframes : names.length + 3 < R.frames) (hRlocals : (rest.map fun v => v.category).sum + (13 * (names.length + 1) + 43) ≤ R.locals) (hRcells : cells + 1 ≤ R.cells) (hRslots : slots + 6 ≤ R.slots) (hlocks : meth.locks = false)
    (hx : ∀ t : State, s.vm.Alike t.vm → H.size ≤ t.heap.size → (∀ q : Nat, q < H.size → t.heap[q]? = H[q]?) → XC cls s t)
    (hf : ∀ z ∈ locs, free z.base) (hc : cells + 1 ≤ mc) (hs : slots + 6 ≤ ms) :
    W p l e R s m args below meth c H locs cells slots (vx_MQ below Qc XC args s mc ms free) (F0 m pc ls rest) := by
  intro T hT X
  have htr : e.platform.stackTraces = false := (show e.platform.stackTraces = l.stackTraces by rw [X.admits.platform]).trans hl
  have Y := vx_rebase X (R' := { frames := R.frames, locals := R.locals, cells := 1, slots := 6 }) (Nat.le_refl _) (Nat.le_refl _) hRcells hRslots
  obtain ⟨s', hA⟩ : ∃ z, z = (T.setVm s.vm).setFrames (.invoking m args :: below) := ⟨_, rfl⟩
  rw [← hA] at Y
  have hvm : s'.vm = s.vm := by rw [hA]; rfl
  have hhp : s'.heap = H := by rw [hA]; exact hT
  have hW0 : s.WarmedH s'.vm := by rw [hvm]; exact State.WarmedH.refl s
  have hat' : ∀ w ∈ vx_atS own ic cls names, w.before args s' = true := fun w hw => vx_ot_at hW0 hvm.symm (hgood w (List.mem_cons_of_mem _ (List.mem_cons_of_mem _ hw))) (hat w hw)
  have hk' : (Cond.classLink own ik cls).before args s' = true := vx_ot_at hW0 hvm.symm (hgood _ List.mem_cons_self) hk
  have hini' : (Cond.initialized cls).before args s' = true := vx_ot_at hW0 hvm.symm (hgood _ (List.mem_cons_of_mem _ List.mem_cons_self)) hini
  have hU' : vx_Zq Bundle.tN "UNASSIGNED_STACK" Bundle.steD A s' s'.heap := by rw [hhp]; exact vx_Zq.moved hW0.alike (hU.kept hS.2.1)
  have hN' : vx_Zq Bundle.tN "SUPPRESSED_SENTINEL" Bundle.listD A s' s'.heap := by rw [hhp]; exact vx_Zq.moved hW0.alike (hN.kept hS.2.1)
  have h : ∀ w ∈ Bundle.ownAtoms own ic cls names, w.before args s' = true := vx_own hat' (vx_isRefq hU'.1) (vx_isRefq hN'.1) hU'.2.word hN'.2.word
  have hown' : s'.vm.findClass own = some m.cls := by rw [hvm]; exact hown
  have hins : (Cond.instantiable cls 6).before args s' = true := h _ (by simp [Bundle.ownAtoms])
  obtain ⟨vm₁, cX, kX, hfX, hkX, -, -, X₁, st1⟩ := Y.newCold hexec (own := own) (C := cls) (index := ik) (n := 6) hown' hk' hins hini'
    (g := F0 m pc ls rest) rfl (by rw [hb]; exact d0) (Nat.le_refl _) (Nat.le_refl _)
  generalize hT1 : (T.setVm vm₁).pushCell { cls := cX, slots := kX.instanceTypes.map defaultValue, vm := .none } = T1 at X₁ st1
  have hcat : (Value.ref T.heap.size).category = 1 := rfl
  have hcellA : T1.heap[T.heap.size]? = some (freshCell cX kX) := by rw [← hT1]; exact State.heap_pushCell_size _ _
  have d3' : decode c.code (pc + 3) = .ok (.dup, 1) := by rw [hb]; exact d3
  have d4' : decode c.code (pc + 4) = .ok (.ldc is, 2) := by rw [hb]; exact d4
  have hstr' : vk_R own is text sa s' := vk_R.warm hW0 hstr
  obtain ⟨U, hsteps, hrun, hend, hW, hsame, ce, hce, hO⟩ := X₁.ctorThrowS hexec htr (own := own) (cls := cls) (names := names) (ic := ic) hown' hcls hnames h (fun x hx => nomatch hx) hfX hkX hcellA (by rw [hhp, hT]; exact Nat.le_refl _) (msg := .ref sa) rfl
    (g := { method := m, pc := pc + 6, locals := ls, stack := .ref sa :: .ref T.heap.size :: .ref T.heap.size :: rest, locked := none }) rfl hsize rfl rfl (rest := rest) rfl
    (by rw [hb]; exact d6) (by rw [hb]; exact d9) hout hRframes (by simp only [List.map_cons, List.sum_cons, hcat]; omega) hlocks
  obtain ⟨f1, f2⟩ := vx_frame hsame
  rw [hhp] at f1 f2
  have hWs : s.WarmedH U.vm := State.WarmedH.trans hW0 hW
  have hcl : s.vm.findClass cls = some ce.cls := by
    have h9 := hO.cls
    rw [hvm] at h9
    exact h9
  have hall : s.sameButNew ({ U with vm := s.vm } : State) locs mc ms := by
    subst hA
    obtain ⟨e1, e2⟩ := hsame
    rw [State.setFrames_setFrames] at e1
    have h2 : (T.setVm s.vm).sameButNew ({ U with vm := s.vm } : State) [] (0 + 1) (0 + 6) := ⟨e1, e2⟩
    have h3 := X.same.trans h2
    rw [List.append_nil] at h3
    exact h3.mono hc hs
  refine ⟨U, ?_, .threw T.heap.size, hrun, hend, Or.inr ⟨T.heap.size, rfl, cls, ce, locs, hx U hWs.alike f1 (fun q hq => f2 q hq (fun z hz => nomatch hz)), hce, hO.vm, hcl, hWs, hall, hf⟩⟩
  refine st1 _ ?_
  show Steps p.tables e below (T1.setTop { method := m, pc := pc + 3, locals := ls, stack := .ref T.heap.size :: rest, locked := none }) _
  jvm_step X₁.here [X₁.here.top, hexec, d3', Value.category]
  exact X₁.ldcString hexec (own := own) (text := text) (index := is) (a := sa) hown' hstr'.1 hstr'.2
    (g := { method := m, pc := pc + 4, locals := ls, stack := .ref T.heap.size :: .ref T.heap.size :: rest, locked := none }) rfl d4' _ hsteps
/-- 'throw new E("text")', the text by a wide index -/
theorem vx_throwSW {cc : ByteArray} {pc : Nat} (hexec : p.tables.exec = Jvm.exec) (hb : c.code = cc) (hl : l.stackTraces = false) {own cls text : String} {names : List String} {ik is ic mc ms sa : Nat} {A : Nat → Prop}
    (hown : s.vm.findClass own = some m.cls) (hcls : Bundle.fit cls = true) (hnames : ∀ n ∈ names, Bundle.fit n = true)
    (hk : (Cond.classLink own ik cls).before args s = true) (hini : (Cond.initialized cls).before args s = true) (hstr : vk_R own is text sa s) (hat : ∀ w ∈ vx_atS own ic cls names, w.before args s = true)
    (hgood : ∀ w ∈ Cond.classLink own ik cls :: Cond.initialized cls :: vx_atS own ic cls names, vx_ot w = true)
    (hU : vx_Zq Bundle.tN "UNASSIGNED_STACK" Bundle.steD A s s.heap) (hN : vx_Zq Bundle.tN "SUPPRESSED_SENTINEL" Bundle.listD A s s.heap) (hS : va_S A s.heap H locs) (hsize : ls.size = c.maxLocals)
    (d0 : decode cc pc = .ok (.new ik, 3)) (d3 : decode cc (pc + 3) = .ok (.dup, 1)) (d4 : decode cc (pc + 4) = .ok (.ldc_w is, 3)) (d7 : decode cc (pc + 7) = .ok (.invokespecial ic, 3)) (d10 : decode cc (pc + 10) = .ok (.athrow, 1))
    (hout : ∀ x ∈ c.exceptionTable.toList, covers x (pc + 10) = false)
    (hRframes : names.length + 3 < R.frames) (hRlocals : (rest.map fun v => v.category).sum + (13 * (names.length + 1) + 43) ≤ R.locals) (hRcells : cells + 1 ≤ R.cells) (hRslots : slots + 6 ≤ R.slots) (hlocks : meth.locks = false)
    (hx : ∀ t : State, s.vm.Alike t.vm → H.size ≤ t.heap.size → (∀ q : Nat, q < H.size → t.heap[q]? = H[q]?) → XC cls s t)
    (hf : ∀ z ∈ locs, free z.base) (hc : cells + 1 ≤ mc) (hs : slots + 6 ≤ ms) :
    W p l e R s m args below meth c H locs cells slots (vx_MQ below Qc XC args s mc ms free) (F0 m pc ls rest) := by
  intro T hT X
  have htr : e.platform.stackTraces = false := (show e.platform.stackTraces = l.stackTraces by rw [X.admits.platform]).trans hl
  have Y := vx_rebase X (R' := { frames := R.frames, locals := R.locals, cells := 1, slots := 6 }) (Nat.le_refl _) (Nat.le_refl _) hRcells hRslots
  obtain ⟨s', hA⟩ : ∃ z, z = (T.setVm s.vm).setFrames (.invoking m args :: below) := ⟨_, rfl⟩
  rw [← hA] at Y
  have hvm : s'.vm = s.vm := by rw [hA]; rfl
  have hhp : s'.heap = H := by rw [hA]; exact hT
  have hW0 : s.WarmedH s'.vm := by rw [hvm]; exact State.WarmedH.refl s
  have hat' : ∀ w ∈ vx_atS own ic cls names, w.before args s' = true := fun w hw => vx_ot_at hW0 hvm.symm (hgood w (List.mem_cons_of_mem _ (List.mem_cons_of_mem _ hw))) (hat w hw)
  have hk' : (Cond.classLink own ik cls).before args s' = true := vx_ot_at hW0 hvm.symm (hgood _ List.mem_cons_self) hk
  have hini' : (Cond.initialized cls).before args s' = true := vx_ot_at hW0 hvm.symm (hgood _ (List.mem_cons_of_mem _ List.mem_cons_self)) hini
  have hU' : vx_Zq Bundle.tN "UNASSIGNED_STACK" Bundle.steD A s' s'.heap := by rw [hhp]; exact vx_Zq.moved hW0.alike (hU.kept hS.2.1)
  have hN' : vx_Zq Bundle.tN "SUPPRESSED_SENTINEL" Bundle.listD A s' s'.heap := by rw [hhp]; exact vx_Zq.moved hW0.alike (hN.kept hS.2.1)
  have h : ∀ w ∈ Bundle.ownAtoms own ic cls names, w.before args s' = true := vx_own hat' (vx_isRefq hU'.1) (vx_isRefq hN'.1) hU'.2.word hN'.2.word
  have hown' : s'.vm.findClass own = some m.cls := by rw [hvm]; exact hown
  have hins : (Cond.instantiable cls 6).before args s' = true := h _ (by simp [Bundle.ownAtoms])
  obtain ⟨vm₁, cX, kX, hfX, hkX, -, -, X₁, st1⟩ := Y.newCold hexec (own := own) (C := cls) (index := ik) (n := 6) hown' hk' hins hini'
    (g := F0 m pc ls rest) rfl (by rw [hb]; exact d0) (Nat.le_refl _) (Nat.le_refl _)
  generalize hT1 : (T.setVm vm₁).pushCell { cls := cX, slots := kX.instanceTypes.map defaultValue, vm := .none } = T1 at X₁ st1
  have hcat : (Value.ref T.heap.size).category = 1 := rfl
  have hcellA : T1.heap[T.heap.size]? = some (freshCell cX kX) := by rw [← hT1]; exact State.heap_pushCell_size _ _
  have d3' : decode c.code (pc + 3) = .ok (.dup, 1) := by rw [hb]; exact d3
  have d4' : decode c.code (pc + 4) = .ok (.ldc_w is, 3) := by rw [hb]; exact d4
  have hstr' : vk_R own is text sa s' := vk_R.warm hW0 hstr
  obtain ⟨U, hsteps, hrun, hend, hW, hsame, ce, hce, hO⟩ := X₁.ctorThrowS hexec htr (own := own) (cls := cls) (names := names) (ic := ic) hown' hcls hnames h (fun x hx => nomatch hx) hfX hkX hcellA (by rw [hhp, hT]; exact Nat.le_refl _) (msg := .ref sa) rfl
    (g := { method := m, pc := pc + 7, locals := ls, stack := .ref sa :: .ref T.heap.size :: .ref T.heap.size :: rest, locked := none }) rfl hsize rfl rfl (rest := rest) rfl
    (by rw [hb]; exact d7) (by rw [hb]; exact d10) hout hRframes (by simp only [List.map_cons, List.sum_cons, hcat]; omega) hlocks
  obtain ⟨f1, f2⟩ := vx_frame hsame
  rw [hhp] at f1 f2
  have hWs : s.WarmedH U.vm := State.WarmedH.trans hW0 hW
  have hcl : s.vm.findClass cls = some ce.cls := by
    have h9 := hO.cls
    rw [hvm] at h9
    exact h9
  have hall : s.sameButNew ({ U with vm := s.vm } : State) locs mc ms := by
    subst hA
    obtain ⟨e1, e2⟩ := hsame
    rw [State.setFrames_setFrames] at e1
    have h2 : (T.setVm s.vm).sameButNew ({ U with vm := s.vm } : State) [] (0 + 1) (0 + 6) := ⟨e1, e2⟩
    have h3 := X.same.trans h2
    rw [List.append_nil] at h3
    exact h3.mono hc hs
  refine ⟨U, ?_, .threw T.heap.size, hrun, hend, Or.inr ⟨T.heap.size, rfl, cls, ce, locs, hx U hWs.alike f1 (fun q hq => f2 q hq (fun z hz => nomatch hz)), hce, hO.vm, hcl, hWs, hall, hf⟩⟩
  refine st1 _ ?_
  show Steps p.tables e below (T1.setTop { method := m, pc := pc + 3, locals := ls, stack := .ref T.heap.size :: rest, locked := none }) _
  jvm_step X₁.here [X₁.here.top, hexec, d3', Value.category]
  exact X₁.ldcStringW hexec (own := own) (text := text) (index := is) (a := sa) hown' hstr'.1 hstr'.2
    (g := { method := m, pc := pc + 4, locals := ls, stack := .ref T.heap.size :: .ref T.heap.size :: rest, locked := none }) rfl d4' _ hsteps
end Ends
section Bodies
variable {l : Launch}
theorem vx_ofW {y : MethodName} {ws ws' : List Cond} {rm : Room} {Pc : Array Value → State → Prop} {Qc : Array Value → State → Outcome → State → Prop} {XC : String → State → State → Prop} {mc ms : Nat} {free : Addr → Prop} {cc : ByteArray} {maxL : Nat} {ret : Option FieldType}
    (hy : plainName y.cls = true) (hw : ws = Cond.code y cc maxL ret :: ws')
    (body : ∀ p e s m args below meth c s₁, BodyLoose p l y (headSpec ws rm) cc maxL ret e s m args below meth c s₁ → c.maxLocals = maxL → (∀ x ∈ c.exceptionTable.toList, False) → Pc args s →
      W p l e (headSpec ws rm).room s m args below meth c s.heap [] 0 0 (vx_MQ below Qc XC args s mc ms free) (entryFrame m args maxL)) : vx_Met l y ws rm Pc Qc XC mc ms free := by
  refine MetFree.of_bodyS (code := cc) (maxLocals := maxL) (ret := ret) hy ?_ ?_
  · intro args s m h hn
    obtain ⟨meth, c, h1, h2, h3, h4, h5, h6, -, -⟩ := Cond.code_spec hn (atoms_spec (ws := ws) h _ (by rw [hw]; exact List.mem_cons_self))
    exact ⟨meth, c, h1, h2, h3, h4, h5, h6⟩
  · intro p e s m args below meth c s₁ B hml hP _
    have hh0 : s₁.heap = s.heap := by rw [B.state]; rfl
    have ht : ∀ x ∈ c.exceptionTable.toList, False := by
      obtain ⟨meth9, c9, h1, h2, -, -, -, -, h7, -⟩ := Cond.code_spec B.named (atoms_spec (ws := ws) B.pre _ (by rw [hw]; exact List.mem_cons_self))
      cases Option.some.inj (h1.symm.trans B.method)
      cases Option.some.inj (h2.symm.trans (Stand.of_body B).code)
      intro x hx
      rw [Array.isEmpty_iff.mp h7] at hx
      cases hx
    obtain ⟨t, a1, o, b1, b2, b3⟩ := body p e s m args below meth c s₁ B hml ht hP s₁ hh0 (Stand.of_body B)
    exact ⟨t, o, a1, b1, b2, b3⟩
/-- the table of a body with handlers -/
theorem vx_table {p : Program} {x y : MethodName} {S : Spec} {cc bytes : ByteArray} {maxL maxL' : Nat} {ret ret' : Option FieldType} {e : Env} {s s₁ : State} {m : MethodId} {args : Array Value} {below : List Frame} {meth : Method} {c : Code} {hh : List (Nat × Nat × Nat × Nat)}
    (B : BodyLoose p l y S cc maxL ret e s m args below meth c s₁) (h : (Cond.codeWith y bytes maxL' ret' hh).before args s = true) : c.exceptionTable.toList = tableOf hh := by
  obtain ⟨m9, meth9, c9, hn9, h1, h2, -, -, h6, -⟩ := Cond.codeWith_spec h
  cases Option.some.inj (hn9.symm.trans B.named)
  cases Option.some.inj (h1.symm.trans B.method)
  cases Option.some.inj (h2.symm.trans (Stand.of_body B).code)
  rw [← h6, table_eq]
end Bodies
end VXA
/-! ===== END ===== -/
/-! ===== BEGIN a static call of a method with an exception table ===== -/
section VXS
variable {p : Program} {l : Launch} {e : Env} {R : Room} {s : State} {m : MethodId} {args : Array Value} {below : List Frame} {meth : Method} {c : Code} {T : State} {H : Heap} {locs : List Loc} {cells slots : Nat}
abbrev vx_CSW (R : Room) (s : State) (args : Array Value) (own : String) (index : Nat) (y : MethodName) (bytes : ByteArray) (maxL : Nat) (ret : Option FieldType) (hh : List (Nat × Nat × Nat × Nat)) (ws : List Cond) (rm : Room) (mc ms n : Nat) : Prop :=
  (rm.cells = mc ∧ rm.slots = ms ∧ rm.frames + 1 ≤ R.frames ∧ 8 + (maxL + 11) + rm.locals ≤ R.locals ∧ (∀ w ∈ ws, ∀ (a' : Array Value) (U : State), s.WarmedH U.vm → w.before a' U = true) ∧ Cond.codeWith y bytes maxL ret hh ∈ ws) ∧
  (Cond.codeWith y bytes maxL ret hh).before args s = true ∧ (Cond.initialized y.cls).before args s = true ∧ (y.cls ≠ "java/lang/invoke/MethodHandle" ∧ y.cls ≠ "java/lang/invoke/VarHandle") ∧
  (∀ sig, parseMethodDescriptor y.desc = some sig → n = sig.parameters.length) ∧ (Cond.methodLink own index y).before args s = true ∧ (Cond.static y).before args s = true
theorem vx_cwSW {own : String} {index maxL mc ms : Nat} {y : MethodName} {bytes : ByteArray} {ret : Option FieldType} {hh : List (Nat × Nat × Nat × Nat)} {Ts ws ws' : List Cond} {rm : Room} (n : Nat) (ht : ∀ w ∈ Ts, w.before args s = true) (hT : GoodIn Ts (va_wsS own index y ws)) (hw : ws = Cond.codeWith y bytes maxL ret hh :: ws') (hrc : rm.cells = mc) (hrs : rm.slots = ms)
    (hd : y.cls ≠ "java/lang/invoke/MethodHandle" ∧ y.cls ≠ "java/lang/invoke/VarHandle" ∧ (parseMethodDescriptor y.desc).map (fun d => d.parameters.length) = some n) (hR : rm.frames + 1 ≤ R.frames ∧ 8 + (maxL + 11) + rm.locals ≤ R.locals) :
    vx_CSW R s args own index y bytes maxL ret hh ws rm mc ms n := by
  have ok : ∀ w ∈ va_wsS own index y ws, w.before args s = true := fun w h => ht w (hT w h).1
  have hG : GoodIn Ts ws := fun w h => hT w (by unfold va_wsS; exact List.mem_append_right _ h)
  have hc : Cond.codeWith y bytes maxL ret hh ∈ ws := by rw [hw]; exact List.mem_cons_self
  refine ⟨⟨hrc, hrs, hR.1, hR.2, pay_in ht hG, hc⟩, ht _ (hG _ hc).1, ok _ (by simp [va_wsS]), ⟨hd.1, hd.2.1⟩, fun sig h => ?_, ok _ (by simp [va_wsS]), ok _ (by simp [va_wsS])⟩
  have h2 := hd.2.2
  rw [h] at h2
  exact (Option.some.inj h2).symm
theorem vx_callSW (X : Stand p l e R s m args below meth c T locs cells slots) (hexec : p.tables.exec = Jvm.exec) {own : String} {index : Nat} {y : MethodName} {bytes : ByteArray} {maxL : Nat} {ret : Option FieldType} {hh : List (Nat × Nat × Nat × Nat)}
    (hown : s.vm.findClass own = some m.cls) (hlink : (Cond.methodLink own index y).before args s = true) (hstat : (Cond.static y).before args s = true) (hinit : (Cond.initialized y.cls).before args s = true)
    (hcode : (Cond.codeWith y bytes maxL ret hh).before args s = true) (hy : y.cls ≠ "java/lang/invoke/MethodHandle" ∧ y.cls ≠ "java/lang/invoke/VarHandle")
    {W9 : Nat} {Pre : Pt → Array Value → Prop} {Post : Pt → Array Value → Option Value → Pt → Prop} (hK : Back l R p e below s args y 3 W9 Pre Post)
    {g : JFrame} (hg : g.method = m) (hsize : g.locals.size = c.maxLocals) {argsL rest : List Value} (hlen : ∀ sig, parseMethodDescriptor y.desc = some sig → argsL.length = sig.parameters.length)
    (hstack : g.stack = argsL.reverse ++ rest) (hW : 2 * g.monitorRoom + (rest.map fun v => v.category).sum ≤ W9) (hdg : decode c.code g.pc = .ok (.invokestatic index, 3))
    (hpre : ∀ vm₁, s.WarmedH vm₁ → Pre ⟨T.setVm vm₁, locs, cells, slots⟩ argsL.toArray) :
    ∃ (v : Option Value) (vm₁ : Vm) (B : Pt), s.WarmedH vm₁ ∧ Stand p l e R s m args below meth c B.U B.locs B.cells B.slots ∧ Post ⟨T.setVm vm₁, locs, cells, slots⟩ argsL.toArray v B ∧
      ∀ target, Steps p.tables e below (B.U.setTop { g with pc := g.pc + 3, stack := v.toList ++ rest }) target → Steps p.tables e below (T.setTop g) target := by
  obtain ⟨mk, methM, cM, hnamed, hmethM, -, -, -, -, -, -, hsigM⟩ := Cond.codeWith_spec hcode
  have hstatic : methM.isStatic = true := Cond.static_spec hnamed hmethM hstat
  obtain ⟨kP, hkP, -⟩ := className_of_methodNamed hnamed
  have hinitP : kP.init = .initialized := Cond.initialized_spec (findClass_of_methodNamed hnamed) hkP hinit
  obtain ⟨vm₁, X₁, hstep₁⟩ := X.invokestatic hexec hown hlink hnamed hmethM hstatic hkP hinitP hy (g := g) hg (argsL := argsL) (rest := rest) (hlen _ hsigM) hstack hdg
  obtain ⟨v, B, X', hpost, hsteps⟩ := hK m meth c ⟨T.setVm vm₁, locs, cells, slots⟩ { g with stack := rest } (.invokestatic index) mk argsL.toArray X₁ hg hsize hdg hW (X₁.named hnamed) (hpre vm₁ X₁.warmed)
  exact ⟨v, vm₁, B, X₁.warmed, X', hpost, fun target h => hstep₁ _ fun acts => by rw [doInvoke_state]; exact hsteps.trans h⟩
theorem vx_runSW {y : MethodName} {bytes cc : ByteArray} {maxL nL mc ms n index : Nat} {ret : Option FieldType} {hh : List (Nat × Nat × Nat × Nat)} {ws : List Cond} {rm : Room} {Pc : Array Value → State → Prop} {Qc : Array Value → State → Outcome → State → Prop} {free : Addr → Prop} {Ts : List Cond} {own : String} {As rest : List Value} {g : JFrame}
    (S : CallFix p m c cc nL s args Ts own) (hM : Met l y ws rm Pc Qc mc ms free) (cw : vx_CSW R s args own index y bytes maxL ret hh ws rm mc ms n) (hp : PreS s H Pc As)
    (hg : g.method = m) (hn : As.length = n) (hsize : g.locals.size = nL) (hstack : g.stack = As.reverse ++ rest) (hW : 2 * g.monitorRoom + (rest.map fun v => v.category).sum ≤ 8) (hdg : decode cc g.pc = .ok (.invokestatic index, 3)) (hf : cells + mc ≤ R.cells ∧ slots + ms ≤ R.slots) :
    va_Run p l e R s m args below meth c H locs cells slots mc ms g rest (Qc As.toArray) (free) := by
  obtain ⟨⟨hrc, hrs, hfr, hlo, hws, hcw⟩, hcode, hini, hy, hlen, hl, hstt⟩ := cw
  have hK : Back l R p e below s args y 3 8 (PreOf R mc ms Pc) (PostOf Qc mc ms free) := va_backW (hh := hh) (bytes := bytes) (maxL := maxL) (ret := ret) hM hp.1 hrc hrs hfr hlo hws hcw (fun a' U hW => word_at hW (Or.inl (by first | rfl | simp [Cond.onTables, Cond.keeps, Cond.steady])) hini)
  obtain ⟨hx, hb, hml, ho, -⟩ := S
  intro T hT X
  obtain ⟨v, vm₁, ⟨U', l2, c2, s2⟩, hW₁, X', ⟨g', mk, t, L, e1, e2, hq, h1, hL, h2, h3⟩, st⟩ := vx_callSW X hx (hh := hh) (bytes := bytes) (maxL := maxL) (ret := ret) ho hl hstt hini hcode hy hK hg (hsize.trans hml.symm) (argsL := As) (rest := rest) (fun sig h => hn.trans (hlen sig h)) hstack hW (by rw [hb]; exact hdg)
    (fun vm₁ hW₁ => ⟨hf.1, hf.2, hp.2 (T.setVm vm₁) hT hW₁⟩)
  dsimp only [Pt.U, Pt.locs, Pt.cells, Pt.slots] at X' e1 e2 h1 h2 h3 st
  subst h1; subst h2; subst h3
  exact ⟨v, (T.setVm vm₁).calling g' mk As.toArray, t, U', L, hT, X', hL, e1, e2, hq, st⟩
/-- not caught here, past rows that name other classes: it goes on to the caller -/
theorem vx_outP {p : Program} {l : Launch} {e : Env} {R : Room} {s : State} {m : MethodId} {args : Array Value} {below : List Frame} {meth : Method} {c : Code} {H : Heap} {locs : List Loc} {cells slots : Nat} {free : Addr → Prop} {ls : Array Slot} {rest : List Value} {Qc : Array Value → State → Outcome → State → Prop} {XC : String → State → State → Prop}
    {pc : Nat} {own E : String} {ce : Cell} {q : Addr} {mc ms : Nat} (hown : s.vm.findClass own = some m.cls) (hlocks : meth.locks = false)
    (hpass : ∀ z ∈ c.exceptionTable.toList, covers z pc = false ∨ (z.catchType ≠ 0 ∧ ∃ nm : String, (Cond.classLink own z.catchType nm).before args s = true ∧ va_Nc E nm s)) (hcell : H[q]? = some ce) (hv : ce.vm = .none) (hcl : s.vm.findClass E = some ce.cls)
    (hx : ∀ t : State, t.heap = H → s.vm.Alike t.vm → XC E s t) (hf : ∀ z ∈ locs, free z.base) (hc : cells ≤ mc) (hs : slots ≤ ms) :
    vx_W p l e R s m args below meth c H locs cells slots (vx_MQ below Qc XC args s mc ms free) (F0 m pc ls rest) q := by
  intro T hT X
  have hpl : e.platform.magicAccessors = ({} : Platform).magicAccessors := by rw [X.admits.platform]
  obtain ⟨vm', hW', X', st⟩ := X.outThrough hlocks q (g := F0 m pc ls rest) rfl rfl rfl (cell := ce) (by rw [hT]; exact hcell) (by rw [hv]; rfl)
    (by obtain ⟨k9, h9, -⟩ := Vm.findClass_spec hcl; exact ⟨k9, h9⟩) (fun z hz => by
      rcases hpass z hz with h | ⟨hz0, nm, hl1, hn1⟩
      · exact Or.inl h
      · obtain ⟨c6, hc6, hcl6⟩ := Cond.classLink_spec hown hl1 e.platform hpl
        obtain ⟨a8, b8, h1, h2, h3⟩ := hn1
        cases Option.some.inj (h1.symm.trans hcl)
        cases Option.some.inj (h2.symm.trans hc6)
        exact Or.inr ⟨hz0, _, hcl6, h3⟩)
  obtain ⟨g₀, hfr⟩ := X'.frames_eq
  have hcell9 : ((T.setVm vm').setFrames (.throwing q :: below)).heap[q]? = some ce := by
    show T.heap[q]? = some ce
    rw [hT]; exact hcell
  have hend : Ended ((T.setVm vm').setFrames (.throwing q :: below)) below (.threw q) := State.frames_setFrames _ (State.cur_lt_of_frames hfr)
  refine ⟨(T.setVm vm').setFrames (.throwing q :: below), ?_, .threw q, X'.here.running, hend, Or.inr ⟨q, rfl, E, ce, locs, hx _ hT (X'.ends _).1.alike, hcell9, hv, hcl, (X'.ends _).1, (X'.ends _).2.mono hc hs, hf⟩⟩
  rw [X.pushThrowing_eq]
  exact st
/-- a thing of a world lies in the heap -/
theorem vx_lt {D : va_G} {cl : List vw_C} {ws : va_W} {H1 : Heap} (h : va_P D cl ws H1) {k : Nat} {q : Nat × va_E} (hk : ws[k]? = some q) : q.1 < H1.size := (h k q hk).lt
end VXS
/-! ===== END ===== -/
/-! ===== BEGIN methods with a table of their own: called by a name, returning or throwing ===== -/
section VXH
/-! vx_backW, vx_callVX, vx_callSX, vx_callVW, vx_runVW, vx_runVX, vx_runSX, vx_ofWH follow the same proofs as their sisters above (Free/Laws.lean, Shelf42/LK1.lean); vx_outP calls Shelf42/NT130.lean (outThrough). -/
section
variable {l : Launch} {R : Room} {p : Program} {e : Env} {below : List Frame} {s : State} {sargs : Array Value} {y : MethodName} {len W9 : Nat}
theorem vx_backW {ws : List Cond} {rm : Room} {Pc : Array Value → State → Prop} {Qc : Array Value → State → Outcome → State → Prop} {XC : String → State → State → Prop} {mc ms : Nat} {free : Addr → Prop} {bytes : ByteArray} {maxL : Nat} {ret : Option FieldType} {hh : List (Nat × Nat × Nat × Nat)}
    (hM : vx_Met l y ws rm Pc Qc XC mc ms free) (hblind : FrameBlind Pc) (hrc : rm.cells = mc) (hrs : rm.slots = ms)
    (hframes : rm.frames + 1 ≤ R.frames) (hlocals : W9 + (maxL + 11) + rm.locals ≤ R.locals)
    (hws : ∀ w ∈ ws, ∀ a' U, s.WarmedH U.vm → w.before a' U = true) (hcode : Cond.codeWith y bytes maxL ret hh ∈ ws) (hinit : ∀ a' U, s.WarmedH U.vm → (Cond.initialized y.cls).before a' U = true) :
    vx_Back l R p e below s sargs y len W9 (PreOf R mc ms Pc) (PostOf Qc mc ms free) (vx_Post XC mc ms free) := by
  intro m meth c A g ig mk a X hg hsize hdg hW hn hp
  have h1 : (headSpec ws rm).pre.before a A.U = true := atoms_intro fun w hw => hws w hw _ _ X.warmed
  have h2 : (Cond.codeWith y bytes maxL ret hh).before a A.U = true := hws _ hcode _ _ X.warmed
  have h3 : (Cond.initialized y.cls).before a A.U = true := hinit _ _ X.warmed
  have h4 : A.cells + (headSpec ws rm).room.cells ≤ R.cells := by rw [show (headSpec ws rm).room.cells = mc from hrc]; exact hp.1
  have h5 : A.slots + (headSpec ws rm).room.slots ≤ R.slots := by rw [show (headSpec ws rm).room.slots = ms from hrs]; exact hp.2.1
  have hPc : Pc a (A.U.calling g mk a) := hblind _ _ _ _ hp.2.2
  obtain ⟨U, Ls, c0, s0⟩ := A
  dsimp only [Pt.U, Pt.locs, Pt.cells, Pt.slots] at h1 h2 h3 h4 h5 X hn hPc ⊢
  obtain ⟨m9, methY, cY, hn9, hmY, hcY, -, hlY, -⟩ := Cond.codeWith_spec h2
  cases Option.some.inj (hn9.symm.trans hn)
  obtain ⟨kY, hkY, -⟩ := className_of_methodNamed hn
  have hinitY : kY.init = .initialized := Cond.initialized_spec (findClass_of_methodNamed hn) hkY h3
  have h : At U g.method c below := by rw [hg]; exact X.here
  have hlocals9 : W9 + (maxL + 11) + (headSpec ws rm).room.locals ≤ R.locals := hlocals
  have happ : (headSpec ws rm).appliesLoose y e.platform (U.calling g mk a) = true :=
    Spec.appliesLoose_calling (g := g) h hdg hn hkY hinitY
      (X.room_calling (g := g) (R' := (headSpec ws rm).room) hsize hmY hcY hframes (by rw [hlY]; omega) h4 h5) h1
  obtain ⟨mid, hmid⟩ := h.above
  have hfr : (U.setTop g).frames = (.java g :: mid) ++ below := by rw [State.frames_setTop' g h.top, hmid]; rfl
  obtain ⟨o, s₂, hsteps, -, hend, hq⟩ := Steps.callFree hM p X.admits X.cas X.clock (acts := []) hfr happ hPc trivial
  have hq' : vx_Q Qc XC mc ms free a (U.calling g mk a) o s₂ := hq
  rw [State.frames_setTop' g h.top] at hend
  obtain ⟨g₀, hg0⟩ := Option.isSome_iff_exists.mp h.top
  obtain ⟨r, hr⟩ := State.topJava?_eq_some.mp hg0
  have hr' : (({ U with heap := s₂.heap, slotsUsed := s₂.slotsUsed } : State).setVm s₂.vm).frames = .java g₀ :: r := hr
  rcases hq' with ⟨hqc, L, hfe, hL⟩ | ⟨q, rfl, E, ce, L, hx, hce, hcv, hcl, hW₂, hsm, hL⟩
  · obtain ⟨⟨v, rfl⟩, hW₂, e2, q2, q3, q4, q5, q6⟩ := id hfe
    have e3 : s₂ = ({ (U.calling g mk a).setFrames s₂.frames with heap := s₂.heap, slotsUsed := s₂.slotsUsed } : State).setVm s₂.vm := by
      have : s₂ = ({ s₂ with vm := (U.calling g mk a).vm } : State).setVm s₂.vm := rfl
      rw [e2] at this
      exact this
    obtain ⟨c₂, i₂, len₂, hc₂, hd₂, hf₂⟩ := hend
    have hW' : U.WarmedH s₂.vm := hW₂
    have hcc : c₂ = c := by
      have h1 : s₂.code? g.method = U.code? g.method := by
        rw [State.code?_eq, State.code?_eq, hW'.alike.method?]
      exact Option.some.inj (hc₂.symm.trans (h1.trans h.code))
    subst hcc
    have hlen : len₂ = len := by rw [hdg] at hd₂; cases hd₂; rfl
    subst hlen
    have hs₂ : s₂ = (({ U with heap := s₂.heap, slotsUsed := s₂.slotsUsed } : State).setVm s₂.vm).setTop { g with pc := g.pc + len₂, stack := v.toList ++ g.stack } := by
      refine e3.trans ?_
      rw [hf₂, State.calling_eq h.top, State.setFrames_setFrames, State.setTop_of_frames _ hr', hr]
      rfl
    have hsame : U.sameButNew ({ U with heap := s₂.heap, slotsUsed := s₂.slotsUsed } : State) L mc ms := by
      refine ⟨?_, q2, q3, q4, q5, q6⟩
      obtain ⟨t, ht, -⟩ := State.frames_cons hr
      show ({ U with heap := s₂.heap, slotsUsed := s₂.slotsUsed } : State) = { U.setFrames U.frames with heap := s₂.heap, slotsUsed := s₂.slotsUsed }
      rw [State.setFrames_self ht]
    subst hg
    refine Or.inl ⟨v, ⟨(({ U with heap := s₂.heap, slotsUsed := s₂.slotsUsed } : State).setVm s₂.vm), Ls ++ L, c0 + mc, s0 + ms⟩,
      ⟨X.admits, X.cas, X.clock, X.frames, X.room, X.hears, X.method, X.code, (X.here.setHeapUsed s₂.heap s₂.slotsUsed).setVm hW'.alike, X.tail, State.WarmedH.trans X.warmed hW', X.limits, X.bytes, X.same.trans (hsame.setVm s.vm)⟩,
      ⟨g, mk, s₂, L, rfl, rfl, hqc, rfl, hL, rfl, rfl⟩, ?_⟩
    show Steps p.tables e below _ ((({ U with heap := s₂.heap, slotsUsed := s₂.slotsUsed } : State).setVm s₂.vm).setTop { g with pc := g.pc + len₂, stack := v.toList ++ g.stack })
    rw [← hs₂]
    exact hsteps
  · obtain ⟨e2, q2, q3, q4, q5, q6⟩ := id hsm
    have e3 : s₂ = ({ (U.calling g mk a).setFrames s₂.frames with heap := s₂.heap, slotsUsed := s₂.slotsUsed } : State).setVm s₂.vm := by
      have : s₂ = ({ s₂ with vm := (U.calling g mk a).vm } : State).setVm s₂.vm := rfl
      rw [e2] at this
      exact this
    have hf₂ : s₂.frames = .throwing q :: .java g :: U.frames.tail := hend
    have hW' : U.WarmedH s₂.vm := hW₂
    have hs₂ : s₂ = ((({ U with heap := s₂.heap, slotsUsed := s₂.slotsUsed } : State).setVm s₂.vm).setTop g).pushFrame (.throwing q) := by
      refine e3.trans ?_
      rw [hf₂, State.calling_eq h.top, State.setFrames_setFrames, State.pushFrame, State.frames_setTop _ hr', State.setTop_of_frames _ hr', State.setFrames_setFrames, hr]
      rfl
    have hsame : U.sameButNew ({ U with heap := s₂.heap, slotsUsed := s₂.slotsUsed } : State) L mc ms := by
      refine ⟨?_, q2, q3, q4, q5, q6⟩
      obtain ⟨t, ht, -⟩ := State.frames_cons hr
      show ({ U with heap := s₂.heap, slotsUsed := s₂.slotsUsed } : State) = { U.setFrames U.frames with heap := s₂.heap, slotsUsed := s₂.slotsUsed }
      rw [State.setFrames_self ht]
    subst hg
    refine Or.inr ⟨q, ⟨(({ U with heap := s₂.heap, slotsUsed := s₂.slotsUsed } : State).setVm s₂.vm), Ls ++ L, c0 + mc, s0 + ms⟩,
      ⟨X.admits, X.cas, X.clock, X.frames, X.room, X.hears, X.method, X.code, (X.here.setHeapUsed s₂.heap s₂.slotsUsed).setVm hW'.alike, X.tail, State.WarmedH.trans X.warmed hW', X.limits, X.bytes, X.same.trans (hsame.setVm s.vm)⟩,
      ⟨g, mk, s₂, L, E, ce, rfl, rfl, hx, hce, hcv, hcl, rfl, hL, rfl, rfl⟩, ?_⟩
    show Steps p.tables e below _ (((({ U with heap := s₂.heap, slotsUsed := s₂.slotsUsed } : State).setVm s₂.vm).setTop g).pushFrame (.throwing q))
    rw [← hs₂]
    exact hsteps
end
variable {p : Program} {l : Launch} {e : Env} {R : Room} {s : State} {m : MethodId} {args : Array Value} {below : List Frame} {meth : Method} {c : Code} {T : State} {H : Heap} {locs : List Loc} {cells slots : Nat}
theorem vx_callVX (X : Stand p l e R s m args below meth c T locs cells slots) (hexec : p.tables.exec = Jvm.exec) {own C : String} {index : Nat} {y : MethodName} {bytes : ByteArray} {maxL : Nat} {ret : Option FieldType} {hh : List (Nat × Nat × Nat × Nat)}
    (hown : s.vm.findClass own = some m.cls) (hlink : (Cond.methodLink own index y).before args s = true) (hinst : (Cond.instanceMethod y).before args s = true) (hsel : (Cond.selects C y y).before args s = true)
    (hcode : (Cond.codeWith y bytes maxL ret hh).before args s = true) (hy : y.cls ≠ "java/lang/invoke/MethodHandle" ∧ y.cls ≠ "java/lang/invoke/VarHandle")
    {W9 : Nat} {Pre : Pt → Array Value → Prop} {Post : Pt → Array Value → Option Value → Pt → Prop} {PostX : Pt → Array Value → Addr → Pt → Prop} (hK : vx_Back l R p e below s args y 3 W9 Pre Post PostX)
    {b : Addr} {cellB : Cell} (hcell : T.heap[b]? = some cellB) (hobj : cellB.vm.isStatics = false) (hcls : s.vm.findClass C = some cellB.cls)
    {g : JFrame} (hg : g.method = m) (hsize : g.locals.size = c.maxLocals) {argsL rest : List Value} (hlen : ∀ sig, parseMethodDescriptor y.desc = some sig → argsL.length = sig.parameters.length)
    (hstack : g.stack = argsL.reverse ++ .ref b :: rest) (hW : 2 * g.monitorRoom + (rest.map fun v => v.category).sum ≤ W9) (hdg : decode c.code g.pc = .ok (.invokevirtual index, 3))
    (hpre : ∀ vm₁, s.WarmedH vm₁ → Pre ⟨T.setVm vm₁, locs, cells, slots⟩ (Value.ref b :: argsL).toArray) :
    (∃ (v : Option Value) (vm₁ : Vm) (B : Pt), s.WarmedH vm₁ ∧ Stand p l e R s m args below meth c B.U B.locs B.cells B.slots ∧ Post ⟨T.setVm vm₁, locs, cells, slots⟩ (Value.ref b :: argsL).toArray v B ∧
      ∀ target, Steps p.tables e below (B.U.setTop { g with pc := g.pc + 3, stack := v.toList ++ rest }) target → Steps p.tables e below (T.setTop g) target) ∨
    (∃ (q : Addr) (vm₁ : Vm) (B : Pt), s.WarmedH vm₁ ∧ Stand p l e R s m args below meth c B.U B.locs B.cells B.slots ∧ PostX ⟨T.setVm vm₁, locs, cells, slots⟩ (Value.ref b :: argsL).toArray q B ∧
      Steps p.tables e below (T.setTop g) ((B.U.setTop { g with stack := rest }).pushFrame (.throwing q))) := by
  obtain ⟨mk, methM, hnamed, hmethM, hstM, habM⟩ := Cond.instanceMethod_spec hinst
  obtain ⟨m8, methM', cM, hn8, hmethM', -, -, -, -, -, -, hsigM⟩ := Cond.codeWith_spec hcode
  cases Option.some.inj (hn8.symm.trans hnamed)
  cases hmethM.symm.trans hmethM'
  obtain ⟨c2, r2, m2, q1, q2, q3, q4, kP, hkP, hkPi⟩ := Cond.selects_spec hsel
  cases hcls.symm.trans q1
  cases (State.methodFound?_of_named hnamed hy).symm.trans q2
  cases hnamed.symm.trans q3
  have hselP : selectMethod e.platform s.vm cellB.cls mk = .method mk := by rw [Launch.admits_selectMethod X.admits]; exact q4
  obtain ⟨vm₁, X₁, hstep₁⟩ := X.invokevirtual hexec hown hlink hnamed hmethM hstM hkP hkPi hy (a := b) (cell := cellB) hcell
    (fun z h => by rw [h] at hobj; cases hobj) hselP hmethM habM hkP hkPi (g := g) hg (argsL := argsL) (rest := rest) (hlen _ hsigM) hstack hdg
  rcases hK m meth c ⟨T.setVm vm₁, locs, cells, slots⟩ { g with stack := rest } (.invokevirtual index) mk (Value.ref b :: argsL).toArray X₁ hg hsize hdg hW (X₁.named hnamed) (hpre vm₁ X₁.warmed) with ⟨v, B, X', hpost, hsteps⟩ | ⟨q, B, X', hpost, hsteps⟩
  · exact Or.inl ⟨v, vm₁, B, X₁.warmed, X', hpost, fun target h => hstep₁ _ fun acts => by rw [doInvoke_state]; exact hsteps.trans h⟩
  · exact Or.inr ⟨q, vm₁, B, X₁.warmed, X', hpost, hstep₁ _ fun acts => by rw [doInvoke_state]; exact hsteps⟩
theorem vx_callSX (X : Stand p l e R s m args below meth c T locs cells slots) (hexec : p.tables.exec = Jvm.exec) {own : String} {index : Nat} {y : MethodName} {bytes : ByteArray} {maxL : Nat} {ret : Option FieldType} {hh : List (Nat × Nat × Nat × Nat)}
    (hown : s.vm.findClass own = some m.cls) (hlink : (Cond.methodLink own index y).before args s = true) (hstat : (Cond.static y).before args s = true) (hinit : (Cond.initialized y.cls).before args s = true)
    (hcode : (Cond.codeWith y bytes maxL ret hh).before args s = true) (hy : y.cls ≠ "java/lang/invoke/MethodHandle" ∧ y.cls ≠ "java/lang/invoke/VarHandle")
    {W9 : Nat} {Pre : Pt → Array Value → Prop} {Post : Pt → Array Value → Option Value → Pt → Prop} {PostX : Pt → Array Value → Addr → Pt → Prop} (hK : vx_Back l R p e below s args y 3 W9 Pre Post PostX)
    {g : JFrame} (hg : g.method = m) (hsize : g.locals.size = c.maxLocals) {argsL rest : List Value} (hlen : ∀ sig, parseMethodDescriptor y.desc = some sig → argsL.length = sig.parameters.length)
    (hstack : g.stack = argsL.reverse ++ rest) (hW : 2 * g.monitorRoom + (rest.map fun v => v.category).sum ≤ W9) (hdg : decode c.code g.pc = .ok (.invokestatic index, 3))
    (hpre : ∀ vm₁, s.WarmedH vm₁ → Pre ⟨T.setVm vm₁, locs, cells, slots⟩ argsL.toArray) :
    (∃ (v : Option Value) (vm₁ : Vm) (B : Pt), s.WarmedH vm₁ ∧ Stand p l e R s m args below meth c B.U B.locs B.cells B.slots ∧ Post ⟨T.setVm vm₁, locs, cells, slots⟩ argsL.toArray v B ∧
      ∀ target, Steps p.tables e below (B.U.setTop { g with pc := g.pc + 3, stack := v.toList ++ rest }) target → Steps p.tables e below (T.setTop g) target) ∨
    (∃ (q : Addr) (vm₁ : Vm) (B : Pt), s.WarmedH vm₁ ∧ Stand p l e R s m args below meth c B.U B.locs B.cells B.slots ∧ PostX ⟨T.setVm vm₁, locs, cells, slots⟩ argsL.toArray q B ∧
      Steps p.tables e below (T.setTop g) ((B.U.setTop { g with stack := rest }).pushFrame (.throwing q))) := by
  obtain ⟨mk, methM, cM, hnamed, hmethM, -, -, -, -, -, -, hsigM⟩ := Cond.codeWith_spec hcode
  have hstatic : methM.isStatic = true := Cond.static_spec hnamed hmethM hstat
  obtain ⟨kP, hkP, -⟩ := className_of_methodNamed hnamed
  have hinitP : kP.init = .initialized := Cond.initialized_spec (findClass_of_methodNamed hnamed) hkP hinit
  obtain ⟨vm₁, X₁, hstep₁⟩ := X.invokestatic hexec hown hlink hnamed hmethM hstatic hkP hinitP hy (g := g) hg (argsL := argsL) (rest := rest) (hlen _ hsigM) hstack hdg
  rcases hK m meth c ⟨T.setVm vm₁, locs, cells, slots⟩ { g with stack := rest } (.invokestatic index) mk argsL.toArray X₁ hg hsize hdg hW (X₁.named hnamed) (hpre vm₁ X₁.warmed) with ⟨v, B, X', hpost, hsteps⟩ | ⟨q, B, X', hpost, hsteps⟩
  · exact Or.inl ⟨v, vm₁, B, X₁.warmed, X', hpost, fun target h => hstep₁ _ fun acts => by rw [doInvoke_state]; exact hsteps.trans h⟩
  · exact Or.inr ⟨q, vm₁, B, X₁.warmed, X', hpost, hstep₁ _ fun acts => by rw [doInvoke_state]; exact hsteps⟩
theorem vx_callVW (X : Stand p l e R s m args below meth c T locs cells slots) (hexec : p.tables.exec = Jvm.exec) {own C : String} {index : Nat} {y : MethodName} {bytes : ByteArray} {maxL : Nat} {ret : Option FieldType} {hh : List (Nat × Nat × Nat × Nat)}
    (hown : s.vm.findClass own = some m.cls) (hlink : (Cond.methodLink own index y).before args s = true) (hinst : (Cond.instanceMethod y).before args s = true) (hsel : (Cond.selects C y y).before args s = true)
    (hcode : (Cond.codeWith y bytes maxL ret hh).before args s = true) (hy : y.cls ≠ "java/lang/invoke/MethodHandle" ∧ y.cls ≠ "java/lang/invoke/VarHandle")
    {W9 : Nat} {Pre : Pt → Array Value → Prop} {Post : Pt → Array Value → Option Value → Pt → Prop} (hK : Back l R p e below s args y 3 W9 Pre Post)
    {b : Addr} {cellB : Cell} (hcell : T.heap[b]? = some cellB) (hobj : cellB.vm.isStatics = false) (hcls : s.vm.findClass C = some cellB.cls)
    {g : JFrame} (hg : g.method = m) (hsize : g.locals.size = c.maxLocals) {argsL rest : List Value} (hlen : ∀ sig, parseMethodDescriptor y.desc = some sig → argsL.length = sig.parameters.length)
    (hstack : g.stack = argsL.reverse ++ .ref b :: rest) (hW : 2 * g.monitorRoom + (rest.map fun v => v.category).sum ≤ W9) (hdg : decode c.code g.pc = .ok (.invokevirtual index, 3))
    (hpre : ∀ vm₁, s.WarmedH vm₁ → Pre ⟨T.setVm vm₁, locs, cells, slots⟩ (Value.ref b :: argsL).toArray) :
    ∃ (v : Option Value) (vm₁ : Vm) (B : Pt), s.WarmedH vm₁ ∧ Stand p l e R s m args below meth c B.U B.locs B.cells B.slots ∧ Post ⟨T.setVm vm₁, locs, cells, slots⟩ (Value.ref b :: argsL).toArray v B ∧
      ∀ target, Steps p.tables e below (B.U.setTop { g with pc := g.pc + 3, stack := v.toList ++ rest }) target → Steps p.tables e below (T.setTop g) target := by
  obtain ⟨mk, methM, hnamed, hmethM, hstM, habM⟩ := Cond.instanceMethod_spec hinst
  obtain ⟨m8, methM', cM, hn8, hmethM', -, -, -, -, -, -, hsigM⟩ := Cond.codeWith_spec hcode
  cases Option.some.inj (hn8.symm.trans hnamed)
  cases hmethM.symm.trans hmethM'
  obtain ⟨c2, r2, m2, q1, q2, q3, q4, kP, hkP, hkPi⟩ := Cond.selects_spec hsel
  cases hcls.symm.trans q1
  cases (State.methodFound?_of_named hnamed hy).symm.trans q2
  cases hnamed.symm.trans q3
  have hselP : selectMethod e.platform s.vm cellB.cls mk = .method mk := by rw [Launch.admits_selectMethod X.admits]; exact q4
  obtain ⟨vm₁, X₁, hstep₁⟩ := X.invokevirtual hexec hown hlink hnamed hmethM hstM hkP hkPi hy (a := b) (cell := cellB) hcell
    (fun z h => by rw [h] at hobj; cases hobj) hselP hmethM habM hkP hkPi (g := g) hg (argsL := argsL) (rest := rest) (hlen _ hsigM) hstack hdg
  obtain ⟨v, B, X', hpost, hsteps⟩ := hK m meth c ⟨T.setVm vm₁, locs, cells, slots⟩ { g with stack := rest } (.invokevirtual index) mk (Value.ref b :: argsL).toArray X₁ hg hsize hdg hW (X₁.named hnamed) (hpre vm₁ X₁.warmed)
  exact ⟨v, vm₁, B, X₁.warmed, X', hpost, fun target h => hstep₁ _ fun acts => by rw [doInvoke_state]; exact hsteps.trans h⟩
abbrev vx_CVW (R : Room) (s : State) (args : Array Value) (own C : String) (index : Nat) (y : MethodName) (bytes : ByteArray) (maxL : Nat) (ret : Option FieldType) (hh : List (Nat × Nat × Nat × Nat)) (ws : List Cond) (rm : Room) (mc ms n : Nat) : Prop :=
  (rm.cells = mc ∧ rm.slots = ms ∧ rm.frames + 1 ≤ R.frames ∧ 8 + (maxL + 11) + rm.locals ≤ R.locals ∧ (∀ w ∈ ws, ∀ (a' : Array Value) (U : State), s.WarmedH U.vm → w.before a' U = true) ∧ Cond.codeWith y bytes maxL ret hh ∈ ws) ∧
  (Cond.codeWith y bytes maxL ret hh).before args s = true ∧ (Cond.initialized y.cls).before args s = true ∧ (y.cls ≠ "java/lang/invoke/MethodHandle" ∧ y.cls ≠ "java/lang/invoke/VarHandle") ∧
  (∀ sig, parseMethodDescriptor y.desc = some sig → n = sig.parameters.length) ∧ (Cond.methodLink own index y).before args s = true ∧ (Cond.instanceMethod y).before args s = true ∧ (Cond.selects C y y).before args s = true
theorem vx_cwVW {own C : String} {index maxL mc ms : Nat} {y : MethodName} {bytes : ByteArray} {ret : Option FieldType} {hh : List (Nat × Nat × Nat × Nat)} {Ts ws ws' : List Cond} {rm : Room} (n : Nat) (ht : ∀ w ∈ Ts, w.before args s = true) (hT : GoodIn Ts (wsV own index C y ws)) (hw : ws = Cond.codeWith y bytes maxL ret hh :: ws') (hrc : rm.cells = mc) (hrs : rm.slots = ms)
    (hd : y.cls = C ∧ y.cls ≠ "java/lang/invoke/MethodHandle" ∧ y.cls ≠ "java/lang/invoke/VarHandle" ∧ (parseMethodDescriptor y.desc).map (fun d => d.parameters.length) = some n) (hR : rm.frames + 1 ≤ R.frames ∧ 8 + (maxL + 11) + rm.locals ≤ R.locals) :
    vx_CVW R s args own C index y bytes maxL ret hh ws rm mc ms n := by
  obtain ⟨hC, hd⟩ := hd
  subst hC
  have ok : ∀ w ∈ wsV own index y.cls y ws, w.before args s = true := fun w h => ht w (hT w h).1
  have hG : GoodIn Ts ws := fun w h => hT w (by unfold wsV; exact List.mem_append_right _ h)
  have hc : Cond.codeWith y bytes maxL ret hh ∈ ws := by rw [hw]; exact List.mem_cons_self
  refine ⟨⟨hrc, hrs, hR.1, hR.2, pay_in ht hG, hc⟩, ht _ (hG _ hc).1, ok _ (by simp [wsV]), ⟨hd.1, hd.2.1⟩, fun sig h => ?_, ok _ (by simp [wsV]), ok _ (by simp [wsV]), ok _ (by simp [wsV])⟩
  have h2 := hd.2.2
  rw [h] at h2
  exact (Option.some.inj h2).symm
theorem vx_runVW {y : MethodName} {bytes cc : ByteArray} {maxL nL mc ms n index : Nat} {ret : Option FieldType} {hh : List (Nat × Nat × Nat × Nat)} {ws : List Cond} {rm : Room} {Pc : Array Value → State → Prop} {Qc : Array Value → State → Outcome → State → Prop} {free : Addr → Prop} {Ts : List Cond} {own C : String} {b : Addr} {As rest : List Value} {g : JFrame}
    (S : CallFix p m c cc nL s args Ts own) (hM : Met l y ws rm Pc Qc mc ms free) (cw : vx_CVW R s args own C index y bytes maxL ret hh ws rm mc ms n) (hp : PreV s H C b Pc As)
    (hg : g.method = m) (hn : As.length = n) (hsize : g.locals.size = nL) (hstack : g.stack = As.reverse ++ .ref b :: rest) (hW : 2 * g.monitorRoom + (rest.map fun v => v.category).sum ≤ 8) (hdg : decode cc g.pc = .ok (.invokevirtual index, 3)) (hf : cells + mc ≤ R.cells ∧ slots + ms ≤ R.slots) :
    va_Run p l e R s m args below meth c H locs cells slots mc ms g rest (Qc (Value.ref b :: As).toArray) free := by
  obtain ⟨⟨hrc, hrs, hfr, hlo, hws, hcw⟩, hcode, hini, hy, hlen, hl, hin, hse⟩ := cw
  have hK : Back l R p e below s args y 3 8 (PreOf R mc ms Pc) (PostOf Qc mc ms free) := va_backW (hh := hh) (bytes := bytes) (maxL := maxL) (ret := ret) hM hp.1 hrc hrs hfr hlo hws hcw (fun a' U hW => word_at hW (Or.inl (by first | rfl | simp [Cond.onTables, Cond.keeps, Cond.steady])) hini)
  obtain ⟨hx, hb, hml, ho, -⟩ := S
  obtain ⟨-, ⟨cellB, hcB, hoB, hclB⟩, hPc⟩ := hp
  intro T hT X
  obtain ⟨v, vm₁, ⟨U', l2, c2, s2⟩, hW₁, X', ⟨g', mk, t, L, e1, e2, hq, h1, hL, h2, h3⟩, st⟩ := vx_callVW X hx (C := C) (hh := hh) (bytes := bytes) (maxL := maxL) (ret := ret) ho hl hin hse hcode hy hK (by rw [hT]; exact hcB) hoB hclB hg (hsize.trans hml.symm) (argsL := As) (rest := rest) (fun sig h => hn.trans (hlen sig h)) hstack hW (by rw [hb]; exact hdg)
    (fun vm₁ hW₁ => ⟨hf.1, hf.2, hPc (T.setVm vm₁) hT hW₁⟩)
  dsimp only [Pt.U, Pt.locs, Pt.cells, Pt.slots] at X' e1 e2 h1 h2 h3 st
  subst h1; subst h2; subst h3
  exact ⟨v, (T.setVm vm₁).calling g' mk (Value.ref b :: As).toArray, t, U', L, hT, X', hL, e1, e2, hq, st⟩
section
variable {y : MethodName} {bytes cc : ByteArray} {maxL nL mc ms n index : Nat} {ret : Option FieldType} {ws : List Cond} {rm : Room} {Pc : Array Value → State → Prop} {Qc : Array Value → State → Outcome → State → Prop} {XC : String → State → State → Prop} {free : Addr → Prop} {Ts : List Cond} {own C : String} {b : Addr} {As rest : List Value} {g : JFrame}
theorem vx_runVX {hh : List (Nat × Nat × Nat × Nat)} (S : CallFix p m c cc nL s args Ts own) (hM : vx_Met l y ws rm Pc Qc XC mc ms free) (cw : vx_CVW R s args own C index y bytes maxL ret hh ws rm mc ms n) (hp : PreV s H C b Pc As)
    (hg : g.method = m) (hn : As.length = n) (hsize : g.locals.size = nL) (hstack : g.stack = As.reverse ++ .ref b :: rest) (hW : 2 * g.monitorRoom + (rest.map fun v => v.category).sum ≤ 8) (hdg : decode cc g.pc = .ok (.invokevirtual index, 3)) (hf : cells + mc ≤ R.cells ∧ slots + ms ≤ R.slots) :
    vx_Run p l e R s m args below meth c H locs cells slots mc ms g rest (Qc (Value.ref b :: As).toArray) XC free := by
  obtain ⟨⟨hrc, hrs, hfr, hlo, hws, hcw⟩, hcode, hini, hy, hlen, hl, hin, hse⟩ := cw
  have hK : vx_Back l R p e below s args y 3 8 (PreOf R mc ms Pc) (PostOf Qc mc ms free) (vx_Post XC mc ms free) := vx_backW (hh := hh) (bytes := bytes) (maxL := maxL) (ret := ret) hM hp.1 hrc hrs hfr hlo hws hcw (fun a' U hW => word_at hW (Or.inl (by first | rfl | simp [Cond.onTables, Cond.keeps, Cond.steady])) hini)
  obtain ⟨hx, hb, hml, ho, -⟩ := S
  obtain ⟨-, ⟨cellB, hcB, hoB, hclB⟩, hPc⟩ := hp
  intro T hT X
  rcases vx_callVX X hx (C := C) (hh := hh) (bytes := bytes) (maxL := maxL) (ret := ret) ho hl hin hse hcode hy hK (by rw [hT]; exact hcB) hoB hclB hg (hsize.trans hml.symm) (argsL := As) (rest := rest) (fun sig h => hn.trans (hlen sig h)) hstack hW (by rw [hb]; exact hdg)
    (fun vm₁ hW₁ => ⟨hf.1, hf.2, hPc (T.setVm vm₁) hT hW₁⟩) with ⟨v, vm₁, ⟨U', l2, c2, s2⟩, hW₁, X', ⟨g', mk, t, L, e1, e2, hq, h1, hL, h2, h3⟩, st⟩ | ⟨q, vm₁, ⟨U', l2, c2, s2⟩, hW₁, X', ⟨g', mk, t, L, E, ce, e1, e2, hq, hce, hcv, hcl, h1, hL, h2, h3⟩, st⟩
  · dsimp only [Pt.U, Pt.locs, Pt.cells, Pt.slots] at X' e1 e2 h1 h2 h3 st
    subst h1; subst h2; subst h3
    exact Or.inl ⟨v, (T.setVm vm₁).calling g' mk (Value.ref b :: As).toArray, t, U', L, hT, X', hL, e1, e2, hq, st⟩
  · dsimp only [Pt.U, Pt.locs, Pt.cells, Pt.slots] at X' e1 e2 h1 h2 h3 st hcl
    subst h1; subst h2; subst h3
    exact Or.inr ⟨q, (T.setVm vm₁).calling g' mk (Value.ref b :: As).toArray, t, U', L, E, ce, hT, X', hL, e1, e2, hq, hce, hcv, vx_cls hW₁ hcl, st⟩
theorem vx_runSX {hh : List (Nat × Nat × Nat × Nat)} (S : CallFix p m c cc nL s args Ts own) (hM : vx_Met l y ws rm Pc Qc XC mc ms free) (cw : vx_CSW R s args own index y bytes maxL ret hh ws rm mc ms n) (hp : PreS s H Pc As)
    (hg : g.method = m) (hn : As.length = n) (hsize : g.locals.size = nL) (hstack : g.stack = As.reverse ++ rest) (hW : 2 * g.monitorRoom + (rest.map fun v => v.category).sum ≤ 8) (hdg : decode cc g.pc = .ok (.invokestatic index, 3)) (hf : cells + mc ≤ R.cells ∧ slots + ms ≤ R.slots) :
    vx_Run p l e R s m args below meth c H locs cells slots mc ms g rest (Qc As.toArray) XC free := by
  obtain ⟨⟨hrc, hrs, hfr, hlo, hws, hcw⟩, hcode, hini, hy, hlen, hl, hstt⟩ := cw
  have hK : vx_Back l R p e below s args y 3 8 (PreOf R mc ms Pc) (PostOf Qc mc ms free) (vx_Post XC mc ms free) := vx_backW (hh := hh) (bytes := bytes) (maxL := maxL) (ret := ret) hM hp.1 hrc hrs hfr hlo hws hcw (fun a' U hW => word_at hW (Or.inl (by first | rfl | simp [Cond.onTables, Cond.keeps, Cond.steady])) hini)
  obtain ⟨hx, hb, hml, ho, -⟩ := S
  intro T hT X
  rcases vx_callSX X hx (hh := hh) (bytes := bytes) (maxL := maxL) (ret := ret) ho hl hstt hini hcode hy hK hg (hsize.trans hml.symm) (argsL := As) (rest := rest) (fun sig h => hn.trans (hlen sig h)) hstack hW (by rw [hb]; exact hdg)
    (fun vm₁ hW₁ => ⟨hf.1, hf.2, hp.2 (T.setVm vm₁) hT hW₁⟩) with ⟨v, vm₁, ⟨U', l2, c2, s2⟩, hW₁, X', ⟨g', mk, t, L, e1, e2, hq, h1, hL, h2, h3⟩, st⟩ | ⟨q, vm₁, ⟨U', l2, c2, s2⟩, hW₁, X', ⟨g', mk, t, L, E, ce, e1, e2, hq, hce, hcv, hcl, h1, hL, h2, h3⟩, st⟩
  · dsimp only [Pt.U, Pt.locs, Pt.cells, Pt.slots] at X' e1 e2 h1 h2 h3 st
    subst h1; subst h2; subst h3
    exact Or.inl ⟨v, (T.setVm vm₁).calling g' mk As.toArray, t, U', L, hT, X', hL, e1, e2, hq, st⟩
  · dsimp only [Pt.U, Pt.locs, Pt.cells, Pt.slots] at X' e1 e2 h1 h2 h3 st hcl
    subst h1; subst h2; subst h3
    exact Or.inr ⟨q, (T.setVm vm₁).calling g' mk As.toArray, t, U', L, E, ce, hT, X', hL, e1, e2, hq, hce, hcv, vx_cls hW₁ hcl, st⟩
end
end VXH
theorem vx_ofWH {l : Launch} {y : MethodName} {ws ws' : List Cond} {rm : Room} {Pc : Array Value → State → Prop} {Qc : Array Value → State → Outcome → State → Prop} {XC : String → State → State → Prop} {mc ms : Nat} {free : Addr → Prop} {cc : ByteArray} {maxL : Nat} {ret : Option FieldType} {hh : List (Nat × Nat × Nat × Nat)}
    (hy : plainName y.cls = true) (hw : ws = Cond.codeWith y cc maxL ret hh :: ws')
    (body : ∀ p e s m args below meth c s₁, BodyLoose p l y (headSpec ws rm) cc maxL ret e s m args below meth c s₁ → c.maxLocals = maxL → Pc args s →
      W p l e (headSpec ws rm).room s m args below meth c s.heap [] 0 0 (vx_MQ below Qc XC args s mc ms free) (entryFrame m args maxL)) : vx_Met l y ws rm Pc Qc XC mc ms free := by
  refine MetFree.of_bodyS (code := cc) (maxLocals := maxL) (ret := ret) hy ?_ ?_
  · intro args s m h hn
    obtain ⟨m9, meth, c, hn9, h1, h2, h3, h4, -, h5, h6, -⟩ := Cond.codeWith_spec (atoms_spec (ws := ws) h _ (by rw [hw]; exact List.mem_cons_self))
    cases hn.symm.trans hn9
    exact ⟨meth, c, h1, h2, h3, h4, h5, h6⟩
  · intro p e s m args below meth c s₁ B hml hP _
    have hh0 : s₁.heap = s.heap := by rw [B.state]; rfl
    obtain ⟨t, a1, o, b1, b2, b3⟩ := body p e s m args below meth c s₁ B hml hP s₁ hh0 (Stand.of_body B)
    exact ⟨t, o, a1, b1, b2, b3⟩
/-! ===== END ===== -/

/-! ===== BEGIN printed: names, fields, word lists, decode rows ===== -/
end
section
def RX0 : String := "RightsCounter$Giving"
def TX0 : u_T := fun k => match k with
  | 0 => ("RightsCounter$Giving", "given", "[[I", true)
  | 1 => ("RightsCounter$Giving", "givers", "[I", true)
  | 2 => ("RightsCounter$Giving", "unitsLeft", "[I", true)
  | 3 => ("RightsCounter$Giving", "served", "I", false)
  | 4 => ("RightsCounter$Giving", "queue", "[I", true)
  | 5 => ("RightsCounter$Giving", "reachedFrom", "[I", true)
  | 6 => ("RightsCounter$Giving", "exchanger", "[I", true)
  | 7 => ("RightsCounter$Giving", "queued", "I", false)
  | _ => ("RightsCounter$Giving", "reached", "I", false)
def tyX0 : Nat → FieldType := fun k => match k with
  | 0 => .array (.array .int)
  | 1 => .array .int
  | 2 => .array .int
  | 3 => .int
  | 4 => .array .int
  | 5 => .array .int
  | 6 => .array .int
  | 7 => .int
  | _ => .int
abbrev wsX00 : List Cond := u_ws RX0 TX0 9
theorem nmX0 : ∀ a, a < 9 → ∀ b, b < 9 → a ≠ b → (TX0 a).2.1 ≠ (TX0 b).2.1 := by decide +kernel
theorem tyX0_ok : ∀ k, k < 9 → parseFieldDescriptor (TX0 k).2.2.1 = some (tyX0 k) := by decide +kernel
abbrev cX0_init : ByteArray := prog_2_method_1_code
def yX0_init : MethodName := ⟨RX0, "<init>", "()V"⟩
abbrev cX0_start : ByteArray := prog_2_method_2_code
def yX0_start : MethodName := ⟨RX0, "start", "()V"⟩
abbrev cX0_putUnits : ByteArray := prog_2_method_3_code
def yX0_putUnits : MethodName := ⟨RX0, "putUnits", "(II)V"⟩
abbrev cX0_serve : ByteArray := prog_2_method_4_code
def yX0_serve : MethodName := ⟨RX0, "serve", "(II)I"⟩
abbrev cX0_searchUnitsLeft : ByteArray := prog_2_method_5_code
def yX0_searchUnitsLeft : MethodName := ⟨RX0, "searchUnitsLeft", "(I)I"⟩
abbrev cX0_reach : ByteArray := prog_2_method_6_code
def yX0_reach : MethodName := ⟨RX0, "reach", "(III)V"⟩
abbrev cX0_giveAlong : ByteArray := prog_2_method_7_code
def yX0_giveAlong : MethodName := ⟨RX0, "giveAlong", "(III)I"⟩
def RX1 : String := "RightsCounter$History"
def TX1 : u_T := fun k => match k with
  | 0 => ("RightsCounter$History", "versions", "[I", true)
  | 1 => ("RightsCounter$History", "firstDays", "[I", true)
  | 2 => ("RightsCounter$History", "endDays", "[I", true)
  | _ => ("RightsCounter$History", "installs", "I", false)
def tyX1 : Nat → FieldType := fun k => match k with
  | 0 => .array .int
  | 1 => .array .int
  | 2 => .array .int
  | _ => .int
abbrev wsX10 : List Cond := u_ws RX1 TX1 4
theorem nmX1 : ∀ a, a < 4 → ∀ b, b < 4 → a ≠ b → (TX1 a).2.1 ≠ (TX1 b).2.1 := by decide +kernel
theorem tyX1_ok : ∀ k, k < 4 → parseFieldDescriptor (TX1 k).2.2.1 = some (tyX1 k) := by decide +kernel
abbrev cX1_init : ByteArray := prog_3_method_1_code
def yX1_init : MethodName := ⟨RX1, "<init>", "()V"⟩
abbrev cX1_isFull : ByteArray := prog_3_method_2_code
def yX1_isFull : MethodName := ⟨RX1, "isFull", "()Z"⟩
abbrev cX1_isOpen : ByteArray := prog_3_method_3_code
def yX1_isOpen : MethodName := ⟨RX1, "isOpen", "()Z"⟩
abbrev cX1_lastChange : ByteArray := prog_3_method_4_code
def yX1_lastChange : MethodName := ⟨RX1, "lastChange", "()I"⟩
abbrev cX1_begin : ByteArray := prog_3_method_5_code
def yX1_begin : MethodName := ⟨RX1, "begin", "(II)V"⟩
abbrev cX1_end : ByteArray := prog_3_method_6_code
def yX1_end : MethodName := ⟨RX1, "end", "(I)I"⟩
abbrev cX1_versionOn : ByteArray := prog_3_method_7_code
def yX1_versionOn : MethodName := ⟨RX1, "versionOn", "(I)I"⟩
def RX2 : String := "RightsCounter$Machine"
def TX2 : u_T := fun k => match k with
  | 0 => ("RightsCounter$Machine", "number", "I", true)
  | 1 => ("RightsCounter$Machine", "host", "LRightsCounter$Machine;", true)
  | 2 => ("RightsCounter$Machine", "histories", "[LRightsCounter$History;", true)
  | 3 => ("RightsCounter$Machine", "cores", "I", false)
  | _ => ("RightsCounter$Machine", "isApart", "Z", false)
def tyX2 : Nat → FieldType := fun k => match k with
  | 0 => .int
  | 1 => .object "RightsCounter$Machine"
  | 2 => .array (.object "RightsCounter$History")
  | 3 => .int
  | _ => .boolean
abbrev wsX20 : List Cond := u_ws RX2 TX2 5
theorem nmX2 : ∀ a, a < 5 → ∀ b, b < 5 → a ≠ b → (TX2 a).2.1 ≠ (TX2 b).2.1 := by decide +kernel
theorem tyX2_ok : ∀ k, k < 5 → parseFieldDescriptor (TX2 k).2.2.1 = some (tyX2 k) := by decide +kernel
abbrev cX2_init : ByteArray := prog_4_method_1_code
def yX2_init : MethodName := ⟨RX2, "<init>", "(IILRightsCounter$Machine;)V"⟩
abbrev cX2_countsBy : ByteArray := prog_4_method_2_code
def yX2_countsBy : MethodName := ⟨RX2, "countsBy", "()I"⟩
def RX3 : String := "RightsCounter$Needs"
def TX3 : u_T := fun k => match k with
  | 0 => ("RightsCounter$Needs", "machines", "[I", true)
  | 1 => ("RightsCounter$Needs", "products", "[I", true)
  | 2 => ("RightsCounter$Needs", "versions", "[I", true)
  | 3 => ("RightsCounter$Needs", "demands", "[I", true)
  | 4 => ("RightsCounter$Needs", "givers", "[I", true)
  | 5 => ("RightsCounter$Needs", "count", "I", false)
  | _ => ("RightsCounter$Needs", "greatest", "[I", true)
def tyX3 : Nat → FieldType := fun k => match k with
  | 0 => .array .int
  | 1 => .array .int
  | 2 => .array .int
  | 3 => .array .int
  | 4 => .array .int
  | 5 => .int
  | _ => .array .int
abbrev wsX30 : List Cond := u_ws RX3 TX3 7
theorem nmX3 : ∀ a, a < 7 → ∀ b, b < 7 → a ≠ b → (TX3 a).2.1 ≠ (TX3 b).2.1 := by decide +kernel
theorem tyX3_ok : ∀ k, k < 7 → parseFieldDescriptor (TX3 k).2.2.1 = some (tyX3 k) := by decide +kernel
abbrev cX3_init : ByteArray := prog_5_method_1_code
def yX3_init : MethodName := ⟨RX3, "<init>", "()V"⟩
abbrev cX3_clear : ByteArray := prog_5_method_2_code
def yX3_clear : MethodName := ⟨RX3, "clear", "()V"⟩
abbrev cX3_raise : ByteArray := prog_5_method_3_code
def yX3_raise : MethodName := ⟨RX3, "raise", "(III)V"⟩
abbrev cX3_addIfRaised : ByteArray := prog_5_method_4_code
def yX3_addIfRaised : MethodName := ⟨RX3, "addIfRaised", "(III)V"⟩
abbrev cX3_demandOfAll : ByteArray := prog_5_method_5_code
def yX3_demandOfAll : MethodName := ⟨RX3, "demandOfAll", "()I"⟩
abbrev cX3_demandOfProduct : ByteArray := prog_5_method_6_code
def yX3_demandOfProduct : MethodName := ⟨RX3, "demandOfProduct", "(I)I"⟩
abbrev cX3_demandOfSet : ByteArray := prog_5_method_7_code
def yX3_demandOfSet : MethodName := ⟨RX3, "demandOfSet", "(I)I"⟩
abbrev cX3_giversOfSet : ByteArray := prog_5_method_8_code
def yX3_giversOfSet : MethodName := ⟨RX3, "giversOfSet", "(I)I"⟩
def RX4 : String := "RightsCounter$Right"
def TX4 : u_T := fun k => match k with
  | 0 => ("RightsCounter$Right", "products", "I", true)
  | 1 => ("RightsCounter$Right", "first", "I", true)
  | 2 => ("RightsCounter$Right", "last", "I", true)
  | 3 => ("RightsCounter$Right", "version", "I", false)
  | _ => ("RightsCounter$Right", "units", "I", false)
def tyX4 : Nat → FieldType := fun k => match k with
  | 0 => .int
  | 1 => .int
  | 2 => .int
  | 3 => .int
  | _ => .int
abbrev wsX40 : List Cond := u_ws RX4 TX4 5
theorem nmX4 : ∀ a, a < 5 → ∀ b, b < 5 → a ≠ b → (TX4 a).2.1 ≠ (TX4 b).2.1 := by decide +kernel
theorem tyX4_ok : ∀ k, k < 5 → parseFieldDescriptor (TX4 k).2.2.1 = some (tyX4 k) := by decide +kernel
abbrev cX4_init : ByteArray := prog_6_method_1_code
def yX4_init : MethodName := ⟨RX4, "<init>", "(IIIII)V"⟩
abbrev cX4_canGive : ByteArray := prog_6_method_2_code
def yX4_canGive : MethodName := ⟨RX4, "canGive", "(III)Z"⟩
def RX5 : String := "RightsCounter"
def TX5 : u_T := fun k => match k with
  | 0 => ("RightsCounter", "rightList", "Ljava/util/ArrayList;", true)
  | 1 => ("RightsCounter", "machineList", "Ljava/util/ArrayList;", true)
  | 2 => ("RightsCounter", "coresOfUnit", "[I", true)
  | 3 => ("RightsCounter", "found", "LRightsCounter$Needs;", true)
  | _ => ("RightsCounter", "giving", "LRightsCounter$Giving;", true)
def tyX5 : Nat → FieldType := fun k => match k with
  | 0 => .object "java/util/ArrayList"
  | 1 => .object "java/util/ArrayList"
  | 2 => .array .int
  | 3 => .object "RightsCounter$Needs"
  | _ => .object "RightsCounter$Giving"
abbrev wsX50 : List Cond := u_ws RX5 TX5 5
theorem nmX5 : ∀ a, a < 5 → ∀ b, b < 5 → a ≠ b → (TX5 a).2.1 ≠ (TX5 b).2.1 := by decide +kernel
theorem tyX5_ok : ∀ k, k < 5 → parseFieldDescriptor (TX5 k).2.2.1 = some (tyX5 k) := by decide +kernel
abbrev cX5_init : ByteArray := prog_1_method_1_code
def yX5_init : MethodName := ⟨RX5, "<init>", "()V"⟩
abbrev cX5_addRight : ByteArray := prog_1_method_2_code
def yX5_addRight : MethodName := ⟨RX5, "addRight", "(IIIII)I"⟩
abbrev cX5_upgrade : ByteArray := prog_1_method_3_code
def yX5_upgrade : MethodName := ⟨RX5, "upgrade", "(II)I"⟩
abbrev cX5_setUnits : ByteArray := prog_1_method_4_code
def yX5_setUnits : MethodName := ⟨RX5, "setUnits", "(II)I"⟩
abbrev cX5_rights : ByteArray := prog_1_method_5_code
def yX5_rights : MethodName := ⟨RX5, "rights", "()I"⟩
abbrev cX5_addMachine : ByteArray := prog_1_method_6_code
def yX5_addMachine : MethodName := ⟨RX5, "addMachine", "(II)I"⟩
abbrev cX5_setCores : ByteArray := prog_1_method_7_code
def yX5_setCores : MethodName := ⟨RX5, "setCores", "(II)I"⟩
abbrev cX5_tellApart : ByteArray := prog_1_method_8_code
def yX5_tellApart : MethodName := ⟨RX5, "tellApart", "(IZ)I"⟩
abbrev cX5_setCoresOfUnit : ByteArray := prog_1_method_9_code
def yX5_setCoresOfUnit : MethodName := ⟨RX5, "setCoresOfUnit", "(II)I"⟩
abbrev cX5_machines : ByteArray := prog_1_method_10_code
def yX5_machines : MethodName := ⟨RX5, "machines", "()I"⟩
abbrev cX5_install : ByteArray := prog_1_method_11_code
def yX5_install : MethodName := ⟨RX5, "install", "(IIII)I"⟩
abbrev cX5_uninstall : ByteArray := prog_1_method_12_code
def yX5_uninstall : MethodName := ⟨RX5, "uninstall", "(III)I"⟩
abbrev cX5_runs : ByteArray := prog_1_method_13_code
def yX5_runs : MethodName := ⟨RX5, "runs", "(III)I"⟩
abbrev cX5_needs : ByteArray := prog_1_method_14_code
def yX5_needs : MethodName := ⟨RX5, "needs", "(I)I"⟩
abbrev cX5_need : ByteArray := prog_1_method_15_code
def yX5_need : MethodName := ⟨RX5, "need", "(II)I"⟩
abbrev cX5_demand : ByteArray := prog_1_method_16_code
def yX5_demand : MethodName := ⟨RX5, "demand", "(II)I"⟩
abbrev cX5_gets : ByteArray := prog_1_method_17_code
def yX5_gets : MethodName := ⟨RX5, "gets", "(II)I"⟩
abbrev cX5_lack : ByteArray := prog_1_method_18_code
def yX5_lack : MethodName := ⟨RX5, "lack", "(I)I"⟩
abbrev cX5_lackBySets : ByteArray := prog_1_method_19_code
def yX5_lackBySets : MethodName := ⟨RX5, "lackBySets", "(I)I"⟩
abbrev cX5_spare : ByteArray := prog_1_method_20_code
def yX5_spare : MethodName := ⟨RX5, "spare", "(III)I"⟩
abbrev cX5_most : ByteArray := prog_1_method_21_code
def yX5_most : MethodName := ⟨RX5, "most", "(II)I"⟩
abbrev cX5_checkArgument : ByteArray := prog_1_method_22_code
def yX5_checkArgument : MethodName := ⟨RX5, "checkArgument", "(III)V"⟩
abbrev cX5_checkDay : ByteArray := prog_1_method_23_code
def yX5_checkDay : MethodName := ⟨RX5, "checkDay", "(I)V"⟩
abbrev cX5_checkProduct : ByteArray := prog_1_method_24_code
def yX5_checkProduct : MethodName := ⟨RX5, "checkProduct", "(I)V"⟩
abbrev cX5_checkNeed : ByteArray := prog_1_method_25_code
def yX5_checkNeed : MethodName := ⟨RX5, "checkNeed", "(I)V"⟩
abbrev cX5_rightOf : ByteArray := prog_1_method_26_code
def yX5_rightOf : MethodName := ⟨RX5, "rightOf", "(I)LRightsCounter$Right;"⟩
abbrev cX5_machineOf : ByteArray := prog_1_method_27_code
def yX5_machineOf : MethodName := ⟨RX5, "machineOf", "(I)LRightsCounter$Machine;"⟩
abbrev cX5_historyOf : ByteArray := prog_1_method_28_code
def yX5_historyOf : MethodName := ⟨RX5, "historyOf", "(II)LRightsCounter$History;"⟩
abbrev cX5_findNeeds : ByteArray := prog_1_method_29_code
def yX5_findNeeds : MethodName := ⟨RX5, "findNeeds", "(I)V"⟩
abbrev cX5_unitsForCores : ByteArray := prog_1_method_30_code
def yX5_unitsForCores : MethodName := ⟨RX5, "unitsForCores", "(II)I"⟩
abbrev cX5_findGivers : ByteArray := prog_1_method_31_code
def yX5_findGivers : MethodName := ⟨RX5, "findGivers", "(I)V"⟩
abbrev cX5_giversFor : ByteArray := prog_1_method_32_code
def yX5_giversFor : MethodName := ⟨RX5, "giversFor", "(III)I"⟩
abbrev cX5_unitsOf : ByteArray := prog_1_method_33_code
def yX5_unitsOf : MethodName := ⟨RX5, "unitsOf", "(I)I"⟩
abbrev cX5_serveFirst : ByteArray := prog_1_method_34_code
def yX5_serveFirst : MethodName := ⟨RX5, "serveFirst", "(II)I"⟩
def RX6 : String := "RightsCounterModel"
def TX6 : u_T := fun k => match k with
  | 0 => ("RightsCounterModel", "thrown", "I", false)
  | 1 => ("RightsCounterModel", "rights", "I", false)
  | 2 => ("RightsCounterModel", "products", "[I", true)
  | 3 => ("RightsCounterModel", "version", "[I", true)
  | 4 => ("RightsCounterModel", "units", "[I", true)
  | 5 => ("RightsCounterModel", "first", "[I", true)
  | 6 => ("RightsCounterModel", "last", "[I", true)
  | 7 => ("RightsCounterModel", "machines", "I", false)
  | 8 => ("RightsCounterModel", "cores", "[I", true)
  | 9 => ("RightsCounterModel", "host", "[I", true)
  | 10 => ("RightsCounterModel", "isApart", "[Z", true)
  | 11 => ("RightsCounterModel", "coresOfUnit", "[I", true)
  | 12 => ("RightsCounterModel", "told", "[I", true)
  | 13 => ("RightsCounterModel", "installs", "[I", true)
  | 14 => ("RightsCounterModel", "day", "[I", true)
  | 15 => ("RightsCounterModel", "with", "[I", true)
  | 16 => ("RightsCounterModel", "needs", "I", false)
  | 17 => ("RightsCounterModel", "machine", "[I", true)
  | 18 => ("RightsCounterModel", "product", "[I", true)
  | 19 => ("RightsCounterModel", "greatest", "[I", true)
  | 20 => ("RightsCounterModel", "demand", "[I", true)
  | 21 => ("RightsCounterModel", "gets", "[I", true)
  | _ => ("RightsCounterModel", "cut", "[I", true)
def tyX6 : Nat → FieldType := fun k => match k with
  | 0 => .int
  | 1 => .int
  | 2 => .array .int
  | 3 => .array .int
  | 4 => .array .int
  | 5 => .array .int
  | 6 => .array .int
  | 7 => .int
  | 8 => .array .int
  | 9 => .array .int
  | 10 => .array .boolean
  | 11 => .array .int
  | 12 => .array .int
  | 13 => .array .int
  | 14 => .array .int
  | 15 => .array .int
  | 16 => .int
  | 17 => .array .int
  | 18 => .array .int
  | 19 => .array .int
  | 20 => .array .int
  | 21 => .array .int
  | _ => .array .int
abbrev wsX60 : List Cond := u_ws RX6 TX6 23
theorem nmX6 : ∀ a, a < 23 → ∀ b, b < 23 → a ≠ b → (TX6 a).2.1 ≠ (TX6 b).2.1 := by decide +kernel
theorem tyX6_ok : ∀ k, k < 23 → parseFieldDescriptor (TX6 k).2.2.1 = some (tyX6 k) := by decide +kernel
abbrev cX6_init : ByteArray := prog_8_method_1_code
def yX6_init : MethodName := ⟨RX6, "<init>", "()V"⟩
abbrev cX6_thrown : ByteArray := prog_8_method_2_code
def yX6_thrown : MethodName := ⟨RX6, "thrown", "()I"⟩
abbrev cX6_in : ByteArray := prog_8_method_3_code
def yX6_in : MethodName := ⟨RX6, "in", "(III)Z"⟩
abbrev cX6_isProduct : ByteArray := prog_8_method_4_code
def yX6_isProduct : MethodName := ⟨RX6, "isProduct", "(I)Z"⟩
abbrev cX6_isMachine : ByteArray := prog_8_method_5_code
def yX6_isMachine : MethodName := ⟨RX6, "isMachine", "(I)Z"⟩
abbrev cX6_isDay : ByteArray := prog_8_method_6_code
def yX6_isDay : MethodName := ⟨RX6, "isDay", "(I)Z"⟩
abbrev cX6_addRight : ByteArray := prog_8_method_7_code
def yX6_addRight : MethodName := ⟨RX6, "addRight", "(IIIII)I"⟩
abbrev cX6_isRight : ByteArray := prog_8_method_8_code
def yX6_isRight : MethodName := ⟨RX6, "isRight", "(I)Z"⟩
abbrev cX6_upgrade : ByteArray := prog_8_method_9_code
def yX6_upgrade : MethodName := ⟨RX6, "upgrade", "(II)I"⟩
abbrev cX6_setUnits : ByteArray := prog_8_method_10_code
def yX6_setUnits : MethodName := ⟨RX6, "setUnits", "(II)I"⟩
abbrev cX6_rights : ByteArray := prog_8_method_11_code
def yX6_rights : MethodName := ⟨RX6, "rights", "()I"⟩
abbrev cX6_addMachine : ByteArray := prog_8_method_12_code
def yX6_addMachine : MethodName := ⟨RX6, "addMachine", "(II)I"⟩
abbrev cX6_setCores : ByteArray := prog_8_method_13_code
def yX6_setCores : MethodName := ⟨RX6, "setCores", "(II)I"⟩
abbrev cX6_countsBy : ByteArray := prog_8_method_14_code
def yX6_countsBy : MethodName := ⟨RX6, "countsBy", "(I)I"⟩
abbrev cX6_tellApart : ByteArray := prog_8_method_15_code
def yX6_tellApart : MethodName := ⟨RX6, "tellApart", "(IZ)I"⟩
abbrev cX6_setCoresOfUnit : ByteArray := prog_8_method_16_code
def yX6_setCoresOfUnit : MethodName := ⟨RX6, "setCoresOfUnit", "(II)I"⟩
abbrev cX6_machines : ByteArray := prog_8_method_17_code
def yX6_machines : MethodName := ⟨RX6, "machines", "()I"⟩
abbrev cX6_pairOf : ByteArray := prog_8_method_18_code
def yX6_pairOf : MethodName := ⟨RX6, "pairOf", "(II)I"⟩
abbrev cX6_latest : ByteArray := prog_8_method_19_code
def yX6_latest : MethodName := ⟨RX6, "latest", "(I)I"⟩
abbrev cX6_tells : ByteArray := prog_8_method_20_code
def yX6_tells : MethodName := ⟨RX6, "tells", "(III)V"⟩
abbrev cX6_install : ByteArray := prog_8_method_21_code
def yX6_install : MethodName := ⟨RX6, "install", "(IIII)I"⟩
abbrev cX6_uninstall : ByteArray := prog_8_method_22_code
def yX6_uninstall : MethodName := ⟨RX6, "uninstall", "(III)I"⟩
abbrev cX6_versionOn : ByteArray := prog_8_method_23_code
def yX6_versionOn : MethodName := ⟨RX6, "versionOn", "(II)I"⟩
abbrev cX6_runs : ByteArray := prog_8_method_24_code
def yX6_runs : MethodName := ⟨RX6, "runs", "(III)I"⟩
abbrev cX6_laysNeeds : ByteArray := prog_8_method_25_code
def yX6_laysNeeds : MethodName := ⟨RX6, "laysNeeds", "(I)V"⟩
abbrev cX6_rightsFor : ByteArray := prog_8_method_26_code
def yX6_rightsFor : MethodName := ⟨RX6, "rightsFor", "(III)I"⟩
abbrev cX6_beginsCut : ByteArray := prog_8_method_27_code
def yX6_beginsCut : MethodName := ⟨RX6, "beginsCut", "()V"⟩
abbrev cX6_leastCut : ByteArray := prog_8_method_28_code
def yX6_leastCut : MethodName := ⟨RX6, "leastCut", "()I"⟩
abbrev cX6_serves : ByteArray := prog_8_method_29_code
def yX6_serves : MethodName := ⟨RX6, "serves", "(II)I"⟩
abbrev cX6_laysGets : ByteArray := prog_8_method_30_code
def yX6_laysGets : MethodName := ⟨RX6, "laysGets", "(I)I"⟩
abbrev cX6_needs : ByteArray := prog_8_method_31_code
def yX6_needs : MethodName := ⟨RX6, "needs", "(I)I"⟩
abbrev cX6_asks : ByteArray := prog_8_method_32_code
def yX6_asks : MethodName := ⟨RX6, "asks", "(II)Z"⟩
abbrev cX6_need : ByteArray := prog_8_method_33_code
def yX6_need : MethodName := ⟨RX6, "need", "(II)I"⟩
abbrev cX6_demand : ByteArray := prog_8_method_34_code
def yX6_demand : MethodName := ⟨RX6, "demand", "(II)I"⟩
abbrev cX6_gets : ByteArray := prog_8_method_35_code
def yX6_gets : MethodName := ⟨RX6, "gets", "(II)I"⟩
abbrev cX6_lacks : ByteArray := prog_8_method_36_code
def yX6_lacks : MethodName := ⟨RX6, "lacks", "(I)I"⟩
abbrev cX6_lack : ByteArray := prog_8_method_37_code
def yX6_lack : MethodName := ⟨RX6, "lack", "(I)I"⟩
abbrev cX6_lackBySets : ByteArray := prog_8_method_38_code
def yX6_lackBySets : MethodName := ⟨RX6, "lackBySets", "(I)I"⟩
abbrev cX6_spare : ByteArray := prog_8_method_39_code
def yX6_spare : MethodName := ⟨RX6, "spare", "(III)I"⟩
abbrev cX6_most : ByteArray := prog_8_method_40_code
def yX6_most : MethodName := ⟨RX6, "most", "(II)I"⟩
def RJx145de : String := "java/io/Serializable"
def RJx8e188 : String := "java/lang/Cloneable"
def RJxab1ab : String := "java/lang/Iterable"
def RJ9 : String := "java/lang/Math"
abbrev cJ9_max_7cf53 : ByteArray := prog_16_method_65_code
def yJ9_max_7cf53 : MethodName := ⟨RJ9, "max", "(II)I"⟩
abbrev cJ9_min_7cf53 : ByteArray := prog_16_method_69_code
def yJ9_min_7cf53 : MethodName := ⟨RJ9, "min", "(II)I"⟩
def RJ0 : String := "java/lang/String"
def RJ10 : String := "java/lang/System"
def RJxa1e45 : String := "java/util/AbstractCollection"
abbrev cJxa1e45_init_da8c8 : ByteArray := prog_21_method_1_code
def yJxa1e45_init_da8c8 : MethodName := ⟨RJxa1e45, "<init>", "()V"⟩
def RJxc12de : String := "java/util/AbstractList"
abbrev cJxc12de_init_da8c8 : ByteArray := prog_22_method_1_code
def yJxc12de_init_da8c8 : MethodName := ⟨RJxc12de, "<init>", "()V"⟩
def RJx4a65c : String := "java/util/ArrayList"
def TJx4a65c : u_T := fun k => match k with
  | 0 => ("java/util/AbstractList", "modCount", "I", false)
  | 1 => ("java/util/ArrayList", "elementData", "[Ljava/lang/Object;", false)
  | _ => ("java/util/ArrayList", "size", "I", false)
def tyJx4a65c : Nat → FieldType := fun k => match k with
  | 0 => .int
  | 1 => .array (.object "java/lang/Object")
  | _ => .int
abbrev wsJx4a65c0 : List Cond := u_ws RJx4a65c TJx4a65c 3
theorem nmJx4a65c : ∀ a, a < 3 → ∀ b, b < 3 → a ≠ b → (TJx4a65c a).2.1 ≠ (TJx4a65c b).2.1 := by decide +kernel
theorem tyJx4a65c_ok : ∀ k, k < 3 → parseFieldDescriptor (TJx4a65c k).2.2.1 = some (tyJx4a65c k) := by decide +kernel
abbrev cJx4a65c_init_da8c8 : ByteArray := prog_23_method_2_code
def yJx4a65c_init_da8c8 : MethodName := ⟨RJx4a65c, "<init>", "()V"⟩
abbrev cJx4a65c_grow_92f84 : ByteArray := prog_23_method_6_code
def yJx4a65c_grow_92f84 : MethodName := ⟨RJx4a65c, "grow", "(I)[Ljava/lang/Object;"⟩
abbrev cJx4a65c_grow_d5877 : ByteArray := prog_23_method_7_code
def yJx4a65c_grow_d5877 : MethodName := ⟨RJx4a65c, "grow", "()[Ljava/lang/Object;"⟩
abbrev cJx4a65c_size_8abf5 : ByteArray := prog_23_method_8_code
def yJx4a65c_size_8abf5 : MethodName := ⟨RJx4a65c, "size", "()I"⟩
abbrev cJx4a65c_elementData_915e3 : ByteArray := prog_23_method_18_code
def yJx4a65c_elementData_915e3 : MethodName := ⟨RJx4a65c, "elementData", "(I)Ljava/lang/Object;"⟩
abbrev cJx4a65c_get_915e3 : ByteArray := prog_23_method_20_code
def yJx4a65c_get_915e3 : MethodName := ⟨RJx4a65c, "get", "(I)Ljava/lang/Object;"⟩
abbrev cJx4a65c_add_72be8 : ByteArray := prog_23_method_24_code
def yJx4a65c_add_72be8 : MethodName := ⟨RJx4a65c, "add", "(Ljava/lang/Object;[Ljava/lang/Object;I)V"⟩
abbrev cJx4a65c_add_9ea2d : ByteArray := prog_23_method_25_code
def yJx4a65c_add_9ea2d : MethodName := ⟨RJx4a65c, "add", "(Ljava/lang/Object;)Z"⟩
def RJ7 : String := "java/util/Arrays"
abbrev cJ7_fill_53178 : ByteArray := prog_24_method_103_code
def yJ7_fill_53178 : MethodName := ⟨RJ7, "fill", "([II)V"⟩
abbrev cJ7_copyOf_1904c : ByteArray := prog_24_method_119_code
def yJ7_copyOf_1904c : MethodName := ⟨RJ7, "copyOf", "([Ljava/lang/Object;I)[Ljava/lang/Object;"⟩
abbrev cJ7_copyOf_6403c : ByteArray := prog_24_method_120_code
def yJ7_copyOf_6403c : MethodName := ⟨RJ7, "copyOf", "([Ljava/lang/Object;ILjava/lang/Class;)[Ljava/lang/Object;"⟩
def RJx5ef63 : String := "java/util/Collection"
def RJxbd725 : String := "java/util/List"
def RJ15 : String := "java/util/Objects"
abbrev cJ15_checkIndex_7cf53 : ByteArray := prog_27_method_17_code
def yJ15_checkIndex_7cf53 : MethodName := ⟨RJ15, "checkIndex", "(II)I"⟩
def RJxf0a74 : String := "java/util/RandomAccess"
def RJxa66e6 : String := "java/util/SequencedCollection"
def RJ8 : String := "jdk/internal/util/ArraysSupport"
abbrev cJ8_newLength_cabcc : ByteArray := prog_30_method_27_code
def yJ8_newLength_cabcc : MethodName := ⟨RJ8, "newLength", "(III)I"⟩
abbrev cJ8_hugeLength_7cf53 : ByteArray := prog_30_method_28_code
def yJ8_hugeLength_7cf53 : MethodName := ⟨RJ8, "hugeLength", "(II)I"⟩
def RJ3 : String := "jdk/internal/util/Preconditions"
abbrev cJ3_checkIndex_8e157 : ByteArray := prog_31_method_11_code
def yJ3_checkIndex_8e157 : MethodName := ⟨RJ3, "checkIndex", "(IILjava/util/function/BiFunction;)I"⟩
def RL : String := "RightsCounterLaw"
abbrev cL_addRight : ByteArray := method_3_code
def yL_addRight : MethodName := ⟨RL, "addRight", "(LRightsCounter;IIIII[J)I"⟩
abbrev cL_upgrade : ByteArray := method_4_code
def yL_upgrade : MethodName := ⟨RL, "upgrade", "(LRightsCounter;II[J)I"⟩
abbrev cL_setUnits : ByteArray := method_5_code
def yL_setUnits : MethodName := ⟨RL, "setUnits", "(LRightsCounter;II[J)I"⟩
abbrev cL_addMachine : ByteArray := method_6_code
def yL_addMachine : MethodName := ⟨RL, "addMachine", "(LRightsCounter;II[J)I"⟩
abbrev cL_setCores : ByteArray := method_7_code
def yL_setCores : MethodName := ⟨RL, "setCores", "(LRightsCounter;II[J)I"⟩
abbrev cL_tellApart : ByteArray := method_8_code
def yL_tellApart : MethodName := ⟨RL, "tellApart", "(LRightsCounter;IZ[J)I"⟩
abbrev cL_setCoresOfUnit : ByteArray := method_9_code
def yL_setCoresOfUnit : MethodName := ⟨RL, "setCoresOfUnit", "(LRightsCounter;II[J)I"⟩
abbrev cL_install : ByteArray := method_10_code
def yL_install : MethodName := ⟨RL, "install", "(LRightsCounter;IIII[J)I"⟩
abbrev cL_uninstall : ByteArray := method_11_code
def yL_uninstall : MethodName := ⟨RL, "uninstall", "(LRightsCounter;III[J)I"⟩
abbrev cL_runs : ByteArray := method_12_code
def yL_runs : MethodName := ⟨RL, "runs", "(LRightsCounter;III[J)I"⟩
abbrev cL_needs : ByteArray := method_13_code
def yL_needs : MethodName := ⟨RL, "needs", "(LRightsCounter;I[J)I"⟩
abbrev cL_need : ByteArray := method_14_code
def yL_need : MethodName := ⟨RL, "need", "(LRightsCounter;II[J)I"⟩
abbrev cL_demand : ByteArray := method_15_code
def yL_demand : MethodName := ⟨RL, "demand", "(LRightsCounter;II[J)I"⟩
abbrev cL_gets : ByteArray := method_16_code
def yL_gets : MethodName := ⟨RL, "gets", "(LRightsCounter;II[J)I"⟩
abbrev cL_lack : ByteArray := method_17_code
def yL_lack : MethodName := ⟨RL, "lack", "(LRightsCounter;I[J)I"⟩
abbrev cL_lackBySets : ByteArray := method_18_code
def yL_lackBySets : MethodName := ⟨RL, "lackBySets", "(LRightsCounter;I[J)I"⟩
abbrev cL_spare : ByteArray := method_19_code
def yL_spare : MethodName := ⟨RL, "spare", "(LRightsCounter;III[J)I"⟩
abbrev cL_most : ByteArray := method_20_code
def yL_most : MethodName := ⟨RL, "most", "(LRightsCounter;II[J)I"⟩
abbrev cL_law : ByteArray := code
def yL_law : MethodName := ⟨RL, "law", "([I)Z"⟩
abbrev vwCl : List vw_C := [(RJx4a65c, TJx4a65c, 3), (RX0, TX0, 9), (RX1, TX1, 4), (RX2, TX2, 5), (RX3, TX3, 7), (RX4, TX4, 5), (RX5, TX5, 5), (RX6, TX6, 23)]
end
section
/-! ===== the judgement over an abstract heap: definitions ===== -/
/-- an abstract cell: an array (its kind, its length, its contents) or an object (its class in vwCl, its fields) -/
abbrev zE : Type := (Nat × vp_A) ⊕ (Nat × List Value)
/-- an abstract heap: by a number of our own (a role), the address and the cell -/
abbrev zH : Type := Nat → Option (Nat × zE)
/-- a method: name, bytes, locals, return type, handlers -/
abbrev zM : Type := MethodName × ByteArray × Nat × Option FieldType × List (Nat × Nat × Nat × Nat)
abbrev zO : Type := Option Value ⊕ String
/-- what stands outside: the script's address, length, ints; ArrayList's empty array -/
abbrev zZ : Type := Nat × Nat × (Nat → Int32) × Nat
/-- a straight instruction: its place, itself, the next place, its constant -/
abbrev zB : Type := List (Nat × ClassFile.Instr × Nat × Int32)
def z_cv (cA : Nat → ClassId) : zE → va_E
  | .inl x => .inl (cA x.1, x.2)
  | .inr o => .inr o
def z_C (cA : Nat → ClassId) (h : zH) (ws : va_W) : Prop :=
  (∀ r a e, h r = some (a, e) → (a, z_cv cA e) ∈ ws) ∧ ∀ r r' a e e', h r = some (a, e) → h r' = some (a, e') → r = r'
abbrev z_tys (cA : Nat → ClassId) : List (ClassId × FieldType) := [(cA 0, .int), (cA 1, .boolean), (cA 2, .long), (cA 3, .array .int), (cA 4, .object "RightsCounter$History"), (cA 5, .object "java/lang/Object")]
def z_G : List Cond := lw_tbl.filter goodWord
def z_lp : Nat → List Value → List (Nat × Value)
  | _, [] => []
  | i, v :: r => (i, v) :: z_lp (i + 1) r
def z_L (lsA : Array Slot) (n : Nat) (ls : List Value) : Prop := lv_has lsA n (z_lp 0 ls) ∧ ∀ v ∈ ls, v.category = 1
/-! ===== locals ===== -/
theorem z_lp_get : ∀ (ls : List Value) (i k : Nat), (z_lp i ls)[k]? = (ls[k]?).map (fun v => (i + k, v))
  | [], i, k => by simp [z_lp]
  | v :: r, i, 0 => by simp [z_lp]
  | v :: r, i, k + 1 => by
    simp only [z_lp, List.getElem?_cons_succ]
    rw [z_lp_get r (i + 1) k]
    simp [Nat.add_assoc, Nat.add_comm 1 k]
theorem z_lp_mem {ls : List Value} {i : Nat} {q : Nat × Value} : q ∈ z_lp i ls ↔ ∃ k, ls[k]? = some q.2 ∧ q.1 = i + k := by
  constructor
  · intro h
    obtain ⟨k, hk⟩ := List.getElem?_of_mem h
    rw [z_lp_get] at hk
    cases hv : ls[k]? with
    | none => rw [hv] at hk; cases hk
    | some v => rw [hv] at hk; cases hk; exact ⟨k, hv, rfl⟩
  · rintro ⟨k, h1, h2⟩
    have h3 : (z_lp i ls)[k]? = some q := by
      rw [z_lp_get, h1]
      show some (i + k, q.2) = some q
      rw [← h2]
    exact List.mem_of_getElem? h3
theorem z_lat {lsA : Array Slot} {n : Nat} {ls : List Value} (h : z_L lsA n ls) {k : Nat} {v : Value} (hk : ls[k]? = some v) : lsA[k]? = some (.val v) := by
  refine lv_at h.1 k (i := k) (v := v) ?_
  rw [z_lp_get, hk]
  simp
def z_up : List Value → Nat → Value → Option (List Value)
  | [], 0, x => some [x]
  | [], _ + 1, _ => none
  | _ :: r, 0, x => some (x :: r)
  | v :: r, i + 1, x => match z_up r i x with
    | some r' => some (v :: r')
    | none => none
theorem z_up_at : ∀ (ls ls' : List Value) (i : Nat) (x : Value), z_up ls i x = some ls' → ∀ k v, ls'[k]? = some v → (k = i ∧ v = x) ∨ (k ≠ i ∧ ls[k]? = some v)
  | [], ls', 0, x, h, k, v, hk => by
    simp only [z_up, Option.some.injEq] at h
    subst h
    cases k with
    | zero => simp at hk; exact Or.inl ⟨rfl, hk.symm⟩
    | succ k => simp at hk
  | [], ls', i + 1, x, h, k, v, hk => by simp [z_up] at h
  | w :: r, ls', 0, x, h, k, v, hk => by
    simp only [z_up, Option.some.injEq] at h
    subst h
    cases k with
    | zero => simp at hk; exact Or.inl ⟨rfl, hk.symm⟩
    | succ k => exact Or.inr ⟨by omega, by simpa using hk⟩
  | w :: r, ls', i + 1, x, h, k, v, hk => by
    simp only [z_up] at h
    split at h
    · rename_i r' hr
      simp only [Option.some.injEq] at h
      subst h
      cases k with
      | zero => exact Or.inr ⟨by omega, by simpa using hk⟩
      | succ k =>
        rcases z_up_at r r' i x hr k v (by simpa using hk) with ⟨h1, h2⟩ | ⟨h1, h2⟩
        · exact Or.inl ⟨by omega, h2⟩
        · exact Or.inr ⟨by omega, by simpa using h2⟩
    · cases h
theorem z_lset {lsA : Array Slot} {n i : Nat} {x : Value} {ls ls' : List Value} (hc : ∀ v ∈ ls, v.category = 1) (hx : x.category = 1) (hu : z_up ls i x = some ls')
    (h : lv_has lsA n ((i, x) :: (z_lp 0 ls).filter (fun q => !(q.1 == i) && !(q.1 + 1 == i && q.2.category == 2)))) : z_L lsA n ls' := by
  refine ⟨⟨h.1, h.2.1, fun q hq => ?_⟩, fun v hv => ?_⟩
  · obtain ⟨k, h1, h2⟩ := z_lp_mem.mp hq
    rw [Nat.zero_add] at h2
    rcases z_up_at ls ls' i x hu k q.2 h1 with ⟨h3, h4⟩ | ⟨h3, h4⟩
    · refine h.2.2 q ?_
      have : q = (i, x) := by rw [← h4, ← h3, ← h2]
      rw [this]
      exact List.mem_cons_self
    · refine h.2.2 q (List.mem_cons_of_mem _ (List.mem_filter.mpr ⟨z_lp_mem.mpr ⟨k, h4, by omega⟩, ?_⟩))
      have h5 := hc q.2 (List.mem_of_getElem? h4)
      simp [h5]
      omega
  · obtain ⟨k, hk⟩ := List.getElem?_of_mem hv
    rcases z_up_at ls ls' i x hu k v hk with ⟨-, h4⟩ | ⟨-, h4⟩
    · rw [h4]; exact hx
    · exact hc v (List.mem_of_getElem? h4)
theorem z_Lsub {lsA : Array Slot} {n : Nat} {ls : List Value} (k : Nat) (h : z_L lsA n ls) : z_L lsA n (ls.take k) := by
  refine ⟨⟨h.1.1, h.1.2.1, fun q hq => ?_⟩, fun v hv => h.2 v (List.mem_of_mem_take hv)⟩
  obtain ⟨j, h1, h2⟩ := z_lp_mem.mp hq
  refine h.1.2.2 q (z_lp_mem.mpr ⟨j, ?_, h2⟩)
  rw [List.getElem?_take] at h1
  split at h1
  · exact h1
  · cases h1
theorem z_entry (vs : List Value) {n : Nat} (hc : ∀ v ∈ vs, v.category = 1) (hn : (lg_sl vs).length ≤ n) : z_L ((lg_sl vs ++ List.replicate (n - (lg_sl vs).length) Slot.unset).toArray) n vs := by
  have h := lv_entry vs (n := n) hn
  have key : ∀ (l : List Value) (i : Nat), (∀ v ∈ l, v.category = 1) → lv_args i l = z_lp i l := by
    intro l
    induction l with
    | nil => intro i _; simp [lv_args, z_lp]
    | cons v r ih =>
      intro i hl
      have h1 := hl v List.mem_cons_self
      have h2 := ih (i + 1) (fun w hw => hl w (List.mem_cons_of_mem _ hw))
      simp only [lv_args, z_lp, h1]
      rw [if_neg (by decide), h2]
  rw [key vs 0 hc] at h
  exact ⟨h, hc⟩
end
section
/-! ===== what stands outside the abstract heap: lists written by program out of the Statement ===== -/
def z_casts : List (String × String) := [("java/lang/IllegalArgumentException", "java/lang/IllegalArgumentException"), ("java/lang/IllegalStateException", "java/lang/IllegalStateException"), ("java/lang/IndexOutOfBoundsException", "java/lang/IndexOutOfBoundsException"), ("RightsCounter$History", "java/lang/Object"), ("RightsCounter", "java/lang/Object"), ("java/util/ArrayList", "java/lang/Object"), ("RightsCounter$Needs", "java/lang/Object"), ("RightsCounter$Giving", "java/lang/Object"), ("RightsCounterModel", "java/lang/Object"), ("java/lang/IllegalArgumentException", "java/lang/Object"), ("java/lang/IllegalStateException", "java/lang/Object"), ("RightsCounter$Right", "java/lang/Object"), ("java/lang/IndexOutOfBoundsException", "java/lang/Object"), ("RightsCounter$Machine", "java/lang/Object"), ("java/lang/Throwable", "java/lang/Object"), ("java/lang/String", "java/lang/Object"), ("[I", "java/lang/Object"), ("[[I", "java/lang/Object"), ("[B", "java/lang/Object"), ("[Ljava/lang/Object;", "java/lang/Object"), ("[LRightsCounter$History;", "java/lang/Object"), ("[Z", "java/lang/Object"), ("[J", "java/lang/Object")]
def z_ncasts : List (String × String) := [("java/lang/IllegalArgumentException", "java/lang/IllegalStateException"), ("java/lang/IllegalArgumentException", "java/lang/IndexOutOfBoundsException"), ("java/lang/IllegalStateException", "java/lang/IllegalArgumentException"), ("java/lang/IllegalStateException", "java/lang/IndexOutOfBoundsException"), ("java/lang/IndexOutOfBoundsException", "java/lang/IllegalArgumentException"), ("java/lang/IndexOutOfBoundsException", "java/lang/IllegalStateException")]
def z_strs : List (String × Nat × String) := [("RightsCounter", 204, "an argument is out of range"), ("RightsCounter", 53, "there are 10 rights"), ("RightsCounter", 214, "there is no such right"), ("RightsCounter", 75, "the version is not above that of the right"), ("RightsCounter", 220, "there is no such machine"), ("RightsCounter", 84, "there are 8 machines"), ("RightsCounter", 209, "there is no such product"), ("RightsCounter", 121, "installed 10 times, or changed on this day or a later one"), ("RightsCounter", 133, "not installed now, or installed on this day or a later one"), ("RightsCounter", 212, "there is no such need"), ("RightsCounter", 176, "the day has more than 10 needs")]
def z_nests : List (String × Nat × MethodName × String) := [("RightsCounter", 25, ⟨"RightsCounter$Needs", "<init>", "()V"⟩, "RightsCounter"), ("RightsCounter", 32, ⟨"RightsCounter$Giving", "<init>", "()V"⟩, "RightsCounter"), ("RightsCounter$Machine", 28, ⟨"RightsCounter$History", "<init>", "()V"⟩, "RightsCounter")]
def z_decls : List MethodName := [⟨"java/lang/RuntimeException", "<init>", "()V"⟩, ⟨"java/lang/RuntimeException", "<init>", "(Ljava/lang/String;)V"⟩, ⟨"java/lang/Exception", "<init>", "()V"⟩, ⟨"java/lang/Exception", "<init>", "(Ljava/lang/String;)V"⟩, ⟨"java/lang/Throwable", "<init>", "()V"⟩, ⟨"java/lang/Throwable", "<init>", "(Ljava/lang/String;)V"⟩, ⟨"java/lang/Object", "getClass", "()Ljava/lang/Class;"⟩]
theorem z_AOA_moved {ty : FieldType} {s U : State} (hvm : s.vm.Alike U.vm) (h : va_AOA ty s) : va_AOA ty U := by
  have key : ∀ (V : State), va_AOA ty V ↔ (V.vm.findClass (FieldType.array ty).toString).bind (fun comp => (V.vm.bare.classes.findIdx? fun (x : Class) => match x.kind with | .array component _ => component == comp | _ => false).bind fun c => (V.vm.bare.classes[c]?).map fun (k : Class) => match k.kind with
      | .array _ t => decide (t = FieldType.array ty) && decide (V.vm.findClass ("[" ++ (FieldType.array ty).toString) = some c)
      | _ => false) = some true := by
    intro V
    unfold va_AOA Cond.before Cond.holds
    simp only [Cond.value, beq_iff_eq]
    refine Eq.to_iff (congrArg (fun o => o = some true) ?_)
    congr 1
    funext comp
    refine (congrArg (fun o : Option Nat => o.bind fun c => (V.vm.classes[c]?).map fun (k : Class) => match k.kind with
      | .array _ t => decide (t = FieldType.array ty) && decide (V.vm.findClass ("[" ++ (FieldType.array ty).toString) = some c)
      | _ => false) (va_idx_bare V.vm comp).symm).trans ?_
    congr 1
    funext c
    simp only [Vm.bare, Array.getElem?_map, Option.map_map]
    rfl
  refine (key U).mpr ?_
  have h1 := (key s).mp h
  have hb : U.vm.bare = s.vm.bare := by first | exact hvm.bare_eq | exact hvm.bare_eq.symm
  rw [hb, hvm.findClass, hvm.findClass]
  exact h1
def z_V (U : State) : Prop :=
  (∀ q ∈ z_casts, va_Nw (.castable q.1 q.2) U) ∧ (∀ q ∈ z_ncasts, va_Nc q.1 q.2 U) ∧ (∀ q ∈ z_strs, ∃ a, vk_R q.1 q.2.1 q.2.2 a U) ∧ (∀ q ∈ z_nests, va_Nw (.methodLinkNest q.1 q.2.1 q.2.2.1 q.2.2.2) U) ∧
  va_AO "java/lang/Object" U ∧ va_AO "RightsCounter$History" U ∧ va_AOA .int U ∧ ∀ y ∈ z_decls, va_Nw (.declares y) U
theorem z_V.warm {s U : State} (hW : s.WarmedH U.vm) (h : z_V s) : z_V U :=
  ⟨fun q hq => va_Nw.warmC hW (h.1 q hq), fun q hq => (h.2.1 q hq).moved hW.alike, fun q hq => (h.2.2.1 q hq).elim fun a ha => ⟨a, ha.warm hW⟩, fun q hq => va_Nw.warmM hW (h.2.2.2.1 q hq),
   h.2.2.2.2.1.moved hW.alike, h.2.2.2.2.2.1.moved hW.alike, z_AOA_moved hW.alike h.2.2.2.2.2.2.1, fun q hq => va_Nw.warmD hW (h.2.2.2.2.2.2.2 q hq)⟩
abbrev z_ALd : String := "[Ljava/lang/Object;"
def z_S (Z : zZ) (A : Nat → Prop) (U : State) (H : Heap) : Prop :=
  va_X Z.1 Z.2.1 Z.2.2.1 U H ∧ (Z.1 < H.size ∧ ¬ A Z.1) ∧ vx_Zq Bundle.tN "UNASSIGNED_STACK" Bundle.steD A U H ∧ vx_Zq Bundle.tN "SUPPRESSED_SENTINEL" Bundle.listD A U H ∧
  va_Z "java/util/ArrayList" "DEFAULTCAPACITY_EMPTY_ELEMENTDATA" z_ALd (.ref Z.2.2.2) A U H ∧ va_T (.object "java/lang/Object") Z.2.2.2 0 (fun _ => .null) A U H ∧ z_V U
theorem z_S.step {Z : zZ} {A B : Nat → Prop} {s U : State} {H0 H : Heap} {locs : List Loc} (h : z_S Z A s H0) (hW : s.WarmedH U.vm) (hS : va_S A H0 H locs) (hAB : ∀ q, B q → q < H0.size → A q) : z_S Z (fun q => B q ∧ A q) U H := by
  obtain ⟨h1, ⟨h2, h3⟩, h4, h5, h6, h7, h8⟩ := h
  have al := hW.alike
  have hk : ∀ a : Nat, a < H0.size → ¬ A a → H[a]? = H0[a]? := hS.2.1
  have hn : ∀ q, (B q ∧ A q) → A q := fun q z => z.2
  exact ⟨(h1.kept (hk _ h2 h3)).moved al, ⟨Nat.lt_of_lt_of_le h2 hS.1, fun z => h3 z.2⟩, ((h4.kept hk).narrow hn).moved al, ((h5.kept hk).narrow hn).moved al, ((h6.kept hk).narrow hn).moved al, ((h7.kept hk).narrow hn).moved al, h8.warm hW⟩
/-- the same for a set within A -/
theorem z_S.to {Z : zZ} {A B : Nat → Prop} {s U : State} {H0 H : Heap} {locs : List Loc} (h : z_S Z A s H0) (hW : s.WarmedH U.vm) (hS : va_S A H0 H locs) (hAB : ∀ q, B q → A q) : z_S Z B U H := by
  obtain ⟨h1, ⟨h2, h3⟩, h4, h5, h6, h7, h8⟩ := h
  have al := hW.alike
  have hk : ∀ a : Nat, a < H0.size → ¬ A a → H[a]? = H0[a]? := hS.2.1
  exact ⟨(h1.kept (hk _ h2 h3)).moved al, ⟨Nat.lt_of_lt_of_le h2 hS.1, fun z => h3 (hAB _ z)⟩, ((h4.kept hk).narrow hAB).moved al, ((h5.kept hk).narrow hAB).moved al, ((h6.kept hk).narrow hAB).moved al, ((h7.kept hk).narrow hAB).moved al, h8.warm hW⟩
/-! ===== the judgement ===== -/
def z_X (Z : zZ) (D : va_G) (cA : Nat → ClassId) (M : zM) (p : Program) (l : Launch) (s : State) (m : MethodId) (args : Array Value) (meth : Method) (c : Code) (A : Nat → Prop) : Prop :=
  p.tables.exec = Jvm.exec ∧ c.code = M.2.1 ∧ meth.sig.returnType = M.2.2.2.1 ∧ c.maxLocals = M.2.2.1 ∧ s.vm.findClass M.1.cls = some m.cls ∧ (∀ w ∈ z_G, w.before args s = true) ∧ meth.locks = false ∧ c.exceptionTable.toList = tableOf M.2.2.2.2 ∧
  meth.name = M.1.name ∧ l.stackTraces = false ∧ va_K D vwCl (z_tys cA) s ∧ (∀ q, s.heap.size ≤ q → A q) ∧ z_S Z A s s.heap
def z_O (D : va_G) (cA : Nat → ClassId) (h : zH) (A : Nat → Prop) (ws : va_W) (H0 H : Heap) (locs : List Loc) : Prop :=
  z_C cA h ws ∧ va_P D vwCl ws H ∧ va_D A ws ∧ va_S A H0 H locs
def z_Qc (D : va_G) (cA : Nat → ClassId) (Q : zO → zH → Prop) (A : Nat → Prop) : Array Value → State → Outcome → State → Prop := fun _ st o t =>
  (∃ (v : Option Value) (h' : zH) (ws : va_W), o = .returned v ∧ Q (.inl v) h' ∧ z_C cA h' ws ∧ va_P D vwCl ws t.heap ∧ va_D A ws) ∧ va_F A st t
def z_XC (D : va_G) (cA : Nat → ClassId) (Q : zO → zH → Prop) (A : Nat → Prop) : String → State → State → Prop := fun E st t =>
  (∃ (h' : zH) (ws : va_W), Q (.inr E) h' ∧ z_C cA h' ws ∧ va_P D vwCl ws t.heap ∧ va_D A ws) ∧ va_F A st t
def z_F (D : va_G) (cA : Nat → ClassId) (Q : zO → zH → Prop) (A : Nat → Prop) (below : List Frame) (args : Array Value) (s : State) (R : Room) : State → Prop :=
  vx_MQ below (z_Qc D cA Q A) (z_XC D cA Q A) args s R.cells R.slots A
def z_J (Z : zZ) (M : zM) (R : Room) (k n : Nat) (Q : zO → zH → Prop) (pc : Nat) (ls st : List Value) (h : zH) : Prop :=
  ∀ (D : va_G) (cA : Nat → ClassId) (p : Program) (l : Launch) (e : Env) (s : State) (m : MethodId) (args : Array Value) (below : List Frame) (meth : Method) (c : Code) (A : Nat → Prop) (H : Heap) (locs : List Loc) (ws : va_W) (lsA : Array Slot),
    z_X Z D cA M p l s m args meth c A → z_O D cA h A ws s.heap H locs → z_L lsA M.2.2.1 ls → W p l e R s m args below meth c H locs k n (z_F D cA Q A below args s R) (F0 m pc lsA st)
/-- an exception of class E flies over the frame -/
def z_JX (Z : zZ) (M : zM) (R : Room) (k n : Nat) (Q : zO → zH → Prop) (pc : Nat) (ls : List Value) (E : String) (h : zH) : Prop :=
  ∀ (D : va_G) (cA : Nat → ClassId) (p : Program) (l : Launch) (e : Env) (s : State) (m : MethodId) (args : Array Value) (below : List Frame) (meth : Method) (c : Code) (A : Nat → Prop) (H : Heap) (locs : List Loc) (ws : va_W) (lsA : Array Slot) (rest : List Value) (q : Nat) (ce : Cell),
    z_X Z D cA M p l s m args meth c A → z_O D cA h A ws s.heap H locs → z_L lsA M.2.2.1 ls → H[q]? = some ce → ce.vm = .none → s.vm.findClass E = some ce.cls →
      vx_W p l e R s m args below meth c H locs k n (z_F D cA Q A below args s R) (F0 m pc lsA rest) q
theorem z_J.widen {Z : zZ} {M : zM} {R : Room} {k n : Nat} (k' n' : Nat) {Q : zO → zH → Prop} {pc : Nat} {ls st : List Value} {h : zH} (h1 : k ≤ k') (h2 : n ≤ n') (g : z_J Z M R k' n' Q pc ls st h) : z_J Z M R k n Q pc ls st h := by
  intro D cA p l e s m args below meth c A H locs ws lsA X O L
  exact W.widen h1 h2 (g D cA p l e s m args below meth c A H locs ws lsA X O L)
theorem z_J.take {Z : zZ} {M : zM} {R : Room} {k n : Nat} {Q : zO → zH → Prop} {pc : Nat} {ls st : List Value} {h : zH} (j : Nat) (g : z_J Z M R k n Q pc (ls.take j) st h) : z_J Z M R k n Q pc ls st h := by
  intro D cA p l e s m args below meth c A H locs ws lsA X O L
  exact g D cA p l e s m args below meth c A H locs ws lsA X O (z_Lsub j L)
theorem z_g {w : Cond} (i : Nat) (h1 : lw_tbl[i]? = some w) (h2 : goodWord w = true) : w ∈ z_G := List.mem_filter.mpr ⟨List.mem_of_getElem? h1, h2⟩
end
section
/-! ===== straight runs ===== -/
def z_ldi (ls : List Value) (k : Nat) (st : List Value) : Option (List Value × List Value) := match ls[k]? with
  | some (.int x) => some (ls, .int x :: st)
  | _ => none
def z_lda (ls : List Value) (k : Nat) (st : List Value) : Option (List Value × List Value) := match ls[k]? with
  | some (.ref x) => some (ls, .ref x :: st)
  | some .null => some (ls, .null :: st)
  | _ => none
def z_st (n : Nat) (ls : List Value) (k : Nat) (v : Value) (st : List Value) : Option (List Value × List Value) := match Nat.blt k n with
  | true => match z_up ls k v with
    | some ls' => some (ls', st)
    | none => none
  | false => none
def z_step (n : Nat) (i : ClassFile.Instr) (cv : Int32) (ls st : List Value) : Option (List Value × List Value) := match i, st with
  | .iload k, st => z_ldi ls k st
  | .iload_n k, st => z_ldi ls k.val st
  | .aload k, st => z_lda ls k st
  | .aload_n k, st => z_lda ls k.val st
  | .istore k, .int x :: st => z_st n ls k (.int x) st
  | .istore_n k, .int x :: st => z_st n ls k.val (.int x) st
  | .astore k, .ref x :: st => z_st n ls k (.ref x) st
  | .astore_n k, .ref x :: st => z_st n ls k.val (.ref x) st
  | .astore k, .null :: st => z_st n ls k .null st
  | .astore_n k, .null :: st => z_st n ls k.val .null st
  | .iconst _, st => some (ls, .int cv :: st)
  | .bipush _, st => some (ls, .int cv :: st)
  | .sipush _, st => some (ls, .int cv :: st)
  | .aconst_null, st => some (ls, .null :: st)
  | .iinc k _, st => match ls[k]? with
    | some (.int x) => z_st n ls k (.int (x + cv)) st
    | _ => none
  | .iadd, .int y :: .int x :: st => some (ls, .int (x + y) :: st)
  | .isub, .int y :: .int x :: st => some (ls, .int (x - y) :: st)
  | .imul, .int y :: .int x :: st => some (ls, .int (x * y) :: st)
  | .iand, .int y :: .int x :: st => some (ls, .int (x &&& y) :: st)
  | .ior, .int y :: .int x :: st => some (ls, .int (x ||| y) :: st)
  | .ixor, .int y :: .int x :: st => some (ls, .int (x ^^^ y) :: st)
  | .ishl, .int y :: .int x :: st => some (ls, .int (x <<< (y &&& 31)) :: st)
  | .ishr, .int y :: .int x :: st => some (ls, .int (x >>> (y &&& 31)) :: st)
  | .i2l, .int x :: st => some (ls, .long x.toInt64 :: st)
  | .dup, .int x :: st => some (ls, .int x :: .int x :: st)
  | .dup, .ref x :: st => some (ls, .ref x :: .ref x :: st)
  | .dup2, .int y :: .int x :: st => some (ls, .int y :: .int x :: .int y :: .int x :: st)
  | .dup2, .int y :: .ref x :: st => some (ls, .int y :: .ref x :: .int y :: .ref x :: st)
  | .dup_x1, .ref y :: .ref x :: st => some (ls, .ref y :: .ref x :: .ref y :: st)
  | .pop, .int _ :: st => some (ls, st)
  | .pop, .ref _ :: st => some (ls, st)
  | .goto _, st => some (ls, st)
  | _, _ => none
def z_ok1 (cc : ByteArray) (pc : Nat) (i : ClassFile.Instr) (nx : Nat) (cv : Int32) : Bool := match i with
  | .goto off => decide (decode cc pc = .ok (.goto off, 3)) && decide ((pc : Int) + off = (nx : Int))
  | .iconst n => decide (decode cc pc = .ok (.iconst n, 1)) && Nat.beq nx (pc + 1) && decide (Int32.ofInt n = cv)
  | .bipush n => decide (decode cc pc = .ok (.bipush n, 2)) && Nat.beq nx (pc + 2) && decide ((Int8.ofInt n).toInt32 = cv)
  | .sipush n => decide (decode cc pc = .ok (.sipush n, 3)) && Nat.beq nx (pc + 3) && decide ((Int16.ofInt n).toInt32 = cv)
  | .iinc k n => decide (decode cc pc = .ok (.iinc k n, 3)) && Nat.beq nx (pc + 3) && decide (Int32.ofInt n = cv)
  | .iload k => decide (decode cc pc = .ok (.iload k, 2)) && Nat.beq nx (pc + 2)
  | .istore k => decide (decode cc pc = .ok (.istore k, 2)) && Nat.beq nx (pc + 2)
  | .aload k => decide (decode cc pc = .ok (.aload k, 2)) && Nat.beq nx (pc + 2)
  | .astore k => decide (decode cc pc = .ok (.astore k, 2)) && Nat.beq nx (pc + 2)
  | i => decide (decode cc pc = .ok (i, 1)) && Nat.beq nx (pc + 1)
def z_ok (cc : ByteArray) : Nat → zB → Nat → Bool
  | pc, [], e => Nat.beq pc e
  | pc, t :: r, e => Nat.beq t.1 pc && z_ok1 cc pc t.2.1 t.2.2.1 t.2.2.2 && z_ok cc t.2.2.1 r e
def z_run (n : Nat) : zB → List Value → List Value → Option (List Value × List Value)
  | [], ls, st => some (ls, st)
  | t :: r, ls, st => match z_step n t.2.1 t.2.2.2 ls st with
    | some q => z_run n r q.1 q.2
    | none => none
section ZR
variable {Z : zZ} {M : zM} {R : Room} {k n : Nat} {Q : zO → zH → Prop} {pc nx : Nat} {ls ls' st st' : List Value} {h : zH}

theorem z_s_ldi {kk : Nat} (hi : (decode M.2.1 pc = .ok (.iload kk, 2) ∧ nx = pc + 2) ∨ (∃ f : Fin 4, f.val = kk ∧ decode M.2.1 pc = .ok (.iload_n f, 1) ∧ nx = pc + 1)) (hs : z_ldi ls kk st = some (ls', st')) (g : z_J Z M R k n Q nx ls' st' h) : z_J Z M R k n Q pc ls st h := by
  intro D cA p l e s m args below meth c A H locs ws lsA X O L
  obtain ⟨hx, hb, -⟩ := id X
  unfold z_ldi at hs
  split at hs
  · rename_i x hl
    simp only [Option.some.injEq, Prod.mk.injEq] at hs
    obtain ⟨rfl, rfl⟩ := hs
    rcases hi with ⟨hd, rfl⟩ | ⟨f, rfl, hd, rfl⟩
    · exact lv_iload hx hb hd (z_lat L hl) (g D cA p l e s m args below meth c A H locs ws lsA X O L)
    · exact lv_iload_n hx hb hd rfl (z_lat L hl) (g D cA p l e s m args below meth c A H locs ws lsA X O L)
  · cases hs
theorem z_s_lda {kk : Nat} (hi : (decode M.2.1 pc = .ok (.aload kk, 2) ∧ nx = pc + 2) ∨ (∃ f : Fin 4, f.val = kk ∧ decode M.2.1 pc = .ok (.aload_n f, 1) ∧ nx = pc + 1)) (hs : z_lda ls kk st = some (ls', st')) (g : z_J Z M R k n Q nx ls' st' h) : z_J Z M R k n Q pc ls st h := by
  intro D cA p l e s m args below meth c A H locs ws lsA X O L
  obtain ⟨hx, hb, -⟩ := id X
  unfold z_lda at hs
  split at hs
  · rename_i x hl
    simp only [Option.some.injEq, Prod.mk.injEq] at hs
    obtain ⟨rfl, rfl⟩ := hs
    rcases hi with ⟨hd, rfl⟩ | ⟨f, rfl, hd, rfl⟩
    · exact lv_aload hx hb hd (z_lat L hl) (g D cA p l e s m args below meth c A H locs ws lsA X O L)
    · exact lv_aload_n hx hb hd rfl (z_lat L hl) (g D cA p l e s m args below meth c A H locs ws lsA X O L)
  · rename_i hl
    simp only [Option.some.injEq, Prod.mk.injEq] at hs
    obtain ⟨rfl, rfl⟩ := hs
    rcases hi with ⟨hd, rfl⟩ | ⟨f, rfl, hd, rfl⟩
    · exact lv_aloadN hx hb hd (z_lat L hl) (g D cA p l e s m args below meth c A H locs ws lsA X O L)
    · exact lv_aload_nN hx hb hd rfl (z_lat L hl) (g D cA p l e s m args below meth c A H locs ws lsA X O L)
  · cases hs
theorem z_st_sp {nL : Nat} {kk : Nat} {v : Value} (hs : z_st nL ls kk v st = some (ls', st')) : kk < nL ∧ z_up ls kk v = some ls' ∧ st' = st := by
  unfold z_st at hs
  split at hs
  · rename_i hlt
    split at hs
    · rename_i l2 hu
      simp only [Option.some.injEq, Prod.mk.injEq] at hs
      obtain ⟨rfl, rfl⟩ := hs
      exact ⟨by simpa [Nat.blt_eq] using hlt, hu, rfl⟩
    · cases hs
  · cases hs

theorem z_s_sti {kk : Nat} {x : Int32} (hi : (decode M.2.1 pc = .ok (.istore kk, 2) ∧ nx = pc + 2) ∨ (∃ f : Fin 4, f.val = kk ∧ decode M.2.1 pc = .ok (.istore_n f, 1) ∧ nx = pc + 1)) (hs : z_st M.2.2.1 ls kk (.int x) st = some (ls', st')) (g : z_J Z M R k n Q nx ls' st' h) : z_J Z M R k n Q pc ls ((.int x) :: st) h := by
  intro D cA p l e s m args below meth c A H locs ws lsA X O L
  obtain ⟨hx, hb, -⟩ := id X
  obtain ⟨h1, h2, rfl⟩ := z_st_sp hs
  rcases hi with ⟨hd, rfl⟩ | ⟨f, rfl, hd, rfl⟩
  · exact lv_istore hx hb hd L.1 h1 rfl (fun lsB hlB => g D cA p l e s m args below meth c A H locs ws lsB X O (z_lset L.2 rfl h2 hlB))
  · exact lv_istore_n hx hb hd rfl L.1 h1 rfl (fun lsB hlB => g D cA p l e s m args below meth c A H locs ws lsB X O (z_lset L.2 rfl h2 hlB))
theorem z_s_sta {kk : Nat} {x : Nat} (hi : (decode M.2.1 pc = .ok (.astore kk, 2) ∧ nx = pc + 2) ∨ (∃ f : Fin 4, f.val = kk ∧ decode M.2.1 pc = .ok (.astore_n f, 1) ∧ nx = pc + 1)) (hs : z_st M.2.2.1 ls kk (.ref x) st = some (ls', st')) (g : z_J Z M R k n Q nx ls' st' h) : z_J Z M R k n Q pc ls ((.ref x) :: st) h := by
  intro D cA p l e s m args below meth c A H locs ws lsA X O L
  obtain ⟨hx, hb, -⟩ := id X
  obtain ⟨h1, h2, rfl⟩ := z_st_sp hs
  rcases hi with ⟨hd, rfl⟩ | ⟨f, rfl, hd, rfl⟩
  · exact lv_astore hx hb hd L.1 h1 rfl (fun lsB hlB => g D cA p l e s m args below meth c A H locs ws lsB X O (z_lset L.2 rfl h2 hlB))
  · exact lv_astore_n hx hb hd rfl L.1 h1 rfl (fun lsB hlB => g D cA p l e s m args below meth c A H locs ws lsB X O (z_lset L.2 rfl h2 hlB))
theorem z_s_stn {kk : Nat} (hi : (decode M.2.1 pc = .ok (.astore kk, 2) ∧ nx = pc + 2) ∨ (∃ f : Fin 4, f.val = kk ∧ decode M.2.1 pc = .ok (.astore_n f, 1) ∧ nx = pc + 1)) (hs : z_st M.2.2.1 ls kk (.null) st = some (ls', st')) (g : z_J Z M R k n Q nx ls' st' h) : z_J Z M R k n Q pc ls ((.null) :: st) h := by
  intro D cA p l e s m args below meth c A H locs ws lsA X O L
  obtain ⟨hx, hb, -⟩ := id X
  obtain ⟨h1, h2, rfl⟩ := z_st_sp hs
  rcases hi with ⟨hd, rfl⟩ | ⟨f, rfl, hd, rfl⟩
  · exact lv_astoreN hx hb hd L.1 h1 rfl (fun lsB hlB => g D cA p l e s m args below meth c A H locs ws lsB X O (z_lset L.2 rfl h2 hlB))
  · exact lv_astore_nN hx hb hd rfl L.1 h1 rfl (fun lsB hlB => g D cA p l e s m args below meth c A H locs ws lsB X O (z_lset L.2 rfl h2 hlB))
theorem z_s_iinc {kk : Nat} {off : Int} {cv x : Int32} (hd : decode M.2.1 pc = .ok (.iinc kk off, 3)) (hn : nx = pc + 3) (hc : Int32.ofInt off = cv) (hl : ls[kk]? = some (.int x)) (hs : z_st M.2.2.1 ls kk (.int (x + cv)) st = some (ls', st')) (g : z_J Z M R k n Q nx ls' st' h) : z_J Z M R k n Q pc ls st h := by
  intro D cA p l e s m args below meth c A H locs ws lsA X O L
  obtain ⟨hx, hb, -⟩ := id X
  obtain ⟨h1, h2, rfl⟩ := z_st_sp hs
  subst hn
  exact lv_iinc (k := kk) (x := x) (v := x + cv) hx hb hd L.1 (by rw [z_lp_get, hl]; simp) (by rw [hc]) h1 rfl (fun lsB hlB => g D cA p l e s m args below meth c A H locs ws lsB X O (z_lset L.2 rfl h2 hlB))
theorem z_s_iadd {x y : Int32} (hd : decode M.2.1 pc = .ok (.iadd, 1)) (hn : nx = pc + 1) (g : z_J Z M R k n Q nx ls (.int (x + y) :: st) h) : z_J Z M R k n Q pc ls (.int y :: .int x :: st) h := by
  intro D cA p l e s m args below meth c A H locs ws lsA X O L
  obtain ⟨hx, hb, -⟩ := id X
  subst hn
  exact lv_iadd hx hb hd (g D cA p l e s m args below meth c A H locs ws lsA X O L)
theorem z_s_isub {x y : Int32} (hd : decode M.2.1 pc = .ok (.isub, 1)) (hn : nx = pc + 1) (g : z_J Z M R k n Q nx ls (.int (x - y) :: st) h) : z_J Z M R k n Q pc ls (.int y :: .int x :: st) h := by
  intro D cA p l e s m args below meth c A H locs ws lsA X O L
  obtain ⟨hx, hb, -⟩ := id X
  subst hn
  exact lv_isub hx hb hd (g D cA p l e s m args below meth c A H locs ws lsA X O L)
theorem z_s_imul {x y : Int32} (hd : decode M.2.1 pc = .ok (.imul, 1)) (hn : nx = pc + 1) (g : z_J Z M R k n Q nx ls (.int (x * y) :: st) h) : z_J Z M R k n Q pc ls (.int y :: .int x :: st) h := by
  intro D cA p l e s m args below meth c A H locs ws lsA X O L
  obtain ⟨hx, hb, -⟩ := id X
  subst hn
  exact lv_imul hx hb hd (g D cA p l e s m args below meth c A H locs ws lsA X O L)
theorem z_s_iand {x y : Int32} (hd : decode M.2.1 pc = .ok (.iand, 1)) (hn : nx = pc + 1) (g : z_J Z M R k n Q nx ls (.int (x &&& y) :: st) h) : z_J Z M R k n Q pc ls (.int y :: .int x :: st) h := by
  intro D cA p l e s m args below meth c A H locs ws lsA X O L
  obtain ⟨hx, hb, -⟩ := id X
  subst hn
  exact lv_iand hx hb hd (g D cA p l e s m args below meth c A H locs ws lsA X O L)
theorem z_s_ior {x y : Int32} (hd : decode M.2.1 pc = .ok (.ior, 1)) (hn : nx = pc + 1) (g : z_J Z M R k n Q nx ls (.int (x ||| y) :: st) h) : z_J Z M R k n Q pc ls (.int y :: .int x :: st) h := by
  intro D cA p l e s m args below meth c A H locs ws lsA X O L
  obtain ⟨hx, hb, -⟩ := id X
  subst hn
  exact lv_ior hx hb hd (g D cA p l e s m args below meth c A H locs ws lsA X O L)
theorem z_s_ixor {x y : Int32} (hd : decode M.2.1 pc = .ok (.ixor, 1)) (hn : nx = pc + 1) (g : z_J Z M R k n Q nx ls (.int (x ^^^ y) :: st) h) : z_J Z M R k n Q pc ls (.int y :: .int x :: st) h := by
  intro D cA p l e s m args below meth c A H locs ws lsA X O L
  obtain ⟨hx, hb, -⟩ := id X
  subst hn
  exact lv_ixor hx hb hd (g D cA p l e s m args below meth c A H locs ws lsA X O L)
theorem z_s_ishl {x y : Int32} (hd : decode M.2.1 pc = .ok (.ishl, 1)) (hn : nx = pc + 1) (g : z_J Z M R k n Q nx ls (.int (x <<< (y &&& 31)) :: st) h) : z_J Z M R k n Q pc ls (.int y :: .int x :: st) h := by
  intro D cA p l e s m args below meth c A H locs ws lsA X O L
  obtain ⟨hx, hb, -⟩ := id X
  subst hn
  exact lv_ishl hx hb hd (g D cA p l e s m args below meth c A H locs ws lsA X O L)
theorem z_s_ishr {x y : Int32} (hd : decode M.2.1 pc = .ok (.ishr, 1)) (hn : nx = pc + 1) (g : z_J Z M R k n Q nx ls (.int (x >>> (y &&& 31)) :: st) h) : z_J Z M R k n Q pc ls (.int y :: .int x :: st) h := by
  intro D cA p l e s m args below meth c A H locs ws lsA X O L
  obtain ⟨hx, hb, -⟩ := id X
  subst hn
  exact lv_ishr hx hb hd (g D cA p l e s m args below meth c A H locs ws lsA X O L)
theorem z_s_i2l {x : Int32} (hd : decode M.2.1 pc = .ok (.i2l, 1)) (hn : nx = pc + 1) (g : z_J Z M R k n Q nx ls (.long x.toInt64 :: st) h) : z_J Z M R k n Q pc ls (.int x :: st) h := by
  intro D cA p l e s m args below meth c A H locs ws lsA X O L
  obtain ⟨hx, hb, -⟩ := id X
  subst hn
  exact lv_i2l hx hb hd rfl (g D cA p l e s m args below meth c A H locs ws lsA X O L)
theorem z_s_dup {v : Value} (hd : decode M.2.1 pc = .ok (.dup, 1)) (hv : v.category = 1) (hn : nx = pc + 1) (g : z_J Z M R k n Q nx ls (v :: v :: st) h) : z_J Z M R k n Q pc ls (v :: st) h := by
  intro D cA p l e s m args below meth c A H locs ws lsA X O L
  obtain ⟨hx, hb, -⟩ := id X
  subst hn
  exact lv_dup hx hb hd hv (g D cA p l e s m args below meth c A H locs ws lsA X O L)
theorem z_s_dup2 {v u : Value} (hd : decode M.2.1 pc = .ok (.dup2, 1)) (hv : v.category = 1) (hu : u.category = 1) (hn : nx = pc + 1) (g : z_J Z M R k n Q nx ls (v :: u :: v :: u :: st) h) : z_J Z M R k n Q pc ls (v :: u :: st) h := by
  intro D cA p l e s m args below meth c A H locs ws lsA X O L
  obtain ⟨hx, hb, -⟩ := id X
  subst hn
  exact lv_dup2_11 hx hb hd hv hu (g D cA p l e s m args below meth c A H locs ws lsA X O L)
theorem z_s_dup_x1 {v u : Value} (hd : decode M.2.1 pc = .ok (.dup_x1, 1)) (hv : v.category = 1) (hu : u.category = 1) (hn : nx = pc + 1) (g : z_J Z M R k n Q nx ls (v :: u :: v :: st) h) : z_J Z M R k n Q pc ls (v :: u :: st) h := by
  intro D cA p l e s m args below meth c A H locs ws lsA X O L
  obtain ⟨hx, hb, -⟩ := id X
  subst hn
  exact lv_dup_x1 hx hb hd hv hu (g D cA p l e s m args below meth c A H locs ws lsA X O L)
theorem z_s_pop {v : Value} (hd : decode M.2.1 pc = .ok (.pop, 1)) (hv : v.category = 1) (hn : nx = pc + 1) (g : z_J Z M R k n Q nx ls (st) h) : z_J Z M R k n Q pc ls (v :: st) h := by
  intro D cA p l e s m args below meth c A H locs ws lsA X O L
  obtain ⟨hx, hb, -⟩ := id X
  subst hn
  exact lv_pop hx hb hd hv (g D cA p l e s m args below meth c A H locs ws lsA X O L)
theorem z_s_iconst {off : Int} {cv : Int32} (hd : decode M.2.1 pc = .ok (.iconst off, 1)) (hc : Int32.ofInt off = cv) (hn : nx = pc + 1) (g : z_J Z M R k n Q nx ls (.int cv :: st) h) : z_J Z M R k n Q pc ls (st) h := by
  intro D cA p l e s m args below meth c A H locs ws lsA X O L
  obtain ⟨hx, hb, -⟩ := id X
  subst hn
  exact lv_iconst hx hb hd hc (g D cA p l e s m args below meth c A H locs ws lsA X O L)
theorem z_s_null (hd : decode M.2.1 pc = .ok (.aconst_null, 1)) (hn : nx = pc + 1) (g : z_J Z M R k n Q nx ls (.null :: st) h) : z_J Z M R k n Q pc ls (st) h := by
  intro D cA p l e s m args below meth c A H locs ws lsA X O L
  obtain ⟨hx, hb, -⟩ := id X
  subst hn
  exact lv_null hx hb hd (g D cA p l e s m args below meth c A H locs ws lsA X O L)
theorem z_s_bipush {off : Int} {cv : Int32} (hd : decode M.2.1 pc = .ok (.bipush off, 2)) (hc : (Int8.ofInt off).toInt32 = cv) (hn : nx = pc + 2) (g : z_J Z M R k n Q nx ls (.int cv :: st) h) : z_J Z M R k n Q pc ls st h := by
  intro D cA p l e s m args below meth c A H locs ws lsA X O L
  obtain ⟨hx, hb, -⟩ := id X
  subst hn
  exact lv_bipush hx hb hd hc (g D cA p l e s m args below meth c A H locs ws lsA X O L)
theorem z_s_sipush {off : Int} {cv : Int32} (hd : decode M.2.1 pc = .ok (.sipush off, 3)) (hc : (Int16.ofInt off).toInt32 = cv) (hn : nx = pc + 3) (g : z_J Z M R k n Q nx ls (.int cv :: st) h) : z_J Z M R k n Q pc ls st h := by
  intro D cA p l e s m args below meth c A H locs ws lsA X O L
  obtain ⟨hx, hb, -⟩ := id X
  subst hn
  exact lv_sipush hx hb hd hc (g D cA p l e s m args below meth c A H locs ws lsA X O L)
theorem z_s_goto {off : Int} (hd : decode M.2.1 pc = .ok (.goto off, 3)) (ht : (pc : Int) + off = (nx : Int)) (g : z_J Z M R k n Q nx ls st h) : z_J Z M R k n Q pc ls st h := by
  intro D cA p l e s m args below meth c A H locs ws lsA X O L
  obtain ⟨hx, hb, -⟩ := id X
  exact lv_goto hx hb hd ht (g D cA p l e s m args below meth c A H locs ws lsA X O L)
theorem z_step_ok {i : ClassFile.Instr} {cv : Int32} (hk : z_ok1 M.2.1 pc i nx cv = true) (hs : z_step M.2.2.1 i cv ls st = some (ls', st')) (g : z_J Z M R k n Q nx ls' st' h) : z_J Z M R k n Q pc ls st h := by
  unfold z_step at hs
  split at hs
  all_goals (try (simp only [z_ok1, Bool.and_eq_true, decide_eq_true_eq, Nat.beq_eq] at hk))
  all_goals (try (simp only [Option.some.injEq, Prod.mk.injEq] at hs))
  · exact z_s_ldi (Or.inl ⟨hk.1, hk.2⟩) hs g
  · exact z_s_ldi (Or.inr ⟨_, rfl, hk.1, hk.2⟩) hs g
  · exact z_s_lda (Or.inl ⟨hk.1, hk.2⟩) hs g
  · exact z_s_lda (Or.inr ⟨_, rfl, hk.1, hk.2⟩) hs g
  · exact z_s_sti (Or.inl ⟨hk.1, hk.2⟩) hs g
  · exact z_s_sti (Or.inr ⟨_, rfl, hk.1, hk.2⟩) hs g
  · exact z_s_sta (Or.inl ⟨hk.1, hk.2⟩) hs g
  · exact z_s_sta (Or.inr ⟨_, rfl, hk.1, hk.2⟩) hs g
  · exact z_s_stn (Or.inl ⟨hk.1, hk.2⟩) hs g
  · exact z_s_stn (Or.inr ⟨_, rfl, hk.1, hk.2⟩) hs g
  · obtain ⟨rfl, rfl⟩ := hs; exact z_s_iconst hk.1.1 hk.2 hk.1.2 g
  · obtain ⟨rfl, rfl⟩ := hs; exact z_s_bipush hk.1.1 hk.2 hk.1.2 g
  · obtain ⟨rfl, rfl⟩ := hs; exact z_s_sipush hk.1.1 hk.2 hk.1.2 g
  · obtain ⟨rfl, rfl⟩ := hs; exact z_s_null hk.1 hk.2 g
  · split at hs
    · rename_i hl
      exact z_s_iinc hk.1.1 hk.1.2 hk.2 hl hs g
    · cases hs
  · obtain ⟨rfl, rfl⟩ := hs; exact z_s_iadd hk.1 hk.2 g
  · obtain ⟨rfl, rfl⟩ := hs; exact z_s_isub hk.1 hk.2 g
  · obtain ⟨rfl, rfl⟩ := hs; exact z_s_imul hk.1 hk.2 g
  · obtain ⟨rfl, rfl⟩ := hs; exact z_s_iand hk.1 hk.2 g
  · obtain ⟨rfl, rfl⟩ := hs; exact z_s_ior hk.1 hk.2 g
  · obtain ⟨rfl, rfl⟩ := hs; exact z_s_ixor hk.1 hk.2 g
  · obtain ⟨rfl, rfl⟩ := hs; exact z_s_ishl hk.1 hk.2 g
  · obtain ⟨rfl, rfl⟩ := hs; exact z_s_ishr hk.1 hk.2 g
  · obtain ⟨rfl, rfl⟩ := hs; exact z_s_i2l hk.1 hk.2 g
  · obtain ⟨rfl, rfl⟩ := hs; exact z_s_dup hk.1 rfl hk.2 g
  · obtain ⟨rfl, rfl⟩ := hs; exact z_s_dup hk.1 rfl hk.2 g
  · obtain ⟨rfl, rfl⟩ := hs; exact z_s_dup2 hk.1 rfl rfl hk.2 g
  · obtain ⟨rfl, rfl⟩ := hs; exact z_s_dup2 hk.1 rfl rfl hk.2 g
  · obtain ⟨rfl, rfl⟩ := hs; exact z_s_dup_x1 hk.1 rfl rfl hk.2 g
  · obtain ⟨rfl, rfl⟩ := hs; exact z_s_pop hk.1 rfl hk.2 g
  · obtain ⟨rfl, rfl⟩ := hs; exact z_s_pop hk.1 rfl hk.2 g
  · obtain ⟨rfl, rfl⟩ := hs; exact z_s_goto hk.1 hk.2 g
  · cases hs
theorem z_jr : ∀ (b : zB) {pc e : Nat} {ls ls' st st' : List Value}, z_ok M.2.1 pc b e = true → z_run M.2.2.1 b ls st = some (ls', st') → z_J Z M R k n Q e ls' st' h → z_J Z M R k n Q pc ls st h
  | [], pc, e, ls, ls', st, st', h1, h2, g => by
    simp only [z_ok, Nat.beq_eq] at h1
    simp only [z_run, Option.some.injEq, Prod.mk.injEq] at h2
    obtain ⟨rfl, rfl⟩ := h2
    subst h1
    exact g
  | t :: r, pc, e, ls, ls', st, st', h1, h2, g => by
    simp only [z_ok, Bool.and_eq_true, Nat.beq_eq] at h1
    simp only [z_run] at h2
    split at h2
    · rename_i q hq
      exact z_step_ok h1.1.2 hq (z_jr r h1.2 h2 g)
    · cases h2

theorem z_ic_eq {x y : Int32} {off : Int} {tgt : Nat} (hd : decode M.2.1 pc = .ok (.if_icmp .eq off, 3)) (ht : (pc : Int) + off = (tgt : Int)) (hn : pc + 3 = nx) (kt : x = y → z_J Z M R k n Q tgt ls st h) (kf : ¬ x = y → z_J Z M R k n Q nx ls st h) : z_J Z M R k n Q pc ls (.int y :: .int x :: st) h := by
  intro D cA p l e s m args below meth c A H locs ws lsA X O L
  obtain ⟨hx, hb, -⟩ := id X
  subst hn
  exact lv_icmp_eq hx hb hd ht (fun q => kt q D cA p l e s m args below meth c A H locs ws lsA X O L) (fun q => kf q D cA p l e s m args below meth c A H locs ws lsA X O L)
theorem z_ic_ne {x y : Int32} {off : Int} {tgt : Nat} (hd : decode M.2.1 pc = .ok (.if_icmp .ne off, 3)) (ht : (pc : Int) + off = (tgt : Int)) (hn : pc + 3 = nx) (kt : ¬ x = y → z_J Z M R k n Q tgt ls st h) (kf : x = y → z_J Z M R k n Q nx ls st h) : z_J Z M R k n Q pc ls (.int y :: .int x :: st) h := by
  intro D cA p l e s m args below meth c A H locs ws lsA X O L
  obtain ⟨hx, hb, -⟩ := id X
  subst hn
  exact lv_icmp_ne hx hb hd ht (fun q => kt q D cA p l e s m args below meth c A H locs ws lsA X O L) (fun q => kf q D cA p l e s m args below meth c A H locs ws lsA X O L)
theorem z_ic_lt {x y : Int32} {off : Int} {tgt : Nat} (hd : decode M.2.1 pc = .ok (.if_icmp .lt off, 3)) (ht : (pc : Int) + off = (tgt : Int)) (hn : pc + 3 = nx) (kt : x < y → z_J Z M R k n Q tgt ls st h) (kf : ¬ x < y → z_J Z M R k n Q nx ls st h) : z_J Z M R k n Q pc ls (.int y :: .int x :: st) h := by
  intro D cA p l e s m args below meth c A H locs ws lsA X O L
  obtain ⟨hx, hb, -⟩ := id X
  subst hn
  exact lv_icmp_lt hx hb hd ht (fun q => kt q D cA p l e s m args below meth c A H locs ws lsA X O L) (fun q => kf q D cA p l e s m args below meth c A H locs ws lsA X O L)
theorem z_ic_ge {x y : Int32} {off : Int} {tgt : Nat} (hd : decode M.2.1 pc = .ok (.if_icmp .ge off, 3)) (ht : (pc : Int) + off = (tgt : Int)) (hn : pc + 3 = nx) (kt : y ≤ x → z_J Z M R k n Q tgt ls st h) (kf : ¬ y ≤ x → z_J Z M R k n Q nx ls st h) : z_J Z M R k n Q pc ls (.int y :: .int x :: st) h := by
  intro D cA p l e s m args below meth c A H locs ws lsA X O L
  obtain ⟨hx, hb, -⟩ := id X
  subst hn
  exact lv_icmp_ge hx hb hd ht (fun q => kt q D cA p l e s m args below meth c A H locs ws lsA X O L) (fun q => kf q D cA p l e s m args below meth c A H locs ws lsA X O L)
theorem z_ic_gt {x y : Int32} {off : Int} {tgt : Nat} (hd : decode M.2.1 pc = .ok (.if_icmp .gt off, 3)) (ht : (pc : Int) + off = (tgt : Int)) (hn : pc + 3 = nx) (kt : y < x → z_J Z M R k n Q tgt ls st h) (kf : ¬ y < x → z_J Z M R k n Q nx ls st h) : z_J Z M R k n Q pc ls (.int y :: .int x :: st) h := by
  intro D cA p l e s m args below meth c A H locs ws lsA X O L
  obtain ⟨hx, hb, -⟩ := id X
  subst hn
  exact lv_icmp_gt hx hb hd ht (fun q => kt q D cA p l e s m args below meth c A H locs ws lsA X O L) (fun q => kf q D cA p l e s m args below meth c A H locs ws lsA X O L)
theorem z_ic_le {x y : Int32} {off : Int} {tgt : Nat} (hd : decode M.2.1 pc = .ok (.if_icmp .le off, 3)) (ht : (pc : Int) + off = (tgt : Int)) (hn : pc + 3 = nx) (kt : x ≤ y → z_J Z M R k n Q tgt ls st h) (kf : ¬ x ≤ y → z_J Z M R k n Q nx ls st h) : z_J Z M R k n Q pc ls (.int y :: .int x :: st) h := by
  intro D cA p l e s m args below meth c A H locs ws lsA X O L
  obtain ⟨hx, hb, -⟩ := id X
  subst hn
  exact lv_icmp_le hx hb hd ht (fun q => kt q D cA p l e s m args below meth c A H locs ws lsA X O L) (fun q => kf q D cA p l e s m args below meth c A H locs ws lsA X O L)
theorem z_if_eq {x : Int32} {off : Int} {tgt : Nat} (hd : decode M.2.1 pc = .ok (.ifCond .eq off, 3)) (ht : (pc : Int) + off = (tgt : Int)) (hn : pc + 3 = nx) (kt : x = 0 → z_J Z M R k n Q tgt ls st h) (kf : ¬ x = 0 → z_J Z M R k n Q nx ls st h) : z_J Z M R k n Q pc ls (.int x :: st) h := by
  intro D cA p l e s m args below meth c A H locs ws lsA X O L
  obtain ⟨hx, hb, -⟩ := id X
  subst hn
  exact lv_if_eq hx hb hd ht (fun q => kt q D cA p l e s m args below meth c A H locs ws lsA X O L) (fun q => kf q D cA p l e s m args below meth c A H locs ws lsA X O L)
theorem z_if_ne {x : Int32} {off : Int} {tgt : Nat} (hd : decode M.2.1 pc = .ok (.ifCond .ne off, 3)) (ht : (pc : Int) + off = (tgt : Int)) (hn : pc + 3 = nx) (kt : ¬ x = 0 → z_J Z M R k n Q tgt ls st h) (kf : x = 0 → z_J Z M R k n Q nx ls st h) : z_J Z M R k n Q pc ls (.int x :: st) h := by
  intro D cA p l e s m args below meth c A H locs ws lsA X O L
  obtain ⟨hx, hb, -⟩ := id X
  subst hn
  exact lv_if_ne hx hb hd ht (fun q => kt q D cA p l e s m args below meth c A H locs ws lsA X O L) (fun q => kf q D cA p l e s m args below meth c A H locs ws lsA X O L)
theorem z_if_lt {x : Int32} {off : Int} {tgt : Nat} (hd : decode M.2.1 pc = .ok (.ifCond .lt off, 3)) (ht : (pc : Int) + off = (tgt : Int)) (hn : pc + 3 = nx) (kt : x < 0 → z_J Z M R k n Q tgt ls st h) (kf : ¬ x < 0 → z_J Z M R k n Q nx ls st h) : z_J Z M R k n Q pc ls (.int x :: st) h := by
  intro D cA p l e s m args below meth c A H locs ws lsA X O L
  obtain ⟨hx, hb, -⟩ := id X
  subst hn
  exact lv_if_lt hx hb hd ht (fun q => kt q D cA p l e s m args below meth c A H locs ws lsA X O L) (fun q => kf q D cA p l e s m args below meth c A H locs ws lsA X O L)
theorem z_if_ge {x : Int32} {off : Int} {tgt : Nat} (hd : decode M.2.1 pc = .ok (.ifCond .ge off, 3)) (ht : (pc : Int) + off = (tgt : Int)) (hn : pc + 3 = nx) (kt : 0 ≤ x → z_J Z M R k n Q tgt ls st h) (kf : ¬ 0 ≤ x → z_J Z M R k n Q nx ls st h) : z_J Z M R k n Q pc ls (.int x :: st) h := by
  intro D cA p l e s m args below meth c A H locs ws lsA X O L
  obtain ⟨hx, hb, -⟩ := id X
  subst hn
  exact lv_if_ge hx hb hd ht (fun q => kt q D cA p l e s m args below meth c A H locs ws lsA X O L) (fun q => kf q D cA p l e s m args below meth c A H locs ws lsA X O L)
theorem z_if_gt {x : Int32} {off : Int} {tgt : Nat} (hd : decode M.2.1 pc = .ok (.ifCond .gt off, 3)) (ht : (pc : Int) + off = (tgt : Int)) (hn : pc + 3 = nx) (kt : 0 < x → z_J Z M R k n Q tgt ls st h) (kf : ¬ 0 < x → z_J Z M R k n Q nx ls st h) : z_J Z M R k n Q pc ls (.int x :: st) h := by
  intro D cA p l e s m args below meth c A H locs ws lsA X O L
  obtain ⟨hx, hb, -⟩ := id X
  subst hn
  exact lv_if_gt hx hb hd ht (fun q => kt q D cA p l e s m args below meth c A H locs ws lsA X O L) (fun q => kf q D cA p l e s m args below meth c A H locs ws lsA X O L)
theorem z_if_le {x : Int32} {off : Int} {tgt : Nat} (hd : decode M.2.1 pc = .ok (.ifCond .le off, 3)) (ht : (pc : Int) + off = (tgt : Int)) (hn : pc + 3 = nx) (kt : x ≤ 0 → z_J Z M R k n Q tgt ls st h) (kf : ¬ x ≤ 0 → z_J Z M R k n Q nx ls st h) : z_J Z M R k n Q pc ls (.int x :: st) h := by
  intro D cA p l e s m args below meth c A H locs ws lsA X O L
  obtain ⟨hx, hb, -⟩ := id X
  subst hn
  exact lv_if_le hx hb hd ht (fun q => kt q D cA p l e s m args below meth c A H locs ws lsA X O L) (fun q => kf q D cA p l e s m args below meth c A H locs ws lsA X O L)
theorem z_ifnull {a : Nat} {off : Int} (hd : decode M.2.1 pc = .ok (.ifnull off, 3)) (hn : pc + 3 = nx) (g : z_J Z M R k n Q nx ls st h) : z_J Z M R k n Q pc ls (.ref a :: st) h := by
  intro D cA p l e s m args below meth c A H locs ws lsA X O L
  obtain ⟨hx, hb, -⟩ := id X
  subst hn
  exact lv_ifnull hx hb hd (g D cA p l e s m args below meth c A H locs ws lsA X O L)
theorem z_ifnullN {off : Int} {tgt : Nat} (hd : decode M.2.1 pc = .ok (.ifnull off, 3)) (ht : (pc : Int) + off = (tgt : Int)) (g : z_J Z M R k n Q tgt ls st h) : z_J Z M R k n Q pc ls (.null :: st) h := by
  intro D cA p l e s m args below meth c A H locs ws lsA X O L
  obtain ⟨hx, hb, -⟩ := id X
  exact lv_ifnullN hx hb hd ht (g D cA p l e s m args below meth c A H locs ws lsA X O L)
theorem z_acmp_eq {a : Nat} {off : Int} {tgt : Nat} (hd : decode M.2.1 pc = .ok (.if_acmp .eq off, 3)) (ht : (pc : Int) + off = (tgt : Int)) (g : z_J Z M R k n Q tgt ls st h) : z_J Z M R k n Q pc ls (.ref a :: .ref a :: st) h := by
  intro D cA p l e s m args below meth c A H locs ws lsA X O L
  obtain ⟨hx, hb, -⟩ := id X
  exact lv_acmp_eq (rx := some a) (ry := some a) hx hb hd ht (fun _ => g D cA p l e s m args below meth c A H locs ws lsA X O L) (fun q => absurd rfl q)
theorem z_lcmp_id {x y : Int64} (hd : decode M.2.1 pc = .ok (.lcmp, 1)) (hn : pc + 1 = nx) (g : z_J Z M R k n Q nx ls (.int (lg_cmp x y) :: st) h) : z_J Z M R k n Q pc ls (.long y :: .long x :: st) h := by
  intro D cA p l e s m args below meth c A H locs ws lsA X O L
  obtain ⟨hx, hb, -⟩ := id X
  subst hn
  exact W.lcmp hx hb hd (g D cA p l e s m args below meth c A H locs ws lsA X O L)
end ZR
end
section
/-! ===== rows of the heap ===== -/
def z_u (h : zH) (r : Nat) (x : Nat × zE) : zH := fun q => if q = r then some x else h q
theorem z_u_s {h : zH} {r : Nat} {x : Nat × zE} : z_u h r x r = some x := if_pos rfl
theorem z_u_n {h : zH} {r q : Nat} {x : Nat × zE} (hq : q ≠ r) : z_u h r x q = h q := if_neg hq
theorem z_C_set {cA : Nat → ClassId} {h : zH} {ws : va_W} {r a j : Nat} {e : zE} {x : va_E} (e' : zE) (hC : z_C cA h ws) (hr : h r = some (a, e)) (hj : ws[j]? = some (a, x)) : z_C cA (z_u h r (a, e')) (ws.set j (a, z_cv cA e')) := by
  have hl := (List.getElem?_eq_some_iff.mp hj).1
  constructor
  · intro r1 a1 e1 h1
    unfold z_u at h1
    split at h1
    · cases h1
      exact List.mem_of_getElem? (List.getElem?_set_self hl)
    · rename_i hne
      obtain ⟨i, hi⟩ := List.getElem?_of_mem (hC.1 r1 a1 e1 h1)
      by_cases hij : i = j
      · subst hij
        rw [hj] at hi
        cases hi
        exact absurd (hC.2 r1 r a e1 e h1 hr) hne
      · exact List.mem_of_getElem? (i := i) (by rw [List.getElem?_set_ne (Ne.symm hij)]; exact hi)
  · have key : ∀ r1 a1 e1, z_u h r (a, e') r1 = some (a1, e1) → ∃ e2, h r1 = some (a1, e2) := by
      intro r1 a1 e1 h1
      unfold z_u at h1
      split at h1
      · rename_i he
        cases h1
        exact ⟨e, by rw [he]; exact hr⟩
      · exact ⟨e1, h1⟩
    intro r1 r2 a1 e1 e2 h1 h2
    obtain ⟨x1, y1⟩ := key _ _ _ h1
    obtain ⟨x2, y2⟩ := key _ _ _ h2
    exact hC.2 r1 r2 a1 x1 x2 y1 y2
theorem z_C_push {cA : Nat → ClassId} {h : zH} {A : Nat → Prop} {ws : va_W} {r q : Nat} (e : zE) (hC : z_C cA h ws) (hD : va_D A (ws ++ [(q, z_cv cA e)])) : z_C cA (z_u h r (q, e)) (ws ++ [(q, z_cv cA e)]) := by
  have hlast : (ws ++ [(q, z_cv cA e)])[ws.length]? = some (q, z_cv cA e) := by simp
  have hap : ∀ a1 x, (a1, x) ∈ ws → a1 ≠ q := by
    intro a1 x hm he
    obtain ⟨i, hi⟩ := List.getElem?_of_mem hm
    have hl := (List.getElem?_eq_some_iff.mp hi).1
    have := hD.1 i ws.length (a1, x) (q, z_cv cA e) (by rw [List.getElem?_append_left hl]; exact hi) hlast he
    omega
  constructor
  · intro r1 a1 e1 h1
    unfold z_u at h1
    split at h1
    · cases h1
      exact List.mem_append_right _ (List.mem_singleton.mpr rfl)
    · exact List.mem_append_left _ (hC.1 r1 a1 e1 h1)
  · intro r1 r2 a1 e1 e2 h1 h2
    unfold z_u at h1 h2
    split at h1 <;> split at h2
    · rename_i g1 g2; rw [g1, g2]
    · cases h1
      exact absurd rfl (hap _ _ (hC.1 _ _ _ h2))
    · cases h2
      exact absurd rfl (hap _ _ (hC.1 _ _ _ h1))
    · exact hC.2 _ _ _ _ _ h1 h2
/-- a field that a getfield reads: the linking method's class, the entry, the class in vwCl, the field -/
def z_fl (own ref : String) (idx ci j : Nat) (C : String) (T : u_T) (N : Nat) : Prop :=
  vwCl[ci]? = some (C, T, N) ∧ j < N ∧ Cond.fieldLink own idx ref (T j).2.1 (T j).2.2.1 ∈ z_G ∧ (∀ w ∈ u_ws C T N, w ∈ z_G) ∧ ((T j).1 = ref ∨ Cond.sameField ref (T j).1 (T j).2.1 (T j).2.2.1 ∈ z_G)
def z_fw (j : Nat) (T : u_T) (N : Nat) (ty : FieldType) (ty0 : Nat → FieldType) : Prop :=
  parseFieldDescriptor (T j).2.2.1 = some ty ∧ (∀ k, k < N → parseFieldDescriptor (T k).2.2.1 = some (ty0 k)) ∧ (∀ a, a < N → ∀ b, b < N → a ≠ b → (T a).2.1 ≠ (T b).2.1)
def z_mchk (R : Room) (st : List Value) (k n : Nat) : Bool := Nat.ble 1 R.frames && Nat.ble ((st.map fun v => v.category).sum + 13) R.locals && Nat.ble k R.cells && Nat.ble n R.slots
section ZH
variable {Z : zZ} {M : zM} {R : Room} {k n : Nat} {Q : zO → zH → Prop} {pc nx : Nat} {ls st : List Value} {h : zH}
theorem z_get {a r idx ci j N : Nat} {C ref : String} {T : u_T} {fs : List Value} {v : Value} (hd : decode M.2.1 pc = .ok (.getfield idx, 3)) (hn : pc + 3 = nx) (hf : z_fl M.1.cls ref idx ci j C T N) (hh : h r = some (a, .inr (ci, fs))) (hv : fs[j]? = some v) (g : z_J Z M R k n Q nx ls (v :: st) h) : z_J Z M R k n Q pc ls (.ref a :: st) h := by
  intro D cA p l e s m args below meth c A H locs ws lsA X O L
  obtain ⟨hx, hb, hr, hml, hown, hts, hlocks, htab, hnm, htr, hK, hA, hZ⟩ := id X
  obtain ⟨hC, hP, hD, hS⟩ := id O
  obtain ⟨hc, hj, hl, hin, hre⟩ := hf
  obtain ⟨q0, hq⟩ := List.getElem?_of_mem (hC.1 r a _ hh)
  subst hn
  have hsame : ∀ x, s.fieldFound? (T j).1 (T j).2.1 (T j).2.2.1 = some x → s.fieldFound? ref (T j).2.1 (T j).2.2.1 = some x := by
    rcases hre with hre | hre
    · rw [hre]; exact fun _ h9 => h9
    · exact fun x h9 => u_same (hts _ hre) x h9
  exact va_get (D := D) (cl := vwCl) hx hb hts hin hown hK hP q0 hq hc j hj (hts _ hl) hsame hv hd (g D cA p l e s m args below meth c A H locs ws lsA X O L)
theorem z_put {a r idx ci j N : Nat} {C ref : String} {T : u_T} {ty : FieldType} {ty0 : Nat → FieldType} {fs : List Value} {v : Value} (hd : decode M.2.1 pc = .ok (.putfield idx, 3)) (hn : pc + 3 = nx) (hf : z_fl M.1.cls ref idx ci j C T N) (hw : z_fw j T N ty ty0) (hfin : (T j).2.2.2 = false) (hh : h r = some (a, .inr (ci, fs))) (hnar : narrow ty v = v) (hfit : fits ty v = true) (hlen : j < fs.length) (g : z_J Z M R k n Q nx ls st (z_u h r (a, .inr (ci, fs.set j v)))) : z_J Z M R k n Q pc ls (v :: .ref a :: st) h := by
  intro D cA p l e s m args below meth c A H locs ws lsA X O L
  obtain ⟨hx, hb, hr, hml, hown, hts, hlocks, htab, hnm, htr, hK, hA, hZ⟩ := id X
  obtain ⟨hC, hP, hD, hS⟩ := id O
  obtain ⟨hc, hj, hl, hin, hre⟩ := hf
  obtain ⟨q0, hq⟩ := List.getElem?_of_mem (hC.1 r a _ hh)
  subst hn
  have hsame : ∀ x, s.fieldFound? (T j).1 (T j).2.1 (T j).2.2.1 = some x → s.fieldFound? ref (T j).2.1 (T j).2.2.1 = some x := by
    rcases hre with hre | hre
    · rw [hre]; exact fun _ h9 => h9
    · exact fun x h9 => u_same (hts _ hre) x h9
  exact va_put (D := D) (cl := vwCl) hx hb hts hin ty0 hw.2.1 hw.2.2 hown hK hP hD hS q0 hq hc j hj (hts _ hl) hsame hfin hw.1 hnar hfit hlen hd (fun H1 locs1 hP1 hD1 hS1 => g D cA p l e s m args below meth c A H1 locs1 _ lsA X ⟨z_C_set (.inr (ci, fs.set j v)) hC hh hq, hP1, hD1, hS1⟩ L)
theorem z_putF {a r idx ci j N : Nat} {C ref : String} {T : u_T} {ty : FieldType} {ty0 : Nat → FieldType} {fs : List Value} {v : Value} (hd : decode M.2.1 pc = .ok (.putfield idx, 3)) (hn : pc + 3 = nx) (hf : z_fl M.1.cls ref idx ci j C T N) (hw : z_fw j T N ty ty0) (hfin : (T j).2.2.2 = true) (hin2 : M.1.name = "<init>") (hdec : (T j).1 = M.1.cls) (hh : h r = some (a, .inr (ci, fs))) (hnar : narrow ty v = v) (hfit : fits ty v = true) (hlen : j < fs.length) (g : z_J Z M R k n Q nx ls st (z_u h r (a, .inr (ci, fs.set j v)))) : z_J Z M R k n Q pc ls (v :: .ref a :: st) h := by
  intro D cA p l e s m args below meth c A H locs ws lsA X O L
  obtain ⟨hx, hb, hr, hml, hown, hts, hlocks, htab, hnm, htr, hK, hA, hZ⟩ := id X
  obtain ⟨hC, hP, hD, hS⟩ := id O
  obtain ⟨hc, hj, hl, hin, hre⟩ := hf
  obtain ⟨q0, hq⟩ := List.getElem?_of_mem (hC.1 r a _ hh)
  subst hn
  have hsame : ∀ x, s.fieldFound? (T j).1 (T j).2.1 (T j).2.2.1 = some x → s.fieldFound? ref (T j).2.1 (T j).2.2.1 = some x := by
    rcases hre with hre | hre
    · rw [hre]; exact fun _ h9 => h9
    · exact fun x h9 => u_same (hts _ hre) x h9
  exact va_putF (D := D) (cl := vwCl) hx hb hts hin ty0 hw.2.1 hw.2.2 hown hK hP hD hS q0 hq hc j hj (hts _ hl) hsame hfin (hnm.trans hin2) hdec hw.1 hnar hfit hlen hd (fun H1 locs1 hP1 hD1 hS1 => g D cA p l e s m args below meth c A H1 locs1 _ lsA X ⟨z_C_set (.inr (ci, fs.set j v)) hC hh hq, hP1, hD1, hS1⟩ L)

theorem z_iald {a r j N : Nat} {i : Int32} {f : Nat → Int32} (hd : decode M.2.1 pc = .ok (.iaload, 1)) (hn : pc + 1 = nx) (hh : h r = some (a, .inl (0, N, .inl f))) (hi : i = nI j) (hj : j < N) (hN : N < 2 ^ 31) (g : z_J Z M R k n Q nx ls (.int (f j) :: st) h) : z_J Z M R k n Q pc ls (.int i :: .ref a :: st) h := by
  intro D cA p l e s m args below meth c A H locs ws lsA X O L
  obtain ⟨hx, hb, hr, hml, hown, hts, hlocks, htab, hnm, htr, hK, hA, hZ⟩ := id X
  obtain ⟨hC, hP, hD, hS⟩ := id O
  obtain ⟨q0, hq⟩ := List.getElem?_of_mem (hC.1 r a _ hh)
  subst hn
  subst hi
  have hcl : (nI j).toNatClampNeg = j := nI_clamp (by omega)
  refine va_iald (D := D) (cl := vwCl) hx hb hK hP q0 0 hq rfl (vp_in_nI hj hN) hd ?_
  rw [hcl]
  exact (g D cA p l e s m args below meth c A H locs ws lsA X O L)
theorem z_zald {a r j N : Nat} {i : Int32} {f : Nat → Int32} (hd : decode M.2.1 pc = .ok (.baload, 1)) (hn : pc + 1 = nx) (hh : h r = some (a, .inl (1, N, .inl f))) (hi : i = nI j) (hj : j < N) (hN : N < 2 ^ 31) (g : z_J Z M R k n Q nx ls (.int (f j) :: st) h) : z_J Z M R k n Q pc ls (.int i :: .ref a :: st) h := by
  intro D cA p l e s m args below meth c A H locs ws lsA X O L
  obtain ⟨hx, hb, hr, hml, hown, hts, hlocks, htab, hnm, htr, hK, hA, hZ⟩ := id X
  obtain ⟨hC, hP, hD, hS⟩ := id O
  obtain ⟨q0, hq⟩ := List.getElem?_of_mem (hC.1 r a _ hh)
  subst hn
  subst hi
  have hcl : (nI j).toNatClampNeg = j := nI_clamp (by omega)
  refine va_zald (D := D) (cl := vwCl) hx hb hK hP q0 1 hq rfl (vp_in_nI hj hN) hd ?_
  rw [hcl]
  exact (g D cA p l e s m args below meth c A H locs ws lsA X O L)
theorem z_lald {a r j N : Nat} {i : Int32} {f : Nat → Int64} (hd : decode M.2.1 pc = .ok (.laload, 1)) (hn : pc + 1 = nx) (hh : h r = some (a, .inl (2, N, .inr (.inl f)))) (hi : i = nI j) (hj : j < N) (hN : N < 2 ^ 31) (g : z_J Z M R k n Q nx ls (.long (f j) :: st) h) : z_J Z M R k n Q pc ls (.int i :: .ref a :: st) h := by
  intro D cA p l e s m args below meth c A H locs ws lsA X O L
  obtain ⟨hx, hb, hr, hml, hown, hts, hlocks, htab, hnm, htr, hK, hA, hZ⟩ := id X
  obtain ⟨hC, hP, hD, hS⟩ := id O
  obtain ⟨q0, hq⟩ := List.getElem?_of_mem (hC.1 r a _ hh)
  subst hn
  subst hi
  have hcl : (nI j).toNatClampNeg = j := nI_clamp (by omega)
  refine va_lald (D := D) (cl := vwCl) hx hb hK hP q0 2 hq rfl (vp_in_nI hj hN) hd ?_
  rw [hcl]
  exact (g D cA p l e s m args below meth c A H locs ws lsA X O L)
theorem z_aald3 {a r j N : Nat} {i : Int32} {f : Nat → Option Nat} (hd : decode M.2.1 pc = .ok (.aaload, 1)) (hn : pc + 1 = nx) (hh : h r = some (a, .inl (3, N, .inr (.inr (.inr (.inr f)))))) (hi : i = nI j) (hj : j < N) (hN : N < 2 ^ 31) (g : z_J Z M R k n Q nx ls (va_rf (f j) :: st) h) : z_J Z M R k n Q pc ls (.int i :: .ref a :: st) h := by
  intro D cA p l e s m args below meth c A H locs ws lsA X O L
  obtain ⟨hx, hb, hr, hml, hown, hts, hlocks, htab, hnm, htr, hK, hA, hZ⟩ := id X
  obtain ⟨hC, hP, hD, hS⟩ := id O
  obtain ⟨q0, hq⟩ := List.getElem?_of_mem (hC.1 r a _ hh)
  subst hn
  subst hi
  have hcl : (nI j).toNatClampNeg = j := nI_clamp (by omega)
  have hin := vp_in_nI hj hN
  have hlt : (nI j).toNatClampNeg < N := by rw [hcl]; exact hj
  refine W.aald (v := va_rf (f (nI j).toNatClampNeg)) (ty := .array .int) hx hb (hP q0 _ hq) ((hK.2 3 _ rfl).1 N (fun j => va_rf (f j))) rfl (fun q => by cases q) (by show ¬ (nI j < 0 ∨ (arrV _ _ _).slots.size ≤ _); rw [arrV_size]; exact hin) (by show (arrV _ _ _).slots[_]? = _; rw [arrV_read _ _ hlt]) rfl rfl hd ?_
  rw [hcl]
  exact (g D cA p l e s m args below meth c A H locs ws lsA X O L)
theorem z_aald4 {a r j N : Nat} {i : Int32} {f : Nat → Option Nat} (hd : decode M.2.1 pc = .ok (.aaload, 1)) (hn : pc + 1 = nx) (hh : h r = some (a, .inl (4, N, .inr (.inr (.inr (.inr f)))))) (hi : i = nI j) (hj : j < N) (hN : N < 2 ^ 31) (g : z_J Z M R k n Q nx ls (va_rf (f j) :: st) h) : z_J Z M R k n Q pc ls (.int i :: .ref a :: st) h := by
  intro D cA p l e s m args below meth c A H locs ws lsA X O L
  obtain ⟨hx, hb, hr, hml, hown, hts, hlocks, htab, hnm, htr, hK, hA, hZ⟩ := id X
  obtain ⟨hC, hP, hD, hS⟩ := id O
  obtain ⟨q0, hq⟩ := List.getElem?_of_mem (hC.1 r a _ hh)
  subst hn
  subst hi
  have hcl : (nI j).toNatClampNeg = j := nI_clamp (by omega)
  have hin := vp_in_nI hj hN
  have hlt : (nI j).toNatClampNeg < N := by rw [hcl]; exact hj
  refine W.aald (v := va_rf (f (nI j).toNatClampNeg)) (ty := .object "RightsCounter$History") hx hb (hP q0 _ hq) ((hK.2 4 _ rfl).1 N (fun j => va_rf (f j))) rfl (fun q => by cases q) (by show ¬ (nI j < 0 ∨ (arrV _ _ _).slots.size ≤ _); rw [arrV_size]; exact hin) (by show (arrV _ _ _).slots[_]? = _; rw [arrV_read _ _ hlt]) rfl rfl hd ?_
  rw [hcl]
  exact (g D cA p l e s m args below meth c A H locs ws lsA X O L)
theorem z_aald5 {a r j N : Nat} {i : Int32} {f : Nat → Option Nat} (hd : decode M.2.1 pc = .ok (.aaload, 1)) (hn : pc + 1 = nx) (hh : h r = some (a, .inl (5, N, .inr (.inr (.inr (.inr f)))))) (hi : i = nI j) (hj : j < N) (hN : N < 2 ^ 31) (g : z_J Z M R k n Q nx ls (va_rf (f j) :: st) h) : z_J Z M R k n Q pc ls (.int i :: .ref a :: st) h := by
  intro D cA p l e s m args below meth c A H locs ws lsA X O L
  obtain ⟨hx, hb, hr, hml, hown, hts, hlocks, htab, hnm, htr, hK, hA, hZ⟩ := id X
  obtain ⟨hC, hP, hD, hS⟩ := id O
  obtain ⟨q0, hq⟩ := List.getElem?_of_mem (hC.1 r a _ hh)
  subst hn
  subst hi
  have hcl : (nI j).toNatClampNeg = j := nI_clamp (by omega)
  have hin := vp_in_nI hj hN
  have hlt : (nI j).toNatClampNeg < N := by rw [hcl]; exact hj
  refine W.aald (v := va_rf (f (nI j).toNatClampNeg)) (ty := .object "java/lang/Object") hx hb (hP q0 _ hq) ((hK.2 5 _ rfl).1 N (fun j => va_rf (f j))) rfl (fun q => by cases q) (by show ¬ (nI j < 0 ∨ (arrV _ _ _).slots.size ≤ _); rw [arrV_size]; exact hin) (by show (arrV _ _ _).slots[_]? = _; rw [arrV_read _ _ hlt]) rfl rfl hd ?_
  rw [hcl]
  exact (g D cA p l e s m args below meth c A H locs ws lsA X O L)
theorem z_iast {a r j N : Nat} {i : Int32} {x : Int32} {f : Nat → Int32} (hd : decode M.2.1 pc = .ok (.iastore, 1)) (hn : pc + 1 = nx) (hh : h r = some (a, .inl (0, N, .inl f))) (hi : i = nI j) (hj : j < N) (hN : N < 2 ^ 31) (g : z_J Z M R k n Q nx ls st (z_u h r (a, .inl (0, N, .inl (upd f j x))))) : z_J Z M R k n Q pc ls (.int x :: .int i :: .ref a :: st) h := by
  intro D cA p l e s m args below meth c A H locs ws lsA X O L
  obtain ⟨hx, hb, hr, hml, hown, hts, hlocks, htab, hnm, htr, hK, hA, hZ⟩ := id X
  obtain ⟨hC, hP, hD, hS⟩ := id O
  obtain ⟨q0, hq⟩ := List.getElem?_of_mem (hC.1 r a _ hh)
  subst hn
  subst hi
  have hcl : (nI j).toNatClampNeg = j := nI_clamp (by omega)
  refine va_iast (D := D) (cl := vwCl) hx hb hK hP hD hS q0 0 hq rfl (vp_in_nI hj hN) hd (fun H1 locs1 hP1 hD1 hS1 => ?_)
  rw [hcl] at hP1 hD1
  exact g D cA p l e s m args below meth c A H1 locs1 _ lsA X ⟨z_C_set (.inl (0, N, .inl (upd f j x))) hC hh hq, hP1, hD1, hS1⟩ L
theorem z_zast {a r j N : Nat} {i : Int32} {x : Int32} {f : Nat → Int32} (hd : decode M.2.1 pc = .ok (.bastore, 1)) (hn : pc + 1 = nx) (hh : h r = some (a, .inl (1, N, .inl f))) (hi : i = nI j) (hj : j < N) (hN : N < 2 ^ 31) (hz : vp_nar .boolean x = x) (g : z_J Z M R k n Q nx ls st (z_u h r (a, .inl (1, N, .inl (upd f j x))))) : z_J Z M R k n Q pc ls (.int x :: .int i :: .ref a :: st) h := by
  intro D cA p l e s m args below meth c A H locs ws lsA X O L
  obtain ⟨hx, hb, hr, hml, hown, hts, hlocks, htab, hnm, htr, hK, hA, hZ⟩ := id X
  obtain ⟨hC, hP, hD, hS⟩ := id O
  obtain ⟨q0, hq⟩ := List.getElem?_of_mem (hC.1 r a _ hh)
  subst hn
  subst hi
  have hcl : (nI j).toNatClampNeg = j := nI_clamp (by omega)
  refine va_zast (D := D) (cl := vwCl) hx hb hK hP hD hS q0 1 hq rfl (vp_in_nI hj hN) hd (fun H1 locs1 hP1 hD1 hS1 => ?_)
  rw [hcl] at hP1 hD1
  rw [hz] at hP1 hD1
  exact g D cA p l e s m args below meth c A H1 locs1 _ lsA X ⟨z_C_set (.inl (1, N, .inl (upd f j x))) hC hh hq, hP1, hD1, hS1⟩ L
theorem z_last {a r j N : Nat} {i : Int32} {x : Int64} {f : Nat → Int64} (hd : decode M.2.1 pc = .ok (.lastore, 1)) (hn : pc + 1 = nx) (hh : h r = some (a, .inl (2, N, .inr (.inl f)))) (hi : i = nI j) (hj : j < N) (hN : N < 2 ^ 31) (g : z_J Z M R k n Q nx ls st (z_u h r (a, .inl (2, N, .inr (.inl (vp_updL f j x)))))) : z_J Z M R k n Q pc ls (.long x :: .int i :: .ref a :: st) h := by
  intro D cA p l e s m args below meth c A H locs ws lsA X O L
  obtain ⟨hx, hb, hr, hml, hown, hts, hlocks, htab, hnm, htr, hK, hA, hZ⟩ := id X
  obtain ⟨hC, hP, hD, hS⟩ := id O
  obtain ⟨q0, hq⟩ := List.getElem?_of_mem (hC.1 r a _ hh)
  subst hn
  subst hi
  have hcl : (nI j).toNatClampNeg = j := nI_clamp (by omega)
  refine va_last (D := D) (cl := vwCl) hx hb hK hP hD hS q0 2 hq rfl (vp_in_nI hj hN) hd (fun H1 locs1 hP1 hD1 hS1 => ?_)
  rw [hcl] at hP1 hD1
  exact g D cA p l e s m args below meth c A H1 locs1 _ lsA X ⟨z_C_set (.inl (2, N, .inr (.inl (vp_updL f j x)))) hC hh hq, hP1, hD1, hS1⟩ L
theorem z_aast4 {a r j N v rv : Nat} {i : Int32} {vs : List Value} {f : Nat → Option Nat} (hd : decode M.2.1 pc = .ok (.aastore, 1)) (hn : pc + 1 = nx) (hh : h r = some (a, .inl (4, N, .inr (.inr (.inr (.inr f)))))) (hi : i = nI j) (hj : j < N) (hN : N < 2 ^ 31) (hv : h rv = some (v, .inr (2, vs))) (g : z_J Z M R k n Q nx ls st (z_u h r (a, .inl (4, N, .inr (.inr (.inr (.inr (va_up f j (some v)))))))) ) : z_J Z M R k n Q pc ls (.ref v :: .int i :: .ref a :: st) h := by
  intro D cA p l e s m args below meth c A H locs ws lsA X O L
  obtain ⟨hx, hb, hr, hml, hown, hts, hlocks, htab, hnm, htr, hK, hA, hZ⟩ := id X
  obtain ⟨hC, hP, hD, hS⟩ := id O
  obtain ⟨q0, hq⟩ := List.getElem?_of_mem (hC.1 r a _ hh)
  subst hn
  subst hi
  have hcl : (nI j).toNatClampNeg = j := nI_clamp (by omega)
  obtain ⟨qk, hqk⟩ := List.getElem?_of_mem (hC.1 rv v _ hv)
  refine va_astq (D := D) (cl := vwCl) (r := (RX1, TX1, 4)) hx hb hK hP hD hS q0 4 qk 2 hq rfl hqk rfl (vp_in_nI hj hN) hd (fun H1 locs1 hP1 hD1 hS1 => ?_)
  rw [hcl] at hP1 hD1
  exact g D cA p l e s m args below meth c A H1 locs1 _ lsA X ⟨z_C_set (.inl (4, N, .inr (.inr (.inr (.inr (va_up f j (some v))))))) hC hh hq, hP1, hD1, hS1⟩ L
theorem z_aast5 {a r j N v rv ci : Nat} {i : Int32} {vs : List Value} {q : vw_C} {f : Nat → Option Nat} (hd : decode M.2.1 pc = .ok (.aastore, 1)) (hn : pc + 1 = nx) (hh : h r = some (a, .inl (5, N, .inr (.inr (.inr (.inr f)))))) (hi : i = nI j) (hj : j < N) (hN : N < 2 ^ 31) (hv : h rv = some (v, .inr (ci, vs))) (hc : vwCl[ci]? = some q) (hca : (q.1, "java/lang/Object") ∈ z_casts) (g : z_J Z M R k n Q nx ls st (z_u h r (a, .inl (5, N, .inr (.inr (.inr (.inr (va_up f j (some v)))))))) ) : z_J Z M R k n Q pc ls (.ref v :: .int i :: .ref a :: st) h := by
  intro D cA p l e s m args below meth c A H locs ws lsA X O L
  obtain ⟨hx, hb, hr, hml, hown, hts, hlocks, htab, hnm, htr, hK, hA, hZ⟩ := id X
  obtain ⟨hC, hP, hD, hS⟩ := id O
  obtain ⟨q0, hq⟩ := List.getElem?_of_mem (hC.1 r a _ hh)
  subst hn
  subst hi
  have hcl : (nI j).toNatClampNeg = j := nI_clamp (by omega)
  obtain ⟨qk, hqk⟩ := List.getElem?_of_mem (hC.1 rv v _ hv)
  refine va_astqO (D := D) (cl := vwCl) (r := q) hx hb hK hP hD hS q0 5 qk ci hq rfl (hZ.2.2.2.2.2.2.1 _ hca) hqk hc (vp_in_nI hj hN) hd (fun H1 locs1 hP1 hD1 hS1 => ?_)
  rw [hcl] at hP1 hD1
  exact g D cA p l e s m args below meth c A H1 locs1 _ lsA X ⟨z_C_set (.inl (5, N, .inr (.inr (.inr (.inr (va_up f j (some v))))))) hC hh hq, hP1, hD1, hS1⟩ L
theorem z_alen {a r t : Nat} {x : vp_A} {ty : Nat} (hd : decode M.2.1 pc = .ok (.arraylength, 1)) (hn : pc + 1 = nx) (hh : h r = some (a, .inl (t, x))) (ht : t < 6) (g : z_J Z M R k n Q nx ls (.int (nI x.1) :: st) h) : z_J Z M R k n Q pc ls (.ref a :: st) h := by
  intro D cA p l e s m args below meth c A H locs ws lsA X O L
  obtain ⟨hx, hb, hr, hml, hown, hts, hlocks, htab, hnm, htr, hK, hA, hZ⟩ := id X
  obtain ⟨hC, hP, hD, hS⟩ := id O
  obtain ⟨q0, hq⟩ := List.getElem?_of_mem (hC.1 r a _ hh)
  subst hn
  obtain ⟨ty, hty⟩ : ∃ ty, (z_tys cA)[t]? = some (cA t, ty) := by
    rcases (show t = 0 ∨ t = 1 ∨ t = 2 ∨ t = 3 ∨ t = 4 ∨ t = 5 by omega) with rfl | rfl | rfl | rfl | rfl | rfl <;> exact ⟨_, rfl⟩
  exact va_alen (D := D) (cl := vwCl) hx hb hK hP q0 t hq hty rfl hd (g D cA p l e s m args below meth c A H locs ws lsA X O L)
/-- the script -/
theorem z_slen (hd : decode M.2.1 pc = .ok (.arraylength, 1)) (hn : pc + 1 = nx) (g : z_J Z M R k n Q nx ls (.int (nI Z.2.1) :: st) h) : z_J Z M R k n Q pc ls (.ref Z.1 :: st) h := by
  intro D cA p l e s m args below meth c A H locs ws lsA X O L
  obtain ⟨hx, hb, hr, hml, hown, hts, hlocks, htab, hnm, htr, hK, hA, hZ⟩ := id X
  subst hn
  exact va_slen hx hb hZ.1 hZ.2.1.1 hZ.2.1.2 O.2.2.2 hd (g D cA p l e s m args below meth c A H locs ws lsA X O L)
theorem z_sld {j : Nat} {i : Int32} (hd : decode M.2.1 pc = .ok (.iaload, 1)) (hn : pc + 1 = nx) (hi : i = nI j) (hj : j < Z.2.1) (hN : Z.2.1 < 2 ^ 31) (g : z_J Z M R k n Q nx ls (.int (Z.2.2.1 j) :: st) h) : z_J Z M R k n Q pc ls (.int i :: .ref Z.1 :: st) h := by
  intro D cA p l e s m args below meth c A H locs ws lsA X O L
  obtain ⟨hx, hb, hr, hml, hown, hts, hlocks, htab, hnm, htr, hK, hA, hZ⟩ := id X
  subst hn
  subst hi
  have hcl : (nI j).toNatClampNeg = j := nI_clamp (by omega)
  refine va_sld hx hb hZ.1 hZ.2.1.1 hZ.2.1.2 O.2.2.2 (vp_in_nI hj hN) hd ?_
  rw [hcl]
  exact (g D cA p l e s m args below meth c A H locs ws lsA X O L)
/-- ArrayList's empty array -/
theorem z_tlen (hd : decode M.2.1 pc = .ok (.arraylength, 1)) (hn : pc + 1 = nx) (g : z_J Z M R k n Q nx ls (.int (nI 0) :: st) h) : z_J Z M R k n Q pc ls (.ref Z.2.2.2 :: st) h := by
  intro D cA p l e s m args below meth c A H locs ws lsA X O L
  obtain ⟨hx, hb, hr, hml, hown, hts, hlocks, htab, hnm, htr, hK, hA, hZ⟩ := id X
  subst hn
  exact va_tlen hx hb hZ.2.2.2.2.2.1 O.2.2.2 rfl hd (g D cA p l e s m args below meth c A H locs ws lsA X O L)
theorem z_gets {idx : Nat} (hd : decode M.2.1 pc = .ok (.getstatic idx, 3)) (hn : pc + 3 = nx) (hl : Cond.fieldLink M.1.cls idx "java/util/ArrayList" "DEFAULTCAPACITY_EMPTY_ELEMENTDATA" z_ALd ∈ z_G) (g : z_J Z M R k n Q nx ls (.ref Z.2.2.2 :: st) h) : z_J Z M R k n Q pc ls st h := by
  intro D cA p l e s m args below meth c A H locs ws lsA X O L
  obtain ⟨hx, hb, hr, hml, hown, hts, hlocks, htab, hnm, htr, hK, hA, hZ⟩ := id X
  subst hn
  exact va_gets hx hb hZ.2.2.2.2.1 O.2.2.2 hown (hts _ hl) (fun _ h9 => h9) hd (g D cA p l e s m args below meth c A H locs ws lsA X O L)
theorem z_idiv {x y : Int32} (hd : decode M.2.1 pc = .ok (.idiv, 1)) (hn : pc + 1 = nx) (hy : ¬ y = 0) (g : z_J Z M R k n Q nx ls (.int (x / y) :: st) h) : z_J Z M R k n Q pc ls (.int y :: .int x :: st) h := by
  intro D cA p l e s m args below meth c A H locs ws lsA X O L
  obtain ⟨hx, hb, -⟩ := id X
  subst hn
  exact lv_idiv hx hb hd hy (g D cA p l e s m args below meth c A H locs ws lsA X O L)
theorem z_cast {a r idx ci : Nat} {q : vw_C} {fs : List Value} (hd : decode M.2.1 pc = .ok (.checkcast idx, 3)) (hn : pc + 3 = nx) (hh : h r = some (a, .inr (ci, fs))) (hc : vwCl[ci]? = some q) (hl : Cond.classLink M.1.cls idx q.1 ∈ z_G) (g : z_J Z M R k n Q nx ls (.ref a :: st) h) : z_J Z M R k n Q pc ls (.ref a :: st) h := by
  intro D cA p l e s m args below meth c A H locs ws lsA X O L
  obtain ⟨hx, hb, hr, hml, hown, hts, hlocks, htab, hnm, htr, hK, hA, hZ⟩ := id X
  obtain ⟨hC, hP, hD, hS⟩ := id O
  obtain ⟨q0, hq⟩ := List.getElem?_of_mem (hC.1 r a _ hh)
  subst hn
  exact va_castS hx hb hown (hts _ hl) (hK.1 ci _ hc).2 (va_recv hK hP hc hq) hd (g D cA p l e s m args below meth c A H locs ws lsA X O L)
/-- new -/
theorem z_new (r : Nat) {idx ci N : Nat} {C : String} {T : u_T} {ty : Nat → FieldType} {fs : List Value} (hd : decode M.2.1 pc = .ok (.new idx, 3)) (hn : pc + 3 = nx) (hc : vwCl[ci]? = some (C, T, N)) (hin : ∀ w ∈ u_ws C T N, w ∈ z_G) (hty : ∀ k, k < N → parseFieldDescriptor (T k).2.2.1 = some (ty k)) (hcl : Cond.classLink M.1.cls idx C ∈ z_G) (hinst : Cond.instantiable C N ∈ z_G) (hini : Cond.initialized C ∈ z_G) (hfs : ∀ j, j < N → defaultValue (ty j) = vp_V fs j)
    (hR : k + 1 ≤ R.cells ∧ n + N ≤ R.slots) (g : ∀ q, z_J Z M R (k + 1) (n + N) Q nx ls (.ref q :: st) (z_u h r (q, .inr (ci, fs)))) : z_J Z M R k n Q pc ls st h := by
  intro D cA p l e s m args below meth c A H locs ws lsA X O L
  obtain ⟨hx, hb, hr, hml, hown, hts, hlocks, htab, hnm, htr, hK, hA, hZ⟩ := id X
  obtain ⟨hC, hP, hD, hS⟩ := id O
  subst hn
  exact va_new (D := D) (cl := vwCl) hx hb hts hin ty hty hown (hts _ hcl) (hts _ hinst) (hts _ hini) hK hP hD hS hA hc hfs hR.1 hR.2 hd (fun q H1 hP1 hD1 hS1 => g q D cA p l e s m args below meth c A H1 locs _ lsA X ⟨z_C_push (.inr (ci, fs)) hC hD1, hP1, hD1, hS1⟩ L)
/-- newarray of ints, booleans, longs -/
theorem z_newa (r : Nat) {N t : Nat} {i : Int32} {at_ : ClassFile.ArrayType} {ty : FieldType} {a0 : vp_A} (hd : decode M.2.1 pc = .ok (.newarray at_, 2)) (hn : pc + 2 = nx) (hty : newarray.typeOf at_ = ty) (ht : ∀ cA : Nat → ClassId, (z_tys cA)[t]? = some (cA t, ty)) (hno : ∀ C, ty ≠ .object C) (hw : Cond.arrayClass ty ∈ z_G) (ha : ∀ cA : ClassId, vp_cell cA a0 = arrV cA N (fun _ => defaultValue ty)) (hi : i = nI N) (hN : N < 1000) (hR : k + 1 ≤ R.cells ∧ n + N ≤ R.slots) (hby : N * componentBytes ty ≤ 536870912)
    (g : ∀ q, z_J Z M R (k + 1) (n + N) Q nx ls (.ref q :: st) (z_u h r (q, .inl (t, a0)))) : z_J Z M R k n Q pc ls (.int i :: st) h := by
  intro D cA p l e s m args below meth c A H locs ws lsA X O L
  obtain ⟨hx, hb, hr, hml, hown, hts, hlocks, htab, hnm, htr, hK, hA, hZ⟩ := id X
  obtain ⟨hC, hP, hD, hS⟩ := id O
  subst hn
  subst hi
  have hcl : (nI N).toNatClampNeg = N := nI_clamp (by omega)
  refine va_newa (D := D) (cl := vwCl) (atype := at_) hx hb (by rw [hty]; exact hts _ hw) hty hK hP hD hS hA ha (nI_pos (by omega)) hcl hby hR.1 hR.2 hd (fun q c9 H1 hK1 hP1 hD1 hS1 => ?_)
  have e1 := (hK1.2 6 (c9, ty) rfl).2
  have e2 := (hK.2 t _ (ht cA)).2
  have e3 : c9 = cA t := by
    cases ty <;> first | exact absurd rfl (hno _) | exact Option.some.inj (e1.symm.trans e2)
  subst e3
  exact g q D cA p l e s m args below meth c A H1 locs _ lsA X ⟨z_C_push (.inl (t, a0)) hC hD1, hP1, hD1, hS1⟩ L
theorem z_newq (r : Nat) {N t idx : Nat} {i : Int32} {E : String} (hd : decode M.2.1 pc = .ok (.anewarray idx, 3)) (hn : pc + 3 = nx) (ht : ∀ cA : Nat → ClassId, (z_tys cA)[t]? = some (cA t, .object E)) (hE : E = "java/lang/Object" ∨ E = "RightsCounter$History") (hcl : Cond.classLink M.1.cls idx E ∈ z_G) (hi : i = nI N) (hN : N < 1000) (hR : k + 1 ≤ R.cells ∧ n + N ≤ R.slots)
    (g : ∀ q, z_J Z M R (k + 1) (n + N) Q nx ls (.ref q :: st) (z_u h r (q, .inl (t, N, .inr (.inr (.inr (.inr (fun _ => none)))))))) : z_J Z M R k n Q pc ls (.int i :: st) h := by
  intro D cA p l e s m args below meth c A H locs ws lsA X O L
  obtain ⟨hx, hb, hr, hml, hown, hts, hlocks, htab, hnm, htr, hK, hA, hZ⟩ := id X
  obtain ⟨hC, hP, hD, hS⟩ := id O
  subst hn
  subst hi
  have hc9 : (nI N).toNatClampNeg = N := nI_clamp (by omega)
  have hover : va_AO E s := by rcases hE with rfl | rfl; exact hZ.2.2.2.2.2.2.2.2.2.2.1; exact hZ.2.2.2.2.2.2.2.2.2.2.2.1
  refine va_newq (D := D) (cl := vwCl) hx hb hown (hts _ hcl) hover hK hP hD hS hA (nI_pos (by omega)) hc9 (by omega) hR.1 hR.2 hd (fun q c9 H1 hK1 hP1 hD1 hS1 => ?_)
  obtain ⟨-, -, -, -, -, e1⟩ := (hK1.2 6 (c9, .object E) rfl).2
  obtain ⟨-, -, -, -, -, e2⟩ := (hK.2 t _ (ht cA)).2
  have e3 : c9 = cA t := Option.some.inj (e1.symm.trans e2)
  subst e3
  exact g q D cA p l e s m args below meth c A H1 locs _ lsA X ⟨z_C_push (.inl (t, N, .inr (.inr (.inr (.inr (fun _ => none)))))) hC hD1, hP1, hD1, hS1⟩ L
theorem z_objI {a idx : Nat} (hd : decode M.2.1 pc = .ok (.invokespecial idx, 3)) (hn : pc + 3 = nx) (h1 : Cond.methodLink M.1.cls idx Lib.objectInit ∈ z_G) (h2 : Cond.instanceMethod Lib.objectInit ∈ z_G) (h3 : Cond.code Lib.objectInit ⟨#[0xb1]⟩ 1 none ∈ z_G) (hst : (st.map fun v => v.category).sum + 12 ≤ R.locals) (hf : 1 ≤ R.frames) (g : z_J Z M R k n Q nx ls st h) : z_J Z M R k n Q pc ls (.ref a :: st) h := by
  intro D cA p l e s m args below meth c A H locs ws lsA X O L
  obtain ⟨hx, hb, hr, hml, hown, hts, hlocks, htab, hnm, htr, hK, hA, hZ⟩ := id X
  subst hn
  exact W.objInit hx hb hown (hts _ h1) (hts _ h2) (hts _ h3) rfl (by rw [hml]; exact L.1.1) rfl hd hf (by show 2 * 0 + _ + 12 ≤ _; omega) (g D cA p l e s m args below meth c A H locs ws lsA X O L)
theorem z_mmax {x y : Int32} {idx : Nat} (hd : decode M.2.1 pc = .ok (.invokestatic idx, 3)) (hn : pc + 3 = nx) (h1 : Cond.methodLink M.1.cls idx Lib.Math.max.name ∈ z_G) (h2 : Cond.static Lib.Math.max.name ∈ z_G) (h3 : Cond.initialized "java/lang/Math" ∈ z_G) (h4 : Cond.code Lib.Math.max.name Lib.Math.max.code 2 (some .int) ∈ z_G) (hc : z_mchk R st k n = true) (g : z_J Z M R k n Q nx ls (.int (if x < y then y else x) :: st) h) : z_J Z M R k n Q pc ls (.int y :: .int x :: st) h := by
  intro D cA p l e s m args below meth c A H locs ws lsA X O L
  obtain ⟨hx, hb, hr, hml, hown, hts, hlocks, htab, hnm, htr, hK, hA, hZ⟩ := id X
  subst hn
  simp only [z_mchk, Bool.and_eq_true, Nat.ble_eq] at hc
  exact va_mmax hx hb (hml.trans L.1.1.symm) hown (hts _ h1) (hts _ h2) (hts _ h3) (hts _ h4) hc.1.1.1 hc.1.1.2 hc.1.2 hc.2 hd (g D cA p l e s m args below meth c A H locs ws lsA X O L)
theorem z_mmin {x y : Int32} {idx : Nat} (hd : decode M.2.1 pc = .ok (.invokestatic idx, 3)) (hn : pc + 3 = nx) (h1 : Cond.methodLink M.1.cls idx Lib.Math.min.name ∈ z_G) (h2 : Cond.static Lib.Math.min.name ∈ z_G) (h3 : Cond.initialized "java/lang/Math" ∈ z_G) (h4 : Cond.code Lib.Math.min.name Lib.Math.min.code 2 (some .int) ∈ z_G) (hc : z_mchk R st k n = true) (g : z_J Z M R k n Q nx ls (.int (if y < x then y else x) :: st) h) : z_J Z M R k n Q pc ls (.int y :: .int x :: st) h := by
  intro D cA p l e s m args below meth c A H locs ws lsA X O L
  obtain ⟨hx, hb, hr, hml, hown, hts, hlocks, htab, hnm, htr, hK, hA, hZ⟩ := id X
  subst hn
  simp only [z_mchk, Bool.and_eq_true, Nat.ble_eq] at hc
  exact va_mmin hx hb (hml.trans L.1.1.symm) hown (hts _ h1) (hts _ h2) (hts _ h3) (hts _ h4) hc.1.1.1 hc.1.1.2 hc.1.2 hc.2 hd (g D cA p l e s m args below meth c A H locs ws lsA X O L)
end ZH
end
section
/-! ===== contracts, calls, returns, throws ===== -/
def z_Pc (Z : zZ) (D : va_G) (cA : Nat → ClassId) (h : zH) (ws : va_W) (A : Nat → Prop) (As : List Value) : Array Value → State → Prop := fun v U =>
  v = As.toArray ∧ z_C cA h ws ∧ va_P D vwCl ws U.heap ∧ va_D A ws ∧ va_K D vwCl (z_tys cA) U ∧ (∀ q, U.heap.size ≤ q → A q) ∧ z_S Z A U U.heap
def z_cw (M : zM) : Cond := match M.2.2.2.2 with
  | [] => .code M.1 M.2.1 M.2.2.1 M.2.2.2.1
  | hh => .codeWith M.1 M.2.1 M.2.2.1 M.2.2.2.1 hh
theorem z_blind {Z : zZ} {D : va_G} {cA : Nat → ClassId} {h : zH} {ws : va_W} {A : Nat → Prop} {As : List Value} : FrameBlind (z_Pc Z D cA h ws A As) := by
  intro a U g mk q
  obtain ⟨q0, q1, q2, q3, q4, q5, q6⟩ := q
  exact ⟨q0, q1, q2, q3, va_K.moved (u := U) (U := U.calling g mk a) (Vm.Alike.refl U.vm) q4, q5, z_S.to (s := U) (U := U.calling g mk a) q6 (State.WarmedH.refl U) va_S.rf (fun _ z => z)⟩
theorem z_met {Z : zZ} {M : zM} {R : Room} {Q : zO → zH → Prop} {As : List Value} {h : zH} {l : Launch} (hl : l.stackTraces = false) (D : va_G) (cA : Nat → ClassId) (ws : va_W) (A : Nat → Prop) (hy : plainName M.1.cls = true) (hcat : ∀ v ∈ As, v.category = 1) (hn : (lg_sl As).length ≤ M.2.2.1)
    (g : z_J Z M R 0 0 Q 0 As [] h) : vx_Met l M.1 (z_cw M :: z_G) R (z_Pc Z D cA h ws A As) (z_Qc D cA Q A) (z_XC D cA Q A) R.cells R.slots A := by
  have body : ∀ (p : Program) (e : Env) (s : State) (m : MethodId) (args : Array Value) (below : List Frame) (meth : Method) (c : Code) (s₁ : State), BodyLoose p l M.1 (headSpec (z_cw M :: z_G) R) M.2.1 M.2.2.1 M.2.2.2.1 e s m args below meth c s₁ → c.maxLocals = M.2.2.1 → c.exceptionTable.toList = tableOf M.2.2.2.2 → z_Pc Z D cA h ws A As args s →
      W p l e R s m args below meth c s.heap [] 0 0 (vx_MQ below (z_Qc D cA Q A) (z_XC D cA Q A) args s R.cells R.slots A) (entryFrame m args M.2.2.1) := by
    intro p e s m args below meth c s₁ B hml htab hv
    obtain ⟨rfl, hC, hP, hD, hK, hA, hZ⟩ := hv
    have hts0 := atoms_spec (ws := z_cw M :: z_G) B.pre
    rw [lg_entry_eq]
    exact g D cA p l e s m As.toArray below meth c A s.heap [] ws _ ⟨B.exec, B.bytes, B.returns, hml, findClass_of_methodNamed B.named, fun w hw => hts0 w (List.mem_cons_of_mem _ hw), B.notSynchronized, htab, (name_of_methodNamed B.named B.method).1, hl, hK, hA, hZ⟩ ⟨hC, hP, hD, va_S.rf⟩ (z_entry As hcat hn)
  obtain ⟨y, bytes, maxL, ret, hh⟩ := M
  cases hh with
  | nil =>
    refine vx_ofW (cc := bytes) (maxL := maxL) (ret := ret) hy rfl ?_
    intro p e s m args below meth c s₁ B hml ht hv
    refine body p e s m args below meth c s₁ B hml ?_ hv
    show c.exceptionTable.toList = []
    cases hx : c.exceptionTable.toList with
    | nil => rfl
    | cons x r => exact (ht x (by rw [hx]; exact List.mem_cons_self)).elim
  | cons x r =>
    refine vx_ofWH (cc := bytes) (maxL := maxL) (ret := ret) (hh := x :: r) hy rfl ?_
    intro p e s m args below meth c s₁ B hml hv
    refine body p e s m args below meth c s₁ B hml ?_ hv
    exact vx_table (x := y) B (atoms_spec (ws := _) B.pre _ List.mem_cons_self)
theorem z_good {s : State} {args : Array Value} {cw : Cond} (h : ∀ w ∈ z_G, w.before args s = true) (hcw : cw ∈ z_G) : ∀ w ∈ cw :: z_G, ∀ (a' : Array Value) (U : State), s.WarmedH U.vm → w.before a' U = true := by
  intro w hw a' U hW
  have hm : w ∈ z_G := by
    rcases List.mem_cons.mp hw with rfl | hw
    · exact hcw
    · exact hw
  exact word_at hW (good_of_word (List.mem_filter.mp hm).2) (h w hm)
/-- what a call asks of the tables -/
def z_cs (own : String) (idx : Nat) (M : zM) (na : Nat) : Prop :=
  Cond.methodLink own idx M.1 ∈ z_G ∧ Cond.initialized M.1.cls ∈ z_G ∧ z_cw M ∈ z_G ∧ (M.1.cls ≠ "java/lang/invoke/MethodHandle" ∧ M.1.cls ≠ "java/lang/invoke/VarHandle" ∧ (parseMethodDescriptor M.1.desc).map (fun d => d.parameters.length) = some na) ∧ plainName M.1.cls = true
def z_rm (R R' : Room) (maxL k n : Nat) : Prop := R'.frames + 1 ≤ R.frames ∧ 8 + (maxL + 11) + R'.locals ≤ R.locals ∧ k + R'.cells ≤ R.cells ∧ n + R'.slots ≤ R.slots
theorem z_len {d : String} {na : Nat} (h : (parseMethodDescriptor d).map (fun d => d.parameters.length) = some na) : ∀ sig, parseMethodDescriptor d = some sig → na = sig.parameters.length := by
  intro sig hs
  rw [hs] at h
  exact (Option.some.inj h).symm
section ZC
variable {Z : zZ} {M M' : zM} {R R' : Room} {k n : Nat} {Q Q' : zO → zH → Prop} {pc nx : Nat} {ls st : List Value} {h : zH}
theorem z_go {D : va_G} {cA : Nat → ClassId} {p : Program} {l : Launch} {e : Env} {s : State} {m : MethodId} {args : Array Value} {below : List Frame} {meth : Method} {c : Code} {A A' : Nat → Prop} {H : Heap} {locs : List Loc} {lsA : Array Slot} {rest : List Value} {a : Array Value} {st0 : List Value}
    (hr : vx_Run p l e R s m args below meth c H locs k n R'.cells R'.slots (F0 m pc lsA st0) rest (z_Qc D cA Q' A' a) (z_XC D cA Q' A') A')
    (X : z_X Z D cA M p l s m args meth c A) (hS : va_S A s.heap H locs) (hA' : ∀ q, A' q → A q) (L : z_L lsA M.2.2.1 ls)
    (kr : ∀ (v : Option Value) (h' : zH), Q' (.inl v) h' → z_J Z M R (k + R'.cells) (n + R'.slots) Q (pc + 3) ls (v.toList ++ rest) h')
    (kx : ∀ (E : String) (h' : zH), Q' (.inr E) h' → z_JX Z M R (k + R'.cells) (n + R'.slots) Q pc ls E h') :
    W p l e R s m args below meth c H locs k n (z_F D cA Q A below args s R) (F0 m pc lsA st0) := by
  intro T hT X9
  rcases hr T hT X9 with ⟨v, st₀, t, T', L9, h0, X', hL, e1, e2, ⟨⟨v', h', ws', hv, hq, hC', hP', hD'⟩, hF⟩, st⟩ | ⟨q, st₀, t, T', L9, E, ce, h0, X', hL, e1, e2, ⟨⟨h', ws', hq, hC', hP', hD'⟩, hF⟩, hce, hcv, hcl, st⟩
  · cases hv
    obtain ⟨k1, k2, k3⟩ := vx_keep h0 e1 hS (fun q _ z => hA' q z) hA' hL hF
    obtain ⟨t2, a1, b1⟩ := kr v h' hq D cA p l e s m args below meth c A T'.heap (locs ++ L9) ws' lsA X ⟨hC', by rw [e1]; exact hP', hD'.weaken (fun _ _ _ z => hA' _ z), k3⟩ L T' rfl X'
    exact ⟨t2, st t2 a1, b1⟩
  · obtain ⟨k1, k2, k3⟩ := vx_keep h0 e1 hS (fun q _ z => hA' q z) hA' hL hF
    obtain ⟨t2, a1, b1⟩ := kx E h' hq D cA p l e s m args below meth c A T'.heap (locs ++ L9) ws' lsA rest q ce X ⟨hC', by rw [e1]; exact hP', hD'.weaken (fun _ _ _ z => hA' _ z), k3⟩ L (by rw [e1]; exact hce) hcv hcl T' rfl X'
    exact ⟨t2, st.trans a1, b1⟩
theorem z_pre {D : va_G} {cA : Nat → ClassId} {p : Program} {l : Launch} {s : State} {m : MethodId} {args : Array Value} {meth : Method} {c : Code} {A : Nat → Prop} {H : Heap} {locs : List Loc} {ws : va_W} (As : List Value)
    (X : z_X Z D cA M p l s m args meth c A) (O : z_O D cA h A ws s.heap H locs) : (∀ q, va_A ws H.size q → A q) ∧ ∀ U : State, U.heap = H → s.WarmedH U.vm → z_Pc Z D cA h ws (va_A ws H.size) As As.toArray U := by
  obtain ⟨hx, hb, hr, hml, hown, hts, hlocks, htab, hnm, htr, hK, hA, hZ⟩ := X
  obtain ⟨hC, hP, hD, hS⟩ := O
  have hAA : ∀ q, va_A ws H.size q → A q := by
    intro q hq
    rcases hq with ⟨i, e, hi⟩ | hq
    · exact hD.2 i _ hi
    · exact hA q (Nat.le_trans hS.1 hq)
  refine ⟨hAA, fun U hU hW => ⟨rfl, hC, by rw [hU]; exact hP, hD.self, va_K.moved hW.alike hK, fun q hq => Or.inr (by rw [← hU]; exact hq), ?_⟩⟩
  rw [hU]
  exact hZ.to hW hS hAA
def z_args : Nat → List Value → List Value → Option (List Value × List Value)
  | 0, st, acc => some (acc, st)
  | na + 1, v :: r, acc => z_args na r (v :: acc)
  | _ + 1, [], _ => none
theorem z_args_ok : ∀ (na : Nat) (st acc As rest : List Value), z_args na st acc = some (As, rest) → ∃ P : List Value, As = P ++ acc ∧ st = P.reverse ++ rest ∧ P.length = na
  | 0, st, acc, As, rest, h => by
    simp only [z_args, Option.some.injEq, Prod.mk.injEq] at h
    obtain ⟨rfl, rfl⟩ := h
    exact ⟨[], rfl, rfl, rfl⟩
  | na + 1, v :: r, acc, As, rest, h => by
    simp only [z_args] at h
    obtain ⟨P, h1, h2, h3⟩ := z_args_ok na r (v :: acc) As rest h
    exact ⟨P ++ [v], by rw [h1]; simp, by rw [h2]; simp, by simp [h3]⟩
  | na + 1, [], acc, As, rest, h => by cases h
theorem z_args0 {na : Nat} {As rest : List Value} (h : z_args na st [] = some (As, rest)) : st = As.reverse ++ rest ∧ As.length = na := by
  obtain ⟨P, h1, h2, h3⟩ := z_args_ok na st [] As rest h
  rw [List.append_nil] at h1
  subst h1
  exact ⟨h2, h3⟩
theorem z_callV {na idx r b ci : Nat} {As rest fs : List Value} {q : vw_C} (hd : decode M.2.1 pc = .ok (.invokevirtual idx, 3)) (hn : pc + 3 = nx) (hs : z_cs M.1.cls idx M' na) (hh' : M'.2.2.2.2 = []) (hi : Cond.instanceMethod M'.1 ∈ z_G) (hsel : Cond.selects q.1 M'.1 M'.1 ∈ z_G)
    (ha : z_args na st [] = some (As, .ref b :: rest)) (hh : h r = some (b, .inr (ci, fs))) (hc : vwCl[ci]? = some q) (hR : z_rm R R' M'.2.2.1 k n) (hst : (rest.map fun v => v.category).sum ≤ 8) (hcat : ∀ v ∈ Value.ref b :: As, v.category = 1) (hl : (lg_sl (Value.ref b :: As)).length ≤ M'.2.2.1)
    (gc : z_J Z M' R' 0 0 Q' 0 (.ref b :: As) [] h)
    (kr : ∀ (v : Option Value) (h' : zH), Q' (.inl v) h' → z_J Z M R (k + R'.cells) (n + R'.slots) Q nx ls (v.toList ++ rest) h')
    (kx : ∀ (E : String) (h' : zH), Q' (.inr E) h' → z_JX Z M R (k + R'.cells) (n + R'.slots) Q pc ls E h') : z_J Z M R k n Q pc ls st h := by
  intro D cA p l e s m args below meth c A H locs ws lsA X O L
  obtain ⟨hx, hb, hr, hml, hown, hts, hlocks, htab, hnm, htr, hK, hA, hZ⟩ := id X
  obtain ⟨hC, hP, hD, hS⟩ := id O
  obtain ⟨q0, hq⟩ := List.getElem?_of_mem (hC.1 r b _ hh)
  obtain ⟨hAA, hPc⟩ := z_pre (.ref b :: As) X O
  obtain ⟨h1, h2, h3, h4, h5⟩ := hs
  obtain ⟨e1, e2⟩ := z_args0 ha
  subst hn
  subst e1
  have hcw : z_cw M' = .code M'.1 M'.2.1 M'.2.2.1 M'.2.2.2.1 := by unfold z_cw; rw [hh']
  have hM := z_met htr D cA ws (va_A ws H.size) h5 hcat hl gc
  rw [hcw] at hM h3
  have hrun := vx_runV (cells := k) (slots := n) (n := na) (R := R) (index := idx) (locs := locs) (H := H) (e := e) (below := below) (meth := meth) (g := F0 m pc lsA (As.reverse ++ .ref b :: rest)) (C := q.1) ⟨hx, hb, hml, hown, hts⟩ hM
    ⟨⟨rfl, rfl, hR.1, hR.2.1, z_good hts h3, List.mem_cons_self, hts _ h3, hts _ h2, ⟨h4.1, h4.2.1⟩, z_len h4.2.2, hts _ h1⟩, hts _ hi, hts _ hsel⟩
    ⟨z_blind, va_recv hK hP hc hq, hPc⟩ rfl e2 L.1.1 rfl (by show 2 * 0 + _ ≤ 8; omega) hd ⟨hR.2.2.1, hR.2.2.2⟩
  exact z_go hrun X hS hAA L kr kx
theorem z_callS {na idx : Nat} {As rest : List Value} (hd : decode M.2.1 pc = .ok (.invokestatic idx, 3)) (hn : pc + 3 = nx) (hs : z_cs M.1.cls idx M' na) (hi : Cond.static M'.1 ∈ z_G)
    (ha : z_args na st [] = some (As, rest)) (hR : z_rm R R' M'.2.2.1 k n) (hst : (rest.map fun v => v.category).sum ≤ 8) (hcat : ∀ v ∈ As, v.category = 1) (hl : (lg_sl As).length ≤ M'.2.2.1)
    (gc : z_J Z M' R' 0 0 Q' 0 As [] h)
    (kr : ∀ (v : Option Value) (h' : zH), Q' (.inl v) h' → z_J Z M R (k + R'.cells) (n + R'.slots) Q nx ls (v.toList ++ rest) h')
    (kx : ∀ (E : String) (h' : zH), Q' (.inr E) h' → z_JX Z M R (k + R'.cells) (n + R'.slots) Q pc ls E h') : z_J Z M R k n Q pc ls st h := by
  intro D cA p l e s m args below meth c A H locs ws lsA X O L
  obtain ⟨hx, hb, hr, hml, hown, hts, hlocks, htab, hnm, htr, hK, hA, hZ⟩ := id X
  obtain ⟨hC, hP, hD, hS⟩ := id O
  obtain ⟨hAA, hPc⟩ := z_pre As X O
  obtain ⟨h1, h2, h3, h4, h5⟩ := hs
  obtain ⟨e1, e2⟩ := z_args0 ha
  subst hn
  subst e1
  have hM := z_met htr D cA ws (va_A ws H.size) h5 hcat hl gc
  obtain ⟨y, bytes, maxL, ret, hh⟩ := M'
  cases hh with
  | nil =>
    have hrun := vx_runS (cells := k) (slots := n) (n := na) (R := R) (index := idx) (locs := locs) (H := H) (e := e) (below := below) (meth := meth) (g := F0 m pc lsA (As.reverse ++ rest)) ⟨hx, hb, hml, hown, hts⟩ hM
      ⟨⟨rfl, rfl, hR.1, hR.2.1, z_good hts h3, List.mem_cons_self, hts _ h3, hts _ h2, ⟨h4.1, h4.2.1⟩, z_len h4.2.2, hts _ h1⟩, hts _ hi⟩
      ⟨z_blind, hPc⟩ rfl e2 L.1.1 rfl (by show 2 * 0 + _ ≤ 8; omega) hd ⟨hR.2.2.1, hR.2.2.2⟩
    exact z_go hrun X hS hAA L kr kx
  | cons x r =>
    have hrun := vx_runSX (hh := x :: r) (cells := k) (slots := n) (n := na) (R := R) (index := idx) (locs := locs) (H := H) (e := e) (below := below) (meth := meth) (g := F0 m pc lsA (As.reverse ++ rest)) ⟨hx, hb, hml, hown, hts⟩ hM
      ⟨⟨rfl, rfl, hR.1, hR.2.1, z_good hts h3, List.mem_cons_self⟩, hts _ h3, hts _ h2, ⟨h4.1, h4.2.1⟩, z_len h4.2.2, hts _ h1, hts _ hi⟩
      ⟨z_blind, hPc⟩ rfl e2 L.1.1 rfl (by show 2 * 0 + _ ≤ 8; omega) hd ⟨hR.2.2.1, hR.2.2.2⟩
    exact z_go hrun X hS hAA L kr kx
/-- a constructor's call; it throws nothing -/
theorem z_goI {D : va_G} {cA : Nat → ClassId} {p : Program} {l : Launch} {e : Env} {s : State} {m : MethodId} {args : Array Value} {below : List Frame} {meth : Method} {c : Code} {A A' : Nat → Prop} {H : Heap} {locs : List Loc} {lsA : Array Slot} {rest : List Value} {a : Array Value} {st0 : List Value}
    (hr : va_Run p l e R s m args below meth c H locs k n R'.cells R'.slots (F0 m pc lsA st0) rest (z_Qc D cA Q' A' a) A')
    (X : z_X Z D cA M p l s m args meth c A) (hS : va_S A s.heap H locs) (hA' : ∀ q, A' q → A q) (L : z_L lsA M.2.2.1 ls)
    (kr : ∀ (v : Option Value) (h' : zH), Q' (.inl v) h' → z_J Z M R (k + R'.cells) (n + R'.slots) Q (pc + 3) ls (v.toList ++ rest) h') :
    W p l e R s m args below meth c H locs k n (z_F D cA Q A below args s R) (F0 m pc lsA st0) := by
  intro T hT X9
  obtain ⟨v, st₀, t, T', L9, h0, X', hL, e1, e2, ⟨⟨v', h', ws', hv, hq, hC', hP', hD'⟩, hF⟩, st⟩ := hr T hT X9
  cases hv
  obtain ⟨k1, k2, k3⟩ := vx_keep h0 e1 hS (fun q _ z => hA' q z) hA' hL hF
  obtain ⟨t2, a1, b1⟩ := kr v h' hq D cA p l e s m args below meth c A T'.heap (locs ++ L9) ws' lsA X ⟨hC', by rw [e1]; exact hP', hD'.weaken (fun _ _ _ z => hA' _ z), k3⟩ L T' rfl X'
  exact ⟨t2, st t2 a1, b1⟩
theorem z_metI {As : List Value} {l : Launch} (hl : l.stackTraces = false) (D : va_G) (cA : Nat → ClassId) (ws : va_W) (A : Nat → Prop) (hy : plainName M.1.cls = true) (hcat : ∀ v ∈ As, v.category = 1) (hn : (lg_sl As).length ≤ M.2.2.1) (hq : ∀ E h', ¬ Q (.inr E) h')
    (g : z_J Z M R 0 0 Q 0 As [] h) : Met l M.1 (z_cw M :: z_G) R (z_Pc Z D cA h ws A As) (z_Qc D cA Q A) R.cells R.slots A := by
  refine MetFree.mono (z_met hl D cA ws A hy hcat hn g) (fun _ _ q => q) (fun _ _ _ _ _ q => q) ?_
  intro a s o t _ hq9
  rcases hq9 with ⟨h1, h2⟩ | ⟨q, h1, E, ce, L, ⟨⟨h', ws', hx, -⟩, -⟩, -⟩
  · exact ⟨h1, h2⟩
  · exact absurd hx (hq E h')
theorem z_callI {na idx b : Nat} {As rest : List Value} (hd : decode M.2.1 pc = .ok (.invokespecial idx, 3)) (hn : pc + 3 = nx) (hs : z_cs M.1.cls idx M' na) (hret : M'.2.2.2.1 = none) (hh' : M'.2.2.2.2 = []) (hi : Cond.instanceMethod M'.1 ∈ z_G) (hini : M'.1.name = "<init>")
    (ha : z_args na st [] = some (As, .ref b :: rest)) (hR : z_rm R R' M'.2.2.1 k n) (hst : (rest.map fun v => v.category).sum ≤ 8) (hcat : ∀ v ∈ Value.ref b :: As, v.category = 1) (hl : (lg_sl (Value.ref b :: As)).length ≤ M'.2.2.1) (hq : ∀ E h', ¬ Q' (.inr E) h')
    (gc : z_J Z M' R' 0 0 Q' 0 (.ref b :: As) [] h)
    (kr : ∀ (v : Option Value) (h' : zH), Q' (.inl v) h' → z_J Z M R (k + R'.cells) (n + R'.slots) Q nx ls (v.toList ++ rest) h') : z_J Z M R k n Q pc ls st h := by
  intro D cA p l e s m args below meth c A H locs ws lsA X O L
  obtain ⟨hx, hb, hr, hml, hown, hts, hlocks, htab, hnm, htr, hK, hA, hZ⟩ := id X
  obtain ⟨hC, hP, hD, hS⟩ := id O
  obtain ⟨hAA, hPc⟩ := z_pre (.ref b :: As) X O
  obtain ⟨h1, h2, h3, h4, h5⟩ := hs
  obtain ⟨e1, e2⟩ := z_args0 ha
  subst hn
  subst e1
  have hcw : z_cw M' = .code M'.1 M'.2.1 M'.2.2.1 none := by unfold z_cw; rw [hh', hret]
  have hM := z_metI htr D cA ws (va_A ws H.size) h5 hcat hl hq gc
  rw [hcw] at hM h3
  have hrun := va_runI (cells := k) (slots := n) (n := na) (R := R) (index := idx) (locs := locs) (H := H) (e := e) (below := below) (meth := meth) (g := F0 m pc lsA (As.reverse ++ .ref b :: rest)) ⟨hx, hb, hml, hown, hts⟩ hM
    ⟨⟨rfl, rfl, hR.1, hR.2.1, z_good hts h3, List.mem_cons_self, hts _ h3, hts _ h2, ⟨h4.1, h4.2.1⟩, z_len h4.2.2, hts _ h1⟩, hini, hts _ hi⟩
    ⟨z_blind, hPc⟩ rfl e2 L.1.1 rfl (by show 2 * 0 + _ ≤ 8; omega) hd ⟨hR.2.2.1, hR.2.2.2⟩
  exact z_goI hrun X hS hAA L kr
/-- a private constructor of a nest mate -/
theorem z_callIN {na idx b : Nat} {host : String} {As rest : List Value} (hd : decode M.2.1 pc = .ok (.invokespecial idx, 3)) (hn : pc + 3 = nx) (hne : (M.1.cls, idx, M'.1, host) ∈ z_nests) (h2 : Cond.initialized M'.1.cls ∈ z_G) (h3 : z_cw M' ∈ z_G) (h4 : M'.1.cls ≠ "java/lang/invoke/MethodHandle" ∧ M'.1.cls ≠ "java/lang/invoke/VarHandle" ∧ (parseMethodDescriptor M'.1.desc).map (fun d => d.parameters.length) = some na) (h5 : plainName M'.1.cls = true) (hret : M'.2.2.2.1 = none) (hh' : M'.2.2.2.2 = []) (hi : Cond.instanceMethod M'.1 ∈ z_G) (hini : M'.1.name = "<init>")
    (ha : z_args na st [] = some (As, .ref b :: rest)) (hR : z_rm R R' M'.2.2.1 k n) (hst : (rest.map fun v => v.category).sum ≤ 8) (hcat : ∀ v ∈ Value.ref b :: As, v.category = 1) (hl : (lg_sl (Value.ref b :: As)).length ≤ M'.2.2.1) (hq : ∀ E h', ¬ Q' (.inr E) h')
    (gc : z_J Z M' R' 0 0 Q' 0 (.ref b :: As) [] h)
    (kr : ∀ (v : Option Value) (h' : zH), Q' (.inl v) h' → z_J Z M R (k + R'.cells) (n + R'.slots) Q nx ls (v.toList ++ rest) h') : z_J Z M R k n Q pc ls st h := by
  intro D cA p l e s m args below meth c A H locs ws lsA X O L
  obtain ⟨hx, hb, hr, hml, hown, hts, hlocks, htab, hnm, htr, hK, hA, hZ⟩ := id X
  obtain ⟨hC, hP, hD, hS⟩ := id O
  obtain ⟨hAA, hPc⟩ := z_pre (.ref b :: As) X O
  obtain ⟨e1, e2⟩ := z_args0 ha
  subst hn
  subst e1
  have hcw : z_cw M' = .code M'.1 M'.2.1 M'.2.2.1 none := by unfold z_cw; rw [hh', hret]
  have hM := z_metI htr D cA ws (va_A ws H.size) h5 hcat hl hq gc
  rw [hcw] at hM h3
  have hrun := va_runIN (cells := k) (slots := n) (n := na) (R := R) (index := idx) (host := host) (locs := locs) (H := H) (e := e) (below := below) (meth := meth) (g := F0 m pc lsA (As.reverse ++ .ref b :: rest)) ⟨hx, hb, hml, hown, hts⟩ hM
    ⟨⟨⟨rfl, rfl, hR.1, hR.2.1, z_good hts h3, List.mem_cons_self⟩, hts _ h3, hts _ h2, ⟨h4.1, h4.2.1⟩, z_len h4.2.2, va_Nw.use rfl (hZ.2.2.2.2.2.2.2.2.2.1 _ hne)⟩, hini, hts _ hi⟩
    ⟨z_blind, hPc⟩ rfl e2 L.1.1 rfl (by show 2 * 0 + _ ≤ 8; omega) hd ⟨hR.2.2.1, hR.2.2.2⟩
  exact z_goI hrun X hS hAA L kr
/-! returns -/
theorem z_iret {v : Int32} {ty : FieldType} (hd : decode M.2.1 pc = .ok (.ireturn, 1)) (hr0 : M.2.2.2.1 = some ty) (hnar : narrow ty (.int v) = .int v) (hk : k ≤ R.cells) (hsl : n ≤ R.slots) (hq : Q (.inl (some (.int v))) h) : z_J Z M R k n Q pc ls [.int v] h := by
  intro D cA p l e s m args below meth c A H locs ws lsA X O L
  obtain ⟨hx, hb, hr, hml, hown, hts, hlocks, htab, hnm, htr, hK, hA, hZ⟩ := id X
  obtain ⟨hC, hP, hD, hS⟩ := id O
  refine W.widen hk hsl (vx_ret ?_)
  exact W.zret (ty := ty) hx hb (hr.trans hr0) hnar (fun t ht hW => ⟨⟨_, h, ws, rfl, hq, hC, by rw [ht]; exact hP, hD⟩, hS.F ht⟩) hS.2.2 hd
theorem z_aret {a : Nat} {nm : String} (hd : decode M.2.1 pc = .ok (.areturn, 1)) (hr0 : M.2.2.2.1 = some (.object nm) ∨ ∃ t, M.2.2.2.1 = some (.array t)) (hk : k ≤ R.cells) (hsl : n ≤ R.slots) (hq : Q (.inl (some (.ref a))) h) : z_J Z M R k n Q pc ls [.ref a] h := by
  intro D cA p l e s m args below meth c A H locs ws lsA X O L
  obtain ⟨hx, hb, hr, hml, hown, hts, hlocks, htab, hnm, htr, hK, hA, hZ⟩ := id X
  obtain ⟨hC, hP, hD, hS⟩ := id O
  refine W.widen hk hsl (vx_ret ?_)
  rcases hr0 with hr0 | ⟨t, hr0⟩
  · exact W.aret (rt := .object nm) hx hb (hr.trans hr0) (Or.inl ⟨_, rfl⟩) (Or.inr ⟨_, rfl⟩) (fun t ht hW => ⟨⟨_, h, ws, rfl, hq, hC, by rw [ht]; exact hP, hD⟩, hS.F ht⟩) hS.2.2 hd
  · exact W.aret (rt := .array t) hx hb (hr.trans hr0) (Or.inr ⟨_, rfl⟩) (Or.inr ⟨_, rfl⟩) (fun t ht hW => ⟨⟨_, h, ws, rfl, hq, hC, by rw [ht]; exact hP, hD⟩, hS.F ht⟩) hS.2.2 hd
theorem z_vret (hd : decode M.2.1 pc = .ok (.return_, 1)) (hr0 : M.2.2.2.1 = none) (hk : k ≤ R.cells) (hsl : n ≤ R.slots) (hq : Q (.inl none) h) : z_J Z M R k n Q pc ls [] h := by
  intro D cA p l e s m args below meth c A H locs ws lsA X O L
  obtain ⟨hx, hb, hr, hml, hown, hts, hlocks, htab, hnm, htr, hK, hA, hZ⟩ := id X
  obtain ⟨hC, hP, hD, hS⟩ := id O
  refine W.widen hk hsl (vx_ret ?_)
  exact W.vret hx hb (hr.trans hr0) (fun t ht hW => ⟨⟨_, h, ws, rfl, hq, hC, by rw [ht]; exact hP, hD⟩, hS.F ht⟩) hS.2.2 hd
/-! throws -/
theorem z_out {E : String} (hh : M.2.2.2.2 = []) (hk : k ≤ R.cells) (hsl : n ≤ R.slots) (hq : Q (.inr E) h) : z_JX Z M R k n Q pc ls E h := by
  intro D cA p l e s m args below meth c A H locs ws lsA rest q ce X O L hce hcv hcl
  obtain ⟨hx, hb, hr, hml, hown, hts, hlocks, htab, hnm, htr, hK, hA, hZ⟩ := id X
  obtain ⟨hC, hP, hD, hS⟩ := id O
  rw [hh] at htab
  exact vx_out (fun x hx9 => by rw [htab] at hx9; cases hx9) hlocks hce hcv hcl (fun t ht hW => ⟨⟨h, ws, hq, hC, by rw [ht]; exact hP, hD⟩, hS.F ht⟩) hS.2.2 hk hsl
theorem z_catch {E nm : String} {pre suf : List (Nat × Nat × Nat × Nat)} {x : Nat × Nat × Nat × Nat} (hh : M.2.2.2.2 = pre ++ x :: suf)
    (hpre : ∀ z ∈ pre, z.2.2.2 ≠ 0 ∧ ∃ n0 : String, Cond.classLink M.1.cls z.2.2.2 n0 ∈ z_G ∧ (E, n0) ∈ z_ncasts) (hx1 : x.1 ≤ pc ∧ pc < x.2.1) (hx0 : x.2.2.2 ≠ 0) (hl : Cond.classLink M.1.cls x.2.2.2 nm ∈ z_G) (hc : (E, nm) ∈ z_casts)
    (g : ∀ q : Nat, z_J Z M R k n Q x.2.2.1 ls [.ref q] h) : z_JX Z M R k n Q pc ls E h := by
  intro D cA p l e s m args below meth c A H locs ws lsA rest q ce X O L hce hcv hcl
  obtain ⟨hx, hb, hr, hml, hown, hts, hlocks, htab, hnm, htr, hK, hA, hZ⟩ := id X
  rw [hh] at htab
  have hV := hZ.2.2.2.2.2.2
  refine vx_catch hown (tableOf pre) ⟨x.1, x.2.1, x.2.2.1, x.2.2.2⟩ (tableOf suf) (by rw [htab]; simp [tableOf]) ?_ (by simp [covers, hx1.1, hx1.2]) hx0 (hts _ hl) (va_Nw.use rfl (hV.1 _ hc)) hce hcv hcl (g q D cA p l e s m args below meth c A H locs ws lsA X O L)
  intro z hz
  simp only [tableOf, List.mem_map] at hz
  obtain ⟨y, hy, rfl⟩ := hz
  obtain ⟨h1, n0, h2, h3⟩ := hpre y hy
  exact Or.inr ⟨h1, n0, hts _ h2, hV.2.1 _ h3⟩
theorem z_throw {E text : String} {ik is ic : Nat} {names : List String} (hh : M.2.2.2.2 = []) (d0 : decode M.2.1 pc = .ok (.new ik, 3)) (d3 : decode M.2.1 (pc + 3) = .ok (.dup, 1)) (d4 : decode M.2.1 (pc + 4) = .ok (.ldc is, 2)) (d6 : decode M.2.1 (pc + 6) = .ok (.invokespecial ic, 3)) (d9 : decode M.2.1 (pc + 9) = .ok (.athrow, 1))
    (hcls : Bundle.fit E = true) (hnames : ∀ n ∈ names, Bundle.fit n = true) (hk1 : Cond.classLink M.1.cls ik E ∈ z_G) (hini : Cond.initialized E ∈ z_G) (hstr : (M.1.cls, is, text) ∈ z_strs) (hat : ∀ w ∈ vx_atS M.1.cls ic E names, w ∈ z_G ∨ (∃ q ∈ z_casts, w = .castable q.1 q.2) ∨ ∃ q ∈ z_decls, w = .declares q) (hgood : ∀ w ∈ Cond.classLink M.1.cls ik E :: Cond.initialized E :: vx_atS M.1.cls ic E names, vx_ot w = true)
    (hRf : names.length + 3 < R.frames) (hRl : (st.map fun v => v.category).sum + (13 * (names.length + 1) + 43) ≤ R.locals) (hRc : k + 1 ≤ R.cells) (hRs : n + 6 ≤ R.slots) (hq : Q (.inr E) h) : z_J Z M R k n Q pc ls st h := by
  intro D cA p l e s m args below meth c A H locs ws lsA X O L
  obtain ⟨hx, hb, hr, hml, hown, hts, hlocks, htab, hnm, htr, hK, hA, hZ⟩ := id X
  obtain ⟨hC, hP, hD, hS⟩ := id O
  rw [hh] at htab
  have hV := hZ.2.2.2.2.2.2
  obtain ⟨sa, hsa⟩ := hV.2.2.1 _ hstr
  refine vx_throwS (A := A) hx hb htr hown hcls hnames (hts _ hk1) (hts _ hini) hsa (fun w hw => ?_) hgood hZ.2.2.1 hZ.2.2.2.1 hS (by rw [hml]; exact L.1.1) d0 d3 d4 d6 d9 (fun x hx9 => by rw [htab] at hx9; cases hx9) hRf hRl hRc hRs hlocks ?_ hS.2.2 hRc hRs
  · rcases hat w hw with h1 | ⟨q, h1, rfl⟩ | ⟨q, h1, rfl⟩
    · exact hts _ h1
    · exact va_Nw.use rfl (hV.1 _ h1)
    · exact va_Nw.use rfl (hV.2.2.2.2.2.2.2 _ h1)
  · intro t ht1 ht2 ht3
    refine ⟨⟨h, ws, hq, hC, hP.kept (fun i q hi => ht3 q.1 (hP i q hi).lt), hD⟩, Nat.le_trans hS.1 ht2, fun q h1 h2 => ?_⟩
    rw [ht3 q (Nat.lt_of_lt_of_le h1 hS.1)]
    exact hS.2.1 q h1 h2
end ZC
end
section
/-! ===== facts out of the tables, by program ===== -/
theorem z_inG {ws : List Cond} (h : GoodIn lw_tbl ws) : ∀ w ∈ ws, w ∈ z_G := fun w hw => List.mem_filter.mpr ⟨(h w hw).1, by
  rcases (h w hw).2 with q | ⟨ty, rfl⟩
  · cases w <;> first | exact q | rfl
  · rfl⟩
theorem z_atS {L : List Cond} (h : ∀ w ∈ L, w ∈ lw_tbl) (h2 : ∀ w ∈ L, goodWord w = true ∨ (∃ q ∈ z_casts, w = .castable q.1 q.2) ∨ ∃ q ∈ z_decls, w = .declares q) : ∀ w ∈ L, w ∈ z_G ∨ (∃ q ∈ z_casts, w = .castable q.1 q.2) ∨ ∃ q ∈ z_decls, w = .declares q := fun w hw => (h2 w hw).elim (fun g => Or.inl (List.mem_filter.mpr ⟨h w hw, g⟩)) Or.inr
def z_chk (rest As : List Value) (maxL : Nat) : Bool := Nat.ble ((rest.map fun v => v.category).sum) 8 && As.all (fun v => Nat.beq v.category 1) && Nat.ble (lg_sl As).length maxL
theorem z_chk1 {rest As : List Value} {maxL : Nat} (h : z_chk rest As maxL = true) : (rest.map fun v => v.category).sum ≤ 8 := by
  simp only [z_chk, Bool.and_eq_true, Nat.ble_eq] at h
  exact h.1.1
theorem z_chk2 {rest As : List Value} {maxL : Nat} (h : z_chk rest As maxL = true) : ∀ v ∈ As, v.category = 1 := by
  simp only [z_chk, Bool.and_eq_true, List.all_eq_true, Nat.beq_eq] at h
  exact h.1.2
theorem z_chk3 {rest As : List Value} {maxL : Nat} (h : z_chk rest As maxL = true) : (lg_sl As).length ≤ maxL := by
  simp only [z_chk, Bool.and_eq_true, Nat.ble_eq] at h
  exact h.2
abbrev zR (f l c s : Nat) : Room := { frames := f, cells := c, slots := s, locals := l }
def z_rmb (R R' : Room) (maxL k n : Nat) : Bool := Nat.ble (R'.frames + 1) R.frames && Nat.ble (8 + (maxL + 11) + R'.locals) R.locals && Nat.ble (k + R'.cells) R.cells && Nat.ble (n + R'.slots) R.slots
theorem z_rmo {R R' : Room} {maxL k n : Nat} (h : z_rmb R R' maxL k n = true) : z_rm R R' maxL k n := by
  simp only [z_rmb, Bool.and_eq_true, Nat.ble_eq] at h
  exact ⟨h.1.1.1, h.1.1.2, h.1.2, h.2⟩
/-- the answer r, the heap h1 -/
def z_eq (r : zO) (h1 : zH) : zO → zH → Prop := fun o h' => o = r ∧ h' = h1
theorem z_qr {P : Option Value → zH → Prop} {v : Option Value} {h1 : zH} (g : P v h1) : ∀ (v' : Option Value) (h' : zH), z_eq (.inl v) h1 (.inl v') h' → P v' h' := by
  rintro v' h' ⟨e1, rfl⟩
  cases e1
  exact g
theorem z_qx {P : String → zH → Prop} {v : Option Value} {h1 : zH} : ∀ (E : String) (h' : zH), z_eq (.inl v) h1 (.inr E) h' → P E h' := by
  rintro E h' ⟨e1, -⟩
  cases e1
theorem z_qn {v : Option Value} {h1 : zH} : ∀ (E : String) (h' : zH), ¬ z_eq (.inl v) h1 (.inr E) h' := by
  rintro E h' ⟨e1, -⟩
  cases e1
theorem z_er {P : Option Value → zH → Prop} {E : String} {h1 : zH} : ∀ (v' : Option Value) (h' : zH), z_eq (.inr E) h1 (.inl v') h' → P v' h' := by
  rintro v' h' ⟨e1, -⟩
  cases e1
theorem z_ex {P : String → zH → Prop} {E : String} {h1 : zH} (g : P E h1) : ∀ (E' : String) (h' : zH), z_eq (.inr E) h1 (.inr E') h' → P E' h' := by
  rintro E' h' ⟨e1, rfl⟩
  cases e1
  exact g
theorem inG_Jx4a65c : ∀ w ∈ u_ws RJx4a65c TJx4a65c 3, w ∈ z_G := z_inG (goodIn_r (u_ws RJx4a65c TJx4a65c 3) [84, 80, 82] (by decide +kernel) (by decide +kernel))
theorem inG_X0 : ∀ w ∈ u_ws RX0 TX0 9, w ∈ z_G := z_inG (goodIn_r (u_ws RX0 TX0 9) [139, 141, 143, 145, 147, 149, 151, 153, 155] (by decide +kernel) (by decide +kernel))
theorem inG_X1 : ∀ w ∈ u_ws RX1 TX1 4, w ∈ z_G := z_inG (goodIn_r (u_ws RX1 TX1 4) [448, 450, 452, 454] (by decide +kernel) (by decide +kernel))
theorem inG_X2 : ∀ w ∈ u_ws RX2 TX2 5, w ∈ z_G := z_inG (goodIn_r (u_ws RX2 TX2 5) [465, 467, 469, 471, 473] (by decide +kernel) (by decide +kernel))
theorem inG_X3 : ∀ w ∈ u_ws RX3 TX3 7, w ∈ z_G := z_inG (goodIn_r (u_ws RX3 TX3 7) [106, 108, 110, 112, 114, 116, 118] (by decide +kernel) (by decide +kernel))
theorem inG_X4 : ∀ w ∈ u_ws RX4 TX4 5, w ∈ z_G := z_inG (goodIn_r (u_ws RX4 TX4 5) [298, 300, 302, 304, 306] (by decide +kernel) (by decide +kernel))
theorem inG_X5 : ∀ w ∈ u_ws RX5 TX5 5, w ∈ z_G := z_inG (goodIn_r (u_ws RX5 TX5 5) [166, 168, 170, 172, 174] (by decide +kernel) (by decide +kernel))
theorem inG_X6 : ∀ w ∈ u_ws RX6 TX6 23, w ∈ z_G := z_inG (goodIn_r (u_ws RX6 TX6 23) [736, 738, 740, 742, 744, 746, 748, 750, 752, 754, 756, 758, 760, 762, 764, 766, 768, 770, 772, 774, 776, 778, 780] (by decide +kernel) (by decide +kernel))
abbrev mX0_init : zM := (yX0_init, cX0_init, 1, none, [])
abbrev mX0_start : zM := (yX0_start, cX0_start, 1, none, [])
abbrev mX0_putUnits : zM := (yX0_putUnits, cX0_putUnits, 3, none, [])
abbrev mX0_serve : zM := (yX0_serve, cX0_serve, 7, (some .int), [])
abbrev mX0_searchUnitsLeft : zM := (yX0_searchUnitsLeft, cX0_searchUnitsLeft, 5, (some .int), [])
abbrev mX0_reach : zM := (yX0_reach, cX0_reach, 5, none, [])
abbrev mX0_giveAlong : zM := (yX0_giveAlong, cX0_giveAlong, 7, (some .int), [])
abbrev mX1_init : zM := (yX1_init, cX1_init, 1, none, [])
abbrev mX1_isFull : zM := (yX1_isFull, cX1_isFull, 1, (some .boolean), [])
abbrev mX1_isOpen : zM := (yX1_isOpen, cX1_isOpen, 1, (some .boolean), [])
abbrev mX1_lastChange : zM := (yX1_lastChange, cX1_lastChange, 1, (some .int), [])
abbrev mX1_begin : zM := (yX1_begin, cX1_begin, 3, none, [])
abbrev mX1_end : zM := (yX1_end, cX1_end, 2, (some .int), [])
abbrev mX1_versionOn : zM := (yX1_versionOn, cX1_versionOn, 3, (some .int), [])
abbrev mX2_init : zM := (yX2_init, cX2_init, 5, none, [])
abbrev mX2_countsBy : zM := (yX2_countsBy, cX2_countsBy, 2, (some .int), [])
abbrev mX3_init : zM := (yX3_init, cX3_init, 1, none, [])
abbrev mX3_clear : zM := (yX3_clear, cX3_clear, 1, none, [])
abbrev mX3_raise : zM := (yX3_raise, cX3_raise, 5, none, [])
abbrev mX3_addIfRaised : zM := (yX3_addIfRaised, cX3_addIfRaised, 5, none, [])
abbrev mX3_demandOfAll : zM := (yX3_demandOfAll, cX3_demandOfAll, 3, (some .int), [])
abbrev mX3_demandOfProduct : zM := (yX3_demandOfProduct, cX3_demandOfProduct, 4, (some .int), [])
abbrev mX3_demandOfSet : zM := (yX3_demandOfSet, cX3_demandOfSet, 4, (some .int), [])
abbrev mX3_giversOfSet : zM := (yX3_giversOfSet, cX3_giversOfSet, 4, (some .int), [])
abbrev mX4_init : zM := (yX4_init, cX4_init, 6, none, [])
abbrev mX4_canGive : zM := (yX4_canGive, cX4_canGive, 4, (some .boolean), [])
abbrev mX5_init : zM := (yX5_init, cX5_init, 1, none, [])
abbrev mX5_addRight : zM := (yX5_addRight, cX5_addRight, 6, (some .int), [])
abbrev mX5_upgrade : zM := (yX5_upgrade, cX5_upgrade, 5, (some .int), [])
abbrev mX5_setUnits : zM := (yX5_setUnits, cX5_setUnits, 5, (some .int), [])
abbrev mX5_rights : zM := (yX5_rights, cX5_rights, 1, (some .int), [])
abbrev mX5_addMachine : zM := (yX5_addMachine, cX5_addMachine, 4, (some .int), [])
abbrev mX5_setCores : zM := (yX5_setCores, cX5_setCores, 5, (some .int), [])
abbrev mX5_tellApart : zM := (yX5_tellApart, cX5_tellApart, 4, (some .int), [])
abbrev mX5_setCoresOfUnit : zM := (yX5_setCoresOfUnit, cX5_setCoresOfUnit, 4, (some .int), [])
abbrev mX5_machines : zM := (yX5_machines, cX5_machines, 1, (some .int), [])
abbrev mX5_install : zM := (yX5_install, cX5_install, 6, (some .int), [])
abbrev mX5_uninstall : zM := (yX5_uninstall, cX5_uninstall, 5, (some .int), [])
abbrev mX5_runs : zM := (yX5_runs, cX5_runs, 5, (some .int), [])
abbrev mX5_needs : zM := (yX5_needs, cX5_needs, 2, (some .int), [])
abbrev mX5_need : zM := (yX5_need, cX5_need, 3, (some .int), [])
abbrev mX5_demand : zM := (yX5_demand, cX5_demand, 3, (some .int), [])
abbrev mX5_gets : zM := (yX5_gets, cX5_gets, 3, (some .int), [])
abbrev mX5_lack : zM := (yX5_lack, cX5_lack, 2, (some .int), [])
abbrev mX5_lackBySets : zM := (yX5_lackBySets, cX5_lackBySets, 4, (some .int), [])
abbrev mX5_spare : zM := (yX5_spare, cX5_spare, 4, (some .int), [])
abbrev mX5_most : zM := (yX5_most, cX5_most, 5, (some .int), [])
abbrev mX5_checkArgument : zM := (yX5_checkArgument, cX5_checkArgument, 3, none, [])
abbrev mX5_checkDay : zM := (yX5_checkDay, cX5_checkDay, 1, none, [])
abbrev mX5_checkProduct : zM := (yX5_checkProduct, cX5_checkProduct, 1, none, [])
abbrev mX5_checkNeed : zM := (yX5_checkNeed, cX5_checkNeed, 2, none, [])
abbrev mX5_rightOf : zM := (yX5_rightOf, cX5_rightOf, 2, (some (.object "RightsCounter$Right")), [])
abbrev mX5_machineOf : zM := (yX5_machineOf, cX5_machineOf, 2, (some (.object "RightsCounter$Machine")), [])
abbrev mX5_historyOf : zM := (yX5_historyOf, cX5_historyOf, 3, (some (.object "RightsCounter$History")), [])
abbrev mX5_findNeeds : zM := (yX5_findNeeds, cX5_findNeeds, 6, none, [])
abbrev mX5_unitsForCores : zM := (yX5_unitsForCores, cX5_unitsForCores, 2, (some .int), [])
abbrev mX5_findGivers : zM := (yX5_findGivers, cX5_findGivers, 3, none, [])
abbrev mX5_giversFor : zM := (yX5_giversFor, cX5_giversFor, 6, (some .int), [])
abbrev mX5_unitsOf : zM := (yX5_unitsOf, cX5_unitsOf, 4, (some .int), [])
abbrev mX5_serveFirst : zM := (yX5_serveFirst, cX5_serveFirst, 5, (some .int), [])
abbrev mX6_init : zM := (yX6_init, cX6_init, 1, none, [])
abbrev mX6_thrown : zM := (yX6_thrown, cX6_thrown, 1, (some .int), [])
abbrev mX6_in : zM := (yX6_in, cX6_in, 3, (some .boolean), [])
abbrev mX6_isProduct : zM := (yX6_isProduct, cX6_isProduct, 1, (some .boolean), [])
abbrev mX6_isMachine : zM := (yX6_isMachine, cX6_isMachine, 2, (some .boolean), [])
abbrev mX6_isDay : zM := (yX6_isDay, cX6_isDay, 1, (some .boolean), [])
abbrev mX6_addRight : zM := (yX6_addRight, cX6_addRight, 7, (some .int), [])
abbrev mX6_isRight : zM := (yX6_isRight, cX6_isRight, 2, (some .boolean), [])
abbrev mX6_upgrade : zM := (yX6_upgrade, cX6_upgrade, 4, (some .int), [])
abbrev mX6_setUnits : zM := (yX6_setUnits, cX6_setUnits, 4, (some .int), [])
abbrev mX6_rights : zM := (yX6_rights, cX6_rights, 1, (some .int), [])
abbrev mX6_addMachine : zM := (yX6_addMachine, cX6_addMachine, 3, (some .int), [])
abbrev mX6_setCores : zM := (yX6_setCores, cX6_setCores, 4, (some .int), [])
abbrev mX6_countsBy : zM := (yX6_countsBy, cX6_countsBy, 3, (some .int), [])
abbrev mX6_tellApart : zM := (yX6_tellApart, cX6_tellApart, 3, (some .int), [])
abbrev mX6_setCoresOfUnit : zM := (yX6_setCoresOfUnit, cX6_setCoresOfUnit, 4, (some .int), [])
abbrev mX6_machines : zM := (yX6_machines, cX6_machines, 1, (some .int), [])
abbrev mX6_pairOf : zM := (yX6_pairOf, cX6_pairOf, 2, (some .int), [])
abbrev mX6_latest : zM := (yX6_latest, cX6_latest, 2, (some .int), [])
abbrev mX6_tells : zM := (yX6_tells, cX6_tells, 4, none, [])
abbrev mX6_install : zM := (yX6_install, cX6_install, 6, (some .int), [])
abbrev mX6_uninstall : zM := (yX6_uninstall, cX6_uninstall, 6, (some .int), [])
abbrev mX6_versionOn : zM := (yX6_versionOn, cX6_versionOn, 5, (some .int), [])
abbrev mX6_runs : zM := (yX6_runs, cX6_runs, 4, (some .int), [])
abbrev mX6_laysNeeds : zM := (yX6_laysNeeds, cX6_laysNeeds, 7, none, [])
abbrev mX6_rightsFor : zM := (yX6_rightsFor, cX6_rightsFor, 7, (some .int), [])
abbrev mX6_beginsCut : zM := (yX6_beginsCut, cX6_beginsCut, 3, none, [])
abbrev mX6_leastCut : zM := (yX6_leastCut, cX6_leastCut, 3, (some .int), [])
abbrev mX6_serves : zM := (yX6_serves, cX6_serves, 4, (some .int), [])
abbrev mX6_laysGets : zM := (yX6_laysGets, cX6_laysGets, 5, (some .int), [])
abbrev mX6_needs : zM := (yX6_needs, cX6_needs, 2, (some .int), [])
abbrev mX6_asks : zM := (yX6_asks, cX6_asks, 3, (some .boolean), [])
abbrev mX6_need : zM := (yX6_need, cX6_need, 3, (some .int), [])
abbrev mX6_demand : zM := (yX6_demand, cX6_demand, 3, (some .int), [])
abbrev mX6_gets : zM := (yX6_gets, cX6_gets, 3, (some .int), [])
abbrev mX6_lacks : zM := (yX6_lacks, cX6_lacks, 5, (some .int), [])
abbrev mX6_lack : zM := (yX6_lack, cX6_lack, 2, (some .int), [])
abbrev mX6_lackBySets : zM := (yX6_lackBySets, cX6_lackBySets, 2, (some .int), [])
abbrev mX6_spare : zM := (yX6_spare, cX6_spare, 5, (some .int), [])
abbrev mX6_most : zM := (yX6_most, cX6_most, 7, (some .int), [])
abbrev mJ9_max_7cf53 : zM := (yJ9_max_7cf53, cJ9_max_7cf53, 2, (some .int), [])
abbrev mJ9_min_7cf53 : zM := (yJ9_min_7cf53, cJ9_min_7cf53, 2, (some .int), [])
abbrev mJxa1e45_init_da8c8 : zM := (yJxa1e45_init_da8c8, cJxa1e45_init_da8c8, 1, none, [])
abbrev mJxc12de_init_da8c8 : zM := (yJxc12de_init_da8c8, cJxc12de_init_da8c8, 1, none, [])
abbrev mJx4a65c_init_da8c8 : zM := (yJx4a65c_init_da8c8, cJx4a65c_init_da8c8, 1, none, [])
abbrev mJx4a65c_grow_92f84 : zM := (yJx4a65c_grow_92f84, cJx4a65c_grow_92f84, 4, (some (.array (.object "java/lang/Object"))), [])
abbrev mJx4a65c_grow_d5877 : zM := (yJx4a65c_grow_d5877, cJx4a65c_grow_d5877, 1, (some (.array (.object "java/lang/Object"))), [])
abbrev mJx4a65c_size_8abf5 : zM := (yJx4a65c_size_8abf5, cJx4a65c_size_8abf5, 1, (some .int), [])
abbrev mJx4a65c_elementData_915e3 : zM := (yJx4a65c_elementData_915e3, cJx4a65c_elementData_915e3, 2, (some (.object "java/lang/Object")), [])
abbrev mJx4a65c_get_915e3 : zM := (yJx4a65c_get_915e3, cJx4a65c_get_915e3, 2, (some (.object "java/lang/Object")), [])
abbrev mJx4a65c_add_72be8 : zM := (yJx4a65c_add_72be8, cJx4a65c_add_72be8, 4, none, [])
abbrev mJx4a65c_add_9ea2d : zM := (yJx4a65c_add_9ea2d, cJx4a65c_add_9ea2d, 2, (some .boolean), [])
abbrev mJ7_fill_53178 : zM := (yJ7_fill_53178, cJ7_fill_53178, 4, none, [])
abbrev mJ15_checkIndex_7cf53 : zM := (yJ15_checkIndex_7cf53, cJ15_checkIndex_7cf53, 2, (some .int), [])
abbrev mJ3_checkIndex_8e157 : zM := (yJ3_checkIndex_8e157, cJ3_checkIndex_8e157, 3, (some .int), [])
abbrev mL_addRight : zM := (yL_addRight, cL_addRight, 8, (some .int), [(0, 16, 19, 13), (0, 16, 23, 15)])
abbrev mL_upgrade : zM := (yL_upgrade, cL_upgrade, 5, (some .int), [(0, 10, 13, 21), (0, 10, 17, 13), (0, 10, 21, 15)])
abbrev mL_setUnits : zM := (yL_setUnits, cL_setUnits, 5, (some .int), [(0, 10, 13, 21), (0, 10, 17, 13)])
abbrev mL_addMachine : zM := (yL_addMachine, cL_addMachine, 5, (some .int), [(0, 10, 13, 21), (0, 10, 17, 13), (0, 10, 21, 15)])
abbrev mL_setCores : zM := (yL_setCores, cL_setCores, 5, (some .int), [(0, 10, 13, 21), (0, 10, 17, 13)])
abbrev mL_tellApart : zM := (yL_tellApart, cL_tellApart, 5, (some .int), [(0, 10, 13, 21)])
abbrev mL_setCoresOfUnit : zM := (yL_setCoresOfUnit, cL_setCoresOfUnit, 5, (some .int), [(0, 10, 13, 21), (0, 10, 17, 13)])
abbrev mL_install : zM := (yL_install, cL_install, 7, (some .int), [(0, 14, 17, 21), (0, 14, 21, 13), (0, 14, 25, 15)])
abbrev mL_uninstall : zM := (yL_uninstall, cL_uninstall, 6, (some .int), [(0, 12, 15, 21), (0, 12, 19, 13), (0, 12, 23, 15)])
abbrev mL_runs : zM := (yL_runs, cL_runs, 6, (some .int), [(0, 12, 15, 21), (0, 12, 19, 13)])
abbrev mL_needs : zM := (yL_needs, cL_needs, 4, (some .int), [(0, 9, 12, 13)])
abbrev mL_need : zM := (yL_need, cL_need, 5, (some .int), [(0, 10, 13, 13), (0, 10, 17, 21)])
abbrev mL_demand : zM := (yL_demand, cL_demand, 5, (some .int), [(0, 10, 13, 13), (0, 10, 17, 21)])
abbrev mL_gets : zM := (yL_gets, cL_gets, 5, (some .int), [(0, 10, 13, 13), (0, 10, 17, 21)])
abbrev mL_lack : zM := (yL_lack, cL_lack, 4, (some .int), [(0, 9, 12, 13)])
abbrev mL_lackBySets : zM := (yL_lackBySets, cL_lackBySets, 4, (some .int), [(0, 9, 12, 13), (0, 9, 15, 15)])
abbrev mL_spare : zM := (yL_spare, cL_spare, 6, (some .int), [(0, 12, 15, 13), (0, 12, 19, 21)])
abbrev mL_most : zM := (yL_most, cL_most, 5, (some .int), [(0, 10, 13, 21), (0, 10, 17, 13)])
abbrev mlaw : zM := (x, code, 7, ret, [])
theorem gw127 : Cond.methodLink "RightsCounter$Giving" 3 ⟨"java/lang/Object", "<init>", "()V"⟩ ∈ z_G := z_g 127 (by decide +kernel) (by decide +kernel)
theorem gw59 : Cond.instanceMethod ⟨"java/lang/Object", "<init>", "()V"⟩ ∈ z_G := z_g 59 (by decide +kernel) (by decide +kernel)
theorem gw130 : Cond.fieldLink "RightsCounter$Giving" 11 "RightsCounter$Giving" "given" "[[I" ∈ z_G := z_g 130 (by decide +kernel) (by decide +kernel)
theorem gw121 : Cond.arrayClass FieldType.int ∈ z_G := z_g 121 (by decide +kernel) (by decide +kernel)
theorem gw131 : Cond.fieldLink "RightsCounter$Giving" 16 "RightsCounter$Giving" "givers" "[I" ∈ z_G := z_g 131 (by decide +kernel) (by decide +kernel)
theorem gw132 : Cond.fieldLink "RightsCounter$Giving" 20 "RightsCounter$Giving" "unitsLeft" "[I" ∈ z_G := z_g 132 (by decide +kernel) (by decide +kernel)
theorem gw134 : Cond.fieldLink "RightsCounter$Giving" 23 "RightsCounter$Giving" "queue" "[I" ∈ z_G := z_g 134 (by decide +kernel) (by decide +kernel)
theorem gw135 : Cond.fieldLink "RightsCounter$Giving" 26 "RightsCounter$Giving" "reachedFrom" "[I" ∈ z_G := z_g 135 (by decide +kernel) (by decide +kernel)
theorem gw136 : Cond.fieldLink "RightsCounter$Giving" 29 "RightsCounter$Giving" "exchanger" "[I" ∈ z_G := z_g 136 (by decide +kernel) (by decide +kernel)
theorem gw133 : Cond.fieldLink "RightsCounter$Giving" 32 "RightsCounter$Giving" "served" "I" ∈ z_G := z_g 133 (by decide +kernel) (by decide +kernel)
theorem gw643 : Cond.methodLink "RightsCounter$Giving" 36 ⟨"java/util/Arrays", "fill", "([II)V"⟩ ∈ z_G := z_g 643 (by decide +kernel) (by decide +kernel)
theorem gw37 : Cond.initialized "java/util/Arrays" ∈ z_G := z_g 37 (by decide +kernel) (by decide +kernel)
theorem gw159 : Cond.static ⟨"java/util/Arrays", "fill", "([II)V"⟩ ∈ z_G := z_g 159 (by decide +kernel) (by decide +kernel)
theorem gw644 : Cond.methodLink "RightsCounter$Giving" 42 ⟨"RightsCounter$Giving", "searchUnitsLeft", "(I)I"⟩ ∈ z_G := z_g 644 (by decide +kernel) (by decide +kernel)
theorem gw36 : Cond.initialized "RightsCounter$Giving" ∈ z_G := z_g 36 (by decide +kernel) (by decide +kernel)
theorem gw646 : Cond.instanceMethod ⟨"RightsCounter$Giving", "searchUnitsLeft", "(I)I"⟩ ∈ z_G := z_g 646 (by decide +kernel) (by decide +kernel)
theorem gwp12 : Cond.selects "RightsCounter$Giving" ⟨"RightsCounter$Giving", "searchUnitsLeft", "(I)I"⟩ ⟨"RightsCounter$Giving", "searchUnitsLeft", "(I)I"⟩ ∈ z_G := z_g 12 (by decide +kernel) (by decide +kernel)
theorem gw652 : Cond.methodLink "RightsCounter$Giving" 46 ⟨"RightsCounter$Giving", "giveAlong", "(III)I"⟩ ∈ z_G := z_g 652 (by decide +kernel) (by decide +kernel)
theorem gw654 : Cond.instanceMethod ⟨"RightsCounter$Giving", "giveAlong", "(III)I"⟩ ∈ z_G := z_g 654 (by decide +kernel) (by decide +kernel)
theorem gwp14 : Cond.selects "RightsCounter$Giving" ⟨"RightsCounter$Giving", "giveAlong", "(III)I"⟩ ⟨"RightsCounter$Giving", "giveAlong", "(III)I"⟩ ∈ z_G := z_g 14 (by decide +kernel) (by decide +kernel)
theorem gw137 : Cond.fieldLink "RightsCounter$Giving" 50 "RightsCounter$Giving" "queued" "I" ∈ z_G := z_g 137 (by decide +kernel) (by decide +kernel)
theorem gw138 : Cond.fieldLink "RightsCounter$Giving" 53 "RightsCounter$Giving" "reached" "I" ∈ z_G := z_g 138 (by decide +kernel) (by decide +kernel)
theorem gw648 : Cond.methodLink "RightsCounter$Giving" 56 ⟨"RightsCounter$Giving", "reach", "(III)V"⟩ ∈ z_G := z_g 648 (by decide +kernel) (by decide +kernel)
theorem gw650 : Cond.instanceMethod ⟨"RightsCounter$Giving", "reach", "(III)V"⟩ ∈ z_G := z_g 650 (by decide +kernel) (by decide +kernel)
theorem gwp13 : Cond.selects "RightsCounter$Giving" ⟨"RightsCounter$Giving", "reach", "(III)V"⟩ ⟨"RightsCounter$Giving", "reach", "(III)V"⟩ ∈ z_G := z_g 13 (by decide +kernel) (by decide +kernel)
theorem gw656 : Cond.methodLink "RightsCounter$Giving" 60 ⟨"java/lang/Math", "min", "(II)I"⟩ ∈ z_G := z_g 656 (by decide +kernel) (by decide +kernel)
theorem gw360 : Cond.static ⟨"java/lang/Math", "min", "(II)I"⟩ ∈ z_G := z_g 360 (by decide +kernel) (by decide +kernel)
theorem gw46 : Cond.initialized "java/lang/Math" ∈ z_G := z_g 46 (by decide +kernel) (by decide +kernel)
theorem gw442 : Cond.methodLink "RightsCounter$History" 3 ⟨"java/lang/Object", "<init>", "()V"⟩ ∈ z_G := z_g 442 (by decide +kernel) (by decide +kernel)
theorem gw443 : Cond.fieldLink "RightsCounter$History" 9 "RightsCounter$History" "versions" "[I" ∈ z_G := z_g 443 (by decide +kernel) (by decide +kernel)
theorem gw444 : Cond.fieldLink "RightsCounter$History" 15 "RightsCounter$History" "firstDays" "[I" ∈ z_G := z_g 444 (by decide +kernel) (by decide +kernel)
theorem gw445 : Cond.fieldLink "RightsCounter$History" 18 "RightsCounter$History" "endDays" "[I" ∈ z_G := z_g 445 (by decide +kernel) (by decide +kernel)
theorem gw446 : Cond.fieldLink "RightsCounter$History" 21 "RightsCounter$History" "installs" "I" ∈ z_G := z_g 446 (by decide +kernel) (by decide +kernel)
theorem gw527 : Cond.methodLink "RightsCounter$History" 25 ⟨"RightsCounter$History", "isOpen", "()Z"⟩ ∈ z_G := z_g 527 (by decide +kernel) (by decide +kernel)
theorem gw52 : Cond.initialized "RightsCounter$History" ∈ z_G := z_g 52 (by decide +kernel) (by decide +kernel)
theorem gw528 : Cond.instanceMethod ⟨"RightsCounter$History", "isOpen", "()Z"⟩ ∈ z_G := z_g 528 (by decide +kernel) (by decide +kernel)
theorem gw529 : Cond.selects "RightsCounter$History" ⟨"RightsCounter$History", "isOpen", "()Z"⟩ ⟨"RightsCounter$History", "isOpen", "()Z"⟩ ∈ z_G := z_g 529 (by decide +kernel) (by decide +kernel)
theorem gw536 : Cond.methodLink "RightsCounter$History" 29 ⟨"RightsCounter$History", "isFull", "()Z"⟩ ∈ z_G := z_g 536 (by decide +kernel) (by decide +kernel)
theorem gw520 : Cond.instanceMethod ⟨"RightsCounter$History", "isFull", "()Z"⟩ ∈ z_G := z_g 520 (by decide +kernel) (by decide +kernel)
theorem gw521 : Cond.selects "RightsCounter$History" ⟨"RightsCounter$History", "isFull", "()Z"⟩ ⟨"RightsCounter$History", "isFull", "()Z"⟩ ∈ z_G := z_g 521 (by decide +kernel) (by decide +kernel)
theorem gw435 : Cond.methodLink "RightsCounter$Machine" 3 ⟨"java/lang/Object", "<init>", "()V"⟩ ∈ z_G := z_g 435 (by decide +kernel) (by decide +kernel)
theorem gw436 : Cond.classLink "RightsCounter$Machine" 9 "RightsCounter$History" ∈ z_G := z_g 436 (by decide +kernel) (by decide +kernel)
theorem gw459 : Cond.fieldLink "RightsCounter$Machine" 11 "RightsCounter$Machine" "histories" "[LRightsCounter$History;" ∈ z_G := z_g 459 (by decide +kernel) (by decide +kernel)
theorem gw457 : Cond.fieldLink "RightsCounter$Machine" 17 "RightsCounter$Machine" "number" "I" ∈ z_G := z_g 457 (by decide +kernel) (by decide +kernel)
theorem gw461 : Cond.fieldLink "RightsCounter$Machine" 21 "RightsCounter$Machine" "cores" "I" ∈ z_G := z_g 461 (by decide +kernel) (by decide +kernel)
theorem gw458 : Cond.fieldLink "RightsCounter$Machine" 24 "RightsCounter$Machine" "host" "LRightsCounter$Machine;" ∈ z_G := z_g 458 (by decide +kernel) (by decide +kernel)
theorem gw438 : Cond.instantiable "RightsCounter$History" 4 ∈ z_G := z_g 438 (by decide +kernel) (by decide +kernel)
theorem gw440 : Cond.instanceMethod ⟨"RightsCounter$History", "<init>", "()V"⟩ ∈ z_G := z_g 440 (by decide +kernel) (by decide +kernel)
theorem gw463 : Cond.fieldLink "RightsCounter$Machine" 29 "RightsCounter$Machine" "isApart" "Z" ∈ z_G := z_g 463 (by decide +kernel) (by decide +kernel)
theorem gw92 : Cond.methodLink "RightsCounter$Needs" 3 ⟨"java/lang/Object", "<init>", "()V"⟩ ∈ z_G := z_g 92 (by decide +kernel) (by decide +kernel)
theorem gw93 : Cond.fieldLink "RightsCounter$Needs" 9 "RightsCounter$Needs" "machines" "[I" ∈ z_G := z_g 93 (by decide +kernel) (by decide +kernel)
theorem gw95 : Cond.fieldLink "RightsCounter$Needs" 15 "RightsCounter$Needs" "products" "[I" ∈ z_G := z_g 95 (by decide +kernel) (by decide +kernel)
theorem gw97 : Cond.fieldLink "RightsCounter$Needs" 18 "RightsCounter$Needs" "versions" "[I" ∈ z_G := z_g 97 (by decide +kernel) (by decide +kernel)
theorem gw99 : Cond.fieldLink "RightsCounter$Needs" 21 "RightsCounter$Needs" "demands" "[I" ∈ z_G := z_g 99 (by decide +kernel) (by decide +kernel)
theorem gw101 : Cond.fieldLink "RightsCounter$Needs" 24 "RightsCounter$Needs" "givers" "[I" ∈ z_G := z_g 101 (by decide +kernel) (by decide +kernel)
theorem gw105 : Cond.fieldLink "RightsCounter$Needs" 27 "RightsCounter$Needs" "greatest" "[I" ∈ z_G := z_g 105 (by decide +kernel) (by decide +kernel)
theorem gw103 : Cond.fieldLink "RightsCounter$Needs" 30 "RightsCounter$Needs" "count" "I" ∈ z_G := z_g 103 (by decide +kernel) (by decide +kernel)
theorem gw576 : Cond.methodLink "RightsCounter$Needs" 34 ⟨"java/util/Arrays", "fill", "([II)V"⟩ ∈ z_G := z_g 576 (by decide +kernel) (by decide +kernel)
theorem gw581 : Cond.methodLink "RightsCounter$Needs" 40 ⟨"java/lang/Math", "max", "(II)I"⟩ ∈ z_G := z_g 581 (by decide +kernel) (by decide +kernel)
theorem gw329 : Cond.static ⟨"java/lang/Math", "max", "(II)I"⟩ ∈ z_G := z_g 329 (by decide +kernel) (by decide +kernel)
theorem gw290 : Cond.methodLink "RightsCounter$Right" 1 ⟨"java/lang/Object", "<init>", "()V"⟩ ∈ z_G := z_g 290 (by decide +kernel) (by decide +kernel)
theorem gw291 : Cond.fieldLink "RightsCounter$Right" 7 "RightsCounter$Right" "products" "I" ∈ z_G := z_g 291 (by decide +kernel) (by decide +kernel)
theorem gw294 : Cond.fieldLink "RightsCounter$Right" 13 "RightsCounter$Right" "version" "I" ∈ z_G := z_g 294 (by decide +kernel) (by decide +kernel)
theorem gw296 : Cond.fieldLink "RightsCounter$Right" 16 "RightsCounter$Right" "units" "I" ∈ z_G := z_g 296 (by decide +kernel) (by decide +kernel)
theorem gw292 : Cond.fieldLink "RightsCounter$Right" 19 "RightsCounter$Right" "first" "I" ∈ z_G := z_g 292 (by decide +kernel) (by decide +kernel)
theorem gw293 : Cond.fieldLink "RightsCounter$Right" 22 "RightsCounter$Right" "last" "I" ∈ z_G := z_g 293 (by decide +kernel) (by decide +kernel)
theorem gw58 : Cond.methodLink "RightsCounter" 3 ⟨"java/lang/Object", "<init>", "()V"⟩ ∈ z_G := z_g 58 (by decide +kernel) (by decide +kernel)
theorem gw61 : Cond.classLink "RightsCounter" 9 "java/util/ArrayList" ∈ z_G := z_g 61 (by decide +kernel) (by decide +kernel)
theorem gw62 : Cond.instantiable "java/util/ArrayList" 3 ∈ z_G := z_g 62 (by decide +kernel) (by decide +kernel)
theorem gw34 : Cond.initialized "java/util/ArrayList" ∈ z_G := z_g 34 (by decide +kernel) (by decide +kernel)
theorem gw64 : Cond.instanceMethod ⟨"java/util/ArrayList", "<init>", "()V"⟩ ∈ z_G := z_g 64 (by decide +kernel) (by decide +kernel)
theorem gw63 : Cond.methodLink "RightsCounter" 11 ⟨"java/util/ArrayList", "<init>", "()V"⟩ ∈ z_G := z_g 63 (by decide +kernel) (by decide +kernel)
theorem gw161 : Cond.fieldLink "RightsCounter" 12 "RightsCounter" "rightList" "Ljava/util/ArrayList;" ∈ z_G := z_g 161 (by decide +kernel) (by decide +kernel)
theorem gw162 : Cond.fieldLink "RightsCounter" 16 "RightsCounter" "machineList" "Ljava/util/ArrayList;" ∈ z_G := z_g 162 (by decide +kernel) (by decide +kernel)
theorem gw163 : Cond.fieldLink "RightsCounter" 19 "RightsCounter" "coresOfUnit" "[I" ∈ z_G := z_g 163 (by decide +kernel) (by decide +kernel)
theorem gw87 : Cond.classLink "RightsCounter" 23 "RightsCounter$Needs" ∈ z_G := z_g 87 (by decide +kernel) (by decide +kernel)
theorem gw88 : Cond.instantiable "RightsCounter$Needs" 7 ∈ z_G := z_g 88 (by decide +kernel) (by decide +kernel)
theorem gw35 : Cond.initialized "RightsCounter$Needs" ∈ z_G := z_g 35 (by decide +kernel) (by decide +kernel)
theorem gw90 : Cond.instanceMethod ⟨"RightsCounter$Needs", "<init>", "()V"⟩ ∈ z_G := z_g 90 (by decide +kernel) (by decide +kernel)
theorem gw164 : Cond.fieldLink "RightsCounter" 26 "RightsCounter" "found" "LRightsCounter$Needs;" ∈ z_G := z_g 164 (by decide +kernel) (by decide +kernel)
theorem gw122 : Cond.classLink "RightsCounter" 30 "RightsCounter$Giving" ∈ z_G := z_g 122 (by decide +kernel) (by decide +kernel)
theorem gw123 : Cond.instantiable "RightsCounter$Giving" 9 ∈ z_G := z_g 123 (by decide +kernel) (by decide +kernel)
theorem gw125 : Cond.instanceMethod ⟨"RightsCounter$Giving", "<init>", "()V"⟩ ∈ z_G := z_g 125 (by decide +kernel) (by decide +kernel)
theorem gw165 : Cond.fieldLink "RightsCounter" 33 "RightsCounter" "giving" "LRightsCounter$Giving;" ∈ z_G := z_g 165 (by decide +kernel) (by decide +kernel)
theorem gw158 : Cond.methodLink "RightsCounter" 37 ⟨"java/util/Arrays", "fill", "([II)V"⟩ ∈ z_G := z_g 158 (by decide +kernel) (by decide +kernel)
theorem gw198 : Cond.methodLink "RightsCounter" 43 ⟨"RightsCounter", "checkArgument", "(III)V"⟩ ∈ z_G := z_g 198 (by decide +kernel) (by decide +kernel)
theorem gw31 : Cond.initialized "RightsCounter" ∈ z_G := z_g 31 (by decide +kernel) (by decide +kernel)
theorem gw199 : Cond.static ⟨"RightsCounter", "checkArgument", "(III)V"⟩ ∈ z_G := z_g 199 (by decide +kernel) (by decide +kernel)
theorem gw181 : Cond.methodLink "RightsCounter" 47 ⟨"java/util/ArrayList", "size", "()I"⟩ ∈ z_G := z_g 181 (by decide +kernel) (by decide +kernel)
theorem gw182 : Cond.instanceMethod ⟨"java/util/ArrayList", "size", "()I"⟩ ∈ z_G := z_g 182 (by decide +kernel) (by decide +kernel)
theorem gw183 : Cond.selects "java/util/ArrayList" ⟨"java/util/ArrayList", "size", "()I"⟩ ⟨"java/util/ArrayList", "size", "()I"⟩ ∈ z_G := z_g 183 (by decide +kernel) (by decide +kernel)
theorem gw269 : Cond.classLink "RightsCounter" 51 "java/lang/IllegalStateException" ∈ z_G := z_g 269 (by decide +kernel) (by decide +kernel)
theorem gw43 : Cond.initialized "java/lang/IllegalStateException" ∈ z_G := z_g 43 (by decide +kernel) (by decide +kernel)
theorem gw285 : Cond.classLink "RightsCounter" 58 "RightsCounter$Right" ∈ z_G := z_g 285 (by decide +kernel) (by decide +kernel)
theorem gw286 : Cond.instantiable "RightsCounter$Right" 5 ∈ z_G := z_g 286 (by decide +kernel) (by decide +kernel)
theorem gw44 : Cond.initialized "RightsCounter$Right" ∈ z_G := z_g 44 (by decide +kernel) (by decide +kernel)
theorem gw288 : Cond.instanceMethod ⟨"RightsCounter$Right", "<init>", "(IIIII)V"⟩ ∈ z_G := z_g 288 (by decide +kernel) (by decide +kernel)
theorem gw287 : Cond.methodLink "RightsCounter" 60 ⟨"RightsCounter$Right", "<init>", "(IIIII)V"⟩ ∈ z_G := z_g 287 (by decide +kernel) (by decide +kernel)
theorem gw309 : Cond.methodLink "RightsCounter" 63 ⟨"java/util/ArrayList", "add", "(Ljava/lang/Object;)Z"⟩ ∈ z_G := z_g 309 (by decide +kernel) (by decide +kernel)
theorem gw310 : Cond.instanceMethod ⟨"java/util/ArrayList", "add", "(Ljava/lang/Object;)Z"⟩ ∈ z_G := z_g 310 (by decide +kernel) (by decide +kernel)
theorem gw311 : Cond.selects "java/util/ArrayList" ⟨"java/util/ArrayList", "add", "(Ljava/lang/Object;)Z"⟩ ⟨"java/util/ArrayList", "add", "(Ljava/lang/Object;)Z"⟩ ∈ z_G := z_g 311 (by decide +kernel) (by decide +kernel)
theorem gw375 : Cond.methodLink "RightsCounter" 67 ⟨"RightsCounter", "rightOf", "(I)LRightsCounter$Right;"⟩ ∈ z_G := z_g 375 (by decide +kernel) (by decide +kernel)
theorem gw377 : Cond.instanceMethod ⟨"RightsCounter", "rightOf", "(I)LRightsCounter$Right;"⟩ ∈ z_G := z_g 377 (by decide +kernel) (by decide +kernel)
theorem gwp4 : Cond.selects "RightsCounter" ⟨"RightsCounter", "rightOf", "(I)LRightsCounter$Right;"⟩ ⟨"RightsCounter", "rightOf", "(I)LRightsCounter$Right;"⟩ ∈ z_G := z_g 4 (by decide +kernel) (by decide +kernel)
theorem gw295 : Cond.fieldLink "RightsCounter" 71 "RightsCounter$Right" "version" "I" ∈ z_G := z_g 295 (by decide +kernel) (by decide +kernel)
theorem gw297 : Cond.fieldLink "RightsCounter" 77 "RightsCounter$Right" "units" "I" ∈ z_G := z_g 297 (by decide +kernel) (by decide +kernel)
theorem gw424 : Cond.methodLink "RightsCounter" 80 ⟨"RightsCounter", "machineOf", "(I)LRightsCounter$Machine;"⟩ ∈ z_G := z_g 424 (by decide +kernel) (by decide +kernel)
theorem gw426 : Cond.instanceMethod ⟨"RightsCounter", "machineOf", "(I)LRightsCounter$Machine;"⟩ ∈ z_G := z_g 426 (by decide +kernel) (by decide +kernel)
theorem gwp5 : Cond.selects "RightsCounter" ⟨"RightsCounter", "machineOf", "(I)LRightsCounter$Machine;"⟩ ⟨"RightsCounter", "machineOf", "(I)LRightsCounter$Machine;"⟩ ∈ z_G := z_g 5 (by decide +kernel) (by decide +kernel)
theorem gw429 : Cond.classLink "RightsCounter" 86 "RightsCounter$Machine" ∈ z_G := z_g 429 (by decide +kernel) (by decide +kernel)
theorem gw431 : Cond.instantiable "RightsCounter$Machine" 5 ∈ z_G := z_g 431 (by decide +kernel) (by decide +kernel)
theorem gw51 : Cond.initialized "RightsCounter$Machine" ∈ z_G := z_g 51 (by decide +kernel) (by decide +kernel)
theorem gw433 : Cond.instanceMethod ⟨"RightsCounter$Machine", "<init>", "(IILRightsCounter$Machine;)V"⟩ ∈ z_G := z_g 433 (by decide +kernel) (by decide +kernel)
theorem gw432 : Cond.methodLink "RightsCounter" 88 ⟨"RightsCounter$Machine", "<init>", "(IILRightsCounter$Machine;)V"⟩ ∈ z_G := z_g 432 (by decide +kernel) (by decide +kernel)
theorem gw462 : Cond.fieldLink "RightsCounter" 91 "RightsCounter$Machine" "cores" "I" ∈ z_G := z_g 462 (by decide +kernel) (by decide +kernel)
theorem gw464 : Cond.fieldLink "RightsCounter" 94 "RightsCounter$Machine" "isApart" "Z" ∈ z_G := z_g 464 (by decide +kernel) (by decide +kernel)
theorem gw490 : Cond.methodLink "RightsCounter" 98 ⟨"RightsCounter$Machine", "countsBy", "()I"⟩ ∈ z_G := z_g 490 (by decide +kernel) (by decide +kernel)
theorem gw491 : Cond.instanceMethod ⟨"RightsCounter$Machine", "countsBy", "()I"⟩ ∈ z_G := z_g 491 (by decide +kernel) (by decide +kernel)
theorem gw492 : Cond.selects "RightsCounter$Machine" ⟨"RightsCounter$Machine", "countsBy", "()I"⟩ ⟨"RightsCounter$Machine", "countsBy", "()I"⟩ ∈ z_G := z_g 492 (by decide +kernel) (by decide +kernel)
theorem gw501 : Cond.methodLink "RightsCounter" 101 ⟨"RightsCounter", "checkProduct", "(I)V"⟩ ∈ z_G := z_g 501 (by decide +kernel) (by decide +kernel)
theorem gw502 : Cond.static ⟨"RightsCounter", "checkProduct", "(I)V"⟩ ∈ z_G := z_g 502 (by decide +kernel) (by decide +kernel)
theorem gw512 : Cond.methodLink "RightsCounter" 105 ⟨"RightsCounter", "historyOf", "(II)LRightsCounter$History;"⟩ ∈ z_G := z_g 512 (by decide +kernel) (by decide +kernel)
theorem gw514 : Cond.instanceMethod ⟨"RightsCounter", "historyOf", "(II)LRightsCounter$History;"⟩ ∈ z_G := z_g 514 (by decide +kernel) (by decide +kernel)
theorem gwp6 : Cond.selects "RightsCounter" ⟨"RightsCounter", "historyOf", "(II)LRightsCounter$History;"⟩ ⟨"RightsCounter", "historyOf", "(II)LRightsCounter$History;"⟩ ∈ z_G := z_g 6 (by decide +kernel) (by decide +kernel)
theorem gw516 : Cond.methodLink "RightsCounter" 109 ⟨"RightsCounter", "checkDay", "(I)V"⟩ ∈ z_G := z_g 516 (by decide +kernel) (by decide +kernel)
theorem gw517 : Cond.static ⟨"RightsCounter", "checkDay", "(I)V"⟩ ∈ z_G := z_g 517 (by decide +kernel) (by decide +kernel)
theorem gw519 : Cond.methodLink "RightsCounter" 112 ⟨"RightsCounter$History", "isFull", "()Z"⟩ ∈ z_G := z_g 519 (by decide +kernel) (by decide +kernel)
theorem gw523 : Cond.methodLink "RightsCounter" 118 ⟨"RightsCounter$History", "lastChange", "()I"⟩ ∈ z_G := z_g 523 (by decide +kernel) (by decide +kernel)
theorem gw524 : Cond.instanceMethod ⟨"RightsCounter$History", "lastChange", "()I"⟩ ∈ z_G := z_g 524 (by decide +kernel) (by decide +kernel)
theorem gw525 : Cond.selects "RightsCounter$History" ⟨"RightsCounter$History", "lastChange", "()I"⟩ ⟨"RightsCounter$History", "lastChange", "()I"⟩ ∈ z_G := z_g 525 (by decide +kernel) (by decide +kernel)
theorem gw532 : Cond.methodLink "RightsCounter" 123 ⟨"RightsCounter$History", "begin", "(II)V"⟩ ∈ z_G := z_g 532 (by decide +kernel) (by decide +kernel)
theorem gw533 : Cond.instanceMethod ⟨"RightsCounter$History", "begin", "(II)V"⟩ ∈ z_G := z_g 533 (by decide +kernel) (by decide +kernel)
theorem gw534 : Cond.selects "RightsCounter$History" ⟨"RightsCounter$History", "begin", "(II)V"⟩ ⟨"RightsCounter$History", "begin", "(II)V"⟩ ∈ z_G := z_g 534 (by decide +kernel) (by decide +kernel)
theorem gw447 : Cond.fieldLink "RightsCounter" 127 "RightsCounter$History" "installs" "I" ∈ z_G := z_g 447 (by decide +kernel) (by decide +kernel)
theorem gw544 : Cond.methodLink "RightsCounter" 130 ⟨"RightsCounter$History", "isOpen", "()Z"⟩ ∈ z_G := z_g 544 (by decide +kernel) (by decide +kernel)
theorem gw546 : Cond.methodLink "RightsCounter" 135 ⟨"RightsCounter$History", "end", "(I)I"⟩ ∈ z_G := z_g 546 (by decide +kernel) (by decide +kernel)
theorem gw547 : Cond.instanceMethod ⟨"RightsCounter$History", "end", "(I)I"⟩ ∈ z_G := z_g 547 (by decide +kernel) (by decide +kernel)
theorem gw548 : Cond.selects "RightsCounter$History" ⟨"RightsCounter$History", "end", "(I)I"⟩ ⟨"RightsCounter$History", "end", "(I)I"⟩ ∈ z_G := z_g 548 (by decide +kernel) (by decide +kernel)
theorem gw557 : Cond.methodLink "RightsCounter" 139 ⟨"RightsCounter$History", "versionOn", "(I)I"⟩ ∈ z_G := z_g 557 (by decide +kernel) (by decide +kernel)
theorem gw558 : Cond.instanceMethod ⟨"RightsCounter$History", "versionOn", "(I)I"⟩ ∈ z_G := z_g 558 (by decide +kernel) (by decide +kernel)
theorem gw559 : Cond.selects "RightsCounter$History" ⟨"RightsCounter$History", "versionOn", "(I)I"⟩ ⟨"RightsCounter$History", "versionOn", "(I)I"⟩ ∈ z_G := z_g 559 (by decide +kernel) (by decide +kernel)
theorem gw568 : Cond.methodLink "RightsCounter" 142 ⟨"RightsCounter", "findNeeds", "(I)V"⟩ ∈ z_G := z_g 568 (by decide +kernel) (by decide +kernel)
theorem gw570 : Cond.instanceMethod ⟨"RightsCounter", "findNeeds", "(I)V"⟩ ∈ z_G := z_g 570 (by decide +kernel) (by decide +kernel)
theorem gwp7 : Cond.selects "RightsCounter" ⟨"RightsCounter", "findNeeds", "(I)V"⟩ ⟨"RightsCounter", "findNeeds", "(I)V"⟩ ∈ z_G := z_g 7 (by decide +kernel) (by decide +kernel)
theorem gw104 : Cond.fieldLink "RightsCounter" 145 "RightsCounter$Needs" "count" "I" ∈ z_G := z_g 104 (by decide +kernel) (by decide +kernel)
theorem gw596 : Cond.methodLink "RightsCounter" 148 ⟨"RightsCounter", "checkNeed", "(I)V"⟩ ∈ z_G := z_g 596 (by decide +kernel) (by decide +kernel)
theorem gw598 : Cond.instanceMethod ⟨"RightsCounter", "checkNeed", "(I)V"⟩ ∈ z_G := z_g 598 (by decide +kernel) (by decide +kernel)
theorem gwp8 : Cond.selects "RightsCounter" ⟨"RightsCounter", "checkNeed", "(I)V"⟩ ⟨"RightsCounter", "checkNeed", "(I)V"⟩ ∈ z_G := z_g 8 (by decide +kernel) (by decide +kernel)
theorem gw94 : Cond.fieldLink "RightsCounter" 151 "RightsCounter$Needs" "machines" "[I" ∈ z_G := z_g 94 (by decide +kernel) (by decide +kernel)
theorem gw96 : Cond.fieldLink "RightsCounter" 154 "RightsCounter$Needs" "products" "[I" ∈ z_G := z_g 96 (by decide +kernel) (by decide +kernel)
theorem gw98 : Cond.fieldLink "RightsCounter" 157 "RightsCounter$Needs" "versions" "[I" ∈ z_G := z_g 98 (by decide +kernel) (by decide +kernel)
theorem gw100 : Cond.fieldLink "RightsCounter" 160 "RightsCounter$Needs" "demands" "[I" ∈ z_G := z_g 100 (by decide +kernel) (by decide +kernel)
theorem gw615 : Cond.methodLink "RightsCounter" 163 ⟨"RightsCounter", "serveFirst", "(II)I"⟩ ∈ z_G := z_g 615 (by decide +kernel) (by decide +kernel)
theorem gw617 : Cond.instanceMethod ⟨"RightsCounter", "serveFirst", "(II)I"⟩ ∈ z_G := z_g 617 (by decide +kernel) (by decide +kernel)
theorem gwp9 : Cond.selects "RightsCounter" ⟨"RightsCounter", "serveFirst", "(II)I"⟩ ⟨"RightsCounter", "serveFirst", "(II)I"⟩ ∈ z_G := z_g 9 (by decide +kernel) (by decide +kernel)
theorem gw102 : Cond.fieldLink "RightsCounter" 167 "RightsCounter$Needs" "givers" "[I" ∈ z_G := z_g 102 (by decide +kernel) (by decide +kernel)
theorem gw639 : Cond.methodLink "RightsCounter" 170 ⟨"RightsCounter$Giving", "serve", "(II)I"⟩ ∈ z_G := z_g 639 (by decide +kernel) (by decide +kernel)
theorem gw640 : Cond.instanceMethod ⟨"RightsCounter$Giving", "serve", "(II)I"⟩ ∈ z_G := z_g 640 (by decide +kernel) (by decide +kernel)
theorem gw641 : Cond.selects "RightsCounter$Giving" ⟨"RightsCounter$Giving", "serve", "(II)I"⟩ ⟨"RightsCounter$Giving", "serve", "(II)I"⟩ ∈ z_G := z_g 641 (by decide +kernel) (by decide +kernel)
theorem gw664 : Cond.methodLink "RightsCounter" 173 ⟨"RightsCounter$Needs", "demandOfAll", "()I"⟩ ∈ z_G := z_g 664 (by decide +kernel) (by decide +kernel)
theorem gw665 : Cond.instanceMethod ⟨"RightsCounter$Needs", "demandOfAll", "()I"⟩ ∈ z_G := z_g 665 (by decide +kernel) (by decide +kernel)
theorem gw666 : Cond.selects "RightsCounter$Needs" ⟨"RightsCounter$Needs", "demandOfAll", "()I"⟩ ⟨"RightsCounter$Needs", "demandOfAll", "()I"⟩ ∈ z_G := z_g 666 (by decide +kernel) (by decide +kernel)
theorem gw619 : Cond.methodLink "RightsCounter" 178 ⟨"RightsCounter", "findGivers", "(I)V"⟩ ∈ z_G := z_g 619 (by decide +kernel) (by decide +kernel)
theorem gw621 : Cond.instanceMethod ⟨"RightsCounter", "findGivers", "(I)V"⟩ ∈ z_G := z_g 621 (by decide +kernel) (by decide +kernel)
theorem gwp10 : Cond.selects "RightsCounter" ⟨"RightsCounter", "findGivers", "(I)V"⟩ ⟨"RightsCounter", "findGivers", "(I)V"⟩ ∈ z_G := z_g 10 (by decide +kernel) (by decide +kernel)
theorem gw676 : Cond.methodLink "RightsCounter" 181 ⟨"RightsCounter$Needs", "demandOfSet", "(I)I"⟩ ∈ z_G := z_g 676 (by decide +kernel) (by decide +kernel)
theorem gw677 : Cond.instanceMethod ⟨"RightsCounter$Needs", "demandOfSet", "(I)I"⟩ ∈ z_G := z_g 677 (by decide +kernel) (by decide +kernel)
theorem gw678 : Cond.selects "RightsCounter$Needs" ⟨"RightsCounter$Needs", "demandOfSet", "(I)I"⟩ ⟨"RightsCounter$Needs", "demandOfSet", "(I)I"⟩ ∈ z_G := z_g 678 (by decide +kernel) (by decide +kernel)
theorem gw680 : Cond.methodLink "RightsCounter" 184 ⟨"RightsCounter$Needs", "giversOfSet", "(I)I"⟩ ∈ z_G := z_g 680 (by decide +kernel) (by decide +kernel)
theorem gw681 : Cond.instanceMethod ⟨"RightsCounter$Needs", "giversOfSet", "(I)I"⟩ ∈ z_G := z_g 681 (by decide +kernel) (by decide +kernel)
theorem gw682 : Cond.selects "RightsCounter$Needs" ⟨"RightsCounter$Needs", "giversOfSet", "(I)I"⟩ ⟨"RightsCounter$Needs", "giversOfSet", "(I)I"⟩ ∈ z_G := z_g 682 (by decide +kernel) (by decide +kernel)
theorem gw684 : Cond.methodLink "RightsCounter" 187 ⟨"RightsCounter", "unitsOf", "(I)I"⟩ ∈ z_G := z_g 684 (by decide +kernel) (by decide +kernel)
theorem gw686 : Cond.instanceMethod ⟨"RightsCounter", "unitsOf", "(I)I"⟩ ∈ z_G := z_g 686 (by decide +kernel) (by decide +kernel)
theorem gwp15 : Cond.selects "RightsCounter" ⟨"RightsCounter", "unitsOf", "(I)I"⟩ ⟨"RightsCounter", "unitsOf", "(I)I"⟩ ∈ z_G := z_g 15 (by decide +kernel) (by decide +kernel)
theorem gw688 : Cond.methodLink "RightsCounter" 190 ⟨"java/lang/Math", "max", "(II)I"⟩ ∈ z_G := z_g 688 (by decide +kernel) (by decide +kernel)
theorem gw623 : Cond.methodLink "RightsCounter" 195 ⟨"RightsCounter", "giversFor", "(III)I"⟩ ∈ z_G := z_g 623 (by decide +kernel) (by decide +kernel)
theorem gw625 : Cond.instanceMethod ⟨"RightsCounter", "giversFor", "(III)I"⟩ ∈ z_G := z_g 625 (by decide +kernel) (by decide +kernel)
theorem gwp11 : Cond.selects "RightsCounter" ⟨"RightsCounter", "giversFor", "(III)I"⟩ ⟨"RightsCounter", "giversFor", "(III)I"⟩ ∈ z_G := z_g 11 (by decide +kernel) (by decide +kernel)
theorem gw703 : Cond.methodLink "RightsCounter" 199 ⟨"RightsCounter$Needs", "demandOfProduct", "(I)I"⟩ ∈ z_G := z_g 703 (by decide +kernel) (by decide +kernel)
theorem gw704 : Cond.instanceMethod ⟨"RightsCounter$Needs", "demandOfProduct", "(I)I"⟩ ∈ z_G := z_g 704 (by decide +kernel) (by decide +kernel)
theorem gw705 : Cond.selects "RightsCounter$Needs" ⟨"RightsCounter$Needs", "demandOfProduct", "(I)I"⟩ ⟨"RightsCounter$Needs", "demandOfProduct", "(I)I"⟩ ∈ z_G := z_g 705 (by decide +kernel) (by decide +kernel)
theorem gw201 : Cond.classLink "RightsCounter" 202 "java/lang/IllegalArgumentException" ∈ z_G := z_g 201 (by decide +kernel) (by decide +kernel)
theorem gw42 : Cond.initialized "java/lang/IllegalArgumentException" ∈ z_G := z_g 42 (by decide +kernel) (by decide +kernel)
theorem gw379 : Cond.classLink "RightsCounter" 207 "java/lang/IndexOutOfBoundsException" ∈ z_G := z_g 379 (by decide +kernel) (by decide +kernel)
theorem gw48 : Cond.initialized "java/lang/IndexOutOfBoundsException" ∈ z_G := z_g 48 (by decide +kernel) (by decide +kernel)
theorem gw395 : Cond.methodLink "RightsCounter" 216 ⟨"java/util/ArrayList", "get", "(I)Ljava/lang/Object;"⟩ ∈ z_G := z_g 395 (by decide +kernel) (by decide +kernel)
theorem gw396 : Cond.instanceMethod ⟨"java/util/ArrayList", "get", "(I)Ljava/lang/Object;"⟩ ∈ z_G := z_g 396 (by decide +kernel) (by decide +kernel)
theorem gw397 : Cond.selects "java/util/ArrayList" ⟨"java/util/ArrayList", "get", "(I)Ljava/lang/Object;"⟩ ⟨"java/util/ArrayList", "get", "(I)Ljava/lang/Object;"⟩ ∈ z_G := z_g 397 (by decide +kernel) (by decide +kernel)
theorem gw460 : Cond.fieldLink "RightsCounter" 222 "RightsCounter$Machine" "histories" "[LRightsCounter$History;" ∈ z_G := z_g 460 (by decide +kernel) (by decide +kernel)
theorem gw572 : Cond.methodLink "RightsCounter" 226 ⟨"RightsCounter$Needs", "clear", "()V"⟩ ∈ z_G := z_g 572 (by decide +kernel) (by decide +kernel)
theorem gw573 : Cond.instanceMethod ⟨"RightsCounter$Needs", "clear", "()V"⟩ ∈ z_G := z_g 573 (by decide +kernel) (by decide +kernel)
theorem gw574 : Cond.selects "RightsCounter$Needs" ⟨"RightsCounter$Needs", "clear", "()V"⟩ ⟨"RightsCounter$Needs", "clear", "()V"⟩ ∈ z_G := z_g 574 (by decide +kernel) (by decide +kernel)
theorem gw577 : Cond.methodLink "RightsCounter" 229 ⟨"RightsCounter$Needs", "raise", "(III)V"⟩ ∈ z_G := z_g 577 (by decide +kernel) (by decide +kernel)
theorem gw578 : Cond.instanceMethod ⟨"RightsCounter$Needs", "raise", "(III)V"⟩ ∈ z_G := z_g 578 (by decide +kernel) (by decide +kernel)
theorem gw579 : Cond.selects "RightsCounter$Needs" ⟨"RightsCounter$Needs", "raise", "(III)V"⟩ ⟨"RightsCounter$Needs", "raise", "(III)V"⟩ ∈ z_G := z_g 579 (by decide +kernel) (by decide +kernel)
theorem gw582 : Cond.methodLink "RightsCounter" 232 ⟨"RightsCounter", "unitsForCores", "(II)I"⟩ ∈ z_G := z_g 582 (by decide +kernel) (by decide +kernel)
theorem gw583 : Cond.static ⟨"RightsCounter", "unitsForCores", "(II)I"⟩ ∈ z_G := z_g 583 (by decide +kernel) (by decide +kernel)
theorem gw585 : Cond.methodLink "RightsCounter" 235 ⟨"RightsCounter$Needs", "addIfRaised", "(III)V"⟩ ∈ z_G := z_g 585 (by decide +kernel) (by decide +kernel)
theorem gw586 : Cond.instanceMethod ⟨"RightsCounter$Needs", "addIfRaised", "(III)V"⟩ ∈ z_G := z_g 586 (by decide +kernel) (by decide +kernel)
theorem gw587 : Cond.selects "RightsCounter$Needs" ⟨"RightsCounter$Needs", "addIfRaised", "(III)V"⟩ ⟨"RightsCounter$Needs", "addIfRaised", "(III)V"⟩ ∈ z_G := z_g 587 (by decide +kernel) (by decide +kernel)
theorem gw627 : Cond.methodLink "RightsCounter" 238 ⟨"RightsCounter$Right", "canGive", "(III)Z"⟩ ∈ z_G := z_g 627 (by decide +kernel) (by decide +kernel)
theorem gw628 : Cond.instanceMethod ⟨"RightsCounter$Right", "canGive", "(III)Z"⟩ ∈ z_G := z_g 628 (by decide +kernel) (by decide +kernel)
theorem gw629 : Cond.selects "RightsCounter$Right" ⟨"RightsCounter$Right", "canGive", "(III)Z"⟩ ⟨"RightsCounter$Right", "canGive", "(III)Z"⟩ ∈ z_G := z_g 629 (by decide +kernel) (by decide +kernel)
theorem gw631 : Cond.methodLink "RightsCounter" 242 ⟨"RightsCounter$Giving", "start", "()V"⟩ ∈ z_G := z_g 631 (by decide +kernel) (by decide +kernel)
theorem gw632 : Cond.instanceMethod ⟨"RightsCounter$Giving", "start", "()V"⟩ ∈ z_G := z_g 632 (by decide +kernel) (by decide +kernel)
theorem gw633 : Cond.selects "RightsCounter$Giving" ⟨"RightsCounter$Giving", "start", "()V"⟩ ⟨"RightsCounter$Giving", "start", "()V"⟩ ∈ z_G := z_g 633 (by decide +kernel) (by decide +kernel)
theorem gw635 : Cond.methodLink "RightsCounter" 245 ⟨"RightsCounter$Giving", "putUnits", "(II)V"⟩ ∈ z_G := z_g 635 (by decide +kernel) (by decide +kernel)
theorem gw636 : Cond.instanceMethod ⟨"RightsCounter$Giving", "putUnits", "(II)V"⟩ ∈ z_G := z_g 636 (by decide +kernel) (by decide +kernel)
theorem gw637 : Cond.selects "RightsCounter$Giving" ⟨"RightsCounter$Giving", "putUnits", "(II)V"⟩ ⟨"RightsCounter$Giving", "putUnits", "(II)V"⟩ ∈ z_G := z_g 637 (by decide +kernel) (by decide +kernel)
theorem gw712 : Cond.methodLink "RightsCounterModel" 1 ⟨"java/lang/Object", "<init>", "()V"⟩ ∈ z_G := z_g 712 (by decide +kernel) (by decide +kernel)
theorem gw715 : Cond.fieldLink "RightsCounterModel" 7 "RightsCounterModel" "products" "[I" ∈ z_G := z_g 715 (by decide +kernel) (by decide +kernel)
theorem gw716 : Cond.fieldLink "RightsCounterModel" 13 "RightsCounterModel" "version" "[I" ∈ z_G := z_g 716 (by decide +kernel) (by decide +kernel)
theorem gw717 : Cond.fieldLink "RightsCounterModel" 16 "RightsCounterModel" "units" "[I" ∈ z_G := z_g 717 (by decide +kernel) (by decide +kernel)
theorem gw718 : Cond.fieldLink "RightsCounterModel" 19 "RightsCounterModel" "first" "[I" ∈ z_G := z_g 718 (by decide +kernel) (by decide +kernel)
theorem gw719 : Cond.fieldLink "RightsCounterModel" 22 "RightsCounterModel" "last" "[I" ∈ z_G := z_g 719 (by decide +kernel) (by decide +kernel)
theorem gw721 : Cond.fieldLink "RightsCounterModel" 25 "RightsCounterModel" "cores" "[I" ∈ z_G := z_g 721 (by decide +kernel) (by decide +kernel)
theorem gw722 : Cond.fieldLink "RightsCounterModel" 28 "RightsCounterModel" "host" "[I" ∈ z_G := z_g 722 (by decide +kernel) (by decide +kernel)
theorem gw783 : Cond.arrayClass FieldType.boolean ∈ z_G := z_g 783 (by decide +kernel) (by decide +kernel)
theorem gw723 : Cond.fieldLink "RightsCounterModel" 31 "RightsCounterModel" "isApart" "[Z" ∈ z_G := z_g 723 (by decide +kernel) (by decide +kernel)
theorem gw724 : Cond.fieldLink "RightsCounterModel" 35 "RightsCounterModel" "coresOfUnit" "[I" ∈ z_G := z_g 724 (by decide +kernel) (by decide +kernel)
theorem gw725 : Cond.fieldLink "RightsCounterModel" 38 "RightsCounterModel" "told" "[I" ∈ z_G := z_g 725 (by decide +kernel) (by decide +kernel)
theorem gw726 : Cond.fieldLink "RightsCounterModel" 41 "RightsCounterModel" "installs" "[I" ∈ z_G := z_g 726 (by decide +kernel) (by decide +kernel)
theorem gw727 : Cond.fieldLink "RightsCounterModel" 44 "RightsCounterModel" "day" "[I" ∈ z_G := z_g 727 (by decide +kernel) (by decide +kernel)
theorem gw728 : Cond.fieldLink "RightsCounterModel" 47 "RightsCounterModel" "with" "[I" ∈ z_G := z_g 728 (by decide +kernel) (by decide +kernel)
theorem gw730 : Cond.fieldLink "RightsCounterModel" 50 "RightsCounterModel" "machine" "[I" ∈ z_G := z_g 730 (by decide +kernel) (by decide +kernel)
theorem gw731 : Cond.fieldLink "RightsCounterModel" 53 "RightsCounterModel" "product" "[I" ∈ z_G := z_g 731 (by decide +kernel) (by decide +kernel)
theorem gw732 : Cond.fieldLink "RightsCounterModel" 56 "RightsCounterModel" "greatest" "[I" ∈ z_G := z_g 732 (by decide +kernel) (by decide +kernel)
theorem gw733 : Cond.fieldLink "RightsCounterModel" 59 "RightsCounterModel" "demand" "[I" ∈ z_G := z_g 733 (by decide +kernel) (by decide +kernel)
theorem gw734 : Cond.fieldLink "RightsCounterModel" 62 "RightsCounterModel" "gets" "[I" ∈ z_G := z_g 734 (by decide +kernel) (by decide +kernel)
theorem gw735 : Cond.fieldLink "RightsCounterModel" 65 "RightsCounterModel" "cut" "[I" ∈ z_G := z_g 735 (by decide +kernel) (by decide +kernel)
theorem gw713 : Cond.fieldLink "RightsCounterModel" 68 "RightsCounterModel" "thrown" "I" ∈ z_G := z_g 713 (by decide +kernel) (by decide +kernel)
theorem gw792 : Cond.methodLink "RightsCounterModel" 72 ⟨"RightsCounterModel", "in", "(III)Z"⟩ ∈ z_G := z_g 792 (by decide +kernel) (by decide +kernel)
theorem gw38 : Cond.initialized "RightsCounterModel" ∈ z_G := z_g 38 (by decide +kernel) (by decide +kernel)
theorem gw793 : Cond.static ⟨"RightsCounterModel", "in", "(III)Z"⟩ ∈ z_G := z_g 793 (by decide +kernel) (by decide +kernel)
theorem gw720 : Cond.fieldLink "RightsCounterModel" 76 "RightsCounterModel" "machines" "I" ∈ z_G := z_g 720 (by decide +kernel) (by decide +kernel)
theorem gw714 : Cond.fieldLink "RightsCounterModel" 79 "RightsCounterModel" "rights" "I" ∈ z_G := z_g 714 (by decide +kernel) (by decide +kernel)
theorem gw799 : Cond.methodLink "RightsCounterModel" 82 ⟨"RightsCounterModel", "isRight", "(I)Z"⟩ ∈ z_G := z_g 799 (by decide +kernel) (by decide +kernel)
theorem gw801 : Cond.instanceMethod ⟨"RightsCounterModel", "isRight", "(I)Z"⟩ ∈ z_G := z_g 801 (by decide +kernel) (by decide +kernel)
theorem gwp16 : Cond.selects "RightsCounterModel" ⟨"RightsCounterModel", "isRight", "(I)Z"⟩ ⟨"RightsCounterModel", "isRight", "(I)Z"⟩ ∈ z_G := z_g 16 (by decide +kernel) (by decide +kernel)
theorem gw815 : Cond.methodLink "RightsCounterModel" 86 ⟨"RightsCounterModel", "isMachine", "(I)Z"⟩ ∈ z_G := z_g 815 (by decide +kernel) (by decide +kernel)
theorem gw817 : Cond.instanceMethod ⟨"RightsCounterModel", "isMachine", "(I)Z"⟩ ∈ z_G := z_g 817 (by decide +kernel) (by decide +kernel)
theorem gwp17 : Cond.selects "RightsCounterModel" ⟨"RightsCounterModel", "isMachine", "(I)Z"⟩ ⟨"RightsCounterModel", "isMachine", "(I)Z"⟩ ∈ z_G := z_g 17 (by decide +kernel) (by decide +kernel)
theorem gw827 : Cond.methodLink "RightsCounterModel" 89 ⟨"RightsCounterModel", "countsBy", "(I)I"⟩ ∈ z_G := z_g 827 (by decide +kernel) (by decide +kernel)
theorem gw829 : Cond.instanceMethod ⟨"RightsCounterModel", "countsBy", "(I)I"⟩ ∈ z_G := z_g 829 (by decide +kernel) (by decide +kernel)
theorem gwp18 : Cond.selects "RightsCounterModel" ⟨"RightsCounterModel", "countsBy", "(I)I"⟩ ⟨"RightsCounterModel", "countsBy", "(I)I"⟩ ∈ z_G := z_g 18 (by decide +kernel) (by decide +kernel)
theorem gw835 : Cond.methodLink "RightsCounterModel" 93 ⟨"RightsCounterModel", "isProduct", "(I)Z"⟩ ∈ z_G := z_g 835 (by decide +kernel) (by decide +kernel)
theorem gw836 : Cond.static ⟨"RightsCounterModel", "isProduct", "(I)Z"⟩ ∈ z_G := z_g 836 (by decide +kernel) (by decide +kernel)
theorem gw846 : Cond.methodLink "RightsCounterModel" 96 ⟨"RightsCounterModel", "isDay", "(I)Z"⟩ ∈ z_G := z_g 846 (by decide +kernel) (by decide +kernel)
theorem gw847 : Cond.static ⟨"RightsCounterModel", "isDay", "(I)Z"⟩ ∈ z_G := z_g 847 (by decide +kernel) (by decide +kernel)
theorem gw849 : Cond.methodLink "RightsCounterModel" 99 ⟨"RightsCounterModel", "pairOf", "(II)I"⟩ ∈ z_G := z_g 849 (by decide +kernel) (by decide +kernel)
theorem gw850 : Cond.static ⟨"RightsCounterModel", "pairOf", "(II)I"⟩ ∈ z_G := z_g 850 (by decide +kernel) (by decide +kernel)
theorem gw852 : Cond.methodLink "RightsCounterModel" 103 ⟨"RightsCounterModel", "latest", "(I)I"⟩ ∈ z_G := z_g 852 (by decide +kernel) (by decide +kernel)
theorem gw854 : Cond.instanceMethod ⟨"RightsCounterModel", "latest", "(I)I"⟩ ∈ z_G := z_g 854 (by decide +kernel) (by decide +kernel)
theorem gwp19 : Cond.selects "RightsCounterModel" ⟨"RightsCounterModel", "latest", "(I)I"⟩ ⟨"RightsCounterModel", "latest", "(I)I"⟩ ∈ z_G := z_g 19 (by decide +kernel) (by decide +kernel)
theorem gw856 : Cond.methodLink "RightsCounterModel" 106 ⟨"RightsCounterModel", "tells", "(III)V"⟩ ∈ z_G := z_g 856 (by decide +kernel) (by decide +kernel)
theorem gw858 : Cond.instanceMethod ⟨"RightsCounterModel", "tells", "(III)V"⟩ ∈ z_G := z_g 858 (by decide +kernel) (by decide +kernel)
theorem gwp20 : Cond.selects "RightsCounterModel" ⟨"RightsCounterModel", "tells", "(III)V"⟩ ⟨"RightsCounterModel", "tells", "(III)V"⟩ ∈ z_G := z_g 20 (by decide +kernel) (by decide +kernel)
theorem gw868 : Cond.methodLink "RightsCounterModel" 110 ⟨"RightsCounterModel", "versionOn", "(II)I"⟩ ∈ z_G := z_g 868 (by decide +kernel) (by decide +kernel)
theorem gw870 : Cond.instanceMethod ⟨"RightsCounterModel", "versionOn", "(II)I"⟩ ∈ z_G := z_g 870 (by decide +kernel) (by decide +kernel)
theorem gwp21 : Cond.selects "RightsCounterModel" ⟨"RightsCounterModel", "versionOn", "(II)I"⟩ ⟨"RightsCounterModel", "versionOn", "(II)I"⟩ ∈ z_G := z_g 21 (by decide +kernel) (by decide +kernel)
theorem gw729 : Cond.fieldLink "RightsCounterModel" 113 "RightsCounterModel" "needs" "I" ∈ z_G := z_g 729 (by decide +kernel) (by decide +kernel)
theorem gw912 : Cond.methodLink "RightsCounterModel" 116 ⟨"RightsCounterModel", "leastCut", "()I"⟩ ∈ z_G := z_g 912 (by decide +kernel) (by decide +kernel)
theorem gw914 : Cond.instanceMethod ⟨"RightsCounterModel", "leastCut", "()I"⟩ ∈ z_G := z_g 914 (by decide +kernel) (by decide +kernel)
theorem gwp28 : Cond.selects "RightsCounterModel" ⟨"RightsCounterModel", "leastCut", "()I"⟩ ⟨"RightsCounterModel", "leastCut", "()I"⟩ ∈ z_G := z_g 28 (by decide +kernel) (by decide +kernel)
theorem gw876 : Cond.methodLink "RightsCounterModel" 120 ⟨"RightsCounterModel", "laysNeeds", "(I)V"⟩ ∈ z_G := z_g 876 (by decide +kernel) (by decide +kernel)
theorem gw878 : Cond.instanceMethod ⟨"RightsCounterModel", "laysNeeds", "(I)V"⟩ ∈ z_G := z_g 878 (by decide +kernel) (by decide +kernel)
theorem gwp22 : Cond.selects "RightsCounterModel" ⟨"RightsCounterModel", "laysNeeds", "(I)V"⟩ ⟨"RightsCounterModel", "laysNeeds", "(I)V"⟩ ∈ z_G := z_g 22 (by decide +kernel) (by decide +kernel)
theorem gw900 : Cond.methodLink "RightsCounterModel" 124 ⟨"RightsCounterModel", "beginsCut", "()V"⟩ ∈ z_G := z_g 900 (by decide +kernel) (by decide +kernel)
theorem gw902 : Cond.instanceMethod ⟨"RightsCounterModel", "beginsCut", "()V"⟩ ∈ z_G := z_g 902 (by decide +kernel) (by decide +kernel)
theorem gwp25 : Cond.selects "RightsCounterModel" ⟨"RightsCounterModel", "beginsCut", "()V"⟩ ⟨"RightsCounterModel", "beginsCut", "()V"⟩ ∈ z_G := z_g 25 (by decide +kernel) (by decide +kernel)
theorem gw904 : Cond.methodLink "RightsCounterModel" 127 ⟨"RightsCounterModel", "rightsFor", "(III)I"⟩ ∈ z_G := z_g 904 (by decide +kernel) (by decide +kernel)
theorem gw906 : Cond.instanceMethod ⟨"RightsCounterModel", "rightsFor", "(III)I"⟩ ∈ z_G := z_g 906 (by decide +kernel) (by decide +kernel)
theorem gwp26 : Cond.selects "RightsCounterModel" ⟨"RightsCounterModel", "rightsFor", "(III)I"⟩ ⟨"RightsCounterModel", "rightsFor", "(III)I"⟩ ∈ z_G := z_g 26 (by decide +kernel) (by decide +kernel)
theorem gw908 : Cond.methodLink "RightsCounterModel" 131 ⟨"RightsCounterModel", "serves", "(II)I"⟩ ∈ z_G := z_g 908 (by decide +kernel) (by decide +kernel)
theorem gw910 : Cond.instanceMethod ⟨"RightsCounterModel", "serves", "(II)I"⟩ ∈ z_G := z_g 910 (by decide +kernel) (by decide +kernel)
theorem gwp27 : Cond.selects "RightsCounterModel" ⟨"RightsCounterModel", "serves", "(II)I"⟩ ⟨"RightsCounterModel", "serves", "(II)I"⟩ ∈ z_G := z_g 27 (by decide +kernel) (by decide +kernel)
theorem gw884 : Cond.methodLink "RightsCounterModel" 134 ⟨"RightsCounterModel", "asks", "(II)Z"⟩ ∈ z_G := z_g 884 (by decide +kernel) (by decide +kernel)
theorem gw886 : Cond.instanceMethod ⟨"RightsCounterModel", "asks", "(II)Z"⟩ ∈ z_G := z_g 886 (by decide +kernel) (by decide +kernel)
theorem gwp23 : Cond.selects "RightsCounterModel" ⟨"RightsCounterModel", "asks", "(II)Z"⟩ ⟨"RightsCounterModel", "asks", "(II)Z"⟩ ∈ z_G := z_g 23 (by decide +kernel) (by decide +kernel)
theorem gw896 : Cond.methodLink "RightsCounterModel" 138 ⟨"RightsCounterModel", "laysGets", "(I)I"⟩ ∈ z_G := z_g 896 (by decide +kernel) (by decide +kernel)
theorem gw898 : Cond.instanceMethod ⟨"RightsCounterModel", "laysGets", "(I)I"⟩ ∈ z_G := z_g 898 (by decide +kernel) (by decide +kernel)
theorem gwp24 : Cond.selects "RightsCounterModel" ⟨"RightsCounterModel", "laysGets", "(I)I"⟩ ⟨"RightsCounterModel", "laysGets", "(I)I"⟩ ∈ z_G := z_g 24 (by decide +kernel) (by decide +kernel)
theorem gw920 : Cond.methodLink "RightsCounterModel" 141 ⟨"RightsCounterModel", "lacks", "(I)I"⟩ ∈ z_G := z_g 920 (by decide +kernel) (by decide +kernel)
theorem gw922 : Cond.instanceMethod ⟨"RightsCounterModel", "lacks", "(I)I"⟩ ∈ z_G := z_g 922 (by decide +kernel) (by decide +kernel)
theorem gwp29 : Cond.selects "RightsCounterModel" ⟨"RightsCounterModel", "lacks", "(I)I"⟩ ⟨"RightsCounterModel", "lacks", "(I)I"⟩ ∈ z_G := z_g 29 (by decide +kernel) (by decide +kernel)
theorem gw72 : Cond.methodLink "java/util/AbstractCollection" 1 ⟨"java/lang/Object", "<init>", "()V"⟩ ∈ z_G := z_g 72 (by decide +kernel) (by decide +kernel)
theorem gw70 : Cond.instanceMethod ⟨"java/util/AbstractCollection", "<init>", "()V"⟩ ∈ z_G := z_g 70 (by decide +kernel) (by decide +kernel)
theorem gw69 : Cond.methodLink "java/util/AbstractList" 1 ⟨"java/util/AbstractCollection", "<init>", "()V"⟩ ∈ z_G := z_g 69 (by decide +kernel) (by decide +kernel)
theorem gw32 : Cond.initialized "java/util/AbstractCollection" ∈ z_G := z_g 32 (by decide +kernel) (by decide +kernel)
theorem gw77 : Cond.fieldLink "java/util/AbstractList" 7 "java/util/AbstractList" "modCount" "I" ∈ z_G := z_g 77 (by decide +kernel) (by decide +kernel)
theorem gw67 : Cond.instanceMethod ⟨"java/util/AbstractList", "<init>", "()V"⟩ ∈ z_G := z_g 67 (by decide +kernel) (by decide +kernel)
theorem gw66 : Cond.methodLink "java/util/ArrayList" 1 ⟨"java/util/AbstractList", "<init>", "()V"⟩ ∈ z_G := z_g 66 (by decide +kernel) (by decide +kernel)
theorem gw33 : Cond.initialized "java/util/AbstractList" ∈ z_G := z_g 33 (by decide +kernel) (by decide +kernel)
theorem gw73 : Cond.fieldLink "java/util/ArrayList" 39 "java/util/ArrayList" "DEFAULTCAPACITY_EMPTY_ELEMENTDATA" "[Ljava/lang/Object;" ∈ z_G := z_g 73 (by decide +kernel) (by decide +kernel)
theorem gw75 : Cond.fieldLink "java/util/ArrayList" 9 "java/util/ArrayList" "elementData" "[Ljava/lang/Object;" ∈ z_G := z_g 75 (by decide +kernel) (by decide +kernel)
theorem gw365 : Cond.methodLink "java/util/ArrayList" 79 ⟨"java/lang/Math", "max", "(II)I"⟩ ∈ z_G := z_g 365 (by decide +kernel) (by decide +kernel)
theorem gw366 : Cond.classLink "java/util/ArrayList" 7 "java/lang/Object" ∈ z_G := z_g 366 (by decide +kernel) (by decide +kernel)
theorem gw76 : Cond.fieldLink "java/util/ArrayList" 48 "java/util/ArrayList" "size" "I" ∈ z_G := z_g 76 (by decide +kernel) (by decide +kernel)
theorem gw321 : Cond.methodLink "java/util/ArrayList" 69 ⟨"java/util/ArrayList", "grow", "(I)[Ljava/lang/Object;"⟩ ∈ z_G := z_g 321 (by decide +kernel) (by decide +kernel)
theorem gw323 : Cond.instanceMethod ⟨"java/util/ArrayList", "grow", "(I)[Ljava/lang/Object;"⟩ ∈ z_G := z_g 323 (by decide +kernel) (by decide +kernel)
theorem gwp3 : Cond.selects "java/util/ArrayList" ⟨"java/util/ArrayList", "grow", "(I)[Ljava/lang/Object;"⟩ ⟨"java/util/ArrayList", "grow", "(I)[Ljava/lang/Object;"⟩ ∈ z_G := z_g 3 (by decide +kernel) (by decide +kernel)
theorem gw399 : Cond.methodLink "java/util/ArrayList" 118 ⟨"java/util/Objects", "checkIndex", "(II)I"⟩ ∈ z_G := z_g 399 (by decide +kernel) (by decide +kernel)
theorem gw49 : Cond.initialized "java/util/Objects" ∈ z_G := z_g 49 (by decide +kernel) (by decide +kernel)
theorem gw400 : Cond.static ⟨"java/util/Objects", "checkIndex", "(II)I"⟩ ∈ z_G := z_g 400 (by decide +kernel) (by decide +kernel)
theorem gw405 : Cond.methodLink "java/util/ArrayList" 123 ⟨"java/util/ArrayList", "elementData", "(I)Ljava/lang/Object;"⟩ ∈ z_G := z_g 405 (by decide +kernel) (by decide +kernel)
theorem gw406 : Cond.instanceMethod ⟨"java/util/ArrayList", "elementData", "(I)Ljava/lang/Object;"⟩ ∈ z_G := z_g 406 (by decide +kernel) (by decide +kernel)
theorem gw407 : Cond.selects "java/util/ArrayList" ⟨"java/util/ArrayList", "elementData", "(I)Ljava/lang/Object;"⟩ ⟨"java/util/ArrayList", "elementData", "(I)Ljava/lang/Object;"⟩ ∈ z_G := z_g 407 (by decide +kernel) (by decide +kernel)
theorem gw317 : Cond.methodLink "java/util/ArrayList" 129 ⟨"java/util/ArrayList", "grow", "()[Ljava/lang/Object;"⟩ ∈ z_G := z_g 317 (by decide +kernel) (by decide +kernel)
theorem gw319 : Cond.instanceMethod ⟨"java/util/ArrayList", "grow", "()[Ljava/lang/Object;"⟩ ∈ z_G := z_g 319 (by decide +kernel) (by decide +kernel)
theorem gwp2 : Cond.selects "java/util/ArrayList" ⟨"java/util/ArrayList", "grow", "()[Ljava/lang/Object;"⟩ ⟨"java/util/ArrayList", "grow", "()[Ljava/lang/Object;"⟩ ∈ z_G := z_g 2 (by decide +kernel) (by decide +kernel)
theorem gw78 : Cond.fieldLink "java/util/ArrayList" 63 "java/util/ArrayList" "modCount" "I" ∈ z_G := z_g 78 (by decide +kernel) (by decide +kernel)
theorem gw79 : Cond.sameField "java/util/ArrayList" "java/util/AbstractList" "modCount" "I" ∈ z_G := z_g 79 (by decide +kernel) (by decide +kernel)
theorem gw313 : Cond.methodLink "java/util/ArrayList" 131 ⟨"java/util/ArrayList", "add", "(Ljava/lang/Object;[Ljava/lang/Object;I)V"⟩ ∈ z_G := z_g 313 (by decide +kernel) (by decide +kernel)
theorem gw315 : Cond.instanceMethod ⟨"java/util/ArrayList", "add", "(Ljava/lang/Object;[Ljava/lang/Object;I)V"⟩ ∈ z_G := z_g 315 (by decide +kernel) (by decide +kernel)
theorem gwp1 : Cond.selects "java/util/ArrayList" ⟨"java/util/ArrayList", "add", "(Ljava/lang/Object;[Ljava/lang/Object;I)V"⟩ ⟨"java/util/ArrayList", "add", "(Ljava/lang/Object;[Ljava/lang/Object;I)V"⟩ ∈ z_G := z_g 1 (by decide +kernel) (by decide +kernel)
theorem gw402 : Cond.methodLink "java/util/Objects" 105 ⟨"jdk/internal/util/Preconditions", "checkIndex", "(IILjava/util/function/BiFunction;)I"⟩ ∈ z_G := z_g 402 (by decide +kernel) (by decide +kernel)
theorem gw50 : Cond.initialized "jdk/internal/util/Preconditions" ∈ z_G := z_g 50 (by decide +kernel) (by decide +kernel)
theorem gw403 : Cond.static ⟨"jdk/internal/util/Preconditions", "checkIndex", "(IILjava/util/function/BiFunction;)I"⟩ ∈ z_G := z_g 403 (by decide +kernel) (by decide +kernel)
theorem gw194 : Cond.methodLink "RightsCounterLaw" 7 ⟨"RightsCounter", "addRight", "(IIIII)I"⟩ ∈ z_G := z_g 194 (by decide +kernel) (by decide +kernel)
theorem gw195 : Cond.instanceMethod ⟨"RightsCounter", "addRight", "(IIIII)I"⟩ ∈ z_G := z_g 195 (by decide +kernel) (by decide +kernel)
theorem gw196 : Cond.selects "RightsCounter" ⟨"RightsCounter", "addRight", "(IIIII)I"⟩ ⟨"RightsCounter", "addRight", "(IIIII)I"⟩ ∈ z_G := z_g 196 (by decide +kernel) (by decide +kernel)
theorem gw371 : Cond.methodLink "RightsCounterLaw" 17 ⟨"RightsCounter", "upgrade", "(II)I"⟩ ∈ z_G := z_g 371 (by decide +kernel) (by decide +kernel)
theorem gw372 : Cond.instanceMethod ⟨"RightsCounter", "upgrade", "(II)I"⟩ ∈ z_G := z_g 372 (by decide +kernel) (by decide +kernel)
theorem gw373 : Cond.selects "RightsCounter" ⟨"RightsCounter", "upgrade", "(II)I"⟩ ⟨"RightsCounter", "upgrade", "(II)I"⟩ ∈ z_G := z_g 373 (by decide +kernel) (by decide +kernel)
theorem gw413 : Cond.methodLink "RightsCounterLaw" 23 ⟨"RightsCounter", "setUnits", "(II)I"⟩ ∈ z_G := z_g 413 (by decide +kernel) (by decide +kernel)
theorem gw414 : Cond.instanceMethod ⟨"RightsCounter", "setUnits", "(II)I"⟩ ∈ z_G := z_g 414 (by decide +kernel) (by decide +kernel)
theorem gw415 : Cond.selects "RightsCounter" ⟨"RightsCounter", "setUnits", "(II)I"⟩ ⟨"RightsCounter", "setUnits", "(II)I"⟩ ∈ z_G := z_g 415 (by decide +kernel) (by decide +kernel)
theorem gw420 : Cond.methodLink "RightsCounterLaw" 26 ⟨"RightsCounter", "addMachine", "(II)I"⟩ ∈ z_G := z_g 420 (by decide +kernel) (by decide +kernel)
theorem gw421 : Cond.instanceMethod ⟨"RightsCounter", "addMachine", "(II)I"⟩ ∈ z_G := z_g 421 (by decide +kernel) (by decide +kernel)
theorem gw422 : Cond.selects "RightsCounter" ⟨"RightsCounter", "addMachine", "(II)I"⟩ ⟨"RightsCounter", "addMachine", "(II)I"⟩ ∈ z_G := z_g 422 (by decide +kernel) (by decide +kernel)
theorem gw479 : Cond.methodLink "RightsCounterLaw" 29 ⟨"RightsCounter", "setCores", "(II)I"⟩ ∈ z_G := z_g 479 (by decide +kernel) (by decide +kernel)
theorem gw480 : Cond.instanceMethod ⟨"RightsCounter", "setCores", "(II)I"⟩ ∈ z_G := z_g 480 (by decide +kernel) (by decide +kernel)
theorem gw481 : Cond.selects "RightsCounter" ⟨"RightsCounter", "setCores", "(II)I"⟩ ⟨"RightsCounter", "setCores", "(II)I"⟩ ∈ z_G := z_g 481 (by decide +kernel) (by decide +kernel)
theorem gw486 : Cond.methodLink "RightsCounterLaw" 32 ⟨"RightsCounter", "tellApart", "(IZ)I"⟩ ∈ z_G := z_g 486 (by decide +kernel) (by decide +kernel)
theorem gw487 : Cond.instanceMethod ⟨"RightsCounter", "tellApart", "(IZ)I"⟩ ∈ z_G := z_g 487 (by decide +kernel) (by decide +kernel)
theorem gw488 : Cond.selects "RightsCounter" ⟨"RightsCounter", "tellApart", "(IZ)I"⟩ ⟨"RightsCounter", "tellApart", "(IZ)I"⟩ ∈ z_G := z_g 488 (by decide +kernel) (by decide +kernel)
theorem gw497 : Cond.methodLink "RightsCounterLaw" 36 ⟨"RightsCounter", "setCoresOfUnit", "(II)I"⟩ ∈ z_G := z_g 497 (by decide +kernel) (by decide +kernel)
theorem gw498 : Cond.instanceMethod ⟨"RightsCounter", "setCoresOfUnit", "(II)I"⟩ ∈ z_G := z_g 498 (by decide +kernel) (by decide +kernel)
theorem gw499 : Cond.selects "RightsCounter" ⟨"RightsCounter", "setCoresOfUnit", "(II)I"⟩ ⟨"RightsCounter", "setCoresOfUnit", "(II)I"⟩ ∈ z_G := z_g 499 (by decide +kernel) (by decide +kernel)
theorem gw508 : Cond.methodLink "RightsCounterLaw" 39 ⟨"RightsCounter", "install", "(IIII)I"⟩ ∈ z_G := z_g 508 (by decide +kernel) (by decide +kernel)
theorem gw509 : Cond.instanceMethod ⟨"RightsCounter", "install", "(IIII)I"⟩ ∈ z_G := z_g 509 (by decide +kernel) (by decide +kernel)
theorem gw510 : Cond.selects "RightsCounter" ⟨"RightsCounter", "install", "(IIII)I"⟩ ⟨"RightsCounter", "install", "(IIII)I"⟩ ∈ z_G := z_g 510 (by decide +kernel) (by decide +kernel)
theorem gw540 : Cond.methodLink "RightsCounterLaw" 43 ⟨"RightsCounter", "uninstall", "(III)I"⟩ ∈ z_G := z_g 540 (by decide +kernel) (by decide +kernel)
theorem gw541 : Cond.instanceMethod ⟨"RightsCounter", "uninstall", "(III)I"⟩ ∈ z_G := z_g 541 (by decide +kernel) (by decide +kernel)
theorem gw542 : Cond.selects "RightsCounter" ⟨"RightsCounter", "uninstall", "(III)I"⟩ ⟨"RightsCounter", "uninstall", "(III)I"⟩ ∈ z_G := z_g 542 (by decide +kernel) (by decide +kernel)
theorem gw553 : Cond.methodLink "RightsCounterLaw" 47 ⟨"RightsCounter", "runs", "(III)I"⟩ ∈ z_G := z_g 553 (by decide +kernel) (by decide +kernel)
theorem gw554 : Cond.instanceMethod ⟨"RightsCounter", "runs", "(III)I"⟩ ∈ z_G := z_g 554 (by decide +kernel) (by decide +kernel)
theorem gw555 : Cond.selects "RightsCounter" ⟨"RightsCounter", "runs", "(III)I"⟩ ⟨"RightsCounter", "runs", "(III)I"⟩ ∈ z_G := z_g 555 (by decide +kernel) (by decide +kernel)
theorem gw564 : Cond.methodLink "RightsCounterLaw" 50 ⟨"RightsCounter", "needs", "(I)I"⟩ ∈ z_G := z_g 564 (by decide +kernel) (by decide +kernel)
theorem gw565 : Cond.instanceMethod ⟨"RightsCounter", "needs", "(I)I"⟩ ∈ z_G := z_g 565 (by decide +kernel) (by decide +kernel)
theorem gw566 : Cond.selects "RightsCounter" ⟨"RightsCounter", "needs", "(I)I"⟩ ⟨"RightsCounter", "needs", "(I)I"⟩ ∈ z_G := z_g 566 (by decide +kernel) (by decide +kernel)
theorem gw592 : Cond.methodLink "RightsCounterLaw" 54 ⟨"RightsCounter", "need", "(II)I"⟩ ∈ z_G := z_g 592 (by decide +kernel) (by decide +kernel)
theorem gw593 : Cond.instanceMethod ⟨"RightsCounter", "need", "(II)I"⟩ ∈ z_G := z_g 593 (by decide +kernel) (by decide +kernel)
theorem gw594 : Cond.selects "RightsCounter" ⟨"RightsCounter", "need", "(II)I"⟩ ⟨"RightsCounter", "need", "(II)I"⟩ ∈ z_G := z_g 594 (by decide +kernel) (by decide +kernel)
theorem gw604 : Cond.methodLink "RightsCounterLaw" 57 ⟨"RightsCounter", "demand", "(II)I"⟩ ∈ z_G := z_g 604 (by decide +kernel) (by decide +kernel)
theorem gw605 : Cond.instanceMethod ⟨"RightsCounter", "demand", "(II)I"⟩ ∈ z_G := z_g 605 (by decide +kernel) (by decide +kernel)
theorem gw606 : Cond.selects "RightsCounter" ⟨"RightsCounter", "demand", "(II)I"⟩ ⟨"RightsCounter", "demand", "(II)I"⟩ ∈ z_G := z_g 606 (by decide +kernel) (by decide +kernel)
theorem gw611 : Cond.methodLink "RightsCounterLaw" 60 ⟨"RightsCounter", "gets", "(II)I"⟩ ∈ z_G := z_g 611 (by decide +kernel) (by decide +kernel)
theorem gw612 : Cond.instanceMethod ⟨"RightsCounter", "gets", "(II)I"⟩ ∈ z_G := z_g 612 (by decide +kernel) (by decide +kernel)
theorem gw613 : Cond.selects "RightsCounter" ⟨"RightsCounter", "gets", "(II)I"⟩ ⟨"RightsCounter", "gets", "(II)I"⟩ ∈ z_G := z_g 613 (by decide +kernel) (by decide +kernel)
theorem gw660 : Cond.methodLink "RightsCounterLaw" 63 ⟨"RightsCounter", "lack", "(I)I"⟩ ∈ z_G := z_g 660 (by decide +kernel) (by decide +kernel)
theorem gw661 : Cond.instanceMethod ⟨"RightsCounter", "lack", "(I)I"⟩ ∈ z_G := z_g 661 (by decide +kernel) (by decide +kernel)
theorem gw662 : Cond.selects "RightsCounter" ⟨"RightsCounter", "lack", "(I)I"⟩ ⟨"RightsCounter", "lack", "(I)I"⟩ ∈ z_G := z_g 662 (by decide +kernel) (by decide +kernel)
theorem gw671 : Cond.methodLink "RightsCounterLaw" 66 ⟨"RightsCounter", "lackBySets", "(I)I"⟩ ∈ z_G := z_g 671 (by decide +kernel) (by decide +kernel)
theorem gw672 : Cond.instanceMethod ⟨"RightsCounter", "lackBySets", "(I)I"⟩ ∈ z_G := z_g 672 (by decide +kernel) (by decide +kernel)
theorem gw673 : Cond.selects "RightsCounter" ⟨"RightsCounter", "lackBySets", "(I)I"⟩ ⟨"RightsCounter", "lackBySets", "(I)I"⟩ ∈ z_G := z_g 673 (by decide +kernel) (by decide +kernel)
theorem gw692 : Cond.methodLink "RightsCounterLaw" 69 ⟨"RightsCounter", "spare", "(III)I"⟩ ∈ z_G := z_g 692 (by decide +kernel) (by decide +kernel)
theorem gw693 : Cond.instanceMethod ⟨"RightsCounter", "spare", "(III)I"⟩ ∈ z_G := z_g 693 (by decide +kernel) (by decide +kernel)
theorem gw694 : Cond.selects "RightsCounter" ⟨"RightsCounter", "spare", "(III)I"⟩ ⟨"RightsCounter", "spare", "(III)I"⟩ ∈ z_G := z_g 694 (by decide +kernel) (by decide +kernel)
theorem gw699 : Cond.methodLink "RightsCounterLaw" 72 ⟨"RightsCounter", "most", "(II)I"⟩ ∈ z_G := z_g 699 (by decide +kernel) (by decide +kernel)
theorem gw700 : Cond.instanceMethod ⟨"RightsCounter", "most", "(II)I"⟩ ∈ z_G := z_g 700 (by decide +kernel) (by decide +kernel)
theorem gw701 : Cond.selects "RightsCounter" ⟨"RightsCounter", "most", "(II)I"⟩ ⟨"RightsCounter", "most", "(II)I"⟩ ∈ z_G := z_g 701 (by decide +kernel) (by decide +kernel)
theorem gw53 : Cond.classLink "RightsCounterLaw" 8 "RightsCounter" ∈ z_G := z_g 53 (by decide +kernel) (by decide +kernel)
theorem gw54 : Cond.instantiable "RightsCounter" 5 ∈ z_G := z_g 54 (by decide +kernel) (by decide +kernel)
theorem gw56 : Cond.instanceMethod ⟨"RightsCounter", "<init>", "()V"⟩ ∈ z_G := z_g 56 (by decide +kernel) (by decide +kernel)
theorem gw55 : Cond.methodLink "RightsCounterLaw" 75 ⟨"RightsCounter", "<init>", "()V"⟩ ∈ z_G := z_g 55 (by decide +kernel) (by decide +kernel)
theorem gw707 : Cond.classLink "RightsCounterLaw" 76 "RightsCounterModel" ∈ z_G := z_g 707 (by decide +kernel) (by decide +kernel)
theorem gw708 : Cond.instantiable "RightsCounterModel" 23 ∈ z_G := z_g 708 (by decide +kernel) (by decide +kernel)
theorem gw710 : Cond.instanceMethod ⟨"RightsCounterModel", "<init>", "()V"⟩ ∈ z_G := z_g 710 (by decide +kernel) (by decide +kernel)
theorem gw709 : Cond.methodLink "RightsCounterLaw" 78 ⟨"RightsCounterModel", "<init>", "()V"⟩ ∈ z_G := z_g 709 (by decide +kernel) (by decide +kernel)
theorem gw937 : Cond.arrayClass FieldType.long ∈ z_G := z_g 937 (by decide +kernel) (by decide +kernel)
theorem gw189 : Cond.methodLink "RightsCounterLaw" 79 ⟨"RightsCounterLaw", "addRight", "(LRightsCounter;IIIII[J)I"⟩ ∈ z_G := z_g 189 (by decide +kernel) (by decide +kernel)
theorem gw30 : Cond.initialized "RightsCounterLaw" ∈ z_G := z_g 30 (by decide +kernel) (by decide +kernel)
theorem gw190 : Cond.static ⟨"RightsCounterLaw", "addRight", "(LRightsCounter;IIIII[J)I"⟩ ∈ z_G := z_g 190 (by decide +kernel) (by decide +kernel)
theorem gw788 : Cond.methodLink "RightsCounterLaw" 84 ⟨"RightsCounterModel", "addRight", "(IIIII)I"⟩ ∈ z_G := z_g 788 (by decide +kernel) (by decide +kernel)
theorem gw789 : Cond.instanceMethod ⟨"RightsCounterModel", "addRight", "(IIIII)I"⟩ ∈ z_G := z_g 789 (by decide +kernel) (by decide +kernel)
theorem gw790 : Cond.selects "RightsCounterModel" ⟨"RightsCounterModel", "addRight", "(IIIII)I"⟩ ⟨"RightsCounterModel", "addRight", "(IIIII)I"⟩ ∈ z_G := z_g 790 (by decide +kernel) (by decide +kernel)
theorem gw784 : Cond.methodLink "RightsCounterLaw" 85 ⟨"RightsCounterModel", "thrown", "()I"⟩ ∈ z_G := z_g 784 (by decide +kernel) (by decide +kernel)
theorem gw785 : Cond.instanceMethod ⟨"RightsCounterModel", "thrown", "()I"⟩ ∈ z_G := z_g 785 (by decide +kernel) (by decide +kernel)
theorem gw786 : Cond.selects "RightsCounterModel" ⟨"RightsCounterModel", "thrown", "()I"⟩ ⟨"RightsCounterModel", "thrown", "()I"⟩ ∈ z_G := z_g 786 (by decide +kernel) (by decide +kernel)
theorem gw367 : Cond.methodLink "RightsCounterLaw" 89 ⟨"RightsCounterLaw", "upgrade", "(LRightsCounter;II[J)I"⟩ ∈ z_G := z_g 367 (by decide +kernel) (by decide +kernel)
theorem gw368 : Cond.static ⟨"RightsCounterLaw", "upgrade", "(LRightsCounter;II[J)I"⟩ ∈ z_G := z_g 368 (by decide +kernel) (by decide +kernel)
theorem gw795 : Cond.methodLink "RightsCounterLaw" 92 ⟨"RightsCounterModel", "upgrade", "(II)I"⟩ ∈ z_G := z_g 795 (by decide +kernel) (by decide +kernel)
theorem gw796 : Cond.instanceMethod ⟨"RightsCounterModel", "upgrade", "(II)I"⟩ ∈ z_G := z_g 796 (by decide +kernel) (by decide +kernel)
theorem gw797 : Cond.selects "RightsCounterModel" ⟨"RightsCounterModel", "upgrade", "(II)I"⟩ ⟨"RightsCounterModel", "upgrade", "(II)I"⟩ ∈ z_G := z_g 797 (by decide +kernel) (by decide +kernel)
theorem gw410 : Cond.methodLink "RightsCounterLaw" 93 ⟨"RightsCounterLaw", "setUnits", "(LRightsCounter;II[J)I"⟩ ∈ z_G := z_g 410 (by decide +kernel) (by decide +kernel)
theorem gw411 : Cond.static ⟨"RightsCounterLaw", "setUnits", "(LRightsCounter;II[J)I"⟩ ∈ z_G := z_g 411 (by decide +kernel) (by decide +kernel)
theorem gw803 : Cond.methodLink "RightsCounterLaw" 95 ⟨"RightsCounterModel", "setUnits", "(II)I"⟩ ∈ z_G := z_g 803 (by decide +kernel) (by decide +kernel)
theorem gw804 : Cond.instanceMethod ⟨"RightsCounterModel", "setUnits", "(II)I"⟩ ∈ z_G := z_g 804 (by decide +kernel) (by decide +kernel)
theorem gw805 : Cond.selects "RightsCounterModel" ⟨"RightsCounterModel", "setUnits", "(II)I"⟩ ⟨"RightsCounterModel", "setUnits", "(II)I"⟩ ∈ z_G := z_g 805 (by decide +kernel) (by decide +kernel)
theorem gw177 : Cond.methodLink "RightsCounterLaw" 96 ⟨"RightsCounter", "rights", "()I"⟩ ∈ z_G := z_g 177 (by decide +kernel) (by decide +kernel)
theorem gw178 : Cond.instanceMethod ⟨"RightsCounter", "rights", "()I"⟩ ∈ z_G := z_g 178 (by decide +kernel) (by decide +kernel)
theorem gw179 : Cond.selects "RightsCounter" ⟨"RightsCounter", "rights", "()I"⟩ ⟨"RightsCounter", "rights", "()I"⟩ ∈ z_G := z_g 179 (by decide +kernel) (by decide +kernel)
theorem gw807 : Cond.methodLink "RightsCounterLaw" 99 ⟨"RightsCounterModel", "rights", "()I"⟩ ∈ z_G := z_g 807 (by decide +kernel) (by decide +kernel)
theorem gw808 : Cond.instanceMethod ⟨"RightsCounterModel", "rights", "()I"⟩ ∈ z_G := z_g 808 (by decide +kernel) (by decide +kernel)
theorem gw809 : Cond.selects "RightsCounterModel" ⟨"RightsCounterModel", "rights", "()I"⟩ ⟨"RightsCounterModel", "rights", "()I"⟩ ∈ z_G := z_g 809 (by decide +kernel) (by decide +kernel)
theorem gw417 : Cond.methodLink "RightsCounterLaw" 100 ⟨"RightsCounterLaw", "addMachine", "(LRightsCounter;II[J)I"⟩ ∈ z_G := z_g 417 (by decide +kernel) (by decide +kernel)
theorem gw418 : Cond.static ⟨"RightsCounterLaw", "addMachine", "(LRightsCounter;II[J)I"⟩ ∈ z_G := z_g 418 (by decide +kernel) (by decide +kernel)
theorem gw811 : Cond.methodLink "RightsCounterLaw" 102 ⟨"RightsCounterModel", "addMachine", "(II)I"⟩ ∈ z_G := z_g 811 (by decide +kernel) (by decide +kernel)
theorem gw812 : Cond.instanceMethod ⟨"RightsCounterModel", "addMachine", "(II)I"⟩ ∈ z_G := z_g 812 (by decide +kernel) (by decide +kernel)
theorem gw813 : Cond.selects "RightsCounterModel" ⟨"RightsCounterModel", "addMachine", "(II)I"⟩ ⟨"RightsCounterModel", "addMachine", "(II)I"⟩ ∈ z_G := z_g 813 (by decide +kernel) (by decide +kernel)
theorem gw476 : Cond.methodLink "RightsCounterLaw" 103 ⟨"RightsCounterLaw", "setCores", "(LRightsCounter;II[J)I"⟩ ∈ z_G := z_g 476 (by decide +kernel) (by decide +kernel)
theorem gw477 : Cond.static ⟨"RightsCounterLaw", "setCores", "(LRightsCounter;II[J)I"⟩ ∈ z_G := z_g 477 (by decide +kernel) (by decide +kernel)
theorem gw819 : Cond.methodLink "RightsCounterLaw" 105 ⟨"RightsCounterModel", "setCores", "(II)I"⟩ ∈ z_G := z_g 819 (by decide +kernel) (by decide +kernel)
theorem gw820 : Cond.instanceMethod ⟨"RightsCounterModel", "setCores", "(II)I"⟩ ∈ z_G := z_g 820 (by decide +kernel) (by decide +kernel)
theorem gw821 : Cond.selects "RightsCounterModel" ⟨"RightsCounterModel", "setCores", "(II)I"⟩ ⟨"RightsCounterModel", "setCores", "(II)I"⟩ ∈ z_G := z_g 821 (by decide +kernel) (by decide +kernel)
theorem gw483 : Cond.methodLink "RightsCounterLaw" 106 ⟨"RightsCounterLaw", "tellApart", "(LRightsCounter;IZ[J)I"⟩ ∈ z_G := z_g 483 (by decide +kernel) (by decide +kernel)
theorem gw484 : Cond.static ⟨"RightsCounterLaw", "tellApart", "(LRightsCounter;IZ[J)I"⟩ ∈ z_G := z_g 484 (by decide +kernel) (by decide +kernel)
theorem gw823 : Cond.methodLink "RightsCounterLaw" 109 ⟨"RightsCounterModel", "tellApart", "(IZ)I"⟩ ∈ z_G := z_g 823 (by decide +kernel) (by decide +kernel)
theorem gw824 : Cond.instanceMethod ⟨"RightsCounterModel", "tellApart", "(IZ)I"⟩ ∈ z_G := z_g 824 (by decide +kernel) (by decide +kernel)
theorem gw825 : Cond.selects "RightsCounterModel" ⟨"RightsCounterModel", "tellApart", "(IZ)I"⟩ ⟨"RightsCounterModel", "tellApart", "(IZ)I"⟩ ∈ z_G := z_g 825 (by decide +kernel) (by decide +kernel)
theorem gw494 : Cond.methodLink "RightsCounterLaw" 110 ⟨"RightsCounterLaw", "setCoresOfUnit", "(LRightsCounter;II[J)I"⟩ ∈ z_G := z_g 494 (by decide +kernel) (by decide +kernel)
theorem gw495 : Cond.static ⟨"RightsCounterLaw", "setCoresOfUnit", "(LRightsCounter;II[J)I"⟩ ∈ z_G := z_g 495 (by decide +kernel) (by decide +kernel)
theorem gw831 : Cond.methodLink "RightsCounterLaw" 112 ⟨"RightsCounterModel", "setCoresOfUnit", "(II)I"⟩ ∈ z_G := z_g 831 (by decide +kernel) (by decide +kernel)
theorem gw832 : Cond.instanceMethod ⟨"RightsCounterModel", "setCoresOfUnit", "(II)I"⟩ ∈ z_G := z_g 832 (by decide +kernel) (by decide +kernel)
theorem gw833 : Cond.selects "RightsCounterModel" ⟨"RightsCounterModel", "setCoresOfUnit", "(II)I"⟩ ⟨"RightsCounterModel", "setCoresOfUnit", "(II)I"⟩ ∈ z_G := z_g 833 (by decide +kernel) (by decide +kernel)
theorem gw185 : Cond.methodLink "RightsCounterLaw" 113 ⟨"RightsCounter", "machines", "()I"⟩ ∈ z_G := z_g 185 (by decide +kernel) (by decide +kernel)
theorem gw186 : Cond.instanceMethod ⟨"RightsCounter", "machines", "()I"⟩ ∈ z_G := z_g 186 (by decide +kernel) (by decide +kernel)
theorem gw187 : Cond.selects "RightsCounter" ⟨"RightsCounter", "machines", "()I"⟩ ⟨"RightsCounter", "machines", "()I"⟩ ∈ z_G := z_g 187 (by decide +kernel) (by decide +kernel)
theorem gw838 : Cond.methodLink "RightsCounterLaw" 116 ⟨"RightsCounterModel", "machines", "()I"⟩ ∈ z_G := z_g 838 (by decide +kernel) (by decide +kernel)
theorem gw839 : Cond.instanceMethod ⟨"RightsCounterModel", "machines", "()I"⟩ ∈ z_G := z_g 839 (by decide +kernel) (by decide +kernel)
theorem gw840 : Cond.selects "RightsCounterModel" ⟨"RightsCounterModel", "machines", "()I"⟩ ⟨"RightsCounterModel", "machines", "()I"⟩ ∈ z_G := z_g 840 (by decide +kernel) (by decide +kernel)
theorem gw505 : Cond.methodLink "RightsCounterLaw" 117 ⟨"RightsCounterLaw", "install", "(LRightsCounter;IIII[J)I"⟩ ∈ z_G := z_g 505 (by decide +kernel) (by decide +kernel)
theorem gw506 : Cond.static ⟨"RightsCounterLaw", "install", "(LRightsCounter;IIII[J)I"⟩ ∈ z_G := z_g 506 (by decide +kernel) (by decide +kernel)
theorem gw842 : Cond.methodLink "RightsCounterLaw" 120 ⟨"RightsCounterModel", "install", "(IIII)I"⟩ ∈ z_G := z_g 842 (by decide +kernel) (by decide +kernel)
theorem gw843 : Cond.instanceMethod ⟨"RightsCounterModel", "install", "(IIII)I"⟩ ∈ z_G := z_g 843 (by decide +kernel) (by decide +kernel)
theorem gw844 : Cond.selects "RightsCounterModel" ⟨"RightsCounterModel", "install", "(IIII)I"⟩ ⟨"RightsCounterModel", "install", "(IIII)I"⟩ ∈ z_G := z_g 844 (by decide +kernel) (by decide +kernel)
theorem gw537 : Cond.methodLink "RightsCounterLaw" 121 ⟨"RightsCounterLaw", "uninstall", "(LRightsCounter;III[J)I"⟩ ∈ z_G := z_g 537 (by decide +kernel) (by decide +kernel)
theorem gw538 : Cond.static ⟨"RightsCounterLaw", "uninstall", "(LRightsCounter;III[J)I"⟩ ∈ z_G := z_g 538 (by decide +kernel) (by decide +kernel)
theorem gw860 : Cond.methodLink "RightsCounterLaw" 124 ⟨"RightsCounterModel", "uninstall", "(III)I"⟩ ∈ z_G := z_g 860 (by decide +kernel) (by decide +kernel)
theorem gw861 : Cond.instanceMethod ⟨"RightsCounterModel", "uninstall", "(III)I"⟩ ∈ z_G := z_g 861 (by decide +kernel) (by decide +kernel)
theorem gw862 : Cond.selects "RightsCounterModel" ⟨"RightsCounterModel", "uninstall", "(III)I"⟩ ⟨"RightsCounterModel", "uninstall", "(III)I"⟩ ∈ z_G := z_g 862 (by decide +kernel) (by decide +kernel)
theorem gw550 : Cond.methodLink "RightsCounterLaw" 125 ⟨"RightsCounterLaw", "runs", "(LRightsCounter;III[J)I"⟩ ∈ z_G := z_g 550 (by decide +kernel) (by decide +kernel)
theorem gw551 : Cond.static ⟨"RightsCounterLaw", "runs", "(LRightsCounter;III[J)I"⟩ ∈ z_G := z_g 551 (by decide +kernel) (by decide +kernel)
theorem gw864 : Cond.methodLink "RightsCounterLaw" 127 ⟨"RightsCounterModel", "runs", "(III)I"⟩ ∈ z_G := z_g 864 (by decide +kernel) (by decide +kernel)
theorem gw865 : Cond.instanceMethod ⟨"RightsCounterModel", "runs", "(III)I"⟩ ∈ z_G := z_g 865 (by decide +kernel) (by decide +kernel)
theorem gw866 : Cond.selects "RightsCounterModel" ⟨"RightsCounterModel", "runs", "(III)I"⟩ ⟨"RightsCounterModel", "runs", "(III)I"⟩ ∈ z_G := z_g 866 (by decide +kernel) (by decide +kernel)
theorem gw561 : Cond.methodLink "RightsCounterLaw" 128 ⟨"RightsCounterLaw", "needs", "(LRightsCounter;I[J)I"⟩ ∈ z_G := z_g 561 (by decide +kernel) (by decide +kernel)
theorem gw562 : Cond.static ⟨"RightsCounterLaw", "needs", "(LRightsCounter;I[J)I"⟩ ∈ z_G := z_g 562 (by decide +kernel) (by decide +kernel)
theorem gw872 : Cond.methodLink "RightsCounterLaw" 131 ⟨"RightsCounterModel", "needs", "(I)I"⟩ ∈ z_G := z_g 872 (by decide +kernel) (by decide +kernel)
theorem gw873 : Cond.instanceMethod ⟨"RightsCounterModel", "needs", "(I)I"⟩ ∈ z_G := z_g 873 (by decide +kernel) (by decide +kernel)
theorem gw874 : Cond.selects "RightsCounterModel" ⟨"RightsCounterModel", "needs", "(I)I"⟩ ⟨"RightsCounterModel", "needs", "(I)I"⟩ ∈ z_G := z_g 874 (by decide +kernel) (by decide +kernel)
theorem gw589 : Cond.methodLink "RightsCounterLaw" 132 ⟨"RightsCounterLaw", "need", "(LRightsCounter;II[J)I"⟩ ∈ z_G := z_g 589 (by decide +kernel) (by decide +kernel)
theorem gw590 : Cond.static ⟨"RightsCounterLaw", "need", "(LRightsCounter;II[J)I"⟩ ∈ z_G := z_g 590 (by decide +kernel) (by decide +kernel)
theorem gw880 : Cond.methodLink "RightsCounterLaw" 134 ⟨"RightsCounterModel", "need", "(II)I"⟩ ∈ z_G := z_g 880 (by decide +kernel) (by decide +kernel)
theorem gw881 : Cond.instanceMethod ⟨"RightsCounterModel", "need", "(II)I"⟩ ∈ z_G := z_g 881 (by decide +kernel) (by decide +kernel)
theorem gw882 : Cond.selects "RightsCounterModel" ⟨"RightsCounterModel", "need", "(II)I"⟩ ⟨"RightsCounterModel", "need", "(II)I"⟩ ∈ z_G := z_g 882 (by decide +kernel) (by decide +kernel)
theorem gw601 : Cond.methodLink "RightsCounterLaw" 135 ⟨"RightsCounterLaw", "demand", "(LRightsCounter;II[J)I"⟩ ∈ z_G := z_g 601 (by decide +kernel) (by decide +kernel)
theorem gw602 : Cond.static ⟨"RightsCounterLaw", "demand", "(LRightsCounter;II[J)I"⟩ ∈ z_G := z_g 602 (by decide +kernel) (by decide +kernel)
theorem gw888 : Cond.methodLink "RightsCounterLaw" 137 ⟨"RightsCounterModel", "demand", "(II)I"⟩ ∈ z_G := z_g 888 (by decide +kernel) (by decide +kernel)
theorem gw889 : Cond.instanceMethod ⟨"RightsCounterModel", "demand", "(II)I"⟩ ∈ z_G := z_g 889 (by decide +kernel) (by decide +kernel)
theorem gw890 : Cond.selects "RightsCounterModel" ⟨"RightsCounterModel", "demand", "(II)I"⟩ ⟨"RightsCounterModel", "demand", "(II)I"⟩ ∈ z_G := z_g 890 (by decide +kernel) (by decide +kernel)
theorem gw608 : Cond.methodLink "RightsCounterLaw" 138 ⟨"RightsCounterLaw", "gets", "(LRightsCounter;II[J)I"⟩ ∈ z_G := z_g 608 (by decide +kernel) (by decide +kernel)
theorem gw609 : Cond.static ⟨"RightsCounterLaw", "gets", "(LRightsCounter;II[J)I"⟩ ∈ z_G := z_g 609 (by decide +kernel) (by decide +kernel)
theorem gw892 : Cond.methodLink "RightsCounterLaw" 140 ⟨"RightsCounterModel", "gets", "(II)I"⟩ ∈ z_G := z_g 892 (by decide +kernel) (by decide +kernel)
theorem gw893 : Cond.instanceMethod ⟨"RightsCounterModel", "gets", "(II)I"⟩ ∈ z_G := z_g 893 (by decide +kernel) (by decide +kernel)
theorem gw894 : Cond.selects "RightsCounterModel" ⟨"RightsCounterModel", "gets", "(II)I"⟩ ⟨"RightsCounterModel", "gets", "(II)I"⟩ ∈ z_G := z_g 894 (by decide +kernel) (by decide +kernel)
theorem gw657 : Cond.methodLink "RightsCounterLaw" 141 ⟨"RightsCounterLaw", "lack", "(LRightsCounter;I[J)I"⟩ ∈ z_G := z_g 657 (by decide +kernel) (by decide +kernel)
theorem gw658 : Cond.static ⟨"RightsCounterLaw", "lack", "(LRightsCounter;I[J)I"⟩ ∈ z_G := z_g 658 (by decide +kernel) (by decide +kernel)
theorem gw916 : Cond.methodLink "RightsCounterLaw" 143 ⟨"RightsCounterModel", "lack", "(I)I"⟩ ∈ z_G := z_g 916 (by decide +kernel) (by decide +kernel)
theorem gw917 : Cond.instanceMethod ⟨"RightsCounterModel", "lack", "(I)I"⟩ ∈ z_G := z_g 917 (by decide +kernel) (by decide +kernel)
theorem gw918 : Cond.selects "RightsCounterModel" ⟨"RightsCounterModel", "lack", "(I)I"⟩ ⟨"RightsCounterModel", "lack", "(I)I"⟩ ∈ z_G := z_g 918 (by decide +kernel) (by decide +kernel)
theorem gw668 : Cond.methodLink "RightsCounterLaw" 144 ⟨"RightsCounterLaw", "lackBySets", "(LRightsCounter;I[J)I"⟩ ∈ z_G := z_g 668 (by decide +kernel) (by decide +kernel)
theorem gw669 : Cond.static ⟨"RightsCounterLaw", "lackBySets", "(LRightsCounter;I[J)I"⟩ ∈ z_G := z_g 669 (by decide +kernel) (by decide +kernel)
theorem gw924 : Cond.methodLink "RightsCounterLaw" 146 ⟨"RightsCounterModel", "lackBySets", "(I)I"⟩ ∈ z_G := z_g 924 (by decide +kernel) (by decide +kernel)
theorem gw925 : Cond.instanceMethod ⟨"RightsCounterModel", "lackBySets", "(I)I"⟩ ∈ z_G := z_g 925 (by decide +kernel) (by decide +kernel)
theorem gw926 : Cond.selects "RightsCounterModel" ⟨"RightsCounterModel", "lackBySets", "(I)I"⟩ ⟨"RightsCounterModel", "lackBySets", "(I)I"⟩ ∈ z_G := z_g 926 (by decide +kernel) (by decide +kernel)
theorem gw689 : Cond.methodLink "RightsCounterLaw" 147 ⟨"RightsCounterLaw", "spare", "(LRightsCounter;III[J)I"⟩ ∈ z_G := z_g 689 (by decide +kernel) (by decide +kernel)
theorem gw690 : Cond.static ⟨"RightsCounterLaw", "spare", "(LRightsCounter;III[J)I"⟩ ∈ z_G := z_g 690 (by decide +kernel) (by decide +kernel)
theorem gw928 : Cond.methodLink "RightsCounterLaw" 149 ⟨"RightsCounterModel", "spare", "(III)I"⟩ ∈ z_G := z_g 928 (by decide +kernel) (by decide +kernel)
theorem gw929 : Cond.instanceMethod ⟨"RightsCounterModel", "spare", "(III)I"⟩ ∈ z_G := z_g 929 (by decide +kernel) (by decide +kernel)
theorem gw930 : Cond.selects "RightsCounterModel" ⟨"RightsCounterModel", "spare", "(III)I"⟩ ⟨"RightsCounterModel", "spare", "(III)I"⟩ ∈ z_G := z_g 930 (by decide +kernel) (by decide +kernel)
theorem gw696 : Cond.methodLink "RightsCounterLaw" 150 ⟨"RightsCounterLaw", "most", "(LRightsCounter;II[J)I"⟩ ∈ z_G := z_g 696 (by decide +kernel) (by decide +kernel)
theorem gw697 : Cond.static ⟨"RightsCounterLaw", "most", "(LRightsCounter;II[J)I"⟩ ∈ z_G := z_g 697 (by decide +kernel) (by decide +kernel)
theorem gw933 : Cond.methodLink "RightsCounterLaw" 152 ⟨"RightsCounterModel", "most", "(II)I"⟩ ∈ z_G := z_g 933 (by decide +kernel) (by decide +kernel)
theorem gw934 : Cond.instanceMethod ⟨"RightsCounterModel", "most", "(II)I"⟩ ∈ z_G := z_g 934 (by decide +kernel) (by decide +kernel)
theorem gw935 : Cond.selects "RightsCounterModel" ⟨"RightsCounterModel", "most", "(II)I"⟩ ⟨"RightsCounterModel", "most", "(II)I"⟩ ∈ z_G := z_g 935 (by decide +kernel) (by decide +kernel)
theorem gw_objInit : Cond.code Lib.objectInit ⟨#[0xb1]⟩ 1 none ∈ z_G := z_g 60 (by decide +kernel) (by decide +kernel)
theorem fl_X0_11 : z_fl RX0 "RightsCounter$Giving" 11 1 0 RX0 TX0 9 := ⟨rfl, by decide, gw130, inG_X0, Or.inl (by decide +kernel)⟩
theorem fw_X0_0 : z_fw 0 TX0 9 (tyX0 0) tyX0 := ⟨by decide +kernel, tyX0_ok, nmX0⟩
theorem fl_X0_16 : z_fl RX0 "RightsCounter$Giving" 16 1 1 RX0 TX0 9 := ⟨rfl, by decide, gw131, inG_X0, Or.inl (by decide +kernel)⟩
theorem fw_X0_1 : z_fw 1 TX0 9 (tyX0 1) tyX0 := ⟨by decide +kernel, tyX0_ok, nmX0⟩
theorem fl_X0_20 : z_fl RX0 "RightsCounter$Giving" 20 1 2 RX0 TX0 9 := ⟨rfl, by decide, gw132, inG_X0, Or.inl (by decide +kernel)⟩
theorem fw_X0_2 : z_fw 2 TX0 9 (tyX0 2) tyX0 := ⟨by decide +kernel, tyX0_ok, nmX0⟩
theorem fl_X0_23 : z_fl RX0 "RightsCounter$Giving" 23 1 4 RX0 TX0 9 := ⟨rfl, by decide, gw134, inG_X0, Or.inl (by decide +kernel)⟩
theorem fw_X0_4 : z_fw 4 TX0 9 (tyX0 4) tyX0 := ⟨by decide +kernel, tyX0_ok, nmX0⟩
theorem fl_X0_26 : z_fl RX0 "RightsCounter$Giving" 26 1 5 RX0 TX0 9 := ⟨rfl, by decide, gw135, inG_X0, Or.inl (by decide +kernel)⟩
theorem fw_X0_5 : z_fw 5 TX0 9 (tyX0 5) tyX0 := ⟨by decide +kernel, tyX0_ok, nmX0⟩
theorem fl_X0_29 : z_fl RX0 "RightsCounter$Giving" 29 1 6 RX0 TX0 9 := ⟨rfl, by decide, gw136, inG_X0, Or.inl (by decide +kernel)⟩
theorem fw_X0_6 : z_fw 6 TX0 9 (tyX0 6) tyX0 := ⟨by decide +kernel, tyX0_ok, nmX0⟩
theorem fl_X0_32 : z_fl RX0 "RightsCounter$Giving" 32 1 3 RX0 TX0 9 := ⟨rfl, by decide, gw133, inG_X0, Or.inl (by decide +kernel)⟩
theorem fw_X0_3 : z_fw 3 TX0 9 (tyX0 3) tyX0 := ⟨by decide +kernel, tyX0_ok, nmX0⟩
theorem gw160 : z_cw mJ7_fill_53178 ∈ z_G := z_g 160 (by decide +kernel) (by decide +kernel)
theorem cs_X0_36 : z_cs RX0 36 mJ7_fill_53178 2 := ⟨gw643, gw37, gw160, by decide +kernel, by decide +kernel⟩
theorem gw647 : z_cw mX0_searchUnitsLeft ∈ z_G := z_g 647 (by decide +kernel) (by decide +kernel)
theorem cs_X0_42 : z_cs RX0 42 mX0_searchUnitsLeft 1 := ⟨gw644, gw36, gw647, by decide +kernel, by decide +kernel⟩
theorem gw655 : z_cw mX0_giveAlong ∈ z_G := z_g 655 (by decide +kernel) (by decide +kernel)
theorem cs_X0_46 : z_cs RX0 46 mX0_giveAlong 3 := ⟨gw652, gw36, gw655, by decide +kernel, by decide +kernel⟩
theorem fl_X0_50 : z_fl RX0 "RightsCounter$Giving" 50 1 7 RX0 TX0 9 := ⟨rfl, by decide, gw137, inG_X0, Or.inl (by decide +kernel)⟩
theorem fw_X0_7 : z_fw 7 TX0 9 (tyX0 7) tyX0 := ⟨by decide +kernel, tyX0_ok, nmX0⟩
theorem fl_X0_53 : z_fl RX0 "RightsCounter$Giving" 53 1 8 RX0 TX0 9 := ⟨rfl, by decide, gw138, inG_X0, Or.inl (by decide +kernel)⟩
theorem fw_X0_8 : z_fw 8 TX0 9 (tyX0 8) tyX0 := ⟨by decide +kernel, tyX0_ok, nmX0⟩
theorem gw651 : z_cw mX0_reach ∈ z_G := z_g 651 (by decide +kernel) (by decide +kernel)
theorem cs_X0_56 : z_cs RX0 56 mX0_reach 3 := ⟨gw648, gw36, gw651, by decide +kernel, by decide +kernel⟩
theorem gw_mmin : Cond.code Lib.Math.min.name Lib.Math.min.code 2 (some .int) ∈ z_G := z_g 361 (by decide +kernel) (by decide +kernel)
theorem fl_X1_9 : z_fl RX1 "RightsCounter$History" 9 2 0 RX1 TX1 4 := ⟨rfl, by decide, gw443, inG_X1, Or.inl (by decide +kernel)⟩
theorem fw_X1_0 : z_fw 0 TX1 4 (tyX1 0) tyX1 := ⟨by decide +kernel, tyX1_ok, nmX1⟩
theorem fl_X1_15 : z_fl RX1 "RightsCounter$History" 15 2 1 RX1 TX1 4 := ⟨rfl, by decide, gw444, inG_X1, Or.inl (by decide +kernel)⟩
theorem fw_X1_1 : z_fw 1 TX1 4 (tyX1 1) tyX1 := ⟨by decide +kernel, tyX1_ok, nmX1⟩
theorem fl_X1_18 : z_fl RX1 "RightsCounter$History" 18 2 2 RX1 TX1 4 := ⟨rfl, by decide, gw445, inG_X1, Or.inl (by decide +kernel)⟩
theorem fw_X1_2 : z_fw 2 TX1 4 (tyX1 2) tyX1 := ⟨by decide +kernel, tyX1_ok, nmX1⟩
theorem fl_X1_21 : z_fl RX1 "RightsCounter$History" 21 2 3 RX1 TX1 4 := ⟨rfl, by decide, gw446, inG_X1, Or.inl (by decide +kernel)⟩
theorem gw530 : z_cw mX1_isOpen ∈ z_G := z_g 530 (by decide +kernel) (by decide +kernel)
theorem cs_X1_25 : z_cs RX1 25 mX1_isOpen 0 := ⟨gw527, gw52, gw530, by decide +kernel, by decide +kernel⟩
theorem gw522 : z_cw mX1_isFull ∈ z_G := z_g 522 (by decide +kernel) (by decide +kernel)
theorem cs_X1_29 : z_cs RX1 29 mX1_isFull 0 := ⟨gw536, gw52, gw522, by decide +kernel, by decide +kernel⟩
theorem fw_X1_3 : z_fw 3 TX1 4 (tyX1 3) tyX1 := ⟨by decide +kernel, tyX1_ok, nmX1⟩
theorem fl_X2_11 : z_fl RX2 "RightsCounter$Machine" 11 3 2 RX2 TX2 5 := ⟨rfl, by decide, gw459, inG_X2, Or.inl (by decide +kernel)⟩
theorem fw_X2_2 : z_fw 2 TX2 5 (tyX2 2) tyX2 := ⟨by decide +kernel, tyX2_ok, nmX2⟩
theorem fl_X2_17 : z_fl RX2 "RightsCounter$Machine" 17 3 0 RX2 TX2 5 := ⟨rfl, by decide, gw457, inG_X2, Or.inl (by decide +kernel)⟩
theorem fw_X2_0 : z_fw 0 TX2 5 (tyX2 0) tyX2 := ⟨by decide +kernel, tyX2_ok, nmX2⟩
theorem fl_X2_21 : z_fl RX2 "RightsCounter$Machine" 21 3 3 RX2 TX2 5 := ⟨rfl, by decide, gw461, inG_X2, Or.inl (by decide +kernel)⟩
theorem fw_X2_3 : z_fw 3 TX2 5 (tyX2 3) tyX2 := ⟨by decide +kernel, tyX2_ok, nmX2⟩
theorem fl_X2_24 : z_fl RX2 "RightsCounter$Machine" 24 3 1 RX2 TX2 5 := ⟨rfl, by decide, gw458, inG_X2, Or.inl (by decide +kernel)⟩
theorem fw_X2_1 : z_fw 1 TX2 5 (tyX2 1) tyX2 := ⟨by decide +kernel, tyX2_ok, nmX2⟩
theorem gw441 : z_cw mX1_init ∈ z_G := z_g 441 (by decide +kernel) (by decide +kernel)
theorem fl_X2_29 : z_fl RX2 "RightsCounter$Machine" 29 3 4 RX2 TX2 5 := ⟨rfl, by decide, gw463, inG_X2, Or.inl (by decide +kernel)⟩
theorem fl_X3_9 : z_fl RX3 "RightsCounter$Needs" 9 4 0 RX3 TX3 7 := ⟨rfl, by decide, gw93, inG_X3, Or.inl (by decide +kernel)⟩
theorem fw_X3_0 : z_fw 0 TX3 7 (tyX3 0) tyX3 := ⟨by decide +kernel, tyX3_ok, nmX3⟩
theorem fl_X3_15 : z_fl RX3 "RightsCounter$Needs" 15 4 1 RX3 TX3 7 := ⟨rfl, by decide, gw95, inG_X3, Or.inl (by decide +kernel)⟩
theorem fw_X3_1 : z_fw 1 TX3 7 (tyX3 1) tyX3 := ⟨by decide +kernel, tyX3_ok, nmX3⟩
theorem fl_X3_18 : z_fl RX3 "RightsCounter$Needs" 18 4 2 RX3 TX3 7 := ⟨rfl, by decide, gw97, inG_X3, Or.inl (by decide +kernel)⟩
theorem fw_X3_2 : z_fw 2 TX3 7 (tyX3 2) tyX3 := ⟨by decide +kernel, tyX3_ok, nmX3⟩
theorem fl_X3_21 : z_fl RX3 "RightsCounter$Needs" 21 4 3 RX3 TX3 7 := ⟨rfl, by decide, gw99, inG_X3, Or.inl (by decide +kernel)⟩
theorem fw_X3_3 : z_fw 3 TX3 7 (tyX3 3) tyX3 := ⟨by decide +kernel, tyX3_ok, nmX3⟩
theorem fl_X3_24 : z_fl RX3 "RightsCounter$Needs" 24 4 4 RX3 TX3 7 := ⟨rfl, by decide, gw101, inG_X3, Or.inl (by decide +kernel)⟩
theorem fw_X3_4 : z_fw 4 TX3 7 (tyX3 4) tyX3 := ⟨by decide +kernel, tyX3_ok, nmX3⟩
theorem fl_X3_27 : z_fl RX3 "RightsCounter$Needs" 27 4 6 RX3 TX3 7 := ⟨rfl, by decide, gw105, inG_X3, Or.inl (by decide +kernel)⟩
theorem fw_X3_6 : z_fw 6 TX3 7 (tyX3 6) tyX3 := ⟨by decide +kernel, tyX3_ok, nmX3⟩
theorem fl_X3_30 : z_fl RX3 "RightsCounter$Needs" 30 4 5 RX3 TX3 7 := ⟨rfl, by decide, gw103, inG_X3, Or.inl (by decide +kernel)⟩
theorem fw_X3_5 : z_fw 5 TX3 7 (tyX3 5) tyX3 := ⟨by decide +kernel, tyX3_ok, nmX3⟩
theorem cs_X3_34 : z_cs RX3 34 mJ7_fill_53178 2 := ⟨gw576, gw37, gw160, by decide +kernel, by decide +kernel⟩
theorem gw_mmax : Cond.code Lib.Math.max.name Lib.Math.max.code 2 (some .int) ∈ z_G := z_g 330 (by decide +kernel) (by decide +kernel)
theorem fl_X4_7 : z_fl RX4 "RightsCounter$Right" 7 5 0 RX4 TX4 5 := ⟨rfl, by decide, gw291, inG_X4, Or.inl (by decide +kernel)⟩
theorem fw_X4_0 : z_fw 0 TX4 5 (tyX4 0) tyX4 := ⟨by decide +kernel, tyX4_ok, nmX4⟩
theorem fl_X4_13 : z_fl RX4 "RightsCounter$Right" 13 5 3 RX4 TX4 5 := ⟨rfl, by decide, gw294, inG_X4, Or.inl (by decide +kernel)⟩
theorem fw_X4_3 : z_fw 3 TX4 5 (tyX4 3) tyX4 := ⟨by decide +kernel, tyX4_ok, nmX4⟩
theorem fl_X4_16 : z_fl RX4 "RightsCounter$Right" 16 5 4 RX4 TX4 5 := ⟨rfl, by decide, gw296, inG_X4, Or.inl (by decide +kernel)⟩
theorem fw_X4_4 : z_fw 4 TX4 5 (tyX4 4) tyX4 := ⟨by decide +kernel, tyX4_ok, nmX4⟩
theorem fl_X4_19 : z_fl RX4 "RightsCounter$Right" 19 5 1 RX4 TX4 5 := ⟨rfl, by decide, gw292, inG_X4, Or.inl (by decide +kernel)⟩
theorem fw_X4_1 : z_fw 1 TX4 5 (tyX4 1) tyX4 := ⟨by decide +kernel, tyX4_ok, nmX4⟩
theorem fl_X4_22 : z_fl RX4 "RightsCounter$Right" 22 5 2 RX4 TX4 5 := ⟨rfl, by decide, gw293, inG_X4, Or.inl (by decide +kernel)⟩
theorem fw_X4_2 : z_fw 2 TX4 5 (tyX4 2) tyX4 := ⟨by decide +kernel, tyX4_ok, nmX4⟩
theorem gw65 : z_cw mJx4a65c_init_da8c8 ∈ z_G := z_g 65 (by decide +kernel) (by decide +kernel)
theorem cs_X5_11 : z_cs RX5 11 mJx4a65c_init_da8c8 0 := ⟨gw63, gw34, gw65, by decide +kernel, by decide +kernel⟩
theorem fl_X5_12 : z_fl RX5 "RightsCounter" 12 6 0 RX5 TX5 5 := ⟨rfl, by decide, gw161, inG_X5, Or.inl (by decide +kernel)⟩
theorem fw_X5_0 : z_fw 0 TX5 5 (tyX5 0) tyX5 := ⟨by decide +kernel, tyX5_ok, nmX5⟩
theorem fl_X5_16 : z_fl RX5 "RightsCounter" 16 6 1 RX5 TX5 5 := ⟨rfl, by decide, gw162, inG_X5, Or.inl (by decide +kernel)⟩
theorem fw_X5_1 : z_fw 1 TX5 5 (tyX5 1) tyX5 := ⟨by decide +kernel, tyX5_ok, nmX5⟩
theorem fl_X5_19 : z_fl RX5 "RightsCounter" 19 6 2 RX5 TX5 5 := ⟨rfl, by decide, gw163, inG_X5, Or.inl (by decide +kernel)⟩
theorem fw_X5_2 : z_fw 2 TX5 5 (tyX5 2) tyX5 := ⟨by decide +kernel, tyX5_ok, nmX5⟩
theorem gw91 : z_cw mX3_init ∈ z_G := z_g 91 (by decide +kernel) (by decide +kernel)
theorem fl_X5_26 : z_fl RX5 "RightsCounter" 26 6 3 RX5 TX5 5 := ⟨rfl, by decide, gw164, inG_X5, Or.inl (by decide +kernel)⟩
theorem fw_X5_3 : z_fw 3 TX5 5 (tyX5 3) tyX5 := ⟨by decide +kernel, tyX5_ok, nmX5⟩
theorem gw126 : z_cw mX0_init ∈ z_G := z_g 126 (by decide +kernel) (by decide +kernel)
theorem fl_X5_33 : z_fl RX5 "RightsCounter" 33 6 4 RX5 TX5 5 := ⟨rfl, by decide, gw165, inG_X5, Or.inl (by decide +kernel)⟩
theorem fw_X5_4 : z_fw 4 TX5 5 (tyX5 4) tyX5 := ⟨by decide +kernel, tyX5_ok, nmX5⟩
theorem cs_X5_37 : z_cs RX5 37 mJ7_fill_53178 2 := ⟨gw158, gw37, gw160, by decide +kernel, by decide +kernel⟩
theorem gw200 : z_cw mX5_checkArgument ∈ z_G := z_g 200 (by decide +kernel) (by decide +kernel)
theorem cs_X5_43 : z_cs RX5 43 mX5_checkArgument 3 := ⟨gw198, gw31, gw200, by decide +kernel, by decide +kernel⟩
theorem gw184 : z_cw mJx4a65c_size_8abf5 ∈ z_G := z_g 184 (by decide +kernel) (by decide +kernel)
theorem cs_X5_47 : z_cs RX5 47 mJx4a65c_size_8abf5 0 := ⟨gw181, gw34, gw184, by decide +kernel, by decide +kernel⟩
theorem at_X5_55_in : ∀ w ∈ vx_atS RX5 55 "java/lang/IllegalStateException" ["java/lang/RuntimeException", "java/lang/Exception"], w ∈ lw_tbl := by decide +kernel
theorem at_X5_55 : ∀ w ∈ vx_atS RX5 55 "java/lang/IllegalStateException" ["java/lang/RuntimeException", "java/lang/Exception"], w ∈ z_G ∨ (∃ q ∈ z_casts, w = .castable q.1 q.2) ∨ ∃ q ∈ z_decls, w = .declares q := z_atS at_X5_55_in (by decide +kernel)
theorem at_X5_55_g : ∀ w ∈ Cond.classLink RX5 51 "java/lang/IllegalStateException" :: Cond.initialized "java/lang/IllegalStateException" :: vx_atS RX5 55 "java/lang/IllegalStateException" ["java/lang/RuntimeException", "java/lang/Exception"], vx_ot w = true := by decide +kernel
theorem gw289 : z_cw mX4_init ∈ z_G := z_g 289 (by decide +kernel) (by decide +kernel)
theorem cs_X5_60 : z_cs RX5 60 mX4_init 5 := ⟨gw287, gw44, gw289, by decide +kernel, by decide +kernel⟩
theorem gw312 : z_cw mJx4a65c_add_9ea2d ∈ z_G := z_g 312 (by decide +kernel) (by decide +kernel)
theorem cs_X5_63 : z_cs RX5 63 mJx4a65c_add_9ea2d 1 := ⟨gw309, gw34, gw312, by decide +kernel, by decide +kernel⟩
theorem gw378 : z_cw mX5_rightOf ∈ z_G := z_g 378 (by decide +kernel) (by decide +kernel)
theorem cs_X5_67 : z_cs RX5 67 mX5_rightOf 1 := ⟨gw375, gw31, gw378, by decide +kernel, by decide +kernel⟩
theorem fl_X5_71 : z_fl RX5 "RightsCounter$Right" 71 5 3 RX4 TX4 5 := ⟨rfl, by decide, gw295, inG_X4, Or.inl (by decide +kernel)⟩
theorem fl_X5_77 : z_fl RX5 "RightsCounter$Right" 77 5 4 RX4 TX4 5 := ⟨rfl, by decide, gw297, inG_X4, Or.inl (by decide +kernel)⟩
theorem gw427 : z_cw mX5_machineOf ∈ z_G := z_g 427 (by decide +kernel) (by decide +kernel)
theorem cs_X5_80 : z_cs RX5 80 mX5_machineOf 1 := ⟨gw424, gw31, gw427, by decide +kernel, by decide +kernel⟩
theorem gw434 : z_cw mX2_init ∈ z_G := z_g 434 (by decide +kernel) (by decide +kernel)
theorem cs_X5_88 : z_cs RX5 88 mX2_init 3 := ⟨gw432, gw51, gw434, by decide +kernel, by decide +kernel⟩
theorem fl_X5_91 : z_fl RX5 "RightsCounter$Machine" 91 3 3 RX2 TX2 5 := ⟨rfl, by decide, gw462, inG_X2, Or.inl (by decide +kernel)⟩
theorem fl_X5_94 : z_fl RX5 "RightsCounter$Machine" 94 3 4 RX2 TX2 5 := ⟨rfl, by decide, gw464, inG_X2, Or.inl (by decide +kernel)⟩
theorem fw_X2_4 : z_fw 4 TX2 5 (tyX2 4) tyX2 := ⟨by decide +kernel, tyX2_ok, nmX2⟩
theorem gw493 : z_cw mX2_countsBy ∈ z_G := z_g 493 (by decide +kernel) (by decide +kernel)
theorem cs_X5_98 : z_cs RX5 98 mX2_countsBy 0 := ⟨gw490, gw51, gw493, by decide +kernel, by decide +kernel⟩
theorem gw503 : z_cw mX5_checkProduct ∈ z_G := z_g 503 (by decide +kernel) (by decide +kernel)
theorem cs_X5_101 : z_cs RX5 101 mX5_checkProduct 1 := ⟨gw501, gw31, gw503, by decide +kernel, by decide +kernel⟩
theorem gw515 : z_cw mX5_historyOf ∈ z_G := z_g 515 (by decide +kernel) (by decide +kernel)
theorem cs_X5_105 : z_cs RX5 105 mX5_historyOf 2 := ⟨gw512, gw31, gw515, by decide +kernel, by decide +kernel⟩
theorem gw518 : z_cw mX5_checkDay ∈ z_G := z_g 518 (by decide +kernel) (by decide +kernel)
theorem cs_X5_109 : z_cs RX5 109 mX5_checkDay 1 := ⟨gw516, gw31, gw518, by decide +kernel, by decide +kernel⟩
theorem cs_X5_112 : z_cs RX5 112 mX1_isFull 0 := ⟨gw519, gw52, gw522, by decide +kernel, by decide +kernel⟩
theorem gw526 : z_cw mX1_lastChange ∈ z_G := z_g 526 (by decide +kernel) (by decide +kernel)
theorem cs_X5_118 : z_cs RX5 118 mX1_lastChange 0 := ⟨gw523, gw52, gw526, by decide +kernel, by decide +kernel⟩
theorem gw535 : z_cw mX1_begin ∈ z_G := z_g 535 (by decide +kernel) (by decide +kernel)
theorem cs_X5_123 : z_cs RX5 123 mX1_begin 2 := ⟨gw532, gw52, gw535, by decide +kernel, by decide +kernel⟩
theorem fl_X5_127 : z_fl RX5 "RightsCounter$History" 127 2 3 RX1 TX1 4 := ⟨rfl, by decide, gw447, inG_X1, Or.inl (by decide +kernel)⟩
theorem cs_X5_130 : z_cs RX5 130 mX1_isOpen 0 := ⟨gw544, gw52, gw530, by decide +kernel, by decide +kernel⟩
theorem gw549 : z_cw mX1_end ∈ z_G := z_g 549 (by decide +kernel) (by decide +kernel)
theorem cs_X5_135 : z_cs RX5 135 mX1_end 1 := ⟨gw546, gw52, gw549, by decide +kernel, by decide +kernel⟩
theorem gw560 : z_cw mX1_versionOn ∈ z_G := z_g 560 (by decide +kernel) (by decide +kernel)
theorem cs_X5_139 : z_cs RX5 139 mX1_versionOn 1 := ⟨gw557, gw52, gw560, by decide +kernel, by decide +kernel⟩
theorem gw571 : z_cw mX5_findNeeds ∈ z_G := z_g 571 (by decide +kernel) (by decide +kernel)
theorem cs_X5_142 : z_cs RX5 142 mX5_findNeeds 1 := ⟨gw568, gw31, gw571, by decide +kernel, by decide +kernel⟩
theorem fl_X5_145 : z_fl RX5 "RightsCounter$Needs" 145 4 5 RX3 TX3 7 := ⟨rfl, by decide, gw104, inG_X3, Or.inl (by decide +kernel)⟩
theorem gw599 : z_cw mX5_checkNeed ∈ z_G := z_g 599 (by decide +kernel) (by decide +kernel)
theorem cs_X5_148 : z_cs RX5 148 mX5_checkNeed 1 := ⟨gw596, gw31, gw599, by decide +kernel, by decide +kernel⟩
theorem fl_X5_151 : z_fl RX5 "RightsCounter$Needs" 151 4 0 RX3 TX3 7 := ⟨rfl, by decide, gw94, inG_X3, Or.inl (by decide +kernel)⟩
theorem fl_X5_154 : z_fl RX5 "RightsCounter$Needs" 154 4 1 RX3 TX3 7 := ⟨rfl, by decide, gw96, inG_X3, Or.inl (by decide +kernel)⟩
theorem fl_X5_157 : z_fl RX5 "RightsCounter$Needs" 157 4 2 RX3 TX3 7 := ⟨rfl, by decide, gw98, inG_X3, Or.inl (by decide +kernel)⟩
theorem fl_X5_160 : z_fl RX5 "RightsCounter$Needs" 160 4 3 RX3 TX3 7 := ⟨rfl, by decide, gw100, inG_X3, Or.inl (by decide +kernel)⟩
theorem gw618 : z_cw mX5_serveFirst ∈ z_G := z_g 618 (by decide +kernel) (by decide +kernel)
theorem cs_X5_163 : z_cs RX5 163 mX5_serveFirst 2 := ⟨gw615, gw31, gw618, by decide +kernel, by decide +kernel⟩
theorem fl_X5_167 : z_fl RX5 "RightsCounter$Needs" 167 4 4 RX3 TX3 7 := ⟨rfl, by decide, gw102, inG_X3, Or.inl (by decide +kernel)⟩
theorem gw642 : z_cw mX0_serve ∈ z_G := z_g 642 (by decide +kernel) (by decide +kernel)
theorem cs_X5_170 : z_cs RX5 170 mX0_serve 2 := ⟨gw639, gw36, gw642, by decide +kernel, by decide +kernel⟩
theorem gw667 : z_cw mX3_demandOfAll ∈ z_G := z_g 667 (by decide +kernel) (by decide +kernel)
theorem cs_X5_173 : z_cs RX5 173 mX3_demandOfAll 0 := ⟨gw664, gw35, gw667, by decide +kernel, by decide +kernel⟩
theorem gw622 : z_cw mX5_findGivers ∈ z_G := z_g 622 (by decide +kernel) (by decide +kernel)
theorem cs_X5_178 : z_cs RX5 178 mX5_findGivers 1 := ⟨gw619, gw31, gw622, by decide +kernel, by decide +kernel⟩
theorem gw679 : z_cw mX3_demandOfSet ∈ z_G := z_g 679 (by decide +kernel) (by decide +kernel)
theorem cs_X5_181 : z_cs RX5 181 mX3_demandOfSet 1 := ⟨gw676, gw35, gw679, by decide +kernel, by decide +kernel⟩
theorem gw683 : z_cw mX3_giversOfSet ∈ z_G := z_g 683 (by decide +kernel) (by decide +kernel)
theorem cs_X5_184 : z_cs RX5 184 mX3_giversOfSet 1 := ⟨gw680, gw35, gw683, by decide +kernel, by decide +kernel⟩
theorem gw687 : z_cw mX5_unitsOf ∈ z_G := z_g 687 (by decide +kernel) (by decide +kernel)
theorem cs_X5_187 : z_cs RX5 187 mX5_unitsOf 1 := ⟨gw684, gw31, gw687, by decide +kernel, by decide +kernel⟩
theorem gw626 : z_cw mX5_giversFor ∈ z_G := z_g 626 (by decide +kernel) (by decide +kernel)
theorem cs_X5_195 : z_cs RX5 195 mX5_giversFor 3 := ⟨gw623, gw31, gw626, by decide +kernel, by decide +kernel⟩
theorem gw706 : z_cw mX3_demandOfProduct ∈ z_G := z_g 706 (by decide +kernel) (by decide +kernel)
theorem cs_X5_199 : z_cs RX5 199 mX3_demandOfProduct 1 := ⟨gw703, gw35, gw706, by decide +kernel, by decide +kernel⟩
theorem at_X5_206_in : ∀ w ∈ vx_atS RX5 206 "java/lang/IllegalArgumentException" ["java/lang/RuntimeException", "java/lang/Exception"], w ∈ lw_tbl := by decide +kernel
theorem at_X5_206 : ∀ w ∈ vx_atS RX5 206 "java/lang/IllegalArgumentException" ["java/lang/RuntimeException", "java/lang/Exception"], w ∈ z_G ∨ (∃ q ∈ z_casts, w = .castable q.1 q.2) ∨ ∃ q ∈ z_decls, w = .declares q := z_atS at_X5_206_in (by decide +kernel)
theorem at_X5_206_g : ∀ w ∈ Cond.classLink RX5 202 "java/lang/IllegalArgumentException" :: Cond.initialized "java/lang/IllegalArgumentException" :: vx_atS RX5 206 "java/lang/IllegalArgumentException" ["java/lang/RuntimeException", "java/lang/Exception"], vx_ot w = true := by decide +kernel
theorem at_X5_211_in : ∀ w ∈ vx_atS RX5 211 "java/lang/IndexOutOfBoundsException" ["java/lang/RuntimeException", "java/lang/Exception"], w ∈ lw_tbl := by decide +kernel
theorem at_X5_211 : ∀ w ∈ vx_atS RX5 211 "java/lang/IndexOutOfBoundsException" ["java/lang/RuntimeException", "java/lang/Exception"], w ∈ z_G ∨ (∃ q ∈ z_casts, w = .castable q.1 q.2) ∨ ∃ q ∈ z_decls, w = .declares q := z_atS at_X5_211_in (by decide +kernel)
theorem at_X5_211_g : ∀ w ∈ Cond.classLink RX5 207 "java/lang/IndexOutOfBoundsException" :: Cond.initialized "java/lang/IndexOutOfBoundsException" :: vx_atS RX5 211 "java/lang/IndexOutOfBoundsException" ["java/lang/RuntimeException", "java/lang/Exception"], vx_ot w = true := by decide +kernel
theorem gw398 : z_cw mJx4a65c_get_915e3 ∈ z_G := z_g 398 (by decide +kernel) (by decide +kernel)
theorem cs_X5_216 : z_cs RX5 216 mJx4a65c_get_915e3 1 := ⟨gw395, gw34, gw398, by decide +kernel, by decide +kernel⟩
theorem fl_X5_222 : z_fl RX5 "RightsCounter$Machine" 222 3 2 RX2 TX2 5 := ⟨rfl, by decide, gw460, inG_X2, Or.inl (by decide +kernel)⟩
theorem gw575 : z_cw mX3_clear ∈ z_G := z_g 575 (by decide +kernel) (by decide +kernel)
theorem cs_X5_226 : z_cs RX5 226 mX3_clear 0 := ⟨gw572, gw35, gw575, by decide +kernel, by decide +kernel⟩
theorem gw580 : z_cw mX3_raise ∈ z_G := z_g 580 (by decide +kernel) (by decide +kernel)
theorem cs_X5_229 : z_cs RX5 229 mX3_raise 3 := ⟨gw577, gw35, gw580, by decide +kernel, by decide +kernel⟩
theorem gw584 : z_cw mX5_unitsForCores ∈ z_G := z_g 584 (by decide +kernel) (by decide +kernel)
theorem cs_X5_232 : z_cs RX5 232 mX5_unitsForCores 2 := ⟨gw582, gw31, gw584, by decide +kernel, by decide +kernel⟩
theorem gw588 : z_cw mX3_addIfRaised ∈ z_G := z_g 588 (by decide +kernel) (by decide +kernel)
theorem cs_X5_235 : z_cs RX5 235 mX3_addIfRaised 3 := ⟨gw585, gw35, gw588, by decide +kernel, by decide +kernel⟩
theorem gw630 : z_cw mX4_canGive ∈ z_G := z_g 630 (by decide +kernel) (by decide +kernel)
theorem cs_X5_238 : z_cs RX5 238 mX4_canGive 3 := ⟨gw627, gw44, gw630, by decide +kernel, by decide +kernel⟩
theorem gw634 : z_cw mX0_start ∈ z_G := z_g 634 (by decide +kernel) (by decide +kernel)
theorem cs_X5_242 : z_cs RX5 242 mX0_start 0 := ⟨gw631, gw36, gw634, by decide +kernel, by decide +kernel⟩
theorem gw638 : z_cw mX0_putUnits ∈ z_G := z_g 638 (by decide +kernel) (by decide +kernel)
theorem cs_X5_245 : z_cs RX5 245 mX0_putUnits 2 := ⟨gw635, gw36, gw638, by decide +kernel, by decide +kernel⟩
theorem fl_X6_7 : z_fl RX6 "RightsCounterModel" 7 7 2 RX6 TX6 23 := ⟨rfl, by decide, gw715, inG_X6, Or.inl (by decide +kernel)⟩
theorem fw_X6_2 : z_fw 2 TX6 23 (tyX6 2) tyX6 := ⟨by decide +kernel, tyX6_ok, nmX6⟩
theorem fl_X6_13 : z_fl RX6 "RightsCounterModel" 13 7 3 RX6 TX6 23 := ⟨rfl, by decide, gw716, inG_X6, Or.inl (by decide +kernel)⟩
theorem fw_X6_3 : z_fw 3 TX6 23 (tyX6 3) tyX6 := ⟨by decide +kernel, tyX6_ok, nmX6⟩
theorem fl_X6_16 : z_fl RX6 "RightsCounterModel" 16 7 4 RX6 TX6 23 := ⟨rfl, by decide, gw717, inG_X6, Or.inl (by decide +kernel)⟩
theorem fw_X6_4 : z_fw 4 TX6 23 (tyX6 4) tyX6 := ⟨by decide +kernel, tyX6_ok, nmX6⟩
theorem fl_X6_19 : z_fl RX6 "RightsCounterModel" 19 7 5 RX6 TX6 23 := ⟨rfl, by decide, gw718, inG_X6, Or.inl (by decide +kernel)⟩
theorem fw_X6_5 : z_fw 5 TX6 23 (tyX6 5) tyX6 := ⟨by decide +kernel, tyX6_ok, nmX6⟩
theorem fl_X6_22 : z_fl RX6 "RightsCounterModel" 22 7 6 RX6 TX6 23 := ⟨rfl, by decide, gw719, inG_X6, Or.inl (by decide +kernel)⟩
theorem fw_X6_6 : z_fw 6 TX6 23 (tyX6 6) tyX6 := ⟨by decide +kernel, tyX6_ok, nmX6⟩
theorem fl_X6_25 : z_fl RX6 "RightsCounterModel" 25 7 8 RX6 TX6 23 := ⟨rfl, by decide, gw721, inG_X6, Or.inl (by decide +kernel)⟩
theorem fw_X6_8 : z_fw 8 TX6 23 (tyX6 8) tyX6 := ⟨by decide +kernel, tyX6_ok, nmX6⟩
theorem fl_X6_28 : z_fl RX6 "RightsCounterModel" 28 7 9 RX6 TX6 23 := ⟨rfl, by decide, gw722, inG_X6, Or.inl (by decide +kernel)⟩
theorem fw_X6_9 : z_fw 9 TX6 23 (tyX6 9) tyX6 := ⟨by decide +kernel, tyX6_ok, nmX6⟩
theorem fl_X6_31 : z_fl RX6 "RightsCounterModel" 31 7 10 RX6 TX6 23 := ⟨rfl, by decide, gw723, inG_X6, Or.inl (by decide +kernel)⟩
theorem fw_X6_10 : z_fw 10 TX6 23 (tyX6 10) tyX6 := ⟨by decide +kernel, tyX6_ok, nmX6⟩
theorem fl_X6_35 : z_fl RX6 "RightsCounterModel" 35 7 11 RX6 TX6 23 := ⟨rfl, by decide, gw724, inG_X6, Or.inl (by decide +kernel)⟩
theorem fw_X6_11 : z_fw 11 TX6 23 (tyX6 11) tyX6 := ⟨by decide +kernel, tyX6_ok, nmX6⟩
theorem fl_X6_38 : z_fl RX6 "RightsCounterModel" 38 7 12 RX6 TX6 23 := ⟨rfl, by decide, gw725, inG_X6, Or.inl (by decide +kernel)⟩
theorem fw_X6_12 : z_fw 12 TX6 23 (tyX6 12) tyX6 := ⟨by decide +kernel, tyX6_ok, nmX6⟩
theorem fl_X6_41 : z_fl RX6 "RightsCounterModel" 41 7 13 RX6 TX6 23 := ⟨rfl, by decide, gw726, inG_X6, Or.inl (by decide +kernel)⟩
theorem fw_X6_13 : z_fw 13 TX6 23 (tyX6 13) tyX6 := ⟨by decide +kernel, tyX6_ok, nmX6⟩
theorem fl_X6_44 : z_fl RX6 "RightsCounterModel" 44 7 14 RX6 TX6 23 := ⟨rfl, by decide, gw727, inG_X6, Or.inl (by decide +kernel)⟩
theorem fw_X6_14 : z_fw 14 TX6 23 (tyX6 14) tyX6 := ⟨by decide +kernel, tyX6_ok, nmX6⟩
theorem fl_X6_47 : z_fl RX6 "RightsCounterModel" 47 7 15 RX6 TX6 23 := ⟨rfl, by decide, gw728, inG_X6, Or.inl (by decide +kernel)⟩
theorem fw_X6_15 : z_fw 15 TX6 23 (tyX6 15) tyX6 := ⟨by decide +kernel, tyX6_ok, nmX6⟩
theorem fl_X6_50 : z_fl RX6 "RightsCounterModel" 50 7 17 RX6 TX6 23 := ⟨rfl, by decide, gw730, inG_X6, Or.inl (by decide +kernel)⟩
theorem fw_X6_17 : z_fw 17 TX6 23 (tyX6 17) tyX6 := ⟨by decide +kernel, tyX6_ok, nmX6⟩
theorem fl_X6_53 : z_fl RX6 "RightsCounterModel" 53 7 18 RX6 TX6 23 := ⟨rfl, by decide, gw731, inG_X6, Or.inl (by decide +kernel)⟩
theorem fw_X6_18 : z_fw 18 TX6 23 (tyX6 18) tyX6 := ⟨by decide +kernel, tyX6_ok, nmX6⟩
theorem fl_X6_56 : z_fl RX6 "RightsCounterModel" 56 7 19 RX6 TX6 23 := ⟨rfl, by decide, gw732, inG_X6, Or.inl (by decide +kernel)⟩
theorem fw_X6_19 : z_fw 19 TX6 23 (tyX6 19) tyX6 := ⟨by decide +kernel, tyX6_ok, nmX6⟩
theorem fl_X6_59 : z_fl RX6 "RightsCounterModel" 59 7 20 RX6 TX6 23 := ⟨rfl, by decide, gw733, inG_X6, Or.inl (by decide +kernel)⟩
theorem fw_X6_20 : z_fw 20 TX6 23 (tyX6 20) tyX6 := ⟨by decide +kernel, tyX6_ok, nmX6⟩
theorem fl_X6_62 : z_fl RX6 "RightsCounterModel" 62 7 21 RX6 TX6 23 := ⟨rfl, by decide, gw734, inG_X6, Or.inl (by decide +kernel)⟩
theorem fw_X6_21 : z_fw 21 TX6 23 (tyX6 21) tyX6 := ⟨by decide +kernel, tyX6_ok, nmX6⟩
theorem fl_X6_65 : z_fl RX6 "RightsCounterModel" 65 7 22 RX6 TX6 23 := ⟨rfl, by decide, gw735, inG_X6, Or.inl (by decide +kernel)⟩
theorem fw_X6_22 : z_fw 22 TX6 23 (tyX6 22) tyX6 := ⟨by decide +kernel, tyX6_ok, nmX6⟩
theorem fl_X6_68 : z_fl RX6 "RightsCounterModel" 68 7 0 RX6 TX6 23 := ⟨rfl, by decide, gw713, inG_X6, Or.inl (by decide +kernel)⟩
theorem gw794 : z_cw mX6_in ∈ z_G := z_g 794 (by decide +kernel) (by decide +kernel)
theorem cs_X6_72 : z_cs RX6 72 mX6_in 3 := ⟨gw792, gw38, gw794, by decide +kernel, by decide +kernel⟩
theorem fl_X6_76 : z_fl RX6 "RightsCounterModel" 76 7 7 RX6 TX6 23 := ⟨rfl, by decide, gw720, inG_X6, Or.inl (by decide +kernel)⟩
theorem fl_X6_79 : z_fl RX6 "RightsCounterModel" 79 7 1 RX6 TX6 23 := ⟨rfl, by decide, gw714, inG_X6, Or.inl (by decide +kernel)⟩
theorem fw_X6_0 : z_fw 0 TX6 23 (tyX6 0) tyX6 := ⟨by decide +kernel, tyX6_ok, nmX6⟩
theorem fw_X6_1 : z_fw 1 TX6 23 (tyX6 1) tyX6 := ⟨by decide +kernel, tyX6_ok, nmX6⟩
theorem gw802 : z_cw mX6_isRight ∈ z_G := z_g 802 (by decide +kernel) (by decide +kernel)
theorem cs_X6_82 : z_cs RX6 82 mX6_isRight 1 := ⟨gw799, gw38, gw802, by decide +kernel, by decide +kernel⟩
theorem gw818 : z_cw mX6_isMachine ∈ z_G := z_g 818 (by decide +kernel) (by decide +kernel)
theorem cs_X6_86 : z_cs RX6 86 mX6_isMachine 1 := ⟨gw815, gw38, gw818, by decide +kernel, by decide +kernel⟩
theorem fw_X6_7 : z_fw 7 TX6 23 (tyX6 7) tyX6 := ⟨by decide +kernel, tyX6_ok, nmX6⟩
theorem gw830 : z_cw mX6_countsBy ∈ z_G := z_g 830 (by decide +kernel) (by decide +kernel)
theorem cs_X6_89 : z_cs RX6 89 mX6_countsBy 1 := ⟨gw827, gw38, gw830, by decide +kernel, by decide +kernel⟩
theorem gw837 : z_cw mX6_isProduct ∈ z_G := z_g 837 (by decide +kernel) (by decide +kernel)
theorem cs_X6_93 : z_cs RX6 93 mX6_isProduct 1 := ⟨gw835, gw38, gw837, by decide +kernel, by decide +kernel⟩
theorem gw848 : z_cw mX6_isDay ∈ z_G := z_g 848 (by decide +kernel) (by decide +kernel)
theorem cs_X6_96 : z_cs RX6 96 mX6_isDay 1 := ⟨gw846, gw38, gw848, by decide +kernel, by decide +kernel⟩
theorem gw851 : z_cw mX6_pairOf ∈ z_G := z_g 851 (by decide +kernel) (by decide +kernel)
theorem cs_X6_99 : z_cs RX6 99 mX6_pairOf 2 := ⟨gw849, gw38, gw851, by decide +kernel, by decide +kernel⟩
theorem gw855 : z_cw mX6_latest ∈ z_G := z_g 855 (by decide +kernel) (by decide +kernel)
theorem cs_X6_103 : z_cs RX6 103 mX6_latest 1 := ⟨gw852, gw38, gw855, by decide +kernel, by decide +kernel⟩
theorem gw859 : z_cw mX6_tells ∈ z_G := z_g 859 (by decide +kernel) (by decide +kernel)
theorem cs_X6_106 : z_cs RX6 106 mX6_tells 3 := ⟨gw856, gw38, gw859, by decide +kernel, by decide +kernel⟩
theorem gw871 : z_cw mX6_versionOn ∈ z_G := z_g 871 (by decide +kernel) (by decide +kernel)
theorem cs_X6_110 : z_cs RX6 110 mX6_versionOn 2 := ⟨gw868, gw38, gw871, by decide +kernel, by decide +kernel⟩
theorem fl_X6_113 : z_fl RX6 "RightsCounterModel" 113 7 16 RX6 TX6 23 := ⟨rfl, by decide, gw729, inG_X6, Or.inl (by decide +kernel)⟩
theorem fw_X6_16 : z_fw 16 TX6 23 (tyX6 16) tyX6 := ⟨by decide +kernel, tyX6_ok, nmX6⟩
theorem gw915 : z_cw mX6_leastCut ∈ z_G := z_g 915 (by decide +kernel) (by decide +kernel)
theorem cs_X6_116 : z_cs RX6 116 mX6_leastCut 0 := ⟨gw912, gw38, gw915, by decide +kernel, by decide +kernel⟩
theorem gw879 : z_cw mX6_laysNeeds ∈ z_G := z_g 879 (by decide +kernel) (by decide +kernel)
theorem cs_X6_120 : z_cs RX6 120 mX6_laysNeeds 1 := ⟨gw876, gw38, gw879, by decide +kernel, by decide +kernel⟩
theorem gw903 : z_cw mX6_beginsCut ∈ z_G := z_g 903 (by decide +kernel) (by decide +kernel)
theorem cs_X6_124 : z_cs RX6 124 mX6_beginsCut 0 := ⟨gw900, gw38, gw903, by decide +kernel, by decide +kernel⟩
theorem gw907 : z_cw mX6_rightsFor ∈ z_G := z_g 907 (by decide +kernel) (by decide +kernel)
theorem cs_X6_127 : z_cs RX6 127 mX6_rightsFor 3 := ⟨gw904, gw38, gw907, by decide +kernel, by decide +kernel⟩
theorem gw911 : z_cw mX6_serves ∈ z_G := z_g 911 (by decide +kernel) (by decide +kernel)
theorem cs_X6_131 : z_cs RX6 131 mX6_serves 2 := ⟨gw908, gw38, gw911, by decide +kernel, by decide +kernel⟩
theorem gw887 : z_cw mX6_asks ∈ z_G := z_g 887 (by decide +kernel) (by decide +kernel)
theorem cs_X6_134 : z_cs RX6 134 mX6_asks 2 := ⟨gw884, gw38, gw887, by decide +kernel, by decide +kernel⟩
theorem gw899 : z_cw mX6_laysGets ∈ z_G := z_g 899 (by decide +kernel) (by decide +kernel)
theorem cs_X6_138 : z_cs RX6 138 mX6_laysGets 1 := ⟨gw896, gw38, gw899, by decide +kernel, by decide +kernel⟩
theorem gw923 : z_cw mX6_lacks ∈ z_G := z_g 923 (by decide +kernel) (by decide +kernel)
theorem cs_X6_141 : z_cs RX6 141 mX6_lacks 1 := ⟨gw920, gw38, gw923, by decide +kernel, by decide +kernel⟩
theorem gw71 : z_cw mJxa1e45_init_da8c8 ∈ z_G := z_g 71 (by decide +kernel) (by decide +kernel)
theorem cs_Jxc12de_1 : z_cs RJxc12de 1 mJxa1e45_init_da8c8 0 := ⟨gw69, gw32, gw71, by decide +kernel, by decide +kernel⟩
theorem fl_Jxc12de_7 : z_fl RJxc12de "java/util/AbstractList" 7 0 0 RJx4a65c TJx4a65c 3 := ⟨rfl, by decide, gw77, inG_Jx4a65c, Or.inl (by decide +kernel)⟩
theorem fw_Jx4a65c_0 : z_fw 0 TJx4a65c 3 (tyJx4a65c 0) tyJx4a65c := ⟨by decide +kernel, tyJx4a65c_ok, nmJx4a65c⟩
theorem gw68 : z_cw mJxc12de_init_da8c8 ∈ z_G := z_g 68 (by decide +kernel) (by decide +kernel)
theorem cs_Jx4a65c_1 : z_cs RJx4a65c 1 mJxc12de_init_da8c8 0 := ⟨gw66, gw33, gw68, by decide +kernel, by decide +kernel⟩
theorem fl_Jx4a65c_9 : z_fl RJx4a65c "java/util/ArrayList" 9 0 1 RJx4a65c TJx4a65c 3 := ⟨rfl, by decide, gw75, inG_Jx4a65c, Or.inl (by decide +kernel)⟩
theorem fw_Jx4a65c_1 : z_fw 1 TJx4a65c 3 (tyJx4a65c 1) tyJx4a65c := ⟨by decide +kernel, tyJx4a65c_ok, nmJx4a65c⟩
theorem fl_Jx4a65c_48 : z_fl RJx4a65c "java/util/ArrayList" 48 0 2 RJx4a65c TJx4a65c 3 := ⟨rfl, by decide, gw76, inG_Jx4a65c, Or.inl (by decide +kernel)⟩
theorem gw324 : z_cw mJx4a65c_grow_92f84 ∈ z_G := z_g 324 (by decide +kernel) (by decide +kernel)
theorem cs_Jx4a65c_69 : z_cs RJx4a65c 69 mJx4a65c_grow_92f84 1 := ⟨gw321, gw34, gw324, by decide +kernel, by decide +kernel⟩
theorem gw401 : z_cw mJ15_checkIndex_7cf53 ∈ z_G := z_g 401 (by decide +kernel) (by decide +kernel)
theorem cs_Jx4a65c_118 : z_cs RJx4a65c 118 mJ15_checkIndex_7cf53 2 := ⟨gw399, gw49, gw401, by decide +kernel, by decide +kernel⟩
theorem gw408 : z_cw mJx4a65c_elementData_915e3 ∈ z_G := z_g 408 (by decide +kernel) (by decide +kernel)
theorem cs_Jx4a65c_123 : z_cs RJx4a65c 123 mJx4a65c_elementData_915e3 1 := ⟨gw405, gw34, gw408, by decide +kernel, by decide +kernel⟩
theorem gw320 : z_cw mJx4a65c_grow_d5877 ∈ z_G := z_g 320 (by decide +kernel) (by decide +kernel)
theorem cs_Jx4a65c_129 : z_cs RJx4a65c 129 mJx4a65c_grow_d5877 0 := ⟨gw317, gw34, gw320, by decide +kernel, by decide +kernel⟩
theorem fw_Jx4a65c_2 : z_fw 2 TJx4a65c 3 (tyJx4a65c 2) tyJx4a65c := ⟨by decide +kernel, tyJx4a65c_ok, nmJx4a65c⟩
theorem fl_Jx4a65c_63 : z_fl RJx4a65c "java/util/ArrayList" 63 0 0 RJx4a65c TJx4a65c 3 := ⟨rfl, by decide, gw78, inG_Jx4a65c, Or.inr gw79⟩
theorem gw316 : z_cw mJx4a65c_add_72be8 ∈ z_G := z_g 316 (by decide +kernel) (by decide +kernel)
theorem cs_Jx4a65c_131 : z_cs RJx4a65c 131 mJx4a65c_add_72be8 3 := ⟨gw313, gw34, gw316, by decide +kernel, by decide +kernel⟩
theorem gw404 : z_cw mJ3_checkIndex_8e157 ∈ z_G := z_g 404 (by decide +kernel) (by decide +kernel)
theorem cs_J15_105 : z_cs RJ15 105 mJ3_checkIndex_8e157 3 := ⟨gw402, gw50, gw404, by decide +kernel, by decide +kernel⟩
theorem gw197 : z_cw mX5_addRight ∈ z_G := z_g 197 (by decide +kernel) (by decide +kernel)
theorem cs_L_7 : z_cs RL 7 mX5_addRight 5 := ⟨gw194, gw31, gw197, by decide +kernel, by decide +kernel⟩
theorem gw374 : z_cw mX5_upgrade ∈ z_G := z_g 374 (by decide +kernel) (by decide +kernel)
theorem cs_L_17 : z_cs RL 17 mX5_upgrade 2 := ⟨gw371, gw31, gw374, by decide +kernel, by decide +kernel⟩
theorem gw416 : z_cw mX5_setUnits ∈ z_G := z_g 416 (by decide +kernel) (by decide +kernel)
theorem cs_L_23 : z_cs RL 23 mX5_setUnits 2 := ⟨gw413, gw31, gw416, by decide +kernel, by decide +kernel⟩
theorem gw423 : z_cw mX5_addMachine ∈ z_G := z_g 423 (by decide +kernel) (by decide +kernel)
theorem cs_L_26 : z_cs RL 26 mX5_addMachine 2 := ⟨gw420, gw31, gw423, by decide +kernel, by decide +kernel⟩
theorem gw482 : z_cw mX5_setCores ∈ z_G := z_g 482 (by decide +kernel) (by decide +kernel)
theorem cs_L_29 : z_cs RL 29 mX5_setCores 2 := ⟨gw479, gw31, gw482, by decide +kernel, by decide +kernel⟩
theorem gw489 : z_cw mX5_tellApart ∈ z_G := z_g 489 (by decide +kernel) (by decide +kernel)
theorem cs_L_32 : z_cs RL 32 mX5_tellApart 2 := ⟨gw486, gw31, gw489, by decide +kernel, by decide +kernel⟩
theorem gw500 : z_cw mX5_setCoresOfUnit ∈ z_G := z_g 500 (by decide +kernel) (by decide +kernel)
theorem cs_L_36 : z_cs RL 36 mX5_setCoresOfUnit 2 := ⟨gw497, gw31, gw500, by decide +kernel, by decide +kernel⟩
theorem gw511 : z_cw mX5_install ∈ z_G := z_g 511 (by decide +kernel) (by decide +kernel)
theorem cs_L_39 : z_cs RL 39 mX5_install 4 := ⟨gw508, gw31, gw511, by decide +kernel, by decide +kernel⟩
theorem gw543 : z_cw mX5_uninstall ∈ z_G := z_g 543 (by decide +kernel) (by decide +kernel)
theorem cs_L_43 : z_cs RL 43 mX5_uninstall 3 := ⟨gw540, gw31, gw543, by decide +kernel, by decide +kernel⟩
theorem gw556 : z_cw mX5_runs ∈ z_G := z_g 556 (by decide +kernel) (by decide +kernel)
theorem cs_L_47 : z_cs RL 47 mX5_runs 3 := ⟨gw553, gw31, gw556, by decide +kernel, by decide +kernel⟩
theorem gw567 : z_cw mX5_needs ∈ z_G := z_g 567 (by decide +kernel) (by decide +kernel)
theorem cs_L_50 : z_cs RL 50 mX5_needs 1 := ⟨gw564, gw31, gw567, by decide +kernel, by decide +kernel⟩
theorem gw595 : z_cw mX5_need ∈ z_G := z_g 595 (by decide +kernel) (by decide +kernel)
theorem cs_L_54 : z_cs RL 54 mX5_need 2 := ⟨gw592, gw31, gw595, by decide +kernel, by decide +kernel⟩
theorem gw607 : z_cw mX5_demand ∈ z_G := z_g 607 (by decide +kernel) (by decide +kernel)
theorem cs_L_57 : z_cs RL 57 mX5_demand 2 := ⟨gw604, gw31, gw607, by decide +kernel, by decide +kernel⟩
theorem gw614 : z_cw mX5_gets ∈ z_G := z_g 614 (by decide +kernel) (by decide +kernel)
theorem cs_L_60 : z_cs RL 60 mX5_gets 2 := ⟨gw611, gw31, gw614, by decide +kernel, by decide +kernel⟩
theorem gw663 : z_cw mX5_lack ∈ z_G := z_g 663 (by decide +kernel) (by decide +kernel)
theorem cs_L_63 : z_cs RL 63 mX5_lack 1 := ⟨gw660, gw31, gw663, by decide +kernel, by decide +kernel⟩
theorem gw674 : z_cw mX5_lackBySets ∈ z_G := z_g 674 (by decide +kernel) (by decide +kernel)
theorem cs_L_66 : z_cs RL 66 mX5_lackBySets 1 := ⟨gw671, gw31, gw674, by decide +kernel, by decide +kernel⟩
theorem gw695 : z_cw mX5_spare ∈ z_G := z_g 695 (by decide +kernel) (by decide +kernel)
theorem cs_L_69 : z_cs RL 69 mX5_spare 3 := ⟨gw692, gw31, gw695, by decide +kernel, by decide +kernel⟩
theorem gw702 : z_cw mX5_most ∈ z_G := z_g 702 (by decide +kernel) (by decide +kernel)
theorem cs_L_72 : z_cs RL 72 mX5_most 2 := ⟨gw699, gw31, gw702, by decide +kernel, by decide +kernel⟩
theorem gw57 : z_cw mX5_init ∈ z_G := z_g 57 (by decide +kernel) (by decide +kernel)
theorem cs_L_75 : z_cs RL 75 mX5_init 0 := ⟨gw55, gw31, gw57, by decide +kernel, by decide +kernel⟩
theorem gw711 : z_cw mX6_init ∈ z_G := z_g 711 (by decide +kernel) (by decide +kernel)
theorem cs_L_78 : z_cs RL 78 mX6_init 0 := ⟨gw709, gw38, gw711, by decide +kernel, by decide +kernel⟩
theorem gw191 : z_cw mL_addRight ∈ z_G := z_g 191 (by decide +kernel) (by decide +kernel)
theorem cs_L_79 : z_cs RL 79 mL_addRight 7 := ⟨gw189, gw30, gw191, by decide +kernel, by decide +kernel⟩
theorem gw791 : z_cw mX6_addRight ∈ z_G := z_g 791 (by decide +kernel) (by decide +kernel)
theorem cs_L_84 : z_cs RL 84 mX6_addRight 5 := ⟨gw788, gw38, gw791, by decide +kernel, by decide +kernel⟩
theorem gw787 : z_cw mX6_thrown ∈ z_G := z_g 787 (by decide +kernel) (by decide +kernel)
theorem cs_L_85 : z_cs RL 85 mX6_thrown 0 := ⟨gw784, gw38, gw787, by decide +kernel, by decide +kernel⟩
theorem gw369 : z_cw mL_upgrade ∈ z_G := z_g 369 (by decide +kernel) (by decide +kernel)
theorem cs_L_89 : z_cs RL 89 mL_upgrade 4 := ⟨gw367, gw30, gw369, by decide +kernel, by decide +kernel⟩
theorem gw798 : z_cw mX6_upgrade ∈ z_G := z_g 798 (by decide +kernel) (by decide +kernel)
theorem cs_L_92 : z_cs RL 92 mX6_upgrade 2 := ⟨gw795, gw38, gw798, by decide +kernel, by decide +kernel⟩
theorem gw412 : z_cw mL_setUnits ∈ z_G := z_g 412 (by decide +kernel) (by decide +kernel)
theorem cs_L_93 : z_cs RL 93 mL_setUnits 4 := ⟨gw410, gw30, gw412, by decide +kernel, by decide +kernel⟩
theorem gw806 : z_cw mX6_setUnits ∈ z_G := z_g 806 (by decide +kernel) (by decide +kernel)
theorem cs_L_95 : z_cs RL 95 mX6_setUnits 2 := ⟨gw803, gw38, gw806, by decide +kernel, by decide +kernel⟩
theorem gw180 : z_cw mX5_rights ∈ z_G := z_g 180 (by decide +kernel) (by decide +kernel)
theorem cs_L_96 : z_cs RL 96 mX5_rights 0 := ⟨gw177, gw31, gw180, by decide +kernel, by decide +kernel⟩
theorem gw810 : z_cw mX6_rights ∈ z_G := z_g 810 (by decide +kernel) (by decide +kernel)
theorem cs_L_99 : z_cs RL 99 mX6_rights 0 := ⟨gw807, gw38, gw810, by decide +kernel, by decide +kernel⟩
theorem gw419 : z_cw mL_addMachine ∈ z_G := z_g 419 (by decide +kernel) (by decide +kernel)
theorem cs_L_100 : z_cs RL 100 mL_addMachine 4 := ⟨gw417, gw30, gw419, by decide +kernel, by decide +kernel⟩
theorem gw814 : z_cw mX6_addMachine ∈ z_G := z_g 814 (by decide +kernel) (by decide +kernel)
theorem cs_L_102 : z_cs RL 102 mX6_addMachine 2 := ⟨gw811, gw38, gw814, by decide +kernel, by decide +kernel⟩
theorem gw478 : z_cw mL_setCores ∈ z_G := z_g 478 (by decide +kernel) (by decide +kernel)
theorem cs_L_103 : z_cs RL 103 mL_setCores 4 := ⟨gw476, gw30, gw478, by decide +kernel, by decide +kernel⟩
theorem gw822 : z_cw mX6_setCores ∈ z_G := z_g 822 (by decide +kernel) (by decide +kernel)
theorem cs_L_105 : z_cs RL 105 mX6_setCores 2 := ⟨gw819, gw38, gw822, by decide +kernel, by decide +kernel⟩
theorem gw485 : z_cw mL_tellApart ∈ z_G := z_g 485 (by decide +kernel) (by decide +kernel)
theorem cs_L_106 : z_cs RL 106 mL_tellApart 4 := ⟨gw483, gw30, gw485, by decide +kernel, by decide +kernel⟩
theorem gw826 : z_cw mX6_tellApart ∈ z_G := z_g 826 (by decide +kernel) (by decide +kernel)
theorem cs_L_109 : z_cs RL 109 mX6_tellApart 2 := ⟨gw823, gw38, gw826, by decide +kernel, by decide +kernel⟩
theorem gw496 : z_cw mL_setCoresOfUnit ∈ z_G := z_g 496 (by decide +kernel) (by decide +kernel)
theorem cs_L_110 : z_cs RL 110 mL_setCoresOfUnit 4 := ⟨gw494, gw30, gw496, by decide +kernel, by decide +kernel⟩
theorem gw834 : z_cw mX6_setCoresOfUnit ∈ z_G := z_g 834 (by decide +kernel) (by decide +kernel)
theorem cs_L_112 : z_cs RL 112 mX6_setCoresOfUnit 2 := ⟨gw831, gw38, gw834, by decide +kernel, by decide +kernel⟩
theorem gw188 : z_cw mX5_machines ∈ z_G := z_g 188 (by decide +kernel) (by decide +kernel)
theorem cs_L_113 : z_cs RL 113 mX5_machines 0 := ⟨gw185, gw31, gw188, by decide +kernel, by decide +kernel⟩
theorem gw841 : z_cw mX6_machines ∈ z_G := z_g 841 (by decide +kernel) (by decide +kernel)
theorem cs_L_116 : z_cs RL 116 mX6_machines 0 := ⟨gw838, gw38, gw841, by decide +kernel, by decide +kernel⟩
theorem gw507 : z_cw mL_install ∈ z_G := z_g 507 (by decide +kernel) (by decide +kernel)
theorem cs_L_117 : z_cs RL 117 mL_install 6 := ⟨gw505, gw30, gw507, by decide +kernel, by decide +kernel⟩
theorem gw845 : z_cw mX6_install ∈ z_G := z_g 845 (by decide +kernel) (by decide +kernel)
theorem cs_L_120 : z_cs RL 120 mX6_install 4 := ⟨gw842, gw38, gw845, by decide +kernel, by decide +kernel⟩
theorem gw539 : z_cw mL_uninstall ∈ z_G := z_g 539 (by decide +kernel) (by decide +kernel)
theorem cs_L_121 : z_cs RL 121 mL_uninstall 5 := ⟨gw537, gw30, gw539, by decide +kernel, by decide +kernel⟩
theorem gw863 : z_cw mX6_uninstall ∈ z_G := z_g 863 (by decide +kernel) (by decide +kernel)
theorem cs_L_124 : z_cs RL 124 mX6_uninstall 3 := ⟨gw860, gw38, gw863, by decide +kernel, by decide +kernel⟩
theorem gw552 : z_cw mL_runs ∈ z_G := z_g 552 (by decide +kernel) (by decide +kernel)
theorem cs_L_125 : z_cs RL 125 mL_runs 5 := ⟨gw550, gw30, gw552, by decide +kernel, by decide +kernel⟩
theorem gw867 : z_cw mX6_runs ∈ z_G := z_g 867 (by decide +kernel) (by decide +kernel)
theorem cs_L_127 : z_cs RL 127 mX6_runs 3 := ⟨gw864, gw38, gw867, by decide +kernel, by decide +kernel⟩
theorem gw563 : z_cw mL_needs ∈ z_G := z_g 563 (by decide +kernel) (by decide +kernel)
theorem cs_L_128 : z_cs RL 128 mL_needs 3 := ⟨gw561, gw30, gw563, by decide +kernel, by decide +kernel⟩
theorem gw875 : z_cw mX6_needs ∈ z_G := z_g 875 (by decide +kernel) (by decide +kernel)
theorem cs_L_131 : z_cs RL 131 mX6_needs 1 := ⟨gw872, gw38, gw875, by decide +kernel, by decide +kernel⟩
theorem gw591 : z_cw mL_need ∈ z_G := z_g 591 (by decide +kernel) (by decide +kernel)
theorem cs_L_132 : z_cs RL 132 mL_need 4 := ⟨gw589, gw30, gw591, by decide +kernel, by decide +kernel⟩
theorem gw883 : z_cw mX6_need ∈ z_G := z_g 883 (by decide +kernel) (by decide +kernel)
theorem cs_L_134 : z_cs RL 134 mX6_need 2 := ⟨gw880, gw38, gw883, by decide +kernel, by decide +kernel⟩
theorem gw603 : z_cw mL_demand ∈ z_G := z_g 603 (by decide +kernel) (by decide +kernel)
theorem cs_L_135 : z_cs RL 135 mL_demand 4 := ⟨gw601, gw30, gw603, by decide +kernel, by decide +kernel⟩
theorem gw891 : z_cw mX6_demand ∈ z_G := z_g 891 (by decide +kernel) (by decide +kernel)
theorem cs_L_137 : z_cs RL 137 mX6_demand 2 := ⟨gw888, gw38, gw891, by decide +kernel, by decide +kernel⟩
theorem gw610 : z_cw mL_gets ∈ z_G := z_g 610 (by decide +kernel) (by decide +kernel)
theorem cs_L_138 : z_cs RL 138 mL_gets 4 := ⟨gw608, gw30, gw610, by decide +kernel, by decide +kernel⟩
theorem gw895 : z_cw mX6_gets ∈ z_G := z_g 895 (by decide +kernel) (by decide +kernel)
theorem cs_L_140 : z_cs RL 140 mX6_gets 2 := ⟨gw892, gw38, gw895, by decide +kernel, by decide +kernel⟩
theorem gw659 : z_cw mL_lack ∈ z_G := z_g 659 (by decide +kernel) (by decide +kernel)
theorem cs_L_141 : z_cs RL 141 mL_lack 3 := ⟨gw657, gw30, gw659, by decide +kernel, by decide +kernel⟩
theorem gw919 : z_cw mX6_lack ∈ z_G := z_g 919 (by decide +kernel) (by decide +kernel)
theorem cs_L_143 : z_cs RL 143 mX6_lack 1 := ⟨gw916, gw38, gw919, by decide +kernel, by decide +kernel⟩
theorem gw670 : z_cw mL_lackBySets ∈ z_G := z_g 670 (by decide +kernel) (by decide +kernel)
theorem cs_L_144 : z_cs RL 144 mL_lackBySets 3 := ⟨gw668, gw30, gw670, by decide +kernel, by decide +kernel⟩
theorem gw927 : z_cw mX6_lackBySets ∈ z_G := z_g 927 (by decide +kernel) (by decide +kernel)
theorem cs_L_146 : z_cs RL 146 mX6_lackBySets 1 := ⟨gw924, gw38, gw927, by decide +kernel, by decide +kernel⟩
theorem gw691 : z_cw mL_spare ∈ z_G := z_g 691 (by decide +kernel) (by decide +kernel)
theorem cs_L_147 : z_cs RL 147 mL_spare 5 := ⟨gw689, gw30, gw691, by decide +kernel, by decide +kernel⟩
theorem gw931 : z_cw mX6_spare ∈ z_G := z_g 931 (by decide +kernel) (by decide +kernel)
theorem cs_L_149 : z_cs RL 149 mX6_spare 3 := ⟨gw928, gw38, gw931, by decide +kernel, by decide +kernel⟩
theorem gw698 : z_cw mL_most ∈ z_G := z_g 698 (by decide +kernel) (by decide +kernel)
theorem cs_L_150 : z_cs RL 150 mL_most 4 := ⟨gw696, gw30, gw698, by decide +kernel, by decide +kernel⟩
theorem gw936 : z_cw mX6_most ∈ z_G := z_g 936 (by decide +kernel) (by decide +kernel)
theorem cs_L_152 : z_cs RL 152 mX6_most 2 := ⟨gw933, gw38, gw936, by decide +kernel, by decide +kernel⟩
end
