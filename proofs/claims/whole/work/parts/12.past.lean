section ZPa
/-- what stood ahead of the last ACTS, at b: how many, where the next comes, twenty shelves -/
def zPast (cI cP cS : ClassId) (f : Nat → va_E) (b : Nat) (cnt nx : Int) (P N : Nat → Int) (C : Nat → Nat → Nat → Int) (LT : Nat → Nat → Int) : Prop :=
  f b = .inr (1, [.int (zI cnt), .int (zI nx), .ref (b + 1)]) ∧ f (b + 1) = zAR cS 20 (fun k => some (b + 2 + 15 * k)) ∧ ∀ k, k < 20 → zShelf cI cP f (b + 2 + 15 * k) (P k) (N k) (C k) (LT k)
theorem zPast.same {cI cP cS : ClassId} {f g : Nat → va_E} {b : Nat} {cnt nx : Int} {P N : Nat → Int} {C : Nat → Nat → Nat → Int} {LT : Nat → Nat → Int} (h : zPast cI cP cS f b cnt nx P N C LT) (hs : ∀ q, b ≤ q → q < b + 302 → g q = f q) : zPast cI cP cS g b cnt nx P N C LT :=
  ⟨(hs _ (by omega) (by omega)).trans h.1, (hs _ (by omega) (by omega)).trans h.2.1, fun i hi => (h.2.2 i hi).same (fun b h1 h2 => hs b (by omega) (by omega))⟩
/-- f, but x at k -/
def zset {α : Type} (f : Nat → α) (k : Nat) (x : α) : Nat → α := fun j => if j = k then x else f j
theorem zset_self {α : Type} (f : Nat → α) (k : Nat) (x : α) : zset f k x k = x := by simp [zset]
theorem zset_ne {α : Type} (f : Nat → α) {k j : Nat} (x : α) (h : j ≠ k) : zset f k x j = f j := by simp [zset, h]
set_option maxRecDepth 100000 in
set_option maxHeartbeats 4000000 in
/-- Past.forget -/
theorem c_forget (l : Launch) {D : va_G} {cI cJ cZ cP cS cM : ClassId} {L : List Nat} {sz : Nat} {f : Nat → va_E} (b : Nat) (cnt nx : Int) (P N : Nat → Int) (C : Nat → Nat → Nat → Int) (LT : Nat → Nat → Int) (hP : zPast cI cP cS f b cnt nx P N C LT) : zMv l yX1_forget wsX1_forget 0 0 D (zT cI cJ cZ cP cS cM) L sz f [.ref b] (fun g => zFr f g b (b + 302) ∧ zPast cI cP cS g b 0 nx P N C LT) := by
  refine zWalk.met (nL := 1) (ret := none) (cc := cX1_forget) (by decide) rfl (Nat.le_of_ble_eq_true rfl) ?_
  intro pg en st mi ag bl mt cd ls CX hW hl
  have CX : zC pg st mi ag mt cd cX1_forget 1 none RX1 wsX1_forget := CX
  generalize hQ : MQ bl _ ag st 0 0 _ = Q
  have hX0 := CX.1
  have hB0 := CX.2.1
  have hl : lv_has ls 1 [(0, .ref b)] := hl
  obtain ⟨H, eH⟩ : ∃ H, H = st.heap := ⟨_, rfl⟩
  obtain ⟨locs, eL⟩ : ∃ L : List Loc, L = [] := ⟨_, rfl⟩
  have hW : zW D (zT cI cJ cZ cP cS cM) L (zQ L sz) st f st.heap H locs := by rw [eH, eL]; exact hW
  suffices hgo : W pg l en ({ frames := 0, cells := 0, slots := 0, locals := 0 } : Room) st mi ag bl mt cd H locs 0 0 Q (F0 mi 0 ls []) by rw [eH, eL] at hgo; exact hgo
  clear eH eL
  refine lv_aload_n hX0 hB0 dX1_forget_0 rfl (lv_at hl 0 rfl) ?_
  refine lv_iconst (v := zI 0) hX0 hB0 dX1_forget_1 rfl ?_
  refine z_put (Cn := RX1) (T := TX1) (N := 3) CX hW (v := .int (zI 0)) hP.1 rfl (fun w h => List.mem_cons_of_mem _ (List.mem_append_right _ h)) tyX1 tyX1_ok nmX1 0 (by decide) (List.mem_of_getElem? (i := 1) rfl) rfl rfl rfl rfl (Nat.le_of_ble_eq_true rfl) (g := va_up f b (.inr (1, [.int (zI 0), .int (zI nx), .ref (b + 1)]))) rfl dX1_forget_2 (fun H locs hW => ?_)
  rw [← hQ]
  exact z_vret CX hW (by exact ⟨zFr.refl.up (by omega), (va_up_self _ _ _), ((va_up_ne _ _ (by omega)).trans hP.2.1), fun k hk => (hP.2.2 k hk).same (fun q h1 h2 => ((va_up_ne _ _ (by omega)).trans rfl))⟩) dX1_forget_5
/-- the sign of a number within a round of twenty, put against 20 bit by bit -/
def zxr (x : Int) : Int := (zI x ^^^ zI 20).toInt
theorem zxr_of (x : Int) : zI x ^^^ zI 20 = zI (zxr x) := (Int32.ofInt_toInt _).symm
theorem zxr_r (x : Int) : -2147483648 ≤ zxr x ∧ zxr x ≤ 2147483647 := ⟨Int32.le_toInt _, by have := Int32.toInt_lt (zI x ^^^ zI 20); show (zI x ^^^ zI 20).toInt ≤ _; omega⟩
theorem zxr_s {x : Int} (hx : -1 ≤ x ∧ x ≤ 20) : (0 ≤ zxr x ↔ 0 ≤ x) := by
  have key : ∀ k : Fin 22, (0 ≤ zxr ((k.val : Int) - 1) ↔ 0 ≤ (k.val : Int) - 1) := by decide +kernel
  have := key ⟨(x + 1).toNat, by omega⟩
  rw [show (((x + 1).toNat : Nat) : Int) - 1 = x by omega] at this
  exact this
theorem ztm20 {x : Int} (hx : -1 ≤ x ∧ x ≤ 20) : x.tmod 20 = if x = 20 then 0 else x := by
  have key : ∀ k : Fin 22, ((k.val : Int) - 1).tmod 20 = if (k.val : Int) - 1 = 20 then 0 else (k.val : Int) - 1 := by decide +kernel
  have := key ⟨(x + 1).toNat, by omega⟩
  rw [show (((x + 1).toNat : Nat) : Int) - 1 = x by omega] at this
  exact this
/-- a method's walk, from its entry: of a class of which the machine runs some methods itself, not this one -/
theorem zWalk.metF {l : Launch} {y : MethodName} {D : va_G} {tys : List (ClassId × FieldType)} {L : List Nat} {f : Nat → va_E} {cc : ByteArray} {nL : Nat} {ret : Option FieldType} {Ts ws' : List Cond} {sz : Nat} {as : List Value} {rm : Room} {Qc : Array Value → State → Outcome → State → Prop} (hy : plainFor y = true) (hw : Ts = Cond.code y cc nL ret :: ws') (hn : (lg_sl as).length ≤ nL) (h : zWalk l y Ts rm D tys L sz f cc nL ret as Qc) : Met l y Ts rm (zB D tys L sz f as) Qc 0 0 (zQ L sz) := by
  refine va_MetF (cc := cc) (maxL := nL) (ret := ret) hy hw ?_
  intro p e s m args below meth c s₁ B hml hv
  obtain ⟨rfl, ⟨hsz, hP, hD0, ⟨hK, hO⟩, hT⟩, hJ⟩ := hv
  have hl := lv_entry as (n := nL) hn
  rw [lg_entry_eq]
  subst hsz
  refine h p e s m _ below meth c _ ⟨B.exec, B.bytes, hml, findClass_of_methodNamed B.named, atoms_spec (ws := Ts) B.pre, B.notSynchronized, B.returns, hO⟩ ⟨hP, ⟨hD0.1, fun k q hk => ?_⟩, va_S.rf, hK, hJ, fun q h => Or.inr h, hT⟩ hl
  left
  unfold va_pl at hk
  rw [List.getElem?_map] at hk
  cases hL : L[k]? with
  | none => rw [hL] at hk; cases hk
  | some a =>
    rw [hL] at hk
    cases hk
    exact List.mem_of_getElem? hL
set_option maxRecDepth 100000 in
set_option maxHeartbeats 4000000 in
/-- Math.floorMod by 20 -/
theorem c_floorMod20 (l : Launch) {D : va_G} {cI cJ cZ cP cS cM : ClassId} {L : List Nat} {sz : Nat} {f : Nat → va_E} (x r : Int) (hx : -1 ≤ x ∧ x ≤ 20) (hr : x % 20 = r) : zMi l yJ9_floorMod_7cf53 wsJ9_floorMod_7cf53 0 0 D (zT cI cJ cZ cP cS cM) L sz f [.int (zI x), .int (zI 20)] (fun z g => z = r ∧ g = f) := by
  refine zWalk.metF (nL := 3) (ret := (some .int)) (cc := cJ9_floorMod_7cf53) (by decide +kernel) rfl (Nat.le_of_ble_eq_true rfl) ?_
  intro pg en st mi ag bl mt cd ls CX hW hl
  have CX : zC pg st mi ag mt cd cJ9_floorMod_7cf53 3 (some .int) RJ9 wsJ9_floorMod_7cf53 := CX
  generalize hQ : MQ bl _ ag st 0 0 _ = Q
  have hX0 := CX.1
  have hB0 := CX.2.1
  have hl : lv_has ls 3 [(0, .int (zI x)), (1, .int (zI 20))] := hl
  obtain ⟨H, eH⟩ : ∃ H, H = st.heap := ⟨_, rfl⟩
  obtain ⟨locs, eL⟩ : ∃ L : List Loc, L = [] := ⟨_, rfl⟩
  have hW : zW D (zT cI cJ cZ cP cS cM) L (zQ L sz) st f st.heap H locs := by rw [eH, eL]; exact hW
  suffices hgo : W pg l en ({ frames := 0, cells := 0, slots := 0, locals := 0 } : Room) st mi ag bl mt cd H locs 0 0 Q (F0 mi 0 ls []) by rw [eH, eL] at hgo; exact hgo
  clear eH eL
  have hxr := zxr_r x
  have hxs := zxr_s hx
  obtain ⟨t, ht⟩ : ∃ t, t = (if x = 20 then (0 : Int) else x) := ⟨_, rfl⟩
  have htr : x.tmod 20 = t := (ztm20 hx).trans ht.symm
  have ht2 : (x = 20 ∧ t = 0) ∨ (x ≠ 20 ∧ t = x) := by rw [ht]; by_cases e : x = 20; exact Or.inl ⟨e, if_pos e⟩; exact Or.inr ⟨e, if_neg e⟩
  clear ht
  refine lv_iload_n hX0 hB0 dJ9_floorMod_7cf53_0 rfl (lv_at hl 0 rfl) ?_
  refine lv_iload_n hX0 hB0 dJ9_floorMod_7cf53_1 rfl (lv_at hl 1 rfl) ?_
  refine z_irem (z := t) CX dJ9_floorMod_7cf53_2 (by constructor <;> omega) (by constructor <;> omega) htr ?_
  refine lv_istore_n (lv' := [(2, .int (zI t)), (0, .int (zI x)), (1, .int (zI 20))]) hX0 hB0 dJ9_floorMod_7cf53_3 rfl hl (by decide) rfl (fun ls hl => ?_)
  refine lv_iload_n hX0 hB0 dJ9_floorMod_7cf53_4 rfl (lv_at hl 1 rfl) ?_
  refine lv_iload_n hX0 hB0 dJ9_floorMod_7cf53_5 rfl (lv_at hl 2 rfl) ?_
  refine lv_ixor hX0 hB0 dJ9_floorMod_7cf53_6 ?_
  rw [zxr_of x]
  refine z_if_ge (tgt := 18) CX dJ9_floorMod_7cf53_7 (by decide) (by constructor <;> omega) (fun c_7 => ?_) (fun c_7 => ?_)
  ·
    refine lv_iload_n hX0 hB0 dJ9_floorMod_7cf53_18 rfl (lv_at hl 0 rfl) ?_
    rw [← hQ]
    exact z_iret (z := t) CX hW (by exact ⟨by omega, rfl⟩) rfl dJ9_floorMod_7cf53_19
  ·
    refine lv_iload_n hX0 hB0 dJ9_floorMod_7cf53_10 rfl (lv_at hl 0 rfl) ?_
    refine z_if_eq (tgt := 18) CX dJ9_floorMod_7cf53_11 (by decide) (by constructor <;> omega) (fun c_11 => ?_) (fun c_11 => ?_)
    ·
      refine lv_iload_n hX0 hB0 dJ9_floorMod_7cf53_18 rfl (lv_at hl 0 rfl) ?_
      rw [← hQ]
      exact z_iret (z := t) CX hW (by exact ⟨by omega, rfl⟩) rfl dJ9_floorMod_7cf53_19
    ·
      refine lv_iload_n hX0 hB0 dJ9_floorMod_7cf53_14 rfl (lv_at hl 0 rfl) ?_
      refine lv_iload_n hX0 hB0 dJ9_floorMod_7cf53_15 rfl (lv_at hl 2 rfl) ?_
      refine z_iadd (z := t + 20) CX dJ9_floorMod_7cf53_16 rfl ?_
      rw [← hQ]
      exact z_iret (z := t + 20) CX hW (by exact ⟨by omega, rfl⟩) rfl dJ9_floorMod_7cf53_17
set_option maxRecDepth 100000 in
set_option maxHeartbeats 4000000 in
/-- Past.around -/
theorem c_around (l : Launch) {D : va_G} {cI cJ cZ cP cS cM : ClassId} {L : List Nat} {sz : Nat} {f : Nat → va_E} (x r : Int) (hx : -1 ≤ x ∧ x ≤ 20) (hr : x % 20 = r) : zMi l yX1_around wsX1_around 1 22 D (zT cI cJ cZ cP cS cM) L sz f [.int (zI x)] (fun z g => z = r ∧ g = f) := by
  refine zWalk.met (nL := 1) (ret := (some .int)) (cc := cX1_around) (by decide) rfl (Nat.le_of_ble_eq_true rfl) ?_
  intro pg en st mi ag bl mt cd ls CX hW hl
  have CX : zC pg st mi ag mt cd cX1_around 1 (some .int) RX1 wsX1_around := CX
  generalize hQ : MQ bl _ ag st 0 0 _ = Q
  have hX0 := CX.1
  have hB0 := CX.2.1
  have hl : lv_has ls 1 [(0, .int (zI x))] := hl
  obtain ⟨H, eH⟩ : ∃ H, H = st.heap := ⟨_, rfl⟩
  obtain ⟨locs, eL⟩ : ∃ L : List Loc, L = [] := ⟨_, rfl⟩
  have hW : zW D (zT cI cJ cZ cP cS cM) L (zQ L sz) st f st.heap H locs := by rw [eH, eL]; exact hW
  suffices hgo : W pg l en ({ frames := 1, cells := 0, slots := 0, locals := 22 } : Room) st mi ag bl mt cd H locs 0 0 Q (F0 mi 0 ls []) by rw [eH, eL] at hgo; exact hgo
  clear eH eL
  refine lv_iload_n hX0 hB0 dX1_around_0 rfl (lv_at hl 0 rfl) ?_
  refine lv_bipush (v := zI 20) hX0 hB0 dX1_around_1 (by decide) ?_
  refine z_calli hW (va_runS (As := [.int (zI x), .int (zI 20)]) (rest := []) CX.fix (c_floorMod20 l (f := f) x r hx hr) (va_cwS 2 CX.fix.2.2.2.2 gX1_around_J9_floorMod_7cf53 rfl rfl rfl (by decide +kernel) ⟨Nat.le_of_ble_eq_true rfl, Nat.le_of_ble_eq_true rfl⟩) (z_preS CX hW) rfl rfl hl.1 rfl (lv_room (Nat.le_of_ble_eq_true rfl)) dX1_around_3 ⟨Nat.zero_le _, Nat.zero_le _⟩) (fun zv gn H locs hok3 hW => ?_)
  obtain ⟨ez, eg⟩ := hok3
  have eg : gn = f := eg
  rw [eg] at hW
  clear eg
  have ez : zv = r := ez
  rw [ez]
  clear ez
  rw [← hQ]
  exact z_iret (z := r) CX hW (by exact ⟨rfl, rfl⟩) rfl dX1_around_6
set_option maxRecDepth 100000 in
set_option maxHeartbeats 4000000 in
/-- Past.keep -/
theorem c_keep (l : Launch) {D : va_G} {cI cJ cZ cP cS cM : ClassId} {L : List Nat} {sz : Nat} {f : Nat → va_E} (b : Nat) (cnt nx : Int) (P N : Nat → Int) (C : Nat → Nat → Nat → Int) (LT : Nat → Nat → Int) (a : Nat) (p n : Int) (C1 : Nat → Nat → Int) (lt : Nat → Int) (hP : zPast cI cP cS f b cnt nx P N C LT) (hcnt : 0 ≤ cnt ∧ cnt ≤ 20) (hnx : 0 ≤ nx ∧ nx < 20) (hS : zShelf cI cP f a p n C1 lt) (hd : a + 15 ≤ b ∨ b + 302 ≤ a) : zMv l yX1_keep wsX1_keep 3 75 D (zT cI cJ cZ cP cS cM) L sz f [.ref b, .ref a] (fun g => zFr f g b (b + 302) ∧ zPast cI cP cS g b (min (cnt + 1) 20) (if nx + 1 < 20 then nx + 1 else 0) (zset P nx.toNat p) (zset N nx.toNat n) (zset C nx.toNat C1) (zset LT nx.toNat lt)) := by
  refine zWalk.met (nL := 2) (ret := none) (cc := cX1_keep) (by decide) rfl (Nat.le_of_ble_eq_true rfl) ?_
  intro pg en st mi ag bl mt cd ls CX hW hl
  have CX : zC pg st mi ag mt cd cX1_keep 2 none RX1 wsX1_keep := CX
  generalize hQ : MQ bl _ ag st 0 0 _ = Q
  have hX0 := CX.1
  have hB0 := CX.2.1
  have hl : lv_has ls 2 [(0, .ref b), (1, .ref a)] := hl
  obtain ⟨H, eH⟩ : ∃ H, H = st.heap := ⟨_, rfl⟩
  obtain ⟨locs, eL⟩ : ∃ L : List Loc, L = [] := ⟨_, rfl⟩
  have hW : zW D (zT cI cJ cZ cP cS cM) L (zQ L sz) st f st.heap H locs := by rw [eH, eL]; exact hW
  suffices hgo : W pg l en ({ frames := 3, cells := 0, slots := 0, locals := 75 } : Room) st mi ag bl mt cd H locs 0 0 Q (F0 mi 0 ls []) by rw [eH, eL] at hgo; exact hgo
  clear eH eL
  refine lv_aload_n hX0 hB0 dX1_keep_0 rfl (lv_at hl 0 rfl) ?_
  refine z_get (Cn := RX1) (T := TX1) (N := 3) CX hW (v := .ref (b + 1)) hP.1 rfl (fun w h => List.mem_cons_of_mem _ (List.mem_append_left _ (List.mem_append_left _ (List.mem_append_right _ h)))) 2 (by decide) (List.mem_of_getElem? (i := 1) rfl) rfl rfl dX1_keep_1 ?_
  refine lv_aload_n hX0 hB0 dX1_keep_4 rfl (lv_at hl 0 rfl) ?_
  refine z_get (Cn := RX1) (T := TX1) (N := 3) CX hW (v := .int (zI nx)) hP.1 rfl (fun w h => List.mem_cons_of_mem _ (List.mem_append_left _ (List.mem_append_left _ (List.mem_append_right _ h)))) 1 (by decide) (List.mem_of_getElem? (i := 2) rfl) rfl rfl dX1_keep_5 ?_
  refine z_calli hW (va_runS (As := [.int (zI nx)]) (rest := [.ref (b + 1)]) CX.fix (c_around l (f := f) nx nx (by omega) (by omega)) (va_cwS 1 CX.fix.2.2.2.2 gX1_keep_X1_around rfl rfl rfl (by decide +kernel) ⟨Nat.le_of_ble_eq_true rfl, Nat.le_of_ble_eq_true rfl⟩) (z_preS CX hW) rfl rfl hl.1 rfl (lv_room (Nat.le_of_ble_eq_true rfl)) dX1_keep_8 ⟨Nat.zero_le _, Nat.zero_le _⟩) (fun zv gn H locs hok8 hW => ?_)
  obtain ⟨ez, eg⟩ := hok8
  have eg : gn = f := eg
  rw [eg] at hW
  clear eg
  have ez : zv = nx := ez
  rw [ez]
  clear ez
  refine z_aald (o := some (b + 2 + 15 * nx.toNat)) CX hW hP.2.1 4 rfl (by refine ⟨?_, ?_, ?_⟩ <;> omega) rfl dX1_keep_11 ?_
  refine lv_aload_n hX0 hB0 dX1_keep_12 rfl (lv_at hl 1 rfl) ?_
  refine z_callv hW (va_runV (C := RX7) (As := [.ref a]) (rest := []) CX.fix (c_shelfcopy l (f := f) (b + 2 + 15 * nx.toNat) (P nx.toNat) (N nx.toNat) (C nx.toNat) (LT nx.toNat) a p n C1 lt (hP.2.2 nx.toNat (by omega)) hS (by omega)) (cwV 1 CX.fix.2.2.2.2 gX1_keep_X7_copy rfl rfl rfl (by decide +kernel) ⟨Nat.le_of_ble_eq_true rfl, Nat.le_of_ble_eq_true rfl⟩) (z_preV CX hW (r := (RX7, TX7, 4)) (hP.2.2 nx.toNat (by omega)).1 rfl) rfl rfl hl.1 rfl (lv_room (Nat.le_of_ble_eq_true rfl)) dX1_keep_13 ⟨Nat.zero_le _, Nat.zero_le _⟩) (fun gn H locs hok13 hW => ?_)
  obtain ⟨g13, eg13⟩ : ∃ q, q = gn := ⟨_, rfl⟩
  rw [← eg13] at hW hok13
  clear eg13
  obtain ⟨hfr13, hsh13⟩ := hok13
  refine lv_aload_n hX0 hB0 dX1_keep_16 rfl (lv_at hl 0 rfl) ?_
  refine lv_aload_n hX0 hB0 dX1_keep_17 rfl (lv_at hl 0 rfl) ?_
  refine z_get (Cn := RX1) (T := TX1) (N := 3) CX hW (v := .int (zI nx)) ((hfr13 _ (by omega)).trans hP.1) rfl (fun w h => List.mem_cons_of_mem _ (List.mem_append_left _ (List.mem_append_left _ (List.mem_append_right _ h)))) 1 (by decide) (List.mem_of_getElem? (i := 2) rfl) rfl rfl dX1_keep_18 ?_
  refine lv_iconst (v := zI 1) hX0 hB0 dX1_keep_21 rfl ?_
  refine z_iadd (z := nx + 1) CX dX1_keep_22 rfl ?_
  obtain ⟨v, hv⟩ : ∃ v, v = (if nx + 1 < 20 then nx + 1 else (0 : Int)) := ⟨_, rfl⟩
  have hvr : (nx + 1) % 20 = v := by rw [hv]; split <;> omega
  refine z_calli hW (va_runS (As := [.int (zI (nx + 1))]) (rest := [.ref b]) CX.fix (c_around l (f := g13) (nx + 1) v (by omega) hvr) (va_cwS 1 CX.fix.2.2.2.2 gX1_keep_X1_around rfl rfl rfl (by decide +kernel) ⟨Nat.le_of_ble_eq_true rfl, Nat.le_of_ble_eq_true rfl⟩) (z_preS CX hW) rfl rfl hl.1 rfl (lv_room (Nat.le_of_ble_eq_true rfl)) dX1_keep_23 ⟨Nat.zero_le _, Nat.zero_le _⟩) (fun zv gn H locs hok23 hW => ?_)
  obtain ⟨ez, eg⟩ := hok23
  have eg : gn = g13 := eg
  rw [eg] at hW
  clear eg
  have ez : zv = v := ez
  rw [ez]
  clear ez
  refine z_put (Cn := RX1) (T := TX1) (N := 3) CX hW (v := .int (zI v)) ((hfr13 _ (by omega)).trans hP.1) rfl (fun w h => List.mem_cons_of_mem _ (List.mem_append_left _ (List.mem_append_left _ (List.mem_append_right _ h)))) tyX1 tyX1_ok nmX1 1 (by decide) (List.mem_of_getElem? (i := 2) rfl) rfl rfl rfl rfl (Nat.le_of_ble_eq_true rfl) (g := va_up g13 b (.inr (1, [.int (zI cnt), .int (zI v), .ref (b + 1)]))) rfl dX1_keep_26 (fun H locs hW => ?_)
  refine lv_aload_n hX0 hB0 dX1_keep_29 rfl (lv_at hl 0 rfl) ?_
  refine lv_aload_n hX0 hB0 dX1_keep_30 rfl (lv_at hl 0 rfl) ?_
  refine z_get (Cn := RX1) (T := TX1) (N := 3) CX hW (v := .int (zI cnt)) (va_up_self _ _ _) rfl (fun w h => List.mem_cons_of_mem _ (List.mem_append_left _ (List.mem_append_left _ (List.mem_append_right _ h)))) 0 (by decide) (List.mem_of_getElem? (i := 3) rfl) rfl rfl dX1_keep_31 ?_
  refine lv_iconst (v := zI 1) hX0 hB0 dX1_keep_34 rfl ?_
  refine z_iadd (z := cnt + 1) CX dX1_keep_35 rfl ?_
  refine lv_bipush (v := zI 20) hX0 hB0 dX1_keep_36 (by decide) ?_
  refine z_mmin (z := min (cnt + 1) 20) CX hW hl.1 (CX.at (List.mem_of_getElem? (i := 4) rfl)) (CX.at (List.mem_of_getElem? (i := 5) rfl)) (CX.at (List.mem_of_getElem? (i := 6) rfl)) (CX.at (List.mem_of_getElem? (i := 7) rfl)) (Nat.le_of_ble_eq_true rfl) (Nat.le_of_ble_eq_true rfl) (Nat.zero_le _) (Nat.zero_le _) (by constructor <;> omega) (by constructor <;> omega) rfl dX1_keep_38 ?_
  refine z_put (Cn := RX1) (T := TX1) (N := 3) CX hW (v := .int (zI (min (cnt + 1) 20))) (va_up_self _ _ _) rfl (fun w h => List.mem_cons_of_mem _ (List.mem_append_left _ (List.mem_append_left _ (List.mem_append_right _ h)))) tyX1 tyX1_ok nmX1 0 (by decide) (List.mem_of_getElem? (i := 3) rfl) rfl rfl rfl rfl (Nat.le_of_ble_eq_true rfl) (g := va_up g13 b (.inr (1, [.int (zI (min (cnt + 1) 20)), .int (zI v), .ref (b + 1)]))) va_up_up dX1_keep_41 (fun H locs hW => ?_)
  rw [← hQ]
  refine z_vret CX hW ?_ dX1_keep_44
  exact ⟨((hfr13.wide (by omega) (by omega))).up (by omega), (by rw [← hv]; exact (va_up_self _ _ _)), ((va_up_ne _ _ (by omega)).trans ((hfr13 _ (by omega)).trans hP.2.1)), fun k hk => by
    by_cases e : k = nx.toNat
    · rw [e, zset_self, zset_self, zset_self, zset_self]; exact hsh13.same (fun q h1 h2 => ((va_up_ne _ _ (by omega)).trans rfl))
    · rw [zset_ne _ _ e, zset_ne _ _ e, zset_ne _ _ e, zset_ne _ _ e]; exact (hP.2.2 k hk).same (fun q h1 h2 => ((va_up_ne _ _ (by omega)).trans ((hfr13 _ (by omega)).trans rfl)))⟩
set_option maxRecDepth 100000 in
set_option maxHeartbeats 4000000 in
/-- Past.back -/
theorem c_back (l : Launch) {D : va_G} {cI cJ cZ cP cS cM : ClassId} {L : List Nat} {sz : Nat} {f : Nat → va_E} (b : Nat) (cnt nx : Int) (P N : Nat → Int) (C : Nat → Nat → Nat → Int) (LT : Nat → Nat → Int) (a : Nat) (p n : Int) (C1 : Nat → Nat → Int) (lt : Nat → Int) (hP : zPast cI cP cS f b cnt nx P N C LT) (hcnt : 0 ≤ cnt ∧ cnt ≤ 20) (hnx : 0 ≤ nx ∧ nx < 20) (hS : zShelf cI cP f a p n C1 lt) (hd : a + 15 ≤ b ∨ b + 302 ≤ a) : zMi l yX1_back wsX1_back 3 75 D (zT cI cJ cZ cP cS cM) L sz f [.ref b, .ref a] (fun z g => (cnt = 0 → z = 0 ∧ g = f) ∧ (0 < cnt → z = 1 ∧ (∀ q, q ≠ b → ¬ (a ≤ q ∧ q < a + 15) → g q = f q) ∧ zPast cI cP cS g b (cnt - 1) (if 0 < nx then nx - 1 else 19) P N C LT ∧ zShelf cI cP g a (P (if 0 < nx then nx - 1 else 19).toNat) (N (if 0 < nx then nx - 1 else 19).toNat) (C (if 0 < nx then nx - 1 else 19).toNat) (LT (if 0 < nx then nx - 1 else 19).toNat))) := by
  refine zWalk.met (nL := 2) (ret := (some .boolean)) (cc := cX1_back) (by decide) rfl (Nat.le_of_ble_eq_true rfl) ?_
  intro pg en st mi ag bl mt cd ls CX hW hl
  have CX : zC pg st mi ag mt cd cX1_back 2 (some .boolean) RX1 wsX1_back := CX
  generalize hQ : MQ bl _ ag st 0 0 _ = Q
  have hX0 := CX.1
  have hB0 := CX.2.1
  have hl : lv_has ls 2 [(0, .ref b), (1, .ref a)] := hl
  obtain ⟨H, eH⟩ : ∃ H, H = st.heap := ⟨_, rfl⟩
  obtain ⟨locs, eL⟩ : ∃ L : List Loc, L = [] := ⟨_, rfl⟩
  have hW : zW D (zT cI cJ cZ cP cS cM) L (zQ L sz) st f st.heap H locs := by rw [eH, eL]; exact hW
  suffices hgo : W pg l en ({ frames := 3, cells := 0, slots := 0, locals := 75 } : Room) st mi ag bl mt cd H locs 0 0 Q (F0 mi 0 ls []) by rw [eH, eL] at hgo; exact hgo
  clear eH eL
  refine lv_aload_n hX0 hB0 dX1_back_0 rfl (lv_at hl 0 rfl) ?_
  refine z_get (Cn := RX1) (T := TX1) (N := 3) CX hW (v := .int (zI cnt)) hP.1 rfl (fun w h => List.mem_cons_of_mem _ (List.mem_append_left _ (List.mem_append_left _ (List.mem_append_right _ h)))) 0 (by decide) (List.mem_of_getElem? (i := 1) rfl) rfl rfl dX1_back_1 ?_
  refine z_if_ne (tgt := 9) CX dX1_back_4 (by decide) (by constructor <;> omega) (fun c_4 => ?_) (fun c_4 => ?_)
  ·
    refine lv_aload_n hX0 hB0 dX1_back_9 rfl (lv_at hl 0 rfl) ?_
    refine lv_aload_n hX0 hB0 dX1_back_10 rfl (lv_at hl 0 rfl) ?_
    refine z_get (Cn := RX1) (T := TX1) (N := 3) CX hW (v := .int (zI nx)) hP.1 rfl (fun w h => List.mem_cons_of_mem _ (List.mem_append_left _ (List.mem_append_left _ (List.mem_append_right _ h)))) 1 (by decide) (List.mem_of_getElem? (i := 2) rfl) rfl rfl dX1_back_11 ?_
    refine lv_iconst (v := zI 1) hX0 hB0 dX1_back_14 rfl ?_
    refine z_isub (z := nx - 1) CX dX1_back_15 rfl ?_
    obtain ⟨v, hv⟩ : ∃ v, v = (if 0 < nx then nx - 1 else 19) := ⟨_, rfl⟩
    have hv0 : 0 ≤ v ∧ v < 20 := by rw [hv]; split <;> omega
    have hvr : (nx - 1) % 20 = v := by rw [hv]; split <;> omega
    refine z_calli hW (va_runS (As := [.int (zI (nx - 1))]) (rest := [.ref b]) CX.fix (c_around l (f := f) (nx - 1) v (by omega) hvr) (va_cwS 1 CX.fix.2.2.2.2 gX1_back_X1_around rfl rfl rfl (by decide +kernel) ⟨Nat.le_of_ble_eq_true rfl, Nat.le_of_ble_eq_true rfl⟩) (z_preS CX hW) rfl rfl hl.1 rfl (lv_room (Nat.le_of_ble_eq_true rfl)) dX1_back_16 ⟨Nat.zero_le _, Nat.zero_le _⟩) (fun zv gn H locs hok16 hW => ?_)
    obtain ⟨ez, eg⟩ := hok16
    have eg : gn = f := eg
    rw [eg] at hW
    clear eg
    have ez : zv = v := ez
    rw [ez]
    clear ez
    refine z_put (Cn := RX1) (T := TX1) (N := 3) CX hW (v := .int (zI v)) hP.1 rfl (fun w h => List.mem_cons_of_mem _ (List.mem_append_left _ (List.mem_append_left _ (List.mem_append_right _ h)))) tyX1 tyX1_ok nmX1 1 (by decide) (List.mem_of_getElem? (i := 2) rfl) rfl rfl rfl rfl (Nat.le_of_ble_eq_true rfl) (g := va_up f b (.inr (1, [.int (zI cnt), .int (zI v), .ref (b + 1)]))) rfl dX1_back_19 (fun H locs hW => ?_)
    refine lv_aload_n hX0 hB0 dX1_back_22 rfl (lv_at hl 1 rfl) ?_
    refine lv_aload_n hX0 hB0 dX1_back_23 rfl (lv_at hl 0 rfl) ?_
    refine z_get (Cn := RX1) (T := TX1) (N := 3) CX hW (v := .ref (b + 1)) (va_up_self _ _ _) rfl (fun w h => List.mem_cons_of_mem _ (List.mem_append_left _ (List.mem_append_left _ (List.mem_append_right _ h)))) 2 (by decide) (List.mem_of_getElem? (i := 3) rfl) rfl rfl dX1_back_24 ?_
    refine lv_aload_n hX0 hB0 dX1_back_27 rfl (lv_at hl 0 rfl) ?_
    refine z_get (Cn := RX1) (T := TX1) (N := 3) CX hW (v := .int (zI v)) (va_up_self _ _ _) rfl (fun w h => List.mem_cons_of_mem _ (List.mem_append_left _ (List.mem_append_left _ (List.mem_append_right _ h)))) 1 (by decide) (List.mem_of_getElem? (i := 2) rfl) rfl rfl dX1_back_28 ?_
    refine z_aald (o := some (b + 2 + 15 * v.toNat)) CX hW ((va_up_ne _ _ (by omega)).trans hP.2.1) 4 rfl (by refine ⟨?_, ?_, ?_⟩ <;> omega) rfl dX1_back_31 ?_
    refine z_callv hW (va_runV (C := RX7) (As := [.ref (b + 2 + 15 * v.toNat)]) (rest := []) CX.fix (c_shelfcopy l (f := va_up f b (.inr (1, [.int (zI cnt), .int (zI v), .ref (b + 1)]))) a p n C1 lt (b + 2 + 15 * v.toNat) (P v.toNat) (N v.toNat) (C v.toNat) (LT v.toNat) (hS.same (fun q h1 h2 => ((va_up_ne _ _ (by omega)).trans rfl))) ((hP.2.2 v.toNat (by omega)).same (fun q h1 h2 => ((va_up_ne _ _ (by omega)).trans rfl))) (by omega)) (cwV 1 CX.fix.2.2.2.2 gX1_back_X7_copy rfl rfl rfl (by decide +kernel) ⟨Nat.le_of_ble_eq_true rfl, Nat.le_of_ble_eq_true rfl⟩) (z_preV CX hW (r := (RX7, TX7, 4)) ((va_up_ne _ _ (by omega)).trans hS.1) rfl) rfl rfl hl.1 rfl (lv_room (Nat.le_of_ble_eq_true rfl)) dX1_back_32 ⟨Nat.zero_le _, Nat.zero_le _⟩) (fun gn H locs hok32 hW => ?_)
    obtain ⟨g32, eg32⟩ : ∃ q, q = gn := ⟨_, rfl⟩
    rw [← eg32] at hW hok32
    clear eg32
    obtain ⟨hfr32, hsh32⟩ := hok32
    refine lv_aload_n hX0 hB0 dX1_back_35 rfl (lv_at hl 0 rfl) ?_
    refine lv_dup hX0 hB0 dX1_back_36 rfl ?_
    refine z_get (Cn := RX1) (T := TX1) (N := 3) CX hW (v := .int (zI cnt)) ((hfr32 _ (by omega)).trans (va_up_self _ _ _)) rfl (fun w h => List.mem_cons_of_mem _ (List.mem_append_left _ (List.mem_append_left _ (List.mem_append_right _ h)))) 0 (by decide) (List.mem_of_getElem? (i := 1) rfl) rfl rfl dX1_back_37 ?_
    refine lv_iconst (v := zI 1) hX0 hB0 dX1_back_40 rfl ?_
    refine z_isub (z := cnt - 1) CX dX1_back_41 rfl ?_
    refine z_put (Cn := RX1) (T := TX1) (N := 3) CX hW (v := .int (zI (cnt - 1))) ((hfr32 _ (by omega)).trans (va_up_self _ _ _)) rfl (fun w h => List.mem_cons_of_mem _ (List.mem_append_left _ (List.mem_append_left _ (List.mem_append_right _ h)))) tyX1 tyX1_ok nmX1 0 (by decide) (List.mem_of_getElem? (i := 1) rfl) rfl rfl rfl rfl (Nat.le_of_ble_eq_true rfl) (g := va_up g32 b (.inr (1, [.int (zI (cnt - 1)), .int (zI v), .ref (b + 1)]))) rfl dX1_back_42 (fun H locs hW => ?_)
    refine lv_iconst (v := zI 1) hX0 hB0 dX1_back_45 rfl ?_
    rw [← hQ]
    exact z_iret (z := 1) CX hW (by exact ⟨fun h => by omega, fun _ => ⟨rfl, fun q h1 h2 => ((va_up_ne _ _ (by omega)).trans ((hfr32 _ (by omega)).trans ((va_up_ne _ _ (by omega)).trans rfl))), ⟨(by rw [← hv]; exact (va_up_self _ _ _)), ((va_up_ne _ _ (by omega)).trans ((hfr32 _ (by omega)).trans ((va_up_ne _ _ (by omega)).trans hP.2.1))), fun k hk => (hP.2.2 k hk).same (fun q h1 h2 => ((va_up_ne _ _ (by omega)).trans ((hfr32 _ (by omega)).trans ((va_up_ne _ _ (by omega)).trans rfl))))⟩, (by rw [← hv]; exact hsh32.same (fun q h1 h2 => ((va_up_ne _ _ (by omega)).trans rfl)))⟩⟩) rfl dX1_back_46
  ·
    refine lv_iconst (v := zI 0) hX0 hB0 dX1_back_7 rfl ?_
    rw [← hQ]
    exact z_iret (z := 0) CX hW (by exact ⟨fun _ => ⟨rfl, rfl⟩, fun h => by omega⟩) rfl dX1_back_8
end ZPa
