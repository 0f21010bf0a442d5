section ZAp
/-- a byte of a number -/
def zbyt (x s : Int) : Int := x / 2 ^ s.toNat % 256
theorem zbyt_rng (x s : Int) : 0 ≤ zbyt x s ∧ zbyt x s ≤ 255 := by
  unfold zbyt
  have := zmr (x / 2 ^ s.toNat) (p := 256) (by decide)
  omega
theorem zmask (y : Int32) : y &&& zI 255 = zI (y.toInt % 256) := by
  have h := Jvm.Kit.i32_mask y (zI 255) (k := 8) (by decide) (by decide)
  rw [← Int32.ofInt_toInt (y &&& zI 255), h]
  rfl
theorem zi_nat (y : Int32) : y.toInt = if 2 * y.toBitVec.toNat < 2 ^ 32 then (y.toBitVec.toNat : Int) else (y.toBitVec.toNat : Int) - 2 ^ 32 := BitVec.toInt_eq_toNat_cond y.toBitVec
theorem zush {x s : Int} (hx : -2147483648 ≤ x ∧ x ≤ 2147483647) (hs : s = 0 ∨ s = 8 ∨ s = 16 ∨ s = 24) : ((zI x).toUInt32 >>> ((zI s).toUInt32 &&& Int32.toUInt32 31)).toInt32 &&& zI 255 = zI (zbyt x s) := by
  have key : ∀ k : Nat, (((zI s).toUInt32 &&& Int32.toUInt32 31).toBitVec % 32).toNat = k → k = s.toNat → (k = 0 ∨ k = 8 ∨ k = 16 ∨ k = 24) → ((zI x).toUInt32 >>> ((zI s).toUInt32 &&& Int32.toUInt32 31)).toInt32 &&& zI 255 = zI (zbyt x s) := by
    intro k hk hk2 hk3
    have h := pk_ushr (zI x) (zI s) k hk
    rw [zmask]
    congr 1
    unfold zbyt
    rw [← hk2]
    generalize ((zI x).toUInt32 >>> ((zI s).toUInt32 &&& Int32.toUInt32 31)).toInt32 = y at h ⊢
    have h1 := zi_nat y
    have h2 := zi_nat (zI x)
    rw [zI_toInt hx.1 hx.2] at h2
    have l1 := y.toBitVec.isLt
    have l2 := (zI x).toBitVec.isLt
    generalize y.toBitVec.toNat = a at h h1 l1
    generalize (zI x).toBitVec.toNat = b at h h2 l2
    generalize y.toInt = c at h1 ⊢
    rcases hk3 with e | e | e | e <;> subst e <;> simp only [Nat.reducePow, Int.reducePow] at h h1 h2 l1 l2 ⊢ <;> omega
  rcases hs with e | e | e | e <;> subst e
  · exact key 0 (by decide) rfl (by decide)
  · exact key 8 (by decide) rfl (by decide)
  · exact key 16 (by decide) rfl (by decide)
  · exact key 24 (by decide) rfl (by decide)
/-- four bytes more -/
def zapF (x : Int) : Nat → Int → Int × (Nat → Int) → Int × (Nat → Int)
  | 0, _, s => s
  | m + 1, sh, s => zapF x m (sh - 8) (if s.1 < 1000 then (s.1 + 1, zup s.2 s.1.toNat (zbyt x sh)) else s)
def zapp (x : Int) (s : Int × (Nat → Int)) : Int × (Nat → Int) := zapF x 4 24 s
theorem zapF_ok (x : Int) : ∀ (m : Nat) (sh : Int) (s : Int × (Nat → Int)), ztape s.1 s.2 → ztape (zapF x m sh s).1 (zapF x m sh s).2 ∧ s.1 ≤ (zapF x m sh s).1 ∧ (zapF x m sh s).1 ≤ s.1 + m
  | 0, _, s, h => ⟨h, Int.le_refl _, by show s.1 ≤ s.1 + ((0 : Nat) : Int); omega⟩
  | m + 1, sh, s, h => by
    simp only [zapF]
    have h1 : ztape (if s.1 < 1000 then (s.1 + 1, zup s.2 s.1.toNat (zbyt x sh)) else s).1 (if s.1 < 1000 then (s.1 + 1, zup s.2 s.1.toNat (zbyt x sh)) else s).2 ∧ s.1 ≤ (if s.1 < 1000 then (s.1 + 1, zup s.2 s.1.toNat (zbyt x sh)) else s).1 ∧ (if s.1 < 1000 then (s.1 + 1, zup s.2 s.1.toNat (zbyt x sh)) else s).1 ≤ s.1 + 1 := by
      have ha := h.1
      split
      · refine ⟨⟨by show 0 ≤ s.1 + 1; omega, by show s.1 + 1 ≤ 1000; omega, fun k => ?_⟩, by show s.1 ≤ s.1 + 1; omega, Int.le_refl _⟩
        show 0 ≤ zup s.2 _ _ k ∧ zup s.2 _ _ k ≤ 255
        unfold zup
        split
        · exact zbyt_rng x sh
        · exact h.2.2 k
      · exact ⟨h, Int.le_refl _, by omega⟩
    obtain ⟨a, b, c⟩ := zapF_ok x m (sh - 8) _ h1.1
    exact ⟨a, by omega, by omega⟩
theorem zapp_ok {x : Int} {s : Int × (Nat → Int)} (h : ztape s.1 s.2) : ztape (zapp x s).1 (zapp x s).2 ∧ s.1 ≤ (zapp x s).1 ∧ (zapp x s).1 ≤ s.1 + 4 := zapF_ok x 4 24 s h
/-- a reader's cells, elsewhere or in part -/
def zRdr (cI cP cZ : ClassId) (g : Nat → va_E) (r : Nat) (n : Int) (T : Nat → Int) (S : Nat → Nat → Int) : Prop := ∀ j, j < 191 → g (r + j) = zrp cI cP cZ r n T S j
theorem zRdr.ro {cI cP cZ : ClassId} {g : Nat → va_E} {r : Nat} {n : Int} {T : Nat → Int} {S : Nat → Nat → Int} (h : zRdr cI cP cZ g r n T S) : zRO cI cP cZ r n T S g = g := by
  funext q
  unfold zRO
  split
  · rw [← h (q - r) (by omega)]
    congr 1
    omega
  · rfl
theorem zRdr.of {cI cP cZ : ClassId} {f : Nat → va_E} {r : Nat} {n : Int} {T : Nat → Int} {S : Nat → Nat → Int} : zRdr cI cP cZ (zRO cI cP cZ r n T S f) r n T S := fun j hj => zRO_at hj
theorem zRdr.same {cI cP cZ : ClassId} {f g : Nat → va_E} {r : Nat} {n : Int} {T : Nat → Int} {S : Nat → Nat → Int} (h : zRdr cI cP cZ f r n T S) (hs : ∀ q, r ≤ q → q < r + 191 → g q = f q) : zRdr cI cP cZ g r n T S := fun j hj => (hs _ (by omega) (by omega)).trans (h j hj)
theorem zRdr.tape {cI cP cZ : ClassId} {f : Nat → va_E} {r : Nat} {n n2 : Int} {T T2 : Nat → Int} {S : Nat → Nat → Int} (h : zRdr cI cP cZ f r n T S) : zRdr cI cP cZ (va_up (va_up f (r + 16) (zA cI 1000 T2)) r (.inr (3, [.int (zI n2), .int (zI (S 0 1)), .int (zI (S 0 2)), .ref (r + 1), .ref (r + 16), .ref (r + 17), .ref (r + 18), .ref (r + 19), .ref (r + 20), .ref (r + 21), .ref (r + 23), .ref (r + 25), .int (zI (S 0 0))]))) r n2 T2 S := fun j hj => by
  by_cases e0 : j = 0
  · subst e0
    exact (va_up_self _ _ _)
  by_cases e1 : j = 16
  · subst e1
    exact (va_up_ne _ _ (by omega)).trans (va_up_self _ _ _)
  · refine (va_up_ne _ _ (by omega)).trans ((va_up_ne _ _ (by omega)).trans ((h j hj).trans ?_))
    unfold zrp
    rw [if_neg e0, if_neg e0, if_neg e1, if_neg e1]
set_option maxRecDepth 100000 in
set_option maxHeartbeats 4000000 in
/-- Reader.hasRoomForFive -/
theorem c_hasRoom (l : Launch) {D : va_G} {cI cJ cZ cP cS cM : ClassId} {L : List Nat} {sz : Nat} {f : Nat → va_E} (r : Nat) (n i1 i2 i12 : Int) (T : Nat → Int) (hr0 : f r = .inr (3, [.int (zI n), .int (zI i1), .int (zI i2), .ref (r + 1), .ref (r + 16), .ref (r + 17), .ref (r + 18), .ref (r + 19), .ref (r + 20), .ref (r + 21), .ref (r + 23), .ref (r + 25), .int (zI i12)])) (hr1 : f (r + 16) = zA cI 1000 T) (hT : ztape n T) : zMi l yX3_hasRoomForFive wsX3_hasRoomForFive 0 0 D (zT cI cJ cZ cP cS cM) L sz f [.ref r] (fun z g => z = (if n ≤ 980 then 1 else 0) ∧ g = f) := by
  refine zWalk.met (nL := 1) (ret := (some .boolean)) (cc := cX3_hasRoomForFive) (by decide) rfl (Nat.le_of_ble_eq_true rfl) ?_
  intro pg en st mi ag bl mt cd ls CX hW hl
  have CX : zC pg st mi ag mt cd cX3_hasRoomForFive 1 (some .boolean) RX3 wsX3_hasRoomForFive := CX
  generalize hQ : MQ bl _ ag st 0 0 _ = Q
  have hX0 := CX.1
  have hB0 := CX.2.1
  have hl : lv_has ls 1 [(0, .ref r)] := hl
  obtain ⟨H, eH⟩ : ∃ H, H = st.heap := ⟨_, rfl⟩
  obtain ⟨locs, eL⟩ : ∃ L : List Loc, L = [] := ⟨_, rfl⟩
  have hW : zW D (zT cI cJ cZ cP cS cM) L (zQ L sz) st f st.heap H locs := by rw [eH, eL]; exact hW
  suffices hgo : W pg l en ({ frames := 0, cells := 0, slots := 0, locals := 0 } : Room) st mi ag bl mt cd H locs 0 0 Q (F0 mi 0 ls []) by rw [eH, eL] at hgo; exact hgo
  clear eH eL
  have hn0 := hT.1
  have hn1 := hT.2.1
  refine lv_aload_n hX0 hB0 dX3_hasRoomForFive_0 rfl (lv_at hl 0 rfl) ?_
  refine z_get (Cn := RX3) (T := TX3) (N := 13) CX hW (v := .int (zI n)) hr0 rfl (fun w h => List.mem_cons_of_mem _ (List.mem_append_right _ h)) 0 (by decide) (List.mem_of_getElem? (i := 1) rfl) rfl rfl dX3_hasRoomForFive_1 ?_
  refine lv_sipush (v := zI 980) hX0 hB0 dX3_hasRoomForFive_4 (by decide) ?_
  refine z_icmp_gt (tgt := 14) CX dX3_hasRoomForFive_7 (by decide) (by constructor <;> omega) (by constructor <;> omega) (fun c_7 => ?_) (fun c_7 => ?_)
  ·
    refine lv_iconst (v := zI 0) hX0 hB0 dX3_hasRoomForFive_14 rfl ?_
    rw [← hQ]
    exact z_iret (z := 0) CX hW (by first | exact ⟨by rw [if_pos (by omega)], rfl⟩ | exact ⟨by rw [if_neg (by omega)], rfl⟩) rfl dX3_hasRoomForFive_15
  ·
    refine lv_iconst (v := zI 1) hX0 hB0 dX3_hasRoomForFive_10 rfl ?_
    refine lv_goto (tgt := 15) hX0 hB0 dX3_hasRoomForFive_11 (by decide) ?_
    rw [← hQ]
    exact z_iret (z := 1) CX hW (by first | exact ⟨by rw [if_pos (by omega)], rfl⟩ | exact ⟨by rw [if_neg (by omega)], rfl⟩) rfl dX3_hasRoomForFive_15
set_option maxRecDepth 100000 in
set_option maxHeartbeats 4000000 in
/-- Reader.append -/
theorem c_append (l : Launch) {D : va_G} {cI cJ cZ cP cS cM : ClassId} {L : List Nat} {sz : Nat} {f : Nat → va_E} (r : Nat) (n i1 i2 i12 : Int) (T : Nat → Int) (x : Int) (hr0 : f r = .inr (3, [.int (zI n), .int (zI i1), .int (zI i2), .ref (r + 1), .ref (r + 16), .ref (r + 17), .ref (r + 18), .ref (r + 19), .ref (r + 20), .ref (r + 21), .ref (r + 23), .ref (r + 25), .int (zI i12)])) (hr1 : f (r + 16) = zA cI 1000 T) (hT : ztape n T) (hx : -2147483648 ≤ x ∧ x ≤ 2147483647) : zMv l yX3_append wsX3_append 0 0 D (zT cI cJ cZ cP cS cM) L sz f [.ref r, .int (zI x)] (fun g => g = va_up (va_up f (r + 16) (zA cI 1000 (zapp x (n, T)).2)) r (.inr (3, [.int (zI ((zapp x (n, T)).1)), .int (zI i1), .int (zI i2), .ref (r + 1), .ref (r + 16), .ref (r + 17), .ref (r + 18), .ref (r + 19), .ref (r + 20), .ref (r + 21), .ref (r + 23), .ref (r + 25), .int (zI i12)]))) := by
  refine zWalk.met (nL := 3) (ret := none) (cc := cX3_append) (by decide) rfl (Nat.le_of_ble_eq_true rfl) ?_
  intro pg en st mi ag bl mt cd ls CX hW hl
  have CX : zC pg st mi ag mt cd cX3_append 3 none RX3 wsX3_append := CX
  generalize hQ : MQ bl _ ag st 0 0 _ = Q
  have hX0 := CX.1
  have hB0 := CX.2.1
  have hl : lv_has ls 3 [(0, .ref r), (1, .int (zI x))] := hl
  obtain ⟨H, eH⟩ : ∃ H, H = st.heap := ⟨_, rfl⟩
  obtain ⟨locs, eL⟩ : ∃ L : List Loc, L = [] := ⟨_, rfl⟩
  have hW : zW D (zT cI cJ cZ cP cS cM) L (zQ L sz) st f st.heap H locs := by rw [eH, eL]; exact hW
  suffices hgo : W pg l en ({ frames := 0, cells := 0, slots := 0, locals := 0 } : Room) st mi ag bl mt cd H locs 0 0 Q (F0 mi 0 ls []) by rw [eH, eL] at hgo; exact hgo
  clear eH eL
  refine lv_bipush (v := zI 24) hX0 hB0 dX3_append_0 (by decide) ?_
  refine lv_istore_n (lv' := [(2, .int (zI 24)), (0, .ref r), (1, .int (zI x))]) hX0 hB0 dX3_append_2 rfl hl (by decide) rfl (fun ls hl => ?_)
  have hL3 : ∀ (fu : Nat) (s : Int) (n1 : Int) (T1 : Nat → Int), ((s = -8 ∨ s = 0 ∨ s = 8 ∨ s = 16 ∨ s = 24) ∧ 0 ≤ n1 ∧ n1 ≤ 1000 ∧ zapp x (n, T) = zapF x ((s + 8) / 8).toNat s (n1, T1)) → (s + 8).toNat < fu → ∀ (H : Heap) (locs : List Loc) (ls : Array Slot), zW D (zT cI cJ cZ cP cS cM) L (zQ L sz) st (va_up (va_up f (r + 16) (zA cI 1000 T1)) r (.inr (3, [.int (zI n1), .int (zI i1), .int (zI i2), .ref (r + 1), .ref (r + 16), .ref (r + 17), .ref (r + 18), .ref (r + 19), .ref (r + 20), .ref (r + 21), .ref (r + 23), .ref (r + 25), .int (zI i12)]))) st.heap H locs → lv_has ls 3 [(2, .int (zI s)), (0, .ref r), (1, .int (zI x))] → W pg l en ({ frames := 0, cells := 0, slots := 0, locals := 0 } : Room) st mi ag bl mt cd H locs 0 0 Q (F0 mi 3 ls []) := by
    intro fu
    induction fu with
    | zero => intro s n1 T1 _ hfu; exact absurd hfu (Nat.not_lt_zero _)
    | succ fu ih3 =>
      intro s n1 T1 hinv3 hfu3 H locs ls hW hl
      obtain ⟨hs, hn2, hn3, hz⟩ := hinv3
      refine lv_iload_n hX0 hB0 dX3_append_3 rfl (lv_at hl 0 rfl) ?_
      refine z_if_lt (tgt := 49) CX dX3_append_4 (by decide) (by constructor <;> omega) (fun c_4 => ?_) (fun c_4 => ?_)
      ·
        rw [← hQ]
        refine z_vret CX hW ?_ dX3_append_49
        have hf : zapp x (n, T) = (n1, T1) := by rw [hz, show ((s + 8) / 8).toNat = 0 by omega]; rfl
        rw [hf]
      ·
        refine lv_aload_n hX0 hB0 dX3_append_7 rfl (lv_at hl 1 rfl) ?_
        refine z_get (Cn := RX3) (T := TX3) (N := 13) CX hW (v := .int (zI n1)) (va_up_self _ _ _) rfl (fun w h => List.mem_cons_of_mem _ (List.mem_append_right _ h)) 0 (by decide) (List.mem_of_getElem? (i := 1) rfl) rfl rfl dX3_append_8 ?_
        refine lv_sipush (v := zI 1000) hX0 hB0 dX3_append_11 (by decide) ?_
        refine z_icmp_ge (tgt := 43) CX dX3_append_14 (by decide) (by constructor <;> omega) (by constructor <;> omega) (fun c_14 => ?_) (fun c_14 => ?_)
        ·
          refine lv_iinc (v := zI (s + (-8))) (lv' := [(2, .int (zI (s + (-8)))), (0, .ref r), (1, .int (zI x))]) hX0 hB0 dX3_append_43 hl (k := 0) rfl (zI_add _ _) (by decide) rfl (fun ls hl => ?_)
          refine lv_goto (tgt := 3) hX0 hB0 dX3_append_46 (by decide) ?_
          exact ih3 (s + (-8)) n1 T1 ⟨by omega, by omega, by omega, by rw [hz, show ((s + 8) / 8).toNat = ((s + (-8) + 8) / 8).toNat + 1 by omega]; simp only [zapF]; first | rw [if_pos (by omega)]; rfl | rw [if_neg (by omega)]; rfl⟩ (by omega) H locs ls hW (lv_sub hl [0, 1, 2] rfl)
        ·
          refine lv_aload_n hX0 hB0 dX3_append_17 rfl (lv_at hl 1 rfl) ?_
          refine z_get (Cn := RX3) (T := TX3) (N := 13) CX hW (v := .ref (r + 16)) (va_up_self _ _ _) rfl (fun w h => List.mem_cons_of_mem _ (List.mem_append_right _ h)) 4 (by decide) (List.mem_of_getElem? (i := 2) rfl) rfl rfl dX3_append_18 ?_
          refine lv_aload_n hX0 hB0 dX3_append_21 rfl (lv_at hl 1 rfl) ?_
          refine z_get (Cn := RX3) (T := TX3) (N := 13) CX hW (v := .int (zI n1)) (va_up_self _ _ _) rfl (fun w h => List.mem_cons_of_mem _ (List.mem_append_right _ h)) 0 (by decide) (List.mem_of_getElem? (i := 1) rfl) rfl rfl dX3_append_22 ?_
          refine lv_iload_n hX0 hB0 dX3_append_25 rfl (lv_at hl 2 rfl) ?_
          refine lv_iload_n hX0 hB0 dX3_append_26 rfl (lv_at hl 0 rfl) ?_
          refine lv_iushr hX0 hB0 dX3_append_27 rfl ?_
          refine lv_sipush (v := zI 255) hX0 hB0 dX3_append_28 (by decide) ?_
          refine lv_iand hX0 hB0 dX3_append_31 ?_
          rw [zush (by omega) (by omega)]
          refine z_iast CX hW ((va_up_ne _ _ (by omega)).trans (va_up_self _ _ _)) 0 rfl (by refine ⟨?_, ?_, ?_⟩ <;> omega) (g := va_up (va_up f (r + 16) (zA cI 1000 (zup T1 n1.toNat (zbyt x s)))) r (.inr (3, [.int (zI n1), .int (zI i1), .int (zI i2), .ref (r + 1), .ref (r + 16), .ref (r + 17), .ref (r + 18), .ref (r + 19), .ref (r + 20), .ref (r + 21), .ref (r + 23), .ref (r + 25), .int (zI i12)]))) (by rw [va_up_comm (a := r) (b := (r + 16)) (by omega), va_up_up]; try rfl) dX3_append_32 (fun H locs hW => ?_)
          refine lv_aload_n hX0 hB0 dX3_append_33 rfl (lv_at hl 1 rfl) ?_
          refine lv_dup hX0 hB0 dX3_append_34 rfl ?_
          refine z_get (Cn := RX3) (T := TX3) (N := 13) CX hW (v := .int (zI n1)) (va_up_self _ _ _) rfl (fun w h => List.mem_cons_of_mem _ (List.mem_append_right _ h)) 0 (by decide) (List.mem_of_getElem? (i := 1) rfl) rfl rfl dX3_append_35 ?_
          refine lv_iconst (v := zI 1) hX0 hB0 dX3_append_38 rfl ?_
          refine z_iadd (z := n1 + 1) CX dX3_append_39 rfl ?_
          refine z_put (Cn := RX3) (T := TX3) (N := 13) CX hW (v := .int (zI (n1 + 1))) (va_up_self _ _ _) rfl (fun w h => List.mem_cons_of_mem _ (List.mem_append_right _ h)) tyX3 tyX3_ok nmX3 0 (by decide) (List.mem_of_getElem? (i := 1) rfl) rfl rfl rfl rfl (Nat.le_of_ble_eq_true rfl) (g := va_up (va_up f (r + 16) (zA cI 1000 (zup T1 n1.toNat (zbyt x s)))) r (.inr (3, [.int (zI (n1 + 1)), .int (zI i1), .int (zI i2), .ref (r + 1), .ref (r + 16), .ref (r + 17), .ref (r + 18), .ref (r + 19), .ref (r + 20), .ref (r + 21), .ref (r + 23), .ref (r + 25), .int (zI i12)]))) va_up_up dX3_append_40 (fun H locs hW => ?_)
          refine lv_iinc (v := zI (s + (-8))) (lv' := [(2, .int (zI (s + (-8)))), (0, .ref r), (1, .int (zI x))]) hX0 hB0 dX3_append_43 hl (k := 0) rfl (zI_add _ _) (by decide) rfl (fun ls hl => ?_)
          refine lv_goto (tgt := 3) hX0 hB0 dX3_append_46 (by decide) ?_
          exact ih3 (s + (-8)) (n1 + 1) (zup T1 n1.toNat (zbyt x s)) ⟨by omega, by omega, by omega, by rw [hz, show ((s + 8) / 8).toNat = ((s + (-8) + 8) / 8).toNat + 1 by omega]; simp only [zapF]; first | rw [if_pos (by omega)]; rfl | rw [if_neg (by omega)]; rfl⟩ (by omega) H locs ls hW (lv_sub hl [0, 1, 2] rfl)
  have hW := hW
  rw [show f = va_up (va_up f (r + 16) (zA cI 1000 T)) r (.inr (3, [.int (zI n), .int (zI i1), .int (zI i2), .ref (r + 1), .ref (r + 16), .ref (r + 17), .ref (r + 18), .ref (r + 19), .ref (r + 20), .ref (r + 21), .ref (r + 23), .ref (r + 25), .int (zI i12)])) from by rw [va_up_id (a := (r + 16)) hr1, va_up_id (a := r) hr0]] at hW
  exact hL3 _ 24 n T ⟨by omega, hT.1, hT.2.1, rfl⟩ (Nat.lt_succ_self _) H locs ls hW (lv_sub hl [0, 1, 2] rfl)
end ZAp
