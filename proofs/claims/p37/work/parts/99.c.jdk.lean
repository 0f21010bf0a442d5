section ZJa
theorem zbt_0 : zbt (zone 0) := fun k => by
  unfold zone
  split <;> decide
theorem zbt_cpy {d g : Nat → Int} (hd : zbt d) (hg : zbt g) (i j n : Nat) : zbt (zcpy d g i j n) := fun k => by
  unfold zcpy va_cpy
  split
  · exact hd _
  · exact hg _
theorem zbt_up {d : Nat → Int} (hd : zbt d) {k : Nat} {x : Int} (hx : -128 ≤ x ∧ x ≤ 127) : zbt (zup d k x) := fun j => by
  unfold zup
  split
  · exact hx
  · exact hd j
theorem zcpy_in {d g : Nat → Int} {i j n k : Nat} (h : j ≤ k ∧ k < j + n) : zcpy d g i j n k = d (i + (k - j)) := if_pos h
theorem zcpy_out {d g : Nat → Int} {i j n k : Nat} (h : ¬ (j ≤ k ∧ k < j + n)) : zcpy d g i j n k = g k := if_neg h
set_option maxRecDepth 100000 in
set_option maxHeartbeats 4000000 in
/-- AbstractStringBuilder.isLatin1 -/
theorem c_sbLatin (l : Launch) {D : va_G} {cI cJ cZ cP cS cM : ClassId} {L : List Nat} {sz : Nat} {f : Nat → va_E} (q v cap n : Nat) (d : Nat → Int) (ml : Int) (hq : f q = .inr (13, [.ref v, .int (zI 0), .int (zI ml), .int (zI (n : Int))])) : zMi l yJ5_isLatin1_aae02 wsJ5_isLatin1_aae02 0 0 D (zT cI cJ cZ cP cS cM) L sz f [.ref q] (fun z g => z = 1 ∧ g = f) := by
  refine zWalk.met (nL := 1) (ret := (some .boolean)) (cc := cJ5_isLatin1_aae02) (by decide) rfl (Nat.le_of_ble_eq_true rfl) ?_
  intro pg en st mi ag bl mt cd ls CX hW hl
  have CX : zC pg st mi ag mt cd cJ5_isLatin1_aae02 1 (some .boolean) RJ5 wsJ5_isLatin1_aae02 := CX
  generalize hQ : MQ bl _ ag st 0 0 _ = Q
  have hX0 := CX.1
  have hB0 := CX.2.1
  have hl : lv_has ls 1 [(0, .ref q)] := hl
  obtain ⟨H, eH⟩ : ∃ H, H = st.heap := ⟨_, rfl⟩
  obtain ⟨locs, eL⟩ : ∃ L : List Loc, L = [] := ⟨_, rfl⟩
  have hW : zW D (zT cI cJ cZ cP cS cM) L (zQ L sz) st f st.heap H locs := by rw [eH, eL]; exact hW
  suffices hgo : W pg l en ({ frames := 0, cells := 0, slots := 0, locals := 0 } : Room) st mi ag bl mt cd H locs 0 0 Q (F0 mi 0 ls []) by rw [eH, eL] at hgo; exact hgo
  clear eH eL
  refine z_gets (v := .int (zI 1)) CX hW hW.2.2.2.2.2.2.2.2.1 (List.mem_of_getElem? (i := 1) rfl) rfl dJ5_isLatin1_aae02_0 ?_
  refine z_if_eq (tgt := 17) CX dJ5_isLatin1_aae02_3 (by decide) (by constructor <;> omega) (fun c_3 => ?_) (fun c_3 => ?_)
  ·
    omega
  ·
    refine lv_aload_n hX0 hB0 dJ5_isLatin1_aae02_6 rfl (lv_at hl 0 rfl) ?_
    refine z_get (Cn := RJ4) (T := TJ4) (N := 4) CX hW (v := .int (zI 0)) hq rfl (fun w h => List.mem_cons_of_mem _ (List.mem_append_right _ h)) 1 (by decide) (List.mem_of_getElem? (i := 2) rfl) rfl rfl dJ5_isLatin1_aae02_7 ?_
    refine z_if_ne (tgt := 17) CX dJ5_isLatin1_aae02_10 (by decide) (by constructor <;> omega) (fun c_10 => ?_) (fun c_10 => ?_)
    ·
      omega
    ·
      refine lv_iconst (v := zI 1) hX0 hB0 dJ5_isLatin1_aae02_13 rfl ?_
      refine lv_goto (tgt := 18) hX0 hB0 dJ5_isLatin1_aae02_14 (by decide) ?_
      rw [← hQ]
      refine z_iret (z := 1) CX hW ?_ rfl dJ5_isLatin1_aae02_18
      exact ⟨rfl, rfl⟩
set_option maxRecDepth 100000 in
set_option maxHeartbeats 4000000 in
/-- AbstractStringBuilder.getValue -/
theorem c_sbValue (l : Launch) {D : va_G} {cI cJ cZ cP cS cM : ClassId} {L : List Nat} {sz : Nat} {f : Nat → va_E} (q v cap n : Nat) (d : Nat → Int) (ml : Int) (hq : f q = .inr (13, [.ref v, .int (zI 0), .int (zI ml), .int (zI (n : Int))])) : zMr l yJ5_getValue_6d5f1 wsJ5_getValue_6d5f1 0 0 D (zT cI cJ cZ cP cS cM) L sz f [.ref q] (fun r g => r = some v ∧ g = f) := by
  refine zWalk.met (nL := 1) (ret := (some (.array .byte))) (cc := cJ5_getValue_6d5f1) (by decide) rfl (Nat.le_of_ble_eq_true rfl) ?_
  intro pg en st mi ag bl mt cd ls CX hW hl
  have CX : zC pg st mi ag mt cd cJ5_getValue_6d5f1 1 (some (.array .byte)) RJ5 wsJ5_getValue_6d5f1 := CX
  generalize hQ : MQ bl _ ag st 0 0 _ = Q
  have hX0 := CX.1
  have hB0 := CX.2.1
  have hl : lv_has ls 1 [(0, .ref q)] := hl
  obtain ⟨H, eH⟩ : ∃ H, H = st.heap := ⟨_, rfl⟩
  obtain ⟨locs, eL⟩ : ∃ L : List Loc, L = [] := ⟨_, rfl⟩
  have hW : zW D (zT cI cJ cZ cP cS cM) L (zQ L sz) st f st.heap H locs := by rw [eH, eL]; exact hW
  suffices hgo : W pg l en ({ frames := 0, cells := 0, slots := 0, locals := 0 } : Room) st mi ag bl mt cd H locs 0 0 Q (F0 mi 0 ls []) by rw [eH, eL] at hgo; exact hgo
  clear eH eL
  refine lv_aload_n hX0 hB0 dJ5_getValue_6d5f1_0 rfl (lv_at hl 0 rfl) ?_
  refine z_get (Cn := RJ4) (T := TJ4) (N := 4) CX hW (v := .ref v) hq rfl (fun w h => List.mem_cons_of_mem _ (List.mem_append_right _ h)) 0 (by decide) (List.mem_of_getElem? (i := 1) rfl) rfl rfl dJ5_getValue_6d5f1_1 ?_
  rw [← hQ]
  refine z_aretA (r := some v) (Or.inr ⟨_, rfl⟩) CX hW ?_ dJ5_getValue_6d5f1_4
  exact ⟨rfl, rfl⟩
set_option maxRecDepth 100000 in
set_option maxHeartbeats 4000000 in
/-- AbstractStringBuilder.length -/
theorem c_sbLen5 (l : Launch) {D : va_G} {cI cJ cZ cP cS cM : ClassId} {L : List Nat} {sz : Nat} {f : Nat → va_E} (q v cap n : Nat) (d : Nat → Int) (ml : Int) (hq : f q = .inr (13, [.ref v, .int (zI 0), .int (zI ml), .int (zI (n : Int))])) : zMi l yJ5_length_8abf5 wsJ5_length_8abf5 0 0 D (zT cI cJ cZ cP cS cM) L sz f [.ref q] (fun z g => z = (n : Int) ∧ g = f) := by
  refine zWalk.met (nL := 1) (ret := (some .int)) (cc := cJ5_length_8abf5) (by decide) rfl (Nat.le_of_ble_eq_true rfl) ?_
  intro pg en st mi ag bl mt cd ls CX hW hl
  have CX : zC pg st mi ag mt cd cJ5_length_8abf5 1 (some .int) RJ5 wsJ5_length_8abf5 := CX
  generalize hQ : MQ bl _ ag st 0 0 _ = Q
  have hX0 := CX.1
  have hB0 := CX.2.1
  have hl : lv_has ls 1 [(0, .ref q)] := hl
  obtain ⟨H, eH⟩ : ∃ H, H = st.heap := ⟨_, rfl⟩
  obtain ⟨locs, eL⟩ : ∃ L : List Loc, L = [] := ⟨_, rfl⟩
  have hW : zW D (zT cI cJ cZ cP cS cM) L (zQ L sz) st f st.heap H locs := by rw [eH, eL]; exact hW
  suffices hgo : W pg l en ({ frames := 0, cells := 0, slots := 0, locals := 0 } : Room) st mi ag bl mt cd H locs 0 0 Q (F0 mi 0 ls []) by rw [eH, eL] at hgo; exact hgo
  clear eH eL
  refine lv_aload_n hX0 hB0 dJ5_length_8abf5_0 rfl (lv_at hl 0 rfl) ?_
  refine z_get (Cn := RJ4) (T := TJ4) (N := 4) CX hW (v := .int (zI ((n : Int)))) hq rfl (fun w h => List.mem_cons_of_mem _ (List.mem_append_right _ h)) 3 (by decide) (List.mem_of_getElem? (i := 1) rfl) rfl rfl dJ5_length_8abf5_1 ?_
  rw [← hQ]
  refine z_iret (z := (n : Int)) CX hW ?_ rfl dJ5_length_8abf5_4
  exact ⟨rfl, rfl⟩
set_option maxRecDepth 100000 in
set_option maxHeartbeats 4000000 in
/-- StringBuilder.length -/
theorem c_sbLen4 (l : Launch) {D : va_G} {cI cJ cZ cP cS cM : ClassId} {L : List Nat} {sz : Nat} {f : Nat → va_E} (q v cap n : Nat) (d : Nat → Int) (ml : Int) (hq : f q = .inr (13, [.ref v, .int (zI 0), .int (zI ml), .int (zI (n : Int))])) : zMi l yJ4_length_8abf5 wsJ4_length_8abf5 1 20 D (zT cI cJ cZ cP cS cM) L sz f [.ref q] (fun z g => z = (n : Int) ∧ g = f) := by
  refine zWalk.met (nL := 1) (ret := (some .int)) (cc := cJ4_length_8abf5) (by decide) rfl (Nat.le_of_ble_eq_true rfl) ?_
  intro pg en st mi ag bl mt cd ls CX hW hl
  have CX : zC pg st mi ag mt cd cJ4_length_8abf5 1 (some .int) RJ4 wsJ4_length_8abf5 := CX
  generalize hQ : MQ bl _ ag st 0 0 _ = Q
  have hX0 := CX.1
  have hB0 := CX.2.1
  have hl : lv_has ls 1 [(0, .ref q)] := hl
  obtain ⟨H, eH⟩ : ∃ H, H = st.heap := ⟨_, rfl⟩
  obtain ⟨locs, eL⟩ : ∃ L : List Loc, L = [] := ⟨_, rfl⟩
  have hW : zW D (zT cI cJ cZ cP cS cM) L (zQ L sz) st f st.heap H locs := by rw [eH, eL]; exact hW
  suffices hgo : W pg l en ({ frames := 1, cells := 0, slots := 0, locals := 20 } : Room) st mi ag bl mt cd H locs 0 0 Q (F0 mi 0 ls []) by rw [eH, eL] at hgo; exact hgo
  clear eH eL
  refine lv_aload_n hX0 hB0 dJ4_length_8abf5_0 rfl (lv_at hl 0 rfl) ?_
  refine z_calli hW (va_runSU (C := RJ4) (As := []) (rest := []) (zy_at hW (ci := 13) rfl) CX.fix (c_sbLen5 l (f := f) q v cap n d ml hq) (va_cwSU 0 CX.fix.2.2.2.2 gJ4_length_8abf5_J5_length_8abf5_s343 rfl rfl rfl (by decide +kernel) ⟨Nat.le_of_ble_eq_true rfl, Nat.le_of_ble_eq_true rfl⟩) (z_preV CX hW (r := (RJ4, TJ4, 4)) hq rfl) rfl rfl hl.1 rfl (lv_room (Nat.le_of_ble_eq_true rfl)) dJ4_length_8abf5_1 ⟨by show _ ≤ 0; omega, by show _ ≤ 0; omega⟩) (fun zv gn H locs hok1 hW => ?_)
  obtain ⟨ez, eg⟩ := hok1
  have eg : gn = f := eg
  rw [eg] at hW
  clear eg
  have ez : zv = (n : Int) := ez
  rw [ez]
  clear ez
  rw [← hQ]
  refine z_iret (z := (n : Int)) CX hW ?_ rfl dJ4_length_8abf5_4
  exact ⟨rfl, rfl⟩
set_option maxRecDepth 100000 in
set_option maxHeartbeats 4000000 in
/-- String.coder of a made text -/
theorem c_coderH (l : Launch) {D : va_G} {cI cJ cZ cP cS cM : ClassId} {L : List Nat} {sz : Nat} {f : Nat → va_E} (h b n : Nat) (d : Nat → Int) (x y : Int) (hh : f h = .inr (12, [.ref b, .int (zI 0), .int (zI x), .int (zI y)])) : zMi l yJ0_coder_7d493 wsJ0_coder_7d493 0 0 D (zT cI cJ cZ cP cS cM) L sz f [.ref h] (fun z g => z = 0 ∧ g = f) := by
  refine zWalk.met (nL := 1) (ret := (some .byte)) (cc := cJ0_coder_7d493) (by decide) rfl (Nat.le_of_ble_eq_true rfl) ?_
  intro pg en st mi ag bl mt cd ls CX hW hl
  have CX : zC pg st mi ag mt cd cJ0_coder_7d493 1 (some .byte) RJ0 wsJ0_coder_7d493 := CX
  generalize hQ : MQ bl _ ag st 0 0 _ = Q
  have hX0 := CX.1
  have hB0 := CX.2.1
  have hl : lv_has ls 1 [(0, .ref h)] := hl
  obtain ⟨H, eH⟩ : ∃ H, H = st.heap := ⟨_, rfl⟩
  obtain ⟨locs, eL⟩ : ∃ L : List Loc, L = [] := ⟨_, rfl⟩
  have hW : zW D (zT cI cJ cZ cP cS cM) L (zQ L sz) st f st.heap H locs := by rw [eH, eL]; exact hW
  suffices hgo : W pg l en ({ frames := 0, cells := 0, slots := 0, locals := 0 } : Room) st mi ag bl mt cd H locs 0 0 Q (F0 mi 0 ls []) by rw [eH, eL] at hgo; exact hgo
  clear eH eL
  refine z_gets (v := .int (zI 1)) CX hW hW.2.2.2.2.2.2.2.2.1 (List.mem_of_getElem? (i := 1) rfl) rfl dJ0_coder_7d493_0 ?_
  refine z_if_eq (tgt := 13) CX dJ0_coder_7d493_3 (by decide) (by constructor <;> omega) (fun c_3 => ?_) (fun c_3 => ?_)
  ·
    omega
  ·
    refine lv_aload_n hX0 hB0 dJ0_coder_7d493_6 rfl (lv_at hl 0 rfl) ?_
    refine z_get (Cn := RJ0) (T := TJ0) (N := 4) CX hW (v := .int (zI 0)) hh rfl (fun w h => List.mem_cons_of_mem _ (List.mem_append_right _ h)) 1 (by decide) (List.mem_of_getElem? (i := 2) rfl) rfl rfl dJ0_coder_7d493_7 ?_
    refine lv_goto (tgt := 14) hX0 hB0 dJ0_coder_7d493_10 (by decide) ?_
    rw [← hQ]
    refine z_iret (z := 0) CX hW ?_ rfl dJ0_coder_7d493_14
    exact ⟨rfl, rfl⟩
set_option maxRecDepth 100000 in
set_option maxHeartbeats 4000000 in
/-- String.length of a made text -/
theorem c_lengthH (l : Launch) {D : va_G} {cI cJ cZ cP cS cM : ClassId} {L : List Nat} {sz : Nat} {f : Nat → va_E} (h b n : Nat) (d : Nat → Int) (x y : Int) (hh : f h = .inr (12, [.ref b, .int (zI 0), .int (zI x), .int (zI y)])) (hb : f b = zA cJ n d) : zMi l yJ0_length_8abf5 wsJ0_length_8abf5 1 20 D (zT cI cJ cZ cP cS cM) L sz f [.ref h] (fun z g => z = (n : Int) ∧ g = f) := by
  refine zWalk.met (nL := 1) (ret := (some .int)) (cc := cJ0_length_8abf5) (by decide) rfl (Nat.le_of_ble_eq_true rfl) ?_
  intro pg en st mi ag bl mt cd ls CX hW hl
  have CX : zC pg st mi ag mt cd cJ0_length_8abf5 1 (some .int) RJ0 wsJ0_length_8abf5 := CX
  generalize hQ : MQ bl _ ag st 0 0 _ = Q
  have hX0 := CX.1
  have hB0 := CX.2.1
  have hl : lv_has ls 1 [(0, .ref h)] := hl
  obtain ⟨H, eH⟩ : ∃ H, H = st.heap := ⟨_, rfl⟩
  obtain ⟨locs, eL⟩ : ∃ L : List Loc, L = [] := ⟨_, rfl⟩
  have hW : zW D (zT cI cJ cZ cP cS cM) L (zQ L sz) st f st.heap H locs := by rw [eH, eL]; exact hW
  suffices hgo : W pg l en ({ frames := 1, cells := 0, slots := 0, locals := 20 } : Room) st mi ag bl mt cd H locs 0 0 Q (F0 mi 0 ls []) by rw [eH, eL] at hgo; exact hgo
  clear eH eL
  refine lv_aload_n hX0 hB0 dJ0_length_8abf5_0 rfl (lv_at hl 0 rfl) ?_
  refine z_get (Cn := RJ0) (T := TJ0) (N := 4) CX hW (v := .ref b) hh rfl (fun w h => List.mem_cons_of_mem _ (List.mem_append_right _ h)) 0 (by decide) (List.mem_of_getElem? (i := 1) rfl) rfl rfl dJ0_length_8abf5_1 ?_
  refine z_alen (n := ((n : Nat) : Int)) CX hW hb 1 rfl rfl dJ0_length_8abf5_4 ?_
  refine lv_aload_n hX0 hB0 dJ0_length_8abf5_5 rfl (lv_at hl 0 rfl) ?_
  refine z_calli hW (va_runV (C := RJ0) (As := []) (rest := [.int (zI (((n : Nat) : Int)))]) CX.fix (c_coderH l (f := f) h b n d x y hh) (cwV 0 CX.fix.2.2.2.2 gJ0_length_8abf5_J0_coder_7d493 rfl rfl rfl (by decide +kernel) ⟨Nat.le_of_ble_eq_true rfl, Nat.le_of_ble_eq_true rfl⟩) (z_preV CX hW (r := (RJ0, TJ0, 4)) hh rfl) rfl rfl hl.1 rfl (lv_room (Nat.le_of_ble_eq_true rfl)) dJ0_length_8abf5_6 ⟨by show _ ≤ 0; omega, by show _ ≤ 0; omega⟩) (fun zv gn H locs hok6 hW => ?_)
  obtain ⟨ez, eg⟩ := hok6
  have eg : gn = f := eg
  rw [eg] at hW
  clear eg
  have ez : zv = 0 := ez
  rw [ez]
  clear ez
  refine lv_ishr hX0 hB0 dJ0_length_8abf5_9 ?_
  rw [zI_shr0]
  rw [← hQ]
  refine z_iret (z := ((n : Nat) : Int)) CX hW ?_ rfl dJ0_length_8abf5_10
  exact ⟨rfl, rfl⟩
/-- either kind -/
theorem c_coderX (l : Launch) {D : va_G} {cI cJ cZ cP cS cM : ClassId} {L : List Nat} {sz : Nat} {f : Nat → va_E} {h n : Nat} {t : Nat → Int} (hx : zTx D cJ f h n t) : zMi l yJ0_coder_7d493 wsJ0_coder_7d493 0 0 D (zT cI cJ cZ cP cS cM) L sz f [.ref h] (fun z g => z = 0 ∧ g = f) := by
  rcases hx with ⟨i, hi, rfl, _⟩ | ⟨b, d, x, y, h1, _⟩
  · exact c_coder l i hi
  · exact c_coderH l h b n d x y h1
theorem c_lengthX (l : Launch) {D : va_G} {cI cJ cZ cP cS cM : ClassId} {L : List Nat} {sz : Nat} {f : Nat → va_E} {h n : Nat} {t : Nat → Int} (hx : zTx D cJ f h n t) : zMi l yJ0_length_8abf5 wsJ0_length_8abf5 1 20 D (zT cI cJ cZ cP cS cM) L sz f [.ref h] (fun z g => z = (n : Int) ∧ g = f) := by
  rcases hx with ⟨i, hi, rfl, e, _⟩ | ⟨b, d, x, y, h1, h2, _⟩
  · rw [e]
    exact c_length l i hi
  · exact c_lengthH l h b n d x y h1 h2
set_option maxRecDepth 100000 in
set_option maxHeartbeats 4000000 in
/-- ArraysSupport.newLength -/
theorem c_newLength (l : Launch) {D : va_G} {cI cJ cZ cP cS cM : ClassId} {L : List Nat} {sz : Nat} {f : Nat → va_E} (x y z : Int) (hx : 0 ≤ x ∧ x ≤ 2000) (hy : 1 ≤ y ∧ y ≤ 2000) (hz : 0 ≤ z ∧ z ≤ 2000) : zMi l yJ8_newLength_cabcc wsJ8_newLength_cabcc 1 54 D (zT cI cJ cZ cP cS cM) L sz f [.int (zI x), .int (zI y), .int (zI z)] (fun w g => w = x + max y z ∧ g = f) := by
  refine zWalk.met (nL := 4) (ret := (some .int)) (cc := cJ8_newLength_cabcc) (by decide) rfl (Nat.le_of_ble_eq_true rfl) ?_
  intro pg en st mi ag bl mt cd ls CX hW hl
  have CX : zC pg st mi ag mt cd cJ8_newLength_cabcc 4 (some .int) RJ8 wsJ8_newLength_cabcc := CX
  generalize hQ : MQ bl _ ag st 0 0 _ = Q
  have hX0 := CX.1
  have hB0 := CX.2.1
  have hl : lv_has ls 4 [(0, .int (zI x)), (1, .int (zI y)), (2, .int (zI z))] := hl
  obtain ⟨H, eH⟩ : ∃ H, H = st.heap := ⟨_, rfl⟩
  obtain ⟨locs, eL⟩ : ∃ L : List Loc, L = [] := ⟨_, rfl⟩
  have hW : zW D (zT cI cJ cZ cP cS cM) L (zQ L sz) st f st.heap H locs := by rw [eH, eL]; exact hW
  suffices hgo : W pg l en ({ frames := 1, cells := 0, slots := 0, locals := 54 } : Room) st mi ag bl mt cd H locs 0 0 Q (F0 mi 0 ls []) by rw [eH, eL] at hgo; exact hgo
  clear eH eL
  refine lv_iload_n hX0 hB0 dJ8_newLength_cabcc_0 rfl (lv_at hl 0 rfl) ?_
  refine lv_iload_n hX0 hB0 dJ8_newLength_cabcc_1 rfl (lv_at hl 1 rfl) ?_
  refine lv_iload_n hX0 hB0 dJ8_newLength_cabcc_2 rfl (lv_at hl 2 rfl) ?_
  refine z_mmax (z := max y z) CX hW hl.1 (CX.at (List.mem_of_getElem? (i := 1) rfl)) (CX.at (List.mem_of_getElem? (i := 2) rfl)) (CX.at (List.mem_of_getElem? (i := 3) rfl)) (CX.at (List.mem_of_getElem? (i := 4) rfl)) (Nat.le_of_ble_eq_true rfl) (Nat.le_of_ble_eq_true rfl) (by show _ ≤ 0; omega) (by show _ ≤ 0; omega) (by constructor <;> omega) (by constructor <;> omega) rfl dJ8_newLength_cabcc_3 ?_
  refine z_iadd (z := x + (max y z)) CX dJ8_newLength_cabcc_6 rfl ?_
  refine lv_istore_n (lv' := [(3, .int (zI (x + (max y z)))), (0, .int (zI x)), (1, .int (zI y)), (2, .int (zI z))]) hX0 hB0 dJ8_newLength_cabcc_7 rfl hl (by decide) rfl (fun ls hl => ?_)
  refine lv_iconst (v := zI 0) hX0 hB0 dJ8_newLength_cabcc_8 rfl ?_
  refine lv_iload_n hX0 hB0 dJ8_newLength_cabcc_9 rfl (lv_at hl 0 rfl) ?_
  refine z_icmp_ge (tgt := 21) CX dJ8_newLength_cabcc_10 (by decide) (by constructor <;> omega) (by constructor <;> omega) (fun c_10 => ?_) (fun c_10 => ?_)
  ·
    omega
  ·
    refine lv_iload_n hX0 hB0 dJ8_newLength_cabcc_13 rfl (lv_at hl 0 rfl) ?_
    refine lv_ldc (v := zI 2147483639) hX0 hB0 CX.2.2.2.1 (CX.at (List.mem_of_getElem? (i := 5) rfl)) dJ8_newLength_cabcc_14 ?_
    refine z_icmp_gt (tgt := 21) CX dJ8_newLength_cabcc_16 (by decide) (by constructor <;> omega) (by constructor <;> omega) (fun c_16 => ?_) (fun c_16 => ?_)
    ·
      omega
    ·
      refine lv_iload_n hX0 hB0 dJ8_newLength_cabcc_19 rfl (lv_at hl 0 rfl) ?_
      rw [← hQ]
      refine z_iret (z := x + (max y z)) CX hW ?_ rfl dJ8_newLength_cabcc_20
      exact ⟨rfl, rfl⟩
set_option maxRecDepth 100000 in
set_option maxHeartbeats 4000000 in
/-- AbstractStringBuilder.newCapacity -/
theorem c_newCap (l : Launch) {D : va_G} {cI cJ cZ cP cS cM : ClassId} {L : List Nat} {sz : Nat} {f : Nat → va_E} (q v cap n : Nat) (d : Nat → Int) (ml : Int) (m : Nat) (hq : f q = .inr (13, [.ref v, .int (zI 0), .int (zI ml), .int (zI (n : Int))])) (hv : f v = zA cJ cap d) (hm : cap < m) (hm2 : m ≤ 1000) : zMi l yJ5_newCapacity_0f7a4 wsJ5_newCapacity_0f7a4 2 77 D (zT cI cJ cZ cP cS cM) L sz f [.ref q, .int (zI ((m : Int)))] (fun z g => z = (cap : Int) + max ((m : Int) - cap) ((cap : Int) + 2) ∧ g = f) := by
  refine zWalk.met (nL := 6) (ret := (some .int)) (cc := cJ5_newCapacity_0f7a4) (by decide) rfl (Nat.le_of_ble_eq_true rfl) ?_
  intro pg en st mi ag bl mt cd ls CX hW hl
  have CX : zC pg st mi ag mt cd cJ5_newCapacity_0f7a4 6 (some .int) RJ5 wsJ5_newCapacity_0f7a4 := CX
  generalize hQ : MQ bl _ ag st 0 0 _ = Q
  have hX0 := CX.1
  have hB0 := CX.2.1
  have hl : lv_has ls 6 [(0, .ref q), (1, .int (zI ((m : Int))))] := hl
  obtain ⟨H, eH⟩ : ∃ H, H = st.heap := ⟨_, rfl⟩
  obtain ⟨locs, eL⟩ : ∃ L : List Loc, L = [] := ⟨_, rfl⟩
  have hW : zW D (zT cI cJ cZ cP cS cM) L (zQ L sz) st f st.heap H locs := by rw [eH, eL]; exact hW
  suffices hgo : W pg l en ({ frames := 2, cells := 0, slots := 0, locals := 77 } : Room) st mi ag bl mt cd H locs 0 0 Q (F0 mi 0 ls []) by rw [eH, eL] at hgo; exact hgo
  clear eH eL
  refine lv_aload_n hX0 hB0 dJ5_newCapacity_0f7a4_0 rfl (lv_at hl 0 rfl) ?_
  refine z_get (Cn := RJ4) (T := TJ4) (N := 4) CX hW (v := .ref v) hq rfl (fun w h => List.mem_cons_of_mem _ (List.mem_append_right _ h)) 0 (by decide) (List.mem_of_getElem? (i := 1) rfl) rfl rfl dJ5_newCapacity_0f7a4_1 ?_
  refine z_alen (n := ((cap : Nat) : Int)) CX hW hv 1 rfl rfl dJ5_newCapacity_0f7a4_4 ?_
  refine lv_istore_n (lv' := [(2, .int (zI (((cap : Nat) : Int)))), (0, .ref q), (1, .int (zI ((m : Int))))]) hX0 hB0 dJ5_newCapacity_0f7a4_5 rfl hl (by decide) rfl (fun ls hl => ?_)
  refine lv_iload_n hX0 hB0 dJ5_newCapacity_0f7a4_6 rfl (lv_at hl 2 rfl) ?_
  refine lv_aload_n hX0 hB0 dJ5_newCapacity_0f7a4_7 rfl (lv_at hl 1 rfl) ?_
  refine z_get (Cn := RJ4) (T := TJ4) (N := 4) CX hW (v := .int (zI 0)) hq rfl (fun w h => List.mem_cons_of_mem _ (List.mem_append_right _ h)) 1 (by decide) (List.mem_of_getElem? (i := 2) rfl) rfl rfl dJ5_newCapacity_0f7a4_8 ?_
  refine lv_ishl hX0 hB0 dJ5_newCapacity_0f7a4_11 ?_
  rw [zI_shl0]
  refine lv_istore_n (lv' := [(3, .int (zI ((m : Int)))), (2, .int (zI (((cap : Nat) : Int)))), (0, .ref q), (1, .int (zI ((m : Int))))]) hX0 hB0 dJ5_newCapacity_0f7a4_12 rfl hl (by decide) rfl (fun ls hl => ?_)
  refine lv_iload_n hX0 hB0 dJ5_newCapacity_0f7a4_13 rfl (lv_at hl 0 rfl) ?_
  refine lv_iload_n hX0 hB0 dJ5_newCapacity_0f7a4_14 rfl (lv_at hl 1 rfl) ?_
  refine z_isub (z := ((m : Int)) - (((cap : Nat) : Int))) CX dJ5_newCapacity_0f7a4_15 rfl ?_
  refine lv_istore (lv' := [(4, .int (zI (((m : Int)) - (((cap : Nat) : Int))))), (3, .int (zI ((m : Int)))), (2, .int (zI (((cap : Nat) : Int)))), (0, .ref q), (1, .int (zI ((m : Int))))]) hX0 hB0 dJ5_newCapacity_0f7a4_16 hl (by decide) rfl (fun ls hl => ?_)
  refine lv_iload_n hX0 hB0 dJ5_newCapacity_0f7a4_18 rfl (lv_at hl 2 rfl) ?_
  refine lv_iload hX0 hB0 dJ5_newCapacity_0f7a4_19 (lv_at hl 0 rfl) ?_
  refine lv_iload_n hX0 hB0 dJ5_newCapacity_0f7a4_21 rfl (lv_at hl 2 rfl) ?_
  refine lv_iconst (v := zI 2) hX0 hB0 dJ5_newCapacity_0f7a4_22 rfl ?_
  refine lv_aload_n hX0 hB0 dJ5_newCapacity_0f7a4_23 rfl (lv_at hl 3 rfl) ?_
  refine z_get (Cn := RJ4) (T := TJ4) (N := 4) CX hW (v := .int (zI 0)) hq rfl (fun w h => List.mem_cons_of_mem _ (List.mem_append_right _ h)) 1 (by decide) (List.mem_of_getElem? (i := 2) rfl) rfl rfl dJ5_newCapacity_0f7a4_24 ?_
  refine lv_ishl hX0 hB0 dJ5_newCapacity_0f7a4_27 ?_
  rw [zI_shl0]
  refine z_iadd (z := (((cap : Nat) : Int)) + 2) CX dJ5_newCapacity_0f7a4_28 rfl ?_
  refine z_calli hW (va_runS (As := [.int (zI (((cap : Nat) : Int))), .int (zI (((m : Int)) - (((cap : Nat) : Int)))), .int (zI ((((cap : Nat) : Int)) + 2))]) (rest := []) CX.fix (c_newLength l (f := f) (((cap : Nat) : Int)) (((m : Int)) - (((cap : Nat) : Int))) ((((cap : Nat) : Int)) + 2) (by omega) (by omega) (by omega)) (va_cwS 3 CX.fix.2.2.2.2 gJ5_newCapacity_0f7a4_J8_newLength_cabcc rfl rfl rfl (by decide +kernel) ⟨Nat.le_of_ble_eq_true rfl, Nat.le_of_ble_eq_true rfl⟩) (z_preS CX hW) rfl rfl hl.1 rfl (lv_room (Nat.le_of_ble_eq_true rfl)) dJ5_newCapacity_0f7a4_29 ⟨by show _ ≤ 0; omega, by show _ ≤ 0; omega⟩) (fun zv gn H locs hok29 hW => ?_)
  obtain ⟨ez, eg⟩ := hok29
  have eg : gn = f := eg
  rw [eg] at hW
  clear eg
  have ez : zv = (((cap : Nat) : Int)) + max (((m : Int)) - (((cap : Nat) : Int))) ((((cap : Nat) : Int)) + 2) := ez
  rw [ez]
  clear ez
  refine lv_istore (lv' := [(5, .int (zI ((((cap : Nat) : Int)) + max (((m : Int)) - (((cap : Nat) : Int))) ((((cap : Nat) : Int)) + 2)))), (4, .int (zI (((m : Int)) - (((cap : Nat) : Int))))), (3, .int (zI ((m : Int)))), (2, .int (zI (((cap : Nat) : Int)))), (0, .ref q), (1, .int (zI ((m : Int))))]) hX0 hB0 dJ5_newCapacity_0f7a4_32 hl (by decide) rfl (fun ls hl => ?_)
  refine lv_iload hX0 hB0 dJ5_newCapacity_0f7a4_34 (lv_at hl 0 rfl) ?_
  refine lv_ldc (v := zI 2147483647) hX0 hB0 CX.2.2.2.1 (CX.at (List.mem_of_getElem? (i := 3) rfl)) dJ5_newCapacity_0f7a4_36 ?_
  refine z_icmp_ne (tgt := 51) CX dJ5_newCapacity_0f7a4_38 (by decide) (by constructor <;> omega) (by constructor <;> omega) (fun c_38 => ?_) (fun c_38 => ?_)
  ·
    refine lv_iload hX0 hB0 dJ5_newCapacity_0f7a4_51 (lv_at hl 0 rfl) ?_
    refine lv_aload_n hX0 hB0 dJ5_newCapacity_0f7a4_53 rfl (lv_at hl 4 rfl) ?_
    refine z_get (Cn := RJ4) (T := TJ4) (N := 4) CX hW (v := .int (zI 0)) hq rfl (fun w h => List.mem_cons_of_mem _ (List.mem_append_right _ h)) 1 (by decide) (List.mem_of_getElem? (i := 2) rfl) rfl rfl dJ5_newCapacity_0f7a4_54 ?_
    refine lv_ishr hX0 hB0 dJ5_newCapacity_0f7a4_57 ?_
    rw [zI_shr0]
    rw [← hQ]
    refine z_iret (z := (((cap : Nat) : Int)) + max (((m : Int)) - (((cap : Nat) : Int))) ((((cap : Nat) : Int)) + 2)) CX hW ?_ rfl dJ5_newCapacity_0f7a4_58
    exact ⟨by omega, rfl⟩
  ·
    omega
set_option maxRecDepth 100000 in
set_option maxHeartbeats 4000000 in
/-- Arrays.copyOf, a longer one -/
theorem c_copyOf (l : Launch) {D : va_G} {cI cJ cZ cP cS cM : ClassId} {L : List Nat} {sz : Nat} {f : Nat → va_E} (a cap m : Nat) (d : Nat → Int) (ha : f a = zA cJ cap d) (hd : zbt d) (hm : cap < m) (hm2 : m ≤ 700) : zXr l yJ7_copyOf_9075b wsJ7_copyOf_9075b 1 54 1 700 D (zT cI cJ cZ cP cS cM) L sz f [.ref a, .int (zI ((m : Int)))] (fun r g => ∃ q1, r = some q1 ∧ f q1 = zJ ∧ ∃ d1, g = va_up f q1 (zA cJ m d1) ∧ zbt d1 ∧ ∀ k, k < cap → d1 k = d k) := by
  refine zyWalk.met (nL := 3) (ret := (some (.array .byte))) (cc := cJ7_copyOf_9075b) (by decide) rfl (Nat.le_of_ble_eq_true rfl) ?_
  intro pg en st mi ag bl mt cd ls CX hin hW hl
  have CX : zC pg st mi ag mt cd cJ7_copyOf_9075b 3 (some (.array .byte)) RJ7 wsJ7_copyOf_9075b := CX
  generalize hQ : MQ bl _ ag st 1 700 _ = Q
  have hX0 := CX.1
  have hB0 := CX.2.1
  have hl : lv_has ls 3 [(0, .ref a), (1, .int (zI ((m : Int))))] := hl
  obtain ⟨H, eH⟩ : ∃ H, H = st.heap := ⟨_, rfl⟩
  obtain ⟨locs, eL⟩ : ∃ L : List Loc, L = [] := ⟨_, rfl⟩
  have hW : zW D (zT cI cJ cZ cP cS cM) L (zQ L sz) st f st.heap H locs := by rw [eH, eL]; exact hW
  suffices hgo : W pg l en ({ frames := 1, cells := 1, slots := 700, locals := 54 } : Room) st mi ag bl mt cd H locs 0 0 Q (F0 mi 0 ls []) by rw [eH, eL] at hgo; exact hgo
  clear eH eL
  refine lv_iload_n hX0 hB0 dJ7_copyOf_9075b_0 rfl (lv_at hl 1 rfl) ?_
  refine lv_aload_n hX0 hB0 dJ7_copyOf_9075b_1 rfl (lv_at hl 0 rfl) ?_
  refine z_alen (n := ((cap : Nat) : Int)) CX hW ha 1 rfl rfl dJ7_copyOf_9075b_2 ?_
  refine z_icmp_ne (tgt := 14) CX dJ7_copyOf_9075b_3 (by decide) (by constructor <;> omega) (by constructor <;> omega) (fun c_3 => ?_) (fun c_3 => ?_)
  ·
    refine lv_iload_n hX0 hB0 dJ7_copyOf_9075b_14 rfl (lv_at hl 1 rfl) ?_
    refine zy_newa (atype := .byte) (ty := .byte) (cy := cJ) (N' := m) (a0 := (m, .inl (fun k => zI (zone 0 k)))) CX hW rfl (List.mem_of_getElem? (i := 7) rfl) 1 rfl zn_haB (by omega) (by omega) (by show _ * 1 ≤ _; omega) (by omega) (by show _ ≤ 1; omega) (by show _ ≤ 700; omega) dJ7_copyOf_9075b_15 (fun q1 Lx H hfq1 hW => ?_)
    have hne2 : a ≠ q1 := zfr_ne (zkA ha) hfq1
    have hzq1 := hfq1
    refine W.widen (k := 1) (n := 700) (by omega) (by omega) ?_
    refine lv_astore_n (lv' := [(2, .ref q1), (0, .ref a), (1, .int (zI ((m : Int))))]) hX0 hB0 dJ7_copyOf_9075b_17 rfl hl (by decide) rfl (fun ls hl => ?_)
    refine lv_aload_n hX0 hB0 dJ7_copyOf_9075b_18 rfl (lv_at hl 1 rfl) ?_
    refine lv_iconst (v := zI 0) hX0 hB0 dJ7_copyOf_9075b_19 rfl ?_
    refine lv_aload_n hX0 hB0 dJ7_copyOf_9075b_20 rfl (lv_at hl 0 rfl) ?_
    refine lv_iconst (v := zI 0) hX0 hB0 dJ7_copyOf_9075b_21 rfl ?_
    refine lv_aload_n hX0 hB0 dJ7_copyOf_9075b_22 rfl (lv_at hl 1 rfl) ?_
    refine z_alen (n := ((cap : Nat) : Int)) CX hW ((va_up_ne _ _ hne2).trans ha) 1 rfl rfl dJ7_copyOf_9075b_23 ?_
    refine lv_iload_n hX0 hB0 dJ7_copyOf_9075b_24 rfl (lv_at hl 2 rfl) ?_
    refine z_mmin (z := min (((cap : Nat) : Int)) ((m : Int))) CX hW hl.1 (CX.at (List.mem_of_getElem? (i := 8) rfl)) (CX.at (List.mem_of_getElem? (i := 9) rfl)) (CX.at (List.mem_of_getElem? (i := 10) rfl)) (CX.at (List.mem_of_getElem? (i := 11) rfl)) (Nat.le_of_ble_eq_true rfl) (Nat.le_of_ble_eq_true rfl) (by show _ ≤ 1; omega) (by show _ ≤ 700; omega) (by constructor <;> omega) (by constructor <;> omega) rfl dJ7_copyOf_9075b_25 ?_
    refine z_copyb CX hW hl.1 (CX.at (List.mem_of_getElem? (i := 12) rfl)) (CX.at (List.mem_of_getElem? (i := 13) rfl)) (CX.at (List.mem_of_getElem? (i := 14) rfl)) (CX.at (List.mem_of_getElem? (i := 15) rfl)) ((va_up_ne _ _ hne2).trans ha) (va_up_self _ _ _) 1 rfl hd (by refine ⟨?_, ?_, ?_, ?_, ?_, ?_⟩ <;> omega) (g := va_up f q1 (zA cJ m (zcpy d (zone 0) ((0 : Int).toNat) ((0 : Int).toNat) ((min (((cap : Nat) : Int)) ((m : Int))).toNat)))) va_up_up (Nat.le_of_ble_eq_true rfl) (Nat.le_of_ble_eq_true rfl) dJ7_copyOf_9075b_28 (fun H locs hW => ?_)
    refine lv_aload_n hX0 hB0 dJ7_copyOf_9075b_31 rfl (lv_at hl 0 rfl) ?_
    rw [← hQ]
    refine W.widen (k := 1) (n := 700) (by omega) (by omega) ?_
    refine zy_aret (r := some q1) (Or.inr ⟨_, rfl⟩) CX hW ?_ dJ7_copyOf_9075b_32
    exact ⟨_, rfl, hfq1, _, rfl, zbt_cpy hd zbt_0 _ _ _, fun k hk => (zcpy_in (by constructor <;> omega)).trans (congrArg d (by omega))⟩
  ·
    omega
end ZJa
