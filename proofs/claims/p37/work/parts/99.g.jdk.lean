section ZJe
/-- letters -/
def zlr7 (x : Int) : Prop := 0 ≤ x ∧ x ≤ 127
theorem zlr7_ok {x : Int} (h : zlr7 x) : zI x &&& zI 255 = zI x ∧ ((zI x).toUInt32 % 65536).toInt32 = zI x ∧ narrow .char (.int (zI x)) = .int (zI x) := by
  have key : ∀ i : Fin 128, zI (i.val : Int) &&& zI 255 = zI (i.val : Int) ∧ ((zI (i.val : Int)).toUInt32 % 65536).toInt32 = zI (i.val : Int) ∧ narrow .char (.int (zI (i.val : Int))) = .int (zI (i.val : Int)) := by decide +kernel
  have e : ((x.toNat : Nat) : Int) = x := by
    have := h.1
    omega
  have z := key ⟨x.toNat, by have := h.2; omega⟩
  rw [show ((⟨x.toNat, by have := h.2; omega⟩ : Fin 128).val : Int) = x from e] at z
  exact z
set_option maxRecDepth 100000 in
set_option maxHeartbeats 4000000 in
/-- StringBuilder.toString -/
theorem c_toString (l : Launch) {D : va_G} {cI cJ cZ cP cS cM : ClassId} {L : List Nat} {sz : Nat} {f : Nat → va_E} {f0 : Nat → va_E} (q n : Nat) (t : Nat → Int) (hs : zSB cJ f0 f q n t) : zXr l yJ4_toString_0e30d wsJ4_toString_0e30d 5 145 2 704 D (zT cI cJ cZ cP cS cM) L sz f [.ref q] (fun r g => ∃ h, r = some h ∧ f h = zJ ∧ zTn cJ f g h n t ∧ zKp2 f g) := by
  refine zyWalk.met (nL := 1) (ret := (some (.object "java/lang/String"))) (cc := cJ4_toString_0e30d) (by decide) rfl (Nat.le_of_ble_eq_true rfl) ?_
  intro pg en st mi ag bl mt cd ls CX hin hW hl
  have CX : zC pg st mi ag mt cd cJ4_toString_0e30d 1 (some (.object "java/lang/String")) RJ4 wsJ4_toString_0e30d := CX
  generalize hQ : MQ bl _ ag st 2 704 _ = Q
  have hX0 := CX.1
  have hB0 := CX.2.1
  have hl : lv_has ls 1 [(0, .ref q)] := hl
  obtain ⟨H, eH⟩ : ∃ H, H = st.heap := ⟨_, rfl⟩
  obtain ⟨locs, eL⟩ : ∃ L : List Loc, L = [] := ⟨_, rfl⟩
  have hW : zW D (zT cI cJ cZ cP cS cM) L (zQ L sz) st f st.heap H locs := by rw [eH, eL]; exact hW
  suffices hgo : W pg l en ({ frames := 5, cells := 2, slots := 704, locals := 145 } : Room) st mi ag bl mt cd H locs 0 0 Q (F0 mi 0 ls []) by rw [eH, eL] at hgo; exact hgo
  clear eH eL
  refine zy_new (ci := 12) (fs := [.null, .int (zI 0), .int (zI 0), .int (zI 0)]) CX hW (fun w h => List.mem_cons_of_mem _ (List.mem_append_left _ (List.mem_append_right _ h))) tyJ0 tyJ0_ok (List.mem_of_getElem? (i := 1) rfl) (List.mem_of_getElem? (i := 2) rfl) (List.mem_of_getElem? (i := 3) rfl) rfl (fun j hj => by rcases (show j = 0 ∨ j = 1 ∨ j = 2 ∨ j = 3 by omega) with rfl | rfl | rfl | rfl <;> rfl) (by show _ ≤ 2; omega) (by show _ ≤ 704; omega) dJ4_toString_0e30d_0 (fun q1 Lx H hfq1 hW => ?_)
  have hzq1 := hfq1
  refine W.widen (k := 1) (n := 4) (by omega) (by omega) ?_
  have hs9 : zSB cJ f0 (va_up f q1 (.inr (12, [.null, .int (zI 0), .int (zI 0), .int (zI 0)]))) q n t := hs.new hfq1
  have hh9 : (va_up f q1 (.inr (12, [.null, .int (zI 0), .int (zI 0), .int (zI 0)]))) q1 = .inr (12, [.null, .int (zI 0), .int (zI 0), .int (zI 0)]) := va_up_self _ _ _
  have hk9 : ∀ b, f b ≠ zJ → (va_up f q1 (.inr (12, [.null, .int (zI 0), .int (zI 0), .int (zI 0)]))) b = f b := fun b hb => va_up_ne _ _ (fun e => hb (by rw [e]; exact hfq1))
  obtain ⟨g3, eg3⟩ : ∃ G, G = va_up f q1 (.inr (12, [.null, .int (zI 0), .int (zI 0), .int (zI 0)])) := ⟨_, rfl⟩
  rw [← eg3] at hW hs9 hh9 hk9
  clear eg3
  refine lv_dup hX0 hB0 dJ4_toString_0e30d_3 rfl ?_
  refine lv_aload_n hX0 hB0 dJ4_toString_0e30d_4 rfl (lv_at hl 0 rfl) ?_
  refine zy_callv hW (va_runI (As := [.ref q]) (rest := [.ref q1]) CX.fix (c_strInit0 l (f := g3) q1 q n t hs9 hh9) (cwI 1 CX.fix.2.2.2.2 ggJ4_toString_0e30d_J0_init_81219 rfl rfl rfl (CX.at (List.mem_of_getElem? (i := 3) rfl)) (CX.at (List.mem_of_getElem? (i := 4) rfl)) (CX.at (List.mem_of_getElem? (i := 5) rfl)) rfl (by decide +kernel) ⟨Nat.le_of_ble_eq_true rfl, Nat.le_of_ble_eq_true rfl⟩) (z_preS CX hW (As := [.ref q1, .ref q])) rfl rfl hl.1 rfl (lv_room (Nat.le_of_ble_eq_true rfl)) dJ4_toString_0e30d_5 ⟨by show _ ≤ 2; omega, by show _ ≤ 704; omega⟩) (fun Lx gn H locs hok5 hW => ?_)
  obtain ⟨g5_3, eg5⟩ : ∃ q, q = gn := ⟨_, rfl⟩
  rw [← eg5] at hW hok5
  clear eg5
  obtain ⟨hx2, hg2⟩ := hok5
  refine W.widen (k := 2) (n := 704) (by omega) (by omega) ?_
  have hkg := hg2
  have hxg := hx2
  rw [← hQ]
  refine W.widen (k := 2) (n := 704) (by omega) (by omega) ?_
  refine zy_aret (r := some q1) (Or.inl ⟨_, rfl⟩) CX hW ?_ dJ4_toString_0e30d_8
  exact ⟨_, rfl, hfq1, zTn.old hxg hk9, fun b hb => (hkg b (by rw [hk9 b hb]; exact hb) (fun e => hb (by rw [e]; exact hfq1))).trans (hk9 b hb)⟩
set_option maxRecDepth 100000 in
set_option maxHeartbeats 4000000 in
/-- String.isLatin1 of a made text -/
theorem c_isLatin1H (l : Launch) {D : va_G} {cI cJ cZ cP cS cM : ClassId} {L : List Nat} {sz : Nat} {f : Nat → va_E} (h b n : Nat) (d : Nat → Int) (x y : Int) (hh : f h = .inr (12, [.ref b, .int (zI 0), .int (zI x), .int (zI y)])) : zMi l yJ0_isLatin1_aae02 wsJ0_isLatin1_aae02 0 0 D (zT cI cJ cZ cP cS cM) L sz f [.ref h] (fun z g => z = 1 ∧ g = f) := by
  refine zWalk.met (nL := 1) (ret := (some .boolean)) (cc := cJ0_isLatin1_aae02) (by decide) rfl (Nat.le_of_ble_eq_true rfl) ?_
  intro pg en st mi ag bl mt cd ls CX hW hl
  have CX : zC pg st mi ag mt cd cJ0_isLatin1_aae02 1 (some .boolean) RJ0 wsJ0_isLatin1_aae02 := CX
  generalize hQ : MQ bl _ ag st 0 0 _ = Q
  have hX0 := CX.1
  have hB0 := CX.2.1
  have hl : lv_has ls 1 [(0, .ref h)] := hl
  obtain ⟨H, eH⟩ : ∃ H, H = st.heap := ⟨_, rfl⟩
  obtain ⟨locs, eL⟩ : ∃ L : List Loc, L = [] := ⟨_, rfl⟩
  have hW : zW D (zT cI cJ cZ cP cS cM) L (zQ L sz) st f st.heap H locs := by rw [eH, eL]; exact hW
  suffices hgo : W pg l en ({ frames := 0, cells := 0, slots := 0, locals := 0 } : Room) st mi ag bl mt cd H locs 0 0 Q (F0 mi 0 ls []) by rw [eH, eL] at hgo; exact hgo
  clear eH eL
  refine z_gets (v := .int (zI 1)) CX hW hW.2.2.2.2.2.2.2.2.1 (List.mem_of_getElem? (i := 1) rfl) rfl dJ0_isLatin1_aae02_0 ?_
  refine z_if_eq (tgt := 17) CX dJ0_isLatin1_aae02_3 (by decide) (by constructor <;> omega) (fun c_3 => ?_) (fun c_3 => ?_)
  ·
    omega
  ·
    refine lv_aload_n hX0 hB0 dJ0_isLatin1_aae02_6 rfl (lv_at hl 0 rfl) ?_
    refine z_get (Cn := RJ0) (T := TJ0) (N := 4) CX hW (v := .int (zI 0)) hh rfl (fun w h => List.mem_cons_of_mem _ (List.mem_append_right _ h)) 1 (by decide) (List.mem_of_getElem? (i := 2) rfl) rfl rfl dJ0_isLatin1_aae02_7 ?_
    refine z_if_ne (tgt := 17) CX dJ0_isLatin1_aae02_10 (by decide) (by constructor <;> omega) (fun c_10 => ?_) (fun c_10 => ?_)
    ·
      omega
    ·
      refine lv_iconst (v := zI 1) hX0 hB0 dJ0_isLatin1_aae02_13 rfl ?_
      refine lv_goto (tgt := 18) hX0 hB0 dJ0_isLatin1_aae02_14 (by decide) ?_
      rw [← hQ]
      refine z_iret (z := 1) CX hW ?_ rfl dJ0_isLatin1_aae02_18
      exact ⟨rfl, rfl⟩
set_option maxRecDepth 100000 in
set_option maxHeartbeats 4000000 in
/-- StringLatin1.charAt of a made text -/
theorem c_charAtLH (l : Launch) {D : va_G} {cI cJ cZ cP cS cM : ClassId} {L : List Nat} {sz : Nat} {f : Nat → va_E} (b n : Nat) (d : Nat → Int) (hb : f b = zA cJ n d) (k : Nat) (hk : k < n) (hn : n ≤ 700) (hlt : zlr7 (d k)) : zMi l yJ1_charAt_3b067 wsJ1_charAt_3b067 2 54 D (zT cI cJ cZ cP cS cM) L sz f [.ref b, .int (zI ((k : Int)))] (fun z g => z = d k ∧ g = f) := by
  refine zWalk.met (nL := 2) (ret := (some .char)) (cc := cJ1_charAt_3b067) (by decide) rfl (Nat.le_of_ble_eq_true rfl) ?_
  intro pg en st mi ag bl mt cd ls CX hW hl
  have CX : zC pg st mi ag mt cd cJ1_charAt_3b067 2 (some .char) RJ1 wsJ1_charAt_3b067 := CX
  generalize hQ : MQ bl _ ag st 0 0 _ = Q
  have hX0 := CX.1
  have hB0 := CX.2.1
  have hl : lv_has ls 2 [(0, .ref b), (1, .int (zI ((k : Int))))] := hl
  obtain ⟨H, eH⟩ : ∃ H, H = st.heap := ⟨_, rfl⟩
  obtain ⟨locs, eL⟩ : ∃ L : List Loc, L = [] := ⟨_, rfl⟩
  have hW : zW D (zT cI cJ cZ cP cS cM) L (zQ L sz) st f st.heap H locs := by rw [eH, eL]; exact hW
  suffices hgo : W pg l en ({ frames := 2, cells := 0, slots := 0, locals := 54 } : Room) st mi ag bl mt cd H locs 0 0 Q (F0 mi 0 ls []) by rw [eH, eL] at hgo; exact hgo
  clear eH eL
  have hok := zlr7_ok hlt
  refine lv_iload_n hX0 hB0 dJ1_charAt_3b067_0 rfl (lv_at hl 1 rfl) ?_
  refine lv_aload_n hX0 hB0 dJ1_charAt_3b067_1 rfl (lv_at hl 0 rfl) ?_
  refine z_alen (n := ((n : Nat) : Int)) CX hW hb 1 rfl rfl dJ1_charAt_3b067_2 ?_
  refine z_callv hW (va_runS (As := [.int (zI ((k : Int))), .int (zI (((n : Nat) : Int)))]) (rest := []) CX.fix (c_checkIndex l (f := f) ((k : Int)) (((n : Nat) : Int)) (by omega) (by omega)) (va_cwS 2 CX.fix.2.2.2.2 gJ1_charAt_3b067_J0_checkIndex_df160 rfl rfl rfl (by decide +kernel) ⟨Nat.le_of_ble_eq_true rfl, Nat.le_of_ble_eq_true rfl⟩) (z_preS CX hW) rfl rfl hl.1 rfl (lv_room (Nat.le_of_ble_eq_true rfl)) dJ1_charAt_3b067_3 ⟨by show _ ≤ 0; omega, by show _ ≤ 0; omega⟩) (fun gn H locs hok3 hW => ?_)
  have eg : gn = f := hok3
  rw [eg] at hW
  clear eg
  refine lv_aload_n hX0 hB0 dJ1_charAt_3b067_6 rfl (lv_at hl 0 rfl) ?_
  refine lv_iload_n hX0 hB0 dJ1_charAt_3b067_7 rfl (lv_at hl 1 rfl) ?_
  refine z_bald (z := d k) CX hW hb 1 rfl (by refine ⟨?_, ?_, ?_⟩ <;> omega) rfl dJ1_charAt_3b067_8 ?_
  refine lv_sipush (v := zI 255) hX0 hB0 dJ1_charAt_3b067_9 (by decide) ?_
  refine lv_iand hX0 hB0 dJ1_charAt_3b067_12 ?_
  rw [hok.1]
  refine lv_i2c (v := zI (d k)) hX0 hB0 dJ1_charAt_3b067_13 hok.2.1 ?_
  rw [← hQ]
  refine z_iret (z := d k) CX hW ?_ hok.2.2 dJ1_charAt_3b067_14
  exact ⟨rfl, rfl⟩
set_option maxRecDepth 100000 in
set_option maxHeartbeats 4000000 in
/-- String.charAt of a made text -/
theorem c_charAtH (l : Launch) {D : va_G} {cI cJ cZ cP cS cM : ClassId} {L : List Nat} {sz : Nat} {f : Nat → va_E} (h b n : Nat) (d : Nat → Int) (x y : Int) (hh : f h = .inr (12, [.ref b, .int (zI 0), .int (zI x), .int (zI y)])) (hb : f b = zA cJ n d) (k : Nat) (hk : k < n) (hn : n ≤ 700) (hlt : zlr7 (d k)) : zMi l yJ0_charAt_5068e wsJ0_charAt_5068e 3 75 D (zT cI cJ cZ cP cS cM) L sz f [.ref h, .int (zI ((k : Int)))] (fun z g => z = d k ∧ g = f) := by
  refine zWalk.met (nL := 2) (ret := (some .char)) (cc := cJ0_charAt_5068e) (by decide) rfl (Nat.le_of_ble_eq_true rfl) ?_
  intro pg en st mi ag bl mt cd ls CX hW hl
  have CX : zC pg st mi ag mt cd cJ0_charAt_5068e 2 (some .char) RJ0 wsJ0_charAt_5068e := CX
  generalize hQ : MQ bl _ ag st 0 0 _ = Q
  have hX0 := CX.1
  have hB0 := CX.2.1
  have hl : lv_has ls 2 [(0, .ref h), (1, .int (zI ((k : Int))))] := hl
  obtain ⟨H, eH⟩ : ∃ H, H = st.heap := ⟨_, rfl⟩
  obtain ⟨locs, eL⟩ : ∃ L : List Loc, L = [] := ⟨_, rfl⟩
  have hW : zW D (zT cI cJ cZ cP cS cM) L (zQ L sz) st f st.heap H locs := by rw [eH, eL]; exact hW
  suffices hgo : W pg l en ({ frames := 3, cells := 0, slots := 0, locals := 75 } : Room) st mi ag bl mt cd H locs 0 0 Q (F0 mi 0 ls []) by rw [eH, eL] at hgo; exact hgo
  clear eH eL
  have hok := zlr7_ok hlt
  refine lv_aload_n hX0 hB0 dJ0_charAt_5068e_0 rfl (lv_at hl 0 rfl) ?_
  refine z_calli hW (va_runV (C := RJ0) (As := []) (rest := []) CX.fix (c_isLatin1H l (f := f) h b n d x y hh) (cwV 0 CX.fix.2.2.2.2 gJ0_charAt_5068e_J0_isLatin1_aae02 rfl rfl rfl (by decide +kernel) ⟨Nat.le_of_ble_eq_true rfl, Nat.le_of_ble_eq_true rfl⟩) (z_preV CX hW (r := (RJ0, TJ0, 4)) hh rfl) rfl rfl hl.1 rfl (lv_room (Nat.le_of_ble_eq_true rfl)) dJ0_charAt_5068e_1 ⟨by show _ ≤ 0; omega, by show _ ≤ 0; omega⟩) (fun zv gn H locs hok1 hW => ?_)
  obtain ⟨ez, eg⟩ := hok1
  have eg : gn = f := eg
  rw [eg] at hW
  clear eg
  have ez : zv = 1 := ez
  rw [ez]
  clear ez
  refine z_if_eq (tgt := 16) CX dJ0_charAt_5068e_4 (by decide) (by constructor <;> omega) (fun c_4 => ?_) (fun c_4 => ?_)
  ·
    omega
  ·
    refine lv_aload_n hX0 hB0 dJ0_charAt_5068e_7 rfl (lv_at hl 0 rfl) ?_
    refine z_get (Cn := RJ0) (T := TJ0) (N := 4) CX hW (v := .ref b) hh rfl (fun w h => List.mem_cons_of_mem _ (List.mem_append_right _ h)) 0 (by decide) (List.mem_of_getElem? (i := 1) rfl) rfl rfl dJ0_charAt_5068e_8 ?_
    refine lv_iload_n hX0 hB0 dJ0_charAt_5068e_11 rfl (lv_at hl 1 rfl) ?_
    refine z_calli hW (va_runS (As := [.ref b, .int (zI ((k : Int)))]) (rest := []) CX.fix (c_charAtLH l (f := f) b n d hb k hk hn hlt) (va_cwS 2 CX.fix.2.2.2.2 gJ0_charAt_5068e_J1_charAt_3b067 rfl rfl rfl (by decide +kernel) ⟨Nat.le_of_ble_eq_true rfl, Nat.le_of_ble_eq_true rfl⟩) (z_preS CX hW) rfl rfl hl.1 rfl (lv_room (Nat.le_of_ble_eq_true rfl)) dJ0_charAt_5068e_12 ⟨by show _ ≤ 0; omega, by show _ ≤ 0; omega⟩) (fun zv gn H locs hok12 hW => ?_)
    obtain ⟨ez, eg⟩ := hok12
    have eg : gn = f := eg
    rw [eg] at hW
    clear eg
    have ez : zv = d k := ez
    rw [ez]
    clear ez
    rw [← hQ]
    refine z_iret (z := d k) CX hW ?_ hok.2.2 dJ0_charAt_5068e_15
    exact ⟨rfl, rfl⟩
set_option maxRecDepth 100000 in
theorem c_charAtX (l : Launch) {D : va_G} {cI cJ cZ cP cS cM : ClassId} {L : List Nat} {sz : Nat} {f : Nat → va_E} (h n : Nat) (t : Nat → Int) (k : Int) (hx : zTm cJ f h n t) (hk : 0 ≤ k ∧ k < n) (hn : n ≤ 700) (hlt : ∀ j, j < n → zlr7 (t j)) : zMi l yJ0_charAt_5068e wsJ0_charAt_5068e 3 75 D (zT cI cJ cZ cP cS cM) L sz f [.ref h, .int (zI k)] (fun z g => z = t k.toNat ∧ g = f) := by
  obtain ⟨j, rfl⟩ : ∃ j : Nat, k = j := ⟨k.toNat, by omega⟩
  obtain ⟨b, d, x, y, h1, h2, h3, h4⟩ := hx
  have e : t (j : Int).toNat = d j := h4 j (by omega)
  rw [e]
  exact c_charAtH l h b n d x y h1 h2 j (by omega) hn (by rw [← h4 j (by omega)]; exact hlt j (by omega))
end ZJe
