section ZJc
set_option maxRecDepth 100000 in
set_option maxHeartbeats 4000000 in
/-- AbstractStringBuilder.append(String) -/
theorem c_app5 (l : Launch) {D : va_G} {cI cJ cZ cP cS cM : ClassId} {L : List Nat} {sz : Nat} {f : Nat → va_E} {f0 : Nat → va_E} (q n h w : Nat) (t s : Nat → Int) (hs : zSB cJ f0 f q n t) (hx : zTx D cJ f h w s) (hnw : n + w ≤ 340) : zXr l yJ5_append_cf1ce wsJ5_append_cf1ce 4 124 1 700 D (zT cI cJ cZ cP cS cM) L sz f [.ref q, .ref h] (fun r g => r = some q ∧ zSB cJ f0 g q (n + w) (zct2 t n s)) := by
  obtain ⟨⟨v, cap, d, ml, hq, hv, hd, hdt, hncap, hcap, hj⟩, hjq, hk0⟩ := hs
  refine zyWalk.met (nL := 3) (ret := (some (.object "java/lang/AbstractStringBuilder"))) (cc := cJ5_append_cf1ce) (by decide) rfl (Nat.le_of_ble_eq_true rfl) ?_
  intro pg en st mi ag bl mt cd ls CX hin hW hl
  have CX : zC pg st mi ag mt cd cJ5_append_cf1ce 3 (some (.object "java/lang/AbstractStringBuilder")) RJ5 wsJ5_append_cf1ce := CX
  generalize hQ : MQ bl _ ag st 1 700 _ = Q
  have hX0 := CX.1
  have hB0 := CX.2.1
  have hl : lv_has ls 3 [(0, .ref q), (1, .ref h)] := hl
  obtain ⟨H, eH⟩ : ∃ H, H = st.heap := ⟨_, rfl⟩
  obtain ⟨locs, eL⟩ : ∃ L : List Loc, L = [] := ⟨_, rfl⟩
  have hW : zW D (zT cI cJ cZ cP cS cM) L (zQ L sz) st f st.heap H locs := by rw [eH, eL]; exact hW
  suffices hgo : W pg l en ({ frames := 4, cells := 1, slots := 700, locals := 124 } : Room) st mi ag bl mt cd H locs 0 0 Q (F0 mi 0 ls []) by rw [eH, eL] at hgo; exact hgo
  clear eH eL
  refine lv_aload_n hX0 hB0 dJ5_append_cf1ce_0 rfl (lv_at hl 1 rfl) ?_
  refine lv_ifnonnull (tgt := 9) hX0 hB0 dJ5_append_cf1ce_1 (by decide) ?_
  refine lv_aload_n hX0 hB0 dJ5_append_cf1ce_9 rfl (lv_at hl 1 rfl) ?_
  refine z_calli hW (va_runV (C := RJ0) (As := []) (rest := []) CX.fix (c_lengthX l (f := f) hx) (cwV 0 CX.fix.2.2.2.2 gJ5_append_cf1ce_J0_length_8abf5 rfl rfl rfl (by decide +kernel) ⟨Nat.le_of_ble_eq_true rfl, Nat.le_of_ble_eq_true rfl⟩) (z_preX CX hW hx) rfl rfl hl.1 rfl (lv_room (Nat.le_of_ble_eq_true rfl)) dJ5_append_cf1ce_10 ⟨by show _ ≤ 1; omega, by show _ ≤ 700; omega⟩) (fun zv gn H locs hok10 hW => ?_)
  obtain ⟨ez, eg⟩ := hok10
  have eg : gn = f := eg
  rw [eg] at hW
  clear eg
  have ez : zv = (w : Int) := ez
  rw [ez]
  clear ez
  refine lv_istore_n (lv' := [(2, .int (zI ((w : Int)))), (0, .ref q), (1, .ref h)]) hX0 hB0 dJ5_append_cf1ce_13 rfl hl (by decide) rfl (fun ls hl => ?_)
  refine lv_aload_n hX0 hB0 dJ5_append_cf1ce_14 rfl (lv_at hl 1 rfl) ?_
  refine lv_aload_n hX0 hB0 dJ5_append_cf1ce_15 rfl (lv_at hl 1 rfl) ?_
  refine z_get (Cn := RJ4) (T := TJ4) (N := 4) CX hW (v := .int (zI ((n : Int)))) hq rfl (fun w h => List.mem_cons_of_mem _ (List.mem_append_left _ (List.mem_append_right _ h))) 3 (by decide) (List.mem_of_getElem? (i := 1) rfl) rfl rfl dJ5_append_cf1ce_16 ?_
  refine lv_iload_n hX0 hB0 dJ5_append_cf1ce_19 rfl (lv_at hl 0 rfl) ?_
  refine z_iadd (z := ((n + w : Nat) : Int)) CX dJ5_append_cf1ce_20 (by omega) ?_
  refine zy_callv hW (va_runU (C := RJ4) (As := [.int (zI (((n + w : Nat) : Int)))]) (rest := []) CX.fix (c_ensure l (f := f) q v cap n d ml (n + w) hq hv hd (by omega) (by omega) (by omega)) (va_cwU 1 CX.fix.2.2.2.2 gJ5_append_cf1ce_J5_ensureCapacityInternal_d00df_u100J4 rfl rfl rfl rfl (by decide +kernel) ⟨Nat.le_of_ble_eq_true rfl, Nat.le_of_ble_eq_true rfl⟩) (z_preV CX hW (r := (RJ4, TJ4, 4)) hq rfl) rfl rfl hl.1 rfl (lv_room (Nat.le_of_ble_eq_true rfl)) dJ5_append_cf1ce_21 ⟨by show _ ≤ 1; omega, by show _ ≤ 700; omega⟩) (fun Lx gn H locs hok21 hW => ?_)
  obtain ⟨g21_2, eg21⟩ : ∃ q, q = gn := ⟨_, rfl⟩
  rw [← eg21] at hW hok21
  clear eg21
  obtain ⟨v1, cap1, d1, hq1, hv1, hd1, hdk1, hmc1, hc1, hvv1, hfr1⟩ := hok21
  have hx1 := hx.kq hq hfr1
  refine W.widen (k := 1) (n := 700) (by omega) (by omega) ?_
  refine lv_aload_n hX0 hB0 dJ5_append_cf1ce_24 rfl (lv_at hl 1 rfl) ?_
  refine lv_aload_n hX0 hB0 dJ5_append_cf1ce_25 rfl (lv_at hl 1 rfl) ?_
  refine z_get (Cn := RJ4) (T := TJ4) (N := 4) CX hW (v := .int (zI ((n : Int)))) hq1 rfl (fun w h => List.mem_cons_of_mem _ (List.mem_append_left _ (List.mem_append_right _ h))) 3 (by decide) (List.mem_of_getElem? (i := 1) rfl) rfl rfl dJ5_append_cf1ce_26 ?_
  refine lv_aload_n hX0 hB0 dJ5_append_cf1ce_29 rfl (lv_at hl 2 rfl) ?_
  refine z_callv hW (va_runU (C := RJ4) (As := [.int (zI ((n : Int))), .ref h]) (rest := []) CX.fix (c_putString l (f := g21_2) q v1 cap1 n d1 ml n h w s hq1 hv1 hx1 hd1 (by omega) (by omega)) (va_cwU 2 CX.fix.2.2.2.2 gJ5_append_cf1ce_J5_putStringAt_47b60_u208J4 rfl rfl rfl rfl (by decide +kernel) ⟨Nat.le_of_ble_eq_true rfl, Nat.le_of_ble_eq_true rfl⟩) (z_preV CX hW (r := (RJ4, TJ4, 4)) hq1 rfl) rfl rfl hl.1 rfl (lv_room (Nat.le_of_ble_eq_true rfl)) dJ5_append_cf1ce_30 ⟨by show _ ≤ 1; omega, by show _ ≤ 700; omega⟩) (fun gn H locs hok30 hW => ?_)
  obtain ⟨d3, eg, hd3, hlo3, hhi3⟩ := hok30
  have eg : gn = va_up g21_2 v1 (zA cJ cap1 d3) := eg
  rw [eg] at hW
  clear eg
  refine lv_aload_n hX0 hB0 dJ5_append_cf1ce_33 rfl (lv_at hl 1 rfl) ?_
  refine lv_dup hX0 hB0 dJ5_append_cf1ce_34 rfl ?_
  refine z_get (Cn := RJ4) (T := TJ4) (N := 4) CX hW (v := .int (zI ((n : Int)))) ((va_up_ne _ _ (zne hq1 hv1 zoi)).trans hq1) rfl (fun w h => List.mem_cons_of_mem _ (List.mem_append_left _ (List.mem_append_right _ h))) 3 (by decide) (List.mem_of_getElem? (i := 1) rfl) rfl rfl dJ5_append_cf1ce_35 ?_
  refine lv_iload_n hX0 hB0 dJ5_append_cf1ce_38 rfl (lv_at hl 0 rfl) ?_
  refine z_iadd (z := ((n + w : Nat) : Int)) CX dJ5_append_cf1ce_39 (by omega) ?_
  refine z_put (Cn := RJ4) (T := TJ4) (N := 4) CX hW (v := .int (zI (((n + w : Nat) : Int)))) ((va_up_ne _ _ (zne hq1 hv1 zoi)).trans hq1) rfl (fun w h => List.mem_cons_of_mem _ (List.mem_append_left _ (List.mem_append_right _ h))) tyJ4 tyJ4_ok nmJ4 3 (by decide) (List.mem_of_getElem? (i := 1) rfl) rfl rfl rfl rfl (Nat.le_of_ble_eq_true rfl) (g := va_up (va_up g21_2 v1 (zA cJ cap1 d3)) q (.inr (13, [.ref v1, .int (zI 0), .int (zI ml), .int (zI (((n + w : Nat) : Int)))]))) rfl dJ5_append_cf1ce_40 (fun H locs hW => ?_)
  refine lv_aload_n hX0 hB0 dJ5_append_cf1ce_43 rfl (lv_at hl 1 rfl) ?_
  rw [← hQ]
  refine W.widen (k := 1) (n := 700) (by omega) (by omega) ?_
  refine zy_aret (r := some q) (Or.inl ⟨_, rfl⟩) CX hW ?_ dJ5_append_cf1ce_44
  refine ⟨rfl, ⟨v1, cap1, d3, ml, (va_up_self _ _ _), ((va_up_ne _ _ (zne hv1 hq1 zio)).trans (va_up_self _ _ _)), hd3, fun k hk => ?_, by omega, hc1, ?_⟩, hjq, fun b hb => ?_⟩
  · by_cases c : k < n
    · rw [hlo3 k c, hdk1 k c, hdt k c]
      exact (if_pos c).symm
    · obtain ⟨j, hj2⟩ : ∃ j, k = n + j := ⟨k - n, by omega⟩
      subst hj2
      rw [hhi3 j (by omega)]
      show _ = (if n + j < n then t (n + j) else s (n + j - n))
      rw [if_neg c, show n + j - n = j by omega]
  · rcases hvv1 with z | z
    · rw [z]; exact hj
    · exact Classical.byContradiction fun z2 => z2 (Classical.byContradiction fun z3 => by have := hk0 _ z3; rw [z] at this; exact z3 this.symm)
  · have e := hk0 b hb
    have nb : f b ≠ zJ := by rw [e]; exact hb
    have nq : b ≠ q := fun z => hb (by rw [z]; exact hjq)
    have nv : b ≠ v1 := fun z => by
      rcases hvv1 with y | y
      · exact hb (by rw [z, y]; exact hj)
      · exact nb (by rw [z]; exact y)
    rw [va_up_ne _ _ nq, va_up_ne _ _ nv]
    rw [hfr1 b nb nq, e]
set_option maxRecDepth 100000 in
set_option maxHeartbeats 4000000 in
/-- StringBuilder.append(String) -/
theorem c_app4 (l : Launch) {D : va_G} {cI cJ cZ cP cS cM : ClassId} {L : List Nat} {sz : Nat} {f : Nat → va_E} {f0 : Nat → va_E} (q n h w : Nat) (t s : Nat → Int) (hs : zSB cJ f0 f q n t) (hx : zTx D cJ f h w s) (hnw : n + w ≤ 340) : zXr l yJ4_append_15ec4 wsJ4_append_15ec4 5 146 1 700 D (zT cI cJ cZ cP cS cM) L sz f [.ref q, .ref h] (fun r g => r = some q ∧ zSB cJ f0 g q (n + w) (zct2 t n s)) := by
  refine zyWalk.met (nL := 2) (ret := (some (.object "java/lang/StringBuilder"))) (cc := cJ4_append_15ec4) (by decide) rfl (Nat.le_of_ble_eq_true rfl) ?_
  intro pg en st mi ag bl mt cd ls CX hin hW hl
  have CX : zC pg st mi ag mt cd cJ4_append_15ec4 2 (some (.object "java/lang/StringBuilder")) RJ4 wsJ4_append_15ec4 := CX
  generalize hQ : MQ bl _ ag st 1 700 _ = Q
  have hX0 := CX.1
  have hB0 := CX.2.1
  have hl : lv_has ls 2 [(0, .ref q), (1, .ref h)] := hl
  obtain ⟨H, eH⟩ : ∃ H, H = st.heap := ⟨_, rfl⟩
  obtain ⟨locs, eL⟩ : ∃ L : List Loc, L = [] := ⟨_, rfl⟩
  have hW : zW D (zT cI cJ cZ cP cS cM) L (zQ L sz) st f st.heap H locs := by rw [eH, eL]; exact hW
  suffices hgo : W pg l en ({ frames := 5, cells := 1, slots := 700, locals := 146 } : Room) st mi ag bl mt cd H locs 0 0 Q (F0 mi 0 ls []) by rw [eH, eL] at hgo; exact hgo
  clear eH eL
  refine lv_aload_n hX0 hB0 dJ4_append_15ec4_0 rfl (lv_at hl 0 rfl) ?_
  refine lv_aload_n hX0 hB0 dJ4_append_15ec4_1 rfl (lv_at hl 1 rfl) ?_
  refine zy_callr hW (va_runSU (C := RJ4) (As := [.ref h]) (rest := []) (zy_at hW (ci := 13) rfl) CX.fix (c_app5 l (f := f) q n h w t s hs hx (by omega)) (va_cwSU 1 CX.fix.2.2.2.2 gJ4_append_15ec4_J5_append_cf1ce_s29 rfl rfl rfl (by decide +kernel) ⟨Nat.le_of_ble_eq_true rfl, Nat.le_of_ble_eq_true rfl⟩) (z_preSB CX hW hs) rfl rfl hl.1 rfl (lv_room (Nat.le_of_ble_eq_true rfl)) dJ4_append_15ec4_2 ⟨by show _ ≤ 1; omega, by show _ ≤ 700; omega⟩) (fun zv Lx gn H locs hok2 hW => ?_)
  obtain ⟨g2_2, eg2⟩ : ∃ q, q = gn := ⟨_, rfl⟩
  rw [← eg2] at hW hok2
  clear eg2
  obtain ⟨hr1, hs1⟩ := hok2
  have ez : zv = some q := hr1
  rw [ez]
  clear ez
  refine W.widen (k := 1) (n := 700) (by omega) (by omega) ?_
  refine lv_pop hX0 hB0 dJ4_append_15ec4_5 rfl ?_
  refine lv_aload_n hX0 hB0 dJ4_append_15ec4_6 rfl (lv_at hl 0 rfl) ?_
  rw [← hQ]
  refine W.widen (k := 1) (n := 700) (by omega) (by omega) ?_
  refine zy_aret (r := some q) (Or.inl ⟨_, rfl⟩) CX hW ?_ dJ4_append_15ec4_7
  exact ⟨rfl, hs1⟩
set_option maxRecDepth 100000 in
set_option maxHeartbeats 4000000 in
/-- StringBuilder.append(String), seen as the other class sees it -/
theorem c_appB (l : Launch) {D : va_G} {cI cJ cZ cP cS cM : ClassId} {L : List Nat} {sz : Nat} {f : Nat → va_E} {f0 : Nat → va_E} (q n h w : Nat) (t s : Nat → Int) (hs : zSB cJ f0 f q n t) (hx : zTx D cJ f h w s) (hnw : n + w ≤ 340) : zXr l yJ4_append_cf1ce wsJ4_append_cf1ce 6 167 1 700 D (zT cI cJ cZ cP cS cM) L sz f [.ref q, .ref h] (fun r g => r = some q ∧ zSB cJ f0 g q (n + w) (zct2 t n s)) := by
  refine zyWalk.met (nL := 2) (ret := (some (.object "java/lang/AbstractStringBuilder"))) (cc := cJ4_append_cf1ce) (by decide) rfl (Nat.le_of_ble_eq_true rfl) ?_
  intro pg en st mi ag bl mt cd ls CX hin hW hl
  have CX : zC pg st mi ag mt cd cJ4_append_cf1ce 2 (some (.object "java/lang/AbstractStringBuilder")) RJ4 wsJ4_append_cf1ce := CX
  generalize hQ : MQ bl _ ag st 1 700 _ = Q
  have hX0 := CX.1
  have hB0 := CX.2.1
  have hl : lv_has ls 2 [(0, .ref q), (1, .ref h)] := hl
  obtain ⟨H, eH⟩ : ∃ H, H = st.heap := ⟨_, rfl⟩
  obtain ⟨locs, eL⟩ : ∃ L : List Loc, L = [] := ⟨_, rfl⟩
  have hW : zW D (zT cI cJ cZ cP cS cM) L (zQ L sz) st f st.heap H locs := by rw [eH, eL]; exact hW
  suffices hgo : W pg l en ({ frames := 6, cells := 1, slots := 700, locals := 167 } : Room) st mi ag bl mt cd H locs 0 0 Q (F0 mi 0 ls []) by rw [eH, eL] at hgo; exact hgo
  clear eH eL
  refine lv_aload_n hX0 hB0 dJ4_append_cf1ce_0 rfl (lv_at hl 0 rfl) ?_
  refine lv_aload_n hX0 hB0 dJ4_append_cf1ce_1 rfl (lv_at hl 1 rfl) ?_
  refine zy_callr hW (va_runV (C := RJ4) (As := [.ref h]) (rest := []) CX.fix (c_app4 l (f := f) q n h w t s hs hx (by omega)) (cwV 1 CX.fix.2.2.2.2 gJ4_append_cf1ce_J4_append_15ec4 rfl rfl rfl (by decide +kernel) ⟨Nat.le_of_ble_eq_true rfl, Nat.le_of_ble_eq_true rfl⟩) (z_preSB CX hW hs) rfl rfl hl.1 rfl (lv_room (Nat.le_of_ble_eq_true rfl)) dJ4_append_cf1ce_2 ⟨by show _ ≤ 1; omega, by show _ ≤ 700; omega⟩) (fun zv Lx gn H locs hok2 hW => ?_)
  obtain ⟨g2_2, eg2⟩ : ∃ q, q = gn := ⟨_, rfl⟩
  rw [← eg2] at hW hok2
  clear eg2
  obtain ⟨hr1, hs1⟩ := hok2
  have ez : zv = some q := hr1
  rw [ez]
  clear ez
  refine W.widen (k := 1) (n := 700) (by omega) (by omega) ?_
  rw [← hQ]
  refine W.widen (k := 1) (n := 700) (by omega) (by omega) ?_
  refine zy_aret (r := some q) (Or.inl ⟨_, rfl⟩) CX hW ?_ dJ4_append_cf1ce_5
  exact ⟨rfl, hs1⟩
set_option maxRecDepth 100000 in
set_option maxHeartbeats 4000000 in
/-- Integer.stringSize -/
theorem c_stringSize (l : Launch) {D : va_G} {cI cJ cZ cP cS cM : ClassId} {L : List Nat} {sz : Nat} {f : Nat → va_E} (x : Int) (hx : 0 ≤ x ∧ x ≤ 9) : zMi l yJ6_stringSize_0f7a4 wsJ6_stringSize_0f7a4 0 0 D (zT cI cJ cZ cP cS cM) L sz f [.int (zI x)] (fun z g => z = 1 ∧ g = f) := by
  refine zWalk.met (nL := 4) (ret := (some .int)) (cc := cJ6_stringSize_0f7a4) (by decide) rfl (Nat.le_of_ble_eq_true rfl) ?_
  intro pg en st mi ag bl mt cd ls CX hW hl
  have CX : zC pg st mi ag mt cd cJ6_stringSize_0f7a4 4 (some .int) RJ6 wsJ6_stringSize_0f7a4 := CX
  generalize hQ : MQ bl _ ag st 0 0 _ = Q
  have hX0 := CX.1
  have hB0 := CX.2.1
  have hl : lv_has ls 4 [(0, .int (zI x))] := hl
  obtain ⟨H, eH⟩ : ∃ H, H = st.heap := ⟨_, rfl⟩
  obtain ⟨locs, eL⟩ : ∃ L : List Loc, L = [] := ⟨_, rfl⟩
  have hW : zW D (zT cI cJ cZ cP cS cM) L (zQ L sz) st f st.heap H locs := by rw [eH, eL]; exact hW
  suffices hgo : W pg l en ({ frames := 0, cells := 0, slots := 0, locals := 0 } : Room) st mi ag bl mt cd H locs 0 0 Q (F0 mi 0 ls []) by rw [eH, eL] at hgo; exact hgo
  clear eH eL
  refine lv_iconst (v := zI 1) hX0 hB0 dJ6_stringSize_0f7a4_0 rfl ?_
  refine lv_istore_n (lv' := [(1, .int (zI 1)), (0, .int (zI x))]) hX0 hB0 dJ6_stringSize_0f7a4_1 rfl hl (by decide) rfl (fun ls hl => ?_)
  refine lv_iload_n hX0 hB0 dJ6_stringSize_0f7a4_2 rfl (lv_at hl 1 rfl) ?_
  refine z_if_lt (tgt := 11) CX dJ6_stringSize_0f7a4_3 (by decide) (by constructor <;> omega) (fun c_3 => ?_) (fun c_3 => ?_)
  ·
    omega
  ·
    refine lv_iconst (v := zI 0) hX0 hB0 dJ6_stringSize_0f7a4_6 rfl ?_
    refine lv_istore_n (lv' := [(1, .int (zI 0)), (0, .int (zI x))]) hX0 hB0 dJ6_stringSize_0f7a4_7 rfl hl (by decide) rfl (fun ls hl => ?_)
    refine lv_iload_n hX0 hB0 dJ6_stringSize_0f7a4_8 rfl (lv_at hl 1 rfl) ?_
    refine z_ineg (z := -x) CX dJ6_stringSize_0f7a4_9 rfl ?_
    refine lv_istore_n (lv' := [(0, .int (zI (-x))), (1, .int (zI 0))]) hX0 hB0 dJ6_stringSize_0f7a4_10 rfl hl (by decide) rfl (fun ls hl => ?_)
    refine lv_bipush (v := zI (-10)) hX0 hB0 dJ6_stringSize_0f7a4_11 (by decide) ?_
    refine lv_istore_n (lv' := [(2, .int (zI (-10))), (0, .int (zI (-x))), (1, .int (zI 0))]) hX0 hB0 dJ6_stringSize_0f7a4_13 rfl hl (by decide) rfl (fun ls hl => ?_)
    refine lv_iconst (v := zI 1) hX0 hB0 dJ6_stringSize_0f7a4_14 rfl ?_
    refine lv_istore_n (lv' := [(3, .int (zI 1)), (2, .int (zI (-10))), (0, .int (zI (-x))), (1, .int (zI 0))]) hX0 hB0 dJ6_stringSize_0f7a4_15 rfl hl (by decide) rfl (fun ls hl => ?_)
    refine lv_iload_n hX0 hB0 dJ6_stringSize_0f7a4_16 rfl (lv_at hl 0 rfl) ?_
    refine lv_bipush (v := zI 10) hX0 hB0 dJ6_stringSize_0f7a4_17 (by decide) ?_
    refine z_icmp_ge (tgt := 42) CX dJ6_stringSize_0f7a4_19 (by decide) (by constructor <;> omega) (by constructor <;> omega) (fun c_19 => ?_) (fun c_19 => ?_)
    ·
      omega
    ·
      refine lv_iload_n hX0 hB0 dJ6_stringSize_0f7a4_22 rfl (lv_at hl 2 rfl) ?_
      refine lv_iload_n hX0 hB0 dJ6_stringSize_0f7a4_23 rfl (lv_at hl 1 rfl) ?_
      refine z_icmp_le (tgt := 31) CX dJ6_stringSize_0f7a4_24 (by decide) (by constructor <;> omega) (by constructor <;> omega) (fun c_24 => ?_) (fun c_24 => ?_)
      ·
        omega
      ·
        refine lv_iload_n hX0 hB0 dJ6_stringSize_0f7a4_27 rfl (lv_at hl 0 rfl) ?_
        refine lv_iload_n hX0 hB0 dJ6_stringSize_0f7a4_28 rfl (lv_at hl 3 rfl) ?_
        refine z_iadd (z := 1) CX dJ6_stringSize_0f7a4_29 (by omega) ?_
        rw [← hQ]
        refine z_iret (z := 1) CX hW ?_ rfl dJ6_stringSize_0f7a4_30
        exact ⟨rfl, rfl⟩
set_option maxRecDepth 100000 in
set_option maxHeartbeats 4000000 in
/-- Integer.getChars, one digit -/
theorem c_getChars (l : Launch) {D : va_G} {cI cJ cZ cP cS cM : ClassId} {L : List Nat} {sz : Nat} {f : Nat → va_E} (x : Int) (m a cap : Nat) (d : Nat → Int) (hx : 0 ≤ x ∧ x ≤ 9) (ha : f a = zA cJ cap d) (hd : zbt d) (hc : m + 1 ≤ cap) (hc2 : cap ≤ 700) : zMi l yJ6_getChars_ba4f3 wsJ6_getChars_ba4f3 0 0 D (zT cI cJ cZ cP cS cM) L sz f [.int (zI x), .int (zI (((m + 1 : Nat) : Int))), .ref a] (fun z g => z = (m : Int) ∧ ∃ d1, g = va_up f a (zA cJ cap d1) ∧ zbt d1 ∧ (∀ k, k < m → d1 k = d k) ∧ d1 m = 48 + x) := by
  refine zWalk.met (nL := 7) (ret := (some .int)) (cc := cJ6_getChars_ba4f3) (by decide) rfl (Nat.le_of_ble_eq_true rfl) ?_
  intro pg en st mi ag bl mt cd ls CX hW hl
  have CX : zC pg st mi ag mt cd cJ6_getChars_ba4f3 7 (some .int) RJ6 wsJ6_getChars_ba4f3 := CX
  generalize hQ : MQ bl _ ag st 0 0 _ = Q
  have hX0 := CX.1
  have hB0 := CX.2.1
  have hl : lv_has ls 7 [(0, .int (zI x)), (1, .int (zI (((m + 1 : Nat) : Int)))), (2, .ref a)] := hl
  obtain ⟨H, eH⟩ : ∃ H, H = st.heap := ⟨_, rfl⟩
  obtain ⟨locs, eL⟩ : ∃ L : List Loc, L = [] := ⟨_, rfl⟩
  have hW : zW D (zT cI cJ cZ cP cS cM) L (zQ L sz) st f st.heap H locs := by rw [eH, eL]; exact hW
  suffices hgo : W pg l en ({ frames := 0, cells := 0, slots := 0, locals := 0 } : Room) st mi ag bl mt cd H locs 0 0 Q (F0 mi 0 ls []) by rw [eH, eL] at hgo; exact hgo
  clear eH eL
  refine lv_iload_n hX0 hB0 dJ6_getChars_ba4f3_0 rfl (lv_at hl 1 rfl) ?_
  refine lv_istore (lv' := [(5, .int (zI (((m + 1 : Nat) : Int)))), (0, .int (zI x)), (1, .int (zI (((m + 1 : Nat) : Int)))), (2, .ref a)]) hX0 hB0 dJ6_getChars_ba4f3_1 hl (by decide) rfl (fun ls hl => ?_)
  refine lv_iload_n hX0 hB0 dJ6_getChars_ba4f3_3 rfl (lv_at hl 1 rfl) ?_
  refine z_if_ge (tgt := 11) CX dJ6_getChars_ba4f3_4 (by decide) (by constructor <;> omega) (fun c_4 => ?_) (fun c_4 => ?_)
  ·
    refine lv_iconst (v := zI 0) hX0 hB0 dJ6_getChars_ba4f3_11 rfl ?_
    refine lv_istore (lv' := [(6, .int (zI 0)), (5, .int (zI (((m + 1 : Nat) : Int)))), (0, .int (zI x)), (1, .int (zI (((m + 1 : Nat) : Int)))), (2, .ref a)]) hX0 hB0 dJ6_getChars_ba4f3_12 hl (by decide) rfl (fun ls hl => ?_)
    refine lv_iload hX0 hB0 dJ6_getChars_ba4f3_14 (lv_at hl 0 rfl) ?_
    refine z_if_ne (tgt := 22) CX dJ6_getChars_ba4f3_16 (by decide) (by constructor <;> omega) (fun c_16 => ?_) (fun c_16 => ?_)
    ·
      omega
    ·
      refine lv_iload_n hX0 hB0 dJ6_getChars_ba4f3_19 rfl (lv_at hl 2 rfl) ?_
      refine z_ineg (z := -x) CX dJ6_getChars_ba4f3_20 rfl ?_
      refine lv_istore_n (lv' := [(0, .int (zI (-x))), (6, .int (zI 0)), (5, .int (zI (((m + 1 : Nat) : Int)))), (1, .int (zI (((m + 1 : Nat) : Int)))), (2, .ref a)]) hX0 hB0 dJ6_getChars_ba4f3_21 rfl hl (by decide) rfl (fun ls hl => ?_)
      refine lv_iload_n hX0 hB0 dJ6_getChars_ba4f3_22 rfl (lv_at hl 0 rfl) ?_
      refine lv_bipush (v := zI (-100)) hX0 hB0 dJ6_getChars_ba4f3_23 (by decide) ?_
      refine z_icmp_gt (tgt := 72) CX dJ6_getChars_ba4f3_25 (by decide) (by constructor <;> omega) (by constructor <;> omega) (fun c_25 => ?_) (fun c_25 => ?_)
      ·
        refine lv_aload_n hX0 hB0 dJ6_getChars_ba4f3_72 rfl (lv_at hl 4 rfl) ?_
        refine lv_iinc (v := zI ((((m + 1 : Nat) : Int)) + (-1))) (lv' := [(5, .int (zI ((((m + 1 : Nat) : Int)) + (-1)))), (0, .int (zI (-x))), (6, .int (zI 0)), (1, .int (zI (((m + 1 : Nat) : Int)))), (2, .ref a)]) hX0 hB0 dJ6_getChars_ba4f3_73 hl (k := 2) rfl (zI_add _ _) (by decide) rfl (fun ls hl => ?_)
        refine lv_iload hX0 hB0 dJ6_getChars_ba4f3_76 (lv_at hl 0 rfl) ?_
        refine z_gets CX hW hW.2.2.2.2.2.2.2.2.2.2.2.2.2.2.2.2.1 (List.mem_of_getElem? (i := 1) rfl) rfl dJ6_getChars_ba4f3_78 ?_
        refine lv_iload_n hX0 hB0 dJ6_getChars_ba4f3_81 rfl (lv_at hl 1 rfl) ?_
        refine z_ineg (z := -(-x)) CX dJ6_getChars_ba4f3_82 rfl ?_
        refine z_tbld (d := (fun k : Nat => zI (zdg k))) (z := zdg ((-(-x)).toNat)) CX hW hW.2.2.2.2.2.2.2.2.2.2.2.2.2.2.2.2.2 (by refine ⟨?_, ?_, ?_⟩ <;> omega) rfl dJ6_getChars_ba4f3_83 ?_
        refine z_bast CX hW ha 1 rfl (by refine ⟨?_, ?_, ?_⟩ <;> omega) (zdg_b _) (g := va_up f a (zA cJ cap (zup d (((((m + 1 : Nat) : Int)) + (-1)).toNat) (zdg ((-(-x)).toNat))))) rfl dJ6_getChars_ba4f3_84 (fun H locs hW => ?_)
        refine lv_iload_n hX0 hB0 dJ6_getChars_ba4f3_85 rfl (lv_at hl 1 rfl) ?_
        refine lv_bipush (v := zI (-9)) hX0 hB0 dJ6_getChars_ba4f3_86 (by decide) ?_
        refine z_icmp_ge (tgt := 104) CX dJ6_getChars_ba4f3_88 (by decide) (by constructor <;> omega) (by constructor <;> omega) (fun c_88 => ?_) (fun c_88 => ?_)
        ·
          refine lv_iload hX0 hB0 dJ6_getChars_ba4f3_104 (lv_at hl 2 rfl) ?_
          refine z_if_eq (tgt := 118) CX dJ6_getChars_ba4f3_106 (by decide) (by constructor <;> omega) (fun c_106 => ?_) (fun c_106 => ?_)
          ·
            refine lv_iload hX0 hB0 dJ6_getChars_ba4f3_118 (lv_at hl 0 rfl) ?_
            rw [← hQ]
            refine z_iret (z := (((m + 1 : Nat) : Int)) + (-1)) CX hW ?_ rfl dJ6_getChars_ba4f3_120
            refine ⟨by omega, _, rfl, zbt_up hd (zdg_b _), fun k hk => ?_, ?_⟩
            · unfold zup
              rw [if_neg (by omega)]
            · unfold zup
              rw [if_pos (by omega)]
              unfold zdg
              omega
          ·
            omega
        ·
          omega
      ·
        omega
  ·
    omega
set_option maxRecDepth 100000 in
set_option maxHeartbeats 4000000 in
/-- AbstractStringBuilder.append(int) -/
theorem c_appI5 (l : Launch) {D : va_G} {cI cJ cZ cP cS cM : ClassId} {L : List Nat} {sz : Nat} {f : Nat → va_E} {f0 : Nat → va_E} (q n : Nat) (t : Nat → Int) (x : Int) (hs : zSB cJ f0 f q n t) (hx : 0 ≤ x ∧ x ≤ 9) (hnw : n + 1 ≤ 340) : zXr l yJ5_append_c97b9 wsJ5_append_c97b9 4 124 1 700 D (zT cI cJ cZ cP cS cM) L sz f [.ref q, .int (zI x)] (fun r g => r = some q ∧ zSB cJ f0 g q (n + 1) (zct2 t n (fun _ => 48 + x))) := by
  obtain ⟨⟨v, cap, d, ml, hq, hv, hd, hdt, hncap, hcap, hj⟩, hjq, hk0⟩ := hs
  refine zyWalk.met (nL := 4) (ret := (some (.object "java/lang/AbstractStringBuilder"))) (cc := cJ5_append_c97b9) (by decide) rfl (Nat.le_of_ble_eq_true rfl) ?_
  intro pg en st mi ag bl mt cd ls CX hin hW hl
  have CX : zC pg st mi ag mt cd cJ5_append_c97b9 4 (some (.object "java/lang/AbstractStringBuilder")) RJ5 wsJ5_append_c97b9 := CX
  generalize hQ : MQ bl _ ag st 1 700 _ = Q
  have hX0 := CX.1
  have hB0 := CX.2.1
  have hl : lv_has ls 4 [(0, .ref q), (1, .int (zI x))] := hl
  obtain ⟨H, eH⟩ : ∃ H, H = st.heap := ⟨_, rfl⟩
  obtain ⟨locs, eL⟩ : ∃ L : List Loc, L = [] := ⟨_, rfl⟩
  have hW : zW D (zT cI cJ cZ cP cS cM) L (zQ L sz) st f st.heap H locs := by rw [eH, eL]; exact hW
  suffices hgo : W pg l en ({ frames := 4, cells := 1, slots := 700, locals := 124 } : Room) st mi ag bl mt cd H locs 0 0 Q (F0 mi 0 ls []) by rw [eH, eL] at hgo; exact hgo
  clear eH eL
  refine lv_aload_n hX0 hB0 dJ5_append_c97b9_0 rfl (lv_at hl 0 rfl) ?_
  refine z_get (Cn := RJ4) (T := TJ4) (N := 4) CX hW (v := .int (zI ((n : Int)))) hq rfl (fun w h => List.mem_cons_of_mem _ (List.mem_append_right _ h)) 3 (by decide) (List.mem_of_getElem? (i := 1) rfl) rfl rfl dJ5_append_c97b9_1 ?_
  refine lv_istore_n (lv' := [(2, .int (zI ((n : Int)))), (0, .ref q), (1, .int (zI x))]) hX0 hB0 dJ5_append_c97b9_4 rfl hl (by decide) rfl (fun ls hl => ?_)
  refine lv_iload_n hX0 hB0 dJ5_append_c97b9_5 rfl (lv_at hl 0 rfl) ?_
  refine lv_iload_n hX0 hB0 dJ5_append_c97b9_6 rfl (lv_at hl 2 rfl) ?_
  refine z_calli hW (va_runS (As := [.int (zI x)]) (rest := [.int (zI ((n : Int)))]) CX.fix (c_stringSize l (f := f) x hx) (va_cwS 1 CX.fix.2.2.2.2 gJ5_append_c97b9_J6_stringSize_0f7a4 rfl rfl rfl (by decide +kernel) ⟨Nat.le_of_ble_eq_true rfl, Nat.le_of_ble_eq_true rfl⟩) (z_preS CX hW) rfl rfl hl.1 rfl (lv_room (Nat.le_of_ble_eq_true rfl)) dJ5_append_c97b9_7 ⟨by show _ ≤ 1; omega, by show _ ≤ 700; omega⟩) (fun zv gn H locs hok7 hW => ?_)
  obtain ⟨ez, eg⟩ := hok7
  have eg : gn = f := eg
  rw [eg] at hW
  clear eg
  have ez : zv = 1 := ez
  rw [ez]
  clear ez
  refine z_iadd (z := ((n + 1 : Nat) : Int)) CX dJ5_append_c97b9_10 (by omega) ?_
  refine lv_istore_n (lv' := [(3, .int (zI (((n + 1 : Nat) : Int)))), (2, .int (zI ((n : Int)))), (0, .ref q), (1, .int (zI x))]) hX0 hB0 dJ5_append_c97b9_11 rfl hl (by decide) rfl (fun ls hl => ?_)
  refine lv_aload_n hX0 hB0 dJ5_append_c97b9_12 rfl (lv_at hl 2 rfl) ?_
  refine lv_iload_n hX0 hB0 dJ5_append_c97b9_13 rfl (lv_at hl 0 rfl) ?_
  refine zy_callv hW (va_runU (C := RJ4) (As := [.int (zI (((n + 1 : Nat) : Int)))]) (rest := []) CX.fix (c_ensure l (f := f) q v cap n d ml (n + 1) hq hv hd (by omega) (by omega) (by omega)) (va_cwU 1 CX.fix.2.2.2.2 gJ5_append_c97b9_J5_ensureCapacityInternal_d00df_u100J4 rfl rfl rfl rfl (by decide +kernel) ⟨Nat.le_of_ble_eq_true rfl, Nat.le_of_ble_eq_true rfl⟩) (z_preV CX hW (r := (RJ4, TJ4, 4)) hq rfl) rfl rfl hl.1 rfl (lv_room (Nat.le_of_ble_eq_true rfl)) dJ5_append_c97b9_14 ⟨by show _ ≤ 1; omega, by show _ ≤ 700; omega⟩) (fun Lx gn H locs hok14 hW => ?_)
  obtain ⟨g14_2, eg14⟩ : ∃ q, q = gn := ⟨_, rfl⟩
  rw [← eg14] at hW hok14
  clear eg14
  obtain ⟨v1, cap1, d1, hq1, hv1, hd1, hdk1, hmc1, hc1, hvv1, hfr1⟩ := hok14
  refine W.widen (k := 1) (n := 700) (by omega) (by omega) ?_
  refine lv_aload_n hX0 hB0 dJ5_append_c97b9_17 rfl (lv_at hl 2 rfl) ?_
  refine z_calli hW (va_runU (C := RJ4) (As := []) (rest := []) CX.fix (c_sbLatin l (f := g14_2) q v1 cap1 n d1 ml hq1) (va_cwU 0 CX.fix.2.2.2.2 gJ5_append_c97b9_J5_isLatin1_aae02_u83J4 rfl rfl rfl rfl (by decide +kernel) ⟨Nat.le_of_ble_eq_true rfl, Nat.le_of_ble_eq_true rfl⟩) (z_preV CX hW (r := (RJ4, TJ4, 4)) hq1 rfl) rfl rfl hl.1 rfl (lv_room (Nat.le_of_ble_eq_true rfl)) dJ5_append_c97b9_18 ⟨by show _ ≤ 1; omega, by show _ ≤ 700; omega⟩) (fun zv gn H locs hok18 hW => ?_)
  obtain ⟨ez, eg⟩ := hok18
  have eg : gn = g14_2 := eg
  rw [eg] at hW
  clear eg
  have ez : zv = 1 := ez
  rw [ez]
  clear ez
  refine z_if_eq (tgt := 37) CX dJ5_append_c97b9_21 (by decide) (by constructor <;> omega) (fun c_21 => ?_) (fun c_21 => ?_)
  ·
    omega
  ·
    refine lv_iload_n hX0 hB0 dJ5_append_c97b9_24 rfl (lv_at hl 3 rfl) ?_
    refine lv_iload_n hX0 hB0 dJ5_append_c97b9_25 rfl (lv_at hl 0 rfl) ?_
    refine lv_aload_n hX0 hB0 dJ5_append_c97b9_26 rfl (lv_at hl 2 rfl) ?_
    refine z_get (Cn := RJ4) (T := TJ4) (N := 4) CX hW (v := .ref v1) hq1 rfl (fun w h => List.mem_cons_of_mem _ (List.mem_append_right _ h)) 0 (by decide) (List.mem_of_getElem? (i := 2) rfl) rfl rfl dJ5_append_c97b9_27 ?_
    refine z_calli hW (va_runS (As := [.int (zI x), .int (zI (((n + 1 : Nat) : Int))), .ref v1]) (rest := []) CX.fix (c_getChars l (f := g14_2) x n v1 cap1 d1 hx hv1 hd1 (by omega) (by omega)) (va_cwS 3 CX.fix.2.2.2.2 gJ5_append_c97b9_J6_getChars_ba4f3 rfl rfl rfl (by decide +kernel) ⟨Nat.le_of_ble_eq_true rfl, Nat.le_of_ble_eq_true rfl⟩) (z_preS CX hW) rfl rfl hl.1 rfl (lv_room (Nat.le_of_ble_eq_true rfl)) dJ5_append_c97b9_30 ⟨by show _ ≤ 1; omega, by show _ ≤ 700; omega⟩) (fun zv gn H locs hok30 hW => ?_)
    obtain ⟨ez, d3, eg, hd3, hlo3, hhi3⟩ := hok30
    have eg : gn = va_up g14_2 v1 (zA cJ cap1 d3) := eg
    rw [eg] at hW
    clear eg
    rw [ez]
    clear ez
    refine lv_pop hX0 hB0 dJ5_append_c97b9_33 rfl ?_
    refine lv_goto (tgt := 48) hX0 hB0 dJ5_append_c97b9_34 (by decide) ?_
    refine lv_aload_n hX0 hB0 dJ5_append_c97b9_48 rfl (lv_at hl 2 rfl) ?_
    refine lv_iload_n hX0 hB0 dJ5_append_c97b9_49 rfl (lv_at hl 0 rfl) ?_
    refine z_put (Cn := RJ4) (T := TJ4) (N := 4) CX hW (v := .int (zI (((n + 1 : Nat) : Int)))) ((va_up_ne _ _ (zne hq1 hv1 zoi)).trans hq1) rfl (fun w h => List.mem_cons_of_mem _ (List.mem_append_right _ h)) tyJ4 tyJ4_ok nmJ4 3 (by decide) (List.mem_of_getElem? (i := 1) rfl) rfl rfl rfl rfl (Nat.le_of_ble_eq_true rfl) (g := va_up (va_up g14_2 v1 (zA cJ cap1 d3)) q (.inr (13, [.ref v1, .int (zI 0), .int (zI ml), .int (zI (((n + 1 : Nat) : Int)))]))) rfl dJ5_append_c97b9_50 (fun H locs hW => ?_)
    refine lv_aload_n hX0 hB0 dJ5_append_c97b9_53 rfl (lv_at hl 2 rfl) ?_
    rw [← hQ]
    refine W.widen (k := 1) (n := 700) (by omega) (by omega) ?_
    refine zy_aret (r := some q) (Or.inl ⟨_, rfl⟩) CX hW ?_ dJ5_append_c97b9_54
    refine ⟨rfl, ⟨v1, cap1, d3, ml, (va_up_self _ _ _), ((va_up_ne _ _ (zne hv1 hq1 zio)).trans (va_up_self _ _ _)), hd3, fun k hk => ?_, by omega, hc1, ?_⟩, hjq, fun b hb => ?_⟩
    · by_cases c : k < n
      · rw [hlo3 k c, hdk1 k c, hdt k c]
        exact (if_pos c).symm
      · obtain ⟨j, hj2⟩ : ∃ j, k = n + j := ⟨k - n, by omega⟩
        subst hj2
        have ej : j = 0 := by omega
        rw [ej, Nat.add_zero, hhi3]
        show _ = (if n < n then t (n) else (48 + x))
        rw [if_neg (Nat.lt_irrefl n)]
    · rcases hvv1 with z | z
      · rw [z]; exact hj
      · exact Classical.byContradiction fun z2 => z2 (Classical.byContradiction fun z3 => by have := hk0 _ z3; rw [z] at this; exact z3 this.symm)
    · have e := hk0 b hb
      have nb : f b ≠ zJ := by rw [e]; exact hb
      have nq : b ≠ q := fun z => hb (by rw [z]; exact hjq)
      have nv : b ≠ v1 := fun z => by
        rcases hvv1 with y | y
        · exact hb (by rw [z, y]; exact hj)
        · exact nb (by rw [z]; exact y)
      rw [va_up_ne _ _ nq, va_up_ne _ _ nv]
      rw [hfr1 b nb nq, e]
set_option maxRecDepth 100000 in
set_option maxHeartbeats 4000000 in
/-- StringBuilder.append(int) -/
theorem c_appI4 (l : Launch) {D : va_G} {cI cJ cZ cP cS cM : ClassId} {L : List Nat} {sz : Nat} {f : Nat → va_E} {f0 : Nat → va_E} (q n : Nat) (t : Nat → Int) (x : Int) (hs : zSB cJ f0 f q n t) (hx : 0 ≤ x ∧ x ≤ 9) (hnw : n + 1 ≤ 340) : zXr l yJ4_append_bf812 wsJ4_append_bf812 5 147 1 700 D (zT cI cJ cZ cP cS cM) L sz f [.ref q, .int (zI x)] (fun r g => r = some q ∧ zSB cJ f0 g q (n + 1) (zct2 t n (fun _ => 48 + x))) := by
  refine zyWalk.met (nL := 2) (ret := (some (.object "java/lang/StringBuilder"))) (cc := cJ4_append_bf812) (by decide) rfl (Nat.le_of_ble_eq_true rfl) ?_
  intro pg en st mi ag bl mt cd ls CX hin hW hl
  have CX : zC pg st mi ag mt cd cJ4_append_bf812 2 (some (.object "java/lang/StringBuilder")) RJ4 wsJ4_append_bf812 := CX
  generalize hQ : MQ bl _ ag st 1 700 _ = Q
  have hX0 := CX.1
  have hB0 := CX.2.1
  have hl : lv_has ls 2 [(0, .ref q), (1, .int (zI x))] := hl
  obtain ⟨H, eH⟩ : ∃ H, H = st.heap := ⟨_, rfl⟩
  obtain ⟨locs, eL⟩ : ∃ L : List Loc, L = [] := ⟨_, rfl⟩
  have hW : zW D (zT cI cJ cZ cP cS cM) L (zQ L sz) st f st.heap H locs := by rw [eH, eL]; exact hW
  suffices hgo : W pg l en ({ frames := 5, cells := 1, slots := 700, locals := 147 } : Room) st mi ag bl mt cd H locs 0 0 Q (F0 mi 0 ls []) by rw [eH, eL] at hgo; exact hgo
  clear eH eL
  refine lv_aload_n hX0 hB0 dJ4_append_bf812_0 rfl (lv_at hl 0 rfl) ?_
  refine lv_iload_n hX0 hB0 dJ4_append_bf812_1 rfl (lv_at hl 1 rfl) ?_
  refine zy_callr hW (va_runSU (C := RJ4) (As := [.int (zI x)]) (rest := []) (zy_at hW (ci := 13) rfl) CX.fix (c_appI5 l (f := f) q n t x hs (by omega) (by omega)) (va_cwSU 1 CX.fix.2.2.2.2 gJ4_append_bf812_J5_append_c97b9_s53 rfl rfl rfl (by decide +kernel) ⟨Nat.le_of_ble_eq_true rfl, Nat.le_of_ble_eq_true rfl⟩) (z_preSB CX hW hs) rfl rfl hl.1 rfl (lv_room (Nat.le_of_ble_eq_true rfl)) dJ4_append_bf812_2 ⟨by show _ ≤ 1; omega, by show _ ≤ 700; omega⟩) (fun zv Lx gn H locs hok2 hW => ?_)
  obtain ⟨g2_2, eg2⟩ : ∃ q, q = gn := ⟨_, rfl⟩
  rw [← eg2] at hW hok2
  clear eg2
  obtain ⟨hr1, hs1⟩ := hok2
  have ez : zv = some q := hr1
  rw [ez]
  clear ez
  refine W.widen (k := 1) (n := 700) (by omega) (by omega) ?_
  refine lv_pop hX0 hB0 dJ4_append_bf812_5 rfl ?_
  refine lv_aload_n hX0 hB0 dJ4_append_bf812_6 rfl (lv_at hl 0 rfl) ?_
  rw [← hQ]
  refine W.widen (k := 1) (n := 700) (by omega) (by omega) ?_
  refine zy_aret (r := some q) (Or.inl ⟨_, rfl⟩) CX hW ?_ dJ4_append_bf812_7
  exact ⟨rfl, hs1⟩
end ZJc
