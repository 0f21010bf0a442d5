section ZCk
noncomputable def zc_letter (M : zCt) (cv : Int) (i : Int) : Int × zCt := zlet (zletter (M.1 0 4) (M.1 3) cv i) (fun z6 => (z6, M))
noncomputable def zc_feed (M : zCt) (a : Int) (b : Int) (c : Int) (d : Int) (e : Int) : Int × zCt := zlet ((if M.1 0 2 ≤ 980 then (1 : Int) else 0)) (fun z4 => (if z4 = 0 then zlet (zc_refuse M 0) (fun M12 => (-1, M12)) else zlet (zw_append M a) (fun M22 => zlet (zw_append M22 b) (fun M30 => zlet (zw_append M30 c) (fun M38 => zlet (zw_append M38 d) (fun M47 => zlet (zw_append M47 e) (fun M56 => (M56.1 0 2, M56))))))))
set_option maxRecDepth 100000 in
set_option maxHeartbeats 4000000 in
theorem zd_feed (l : Launch) {D : va_G} {cI cJ cZ cP cS cM : ClassId} {L : List Nat} {sz : Nat} {f : Nat → va_E} (o : Nat) (M : zCt) (a : Int) (b : Int) (c : Int) (d : Int) (e : Int) (hP : zCP cI cP cS cZ cM o M f) (hC : zCI M) (ha : -2147483648 ≤ a ∧ a ≤ 2147483647) (hb : -2147483648 ≤ b ∧ b ≤ 2147483647) (hc : -2147483648 ≤ c ∧ c ≤ 2147483647) (hd : -2147483648 ≤ d ∧ d ≤ 2147483647) (he : -2147483648 ≤ e ∧ e ≤ 2147483647) : zMi l yX11_feed wsX11_feed 1 22 D (zT cI cJ cZ cP cS cM) L sz f [.ref o, .int (zI a), .int (zI b), .int (zI c), .int (zI d), .int (zI e)] (fun zv gv => zv = (zc_feed M a b c d e).1 ∧ zCP cI cP cS cZ cM o (zc_feed M a b c d e).2 gv ∧ zCI (zc_feed M a b c d e).2 ∧ zFr f gv o (o + 681) ∧ True) := by
  refine zWalk.met (nL := 6) (ret := (some .int)) (cc := cX11_feed) (by decide) rfl (Nat.le_of_ble_eq_true rfl) ?_
  intro pg en st mi ag bl mt cd ls CX hW hl
  have CX : zC pg st mi ag mt cd cX11_feed 6 (some .int) RX11 wsX11_feed := CX
  generalize hQ : MQ bl _ ag st 0 0 _ = Q
  have hX0 := CX.1
  have hB0 := CX.2.1
  have hl : lv_has ls 6 [(0, .ref o), (1, .int (zI a)), (2, .int (zI b)), (3, .int (zI c)), (4, .int (zI d)), (5, .int (zI e))] := hl
  obtain ⟨H, eH⟩ : ∃ H, H = st.heap := ⟨_, rfl⟩
  obtain ⟨locs, eL⟩ : ∃ L : List Loc, L = [] := ⟨_, rfl⟩
  have hW : zW D (zT cI cJ cZ cP cS cM) L (zQ L sz) st f st.heap H locs := by rw [eH, eL]; exact hW
  suffices hgo : W pg l en ({ frames := 1, cells := 0, slots := 0, locals := 22 } : Room) st mi ag bl mt cd H locs 0 0 Q (F0 mi 0 ls []) by rw [eH, eL] at hgo; exact hgo
  clear eH eL
  have hpb := hC.p
  have hnb := hC.cn
  refine lv_aload_n hX0 hB0 dX11_feed_0 rfl (lv_at hl 0 rfl) ?_
  refine z_get (Cn := RX11) (T := TX11) (N := 13) CX hW (v := .ref (o + 98)) (show f o = _ from hP.c0) rfl (fun w h => List.mem_cons_of_mem _ (List.mem_append_left _ (List.mem_append_right _ h))) 0 (by decide) (List.mem_of_getElem? (i := 1) rfl) rfl rfl dX11_feed_1 ?_
  refine z_calli hW (va_runV (C := RX3) (As := []) (rest := []) CX.fix (c_hasRoom l (o + 98) (M.1 0 2) (M.2.2.2.2 0 1) (M.2.2.2.2 0 2) (M.2.2.2.2 0 0) (M.1 2) hP.c2.ob hP.c2.tp hC.tp) (cwV 0 CX.fix.2.2.2.2 gX11_feed_X3_hasRoomForFive rfl rfl rfl (by decide +kernel) ⟨Nat.le_of_ble_eq_true rfl, Nat.le_of_ble_eq_true rfl⟩) (z_preV CX hW (r := (RX3, TX3, 13)) hP.c2.ob rfl) rfl rfl hl.1 rfl (lv_room (Nat.le_of_ble_eq_true rfl)) dX11_feed_4 ⟨Nat.zero_le _, Nat.zero_le _⟩) (fun z4 g4 H locs hok hW => ?_)
  obtain ⟨hz, hg⟩ := hok
  have e4 : (if M.1 0 2 ≤ 980 then (1 : Int) else 0) = z4 := hz.symm
  have hb4 : 0 ≤ z4 ∧ z4 ≤ 1 := by rw [← e4]; split <;> omega
  rw [hg] at hW
  clear hg
  refine z_if_ne (tgt := 17) CX dX11_feed_7 (by decide) (by constructor <;> omega) (fun c_7 => ?_) (fun c_7 => ?_)
  ·
    refine lv_aload_n hX0 hB0 dX11_feed_17 rfl (lv_at hl 0 rfl) ?_
    refine z_get (Cn := RX11) (T := TX11) (N := 13) CX hW (v := .ref (o + 98)) (show f o = _ from hP.c0) rfl (fun w h => List.mem_cons_of_mem _ (List.mem_append_left _ (List.mem_append_right _ h))) 0 (by decide) (List.mem_of_getElem? (i := 1) rfl) rfl rfl dX11_feed_18 ?_
    refine lv_iload_n hX0 hB0 dX11_feed_21 rfl (lv_at hl 1 rfl) ?_
    refine z_callv hW (va_runV (C := RX3) (As := [.int (zI a)]) (rest := []) CX.fix (c_append l (o + 98) (M.1 0 2) (M.2.2.2.2 0 1) (M.2.2.2.2 0 2) (M.2.2.2.2 0 0) (M.1 2) a hP.c2.ob hP.c2.tp hC.tp (by constructor <;> omega)) (cwV 1 CX.fix.2.2.2.2 gX11_feed_X3_append rfl rfl rfl (by decide +kernel) ⟨Nat.le_of_ble_eq_true rfl, Nat.le_of_ble_eq_true rfl⟩) (z_preV CX hW (r := (RX3, TX3, 13)) hP.c2.ob rfl) rfl rfl hl.1 rfl (lv_room (Nat.le_of_ble_eq_true rfl)) dX11_feed_22 ⟨Nat.zero_le _, Nat.zero_le _⟩) (fun g22 H locs hok hW => ?_)
    have hg := hok
    obtain ⟨M22, em22⟩ : ∃ Mq, zw_append M a = Mq := ⟨_, rfl⟩
    have hP22 : zCP cI cP cS cZ cM o M22 g22 := by rw [← em22]; exact zr_append hP hg
    have hC22 : zCI M22 := by rw [← em22]; exact zi_append hC
    have hF22 : zFr f g22 o (o + 681) := zFr.trans zFr.refl (fun q hq => by rw [hg, va_up_ne _ _ (by omega), va_up_ne _ _ (by omega)])
    refine lv_aload_n hX0 hB0 dX11_feed_25 rfl (lv_at hl 0 rfl) ?_
    refine z_get (Cn := RX11) (T := TX11) (N := 13) CX hW (v := .ref (o + 98)) (show g22 o = _ from hP22.c0) rfl (fun w h => List.mem_cons_of_mem _ (List.mem_append_left _ (List.mem_append_right _ h))) 0 (by decide) (List.mem_of_getElem? (i := 1) rfl) rfl rfl dX11_feed_26 ?_
    refine lv_iload_n hX0 hB0 dX11_feed_29 rfl (lv_at hl 2 rfl) ?_
    refine z_callv hW (va_runV (C := RX3) (As := [.int (zI b)]) (rest := []) CX.fix (c_append l (o + 98) (M22.1 0 2) (M22.2.2.2.2 0 1) (M22.2.2.2.2 0 2) (M22.2.2.2.2 0 0) (M22.1 2) b hP22.c2.ob hP22.c2.tp hC22.tp (by constructor <;> omega)) (cwV 1 CX.fix.2.2.2.2 gX11_feed_X3_append rfl rfl rfl (by decide +kernel) ⟨Nat.le_of_ble_eq_true rfl, Nat.le_of_ble_eq_true rfl⟩) (z_preV CX hW (r := (RX3, TX3, 13)) hP22.c2.ob rfl) rfl rfl hl.1 rfl (lv_room (Nat.le_of_ble_eq_true rfl)) dX11_feed_30 ⟨Nat.zero_le _, Nat.zero_le _⟩) (fun g30 H locs hok hW => ?_)
    have hg := hok
    obtain ⟨M30, em30⟩ : ∃ Mq, zw_append M22 b = Mq := ⟨_, rfl⟩
    have hP30 : zCP cI cP cS cZ cM o M30 g30 := by rw [← em30]; exact zr_append hP22 hg
    have hC30 : zCI M30 := by rw [← em30]; exact zi_append hC22
    have hF30 : zFr f g30 o (o + 681) := zFr.trans hF22 (fun q hq => by rw [hg, va_up_ne _ _ (by omega), va_up_ne _ _ (by omega)])
    refine lv_aload_n hX0 hB0 dX11_feed_33 rfl (lv_at hl 0 rfl) ?_
    refine z_get (Cn := RX11) (T := TX11) (N := 13) CX hW (v := .ref (o + 98)) (show g30 o = _ from hP30.c0) rfl (fun w h => List.mem_cons_of_mem _ (List.mem_append_left _ (List.mem_append_right _ h))) 0 (by decide) (List.mem_of_getElem? (i := 1) rfl) rfl rfl dX11_feed_34 ?_
    refine lv_iload_n hX0 hB0 dX11_feed_37 rfl (lv_at hl 3 rfl) ?_
    refine z_callv hW (va_runV (C := RX3) (As := [.int (zI c)]) (rest := []) CX.fix (c_append l (o + 98) (M30.1 0 2) (M30.2.2.2.2 0 1) (M30.2.2.2.2 0 2) (M30.2.2.2.2 0 0) (M30.1 2) c hP30.c2.ob hP30.c2.tp hC30.tp (by constructor <;> omega)) (cwV 1 CX.fix.2.2.2.2 gX11_feed_X3_append rfl rfl rfl (by decide +kernel) ⟨Nat.le_of_ble_eq_true rfl, Nat.le_of_ble_eq_true rfl⟩) (z_preV CX hW (r := (RX3, TX3, 13)) hP30.c2.ob rfl) rfl rfl hl.1 rfl (lv_room (Nat.le_of_ble_eq_true rfl)) dX11_feed_38 ⟨Nat.zero_le _, Nat.zero_le _⟩) (fun g38 H locs hok hW => ?_)
    have hg := hok
    obtain ⟨M38, em38⟩ : ∃ Mq, zw_append M30 c = Mq := ⟨_, rfl⟩
    have hP38 : zCP cI cP cS cZ cM o M38 g38 := by rw [← em38]; exact zr_append hP30 hg
    have hC38 : zCI M38 := by rw [← em38]; exact zi_append hC30
    have hF38 : zFr f g38 o (o + 681) := zFr.trans hF30 (fun q hq => by rw [hg, va_up_ne _ _ (by omega), va_up_ne _ _ (by omega)])
    refine lv_aload_n hX0 hB0 dX11_feed_41 rfl (lv_at hl 0 rfl) ?_
    refine z_get (Cn := RX11) (T := TX11) (N := 13) CX hW (v := .ref (o + 98)) (show g38 o = _ from hP38.c0) rfl (fun w h => List.mem_cons_of_mem _ (List.mem_append_left _ (List.mem_append_right _ h))) 0 (by decide) (List.mem_of_getElem? (i := 1) rfl) rfl rfl dX11_feed_42 ?_
    refine lv_iload hX0 hB0 dX11_feed_45 (lv_at hl 4 rfl) ?_
    refine z_callv hW (va_runV (C := RX3) (As := [.int (zI d)]) (rest := []) CX.fix (c_append l (o + 98) (M38.1 0 2) (M38.2.2.2.2 0 1) (M38.2.2.2.2 0 2) (M38.2.2.2.2 0 0) (M38.1 2) d hP38.c2.ob hP38.c2.tp hC38.tp (by constructor <;> omega)) (cwV 1 CX.fix.2.2.2.2 gX11_feed_X3_append rfl rfl rfl (by decide +kernel) ⟨Nat.le_of_ble_eq_true rfl, Nat.le_of_ble_eq_true rfl⟩) (z_preV CX hW (r := (RX3, TX3, 13)) hP38.c2.ob rfl) rfl rfl hl.1 rfl (lv_room (Nat.le_of_ble_eq_true rfl)) dX11_feed_47 ⟨Nat.zero_le _, Nat.zero_le _⟩) (fun g47 H locs hok hW => ?_)
    have hg := hok
    obtain ⟨M47, em47⟩ : ∃ Mq, zw_append M38 d = Mq := ⟨_, rfl⟩
    have hP47 : zCP cI cP cS cZ cM o M47 g47 := by rw [← em47]; exact zr_append hP38 hg
    have hC47 : zCI M47 := by rw [← em47]; exact zi_append hC38
    have hF47 : zFr f g47 o (o + 681) := zFr.trans hF38 (fun q hq => by rw [hg, va_up_ne _ _ (by omega), va_up_ne _ _ (by omega)])
    refine lv_aload_n hX0 hB0 dX11_feed_50 rfl (lv_at hl 0 rfl) ?_
    refine z_get (Cn := RX11) (T := TX11) (N := 13) CX hW (v := .ref (o + 98)) (show g47 o = _ from hP47.c0) rfl (fun w h => List.mem_cons_of_mem _ (List.mem_append_left _ (List.mem_append_right _ h))) 0 (by decide) (List.mem_of_getElem? (i := 1) rfl) rfl rfl dX11_feed_51 ?_
    refine lv_iload hX0 hB0 dX11_feed_54 (lv_at hl 5 rfl) ?_
    refine z_callv hW (va_runV (C := RX3) (As := [.int (zI e)]) (rest := []) CX.fix (c_append l (o + 98) (M47.1 0 2) (M47.2.2.2.2 0 1) (M47.2.2.2.2 0 2) (M47.2.2.2.2 0 0) (M47.1 2) e hP47.c2.ob hP47.c2.tp hC47.tp (by constructor <;> omega)) (cwV 1 CX.fix.2.2.2.2 gX11_feed_X3_append rfl rfl rfl (by decide +kernel) ⟨Nat.le_of_ble_eq_true rfl, Nat.le_of_ble_eq_true rfl⟩) (z_preV CX hW (r := (RX3, TX3, 13)) hP47.c2.ob rfl) rfl rfl hl.1 rfl (lv_room (Nat.le_of_ble_eq_true rfl)) dX11_feed_56 ⟨Nat.zero_le _, Nat.zero_le _⟩) (fun g56 H locs hok hW => ?_)
    have hg := hok
    obtain ⟨M56, em56⟩ : ∃ Mq, zw_append M47 e = Mq := ⟨_, rfl⟩
    have hP56 : zCP cI cP cS cZ cM o M56 g56 := by rw [← em56]; exact zr_append hP47 hg
    have hC56 : zCI M56 := by rw [← em56]; exact zi_append hC47
    have hF56 : zFr f g56 o (o + 681) := zFr.trans hF47 (fun q hq => by rw [hg, va_up_ne _ _ (by omega), va_up_ne _ _ (by omega)])
    refine lv_aload_n hX0 hB0 dX11_feed_59 rfl (lv_at hl 0 rfl) ?_
    refine z_get (Cn := RX11) (T := TX11) (N := 13) CX hW (v := .ref (o + 98)) (show g56 o = _ from hP56.c0) rfl (fun w h => List.mem_cons_of_mem _ (List.mem_append_left _ (List.mem_append_right _ h))) 0 (by decide) (List.mem_of_getElem? (i := 1) rfl) rfl rfl dX11_feed_60 ?_
    refine z_get (Cn := RX3) (T := TX3) (N := 13) CX hW (v := .int (zI (M56.1 0 2))) hP56.c2.ob rfl (fun w h => List.mem_cons_of_mem _ (List.mem_append_right _ h)) 0 (by decide) (List.mem_of_getElem? (i := 2) rfl) rfl rfl dX11_feed_63 ?_
    have hr63 := And.intro hC56.tp.1 hC56.tp.2.1
    have hE : zc_feed M a b c d e = (M56.1 0 2, M56) := by unfold zc_feed; exact zlet_e e4 (zif_f c_7 (zlet_e em22 (zlet_e em30 (zlet_e em38 (zlet_e em47 (zlet_e em56 rfl))))))
    rw [← hQ]
    exact z_iret (z := M56.1 0 2) CX hW (by rw [hE]; exact ⟨rfl, hP56, hC56, hF56, trivial⟩) rfl dX11_feed_66
  ·
    refine lv_aload_n hX0 hB0 dX11_feed_10 rfl (lv_at hl 0 rfl) ?_
    refine lv_iconst (v := zI 0) hX0 hB0 dX11_feed_11 rfl ?_
    refine z_callv hW (va_runV (C := RX11) (As := [.int (zI 0)]) (rest := []) CX.fix (zd_refuse l o M 0 hP hC (by constructor <;> omega)) (cwV 1 CX.fix.2.2.2.2 gX11_feed_X11_refuse rfl rfl rfl (by decide +kernel) ⟨Nat.le_of_ble_eq_true rfl, Nat.le_of_ble_eq_true rfl⟩) (z_preV CX hW (r := (RX11, TX11, 13)) (show f o = _ from hP.c0) rfl) rfl rfl hl.1 rfl (lv_room (Nat.le_of_ble_eq_true rfl)) dX11_feed_12 ⟨Nat.zero_le _, Nat.zero_le _⟩) (fun g12 H locs hok hW => ?_)
    obtain ⟨hp, hc, hfr, hq12⟩ := hok
    obtain ⟨M12, e12⟩ : ∃ Mq, zc_refuse M 0 = Mq := ⟨_, rfl⟩
    rw [e12] at hp hc
    try rw [e12] at hq12
    have hP12 := hp
    have hC12 := hc
    have hF12 : zFr f g12 o (o + 681) := zFr.trans zFr.refl hfr
    clear hp hc hfr
    refine lv_iconst (v := zI (-1)) hX0 hB0 dX11_feed_15 rfl ?_
    have hE : zc_feed M a b c d e = (-1, M12) := by unfold zc_feed; exact zlet_e e4 (zif_t c_7 (zlet_e e12 rfl))
    rw [← hQ]
    exact z_iret (z := -1) CX hW (by rw [hE]; exact ⟨rfl, hP12, hC12, hF12, trivial⟩) rfl dX11_feed_16
noncomputable def zc_end (M : zCt) (n : Int) : Int × zCt := (if n < 0 then zlet (zc_refuse M 0) (fun M17 => (0, M17)) else (if n ≤ M.1 0 2 then zlet (zw_len M n) (fun M27 => (1, M27)) else zlet (zc_refuse M 0) (fun M17 => (0, M17))))
set_option maxRecDepth 100000 in
set_option maxHeartbeats 4000000 in
theorem zd_end (l : Launch) {D : va_G} {cI cJ cZ cP cS cM : ClassId} {L : List Nat} {sz : Nat} {f : Nat → va_E} (o : Nat) (M : zCt) (n : Int) (hP : zCP cI cP cS cZ cM o M f) (hC : zCI M) (hn : -2147483648 ≤ n ∧ n ≤ 2147483647) : zMi l yX11_end wsX11_end 1 21 D (zT cI cJ cZ cP cS cM) L sz f [.ref o, .int (zI n)] (fun zv gv => zv = (zc_end M n).1 ∧ zCP cI cP cS cZ cM o (zc_end M n).2 gv ∧ zCI (zc_end M n).2 ∧ zFr f gv o (o + 681) ∧ True) := by
  refine zWalk.met (nL := 2) (ret := (some .boolean)) (cc := cX11_end) (by decide) rfl (Nat.le_of_ble_eq_true rfl) ?_
  intro pg en st mi ag bl mt cd ls CX hW hl
  have CX : zC pg st mi ag mt cd cX11_end 2 (some .boolean) RX11 wsX11_end := CX
  generalize hQ : MQ bl _ ag st 0 0 _ = Q
  have hX0 := CX.1
  have hB0 := CX.2.1
  have hl : lv_has ls 2 [(0, .ref o), (1, .int (zI n))] := hl
  obtain ⟨H, eH⟩ : ∃ H, H = st.heap := ⟨_, rfl⟩
  obtain ⟨locs, eL⟩ : ∃ L : List Loc, L = [] := ⟨_, rfl⟩
  have hW : zW D (zT cI cJ cZ cP cS cM) L (zQ L sz) st f st.heap H locs := by rw [eH, eL]; exact hW
  suffices hgo : W pg l en ({ frames := 1, cells := 0, slots := 0, locals := 21 } : Room) st mi ag bl mt cd H locs 0 0 Q (F0 mi 0 ls []) by rw [eH, eL] at hgo; exact hgo
  clear eH eL
  have hpb := hC.p
  have hnb := hC.cn
  refine lv_iload_n hX0 hB0 dX11_end_0 rfl (lv_at hl 1 rfl) ?_
  refine z_if_lt (tgt := 15) CX dX11_end_1 (by decide) (by constructor <;> omega) (fun c_1 => ?_) (fun c_1 => ?_)
  ·
    refine lv_aload_n hX0 hB0 dX11_end_15 rfl (lv_at hl 0 rfl) ?_
    refine lv_iconst (v := zI 0) hX0 hB0 dX11_end_16 rfl ?_
    refine z_callv hW (va_runV (C := RX11) (As := [.int (zI 0)]) (rest := []) CX.fix (zd_refuse l o M 0 hP hC (by constructor <;> omega)) (cwV 1 CX.fix.2.2.2.2 gX11_end_X11_refuse rfl rfl rfl (by decide +kernel) ⟨Nat.le_of_ble_eq_true rfl, Nat.le_of_ble_eq_true rfl⟩) (z_preV CX hW (r := (RX11, TX11, 13)) (show f o = _ from hP.c0) rfl) rfl rfl hl.1 rfl (lv_room (Nat.le_of_ble_eq_true rfl)) dX11_end_17 ⟨Nat.zero_le _, Nat.zero_le _⟩) (fun g17 H locs hok hW => ?_)
    obtain ⟨hp, hc, hfr, hq17⟩ := hok
    obtain ⟨M17, e17⟩ : ∃ Mq, zc_refuse M 0 = Mq := ⟨_, rfl⟩
    rw [e17] at hp hc
    try rw [e17] at hq17
    have hP17 := hp
    have hC17 := hc
    have hF17 : zFr f g17 o (o + 681) := zFr.trans zFr.refl hfr
    clear hp hc hfr
    refine lv_iconst (v := zI 0) hX0 hB0 dX11_end_20 rfl ?_
    have hE : zc_end M n = (0, M17) := by unfold zc_end; exact zif_t c_1 (zlet_e e17 rfl)
    rw [← hQ]
    exact z_iret (z := 0) CX hW (by rw [hE]; exact ⟨rfl, hP17, hC17, hF17, trivial⟩) rfl dX11_end_21
  ·
    have d_1 : ¬ n < 0 := by omega
    refine lv_iload_n hX0 hB0 dX11_end_4 rfl (lv_at hl 1 rfl) ?_
    refine lv_aload_n hX0 hB0 dX11_end_5 rfl (lv_at hl 0 rfl) ?_
    refine z_get (Cn := RX11) (T := TX11) (N := 13) CX hW (v := .ref (o + 98)) (show f o = _ from hP.c0) rfl (fun w h => List.mem_cons_of_mem _ (List.mem_append_left _ (List.mem_append_right _ h))) 0 (by decide) (List.mem_of_getElem? (i := 1) rfl) rfl rfl dX11_end_6 ?_
    refine z_get (Cn := RX3) (T := TX3) (N := 13) CX hW (v := .int (zI (M.1 0 2))) hP.c2.ob rfl (fun w h => List.mem_cons_of_mem _ (List.mem_append_right _ h)) 0 (by decide) (List.mem_of_getElem? (i := 2) rfl) rfl rfl dX11_end_9 ?_
    have hr9 := And.intro hC.tp.1 hC.tp.2.1
    refine z_icmp_le (tgt := 22) CX dX11_end_12 (by decide) (by constructor <;> omega) (by constructor <;> omega) (fun c_12 => ?_) (fun c_12 => ?_)
    ·
      refine lv_aload_n hX0 hB0 dX11_end_22 rfl (lv_at hl 0 rfl) ?_
      refine z_get (Cn := RX11) (T := TX11) (N := 13) CX hW (v := .ref (o + 98)) (show f o = _ from hP.c0) rfl (fun w h => List.mem_cons_of_mem _ (List.mem_append_left _ (List.mem_append_right _ h))) 0 (by decide) (List.mem_of_getElem? (i := 1) rfl) rfl rfl dX11_end_23 ?_
      refine lv_iload_n hX0 hB0 dX11_end_26 rfl (lv_at hl 1 rfl) ?_
      refine z_put (Cn := RX3) (T := TX3) (N := 13) CX hW (v := .int (zI n)) (show f (o + 98) = _ from hP.c2.ob) rfl (fun w h => List.mem_cons_of_mem _ (List.mem_append_right _ h)) tyX3 tyX3_ok nmX3 0 (by decide) (List.mem_of_getElem? (i := 2) rfl) rfl rfl rfl rfl (Nat.le_of_ble_eq_true rfl) (g := va_up f (o + 98) (.inr (3, [.int (zI n), .int (zI (M.2.2.2.2 0 1)), .int (zI (M.2.2.2.2 0 2)), .ref (o + 98 + 1), .ref (o + 98 + 16), .ref (o + 98 + 17), .ref (o + 98 + 18), .ref (o + 98 + 19), .ref (o + 98 + 20), .ref (o + 98 + 21), .ref (o + 98 + 23), .ref (o + 98 + 25), .int (zI (M.2.2.2.2 0 0))]))) rfl dX11_end_27 (fun H locs hW => ?_)
      obtain ⟨M27, em27⟩ : ∃ Mq, zw_len M n = Mq := ⟨_, rfl⟩
      have hP27 : zCP cI cP cS cZ cM o M27 (va_up f (o + 98) (.inr (3, [.int (zI n), .int (zI (M.2.2.2.2 0 1)), .int (zI (M.2.2.2.2 0 2)), .ref (o + 98 + 1), .ref (o + 98 + 16), .ref (o + 98 + 17), .ref (o + 98 + 18), .ref (o + 98 + 19), .ref (o + 98 + 20), .ref (o + 98 + 21), .ref (o + 98 + 23), .ref (o + 98 + 25), .int (zI (M.2.2.2.2 0 0))]))) := by rw [← em27]; exact zr_len hP rfl
      have hC27 : zCI M27 := by rw [← em27]; exact zi_len hC (by omega)
      have hF27 : zFr f (va_up f (o + 98) (.inr (3, [.int (zI n), .int (zI (M.2.2.2.2 0 1)), .int (zI (M.2.2.2.2 0 2)), .ref (o + 98 + 1), .ref (o + 98 + 16), .ref (o + 98 + 17), .ref (o + 98 + 18), .ref (o + 98 + 19), .ref (o + 98 + 20), .ref (o + 98 + 21), .ref (o + 98 + 23), .ref (o + 98 + 25), .int (zI (M.2.2.2.2 0 0))]))) o (o + 681) := zFr.trans zFr.refl (fun q hq => va_up_ne _ _ (by omega))
      refine lv_iconst (v := zI 1) hX0 hB0 dX11_end_30 rfl ?_
      have hE : zc_end M n = (1, M27) := by unfold zc_end; exact zif_f d_1 (zif_t c_12 (zlet_e em27 rfl))
      rw [← hQ]
      exact z_iret (z := 1) CX hW (by rw [hE]; exact ⟨rfl, hP27, hC27, hF27, trivial⟩) rfl dX11_end_31
    ·
      have d_12 : ¬ n ≤ M.1 0 2 := by omega
      refine lv_aload_n hX0 hB0 dX11_end_15 rfl (lv_at hl 0 rfl) ?_
      refine lv_iconst (v := zI 0) hX0 hB0 dX11_end_16 rfl ?_
      refine z_callv hW (va_runV (C := RX11) (As := [.int (zI 0)]) (rest := []) CX.fix (zd_refuse l o M 0 hP hC (by constructor <;> omega)) (cwV 1 CX.fix.2.2.2.2 gX11_end_X11_refuse rfl rfl rfl (by decide +kernel) ⟨Nat.le_of_ble_eq_true rfl, Nat.le_of_ble_eq_true rfl⟩) (z_preV CX hW (r := (RX11, TX11, 13)) (show f o = _ from hP.c0) rfl) rfl rfl hl.1 rfl (lv_room (Nat.le_of_ble_eq_true rfl)) dX11_end_17 ⟨Nat.zero_le _, Nat.zero_le _⟩) (fun g17 H locs hok hW => ?_)
      obtain ⟨hp, hc, hfr, hq17⟩ := hok
      obtain ⟨M17, e17⟩ : ∃ Mq, zc_refuse M 0 = Mq := ⟨_, rfl⟩
      rw [e17] at hp hc
      try rw [e17] at hq17
      have hP17 := hp
      have hC17 := hc
      have hF17 : zFr f g17 o (o + 681) := zFr.trans zFr.refl hfr
      clear hp hc hfr
      refine lv_iconst (v := zI 0) hX0 hB0 dX11_end_20 rfl ?_
      have hE : zc_end M n = (0, M17) := by unfold zc_end; exact zif_f d_1 (zif_f d_12 (zlet_e e17 rfl))
      rw [← hQ]
      exact z_iret (z := 0) CX hW (by rw [hE]; exact ⟨rfl, hP17, hC17, hF17, trivial⟩) rfl dX11_end_21
noncomputable def zc_curves (M : zCt)  : Int × zCt := zlet ((zrt (M.1 0 2) (M.1 2) M.2.2.2.2).1) (fun z4 => zlet (zw_read M) (fun M4 => zlet (zw_len M4 0) (fun M13 => zlet (zw_fk M13 (M13.2.2.2.2 0 1)) (fun M24 => zlet (zw_fp M24 (M24.2.2.2.2 0 2)) (fun M35 => (if z4 = 0 then zlet (zc_refuse M35 1) (fun M44 => (-1, M44)) else zlet (zw_take M35) (fun M60 => zlet (zw_forget M60) (fun M67 => (M67.1 0 4, M67)))))))))
set_option maxRecDepth 100000 in
set_option maxHeartbeats 4000000 in
theorem zd_curves (l : Launch) {D : va_G} {cI cJ cZ cP cS cM : ClassId} {L : List Nat} {sz : Nat} {f : Nat → va_E} (o : Nat) (M : zCt)  (hP : zCP cI cP cS cZ cM o M f) (hC : zCI M)  : zMi l yX11_curves wsX11_curves 9 194 D (zT cI cJ cZ cP cS cM) L sz f [.ref o] (fun zv gv => zv = (zc_curves M).1 ∧ zCP cI cP cS cZ cM o (zc_curves M).2 gv ∧ zCI (zc_curves M).2 ∧ zFr f gv o (o + 681) ∧ True) := by
  refine zWalk.met (nL := 2) (ret := (some .int)) (cc := cX11_curves) (by decide) rfl (Nat.le_of_ble_eq_true rfl) ?_
  intro pg en st mi ag bl mt cd ls CX hW hl
  have CX : zC pg st mi ag mt cd cX11_curves 2 (some .int) RX11 wsX11_curves := CX
  generalize hQ : MQ bl _ ag st 0 0 _ = Q
  have hX0 := CX.1
  have hB0 := CX.2.1
  have hl : lv_has ls 2 [(0, .ref o)] := hl
  obtain ⟨H, eH⟩ : ∃ H, H = st.heap := ⟨_, rfl⟩
  obtain ⟨locs, eL⟩ : ∃ L : List Loc, L = [] := ⟨_, rfl⟩
  have hW : zW D (zT cI cJ cZ cP cS cM) L (zQ L sz) st f st.heap H locs := by rw [eH, eL]; exact hW
  suffices hgo : W pg l en ({ frames := 9, cells := 0, slots := 0, locals := 194 } : Room) st mi ag bl mt cd H locs 0 0 Q (F0 mi 0 ls []) by rw [eH, eL] at hgo; exact hgo
  clear eH eL
  have hpb := hC.p
  have hnb := hC.cn
  refine lv_aload_n hX0 hB0 dX11_curves_0 rfl (lv_at hl 0 rfl) ?_
  refine z_get (Cn := RX11) (T := TX11) (N := 13) CX hW (v := .ref (o + 98)) (show f o = _ from hP.c0) rfl (fun w h => List.mem_cons_of_mem _ (List.mem_append_left _ (List.mem_append_left _ (List.mem_append_left _ (List.mem_append_left _ (List.mem_append_left _ (List.mem_append_right _ h))))))) 0 (by decide) (List.mem_of_getElem? (i := 1) rfl) rfl rfl dX11_curves_1 ?_
  have hrc4 := fun sz : Nat => c_readText l (D := D) (cI := cI) (cJ := cJ) (cZ := cZ) (cP := cP) (cS := cS) (cM := cM) (L := L) (sz := sz) (f := f) (o + 98) (M.1 0 2) (M.1 2) M.2.2.2.2 hC.tp hC.rd
  simp only [zRdr.ro hP.c2] at hrc4
  have hok4 := zrt_ok (T := M.1 2) (show 0 ≤ M.1 0 2 ∧ M.1 0 2 ≤ 1000 from ⟨hC.tp.1, hC.tp.2.1⟩) hC.rd
  refine z_calli hW (va_runV (C := RX3) (As := []) (rest := []) CX.fix (hrc4 _) (cwV 0 CX.fix.2.2.2.2 gX11_curves_X3_readText rfl rfl rfl (by decide +kernel) ⟨Nat.le_of_ble_eq_true rfl, Nat.le_of_ble_eq_true rfl⟩) (z_preV CX hW (r := (RX3, TX3, 13)) hP.c2.ob rfl) rfl rfl hl.1 rfl (lv_room (Nat.le_of_ble_eq_true rfl)) dX11_curves_4 ⟨Nat.zero_le _, Nat.zero_le _⟩) (fun z4 g4 H locs hok hW => ?_)
  obtain ⟨hz, hg⟩ := hok
  have e4 : (zrt (M.1 0 2) (M.1 2) M.2.2.2.2).1 = z4 := hz.symm
  have hb4 : 0 ≤ z4 ∧ z4 ≤ 1 := by rw [← e4]; omega
  obtain ⟨M4, em4⟩ : ∃ Mq, zw_read M = Mq := ⟨_, rfl⟩
  have hP4 : zCP cI cP cS cZ cM o M4 g4 := by rw [← em4]; exact zr_read hP hg
  have hC4 : zCI M4 := by rw [← em4]; exact zi_read hC hok4.1
  have hF4 : zFr f g4 o (o + 681) := zFr.trans zFr.refl (fun q hq => by rw [hg]; exact zRO_out (by omega))
  have hrt4 : zcI (M.1 0 2) M4.2.2.2.2 := by rw [← em4]; exact hok4.1
  refine lv_istore_n (lv' := [(1, .int (zI z4)), (0, .ref o)]) hX0 hB0 dX11_curves_7 rfl hl (by decide) rfl (fun ls hl => ?_)
  refine lv_aload_n hX0 hB0 dX11_curves_8 rfl (lv_at hl 1 rfl) ?_
  refine z_get (Cn := RX11) (T := TX11) (N := 13) CX hW (v := .ref (o + 98)) (show g4 o = _ from hP4.c0) rfl (fun w h => List.mem_cons_of_mem _ (List.mem_append_left _ (List.mem_append_left _ (List.mem_append_left _ (List.mem_append_left _ (List.mem_append_left _ (List.mem_append_right _ h))))))) 0 (by decide) (List.mem_of_getElem? (i := 1) rfl) rfl rfl dX11_curves_9 ?_
  refine lv_iconst (v := zI 0) hX0 hB0 dX11_curves_12 rfl ?_
  refine z_put (Cn := RX3) (T := TX3) (N := 13) CX hW (v := .int (zI 0)) (show g4 (o + 98) = _ from hP4.c2.ob) rfl (fun w h => List.mem_cons_of_mem _ (List.mem_append_left _ (List.mem_append_left _ (List.mem_append_left _ (List.mem_append_left _ (List.mem_append_right _ h)))))) tyX3 tyX3_ok nmX3 0 (by decide) (List.mem_of_getElem? (i := 2) rfl) rfl rfl rfl rfl (Nat.le_of_ble_eq_true rfl) (g := va_up g4 (o + 98) (.inr (3, [.int (zI 0), .int (zI (M4.2.2.2.2 0 1)), .int (zI (M4.2.2.2.2 0 2)), .ref (o + 98 + 1), .ref (o + 98 + 16), .ref (o + 98 + 17), .ref (o + 98 + 18), .ref (o + 98 + 19), .ref (o + 98 + 20), .ref (o + 98 + 21), .ref (o + 98 + 23), .ref (o + 98 + 25), .int (zI (M4.2.2.2.2 0 0))]))) rfl dX11_curves_13 (fun H locs hW => ?_)
  obtain ⟨M13, em13⟩ : ∃ Mq, zw_len M4 0 = Mq := ⟨_, rfl⟩
  have hP13 : zCP cI cP cS cZ cM o M13 (va_up g4 (o + 98) (.inr (3, [.int (zI 0), .int (zI (M4.2.2.2.2 0 1)), .int (zI (M4.2.2.2.2 0 2)), .ref (o + 98 + 1), .ref (o + 98 + 16), .ref (o + 98 + 17), .ref (o + 98 + 18), .ref (o + 98 + 19), .ref (o + 98 + 20), .ref (o + 98 + 21), .ref (o + 98 + 23), .ref (o + 98 + 25), .int (zI (M4.2.2.2.2 0 0))]))) := by rw [← em13]; exact zr_len hP4 rfl
  have hC13 : zCI M13 := by rw [← em13]; exact zi_len hC4 (by omega)
  have hF13 : zFr f (va_up g4 (o + 98) (.inr (3, [.int (zI 0), .int (zI (M4.2.2.2.2 0 1)), .int (zI (M4.2.2.2.2 0 2)), .ref (o + 98 + 1), .ref (o + 98 + 16), .ref (o + 98 + 17), .ref (o + 98 + 18), .ref (o + 98 + 19), .ref (o + 98 + 20), .ref (o + 98 + 21), .ref (o + 98 + 23), .ref (o + 98 + 25), .int (zI (M4.2.2.2.2 0 0))]))) o (o + 681) := zFr.trans hF4 (fun q hq => va_up_ne _ _ (by omega))
  have ta13 : M13.2 = M4.2 := by rw [← em13]; rfl
  refine lv_aload_n hX0 hB0 dX11_curves_16 rfl (lv_at hl 1 rfl) ?_
  refine lv_aload_n hX0 hB0 dX11_curves_17 rfl (lv_at hl 1 rfl) ?_
  refine z_get (Cn := RX11) (T := TX11) (N := 13) CX hW (v := .ref (o + 98)) (show va_up g4 (o + 98) (.inr (3, [.int (zI 0), .int (zI (M4.2.2.2.2 0 1)), .int (zI (M4.2.2.2.2 0 2)), .ref (o + 98 + 1), .ref (o + 98 + 16), .ref (o + 98 + 17), .ref (o + 98 + 18), .ref (o + 98 + 19), .ref (o + 98 + 20), .ref (o + 98 + 21), .ref (o + 98 + 23), .ref (o + 98 + 25), .int (zI (M4.2.2.2.2 0 0))])) o = _ from hP13.c0) rfl (fun w h => List.mem_cons_of_mem _ (List.mem_append_left _ (List.mem_append_left _ (List.mem_append_left _ (List.mem_append_left _ (List.mem_append_left _ (List.mem_append_right _ h))))))) 0 (by decide) (List.mem_of_getElem? (i := 1) rfl) rfl rfl dX11_curves_18 ?_
  refine z_get (Cn := RX3) (T := TX3) (N := 13) CX hW (v := .int (zI (M13.2.2.2.2 0 1))) hP13.c2.ob rfl (fun w h => List.mem_cons_of_mem _ (List.mem_append_left _ (List.mem_append_left _ (List.mem_append_left _ (List.mem_append_left _ (List.mem_append_right _ h)))))) 1 (by decide) (List.mem_of_getElem? (i := 3) rfl) rfl rfl dX11_curves_21 ?_
  refine z_put (Cn := RX11) (T := TX11) (N := 13) CX hW (v := .int (zI (M13.2.2.2.2 0 1))) (show va_up g4 (o + 98) (.inr (3, [.int (zI 0), .int (zI (M4.2.2.2.2 0 1)), .int (zI (M4.2.2.2.2 0 2)), .ref (o + 98 + 1), .ref (o + 98 + 16), .ref (o + 98 + 17), .ref (o + 98 + 18), .ref (o + 98 + 19), .ref (o + 98 + 20), .ref (o + 98 + 21), .ref (o + 98 + 23), .ref (o + 98 + 25), .int (zI (M4.2.2.2.2 0 0))])) o = _ from hP13.c0) rfl (fun w h => List.mem_cons_of_mem _ (List.mem_append_left _ (List.mem_append_left _ (List.mem_append_left _ (List.mem_append_left _ (List.mem_append_left _ (List.mem_append_right _ h))))))) tyX11 tyX11_ok nmX11 11 (by decide) (List.mem_of_getElem? (i := 4) rfl) rfl rfl rfl rfl (Nat.le_of_ble_eq_true rfl) (g := va_up (va_up g4 (o + 98) (.inr (3, [.int (zI 0), .int (zI (M4.2.2.2.2 0 1)), .int (zI (M4.2.2.2.2 0 2)), .ref (o + 98 + 1), .ref (o + 98 + 16), .ref (o + 98 + 17), .ref (o + 98 + 18), .ref (o + 98 + 19), .ref (o + 98 + 20), .ref (o + 98 + 21), .ref (o + 98 + 23), .ref (o + 98 + 25), .int (zI (M4.2.2.2.2 0 0))]))) o (.inr (11, [.ref (o + 98), .ref (o + 289), .ref (o + 304), .ref (o + 606), .ref (o + 607), .ref (o + 611), .ref (o + 615), .ref (o + 623), .ref (o + 628), .ref (o + 634), .ref (o + 680), .int (zI (M13.2.2.2.2 0 1)), .int (zI (M13.1 0 1))]))) rfl dX11_curves_24 (fun H locs hW => ?_)
  obtain ⟨M24, em24⟩ : ∃ Mq, zw_fk M13 (M13.2.2.2.2 0 1) = Mq := ⟨_, rfl⟩
  have hP24 : zCP cI cP cS cZ cM o M24 (va_up (va_up g4 (o + 98) (.inr (3, [.int (zI 0), .int (zI (M4.2.2.2.2 0 1)), .int (zI (M4.2.2.2.2 0 2)), .ref (o + 98 + 1), .ref (o + 98 + 16), .ref (o + 98 + 17), .ref (o + 98 + 18), .ref (o + 98 + 19), .ref (o + 98 + 20), .ref (o + 98 + 21), .ref (o + 98 + 23), .ref (o + 98 + 25), .int (zI (M4.2.2.2.2 0 0))]))) o (.inr (11, [.ref (o + 98), .ref (o + 289), .ref (o + 304), .ref (o + 606), .ref (o + 607), .ref (o + 611), .ref (o + 615), .ref (o + 623), .ref (o + 628), .ref (o + 634), .ref (o + 680), .int (zI (M13.2.2.2.2 0 1)), .int (zI (M13.1 0 1))]))) := by rw [← em24]; exact zr_fk hP13 rfl
  have hC24 : zCI M24 := by rw [← em24]; exact (show zCI _ from hC13)
  have hF24 : zFr f (va_up (va_up g4 (o + 98) (.inr (3, [.int (zI 0), .int (zI (M4.2.2.2.2 0 1)), .int (zI (M4.2.2.2.2 0 2)), .ref (o + 98 + 1), .ref (o + 98 + 16), .ref (o + 98 + 17), .ref (o + 98 + 18), .ref (o + 98 + 19), .ref (o + 98 + 20), .ref (o + 98 + 21), .ref (o + 98 + 23), .ref (o + 98 + 25), .int (zI (M4.2.2.2.2 0 0))]))) o (.inr (11, [.ref (o + 98), .ref (o + 289), .ref (o + 304), .ref (o + 606), .ref (o + 607), .ref (o + 611), .ref (o + 615), .ref (o + 623), .ref (o + 628), .ref (o + 634), .ref (o + 680), .int (zI (M13.2.2.2.2 0 1)), .int (zI (M13.1 0 1))]))) o (o + 681) := zFr.trans hF13 (fun q hq => va_up_ne _ _ (by omega))
  have ta24 : M24.2 = M13.2 := by rw [← em24]; rfl
  refine lv_aload_n hX0 hB0 dX11_curves_27 rfl (lv_at hl 1 rfl) ?_
  refine lv_aload_n hX0 hB0 dX11_curves_28 rfl (lv_at hl 1 rfl) ?_
  refine z_get (Cn := RX11) (T := TX11) (N := 13) CX hW (v := .ref (o + 98)) (show va_up (va_up g4 (o + 98) (.inr (3, [.int (zI 0), .int (zI (M4.2.2.2.2 0 1)), .int (zI (M4.2.2.2.2 0 2)), .ref (o + 98 + 1), .ref (o + 98 + 16), .ref (o + 98 + 17), .ref (o + 98 + 18), .ref (o + 98 + 19), .ref (o + 98 + 20), .ref (o + 98 + 21), .ref (o + 98 + 23), .ref (o + 98 + 25), .int (zI (M4.2.2.2.2 0 0))]))) o (.inr (11, [.ref (o + 98), .ref (o + 289), .ref (o + 304), .ref (o + 606), .ref (o + 607), .ref (o + 611), .ref (o + 615), .ref (o + 623), .ref (o + 628), .ref (o + 634), .ref (o + 680), .int (zI (M13.2.2.2.2 0 1)), .int (zI (M13.1 0 1))])) o = _ from hP24.c0) rfl (fun w h => List.mem_cons_of_mem _ (List.mem_append_left _ (List.mem_append_left _ (List.mem_append_left _ (List.mem_append_left _ (List.mem_append_left _ (List.mem_append_right _ h))))))) 0 (by decide) (List.mem_of_getElem? (i := 1) rfl) rfl rfl dX11_curves_29 ?_
  refine z_get (Cn := RX3) (T := TX3) (N := 13) CX hW (v := .int (zI (M24.2.2.2.2 0 2))) hP24.c2.ob rfl (fun w h => List.mem_cons_of_mem _ (List.mem_append_left _ (List.mem_append_left _ (List.mem_append_left _ (List.mem_append_left _ (List.mem_append_right _ h)))))) 2 (by decide) (List.mem_of_getElem? (i := 5) rfl) rfl rfl dX11_curves_32 ?_
  refine z_put (Cn := RX11) (T := TX11) (N := 13) CX hW (v := .int (zI (M24.2.2.2.2 0 2))) (show va_up (va_up g4 (o + 98) (.inr (3, [.int (zI 0), .int (zI (M4.2.2.2.2 0 1)), .int (zI (M4.2.2.2.2 0 2)), .ref (o + 98 + 1), .ref (o + 98 + 16), .ref (o + 98 + 17), .ref (o + 98 + 18), .ref (o + 98 + 19), .ref (o + 98 + 20), .ref (o + 98 + 21), .ref (o + 98 + 23), .ref (o + 98 + 25), .int (zI (M4.2.2.2.2 0 0))]))) o (.inr (11, [.ref (o + 98), .ref (o + 289), .ref (o + 304), .ref (o + 606), .ref (o + 607), .ref (o + 611), .ref (o + 615), .ref (o + 623), .ref (o + 628), .ref (o + 634), .ref (o + 680), .int (zI (M13.2.2.2.2 0 1)), .int (zI (M13.1 0 1))])) o = _ from hP24.c0) rfl (fun w h => List.mem_cons_of_mem _ (List.mem_append_left _ (List.mem_append_left _ (List.mem_append_left _ (List.mem_append_left _ (List.mem_append_left _ (List.mem_append_right _ h))))))) tyX11 tyX11_ok nmX11 12 (by decide) (List.mem_of_getElem? (i := 6) rfl) rfl rfl rfl rfl (Nat.le_of_ble_eq_true rfl) (g := va_up (va_up (va_up g4 (o + 98) (.inr (3, [.int (zI 0), .int (zI (M4.2.2.2.2 0 1)), .int (zI (M4.2.2.2.2 0 2)), .ref (o + 98 + 1), .ref (o + 98 + 16), .ref (o + 98 + 17), .ref (o + 98 + 18), .ref (o + 98 + 19), .ref (o + 98 + 20), .ref (o + 98 + 21), .ref (o + 98 + 23), .ref (o + 98 + 25), .int (zI (M4.2.2.2.2 0 0))]))) o (.inr (11, [.ref (o + 98), .ref (o + 289), .ref (o + 304), .ref (o + 606), .ref (o + 607), .ref (o + 611), .ref (o + 615), .ref (o + 623), .ref (o + 628), .ref (o + 634), .ref (o + 680), .int (zI (M13.2.2.2.2 0 1)), .int (zI (M13.1 0 1))]))) o (.inr (11, [.ref (o + 98), .ref (o + 289), .ref (o + 304), .ref (o + 606), .ref (o + 607), .ref (o + 611), .ref (o + 615), .ref (o + 623), .ref (o + 628), .ref (o + 634), .ref (o + 680), .int (zI (M24.1 0 0)), .int (zI (M24.2.2.2.2 0 2))]))) rfl dX11_curves_35 (fun H locs hW => ?_)
  obtain ⟨M35, em35⟩ : ∃ Mq, zw_fp M24 (M24.2.2.2.2 0 2) = Mq := ⟨_, rfl⟩
  have hP35 : zCP cI cP cS cZ cM o M35 (va_up (va_up (va_up g4 (o + 98) (.inr (3, [.int (zI 0), .int (zI (M4.2.2.2.2 0 1)), .int (zI (M4.2.2.2.2 0 2)), .ref (o + 98 + 1), .ref (o + 98 + 16), .ref (o + 98 + 17), .ref (o + 98 + 18), .ref (o + 98 + 19), .ref (o + 98 + 20), .ref (o + 98 + 21), .ref (o + 98 + 23), .ref (o + 98 + 25), .int (zI (M4.2.2.2.2 0 0))]))) o (.inr (11, [.ref (o + 98), .ref (o + 289), .ref (o + 304), .ref (o + 606), .ref (o + 607), .ref (o + 611), .ref (o + 615), .ref (o + 623), .ref (o + 628), .ref (o + 634), .ref (o + 680), .int (zI (M13.2.2.2.2 0 1)), .int (zI (M13.1 0 1))]))) o (.inr (11, [.ref (o + 98), .ref (o + 289), .ref (o + 304), .ref (o + 606), .ref (o + 607), .ref (o + 611), .ref (o + 615), .ref (o + 623), .ref (o + 628), .ref (o + 634), .ref (o + 680), .int (zI (M24.1 0 0)), .int (zI (M24.2.2.2.2 0 2))]))) := by rw [← em35]; exact zr_fp hP24 rfl
  have hC35 : zCI M35 := by rw [← em35]; exact (show zCI _ from hC24)
  have hF35 : zFr f (va_up (va_up (va_up g4 (o + 98) (.inr (3, [.int (zI 0), .int (zI (M4.2.2.2.2 0 1)), .int (zI (M4.2.2.2.2 0 2)), .ref (o + 98 + 1), .ref (o + 98 + 16), .ref (o + 98 + 17), .ref (o + 98 + 18), .ref (o + 98 + 19), .ref (o + 98 + 20), .ref (o + 98 + 21), .ref (o + 98 + 23), .ref (o + 98 + 25), .int (zI (M4.2.2.2.2 0 0))]))) o (.inr (11, [.ref (o + 98), .ref (o + 289), .ref (o + 304), .ref (o + 606), .ref (o + 607), .ref (o + 611), .ref (o + 615), .ref (o + 623), .ref (o + 628), .ref (o + 634), .ref (o + 680), .int (zI (M13.2.2.2.2 0 1)), .int (zI (M13.1 0 1))]))) o (.inr (11, [.ref (o + 98), .ref (o + 289), .ref (o + 304), .ref (o + 606), .ref (o + 607), .ref (o + 611), .ref (o + 615), .ref (o + 623), .ref (o + 628), .ref (o + 634), .ref (o + 680), .int (zI (M24.1 0 0)), .int (zI (M24.2.2.2.2 0 2))]))) o (o + 681) := zFr.trans hF24 (fun q hq => va_up_ne _ _ (by omega))
  have ta35 : M35.2 = M24.2 := by rw [← em35]; rfl
  refine lv_iload_n hX0 hB0 dX11_curves_38 rfl (lv_at hl 0 rfl) ?_
  refine z_if_ne (tgt := 49) CX dX11_curves_39 (by decide) (by constructor <;> omega) (fun c_39 => ?_) (fun c_39 => ?_)
  ·
    refine lv_aload_n hX0 hB0 dX11_curves_49 rfl (lv_at hl 1 rfl) ?_
    refine z_get (Cn := RX11) (T := TX11) (N := 13) CX hW (v := .ref (o + 289)) (show va_up (va_up (va_up g4 (o + 98) (.inr (3, [.int (zI 0), .int (zI (M4.2.2.2.2 0 1)), .int (zI (M4.2.2.2.2 0 2)), .ref (o + 98 + 1), .ref (o + 98 + 16), .ref (o + 98 + 17), .ref (o + 98 + 18), .ref (o + 98 + 19), .ref (o + 98 + 20), .ref (o + 98 + 21), .ref (o + 98 + 23), .ref (o + 98 + 25), .int (zI (M4.2.2.2.2 0 0))]))) o (.inr (11, [.ref (o + 98), .ref (o + 289), .ref (o + 304), .ref (o + 606), .ref (o + 607), .ref (o + 611), .ref (o + 615), .ref (o + 623), .ref (o + 628), .ref (o + 634), .ref (o + 680), .int (zI (M13.2.2.2.2 0 1)), .int (zI (M13.1 0 1))]))) o (.inr (11, [.ref (o + 98), .ref (o + 289), .ref (o + 304), .ref (o + 606), .ref (o + 607), .ref (o + 611), .ref (o + 615), .ref (o + 623), .ref (o + 628), .ref (o + 634), .ref (o + 680), .int (zI (M24.1 0 0)), .int (zI (M24.2.2.2.2 0 2))])) o = _ from hP35.c0) rfl (fun w h => List.mem_cons_of_mem _ (List.mem_append_left _ (List.mem_append_left _ (List.mem_append_left _ (List.mem_append_left _ (List.mem_append_left _ (List.mem_append_right _ h))))))) 1 (by decide) (List.mem_of_getElem? (i := 7) rfl) rfl rfl dX11_curves_50 ?_
    refine lv_aload_n hX0 hB0 dX11_curves_53 rfl (lv_at hl 1 rfl) ?_
    refine z_get (Cn := RX11) (T := TX11) (N := 13) CX hW (v := .ref (o + 98)) (show va_up (va_up (va_up g4 (o + 98) (.inr (3, [.int (zI 0), .int (zI (M4.2.2.2.2 0 1)), .int (zI (M4.2.2.2.2 0 2)), .ref (o + 98 + 1), .ref (o + 98 + 16), .ref (o + 98 + 17), .ref (o + 98 + 18), .ref (o + 98 + 19), .ref (o + 98 + 20), .ref (o + 98 + 21), .ref (o + 98 + 23), .ref (o + 98 + 25), .int (zI (M4.2.2.2.2 0 0))]))) o (.inr (11, [.ref (o + 98), .ref (o + 289), .ref (o + 304), .ref (o + 606), .ref (o + 607), .ref (o + 611), .ref (o + 615), .ref (o + 623), .ref (o + 628), .ref (o + 634), .ref (o + 680), .int (zI (M13.2.2.2.2 0 1)), .int (zI (M13.1 0 1))]))) o (.inr (11, [.ref (o + 98), .ref (o + 289), .ref (o + 304), .ref (o + 606), .ref (o + 607), .ref (o + 611), .ref (o + 615), .ref (o + 623), .ref (o + 628), .ref (o + 634), .ref (o + 680), .int (zI (M24.1 0 0)), .int (zI (M24.2.2.2.2 0 2))])) o = _ from hP35.c0) rfl (fun w h => List.mem_cons_of_mem _ (List.mem_append_left _ (List.mem_append_left _ (List.mem_append_left _ (List.mem_append_left _ (List.mem_append_left _ (List.mem_append_right _ h))))))) 0 (by decide) (List.mem_of_getElem? (i := 1) rfl) rfl rfl dX11_curves_54 ?_
    refine z_get (Cn := RX3) (T := TX3) (N := 13) CX hW (v := .ref (o + 98 + 1)) hP35.c2.ob rfl (fun w h => List.mem_cons_of_mem _ (List.mem_append_left _ (List.mem_append_left _ (List.mem_append_left _ (List.mem_append_left _ (List.mem_append_right _ h)))))) 3 (by decide) (List.mem_of_getElem? (i := 8) rfl) rfl rfl dX11_curves_57 ?_
    refine z_callv hW (va_runV (C := RX7) (As := [.ref (o + 98 + 1)]) (rest := []) CX.fix (c_shelfcopy l (o + 289) (M35.1 0 3) (M35.1 0 4) M35.2.1 (M35.1 3) (o + 98 + 1) (M35.2.2.2.2 0 3) (M35.2.2.2.2 0 4) (fun k => M35.2.2.2.2 (7 + k)) (M35.2.2.2.2 1) hP35.c3 hP35.c2.sh (by omega)) (cwV 1 CX.fix.2.2.2.2 gX11_curves_X7_copy rfl rfl rfl (by decide +kernel) ⟨Nat.le_of_ble_eq_true rfl, Nat.le_of_ble_eq_true rfl⟩) (z_preV CX hW (r := (RX7, TX7, 4)) hP35.c3.1 rfl) rfl rfl hl.1 rfl (lv_room (Nat.le_of_ble_eq_true rfl)) dX11_curves_60 ⟨Nat.zero_le _, Nat.zero_le _⟩) (fun g60 H locs hok hW => ?_)
    obtain ⟨hs0, hx⟩ := hok
    obtain ⟨M60, em60⟩ : ∃ Mq, zw_take M35 = Mq := ⟨_, rfl⟩
    have hP60 : zCP cI cP cS cZ cM o M60 g60 := by rw [← em60]; exact zr_take hP35 hs0 hx
    have hC60 : zCI M60 := by rw [← em60]; exact zi_take hC35 (by rw [ta35, ta24, ta13]; exact hrt4)
    have hF60 : zFr f g60 o (o + 681) := zFr.trans hF35 (fun q hq => hs0 q (by omega))
    refine lv_aload_n hX0 hB0 dX11_curves_63 rfl (lv_at hl 1 rfl) ?_
    refine z_get (Cn := RX11) (T := TX11) (N := 13) CX hW (v := .ref (o + 304)) (show g60 o = _ from hP60.c0) rfl (fun w h => List.mem_cons_of_mem _ (List.mem_append_left _ (List.mem_append_left _ (List.mem_append_left _ (List.mem_append_left _ (List.mem_append_left _ (List.mem_append_right _ h))))))) 2 (by decide) (List.mem_of_getElem? (i := 9) rfl) rfl rfl dX11_curves_64 ?_
    refine z_callv hW (va_runV (C := RX1) (As := []) (rest := []) CX.fix (c_forget l (o + 304) (M60.1 0 5) (M60.1 0 6) (M60.1 40) (M60.1 41) M60.2.2.2.1 M60.2.2.1 hP60.c4) (cwV 0 CX.fix.2.2.2.2 gX11_curves_X1_forget rfl rfl rfl (by decide +kernel) ⟨Nat.le_of_ble_eq_true rfl, Nat.le_of_ble_eq_true rfl⟩) (z_preV CX hW (r := (RX1, TX1, 3)) hP60.c4.1 rfl) rfl rfl hl.1 rfl (lv_room (Nat.le_of_ble_eq_true rfl)) dX11_curves_67 ⟨Nat.zero_le _, Nat.zero_le _⟩) (fun g67 H locs hok hW => ?_)
    obtain ⟨hs0, hx⟩ := hok
    obtain ⟨M67, em67⟩ : ∃ Mq, zw_forget M60 = Mq := ⟨_, rfl⟩
    have hP67 : zCP cI cP cS cZ cM o M67 g67 := by rw [← em67]; exact zr_forget hP60 hs0 hx
    have hC67 : zCI M67 := by rw [← em67]; exact zi_forget hC60
    have hF67 : zFr f g67 o (o + 681) := zFr.trans hF60 (fun q hq => hs0 q (by omega))
    refine lv_aload_n hX0 hB0 dX11_curves_70 rfl (lv_at hl 1 rfl) ?_
    refine z_get (Cn := RX11) (T := TX11) (N := 13) CX hW (v := .ref (o + 289)) (show g67 o = _ from hP67.c0) rfl (fun w h => List.mem_cons_of_mem _ (List.mem_append_left _ (List.mem_append_left _ (List.mem_append_left _ (List.mem_append_left _ (List.mem_append_left _ (List.mem_append_right _ h))))))) 1 (by decide) (List.mem_of_getElem? (i := 7) rfl) rfl rfl dX11_curves_71 ?_
    refine z_get (Cn := RX7) (T := TX7) (N := 4) CX hW (v := .int (zI (M67.1 0 4))) hP67.c3.1 rfl (fun w h => List.mem_cons_of_mem _ (List.mem_append_left _ (List.mem_append_left _ (List.mem_append_left _ (List.mem_append_right _ h))))) 1 (by decide) (List.mem_of_getElem? (i := 10) rfl) rfl rfl dX11_curves_74 ?_
    have hr74 := hC67.cn
    have hE : zc_curves M = (M67.1 0 4, M67) := by unfold zc_curves; exact zlet_e e4 (zlet_e em4 (zlet_e em13 (zlet_e em24 (zlet_e em35 (zif_f c_39 (zlet_e em60 (zlet_e em67 rfl)))))))
    rw [← hQ]
    exact z_iret (z := M67.1 0 4) CX hW (by rw [hE]; exact ⟨rfl, hP67, hC67, hF67, trivial⟩) rfl dX11_curves_77
  ·
    refine lv_aload_n hX0 hB0 dX11_curves_42 rfl (lv_at hl 1 rfl) ?_
    refine lv_iconst (v := zI 1) hX0 hB0 dX11_curves_43 rfl ?_
    refine z_callv hW (va_runV (C := RX11) (As := [.int (zI 1)]) (rest := []) CX.fix (zd_refuse l o M35 1 hP35 hC35 (by constructor <;> omega)) (cwV 1 CX.fix.2.2.2.2 gX11_curves_X11_refuse rfl rfl rfl (by decide +kernel) ⟨Nat.le_of_ble_eq_true rfl, Nat.le_of_ble_eq_true rfl⟩) (z_preV CX hW (r := (RX11, TX11, 13)) (show va_up (va_up (va_up g4 (o + 98) (.inr (3, [.int (zI 0), .int (zI (M4.2.2.2.2 0 1)), .int (zI (M4.2.2.2.2 0 2)), .ref (o + 98 + 1), .ref (o + 98 + 16), .ref (o + 98 + 17), .ref (o + 98 + 18), .ref (o + 98 + 19), .ref (o + 98 + 20), .ref (o + 98 + 21), .ref (o + 98 + 23), .ref (o + 98 + 25), .int (zI (M4.2.2.2.2 0 0))]))) o (.inr (11, [.ref (o + 98), .ref (o + 289), .ref (o + 304), .ref (o + 606), .ref (o + 607), .ref (o + 611), .ref (o + 615), .ref (o + 623), .ref (o + 628), .ref (o + 634), .ref (o + 680), .int (zI (M13.2.2.2.2 0 1)), .int (zI (M13.1 0 1))]))) o (.inr (11, [.ref (o + 98), .ref (o + 289), .ref (o + 304), .ref (o + 606), .ref (o + 607), .ref (o + 611), .ref (o + 615), .ref (o + 623), .ref (o + 628), .ref (o + 634), .ref (o + 680), .int (zI (M24.1 0 0)), .int (zI (M24.2.2.2.2 0 2))])) o = _ from hP35.c0) rfl) rfl rfl hl.1 rfl (lv_room (Nat.le_of_ble_eq_true rfl)) dX11_curves_44 ⟨Nat.zero_le _, Nat.zero_le _⟩) (fun g44 H locs hok hW => ?_)
    obtain ⟨hp, hc, hfr, hq44⟩ := hok
    obtain ⟨M44, e44⟩ : ∃ Mq, zc_refuse M35 1 = Mq := ⟨_, rfl⟩
    rw [e44] at hp hc
    try rw [e44] at hq44
    have hP44 := hp
    have hC44 := hc
    have hF44 : zFr f g44 o (o + 681) := zFr.trans hF35 hfr
    clear hp hc hfr
    refine lv_iconst (v := zI (-1)) hX0 hB0 dX11_curves_47 rfl ?_
    have hE : zc_curves M = (-1, M44) := by unfold zc_curves; exact zlet_e e4 (zlet_e em4 (zlet_e em13 (zlet_e em24 (zlet_e em35 (zif_t c_39 (zlet_e e44 rfl))))))
    rw [← hQ]
    exact z_iret (z := -1) CX hW (by rw [hE]; exact ⟨rfl, hP44, hC44, hF44, trivial⟩) rfl dX11_curves_48
noncomputable def zc_move (M : zCt) (a : Int) (b : Int) (e : Int) (c : Int) (d : Int) (k : Int) : Int × zCt := zlet (zsmv a b e c d k (M.1 0 3)) (fun z20 => zlet (zw_setMove M a b e c d k (M.1 0 3)) (fun M20 => (if z20 = 0 then zlet (zc_refuse M20 2) (fun M28 => (0, M28)) else zlet (zw_keep M20) (fun M41 => zlet (zw_moveAll M41) (fun M52 => (1, M52))))))
noncomputable def zc_moved (M : zCt) (pt : Int) (a : Int) (b : Int) (e : Int) (c : Int) (d : Int) (k : Int) : Int × zCt := zlet (bI (zpt pt (M.1 0 3))) (fun z12 => zlet (zw_go M pt (M.1 0 3)) (fun M12 => (if z12 = 0 then (-1, M12) else zlet (zsmv a b e c d k (M12.1 0 3)) (fun z39 => zlet (zw_setMove M12 a b e c d k (M12.1 0 3)) (fun M39 => (if z39 = 0 then (-1, M39) else zlet (zwh (M39.1 28) (M39.1 29) (M39.1 0 17) (M39.1 0 10) (M39.1 0 11) (M39.1 0 12)) (fun z55 => (z55, M39))))))))
noncomputable def zc_buildProduct (M : zCt) (u : Int) (v : Int) : Int × zCt := (if 0 ≤ u ∧ u < M.1 0 4 ∧ u < 6 then (if 0 ≤ v ∧ v < M.1 0 4 ∧ v < 6 then zlet (ztop (M.2.1 u.toNat)) (fun z9 => zlet (ztop (M.2.1 v.toNat)) (fun z13 => (if z9 + z13 ≤ 4 then zlet (zw_mset M (zprod (M.2.1 u.toNat) (M.2.1 v.toNat) (M.1 0 3))) (fun M39 => (1, M39)) else (0, M)))) else (0, M)) else (if 0 ≤ v ∧ v < M.1 0 4 ∧ v < 6 then (0, M) else (0, M)))
noncomputable def zc_buildMix (M : zCt) (u : Int) (v : Int) (t : Int) : Int × zCt := (if 0 ≤ u ∧ u < M.1 0 4 ∧ u < 6 then (if 0 ≤ v ∧ v < M.1 0 4 ∧ v < 6 then zlet (zw_mset M (M.2.1 u.toNat)) (fun M18 => zlet (t % (M18.1 0 3)) (fun z37 => zlet (zw_mset M18 (zaddS (M18.1 27) (M18.2.1 v.toNat) 0 0 z37 (M18.1 0 3))) (fun M47 => (1, M47)))) else (0, M)) else (if 0 ≤ v ∧ v < M.1 0 4 ∧ v < 6 then (0, M) else (0, M)))
noncomputable def zc_buildCommon (M : zCt) (u : Int) (v : Int) : Int × zCt := (if 0 ≤ u ∧ u < M.1 0 4 ∧ u < 6 then (if 0 ≤ v ∧ v < M.1 0 4 ∧ v < 6 then zlet (zw_common M (M.2.1 u.toNat) (M.2.1 v.toNat) (M.1 0 3)) (fun M30 => zlet (zw_mset M30 (M30.1 24)) (fun M33 => (1, M33))) else (0, M)) else (if 0 ≤ v ∧ v < M.1 0 4 ∧ v < 6 then (0, M) else (0, M)))
noncomputable def zc_buildDerivative (M : zCt) (u : Int) (b : Int) : Int × zCt := (if 0 ≤ u ∧ u < M.1 0 4 ∧ u < 6 then (if b < 0 then (0, M) else (if b ≤ 1 then (if b = 0 then zlet (zw_made M (zder (M.2.1 u.toNat) 1 (M.1 0 3)) (M.1 0 3)) (fun M36 => (1, M36)) else zlet (zw_made M (zder (M.2.1 u.toNat) 0 (M.1 0 3)) (M.1 0 3)) (fun M36 => (1, M36))) else (0, M))) else (0, M))
noncomputable def zc_build (M : zCt) (a : Int) (b : Int) (how : Int) (t : Int) : Int × zCt := (if how = 0 then zlet (zc_buildProduct M a b) (fun q57 => (fun (z57 : Int) (M57 : zCt) => (z57, M57)) q57.1 q57.2) else (if how = 1 then zlet (zc_buildMix M a b t) (fun q80 => (fun (z80 : Int) (M80 : zCt) => (z80, M80)) q80.1 q80.2) else (if how = 2 then zlet (zc_buildCommon M a b) (fun q101 => (fun (z101 : Int) (M101 : zCt) => (z101, M101)) q101.1 q101.2) else (if how = 3 then zlet (zthZ a b (M.1 0 3)) (fun z118 => zlet (zw_made M (zthP a b (M.1 0 3) (M.1 27)) (M.1 0 3)) (fun M118 => (z118, M118))) else (if how = 4 then zlet (zc_lookAt M a b) (fun q125 => (fun (z125 : Int) (M125 : zCt) => (if z125 = 0 then (0, M125) else zlet (zleast (M125.1 20)) (fun z135 => (if z135 = 1 then zlet (zltZ (M125.1 20) (M125.1 0 10) (M125.1 0 11) (M125.1 0 12) (M125.1 0 3)) (fun z164 => zlet (zw_made M125 (zltP (M125.1 20) (M125.1 0 10) (M125.1 0 11) (M125.1 0 12) (M125.1 0 3)) (M125.1 0 3)) (fun M164 => (if z164 = 0 then (0, M164) else (1, M164)))) else (0, M125))))) q125.1 q125.2) else (if how = 5 then zlet (zc_buildDerivative M a b) (fun q186 => (fun (z186 : Int) (M186 : zCt) => (z186, M186)) q186.1 q186.2) else (0, M)))))))
noncomputable def zc_make (M : zCt) (a : Int) (b : Int) (how : Int) (t : Int) : Int × zCt := (if 6 ≤ M.1 0 4 then zlet (zc_refuse M 3) (fun M40 => (-1, M40)) else zlet (zc_build M a b how t) (fun q18 => (fun (z18 : Int) (M18 : zCt) => (if z18 = 0 then zlet (zc_refuse M18 3) (fun M40 => (-1, M40)) else zlet (ztop (M18.1 27)) (fun z31 => (if 1 ≤ z31 then zlet (zw_keep M18) (fun M53 => zlet (M53.1 0 4) (fun z67 => zlet (zw_add M53) (fun M67 => (z67, M67)))) else zlet (zc_refuse M18 3) (fun M40 => (-1, M40)))))) q18.1 q18.2))
noncomputable def zc_drop (M : zCt) (cv : Int) : Int × zCt := (if 0 ≤ cv ∧ cv < M.1 0 4 ∧ cv < 6 then zlet (ztop (M.2.1 cv.toNat)) (fun z21 => zlet (zw_keep M) (fun M33 => zlet (zw_remove M33 cv) (fun M41 => (z21, M41)))) else zlet (zc_refuse M 3) (fun M15 => (-1, M15)))
noncomputable def zc_undo (M : zCt)  : Int × zCt := zlet ((if M.1 0 5 = 0 then (0 : Int) else 1)) (fun z8 => zlet (zw_undo M) (fun M8 => (if z8 = 0 then zlet (zc_refuse M8 4) (fun M16 => (0, M16)) else (1, M8))))
end ZCk
