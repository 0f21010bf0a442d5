section ZCk
noncomputable def zc_letter (M : zCt) (cv : Int) (i : Int) : Int × zCt := zlet (zletter (M.1 0 4) (M.1 3) cv i) (fun z6 => (z6, M))
set_option maxRecDepth 100000 in
set_option maxHeartbeats 4000000 in
theorem zd_letter (l : Launch) {D : va_G} {cI cJ cZ cP cS cM : ClassId} {L : List Nat} {sz : Nat} {f : Nat → va_E} (o : Nat) (M : zCt) (cv : Int) (i : Int) (hP : zCP cI cP cS cZ cM o M f) (hC : zCI M) (hcv : -2147483648 ≤ cv ∧ cv ≤ 2147483647) (hi : -2147483648 ≤ i ∧ i ≤ 2147483647) : zMi l yX11_letter wsX11_letter 2 43 D (zT cI cJ cZ cP cS cM) L sz f [.ref o, .int (zI cv), .int (zI i)] (fun zv gv => zv = (zc_letter M cv i).1 ∧ zCP cI cP cS cZ cM o (zc_letter M cv i).2 gv ∧ zCI (zc_letter M cv i).2 ∧ zFr f gv o (o + 681) ∧ zVE (zc_letter M cv i).2 M ∧ True) := by
  refine zWalk.met (nL := 3) (ret := (some .int)) (cc := cX11_letter) (by decide) rfl (Nat.le_of_ble_eq_true rfl) ?_
  intro pg en st mi ag bl mt cd ls CX hW hl
  have CX : zC pg st mi ag mt cd cX11_letter 3 (some .int) RX11 wsX11_letter := CX
  generalize hQ : MQ bl _ ag st 0 0 _ = Q
  have hX0 := CX.1
  have hB0 := CX.2.1
  have hl : lv_has ls 3 [(0, .ref o), (1, .int (zI cv)), (2, .int (zI i))] := hl
  obtain ⟨H, eH⟩ : ∃ H, H = st.heap := ⟨_, rfl⟩
  obtain ⟨locs, eL⟩ : ∃ L : List Loc, L = [] := ⟨_, rfl⟩
  have hW : zW D (zT cI cJ cZ cP cS cM) L (zQ L sz) st f st.heap H locs := by rw [eH, eL]; exact hW
  suffices hgo : W pg l en ({ frames := 2, cells := 0, slots := 0, locals := 43 } : Room) st mi ag bl mt cd H locs 0 0 Q (F0 mi 0 ls []) by rw [eH, eL] at hgo; exact hgo
  clear eH eL
  have hpb := hC.p
  have hnb := hC.cn
  refine lv_aload_n hX0 hB0 dX11_letter_0 rfl (lv_at hl 0 rfl) ?_
  refine z_get (Cn := RX11) (T := TX11) (N := 13) CX hW (v := .ref (o + 289)) (show f o = _ from hP.c0) rfl (fun w h => List.mem_cons_of_mem _ (List.mem_append_left _ (List.mem_append_right _ h))) 1 (by decide) (List.mem_of_getElem? (i := 1) rfl) rfl rfl dX11_letter_1 ?_
  refine lv_iload_n hX0 hB0 dX11_letter_4 rfl (lv_at hl 1 rfl) ?_
  refine lv_iload_n hX0 hB0 dX11_letter_5 rfl (lv_at hl 2 rfl) ?_
  refine z_calli hW (va_runV (C := RX7) (As := [.int (zI cv), .int (zI i)]) (rest := []) CX.fix (c_letterOf l (o + 289) (M.1 0 3) (M.1 0 4) M.2.1 (M.1 3) cv i hP.c3 (by omega) (by constructor <;> omega) (by constructor <;> omega)) (cwV 2 CX.fix.2.2.2.2 gX11_letter_X7_letterOf rfl rfl rfl (by decide +kernel) ⟨Nat.le_of_ble_eq_true rfl, Nat.le_of_ble_eq_true rfl⟩) (z_preV CX hW (r := (RX7, TX7, 4)) hP.c3.1 rfl) rfl rfl hl.1 rfl (lv_room (Nat.le_of_ble_eq_true rfl)) dX11_letter_6 ⟨Nat.zero_le _, Nat.zero_le _⟩) (fun z6 g6 H locs hok hW => ?_)
  obtain ⟨hz, hg⟩ := hok
  have e6 : zletter (M.1 0 4) (M.1 3) cv i = z6 := hz.symm
  rw [hg] at hW
  clear hg
  have hE : zc_letter M cv i = (z6, M) := by unfold zc_letter; exact zlet_e e6 rfl
  rw [← hQ]
  exact z_iret (z := z6) CX hW (by rw [hE]; exact ⟨rfl, hP, hC, zFr.refl, zVE.rf, trivial⟩) rfl dX11_letter_9
noncomputable def zc_feed (M : zCt) (a : Int) (b : Int) (c : Int) (d : Int) (e : Int) : Int × zCt := zlet ((if M.1 0 2 ≤ 980 then (1 : Int) else 0)) (fun z4 => (if z4 = 0 then zlet (zc_refuse M 0) (fun M12 => (-1, M12)) else zlet (zw_append M a) (fun M22 => zlet (zw_append M22 b) (fun M30 => zlet (zw_append M30 c) (fun M38 => zlet (zw_append M38 d) (fun M47 => zlet (zw_append M47 e) (fun M56 => (M56.1 0 2, M56))))))))
set_option maxRecDepth 100000 in
set_option maxHeartbeats 4000000 in
theorem zd_feed (l : Launch) {D : va_G} {cI cJ cZ cP cS cM : ClassId} {L : List Nat} {sz : Nat} {f : Nat → va_E} (o : Nat) (M : zCt) (a : Int) (b : Int) (c : Int) (d : Int) (e : Int) (hP : zCP cI cP cS cZ cM o M f) (hC : zCI M) (ha : -2147483648 ≤ a ∧ a ≤ 2147483647) (hb : -2147483648 ≤ b ∧ b ≤ 2147483647) (hc : -2147483648 ≤ c ∧ c ≤ 2147483647) (hd : -2147483648 ≤ d ∧ d ≤ 2147483647) (he : -2147483648 ≤ e ∧ e ≤ 2147483647) : zMi l yX11_feed wsX11_feed 1 22 D (zT cI cJ cZ cP cS cM) L sz f [.ref o, .int (zI a), .int (zI b), .int (zI c), .int (zI d), .int (zI e)] (fun zv gv => zv = (zc_feed M a b c d e).1 ∧ zCP cI cP cS cZ cM o (zc_feed M a b c d e).2 gv ∧ zCI (zc_feed M a b c d e).2 ∧ zFr f gv o (o + 681) ∧ True) := by
  refine zWalk.met (nL := 6) (ret := (some .int)) (cc := cX11_feed) (by decide) rfl (Nat.le_of_ble_eq_true rfl) ?_
  intro pg en st mi ag bl mt cd ls CX hW hl
  have CX : zC pg st mi ag mt cd cX11_feed 6 (some .int) RX11 wsX11_feed := CX
  generalize hQ : MQ bl _ ag st 0 0 _ = Q
  have hX0 := CX.1
  have hB0 := CX.2.1
  have hl : lv_has ls 6 [(0, .ref o), (1, .int (zI a)), (2, .int (zI b)), (3, .int (zI c)), (4, .int (zI d)), (5, .int (zI e))] := hl
  obtain ⟨H, eH⟩ : ∃ H, H = st.heap := ⟨_, rfl⟩
  obtain ⟨locs, eL⟩ : ∃ L : List Loc, L = [] := ⟨_, rfl⟩
  have hW : zW D (zT cI cJ cZ cP cS cM) L (zQ L sz) st f st.heap H locs := by rw [eH, eL]; exact hW
  suffices hgo : W pg l en ({ frames := 1, cells := 0, slots := 0, locals := 22 } : Room) st mi ag bl mt cd H locs 0 0 Q (F0 mi 0 ls []) by rw [eH, eL] at hgo; exact hgo
  clear eH eL
  have hpb := hC.p
  have hnb := hC.cn
  refine lv_aload_n hX0 hB0 dX11_feed_0 rfl (lv_at hl 0 rfl) ?_
  refine z_get (Cn := RX11) (T := TX11) (N := 13) CX hW (v := .ref (o + 98)) (show f o = _ from hP.c0) rfl (fun w h => List.mem_cons_of_mem _ (List.mem_append_left _ (List.mem_append_right _ h))) 0 (by decide) (List.mem_of_getElem? (i := 1) rfl) rfl rfl dX11_feed_1 ?_
  refine z_calli hW (va_runV (C := RX3) (As := []) (rest := []) CX.fix (c_hasRoom l (o + 98) (M.1 0 2) (M.2.2.2.2 0 1) (M.2.2.2.2 0 2) (M.2.2.2.2 0 0) (M.1 2) hP.c2.ob hP.c2.tp hC.tp) (cwV 0 CX.fix.2.2.2.2 gX11_feed_X3_hasRoomForFive rfl rfl rfl (by decide +kernel) ⟨Nat.le_of_ble_eq_true rfl, Nat.le_of_ble_eq_true rfl⟩) (z_preV CX hW (r := (RX3, TX3, 13)) hP.c2.ob rfl) rfl rfl hl.1 rfl (lv_room (Nat.le_of_ble_eq_true rfl)) dX11_feed_4 ⟨Nat.zero_le _, Nat.zero_le _⟩) (fun z4 g4 H locs hok hW => ?_)
  obtain ⟨hz, hg⟩ := hok
  have e4 : (if M.1 0 2 ≤ 980 then (1 : Int) else 0) = z4 := hz.symm
  have hb4 : 0 ≤ z4 ∧ z4 ≤ 1 := by rw [← e4]; split <;> omega
  rw [hg] at hW
  clear hg
  refine z_if_ne (tgt := 17) CX dX11_feed_7 (by decide) (by constructor <;> omega) (fun c_7 => ?_) (fun c_7 => ?_)
  ·
    refine lv_aload_n hX0 hB0 dX11_feed_17 rfl (lv_at hl 0 rfl) ?_
    refine z_get (Cn := RX11) (T := TX11) (N := 13) CX hW (v := .ref (o + 98)) (show f o = _ from hP.c0) rfl (fun w h => List.mem_cons_of_mem _ (List.mem_append_left _ (List.mem_append_right _ h))) 0 (by decide) (List.mem_of_getElem? (i := 1) rfl) rfl rfl dX11_feed_18 ?_
    refine lv_iload_n hX0 hB0 dX11_feed_21 rfl (lv_at hl 1 rfl) ?_
    refine z_callv hW (va_runV (C := RX3) (As := [.int (zI a)]) (rest := []) CX.fix (c_append l (o + 98) (M.1 0 2) (M.2.2.2.2 0 1) (M.2.2.2.2 0 2) (M.2.2.2.2 0 0) (M.1 2) a hP.c2.ob hP.c2.tp hC.tp (by constructor <;> omega)) (cwV 1 CX.fix.2.2.2.2 gX11_feed_X3_append rfl rfl rfl (by decide +kernel) ⟨Nat.le_of_ble_eq_true rfl, Nat.le_of_ble_eq_true rfl⟩) (z_preV CX hW (r := (RX3, TX3, 13)) hP.c2.ob rfl) rfl rfl hl.1 rfl (lv_room (Nat.le_of_ble_eq_true rfl)) dX11_feed_22 ⟨Nat.zero_le _, Nat.zero_le _⟩) (fun g22 H locs hok hW => ?_)
    have hg := hok
    obtain ⟨M22, em22⟩ : ∃ Mq, zw_append M a = Mq := ⟨_, rfl⟩
    have hP22 : zCP cI cP cS cZ cM o M22 g22 := by rw [← em22]; exact zr_append hP hg
    have hC22 : zCI M22 := by rw [← em22]; exact zi_append hC
    have hF22 : zFr f g22 o (o + 681) := zFr.trans zFr.refl (fun q hq => by rw [hg, va_up_ne _ _ (by omega), va_up_ne _ _ (by omega)])
    refine lv_aload_n hX0 hB0 dX11_feed_25 rfl (lv_at hl 0 rfl) ?_
    refine z_get (Cn := RX11) (T := TX11) (N := 13) CX hW (v := .ref (o + 98)) (show g22 o = _ from hP22.c0) rfl (fun w h => List.mem_cons_of_mem _ (List.mem_append_left _ (List.mem_append_right _ h))) 0 (by decide) (List.mem_of_getElem? (i := 1) rfl) rfl rfl dX11_feed_26 ?_
    refine lv_iload_n hX0 hB0 dX11_feed_29 rfl (lv_at hl 2 rfl) ?_
    refine z_callv hW (va_runV (C := RX3) (As := [.int (zI b)]) (rest := []) CX.fix (c_append l (o + 98) (M22.1 0 2) (M22.2.2.2.2 0 1) (M22.2.2.2.2 0 2) (M22.2.2.2.2 0 0) (M22.1 2) b hP22.c2.ob hP22.c2.tp hC22.tp (by constructor <;> omega)) (cwV 1 CX.fix.2.2.2.2 gX11_feed_X3_append rfl rfl rfl (by decide +kernel) ⟨Nat.le_of_ble_eq_true rfl, Nat.le_of_ble_eq_true rfl⟩) (z_preV CX hW (r := (RX3, TX3, 13)) hP22.c2.ob rfl) rfl rfl hl.1 rfl (lv_room (Nat.le_of_ble_eq_true rfl)) dX11_feed_30 ⟨Nat.zero_le _, Nat.zero_le _⟩) (fun g30 H locs hok hW => ?_)
    have hg := hok
    obtain ⟨M30, em30⟩ : ∃ Mq, zw_append M22 b = Mq := ⟨_, rfl⟩
    have hP30 : zCP cI cP cS cZ cM o M30 g30 := by rw [← em30]; exact zr_append hP22 hg
    have hC30 : zCI M30 := by rw [← em30]; exact zi_append hC22
    have hF30 : zFr f g30 o (o + 681) := zFr.trans hF22 (fun q hq => by rw [hg, va_up_ne _ _ (by omega), va_up_ne _ _ (by omega)])
    refine lv_aload_n hX0 hB0 dX11_feed_33 rfl (lv_at hl 0 rfl) ?_
    refine z_get (Cn := RX11) (T := TX11) (N := 13) CX hW (v := .ref (o + 98)) (show g30 o = _ from hP30.c0) rfl (fun w h => List.mem_cons_of_mem _ (List.mem_append_left _ (List.mem_append_right _ h))) 0 (by decide) (List.mem_of_getElem? (i := 1) rfl) rfl rfl dX11_feed_34 ?_
    refine lv_iload_n hX0 hB0 dX11_feed_37 rfl (lv_at hl 3 rfl) ?_
    refine z_callv hW (va_runV (C := RX3) (As := [.int (zI c)]) (rest := []) CX.fix (c_append l (o + 98) (M30.1 0 2) (M30.2.2.2.2 0 1) (M30.2.2.2.2 0 2) (M30.2.2.2.2 0 0) (M30.1 2) c hP30.c2.ob hP30.c2.tp hC30.tp (by constructor <;> omega)) (cwV 1 CX.fix.2.2.2.2 gX11_feed_X3_append rfl rfl rfl (by decide +kernel) ⟨Nat.le_of_ble_eq_true rfl, Nat.le_of_ble_eq_true rfl⟩) (z_preV CX hW (r := (RX3, TX3, 13)) hP30.c2.ob rfl) rfl rfl hl.1 rfl (lv_room (Nat.le_of_ble_eq_true rfl)) dX11_feed_38 ⟨Nat.zero_le _, Nat.zero_le _⟩) (fun g38 H locs hok hW => ?_)
    have hg := hok
    obtain ⟨M38, em38⟩ : ∃ Mq, zw_append M30 c = Mq := ⟨_, rfl⟩
    have hP38 : zCP cI cP cS cZ cM o M38 g38 := by rw [← em38]; exact zr_append hP30 hg
    have hC38 : zCI M38 := by rw [← em38]; exact zi_append hC30
    have hF38 : zFr f g38 o (o + 681) := zFr.trans hF30 (fun q hq => by rw [hg, va_up_ne _ _ (by omega), va_up_ne _ _ (by omega)])
    refine lv_aload_n hX0 hB0 dX11_feed_41 rfl (lv_at hl 0 rfl) ?_
    refine z_get (Cn := RX11) (T := TX11) (N := 13) CX hW (v := .ref (o + 98)) (show g38 o = _ from hP38.c0) rfl (fun w h => List.mem_cons_of_mem _ (List.mem_append_left _ (List.mem_append_right _ h))) 0 (by decide) (List.mem_of_getElem? (i := 1) rfl) rfl rfl dX11_feed_42 ?_
    refine lv_iload hX0 hB0 dX11_feed_45 (lv_at hl 4 rfl) ?_
    refine z_callv hW (va_runV (C := RX3) (As := [.int (zI d)]) (rest := []) CX.fix (c_append l (o + 98) (M38.1 0 2) (M38.2.2.2.2 0 1) (M38.2.2.2.2 0 2) (M38.2.2.2.2 0 0) (M38.1 2) d hP38.c2.ob hP38.c2.tp hC38.tp (by constructor <;> omega)) (cwV 1 CX.fix.2.2.2.2 gX11_feed_X3_append rfl rfl rfl (by decide +kernel) ⟨Nat.le_of_ble_eq_true rfl, Nat.le_of_ble_eq_true rfl⟩) (z_preV CX hW (r := (RX3, TX3, 13)) hP38.c2.ob rfl) rfl rfl hl.1 rfl (lv_room (Nat.le_of_ble_eq_true rfl)) dX11_feed_47 ⟨Nat.zero_le _, Nat.zero_le _⟩) (fun g47 H locs hok hW => ?_)
    have hg := hok
    obtain ⟨M47, em47⟩ : ∃ Mq, zw_append M38 d = Mq := ⟨_, rfl⟩
    have hP47 : zCP cI cP cS cZ cM o M47 g47 := by rw [← em47]; exact zr_append hP38 hg
    have hC47 : zCI M47 := by rw [← em47]; exact zi_append hC38
    have hF47 : zFr f g47 o (o + 681) := zFr.trans hF38 (fun q hq => by rw [hg, va_up_ne _ _ (by omega), va_up_ne _ _ (by omega)])
    refine lv_aload_n hX0 hB0 dX11_feed_50 rfl (lv_at hl 0 rfl) ?_
    refine z_get (Cn := RX11) (T := TX11) (N := 13) CX hW (v := .ref (o + 98)) (show g47 o = _ from hP47.c0) rfl (fun w h => List.mem_cons_of_mem _ (List.mem_append_left _ (List.mem_append_right _ h))) 0 (by decide) (List.mem_of_getElem? (i := 1) rfl) rfl rfl dX11_feed_51 ?_
    refine lv_iload hX0 hB0 dX11_feed_54 (lv_at hl 5 rfl) ?_
    refine z_callv hW (va_runV (C := RX3) (As := [.int (zI e)]) (rest := []) CX.fix (c_append l (o + 98) (M47.1 0 2) (M47.2.2.2.2 0 1) (M47.2.2.2.2 0 2) (M47.2.2.2.2 0 0) (M47.1 2) e hP47.c2.ob hP47.c2.tp hC47.tp (by constructor <;> omega)) (cwV 1 CX.fix.2.2.2.2 gX11_feed_X3_append rfl rfl rfl (by decide +kernel) ⟨Nat.le_of_ble_eq_true rfl, Nat.le_of_ble_eq_true rfl⟩) (z_preV CX hW (r := (RX3, TX3, 13)) hP47.c2.ob rfl) rfl rfl hl.1 rfl (lv_room (Nat.le_of_ble_eq_true rfl)) dX11_feed_56 ⟨Nat.zero_le _, Nat.zero_le _⟩) (fun g56 H locs hok hW => ?_)
    have hg := hok
    obtain ⟨M56, em56⟩ : ∃ Mq, zw_append M47 e = Mq := ⟨_, rfl⟩
    have hP56 : zCP cI cP cS cZ cM o M56 g56 := by rw [← em56]; exact zr_append hP47 hg
    have hC56 : zCI M56 := by rw [← em56]; exact zi_append hC47
    have hF56 : zFr f g56 o (o + 681) := zFr.trans hF47 (fun q hq => by rw [hg, va_up_ne _ _ (by omega), va_up_ne _ _ (by omega)])
    refine lv_aload_n hX0 hB0 dX11_feed_59 rfl (lv_at hl 0 rfl) ?_
    refine z_get (Cn := RX11) (T := TX11) (N := 13) CX hW (v := .ref (o + 98)) (show g56 o = _ from hP56.c0) rfl (fun w h => List.mem_cons_of_mem _ (List.mem_append_left _ (List.mem_append_right _ h))) 0 (by decide) (List.mem_of_getElem? (i := 1) rfl) rfl rfl dX11_feed_60 ?_
    refine z_get (Cn := RX3) (T := TX3) (N := 13) CX hW (v := .int (zI (M56.1 0 2))) hP56.c2.ob rfl (fun w h => List.mem_cons_of_mem _ (List.mem_append_right _ h)) 0 (by decide) (List.mem_of_getElem? (i := 2) rfl) rfl rfl dX11_feed_63 ?_
    have hr63 := And.intro hC56.tp.1 hC56.tp.2.1
    have hE : zc_feed M a b c d e = (M56.1 0 2, M56) := by unfold zc_feed; exact zlet_e e4 (zif_f c_7 (zlet_e em22 (zlet_e em30 (zlet_e em38 (zlet_e em47 (zlet_e em56 rfl))))))
    rw [← hQ]
    exact z_iret (z := M56.1 0 2) CX hW (by rw [hE]; exact ⟨rfl, hP56, hC56, hF56, trivial⟩) rfl dX11_feed_66
  ·
    refine lv_aload_n hX0 hB0 dX11_feed_10 rfl (lv_at hl 0 rfl) ?_
    refine lv_iconst (v := zI 0) hX0 hB0 dX11_feed_11 rfl ?_
    refine z_callv hW (va_runV (C := RX11) (As := [.int (zI 0)]) (rest := []) CX.fix (zd_refuse l o M 0 hP hC (by constructor <;> omega)) (cwV 1 CX.fix.2.2.2.2 gX11_feed_X11_refuse rfl rfl rfl (by decide +kernel) ⟨Nat.le_of_ble_eq_true rfl, Nat.le_of_ble_eq_true rfl⟩) (z_preV CX hW (r := (RX11, TX11, 13)) (show f o = _ from hP.c0) rfl) rfl rfl hl.1 rfl (lv_room (Nat.le_of_ble_eq_true rfl)) dX11_feed_12 ⟨Nat.zero_le _, Nat.zero_le _⟩) (fun g12 H locs hok hW => ?_)
    obtain ⟨hp, hc, hfr, hq12⟩ := hok
    obtain ⟨M12, e12⟩ : ∃ Mq, zc_refuse M 0 = Mq := ⟨_, rfl⟩
    rw [e12] at hp hc
    try rw [e12] at hq12
    have hP12 := hp
    have hC12 := hc
    have hF12 : zFr f g12 o (o + 681) := zFr.trans zFr.refl hfr
    clear hp hc hfr
    refine lv_iconst (v := zI (-1)) hX0 hB0 dX11_feed_15 rfl ?_
    have hE : zc_feed M a b c d e = (-1, M12) := by unfold zc_feed; exact zlet_e e4 (zif_t c_7 (zlet_e e12 rfl))
    rw [← hQ]
    exact z_iret (z := -1) CX hW (by rw [hE]; exact ⟨rfl, hP12, hC12, hF12, trivial⟩) rfl dX11_feed_16
noncomputable def zc_end (M : zCt) (n : Int) : Int × zCt := (if n < 0 then zlet (zc_refuse M 0) (fun M17 => (0, M17)) else (if n ≤ M.1 0 2 then zlet (zw_len M n) (fun M27 => (1, M27)) else zlet (zc_refuse M 0) (fun M17 => (0, M17))))
set_option maxRecDepth 100000 in
set_option maxHeartbeats 4000000 in
theorem zd_end (l : Launch) {D : va_G} {cI cJ cZ cP cS cM : ClassId} {L : List Nat} {sz : Nat} {f : Nat → va_E} (o : Nat) (M : zCt) (n : Int) (hP : zCP cI cP cS cZ cM o M f) (hC : zCI M) (hn : -2147483648 ≤ n ∧ n ≤ 2147483647) : zMi l yX11_end wsX11_end 1 21 D (zT cI cJ cZ cP cS cM) L sz f [.ref o, .int (zI n)] (fun zv gv => zv = (zc_end M n).1 ∧ zCP cI cP cS cZ cM o (zc_end M n).2 gv ∧ zCI (zc_end M n).2 ∧ zFr f gv o (o + 681) ∧ True) := by
  refine zWalk.met (nL := 2) (ret := (some .boolean)) (cc := cX11_end) (by decide) rfl (Nat.le_of_ble_eq_true rfl) ?_
  intro pg en st mi ag bl mt cd ls CX hW hl
  have CX : zC pg st mi ag mt cd cX11_end 2 (some .boolean) RX11 wsX11_end := CX
  generalize hQ : MQ bl _ ag st 0 0 _ = Q
  have hX0 := CX.1
  have hB0 := CX.2.1
  have hl : lv_has ls 2 [(0, .ref o), (1, .int (zI n))] := hl
  obtain ⟨H, eH⟩ : ∃ H, H = st.heap := ⟨_, rfl⟩
  obtain ⟨locs, eL⟩ : ∃ L : List Loc, L = [] := ⟨_, rfl⟩
  have hW : zW D (zT cI cJ cZ cP cS cM) L (zQ L sz) st f st.heap H locs := by rw [eH, eL]; exact hW
  suffices hgo : W pg l en ({ frames := 1, cells := 0, slots := 0, locals := 21 } : Room) st mi ag bl mt cd H locs 0 0 Q (F0 mi 0 ls []) by rw [eH, eL] at hgo; exact hgo
  clear eH eL
  have hpb := hC.p
  have hnb := hC.cn
  refine lv_iload_n hX0 hB0 dX11_end_0 rfl (lv_at hl 1 rfl) ?_
  refine z_if_lt (tgt := 15) CX dX11_end_1 (by decide) (by constructor <;> omega) (fun c_1 => ?_) (fun c_1 => ?_)
  ·
    refine lv_aload_n hX0 hB0 dX11_end_15 rfl (lv_at hl 0 rfl) ?_
    refine lv_iconst (v := zI 0) hX0 hB0 dX11_end_16 rfl ?_
    refine z_callv hW (va_runV (C := RX11) (As := [.int (zI 0)]) (rest := []) CX.fix (zd_refuse l o M 0 hP hC (by constructor <;> omega)) (cwV 1 CX.fix.2.2.2.2 gX11_end_X11_refuse rfl rfl rfl (by decide +kernel) ⟨Nat.le_of_ble_eq_true rfl, Nat.le_of_ble_eq_true rfl⟩) (z_preV CX hW (r := (RX11, TX11, 13)) (show f o = _ from hP.c0) rfl) rfl rfl hl.1 rfl (lv_room (Nat.le_of_ble_eq_true rfl)) dX11_end_17 ⟨Nat.zero_le _, Nat.zero_le _⟩) (fun g17 H locs hok hW => ?_)
    obtain ⟨hp, hc, hfr, hq17⟩ := hok
    obtain ⟨M17, e17⟩ : ∃ Mq, zc_refuse M 0 = Mq := ⟨_, rfl⟩
    rw [e17] at hp hc
    try rw [e17] at hq17
    have hP17 := hp
    have hC17 := hc
    have hF17 : zFr f g17 o (o + 681) := zFr.trans zFr.refl hfr
    clear hp hc hfr
    refine lv_iconst (v := zI 0) hX0 hB0 dX11_end_20 rfl ?_
    have hE : zc_end M n = (0, M17) := by unfold zc_end; exact zif_t c_1 (zlet_e e17 rfl)
    rw [← hQ]
    exact z_iret (z := 0) CX hW (by rw [hE]; exact ⟨rfl, hP17, hC17, hF17, trivial⟩) rfl dX11_end_21
  ·
    have d_1 : ¬ n < 0 := by omega
    refine lv_iload_n hX0 hB0 dX11_end_4 rfl (lv_at hl 1 rfl) ?_
    refine lv_aload_n hX0 hB0 dX11_end_5 rfl (lv_at hl 0 rfl) ?_
    refine z_get (Cn := RX11) (T := TX11) (N := 13) CX hW (v := .ref (o + 98)) (show f o = _ from hP.c0) rfl (fun w h => List.mem_cons_of_mem _ (List.mem_append_left _ (List.mem_append_right _ h))) 0 (by decide) (List.mem_of_getElem? (i := 1) rfl) rfl rfl dX11_end_6 ?_
    refine z_get (Cn := RX3) (T := TX3) (N := 13) CX hW (v := .int (zI (M.1 0 2))) hP.c2.ob rfl (fun w h => List.mem_cons_of_mem _ (List.mem_append_right _ h)) 0 (by decide) (List.mem_of_getElem? (i := 2) rfl) rfl rfl dX11_end_9 ?_
    have hr9 := And.intro hC.tp.1 hC.tp.2.1
    refine z_icmp_le (tgt := 22) CX dX11_end_12 (by decide) (by constructor <;> omega) (by constructor <;> omega) (fun c_12 => ?_) (fun c_12 => ?_)
    ·
      refine lv_aload_n hX0 hB0 dX11_end_22 rfl (lv_at hl 0 rfl) ?_
      refine z_get (Cn := RX11) (T := TX11) (N := 13) CX hW (v := .ref (o + 98)) (show f o = _ from hP.c0) rfl (fun w h => List.mem_cons_of_mem _ (List.mem_append_left _ (List.mem_append_right _ h))) 0 (by decide) (List.mem_of_getElem? (i := 1) rfl) rfl rfl dX11_end_23 ?_
      refine lv_iload_n hX0 hB0 dX11_end_26 rfl (lv_at hl 1 rfl) ?_
      refine z_put (Cn := RX3) (T := TX3) (N := 13) CX hW (v := .int (zI n)) (show f (o + 98) = _ from hP.c2.ob) rfl (fun w h => List.mem_cons_of_mem _ (List.mem_append_right _ h)) tyX3 tyX3_ok nmX3 0 (by decide) (List.mem_of_getElem? (i := 2) rfl) rfl rfl rfl rfl (Nat.le_of_ble_eq_true rfl) (g := va_up f (o + 98) (.inr (3, [.int (zI n), .int (zI (M.2.2.2.2 0 1)), .int (zI (M.2.2.2.2 0 2)), .ref (o + 98 + 1), .ref (o + 98 + 16), .ref (o + 98 + 17), .ref (o + 98 + 18), .ref (o + 98 + 19), .ref (o + 98 + 20), .ref (o + 98 + 21), .ref (o + 98 + 23), .ref (o + 98 + 25), .int (zI (M.2.2.2.2 0 0))]))) rfl dX11_end_27 (fun H locs hW => ?_)
      obtain ⟨M27, em27⟩ : ∃ Mq, zw_len M n = Mq := ⟨_, rfl⟩
      have hP27 : zCP cI cP cS cZ cM o M27 (va_up f (o + 98) (.inr (3, [.int (zI n), .int (zI (M.2.2.2.2 0 1)), .int (zI (M.2.2.2.2 0 2)), .ref (o + 98 + 1), .ref (o + 98 + 16), .ref (o + 98 + 17), .ref (o + 98 + 18), .ref (o + 98 + 19), .ref (o + 98 + 20), .ref (o + 98 + 21), .ref (o + 98 + 23), .ref (o + 98 + 25), .int (zI (M.2.2.2.2 0 0))]))) := by rw [← em27]; exact zr_len hP rfl
      have hC27 : zCI M27 := by rw [← em27]; exact zi_len hC (by omega)
      have hF27 : zFr f (va_up f (o + 98) (.inr (3, [.int (zI n), .int (zI (M.2.2.2.2 0 1)), .int (zI (M.2.2.2.2 0 2)), .ref (o + 98 + 1), .ref (o + 98 + 16), .ref (o + 98 + 17), .ref (o + 98 + 18), .ref (o + 98 + 19), .ref (o + 98 + 20), .ref (o + 98 + 21), .ref (o + 98 + 23), .ref (o + 98 + 25), .int (zI (M.2.2.2.2 0 0))]))) o (o + 681) := zFr.trans zFr.refl (fun q hq => va_up_ne _ _ (by omega))
      refine lv_iconst (v := zI 1) hX0 hB0 dX11_end_30 rfl ?_
      have hE : zc_end M n = (1, M27) := by unfold zc_end; exact zif_f d_1 (zif_t c_12 (zlet_e em27 rfl))
      rw [← hQ]
      exact z_iret (z := 1) CX hW (by rw [hE]; exact ⟨rfl, hP27, hC27, hF27, trivial⟩) rfl dX11_end_31
    ·
      have d_12 : ¬ n ≤ M.1 0 2 := by omega
      refine lv_aload_n hX0 hB0 dX11_end_15 rfl (lv_at hl 0 rfl) ?_
      refine lv_iconst (v := zI 0) hX0 hB0 dX11_end_16 rfl ?_
      refine z_callv hW (va_runV (C := RX11) (As := [.int (zI 0)]) (rest := []) CX.fix (zd_refuse l o M 0 hP hC (by constructor <;> omega)) (cwV 1 CX.fix.2.2.2.2 gX11_end_X11_refuse rfl rfl rfl (by decide +kernel) ⟨Nat.le_of_ble_eq_true rfl, Nat.le_of_ble_eq_true rfl⟩) (z_preV CX hW (r := (RX11, TX11, 13)) (show f o = _ from hP.c0) rfl) rfl rfl hl.1 rfl (lv_room (Nat.le_of_ble_eq_true rfl)) dX11_end_17 ⟨Nat.zero_le _, Nat.zero_le _⟩) (fun g17 H locs hok hW => ?_)
      obtain ⟨hp, hc, hfr, hq17⟩ := hok
      obtain ⟨M17, e17⟩ : ∃ Mq, zc_refuse M 0 = Mq := ⟨_, rfl⟩
      rw [e17] at hp hc
      try rw [e17] at hq17
      have hP17 := hp
      have hC17 := hc
      have hF17 : zFr f g17 o (o + 681) := zFr.trans zFr.refl hfr
      clear hp hc hfr
      refine lv_iconst (v := zI 0) hX0 hB0 dX11_end_20 rfl ?_
      have hE : zc_end M n = (0, M17) := by unfold zc_end; exact zif_f d_1 (zif_f d_12 (zlet_e e17 rfl))
      rw [← hQ]
      exact z_iret (z := 0) CX hW (by rw [hE]; exact ⟨rfl, hP17, hC17, hF17, trivial⟩) rfl dX11_end_21
noncomputable def zc_curves (M : zCt)  : Int × zCt := zlet ((zrt (M.1 0 2) (M.1 2) M.2.2.2.2).1) (fun z4 => zlet (zw_read M) (fun M4 => zlet (zw_len M4 0) (fun M13 => zlet (zw_fk M13 (M13.2.2.2.2 0 1)) (fun M24 => zlet (zw_fp M24 (M24.2.2.2.2 0 2)) (fun M35 => (if z4 = 0 then zlet (zc_refuse M35 1) (fun M44 => (-1, M44)) else zlet (zw_take M35) (fun M60 => zlet (zw_forget M60) (fun M67 => (M67.1 0 4, M67)))))))))
set_option maxRecDepth 100000 in
set_option maxHeartbeats 4000000 in
theorem zd_curves (l : Launch) {D : va_G} {cI cJ cZ cP cS cM : ClassId} {L : List Nat} {sz : Nat} {f : Nat → va_E} (o : Nat) (M : zCt)  (hP : zCP cI cP cS cZ cM o M f) (hC : zCI M)  : zMi l yX11_curves wsX11_curves 9 194 D (zT cI cJ cZ cP cS cM) L sz f [.ref o] (fun zv gv => zv = (zc_curves M).1 ∧ zCP cI cP cS cZ cM o (zc_curves M).2 gv ∧ zCI (zc_curves M).2 ∧ zFr f gv o (o + 681) ∧ True) := by
  refine zWalk.met (nL := 2) (ret := (some .int)) (cc := cX11_curves) (by decide) rfl (Nat.le_of_ble_eq_true rfl) ?_
  intro pg en st mi ag bl mt cd ls CX hW hl
  have CX : zC pg st mi ag mt cd cX11_curves 2 (some .int) RX11 wsX11_curves := CX
  generalize hQ : MQ bl _ ag st 0 0 _ = Q
  have hX0 := CX.1
  have hB0 := CX.2.1
  have hl : lv_has ls 2 [(0, .ref o)] := hl
  obtain ⟨H, eH⟩ : ∃ H, H = st.heap := ⟨_, rfl⟩
  obtain ⟨locs, eL⟩ : ∃ L : List Loc, L = [] := ⟨_, rfl⟩
  have hW : zW D (zT cI cJ cZ cP cS cM) L (zQ L sz) st f st.heap H locs := by rw [eH, eL]; exact hW
  suffices hgo : W pg l en ({ frames := 9, cells := 0, slots := 0, locals := 194 } : Room) st mi ag bl mt cd H locs 0 0 Q (F0 mi 0 ls []) by rw [eH, eL] at hgo; exact hgo
  clear eH eL
  have hpb := hC.p
  have hnb := hC.cn
  refine lv_aload_n hX0 hB0 dX11_curves_0 rfl (lv_at hl 0 rfl) ?_
  refine z_get (Cn := RX11) (T := TX11) (N := 13) CX hW (v := .ref (o + 98)) (show f o = _ from hP.c0) rfl (fun w h => List.mem_cons_of_mem _ (List.mem_append_left _ (List.mem_append_left _ (List.mem_append_left _ (List.mem_append_left _ (List.mem_append_right _ h)))))) 0 (by decide) (List.mem_of_getElem? (i := 1) rfl) rfl rfl dX11_curves_1 ?_
  have hrc4 := fun sz : Nat => c_readText l (D := D) (cI := cI) (cJ := cJ) (cZ := cZ) (cP := cP) (cS := cS) (cM := cM) (L := L) (sz := sz) (f := f) (o + 98) (M.1 0 2) (M.1 2) M.2.2.2.2 hC.tp hC.rd
  simp only [zRdr.ro hP.c2] at hrc4
  have hok4 := zrt_ok (T := M.1 2) (show 0 ≤ M.1 0 2 ∧ M.1 0 2 ≤ 1000 from ⟨hC.tp.1, hC.tp.2.1⟩) hC.rd
  refine z_calli hW (va_runV (C := RX3) (As := []) (rest := []) CX.fix (hrc4 _) (cwV 0 CX.fix.2.2.2.2 gX11_curves_X3_readText rfl rfl rfl (by decide +kernel) ⟨Nat.le_of_ble_eq_true rfl, Nat.le_of_ble_eq_true rfl⟩) (z_preV CX hW (r := (RX3, TX3, 13)) hP.c2.ob rfl) rfl rfl hl.1 rfl (lv_room (Nat.le_of_ble_eq_true rfl)) dX11_curves_4 ⟨Nat.zero_le _, Nat.zero_le _⟩) (fun z4 g4 H locs hok hW => ?_)
  obtain ⟨hz, hg⟩ := hok
  have e4 : (zrt (M.1 0 2) (M.1 2) M.2.2.2.2).1 = z4 := hz.symm
  have hb4 : 0 ≤ z4 ∧ z4 ≤ 1 := by rw [← e4]; omega
  obtain ⟨M4, em4⟩ : ∃ Mq, zw_read M = Mq := ⟨_, rfl⟩
  have hP4 : zCP cI cP cS cZ cM o M4 g4 := by rw [← em4]; exact zr_read hP hg
  have hC4 : zCI M4 := by rw [← em4]; exact zi_read hC hok4.1
  have hF4 : zFr f g4 o (o + 681) := zFr.trans zFr.refl (fun q hq => by rw [hg]; exact zRO_out (by omega))
  have hrt4 : zcI (M.1 0 2) M4.2.2.2.2 := by rw [← em4]; exact hok4.1
  refine lv_istore_n (lv' := [(1, .int (zI z4)), (0, .ref o)]) hX0 hB0 dX11_curves_7 rfl hl (by decide) rfl (fun ls hl => ?_)
  refine lv_aload_n hX0 hB0 dX11_curves_8 rfl (lv_at hl 1 rfl) ?_
  refine z_get (Cn := RX11) (T := TX11) (N := 13) CX hW (v := .ref (o + 98)) (show g4 o = _ from hP4.c0) rfl (fun w h => List.mem_cons_of_mem _ (List.mem_append_left _ (List.mem_append_left _ (List.mem_append_left _ (List.mem_append_left _ (List.mem_append_right _ h)))))) 0 (by decide) (List.mem_of_getElem? (i := 1) rfl) rfl rfl dX11_curves_9 ?_
  refine lv_iconst (v := zI 0) hX0 hB0 dX11_curves_12 rfl ?_
  refine z_put (Cn := RX3) (T := TX3) (N := 13) CX hW (v := .int (zI 0)) (show g4 (o + 98) = _ from hP4.c2.ob) rfl (fun w h => List.mem_cons_of_mem _ (List.mem_append_left _ (List.mem_append_left _ (List.mem_append_left _ (List.mem_append_right _ h))))) tyX3 tyX3_ok nmX3 0 (by decide) (List.mem_of_getElem? (i := 2) rfl) rfl rfl rfl rfl (Nat.le_of_ble_eq_true rfl) (g := va_up g4 (o + 98) (.inr (3, [.int (zI 0), .int (zI (M4.2.2.2.2 0 1)), .int (zI (M4.2.2.2.2 0 2)), .ref (o + 98 + 1), .ref (o + 98 + 16), .ref (o + 98 + 17), .ref (o + 98 + 18), .ref (o + 98 + 19), .ref (o + 98 + 20), .ref (o + 98 + 21), .ref (o + 98 + 23), .ref (o + 98 + 25), .int (zI (M4.2.2.2.2 0 0))]))) rfl dX11_curves_13 (fun H locs hW => ?_)
  obtain ⟨M13, em13⟩ : ∃ Mq, zw_len M4 0 = Mq := ⟨_, rfl⟩
  have hP13 : zCP cI cP cS cZ cM o M13 (va_up g4 (o + 98) (.inr (3, [.int (zI 0), .int (zI (M4.2.2.2.2 0 1)), .int (zI (M4.2.2.2.2 0 2)), .ref (o + 98 + 1), .ref (o + 98 + 16), .ref (o + 98 + 17), .ref (o + 98 + 18), .ref (o + 98 + 19), .ref (o + 98 + 20), .ref (o + 98 + 21), .ref (o + 98 + 23), .ref (o + 98 + 25), .int (zI (M4.2.2.2.2 0 0))]))) := by rw [← em13]; exact zr_len hP4 rfl
  have hC13 : zCI M13 := by rw [← em13]; exact zi_len hC4 (by omega)
  have hF13 : zFr f (va_up g4 (o + 98) (.inr (3, [.int (zI 0), .int (zI (M4.2.2.2.2 0 1)), .int (zI (M4.2.2.2.2 0 2)), .ref (o + 98 + 1), .ref (o + 98 + 16), .ref (o + 98 + 17), .ref (o + 98 + 18), .ref (o + 98 + 19), .ref (o + 98 + 20), .ref (o + 98 + 21), .ref (o + 98 + 23), .ref (o + 98 + 25), .int (zI (M4.2.2.2.2 0 0))]))) o (o + 681) := zFr.trans hF4 (fun q hq => va_up_ne _ _ (by omega))
  have ta13 : M13.2 = M4.2 := by rw [← em13]; rfl
  refine lv_aload_n hX0 hB0 dX11_curves_16 rfl (lv_at hl 1 rfl) ?_
  refine lv_aload_n hX0 hB0 dX11_curves_17 rfl (lv_at hl 1 rfl) ?_
  refine z_get (Cn := RX11) (T := TX11) (N := 13) CX hW (v := .ref (o + 98)) (show va_up g4 (o + 98) (.inr (3, [.int (zI 0), .int (zI (M4.2.2.2.2 0 1)), .int (zI (M4.2.2.2.2 0 2)), .ref (o + 98 + 1), .ref (o + 98 + 16), .ref (o + 98 + 17), .ref (o + 98 + 18), .ref (o + 98 + 19), .ref (o + 98 + 20), .ref (o + 98 + 21), .ref (o + 98 + 23), .ref (o + 98 + 25), .int (zI (M4.2.2.2.2 0 0))])) o = _ from hP13.c0) rfl (fun w h => List.mem_cons_of_mem _ (List.mem_append_left _ (List.mem_append_left _ (List.mem_append_left _ (List.mem_append_left _ (List.mem_append_right _ h)))))) 0 (by decide) (List.mem_of_getElem? (i := 1) rfl) rfl rfl dX11_curves_18 ?_
  refine z_get (Cn := RX3) (T := TX3) (N := 13) CX hW (v := .int (zI (M13.2.2.2.2 0 1))) hP13.c2.ob rfl (fun w h => List.mem_cons_of_mem _ (List.mem_append_left _ (List.mem_append_left _ (List.mem_append_left _ (List.mem_append_right _ h))))) 1 (by decide) (List.mem_of_getElem? (i := 3) rfl) rfl rfl dX11_curves_21 ?_
  refine z_put (Cn := RX11) (T := TX11) (N := 13) CX hW (v := .int (zI (M13.2.2.2.2 0 1))) (show va_up g4 (o + 98) (.inr (3, [.int (zI 0), .int (zI (M4.2.2.2.2 0 1)), .int (zI (M4.2.2.2.2 0 2)), .ref (o + 98 + 1), .ref (o + 98 + 16), .ref (o + 98 + 17), .ref (o + 98 + 18), .ref (o + 98 + 19), .ref (o + 98 + 20), .ref (o + 98 + 21), .ref (o + 98 + 23), .ref (o + 98 + 25), .int (zI (M4.2.2.2.2 0 0))])) o = _ from hP13.c0) rfl (fun w h => List.mem_cons_of_mem _ (List.mem_append_left _ (List.mem_append_left _ (List.mem_append_left _ (List.mem_append_left _ (List.mem_append_right _ h)))))) tyX11 tyX11_ok nmX11 11 (by decide) (List.mem_of_getElem? (i := 4) rfl) rfl rfl rfl rfl (Nat.le_of_ble_eq_true rfl) (g := va_up (va_up g4 (o + 98) (.inr (3, [.int (zI 0), .int (zI (M4.2.2.2.2 0 1)), .int (zI (M4.2.2.2.2 0 2)), .ref (o + 98 + 1), .ref (o + 98 + 16), .ref (o + 98 + 17), .ref (o + 98 + 18), .ref (o + 98 + 19), .ref (o + 98 + 20), .ref (o + 98 + 21), .ref (o + 98 + 23), .ref (o + 98 + 25), .int (zI (M4.2.2.2.2 0 0))]))) o (.inr (11, [.ref (o + 98), .ref (o + 289), .ref (o + 304), .ref (o + 606), .ref (o + 607), .ref (o + 611), .ref (o + 615), .ref (o + 623), .ref (o + 628), .ref (o + 634), .ref (o + 680), .int (zI (M13.2.2.2.2 0 1)), .int (zI (M13.1 0 1))]))) rfl dX11_curves_24 (fun H locs hW => ?_)
  obtain ⟨M24, em24⟩ : ∃ Mq, zw_fk M13 (M13.2.2.2.2 0 1) = Mq := ⟨_, rfl⟩
  have hP24 : zCP cI cP cS cZ cM o M24 (va_up (va_up g4 (o + 98) (.inr (3, [.int (zI 0), .int (zI (M4.2.2.2.2 0 1)), .int (zI (M4.2.2.2.2 0 2)), .ref (o + 98 + 1), .ref (o + 98 + 16), .ref (o + 98 + 17), .ref (o + 98 + 18), .ref (o + 98 + 19), .ref (o + 98 + 20), .ref (o + 98 + 21), .ref (o + 98 + 23), .ref (o + 98 + 25), .int (zI (M4.2.2.2.2 0 0))]))) o (.inr (11, [.ref (o + 98), .ref (o + 289), .ref (o + 304), .ref (o + 606), .ref (o + 607), .ref (o + 611), .ref (o + 615), .ref (o + 623), .ref (o + 628), .ref (o + 634), .ref (o + 680), .int (zI (M13.2.2.2.2 0 1)), .int (zI (M13.1 0 1))]))) := by rw [← em24]; exact zr_fk hP13 rfl
  have hC24 : zCI M24 := by rw [← em24]; exact (show zCI _ from hC13)
  have hF24 : zFr f (va_up (va_up g4 (o + 98) (.inr (3, [.int (zI 0), .int (zI (M4.2.2.2.2 0 1)), .int (zI (M4.2.2.2.2 0 2)), .ref (o + 98 + 1), .ref (o + 98 + 16), .ref (o + 98 + 17), .ref (o + 98 + 18), .ref (o + 98 + 19), .ref (o + 98 + 20), .ref (o + 98 + 21), .ref (o + 98 + 23), .ref (o + 98 + 25), .int (zI (M4.2.2.2.2 0 0))]))) o (.inr (11, [.ref (o + 98), .ref (o + 289), .ref (o + 304), .ref (o + 606), .ref (o + 607), .ref (o + 611), .ref (o + 615), .ref (o + 623), .ref (o + 628), .ref (o + 634), .ref (o + 680), .int (zI (M13.2.2.2.2 0 1)), .int (zI (M13.1 0 1))]))) o (o + 681) := zFr.trans hF13 (fun q hq => va_up_ne _ _ (by omega))
  have ta24 : M24.2 = M13.2 := by rw [← em24]; rfl
  refine lv_aload_n hX0 hB0 dX11_curves_27 rfl (lv_at hl 1 rfl) ?_
  refine lv_aload_n hX0 hB0 dX11_curves_28 rfl (lv_at hl 1 rfl) ?_
  refine z_get (Cn := RX11) (T := TX11) (N := 13) CX hW (v := .ref (o + 98)) (show va_up (va_up g4 (o + 98) (.inr (3, [.int (zI 0), .int (zI (M4.2.2.2.2 0 1)), .int (zI (M4.2.2.2.2 0 2)), .ref (o + 98 + 1), .ref (o + 98 + 16), .ref (o + 98 + 17), .ref (o + 98 + 18), .ref (o + 98 + 19), .ref (o + 98 + 20), .ref (o + 98 + 21), .ref (o + 98 + 23), .ref (o + 98 + 25), .int (zI (M4.2.2.2.2 0 0))]))) o (.inr (11, [.ref (o + 98), .ref (o + 289), .ref (o + 304), .ref (o + 606), .ref (o + 607), .ref (o + 611), .ref (o + 615), .ref (o + 623), .ref (o + 628), .ref (o + 634), .ref (o + 680), .int (zI (M13.2.2.2.2 0 1)), .int (zI (M13.1 0 1))])) o = _ from hP24.c0) rfl (fun w h => List.mem_cons_of_mem _ (List.mem_append_left _ (List.mem_append_left _ (List.mem_append_left _ (List.mem_append_left _ (List.mem_append_right _ h)))))) 0 (by decide) (List.mem_of_getElem? (i := 1) rfl) rfl rfl dX11_curves_29 ?_
  refine z_get (Cn := RX3) (T := TX3) (N := 13) CX hW (v := .int (zI (M24.2.2.2.2 0 2))) hP24.c2.ob rfl (fun w h => List.mem_cons_of_mem _ (List.mem_append_left _ (List.mem_append_left _ (List.mem_append_left _ (List.mem_append_right _ h))))) 2 (by decide) (List.mem_of_getElem? (i := 5) rfl) rfl rfl dX11_curves_32 ?_
  refine z_put (Cn := RX11) (T := TX11) (N := 13) CX hW (v := .int (zI (M24.2.2.2.2 0 2))) (show va_up (va_up g4 (o + 98) (.inr (3, [.int (zI 0), .int (zI (M4.2.2.2.2 0 1)), .int (zI (M4.2.2.2.2 0 2)), .ref (o + 98 + 1), .ref (o + 98 + 16), .ref (o + 98 + 17), .ref (o + 98 + 18), .ref (o + 98 + 19), .ref (o + 98 + 20), .ref (o + 98 + 21), .ref (o + 98 + 23), .ref (o + 98 + 25), .int (zI (M4.2.2.2.2 0 0))]))) o (.inr (11, [.ref (o + 98), .ref (o + 289), .ref (o + 304), .ref (o + 606), .ref (o + 607), .ref (o + 611), .ref (o + 615), .ref (o + 623), .ref (o + 628), .ref (o + 634), .ref (o + 680), .int (zI (M13.2.2.2.2 0 1)), .int (zI (M13.1 0 1))])) o = _ from hP24.c0) rfl (fun w h => List.mem_cons_of_mem _ (List.mem_append_left _ (List.mem_append_left _ (List.mem_append_left _ (List.mem_append_left _ (List.mem_append_right _ h)))))) tyX11 tyX11_ok nmX11 12 (by decide) (List.mem_of_getElem? (i := 6) rfl) rfl rfl rfl rfl (Nat.le_of_ble_eq_true rfl) (g := va_up (va_up (va_up g4 (o + 98) (.inr (3, [.int (zI 0), .int (zI (M4.2.2.2.2 0 1)), .int (zI (M4.2.2.2.2 0 2)), .ref (o + 98 + 1), .ref (o + 98 + 16), .ref (o + 98 + 17), .ref (o + 98 + 18), .ref (o + 98 + 19), .ref (o + 98 + 20), .ref (o + 98 + 21), .ref (o + 98 + 23), .ref (o + 98 + 25), .int (zI (M4.2.2.2.2 0 0))]))) o (.inr (11, [.ref (o + 98), .ref (o + 289), .ref (o + 304), .ref (o + 606), .ref (o + 607), .ref (o + 611), .ref (o + 615), .ref (o + 623), .ref (o + 628), .ref (o + 634), .ref (o + 680), .int (zI (M13.2.2.2.2 0 1)), .int (zI (M13.1 0 1))]))) o (.inr (11, [.ref (o + 98), .ref (o + 289), .ref (o + 304), .ref (o + 606), .ref (o + 607), .ref (o + 611), .ref (o + 615), .ref (o + 623), .ref (o + 628), .ref (o + 634), .ref (o + 680), .int (zI (M24.1 0 0)), .int (zI (M24.2.2.2.2 0 2))]))) rfl dX11_curves_35 (fun H locs hW => ?_)
  obtain ⟨M35, em35⟩ : ∃ Mq, zw_fp M24 (M24.2.2.2.2 0 2) = Mq := ⟨_, rfl⟩
  have hP35 : zCP cI cP cS cZ cM o M35 (va_up (va_up (va_up g4 (o + 98) (.inr (3, [.int (zI 0), .int (zI (M4.2.2.2.2 0 1)), .int (zI (M4.2.2.2.2 0 2)), .ref (o + 98 + 1), .ref (o + 98 + 16), .ref (o + 98 + 17), .ref (o + 98 + 18), .ref (o + 98 + 19), .ref (o + 98 + 20), .ref (o + 98 + 21), .ref (o + 98 + 23), .ref (o + 98 + 25), .int (zI (M4.2.2.2.2 0 0))]))) o (.inr (11, [.ref (o + 98), .ref (o + 289), .ref (o + 304), .ref (o + 606), .ref (o + 607), .ref (o + 611), .ref (o + 615), .ref (o + 623), .ref (o + 628), .ref (o + 634), .ref (o + 680), .int (zI (M13.2.2.2.2 0 1)), .int (zI (M13.1 0 1))]))) o (.inr (11, [.ref (o + 98), .ref (o + 289), .ref (o + 304), .ref (o + 606), .ref (o + 607), .ref (o + 611), .ref (o + 615), .ref (o + 623), .ref (o + 628), .ref (o + 634), .ref (o + 680), .int (zI (M24.1 0 0)), .int (zI (M24.2.2.2.2 0 2))]))) := by rw [← em35]; exact zr_fp hP24 rfl
  have hC35 : zCI M35 := by rw [← em35]; exact (show zCI _ from hC24)
  have hF35 : zFr f (va_up (va_up (va_up g4 (o + 98) (.inr (3, [.int (zI 0), .int (zI (M4.2.2.2.2 0 1)), .int (zI (M4.2.2.2.2 0 2)), .ref (o + 98 + 1), .ref (o + 98 + 16), .ref (o + 98 + 17), .ref (o + 98 + 18), .ref (o + 98 + 19), .ref (o + 98 + 20), .ref (o + 98 + 21), .ref (o + 98 + 23), .ref (o + 98 + 25), .int (zI (M4.2.2.2.2 0 0))]))) o (.inr (11, [.ref (o + 98), .ref (o + 289), .ref (o + 304), .ref (o + 606), .ref (o + 607), .ref (o + 611), .ref (o + 615), .ref (o + 623), .ref (o + 628), .ref (o + 634), .ref (o + 680), .int (zI (M13.2.2.2.2 0 1)), .int (zI (M13.1 0 1))]))) o (.inr (11, [.ref (o + 98), .ref (o + 289), .ref (o + 304), .ref (o + 606), .ref (o + 607), .ref (o + 611), .ref (o + 615), .ref (o + 623), .ref (o + 628), .ref (o + 634), .ref (o + 680), .int (zI (M24.1 0 0)), .int (zI (M24.2.2.2.2 0 2))]))) o (o + 681) := zFr.trans hF24 (fun q hq => va_up_ne _ _ (by omega))
  have ta35 : M35.2 = M24.2 := by rw [← em35]; rfl
  refine lv_iload_n hX0 hB0 dX11_curves_38 rfl (lv_at hl 0 rfl) ?_
  refine z_if_ne (tgt := 49) CX dX11_curves_39 (by decide) (by constructor <;> omega) (fun c_39 => ?_) (fun c_39 => ?_)
  ·
    refine lv_aload_n hX0 hB0 dX11_curves_49 rfl (lv_at hl 1 rfl) ?_
    refine z_get (Cn := RX11) (T := TX11) (N := 13) CX hW (v := .ref (o + 289)) (show va_up (va_up (va_up g4 (o + 98) (.inr (3, [.int (zI 0), .int (zI (M4.2.2.2.2 0 1)), .int (zI (M4.2.2.2.2 0 2)), .ref (o + 98 + 1), .ref (o + 98 + 16), .ref (o + 98 + 17), .ref (o + 98 + 18), .ref (o + 98 + 19), .ref (o + 98 + 20), .ref (o + 98 + 21), .ref (o + 98 + 23), .ref (o + 98 + 25), .int (zI (M4.2.2.2.2 0 0))]))) o (.inr (11, [.ref (o + 98), .ref (o + 289), .ref (o + 304), .ref (o + 606), .ref (o + 607), .ref (o + 611), .ref (o + 615), .ref (o + 623), .ref (o + 628), .ref (o + 634), .ref (o + 680), .int (zI (M13.2.2.2.2 0 1)), .int (zI (M13.1 0 1))]))) o (.inr (11, [.ref (o + 98), .ref (o + 289), .ref (o + 304), .ref (o + 606), .ref (o + 607), .ref (o + 611), .ref (o + 615), .ref (o + 623), .ref (o + 628), .ref (o + 634), .ref (o + 680), .int (zI (M24.1 0 0)), .int (zI (M24.2.2.2.2 0 2))])) o = _ from hP35.c0) rfl (fun w h => List.mem_cons_of_mem _ (List.mem_append_left _ (List.mem_append_left _ (List.mem_append_left _ (List.mem_append_left _ (List.mem_append_right _ h)))))) 1 (by decide) (List.mem_of_getElem? (i := 7) rfl) rfl rfl dX11_curves_50 ?_
    refine lv_aload_n hX0 hB0 dX11_curves_53 rfl (lv_at hl 1 rfl) ?_
    refine z_get (Cn := RX11) (T := TX11) (N := 13) CX hW (v := .ref (o + 98)) (show va_up (va_up (va_up g4 (o + 98) (.inr (3, [.int (zI 0), .int (zI (M4.2.2.2.2 0 1)), .int (zI (M4.2.2.2.2 0 2)), .ref (o + 98 + 1), .ref (o + 98 + 16), .ref (o + 98 + 17), .ref (o + 98 + 18), .ref (o + 98 + 19), .ref (o + 98 + 20), .ref (o + 98 + 21), .ref (o + 98 + 23), .ref (o + 98 + 25), .int (zI (M4.2.2.2.2 0 0))]))) o (.inr (11, [.ref (o + 98), .ref (o + 289), .ref (o + 304), .ref (o + 606), .ref (o + 607), .ref (o + 611), .ref (o + 615), .ref (o + 623), .ref (o + 628), .ref (o + 634), .ref (o + 680), .int (zI (M13.2.2.2.2 0 1)), .int (zI (M13.1 0 1))]))) o (.inr (11, [.ref (o + 98), .ref (o + 289), .ref (o + 304), .ref (o + 606), .ref (o + 607), .ref (o + 611), .ref (o + 615), .ref (o + 623), .ref (o + 628), .ref (o + 634), .ref (o + 680), .int (zI (M24.1 0 0)), .int (zI (M24.2.2.2.2 0 2))])) o = _ from hP35.c0) rfl (fun w h => List.mem_cons_of_mem _ (List.mem_append_left _ (List.mem_append_left _ (List.mem_append_left _ (List.mem_append_left _ (List.mem_append_right _ h)))))) 0 (by decide) (List.mem_of_getElem? (i := 1) rfl) rfl rfl dX11_curves_54 ?_
    refine z_get (Cn := RX3) (T := TX3) (N := 13) CX hW (v := .ref (o + 98 + 1)) hP35.c2.ob rfl (fun w h => List.mem_cons_of_mem _ (List.mem_append_left _ (List.mem_append_left _ (List.mem_append_left _ (List.mem_append_right _ h))))) 3 (by decide) (List.mem_of_getElem? (i := 8) rfl) rfl rfl dX11_curves_57 ?_
    refine z_callv hW (va_runV (C := RX7) (As := [.ref (o + 98 + 1)]) (rest := []) CX.fix (c_shelfcopy l (o + 289) (M35.1 0 3) (M35.1 0 4) M35.2.1 (M35.1 3) (o + 98 + 1) (M35.2.2.2.2 0 3) (M35.2.2.2.2 0 4) (fun k => M35.2.2.2.2 (7 + k)) (M35.2.2.2.2 1) hP35.c3 hP35.c2.sh (by omega)) (cwV 1 CX.fix.2.2.2.2 gX11_curves_X7_copy rfl rfl rfl (by decide +kernel) ⟨Nat.le_of_ble_eq_true rfl, Nat.le_of_ble_eq_true rfl⟩) (z_preV CX hW (r := (RX7, TX7, 4)) hP35.c3.1 rfl) rfl rfl hl.1 rfl (lv_room (Nat.le_of_ble_eq_true rfl)) dX11_curves_60 ⟨Nat.zero_le _, Nat.zero_le _⟩) (fun g60 H locs hok hW => ?_)
    obtain ⟨hs0, hx⟩ := hok
    obtain ⟨M60, em60⟩ : ∃ Mq, zw_take M35 = Mq := ⟨_, rfl⟩
    have hP60 : zCP cI cP cS cZ cM o M60 g60 := by rw [← em60]; exact zr_take hP35 hs0 hx
    have hC60 : zCI M60 := by rw [← em60]; exact zi_take hC35 (by rw [ta35, ta24, ta13]; exact hrt4)
    have hF60 : zFr f g60 o (o + 681) := zFr.trans hF35 (fun q hq => hs0 q (by omega))
    refine lv_aload_n hX0 hB0 dX11_curves_63 rfl (lv_at hl 1 rfl) ?_
    refine z_get (Cn := RX11) (T := TX11) (N := 13) CX hW (v := .ref (o + 304)) (show g60 o = _ from hP60.c0) rfl (fun w h => List.mem_cons_of_mem _ (List.mem_append_left _ (List.mem_append_left _ (List.mem_append_left _ (List.mem_append_left _ (List.mem_append_right _ h)))))) 2 (by decide) (List.mem_of_getElem? (i := 9) rfl) rfl rfl dX11_curves_64 ?_
    refine z_callv hW (va_runV (C := RX1) (As := []) (rest := []) CX.fix (c_forget l (o + 304) (M60.1 0 5) (M60.1 0 6) (M60.1 40) (M60.1 41) M60.2.2.2.1 M60.2.2.1 hP60.c4) (cwV 0 CX.fix.2.2.2.2 gX11_curves_X1_forget rfl rfl rfl (by decide +kernel) ⟨Nat.le_of_ble_eq_true rfl, Nat.le_of_ble_eq_true rfl⟩) (z_preV CX hW (r := (RX1, TX1, 3)) hP60.c4.1 rfl) rfl rfl hl.1 rfl (lv_room (Nat.le_of_ble_eq_true rfl)) dX11_curves_67 ⟨Nat.zero_le _, Nat.zero_le _⟩) (fun g67 H locs hok hW => ?_)
    obtain ⟨hs0, hx⟩ := hok
    obtain ⟨M67, em67⟩ : ∃ Mq, zw_forget M60 = Mq := ⟨_, rfl⟩
    have hP67 : zCP cI cP cS cZ cM o M67 g67 := by rw [← em67]; exact zr_forget hP60 hs0 hx
    have hC67 : zCI M67 := by rw [← em67]; exact zi_forget hC60
    have hF67 : zFr f g67 o (o + 681) := zFr.trans hF60 (fun q hq => hs0 q (by omega))
    refine lv_aload_n hX0 hB0 dX11_curves_70 rfl (lv_at hl 1 rfl) ?_
    refine z_get (Cn := RX11) (T := TX11) (N := 13) CX hW (v := .ref (o + 289)) (show g67 o = _ from hP67.c0) rfl (fun w h => List.mem_cons_of_mem _ (List.mem_append_left _ (List.mem_append_left _ (List.mem_append_left _ (List.mem_append_left _ (List.mem_append_right _ h)))))) 1 (by decide) (List.mem_of_getElem? (i := 7) rfl) rfl rfl dX11_curves_71 ?_
    refine z_get (Cn := RX7) (T := TX7) (N := 4) CX hW (v := .int (zI (M67.1 0 4))) hP67.c3.1 rfl (fun w h => List.mem_cons_of_mem _ (List.mem_append_left _ (List.mem_append_left _ (List.mem_append_right _ h)))) 1 (by decide) (List.mem_of_getElem? (i := 10) rfl) rfl rfl dX11_curves_74 ?_
    have hr74 := hC67.cn
    have hE : zc_curves M = (M67.1 0 4, M67) := by unfold zc_curves; exact zlet_e e4 (zlet_e em4 (zlet_e em13 (zlet_e em24 (zlet_e em35 (zif_f c_39 (zlet_e em60 (zlet_e em67 rfl)))))))
    rw [← hQ]
    exact z_iret (z := M67.1 0 4) CX hW (by rw [hE]; exact ⟨rfl, hP67, hC67, hF67, trivial⟩) rfl dX11_curves_77
  ·
    refine lv_aload_n hX0 hB0 dX11_curves_42 rfl (lv_at hl 1 rfl) ?_
    refine lv_iconst (v := zI 1) hX0 hB0 dX11_curves_43 rfl ?_
    refine z_callv hW (va_runV (C := RX11) (As := [.int (zI 1)]) (rest := []) CX.fix (zd_refuse l o M35 1 hP35 hC35 (by constructor <;> omega)) (cwV 1 CX.fix.2.2.2.2 gX11_curves_X11_refuse rfl rfl rfl (by decide +kernel) ⟨Nat.le_of_ble_eq_true rfl, Nat.le_of_ble_eq_true rfl⟩) (z_preV CX hW (r := (RX11, TX11, 13)) (show va_up (va_up (va_up g4 (o + 98) (.inr (3, [.int (zI 0), .int (zI (M4.2.2.2.2 0 1)), .int (zI (M4.2.2.2.2 0 2)), .ref (o + 98 + 1), .ref (o + 98 + 16), .ref (o + 98 + 17), .ref (o + 98 + 18), .ref (o + 98 + 19), .ref (o + 98 + 20), .ref (o + 98 + 21), .ref (o + 98 + 23), .ref (o + 98 + 25), .int (zI (M4.2.2.2.2 0 0))]))) o (.inr (11, [.ref (o + 98), .ref (o + 289), .ref (o + 304), .ref (o + 606), .ref (o + 607), .ref (o + 611), .ref (o + 615), .ref (o + 623), .ref (o + 628), .ref (o + 634), .ref (o + 680), .int (zI (M13.2.2.2.2 0 1)), .int (zI (M13.1 0 1))]))) o (.inr (11, [.ref (o + 98), .ref (o + 289), .ref (o + 304), .ref (o + 606), .ref (o + 607), .ref (o + 611), .ref (o + 615), .ref (o + 623), .ref (o + 628), .ref (o + 634), .ref (o + 680), .int (zI (M24.1 0 0)), .int (zI (M24.2.2.2.2 0 2))])) o = _ from hP35.c0) rfl) rfl rfl hl.1 rfl (lv_room (Nat.le_of_ble_eq_true rfl)) dX11_curves_44 ⟨Nat.zero_le _, Nat.zero_le _⟩) (fun g44 H locs hok hW => ?_)
    obtain ⟨hp, hc, hfr, hq44⟩ := hok
    obtain ⟨M44, e44⟩ : ∃ Mq, zc_refuse M35 1 = Mq := ⟨_, rfl⟩
    rw [e44] at hp hc
    try rw [e44] at hq44
    have hP44 := hp
    have hC44 := hc
    have hF44 : zFr f g44 o (o + 681) := zFr.trans hF35 hfr
    clear hp hc hfr
    refine lv_iconst (v := zI (-1)) hX0 hB0 dX11_curves_47 rfl ?_
    have hE : zc_curves M = (-1, M44) := by unfold zc_curves; exact zlet_e e4 (zlet_e em4 (zlet_e em13 (zlet_e em24 (zlet_e em35 (zif_t c_39 (zlet_e e44 rfl))))))
    rw [← hQ]
    exact z_iret (z := -1) CX hW (by rw [hE]; exact ⟨rfl, hP44, hC44, hF44, trivial⟩) rfl dX11_curves_48
noncomputable def zc_move (M : zCt) (a : Int) (b : Int) (e : Int) (c : Int) (d : Int) (k : Int) : Int × zCt := zlet (zsmv a b e c d k (M.1 0 3)) (fun z20 => zlet (zw_setMove M a b e c d k (M.1 0 3)) (fun M20 => (if z20 = 0 then zlet (zc_refuse M20 2) (fun M28 => (0, M28)) else zlet (zw_keep M20) (fun M41 => zlet (zw_moveAll M41) (fun M52 => (1, M52))))))
set_option maxRecDepth 100000 in
set_option maxHeartbeats 4000000 in
theorem zd_move (l : Launch) {D : va_G} {cI cJ cZ cP cS cM : ClassId} {L : List Nat} {sz : Nat} {f : Nat → va_E} (o : Nat) (M : zCt) (a : Int) (b : Int) (e : Int) (c : Int) (d : Int) (k : Int) (hP : zCP cI cP cS cZ cM o M f) (hC : zCI M) (ha : -2147483648 ≤ a ∧ a ≤ 2147483647) (hb : -2147483648 ≤ b ∧ b ≤ 2147483647) (he : -2147483648 ≤ e ∧ e ≤ 2147483647) (hc : -2147483648 ≤ c ∧ c ≤ 2147483647) (hd : -2147483648 ≤ d ∧ d ≤ 2147483647) (hk : -2147483648 ≤ k ∧ k ≤ 2147483647) : zMi l yX11_move wsX11_move 4 102 D (zT cI cJ cZ cP cS cM) L sz f [.ref o, .int (zI a), .int (zI b), .int (zI e), .int (zI c), .int (zI d), .int (zI k)] (fun zv gv => zv = (zc_move M a b e c d k).1 ∧ zCP cI cP cS cZ cM o (zc_move M a b e c d k).2 gv ∧ zCI (zc_move M a b e c d k).2 ∧ zFr f gv o (o + 681) ∧ True) := by
  refine zWalk.met (nL := 7) (ret := (some .boolean)) (cc := cX11_move) (by decide) rfl (Nat.le_of_ble_eq_true rfl) ?_
  intro pg en st mi ag bl mt cd ls CX hW hl
  have CX : zC pg st mi ag mt cd cX11_move 7 (some .boolean) RX11 wsX11_move := CX
  generalize hQ : MQ bl _ ag st 0 0 _ = Q
  have hX0 := CX.1
  have hB0 := CX.2.1
  have hl : lv_has ls 7 [(0, .ref o), (1, .int (zI a)), (2, .int (zI b)), (3, .int (zI e)), (4, .int (zI c)), (5, .int (zI d)), (6, .int (zI k))] := hl
  obtain ⟨H, eH⟩ : ∃ H, H = st.heap := ⟨_, rfl⟩
  obtain ⟨locs, eL⟩ : ∃ L : List Loc, L = [] := ⟨_, rfl⟩
  have hW : zW D (zT cI cJ cZ cP cS cM) L (zQ L sz) st f st.heap H locs := by rw [eH, eL]; exact hW
  suffices hgo : W pg l en ({ frames := 4, cells := 0, slots := 0, locals := 102 } : Room) st mi ag bl mt cd H locs 0 0 Q (F0 mi 0 ls []) by rw [eH, eL] at hgo; exact hgo
  clear eH eL
  have hpb := hC.p
  have hnb := hC.cn
  refine lv_aload_n hX0 hB0 dX11_move_0 rfl (lv_at hl 0 rfl) ?_
  refine z_get (Cn := RX11) (T := TX11) (N := 13) CX hW (v := .ref (o + 634)) (show f o = _ from hP.c0) rfl (fun w h => List.mem_cons_of_mem _ (List.mem_append_left _ (List.mem_append_left _ (List.mem_append_left _ (List.mem_append_left _ (List.mem_append_right _ h)))))) 9 (by decide) (List.mem_of_getElem? (i := 1) rfl) rfl rfl dX11_move_1 ?_
  refine lv_iload_n hX0 hB0 dX11_move_4 rfl (lv_at hl 1 rfl) ?_
  refine lv_iload_n hX0 hB0 dX11_move_5 rfl (lv_at hl 2 rfl) ?_
  refine lv_iload_n hX0 hB0 dX11_move_6 rfl (lv_at hl 3 rfl) ?_
  refine lv_iload hX0 hB0 dX11_move_7 (lv_at hl 4 rfl) ?_
  refine lv_iload hX0 hB0 dX11_move_9 (lv_at hl 5 rfl) ?_
  refine lv_iload hX0 hB0 dX11_move_11 (lv_at hl 6 rfl) ?_
  refine lv_aload_n hX0 hB0 dX11_move_13 rfl (lv_at hl 0 rfl) ?_
  refine z_get (Cn := RX11) (T := TX11) (N := 13) CX hW (v := .ref (o + 289)) (show f o = _ from hP.c0) rfl (fun w h => List.mem_cons_of_mem _ (List.mem_append_left _ (List.mem_append_left _ (List.mem_append_left _ (List.mem_append_left _ (List.mem_append_right _ h)))))) 1 (by decide) (List.mem_of_getElem? (i := 2) rfl) rfl rfl dX11_move_14 ?_
  refine z_get (Cn := RX7) (T := TX7) (N := 4) CX hW (v := .int (zI (M.1 0 3))) hP.c3.1 rfl (fun w h => List.mem_cons_of_mem _ (List.mem_append_left _ (List.mem_append_left _ (List.mem_append_left _ (List.mem_append_right _ h))))) 0 (by decide) (List.mem_of_getElem? (i := 3) rfl) rfl rfl dX11_move_17 ?_
  have hr17 := hC.p
  obtain ⟨sc20, ax20, ay20, az20, bx20, by20, bz20, PX20, PY20, RS20, hmx20⟩ := hP.c11
  refine z_calli hW (va_runV (C := RX0) (As := [.int (zI a), .int (zI b), .int (zI e), .int (zI c), .int (zI d), .int (zI k), .int (zI (M.1 0 3))]) (rest := []) CX.fix (c_setMove l (o + 634) (M.1 0 17) (M.1 27) sc20 (M.1 28) (M.1 29) ax20 ay20 az20 bx20 by20 bz20 PX20 PY20 RS20 a b e c d k (M.1 0 3) hmx20 (by omega) (by constructor <;> omega) (by constructor <;> omega) (by constructor <;> omega) (by constructor <;> omega) (by constructor <;> omega) (by constructor <;> omega)) (cwV 7 CX.fix.2.2.2.2 gX11_move_X0_setMove rfl rfl rfl (by decide +kernel) ⟨Nat.le_of_ble_eq_true rfl, Nat.le_of_ble_eq_true rfl⟩) (z_preV CX hW (r := (RX0, TX0, 10)) hP.mkob rfl) rfl rfl hl.1 rfl (lv_room (Nat.le_of_ble_eq_true rfl)) dX11_move_20 ⟨Nat.zero_le _, Nat.zero_le _⟩) (fun z20 g20 H locs hok hW => ?_)
  obtain ⟨hz, hg⟩ := hok
  have e20 : zsmv a b e c d k (M.1 0 3) = z20 := (show zsmv a b e c d k (M.1 0 3) = _ from hz.symm)
  have hb20 := zsmv_rng a b e c d k (M.1 0 3)
  rw [e20] at hb20
  obtain ⟨M20, em20⟩ : ∃ Mq, zw_setMove M a b e c d k (M.1 0 3) = Mq := ⟨_, rfl⟩
  have hP20 : zCP cI cP cS cZ cM o M20 g20 := by rw [← em20]; exact zr_setMove hP hg
  have hC20 : zCI M20 := by rw [← em20]; exact zi_setMove hC
  have hF20 : zFr f g20 o (o + 681) := zFr.trans zFr.refl (fun q hq => by rw [hg, va_up_ne _ _ (by omega), va_up_ne _ _ (by omega), va_up_ne _ _ (by omega)])
  have hsm20 := zsmv_c (M := M) (a := a) (b := b) (e := e) (c := c) (d := d) (k := k) (q := M.1 0 3) (by omega)
  rw [em20] at hsm20
  refine z_if_ne (tgt := 33) CX dX11_move_23 (by decide) (by constructor <;> omega) (fun c_23 => ?_) (fun c_23 => ?_)
  ·
    refine lv_aload_n hX0 hB0 dX11_move_33 rfl (lv_at hl 0 rfl) ?_
    refine z_get (Cn := RX11) (T := TX11) (N := 13) CX hW (v := .ref (o + 304)) (show g20 o = _ from hP20.c0) rfl (fun w h => List.mem_cons_of_mem _ (List.mem_append_left _ (List.mem_append_left _ (List.mem_append_left _ (List.mem_append_left _ (List.mem_append_right _ h)))))) 2 (by decide) (List.mem_of_getElem? (i := 4) rfl) rfl rfl dX11_move_34 ?_
    refine lv_aload_n hX0 hB0 dX11_move_37 rfl (lv_at hl 0 rfl) ?_
    refine z_get (Cn := RX11) (T := TX11) (N := 13) CX hW (v := .ref (o + 289)) (show g20 o = _ from hP20.c0) rfl (fun w h => List.mem_cons_of_mem _ (List.mem_append_left _ (List.mem_append_left _ (List.mem_append_left _ (List.mem_append_left _ (List.mem_append_right _ h)))))) 1 (by decide) (List.mem_of_getElem? (i := 2) rfl) rfl rfl dX11_move_38 ?_
    refine z_callv hW (va_runV (C := RX1) (As := [.ref (o + 289)]) (rest := []) CX.fix (c_keep l (o + 304) (M20.1 0 5) (M20.1 0 6) (M20.1 40) (M20.1 41) M20.2.2.2.1 M20.2.2.1 (o + 289) (M20.1 0 3) (M20.1 0 4) M20.2.1 (M20.1 3) hP20.c4 hC20.ct hC20.nx hP20.c3 (by omega)) (cwV 1 CX.fix.2.2.2.2 gX11_move_X1_keep rfl rfl rfl (by decide +kernel) ⟨Nat.le_of_ble_eq_true rfl, Nat.le_of_ble_eq_true rfl⟩) (z_preV CX hW (r := (RX1, TX1, 3)) hP20.c4.1 rfl) rfl rfl hl.1 rfl (lv_room (Nat.le_of_ble_eq_true rfl)) dX11_move_41 ⟨Nat.zero_le _, Nat.zero_le _⟩) (fun g41 H locs hok hW => ?_)
    obtain ⟨hs0, hx⟩ := hok
    obtain ⟨M41, em41⟩ : ∃ Mq, zw_keep M20 = Mq := ⟨_, rfl⟩
    have hP41 : zCP cI cP cS cZ cM o M41 g41 := by rw [← em41]; exact zr_keep hP20 hs0 hx
    have hC41 : zCI M41 := by rw [← em41]; exact zi_keep hC20
    have hF41 : zFr f g41 o (o + 681) := zFr.trans hF20 (fun q hq => hs0 q (by omega))
    have hkp41 := zk_keep (M := M20)
    rw [em41] at hkp41
    refine lv_aload_n hX0 hB0 dX11_move_44 rfl (lv_at hl 0 rfl) ?_
    refine z_get (Cn := RX11) (T := TX11) (N := 13) CX hW (v := .ref (o + 634)) (show g41 o = _ from hP41.c0) rfl (fun w h => List.mem_cons_of_mem _ (List.mem_append_left _ (List.mem_append_left _ (List.mem_append_left _ (List.mem_append_left _ (List.mem_append_right _ h)))))) 9 (by decide) (List.mem_of_getElem? (i := 1) rfl) rfl rfl dX11_move_45 ?_
    refine lv_aload_n hX0 hB0 dX11_move_48 rfl (lv_at hl 0 rfl) ?_
    refine z_get (Cn := RX11) (T := TX11) (N := 13) CX hW (v := .ref (o + 289)) (show g41 o = _ from hP41.c0) rfl (fun w h => List.mem_cons_of_mem _ (List.mem_append_left _ (List.mem_append_left _ (List.mem_append_left _ (List.mem_append_left _ (List.mem_append_right _ h)))))) 1 (by decide) (List.mem_of_getElem? (i := 2) rfl) rfl rfl dX11_move_49 ?_
    have hqe52 : M41.1 0 17 = M41.1 0 3 := by rw [hkp41.2.2.2.1, hkp41.2.2.2.2.1, hsm20.2.2.1, hsm20.2.2.2.1]
    have hnx52 : zcan (M41.1 0 17) (M41.1 28) := by rw [hkp41.1, hkp41.2.2.2.1, hsm20.2.2.1]; exact hsm20.1
    have hny52 : zcan (M41.1 0 17) (M41.1 29) := by rw [hkp41.2.1, hkp41.2.2.2.1, hsm20.2.2.1]; exact hsm20.2.1
    have hp41 := hC41.p
    have hn41 := hC41.cn
    obtain ⟨sc52, ax52, ay52, az52, bx52, by52, bz52, PX52, PY52, RS52, hmx52⟩ := hP41.c11
    refine z_callv hW (va_runV (C := RX0) (As := [.ref (o + 289)]) (rest := []) CX.fix (c_moveAll l (o + 634) (M41.1 0 17) (M41.1 27) sc52 (M41.1 28) (M41.1 29) ax52 ay52 az52 bx52 by52 bz52 PX52 PY52 RS52 (o + 289) (M41.1 0 3) (M41.1 0 4) M41.2.1 (M41.1 3) hmx52 (by omega) hnx52 hny52 hP41.c3 (by omega) (by rw [hqe52]; exact hC41.cv) (by omega)) (cwV 1 CX.fix.2.2.2.2 gX11_move_X0_moveAll rfl rfl rfl (by decide +kernel) ⟨Nat.le_of_ble_eq_true rfl, Nat.le_of_ble_eq_true rfl⟩) (z_preV CX hW (r := (RX0, TX0, 10)) hP41.mkob rfl) rfl rfl hl.1 rfl (lv_room (Nat.le_of_ble_eq_true rfl)) dX11_move_52 ⟨Nat.zero_le _, Nat.zero_le _⟩) (fun g52 H locs hok hW => ?_)
    obtain ⟨hs, hM, hS⟩ := hok
    obtain ⟨M52, em52⟩ : ∃ Mq, zw_moveAll M41 = Mq := ⟨_, rfl⟩
    have hP52 : zCP cI cP cS cZ cM o M52 g52 := by rw [← em52]; exact zr_moveAll hP41 hs hM hS
    have hC52 : zCI M52 := by rw [← em52]; exact zi_moveAll hC41 hqe52
    have hF52 : zFr f g52 o (o + 681) := zFr.trans hF41 (fun q hq => hs q (by omega))
    refine lv_iconst (v := zI 1) hX0 hB0 dX11_move_55 rfl ?_
    have hE : zc_move M a b e c d k = (1, M52) := by unfold zc_move; exact zlet_e e20 (zlet_e em20 (zif_f c_23 (zlet_e em41 (zlet_e em52 rfl))))
    rw [← hQ]
    exact z_iret (z := 1) CX hW (by rw [hE]; exact ⟨rfl, hP52, hC52, hF52, trivial⟩) rfl dX11_move_56
  ·
    refine lv_aload_n hX0 hB0 dX11_move_26 rfl (lv_at hl 0 rfl) ?_
    refine lv_iconst (v := zI 2) hX0 hB0 dX11_move_27 rfl ?_
    refine z_callv hW (va_runV (C := RX11) (As := [.int (zI 2)]) (rest := []) CX.fix (zd_refuse l o M20 2 hP20 hC20 (by constructor <;> omega)) (cwV 1 CX.fix.2.2.2.2 gX11_move_X11_refuse rfl rfl rfl (by decide +kernel) ⟨Nat.le_of_ble_eq_true rfl, Nat.le_of_ble_eq_true rfl⟩) (z_preV CX hW (r := (RX11, TX11, 13)) (show g20 o = _ from hP20.c0) rfl) rfl rfl hl.1 rfl (lv_room (Nat.le_of_ble_eq_true rfl)) dX11_move_28 ⟨Nat.zero_le _, Nat.zero_le _⟩) (fun g28 H locs hok hW => ?_)
    obtain ⟨hp, hc, hfr, hq28⟩ := hok
    obtain ⟨M28, e28⟩ : ∃ Mq, zc_refuse M20 2 = Mq := ⟨_, rfl⟩
    rw [e28] at hp hc
    try rw [e28] at hq28
    have hP28 := hp
    have hC28 := hc
    have hF28 : zFr f g28 o (o + 681) := zFr.trans hF20 hfr
    clear hp hc hfr
    refine lv_iconst (v := zI 0) hX0 hB0 dX11_move_31 rfl ?_
    have hE : zc_move M a b e c d k = (0, M28) := by unfold zc_move; exact zlet_e e20 (zlet_e em20 (zif_t c_23 (zlet_e e28 rfl)))
    rw [← hQ]
    exact z_iret (z := 0) CX hW (by rw [hE]; exact ⟨rfl, hP28, hC28, hF28, trivial⟩) rfl dX11_move_32
noncomputable def zc_moved (M : zCt) (pt : Int) (a : Int) (b : Int) (e : Int) (c : Int) (d : Int) (k : Int) : Int × zCt := zlet (bI (zpt pt (M.1 0 3))) (fun z12 => zlet (zw_go M pt (M.1 0 3)) (fun M12 => (if z12 = 0 then (-1, M12) else zlet (zsmv a b e c d k (M12.1 0 3)) (fun z39 => zlet (zw_setMove M12 a b e c d k (M12.1 0 3)) (fun M39 => (if z39 = 0 then (-1, M39) else zlet (zwh (M39.1 28) (M39.1 29) (M39.1 0 17) (M39.1 0 10) (M39.1 0 11) (M39.1 0 12)) (fun z55 => (z55, M39))))))))
set_option maxRecDepth 100000 in
set_option maxHeartbeats 4000000 in
theorem zd_moved (l : Launch) {D : va_G} {cI cJ cZ cP cS cM : ClassId} {L : List Nat} {sz : Nat} {f : Nat → va_E} (o : Nat) (M : zCt) (pt : Int) (a : Int) (b : Int) (e : Int) (c : Int) (d : Int) (k : Int) (hP : zCP cI cP cS cZ cM o M f) (hC : zCI M) (hpt : -2147483648 ≤ pt ∧ pt ≤ 2147483647) (ha : -2147483648 ≤ a ∧ a ≤ 2147483647) (hb : -2147483648 ≤ b ∧ b ≤ 2147483647) (he : -2147483648 ≤ e ∧ e ≤ 2147483647) (hc : -2147483648 ≤ c ∧ c ≤ 2147483647) (hd : -2147483648 ≤ d ∧ d ≤ 2147483647) (hk : -2147483648 ≤ k ∧ k ≤ 2147483647) : zMi l yX11_moved wsX11_moved 4 94 D (zT cI cJ cZ cP cS cM) L sz f [.ref o, .int (zI pt), .int (zI a), .int (zI b), .int (zI e), .int (zI c), .int (zI d), .int (zI k)] (fun zv gv => zv = (zc_moved M pt a b e c d k).1 ∧ zCP cI cP cS cZ cM o (zc_moved M pt a b e c d k).2 gv ∧ zCI (zc_moved M pt a b e c d k).2 ∧ zFr f gv o (o + 681) ∧ zVE (zc_moved M pt a b e c d k).2 M ∧ True) := by
  refine zWalk.met (nL := 8) (ret := (some .int)) (cc := cX11_moved) (by decide) rfl (Nat.le_of_ble_eq_true rfl) ?_
  intro pg en st mi ag bl mt cd ls CX hW hl
  have CX : zC pg st mi ag mt cd cX11_moved 8 (some .int) RX11 wsX11_moved := CX
  generalize hQ : MQ bl _ ag st 0 0 _ = Q
  have hX0 := CX.1
  have hB0 := CX.2.1
  have hl : lv_has ls 8 [(0, .ref o), (1, .int (zI pt)), (2, .int (zI a)), (3, .int (zI b)), (4, .int (zI e)), (5, .int (zI c)), (6, .int (zI d)), (7, .int (zI k))] := hl
  obtain ⟨H, eH⟩ : ∃ H, H = st.heap := ⟨_, rfl⟩
  obtain ⟨locs, eL⟩ : ∃ L : List Loc, L = [] := ⟨_, rfl⟩
  have hW : zW D (zT cI cJ cZ cP cS cM) L (zQ L sz) st f st.heap H locs := by rw [eH, eL]; exact hW
  suffices hgo : W pg l en ({ frames := 4, cells := 0, slots := 0, locals := 94 } : Room) st mi ag bl mt cd H locs 0 0 Q (F0 mi 0 ls []) by rw [eH, eL] at hgo; exact hgo
  clear eH eL
  have hpb := hC.p
  have hnb := hC.cn
  refine lv_aload_n hX0 hB0 dX11_moved_0 rfl (lv_at hl 0 rfl) ?_
  refine z_get (Cn := RX11) (T := TX11) (N := 13) CX hW (v := .ref (o + 606)) (show f o = _ from hP.c0) rfl (fun w h => List.mem_cons_of_mem _ (List.mem_append_left _ (List.mem_append_left _ (List.mem_append_left _ (List.mem_append_left _ (List.mem_append_right _ h)))))) 3 (by decide) (List.mem_of_getElem? (i := 1) rfl) rfl rfl dX11_moved_1 ?_
  refine lv_iload_n hX0 hB0 dX11_moved_4 rfl (lv_at hl 1 rfl) ?_
  refine lv_aload_n hX0 hB0 dX11_moved_5 rfl (lv_at hl 0 rfl) ?_
  refine z_get (Cn := RX11) (T := TX11) (N := 13) CX hW (v := .ref (o + 289)) (show f o = _ from hP.c0) rfl (fun w h => List.mem_cons_of_mem _ (List.mem_append_left _ (List.mem_append_left _ (List.mem_append_left _ (List.mem_append_left _ (List.mem_append_right _ h)))))) 1 (by decide) (List.mem_of_getElem? (i := 2) rfl) rfl rfl dX11_moved_6 ?_
  refine z_get (Cn := RX7) (T := TX7) (N := 4) CX hW (v := .int (zI (M.1 0 3))) hP.c3.1 rfl (fun w h => List.mem_cons_of_mem _ (List.mem_append_left _ (List.mem_append_left _ (List.mem_append_left _ (List.mem_append_right _ h))))) 0 (by decide) (List.mem_of_getElem? (i := 3) rfl) rfl rfl dX11_moved_9 ?_
  have hr9 := hC.p
  refine z_calli hW (va_runV (C := RX9) (As := [.int (zI pt), .int (zI (M.1 0 3))]) (rest := []) CX.fix (c_go l (o + 606) (M.1 0 10) (M.1 0 11) (M.1 0 12) pt (M.1 0 3) hP.c5 (by constructor <;> omega) (by omega)) (cwV 2 CX.fix.2.2.2.2 gX11_moved_X9_go rfl rfl rfl (by decide +kernel) ⟨Nat.le_of_ble_eq_true rfl, Nat.le_of_ble_eq_true rfl⟩) (z_preV CX hW (r := (RX9, TX9, 3)) (show f (o + 606) = _ from hP.c5) rfl) rfl rfl hl.1 rfl (lv_room (Nat.le_of_ble_eq_true rfl)) dX11_moved_12 ⟨Nat.zero_le _, Nat.zero_le _⟩) (fun z12 g12 H locs hok hW => ?_)
  obtain ⟨hz, hg⟩ := hok
  have e12 : bI (zpt pt (M.1 0 3)) = z12 := hz.symm
  have hb12 := bI_01 (zpt pt (M.1 0 3))
  rw [e12] at hb12
  obtain ⟨M12, em12⟩ : ∃ Mq, zw_go M pt (M.1 0 3) = Mq := ⟨_, rfl⟩
  have hP12 : zCP cI cP cS cZ cM o M12 g12 := by rw [← em12]; exact zr_go hP hg
  have hC12 : zCI M12 := by rw [← em12]; exact zi_go hC
  have hV12 : zVE M12 M := zVE.tr (by rw [← em12]; exact zv_go) zVE.rf
  have tv12_3 : M12.1 0 3 = M.1 0 3 := hV12.2 0 3 (by omega) (by omega)
  have tv12_4 : M12.1 0 4 = M.1 0 4 := hV12.2 0 4 (by omega) (by omega)
  have hF12 : zFr f g12 o (o + 681) := zFr.trans zFr.refl (fun q hq => by rw [hg]; exact va_up_ne _ _ (by omega))
  have hgo12 : ¬ z12 = 0 → (M12.1 0 10 = zpx pt (M.1 0 3) ∧ M12.1 0 11 = zpy pt (M.1 0 3) ∧ M12.1 0 12 = zpz pt (M.1 0 3)) ∧ (0 ≤ M12.1 0 10 ∧ M12.1 0 10 < (M.1 0 3)) ∧ (0 ≤ M12.1 0 11 ∧ M12.1 0 11 < (M.1 0 3)) ∧ 0 ≤ M12.1 0 12 ∧ M12.1 0 12 ≤ 1 := fun hz0 => by rw [← em12]; exact zgo_rng (by omega) (by rw [e12]; exact hz0)
  skip
  skip
  skip
  refine z_if_eq (tgt := 45) CX dX11_moved_15 (by decide) (by constructor <;> omega) (fun c_15 => ?_) (fun c_15 => ?_)
  ·
    refine lv_iconst (v := zI (-1)) hX0 hB0 dX11_moved_45 rfl ?_
    have hE : zc_moved M pt a b e c d k = (-1, M12) := by unfold zc_moved; exact zlet_e e12 (zlet_e em12 (zif_t c_15 rfl))
    rw [← hQ]
    exact z_iret (z := -1) CX hW (by rw [hE]; exact ⟨rfl, hP12, hC12, hF12, hV12, trivial⟩) rfl dX11_moved_46
  ·
    refine lv_aload_n hX0 hB0 dX11_moved_18 rfl (lv_at hl 0 rfl) ?_
    refine z_get (Cn := RX11) (T := TX11) (N := 13) CX hW (v := .ref (o + 634)) (show g12 o = _ from hP12.c0) rfl (fun w h => List.mem_cons_of_mem _ (List.mem_append_left _ (List.mem_append_left _ (List.mem_append_left _ (List.mem_append_left _ (List.mem_append_right _ h)))))) 9 (by decide) (List.mem_of_getElem? (i := 4) rfl) rfl rfl dX11_moved_19 ?_
    refine lv_iload_n hX0 hB0 dX11_moved_22 rfl (lv_at hl 2 rfl) ?_
    refine lv_iload_n hX0 hB0 dX11_moved_23 rfl (lv_at hl 3 rfl) ?_
    refine lv_iload hX0 hB0 dX11_moved_24 (lv_at hl 4 rfl) ?_
    refine lv_iload hX0 hB0 dX11_moved_26 (lv_at hl 5 rfl) ?_
    refine lv_iload hX0 hB0 dX11_moved_28 (lv_at hl 6 rfl) ?_
    refine lv_iload hX0 hB0 dX11_moved_30 (lv_at hl 7 rfl) ?_
    refine lv_aload_n hX0 hB0 dX11_moved_32 rfl (lv_at hl 0 rfl) ?_
    refine z_get (Cn := RX11) (T := TX11) (N := 13) CX hW (v := .ref (o + 289)) (show g12 o = _ from hP12.c0) rfl (fun w h => List.mem_cons_of_mem _ (List.mem_append_left _ (List.mem_append_left _ (List.mem_append_left _ (List.mem_append_left _ (List.mem_append_right _ h)))))) 1 (by decide) (List.mem_of_getElem? (i := 2) rfl) rfl rfl dX11_moved_33 ?_
    refine z_get (Cn := RX7) (T := TX7) (N := 4) CX hW (v := .int (zI (M12.1 0 3))) hP12.c3.1 rfl (fun w h => List.mem_cons_of_mem _ (List.mem_append_left _ (List.mem_append_left _ (List.mem_append_left _ (List.mem_append_right _ h))))) 0 (by decide) (List.mem_of_getElem? (i := 3) rfl) rfl rfl dX11_moved_36 ?_
    have hr36 := hC12.p
    obtain ⟨sc39, ax39, ay39, az39, bx39, by39, bz39, PX39, PY39, RS39, hmx39⟩ := hP12.c11
    refine z_calli hW (va_runV (C := RX0) (As := [.int (zI a), .int (zI b), .int (zI e), .int (zI c), .int (zI d), .int (zI k), .int (zI (M12.1 0 3))]) (rest := []) CX.fix (c_setMove l (o + 634) (M12.1 0 17) (M12.1 27) sc39 (M12.1 28) (M12.1 29) ax39 ay39 az39 bx39 by39 bz39 PX39 PY39 RS39 a b e c d k (M12.1 0 3) hmx39 (by omega) (by constructor <;> omega) (by constructor <;> omega) (by constructor <;> omega) (by constructor <;> omega) (by constructor <;> omega) (by constructor <;> omega)) (cwV 7 CX.fix.2.2.2.2 gX11_moved_X0_setMove rfl rfl rfl (by decide +kernel) ⟨Nat.le_of_ble_eq_true rfl, Nat.le_of_ble_eq_true rfl⟩) (z_preV CX hW (r := (RX0, TX0, 10)) hP12.mkob rfl) rfl rfl hl.1 rfl (lv_room (Nat.le_of_ble_eq_true rfl)) dX11_moved_39 ⟨Nat.zero_le _, Nat.zero_le _⟩) (fun z39 g39 H locs hok hW => ?_)
    obtain ⟨hz, hg⟩ := hok
    have e39 : zsmv a b e c d k (M12.1 0 3) = z39 := (show zsmv a b e c d k (M12.1 0 3) = _ from hz.symm)
    have hb39 := zsmv_rng a b e c d k (M12.1 0 3)
    rw [e39] at hb39
    obtain ⟨M39, em39⟩ : ∃ Mq, zw_setMove M12 a b e c d k (M12.1 0 3) = Mq := ⟨_, rfl⟩
    have hP39 : zCP cI cP cS cZ cM o M39 g39 := by rw [← em39]; exact zr_setMove hP12 hg
    have hC39 : zCI M39 := by rw [← em39]; exact zi_setMove hC12
    have hV39 : zVE M39 M := zVE.tr (by rw [← em39]; exact zv_setMove) hV12
    have tv39_3 : M39.1 0 3 = M.1 0 3 := hV39.2 0 3 (by omega) (by omega)
    have tv39_4 : M39.1 0 4 = M.1 0 4 := hV39.2 0 4 (by omega) (by omega)
    have hF39 : zFr f g39 o (o + 681) := zFr.trans hF12 (fun q hq => by rw [hg, va_up_ne _ _ (by omega), va_up_ne _ _ (by omega), va_up_ne _ _ (by omega)])
    have hsm39 := zsmv_c (M := M12) (a := a) (b := b) (e := e) (c := c) (d := d) (k := k) (q := M12.1 0 3) (by omega)
    rw [em39] at hsm39
    have ts39_10 : M39.1 0 10 = M12.1 0 10 := by rw [← em39]; rfl
    have ts39_11 : M39.1 0 11 = M12.1 0 11 := by rw [← em39]; rfl
    have ts39_12 : M39.1 0 12 = M12.1 0 12 := by rw [← em39]; rfl
    refine z_if_ne (tgt := 47) CX dX11_moved_42 (by decide) (by constructor <;> omega) (fun c_42 => ?_) (fun c_42 => ?_)
    ·
      refine lv_aload_n hX0 hB0 dX11_moved_47 rfl (lv_at hl 0 rfl) ?_
      refine z_get (Cn := RX11) (T := TX11) (N := 13) CX hW (v := .ref (o + 634)) (show g39 o = _ from hP39.c0) rfl (fun w h => List.mem_cons_of_mem _ (List.mem_append_left _ (List.mem_append_left _ (List.mem_append_left _ (List.mem_append_left _ (List.mem_append_right _ h)))))) 9 (by decide) (List.mem_of_getElem? (i := 4) rfl) rfl rfl dX11_moved_48 ?_
      refine lv_aload_n hX0 hB0 dX11_moved_51 rfl (lv_at hl 0 rfl) ?_
      refine z_get (Cn := RX11) (T := TX11) (N := 13) CX hW (v := .ref (o + 606)) (show g39 o = _ from hP39.c0) rfl (fun w h => List.mem_cons_of_mem _ (List.mem_append_left _ (List.mem_append_left _ (List.mem_append_left _ (List.mem_append_left _ (List.mem_append_right _ h)))))) 3 (by decide) (List.mem_of_getElem? (i := 1) rfl) rfl rfl dX11_moved_52 ?_
      have hnx55 : zcan (M39.1 0 17) (M39.1 28) := by rw [hsm39.2.2.1]; exact hsm39.1
      have hny55 : zcan (M39.1 0 17) (M39.1 29) := by rw [hsm39.2.2.1]; exact hsm39.2.1
      have h17 := hsm39.2.2.1
      obtain ⟨sc55, ax55, ay55, az55, bx55, by55, bz55, PX55, PY55, RS55, hmx55⟩ := hP39.c11
      refine z_calli hW (va_runV (C := RX0) (As := [.ref (o + 606)]) (rest := []) CX.fix (c_whereTo l (o + 634) (M39.1 0 17) (M39.1 27) sc55 (M39.1 28) (M39.1 29) ax55 ay55 az55 bx55 by55 bz55 PX55 PY55 RS55 (o + 606) (M39.1 0 10) (M39.1 0 11) (M39.1 0 12) hmx55 (by omega) hnx55 hny55 hP39.c5 (by omega) (by omega) (by omega) (by omega)) (cwV 1 CX.fix.2.2.2.2 gX11_moved_X0_whereTo rfl rfl rfl (by decide +kernel) ⟨Nat.le_of_ble_eq_true rfl, Nat.le_of_ble_eq_true rfl⟩) (z_preV CX hW (r := (RX0, TX0, 10)) hP39.mkob rfl) rfl rfl hl.1 rfl (lv_room (Nat.le_of_ble_eq_true rfl)) dX11_moved_55 ⟨Nat.zero_le _, Nat.zero_le _⟩) (fun z55 g55 H locs hok hW => ?_)
      obtain ⟨hz, hg⟩ := hok
      have e55 : zwh (M39.1 28) (M39.1 29) (M39.1 0 17) (M39.1 0 10) (M39.1 0 11) (M39.1 0 12) = z55 := hz.symm
      rw [hg] at hW
      clear hg
      have hE : zc_moved M pt a b e c d k = (z55, M39) := by unfold zc_moved; exact zlet_e e12 (zlet_e em12 (zif_f c_15 (zlet_e e39 (zlet_e em39 (zif_f c_42 (zlet_e e55 rfl))))))
      rw [← hQ]
      exact z_iret (z := z55) CX hW (by rw [hE]; exact ⟨rfl, hP39, hC39, hF39, hV39, trivial⟩) rfl dX11_moved_58
    ·
      refine lv_iconst (v := zI (-1)) hX0 hB0 dX11_moved_45 rfl ?_
      have hE : zc_moved M pt a b e c d k = (-1, M39) := by unfold zc_moved; exact zlet_e e12 (zlet_e em12 (zif_f c_15 (zlet_e e39 (zlet_e em39 (zif_t c_42 rfl)))))
      rw [← hQ]
      exact z_iret (z := -1) CX hW (by rw [hE]; exact ⟨rfl, hP39, hC39, hF39, hV39, trivial⟩) rfl dX11_moved_46
noncomputable def zc_buildProduct (M : zCt) (u : Int) (v : Int) : Int × zCt := (if 0 ≤ u ∧ u < M.1 0 4 ∧ u < 6 then (if 0 ≤ v ∧ v < M.1 0 4 ∧ v < 6 then zlet (ztop (M.2.1 u.toNat)) (fun z9 => zlet (ztop (M.2.1 v.toNat)) (fun z13 => (if z9 + z13 ≤ 4 then zlet (zw_mset M (zprod (M.2.1 u.toNat) (M.2.1 v.toNat) (M.1 0 3))) (fun M39 => (1, M39)) else (0, M)))) else (0, M)) else (if 0 ≤ v ∧ v < M.1 0 4 ∧ v < 6 then (0, M) else (0, M)))
set_option maxRecDepth 100000 in
set_option maxHeartbeats 4000000 in
theorem zd_buildProduct (l : Launch) {D : va_G} {cI cJ cZ cP cS cM : ClassId} {L : List Nat} {sz : Nat} {f : Nat → va_E} (o : Nat) (M : zCt) (u : Int) (v : Int) (hP : zCP cI cP cS cZ cM o M f) (hC : zCI M) (hu : -2147483648 ≤ u ∧ u ≤ 2147483647) (hv : -2147483648 ≤ v ∧ v ≤ 2147483647) : zMi l yX11_buildProduct wsX11_buildProduct 2 55 D (zT cI cJ cZ cP cS cM) L sz f [.ref o, va_rf (zfind (o + 289) (M.1 0 4) u), va_rf (zfind (o + 289) (M.1 0 4) v)] (fun zv gv => zv = (zc_buildProduct M u v).1 ∧ zCP cI cP cS cZ cM o (zc_buildProduct M u v).2 gv ∧ zCI (zc_buildProduct M u v).2 ∧ zFr f gv o (o + 681) ∧ zVE (zc_buildProduct M u v).2 M ∧ (0 ≤ zv ∧ zv ≤ 1) ∧ (zv ≠ 0 → zcan (M.1 0 3) (((zc_buildProduct M u v).2).1 27))) := by
  by_cases cf_u : 0 ≤ u ∧ u < M.1 0 4 ∧ u < 6
  ·
    rw [zfind_p (a := o + 289) cf_u]
    by_cases cf_v : 0 ≤ v ∧ v < M.1 0 4 ∧ v < 6
    ·
      rw [zfind_p (a := o + 289) cf_v]
      refine zWalk.met (nL := 3) (ret := (some .boolean)) (cc := cX11_buildProduct) (by decide) rfl (Nat.le_of_ble_eq_true rfl) ?_
      intro pg en st mi ag bl mt cd ls CX hW hl
      have CX : zC pg st mi ag mt cd cX11_buildProduct 3 (some .boolean) RX11 wsX11_buildProduct := CX
      generalize hQ : MQ bl _ ag st 0 0 _ = Q
      have hX0 := CX.1
      have hB0 := CX.2.1
      have hl : lv_has ls 3 [(0, .ref o), (1, .ref (o + 289 + 3 + 2 * u.toNat)), (2, .ref (o + 289 + 3 + 2 * v.toNat))] := hl
      obtain ⟨H, eH⟩ : ∃ H, H = st.heap := ⟨_, rfl⟩
      obtain ⟨locs, eL⟩ : ∃ L : List Loc, L = [] := ⟨_, rfl⟩
      have hW : zW D (zT cI cJ cZ cP cS cM) L (zQ L sz) st f st.heap H locs := by rw [eH, eL]; exact hW
      suffices hgo : W pg l en ({ frames := 2, cells := 0, slots := 0, locals := 55 } : Room) st mi ag bl mt cd H locs 0 0 Q (F0 mi 0 ls []) by rw [eH, eL] at hgo; exact hgo
      clear eH eL
      have hpb := hC.p
      have hnb := hC.cn
      refine lv_aload_n hX0 hB0 dX11_buildProduct_0 rfl (lv_at hl 1 rfl) ?_
      refine lv_ifnull hX0 hB0 dX11_buildProduct_1 ?_
      refine lv_aload_n hX0 hB0 dX11_buildProduct_4 rfl (lv_at hl 2 rfl) ?_
      refine lv_ifnull hX0 hB0 dX11_buildProduct_5 ?_
      refine lv_aload_n hX0 hB0 dX11_buildProduct_8 rfl (lv_at hl 1 rfl) ?_
      refine z_calli hW (va_runV (C := RX2) (As := []) (rest := []) CX.fix (c_top l (o + 289 + 3 + 2 * u.toNat) (o + 289 + 3 + 2 * u.toNat + 1) (M.2.1 u.toNat) (hP.poly (k := u.toNat) (by omega)).1 (hP.poly (k := u.toNat) (by omega)).2 (hC.poly31 (k := u) (by omega) (by omega))) (cwV 0 CX.fix.2.2.2.2 gX11_buildProduct_X2_top rfl rfl rfl (by decide +kernel) ⟨Nat.le_of_ble_eq_true rfl, Nat.le_of_ble_eq_true rfl⟩) (z_preV CX hW (r := (RX2, TX2, 1)) (hP.poly (k := u.toNat) (by omega)).1 rfl) rfl rfl hl.1 rfl (lv_room (Nat.le_of_ble_eq_true rfl)) dX11_buildProduct_9 ⟨Nat.zero_le _, Nat.zero_le _⟩) (fun z9 g9 H locs hok hW => ?_)
      obtain ⟨hz, hg⟩ := hok
      have e9 : ztop (M.2.1 u.toNat) = z9 := hz.symm
      have htp9 := ztop_rng (M.2.1 u.toNat)
      rw [e9] at htp9
      rw [hg] at hW
      clear hg
      refine lv_aload_n hX0 hB0 dX11_buildProduct_12 rfl (lv_at hl 2 rfl) ?_
      refine z_calli hW (va_runV (C := RX2) (As := []) (rest := [.int (zI z9)]) CX.fix (c_top l (o + 289 + 3 + 2 * v.toNat) (o + 289 + 3 + 2 * v.toNat + 1) (M.2.1 v.toNat) (hP.poly (k := v.toNat) (by omega)).1 (hP.poly (k := v.toNat) (by omega)).2 (hC.poly31 (k := v) (by omega) (by omega))) (cwV 0 CX.fix.2.2.2.2 gX11_buildProduct_X2_top rfl rfl rfl (by decide +kernel) ⟨Nat.le_of_ble_eq_true rfl, Nat.le_of_ble_eq_true rfl⟩) (z_preV CX hW (r := (RX2, TX2, 1)) (hP.poly (k := v.toNat) (by omega)).1 rfl) rfl rfl hl.1 rfl (lv_room (Nat.le_of_ble_eq_true rfl)) dX11_buildProduct_13 ⟨Nat.zero_le _, Nat.zero_le _⟩) (fun z13 g13 H locs hok hW => ?_)
      obtain ⟨hz, hg⟩ := hok
      have e13 : ztop (M.2.1 v.toNat) = z13 := hz.symm
      have htp13 := ztop_rng (M.2.1 v.toNat)
      rw [e13] at htp13
      rw [hg] at hW
      clear hg
      refine z_iadd (z := z9 + z13) CX dX11_buildProduct_16 rfl ?_
      refine lv_iconst (v := zI 4) hX0 hB0 dX11_buildProduct_17 rfl ?_
      refine z_icmp_le (tgt := 23) CX dX11_buildProduct_18 (by decide) (by constructor <;> omega) (by constructor <;> omega) (fun c_18 => ?_) (fun c_18 => ?_)
      ·
        refine lv_aload_n hX0 hB0 dX11_buildProduct_23 rfl (lv_at hl 0 rfl) ?_
        refine z_get (Cn := RX11) (T := TX11) (N := 13) CX hW (v := .ref (o + 634)) (show f o = _ from hP.c0) rfl (fun w h => List.mem_cons_of_mem _ (List.mem_append_left _ (List.mem_append_left _ (List.mem_append_left _ (List.mem_append_right _ h))))) 9 (by decide) (List.mem_of_getElem? (i := 1) rfl) rfl rfl dX11_buildProduct_24 ?_
        obtain ⟨sc27, ax27, ay27, az27, bx27, by27, bz27, PX27, PY27, RS27, hmx27⟩ := hP.c11
        have hmk27 := hmx27.1
        refine z_get (Cn := RX0) (T := TX0) (N := 10) CX hW (v := .ref (o + 634 + 1)) hmk27 rfl (fun w h => List.mem_cons_of_mem _ (List.mem_append_left _ (List.mem_append_left _ (List.mem_append_right _ h)))) 0 (by decide) (List.mem_of_getElem? (i := 2) rfl) rfl rfl dX11_buildProduct_27 ?_
        refine lv_aload_n hX0 hB0 dX11_buildProduct_30 rfl (lv_at hl 1 rfl) ?_
        refine lv_aload_n hX0 hB0 dX11_buildProduct_31 rfl (lv_at hl 2 rfl) ?_
        refine lv_aload_n hX0 hB0 dX11_buildProduct_32 rfl (lv_at hl 0 rfl) ?_
        refine z_get (Cn := RX11) (T := TX11) (N := 13) CX hW (v := .ref (o + 289)) (show f o = _ from hP.c0) rfl (fun w h => List.mem_cons_of_mem _ (List.mem_append_left _ (List.mem_append_left _ (List.mem_append_left _ (List.mem_append_right _ h))))) 1 (by decide) (List.mem_of_getElem? (i := 3) rfl) rfl rfl dX11_buildProduct_33 ?_
        refine z_get (Cn := RX7) (T := TX7) (N := 4) CX hW (v := .int (zI (M.1 0 3))) hP.c3.1 rfl (fun w h => List.mem_cons_of_mem _ (List.mem_append_left _ (List.mem_append_right _ h))) 0 (by decide) (List.mem_of_getElem? (i := 4) rfl) rfl rfl dX11_buildProduct_36 ?_
        have hr36 := hC.p
        refine z_callv hW (va_runV (C := RX2) (As := [.ref (o + 289 + 3 + 2 * u.toNat), .ref (o + 289 + 3 + 2 * v.toNat), .int (zI (M.1 0 3))]) (rest := []) CX.fix (c_product l (o + 634 + 1) (o + 634 + 2) (M.1 27) (o + 289 + 3 + 2 * u.toNat) (o + 289 + 3 + 2 * u.toNat + 1) (M.2.1 u.toNat) (o + 289 + 3 + 2 * v.toNat) (o + 289 + 3 + 2 * v.toNat + 1) (M.2.1 v.toNat) (M.1 0 3) hP.made.1 hP.made.2 (hP.poly (k := u.toNat) (by omega)).1 (hP.poly (k := u.toNat) (by omega)).2 (hP.poly (k := v.toNat) (by omega)).1 (hP.poly (k := v.toNat) (by omega)).2 (by omega) (by omega) (hC.poly31 (k := u) (by omega) (by omega)) (hC.poly31 (k := v) (by omega) (by omega)) (by omega)) (cwV 3 CX.fix.2.2.2.2 gX11_buildProduct_X2_product rfl rfl rfl (by decide +kernel) ⟨Nat.le_of_ble_eq_true rfl, Nat.le_of_ble_eq_true rfl⟩) (z_preV CX hW (r := (RX2, TX2, 1)) hP.made.1 rfl) rfl rfl hl.1 rfl (lv_room (Nat.le_of_ble_eq_true rfl)) dX11_buildProduct_39 ⟨Nat.zero_le _, Nat.zero_le _⟩) (fun g39 H locs hok hW => ?_)
        have hg := hok
        obtain ⟨M39, em39⟩ : ∃ Mq, zw_mset M (zprod (M.2.1 u.toNat) (M.2.1 v.toNat) (M.1 0 3)) = Mq := ⟨_, rfl⟩
        have hP39 : zCP cI cP cS cZ cM o M39 g39 := by rw [← em39]; exact zr_mset hP hg
        have hC39 : zCI M39 := by rw [← em39]; exact zi_mset hC (zcan_le (zprod_can (by omega)) (by omega : (M.1 0 3) ≤ 31))
        have hV39 : zVE M39 M := zVE.tr (by rw [← em39]; exact zv_mset) zVE.rf
        have tv39_3 : M39.1 0 3 = M.1 0 3 := hV39.2 0 3 (by omega) (by omega)
        have tv39_4 : M39.1 0 4 = M.1 0 4 := hV39.2 0 4 (by omega) (by omega)
        have hF39 : zFr f g39 o (o + 681) := zFr.trans zFr.refl (fun q hq => by rw [hg]; exact va_up_ne _ _ (by omega))
        have hmd39 : M39.1 27 = zprod (M.2.1 u.toNat) (M.2.1 v.toNat) (M.1 0 3) := by rw [← em39]; rfl
        refine lv_iconst (v := zI 1) hX0 hB0 dX11_buildProduct_42 rfl ?_
        have hE : zc_buildProduct M u v = (1, M39) := by unfold zc_buildProduct; exact zif_t cf_u (zif_t cf_v (zlet_e e9 (zlet_e e13 (zif_t c_18 (zlet_e em39 rfl)))))
        rw [← hQ]
        exact z_iret (z := 1) CX hW (by rw [hE]; exact ⟨rfl, hP39, hC39, hF39, hV39, (show (0 ≤ (1 : Int) ∧ (1 : Int) ≤ 1) ∧ ((1 : Int) ≠ 0 → zcan (M.1 0 3) (M39.1 27)) from by exact ⟨by omega, fun _ => by rw [hmd39]; exact zprod_can (by omega)⟩)⟩) rfl dX11_buildProduct_43
      ·
        have d_18 : ¬ z9 + z13 ≤ 4 := by omega
        refine lv_iconst (v := zI 0) hX0 hB0 dX11_buildProduct_21 rfl ?_
        have hE : zc_buildProduct M u v = (0, M) := by unfold zc_buildProduct; exact zif_t cf_u (zif_t cf_v (zlet_e e9 (zlet_e e13 (zif_f d_18 rfl))))
        rw [← hQ]
        exact z_iret (z := 0) CX hW (by rw [hE]; exact ⟨rfl, hP, hC, zFr.refl, zVE.rf, (show (0 ≤ (0 : Int) ∧ (0 : Int) ≤ 1) ∧ ((0 : Int) ≠ 0 → zcan (M.1 0 3) (M.1 27)) from by exact ⟨by omega, fun h => absurd rfl h⟩)⟩) rfl dX11_buildProduct_22
    ·
      rw [zfind_n (a := o + 289) cf_v]
      refine zWalk.met (nL := 3) (ret := (some .boolean)) (cc := cX11_buildProduct) (by decide) rfl (Nat.le_of_ble_eq_true rfl) ?_
      intro pg en st mi ag bl mt cd ls CX hW hl
      have CX : zC pg st mi ag mt cd cX11_buildProduct 3 (some .boolean) RX11 wsX11_buildProduct := CX
      generalize hQ : MQ bl _ ag st 0 0 _ = Q
      have hX0 := CX.1
      have hB0 := CX.2.1
      have hl : lv_has ls 3 [(0, .ref o), (1, .ref (o + 289 + 3 + 2 * u.toNat)), (2, .null)] := hl
      obtain ⟨H, eH⟩ : ∃ H, H = st.heap := ⟨_, rfl⟩
      obtain ⟨locs, eL⟩ : ∃ L : List Loc, L = [] := ⟨_, rfl⟩
      have hW : zW D (zT cI cJ cZ cP cS cM) L (zQ L sz) st f st.heap H locs := by rw [eH, eL]; exact hW
      suffices hgo : W pg l en ({ frames := 2, cells := 0, slots := 0, locals := 55 } : Room) st mi ag bl mt cd H locs 0 0 Q (F0 mi 0 ls []) by rw [eH, eL] at hgo; exact hgo
      clear eH eL
      have hpb := hC.p
      have hnb := hC.cn
      refine lv_aload_n hX0 hB0 dX11_buildProduct_0 rfl (lv_at hl 1 rfl) ?_
      refine lv_ifnull hX0 hB0 dX11_buildProduct_1 ?_
      refine lv_aload_nN hX0 hB0 dX11_buildProduct_4 rfl (lv_at hl 2 rfl) ?_
      refine lv_ifnullN (tgt := 21) hX0 hB0 dX11_buildProduct_5 (by decide) ?_
      refine lv_iconst (v := zI 0) hX0 hB0 dX11_buildProduct_21 rfl ?_
      have hE : zc_buildProduct M u v = (0, M) := by unfold zc_buildProduct; exact zif_t cf_u (zif_f cf_v rfl)
      rw [← hQ]
      exact z_iret (z := 0) CX hW (by rw [hE]; exact ⟨rfl, hP, hC, zFr.refl, zVE.rf, (show (0 ≤ (0 : Int) ∧ (0 : Int) ≤ 1) ∧ ((0 : Int) ≠ 0 → zcan (M.1 0 3) (M.1 27)) from by exact ⟨by omega, fun h => absurd rfl h⟩)⟩) rfl dX11_buildProduct_22
  ·
    rw [zfind_n (a := o + 289) cf_u]
    by_cases cf_v : 0 ≤ v ∧ v < M.1 0 4 ∧ v < 6
    ·
      rw [zfind_p (a := o + 289) cf_v]
      refine zWalk.met (nL := 3) (ret := (some .boolean)) (cc := cX11_buildProduct) (by decide) rfl (Nat.le_of_ble_eq_true rfl) ?_
      intro pg en st mi ag bl mt cd ls CX hW hl
      have CX : zC pg st mi ag mt cd cX11_buildProduct 3 (some .boolean) RX11 wsX11_buildProduct := CX
      generalize hQ : MQ bl _ ag st 0 0 _ = Q
      have hX0 := CX.1
      have hB0 := CX.2.1
      have hl : lv_has ls 3 [(0, .ref o), (1, .null), (2, .ref (o + 289 + 3 + 2 * v.toNat))] := hl
      obtain ⟨H, eH⟩ : ∃ H, H = st.heap := ⟨_, rfl⟩
      obtain ⟨locs, eL⟩ : ∃ L : List Loc, L = [] := ⟨_, rfl⟩
      have hW : zW D (zT cI cJ cZ cP cS cM) L (zQ L sz) st f st.heap H locs := by rw [eH, eL]; exact hW
      suffices hgo : W pg l en ({ frames := 2, cells := 0, slots := 0, locals := 55 } : Room) st mi ag bl mt cd H locs 0 0 Q (F0 mi 0 ls []) by rw [eH, eL] at hgo; exact hgo
      clear eH eL
      have hpb := hC.p
      have hnb := hC.cn
      refine lv_aload_nN hX0 hB0 dX11_buildProduct_0 rfl (lv_at hl 1 rfl) ?_
      refine lv_ifnullN (tgt := 21) hX0 hB0 dX11_buildProduct_1 (by decide) ?_
      refine lv_iconst (v := zI 0) hX0 hB0 dX11_buildProduct_21 rfl ?_
      have hE : zc_buildProduct M u v = (0, M) := by unfold zc_buildProduct; exact zif_f cf_u (zif_t cf_v rfl)
      rw [← hQ]
      exact z_iret (z := 0) CX hW (by rw [hE]; exact ⟨rfl, hP, hC, zFr.refl, zVE.rf, (show (0 ≤ (0 : Int) ∧ (0 : Int) ≤ 1) ∧ ((0 : Int) ≠ 0 → zcan (M.1 0 3) (M.1 27)) from by exact ⟨by omega, fun h => absurd rfl h⟩)⟩) rfl dX11_buildProduct_22
    ·
      rw [zfind_n (a := o + 289) cf_v]
      refine zWalk.met (nL := 3) (ret := (some .boolean)) (cc := cX11_buildProduct) (by decide) rfl (Nat.le_of_ble_eq_true rfl) ?_
      intro pg en st mi ag bl mt cd ls CX hW hl
      have CX : zC pg st mi ag mt cd cX11_buildProduct 3 (some .boolean) RX11 wsX11_buildProduct := CX
      generalize hQ : MQ bl _ ag st 0 0 _ = Q
      have hX0 := CX.1
      have hB0 := CX.2.1
      have hl : lv_has ls 3 [(0, .ref o), (1, .null), (2, .null)] := hl
      obtain ⟨H, eH⟩ : ∃ H, H = st.heap := ⟨_, rfl⟩
      obtain ⟨locs, eL⟩ : ∃ L : List Loc, L = [] := ⟨_, rfl⟩
      have hW : zW D (zT cI cJ cZ cP cS cM) L (zQ L sz) st f st.heap H locs := by rw [eH, eL]; exact hW
      suffices hgo : W pg l en ({ frames := 2, cells := 0, slots := 0, locals := 55 } : Room) st mi ag bl mt cd H locs 0 0 Q (F0 mi 0 ls []) by rw [eH, eL] at hgo; exact hgo
      clear eH eL
      have hpb := hC.p
      have hnb := hC.cn
      refine lv_aload_nN hX0 hB0 dX11_buildProduct_0 rfl (lv_at hl 1 rfl) ?_
      refine lv_ifnullN (tgt := 21) hX0 hB0 dX11_buildProduct_1 (by decide) ?_
      refine lv_iconst (v := zI 0) hX0 hB0 dX11_buildProduct_21 rfl ?_
      have hE : zc_buildProduct M u v = (0, M) := by unfold zc_buildProduct; exact zif_f cf_u (zif_f cf_v rfl)
      rw [← hQ]
      exact z_iret (z := 0) CX hW (by rw [hE]; exact ⟨rfl, hP, hC, zFr.refl, zVE.rf, (show (0 ≤ (0 : Int) ∧ (0 : Int) ≤ 1) ∧ ((0 : Int) ≠ 0 → zcan (M.1 0 3) (M.1 27)) from by exact ⟨by omega, fun h => absurd rfl h⟩)⟩) rfl dX11_buildProduct_22
noncomputable def zc_buildMix (M : zCt) (u : Int) (v : Int) (t : Int) : Int × zCt := (if 0 ≤ u ∧ u < M.1 0 4 ∧ u < 6 then (if 0 ≤ v ∧ v < M.1 0 4 ∧ v < 6 then zlet (zw_mset M (M.2.1 u.toNat)) (fun M18 => zlet (t % (M18.1 0 3)) (fun z37 => zlet (zw_mset M18 (zaddS (M18.1 27) (M18.2.1 v.toNat) 0 0 z37 (M18.1 0 3))) (fun M47 => (1, M47)))) else (0, M)) else (if 0 ≤ v ∧ v < M.1 0 4 ∧ v < 6 then (0, M) else (0, M)))
set_option maxRecDepth 100000 in
set_option maxHeartbeats 4000000 in
theorem zd_buildMix (l : Launch) {D : va_G} {cI cJ cZ cP cS cM : ClassId} {L : List Nat} {sz : Nat} {f : Nat → va_E} (o : Nat) (M : zCt) (u : Int) (v : Int) (t : Int) (hP : zCP cI cP cS cZ cM o M f) (hC : zCI M) (hu : -2147483648 ≤ u ∧ u ≤ 2147483647) (hv : -2147483648 ≤ v ∧ v ≤ 2147483647) (ht : -2147483648 ≤ t ∧ t ≤ 2147483647) : zMi l yX11_buildMix wsX11_buildMix 2 53 D (zT cI cJ cZ cP cS cM) L sz f [.ref o, va_rf (zfind (o + 289) (M.1 0 4) u), va_rf (zfind (o + 289) (M.1 0 4) v), .int (zI t)] (fun zv gv => zv = (zc_buildMix M u v t).1 ∧ zCP cI cP cS cZ cM o (zc_buildMix M u v t).2 gv ∧ zCI (zc_buildMix M u v t).2 ∧ zFr f gv o (o + 681) ∧ zVE (zc_buildMix M u v t).2 M ∧ (0 ≤ zv ∧ zv ≤ 1) ∧ (zv ≠ 0 → zcan (M.1 0 3) (((zc_buildMix M u v t).2).1 27))) := by
  by_cases cf_u : 0 ≤ u ∧ u < M.1 0 4 ∧ u < 6
  ·
    rw [zfind_p (a := o + 289) cf_u]
    by_cases cf_v : 0 ≤ v ∧ v < M.1 0 4 ∧ v < 6
    ·
      rw [zfind_p (a := o + 289) cf_v]
      refine zWalk.met (nL := 4) (ret := (some .boolean)) (cc := cX11_buildMix) (by decide) rfl (Nat.le_of_ble_eq_true rfl) ?_
      intro pg en st mi ag bl mt cd ls CX hW hl
      have CX : zC pg st mi ag mt cd cX11_buildMix 4 (some .boolean) RX11 wsX11_buildMix := CX
      generalize hQ : MQ bl _ ag st 0 0 _ = Q
      have hX0 := CX.1
      have hB0 := CX.2.1
      have hl : lv_has ls 4 [(0, .ref o), (1, .ref (o + 289 + 3 + 2 * u.toNat)), (2, .ref (o + 289 + 3 + 2 * v.toNat)), (3, .int (zI t))] := hl
      obtain ⟨H, eH⟩ : ∃ H, H = st.heap := ⟨_, rfl⟩
      obtain ⟨locs, eL⟩ : ∃ L : List Loc, L = [] := ⟨_, rfl⟩
      have hW : zW D (zT cI cJ cZ cP cS cM) L (zQ L sz) st f st.heap H locs := by rw [eH, eL]; exact hW
      suffices hgo : W pg l en ({ frames := 2, cells := 0, slots := 0, locals := 53 } : Room) st mi ag bl mt cd H locs 0 0 Q (F0 mi 0 ls []) by rw [eH, eL] at hgo; exact hgo
      clear eH eL
      have hpb := hC.p
      have hnb := hC.cn
      refine lv_aload_n hX0 hB0 dX11_buildMix_0 rfl (lv_at hl 1 rfl) ?_
      refine lv_ifnull hX0 hB0 dX11_buildMix_1 ?_
      refine lv_aload_n hX0 hB0 dX11_buildMix_4 rfl (lv_at hl 2 rfl) ?_
      refine lv_ifnonnull (tgt := 10) hX0 hB0 dX11_buildMix_5 (by decide) ?_
      refine lv_aload_n hX0 hB0 dX11_buildMix_10 rfl (lv_at hl 0 rfl) ?_
      refine z_get (Cn := RX11) (T := TX11) (N := 13) CX hW (v := .ref (o + 634)) (show f o = _ from hP.c0) rfl (fun w h => List.mem_cons_of_mem _ (List.mem_append_left _ (List.mem_append_left _ (List.mem_append_left _ (List.mem_append_right _ h))))) 9 (by decide) (List.mem_of_getElem? (i := 1) rfl) rfl rfl dX11_buildMix_11 ?_
      obtain ⟨sc14, ax14, ay14, az14, bx14, by14, bz14, PX14, PY14, RS14, hmx14⟩ := hP.c11
      have hmk14 := hmx14.1
      refine z_get (Cn := RX0) (T := TX0) (N := 10) CX hW (v := .ref (o + 634 + 1)) hmk14 rfl (fun w h => List.mem_cons_of_mem _ (List.mem_append_left _ (List.mem_append_left _ (List.mem_append_right _ h)))) 0 (by decide) (List.mem_of_getElem? (i := 2) rfl) rfl rfl dX11_buildMix_14 ?_
      refine lv_aload_n hX0 hB0 dX11_buildMix_17 rfl (lv_at hl 1 rfl) ?_
      refine z_callv hW (va_runV (C := RX2) (As := [.ref (o + 289 + 3 + 2 * u.toNat)]) (rest := []) CX.fix (c_copy l (o + 634 + 1) (o + 634 + 2) (M.1 27) (o + 289 + 3 + 2 * u.toNat) (o + 289 + 3 + 2 * u.toNat + 1) (M.2.1 u.toNat) hP.made.1 hP.made.2 (hP.poly (k := u.toNat) (by omega)).1 (hP.poly (k := u.toNat) (by omega)).2) (cwV 1 CX.fix.2.2.2.2 gX11_buildMix_X2_copy rfl rfl rfl (by decide +kernel) ⟨Nat.le_of_ble_eq_true rfl, Nat.le_of_ble_eq_true rfl⟩) (z_preV CX hW (r := (RX2, TX2, 1)) hP.made.1 rfl) rfl rfl hl.1 rfl (lv_room (Nat.le_of_ble_eq_true rfl)) dX11_buildMix_18 ⟨Nat.zero_le _, Nat.zero_le _⟩) (fun g18 H locs hok hW => ?_)
      have hg := hok
      obtain ⟨M18, em18⟩ : ∃ Mq, zw_mset M (M.2.1 u.toNat) = Mq := ⟨_, rfl⟩
      have hP18 : zCP cI cP cS cZ cM o M18 g18 := by rw [← em18]; exact zr_mset hP hg
      have hC18 : zCI M18 := by rw [← em18]; exact zi_mset hC (hC.poly31 (k := u) (by omega) (by omega))
      have hV18 : zVE M18 M := zVE.tr (by rw [← em18]; exact zv_mset) zVE.rf
      have tv18_3 : M18.1 0 3 = M.1 0 3 := hV18.2 0 3 (by omega) (by omega)
      have tv18_4 : M18.1 0 4 = M.1 0 4 := hV18.2 0 4 (by omega) (by omega)
      have hF18 : zFr f g18 o (o + 681) := zFr.trans zFr.refl (fun q hq => by rw [hg]; exact va_up_ne _ _ (by omega))
      have hmd18 : M18.1 27 = M.2.1 u.toNat := by rw [← em18]; rfl
      refine lv_aload_n hX0 hB0 dX11_buildMix_21 rfl (lv_at hl 0 rfl) ?_
      refine z_get (Cn := RX11) (T := TX11) (N := 13) CX hW (v := .ref (o + 634)) (show g18 o = _ from hP18.c0) rfl (fun w h => List.mem_cons_of_mem _ (List.mem_append_left _ (List.mem_append_left _ (List.mem_append_left _ (List.mem_append_right _ h))))) 9 (by decide) (List.mem_of_getElem? (i := 1) rfl) rfl rfl dX11_buildMix_22 ?_
      obtain ⟨sc25, ax25, ay25, az25, bx25, by25, bz25, PX25, PY25, RS25, hmx25⟩ := hP18.c11
      have hmk25 := hmx25.1
      refine z_get (Cn := RX0) (T := TX0) (N := 10) CX hW (v := .ref (o + 634 + 1)) hmk25 rfl (fun w h => List.mem_cons_of_mem _ (List.mem_append_left _ (List.mem_append_left _ (List.mem_append_right _ h)))) 0 (by decide) (List.mem_of_getElem? (i := 2) rfl) rfl rfl dX11_buildMix_25 ?_
      refine lv_aload_n hX0 hB0 dX11_buildMix_28 rfl (lv_at hl 2 rfl) ?_
      refine lv_iload_n hX0 hB0 dX11_buildMix_29 rfl (lv_at hl 3 rfl) ?_
      refine lv_aload_n hX0 hB0 dX11_buildMix_30 rfl (lv_at hl 0 rfl) ?_
      refine z_get (Cn := RX11) (T := TX11) (N := 13) CX hW (v := .ref (o + 289)) (show g18 o = _ from hP18.c0) rfl (fun w h => List.mem_cons_of_mem _ (List.mem_append_left _ (List.mem_append_left _ (List.mem_append_left _ (List.mem_append_right _ h))))) 1 (by decide) (List.mem_of_getElem? (i := 3) rfl) rfl rfl dX11_buildMix_31 ?_
      refine z_get (Cn := RX7) (T := TX7) (N := 4) CX hW (v := .int (zI (M18.1 0 3))) hP18.c3.1 rfl (fun w h => List.mem_cons_of_mem _ (List.mem_append_left _ (List.mem_append_right _ h))) 0 (by decide) (List.mem_of_getElem? (i := 4) rfl) rfl rfl dX11_buildMix_34 ?_
      have hr34 := hC18.p
      refine z_calli hW (va_runS (As := [.int (zI t), .int (zI (M18.1 0 3))]) (rest := [.ref (o + 289 + 3 + 2 * v.toNat), .ref (o + 634 + 1)]) CX.fix (c_mod l (f := g18) t (M18.1 0 3) (by constructor <;> omega) (by omega)) (va_cwS 2 CX.fix.2.2.2.2 gX11_buildMix_X11_mod rfl rfl rfl (by decide +kernel) ⟨Nat.le_of_ble_eq_true rfl, Nat.le_of_ble_eq_true rfl⟩) (z_preS CX hW) rfl rfl hl.1 rfl (lv_room (Nat.le_of_ble_eq_true rfl)) dX11_buildMix_37 ⟨Nat.zero_le _, Nat.zero_le _⟩) (fun z37 g37 H locs hok hW => ?_)
      obtain ⟨hz, hg⟩ := hok
      have e37 : t % (M18.1 0 3) = z37 := hz.symm
      have hmo37 := zmr t (p := (M18.1 0 3)) (by omega)
      rw [e37] at hmo37
      rw [hg] at hW
      clear hg
      refine lv_aload_n hX0 hB0 dX11_buildMix_40 rfl (lv_at hl 0 rfl) ?_
      refine z_get (Cn := RX11) (T := TX11) (N := 13) CX hW (v := .ref (o + 289)) (show g18 o = _ from hP18.c0) rfl (fun w h => List.mem_cons_of_mem _ (List.mem_append_left _ (List.mem_append_left _ (List.mem_append_left _ (List.mem_append_right _ h))))) 1 (by decide) (List.mem_of_getElem? (i := 3) rfl) rfl rfl dX11_buildMix_41 ?_
      refine z_get (Cn := RX7) (T := TX7) (N := 4) CX hW (v := .int (zI (M18.1 0 3))) hP18.c3.1 rfl (fun w h => List.mem_cons_of_mem _ (List.mem_append_left _ (List.mem_append_right _ h))) 0 (by decide) (List.mem_of_getElem? (i := 4) rfl) rfl rfl dX11_buildMix_44 ?_
      have hr44 := hC18.p
      refine z_callv hW (va_runV (C := RX2) (As := [.ref (o + 289 + 3 + 2 * v.toNat), .int (zI z37), .int (zI (M18.1 0 3))]) (rest := []) CX.fix (c_add l (o + 634 + 1) (o + 634 + 2) (M18.1 27) (o + 289 + 3 + 2 * v.toNat) (o + 289 + 3 + 2 * v.toNat + 1) (M18.2.1 v.toNat) z37 (M18.1 0 3) hP18.made.1 hP18.made.2 (hP18.poly (k := v.toNat) (by omega)).1 (hP18.poly (k := v.toNat) (by omega)).2 (by omega) hC18.md (hC18.poly31 (k := v) (by omega) (by omega)) (by omega) (by omega)) (cwV 3 CX.fix.2.2.2.2 gX11_buildMix_X2_add rfl rfl rfl (by decide +kernel) ⟨Nat.le_of_ble_eq_true rfl, Nat.le_of_ble_eq_true rfl⟩) (z_preV CX hW (r := (RX2, TX2, 1)) hP18.made.1 rfl) rfl rfl hl.1 rfl (lv_room (Nat.le_of_ble_eq_true rfl)) dX11_buildMix_47 ⟨Nat.zero_le _, Nat.zero_le _⟩) (fun g47 H locs hok hW => ?_)
      have hg := hok
      obtain ⟨M47, em47⟩ : ∃ Mq, zw_mset M18 (zaddS (M18.1 27) (M18.2.1 v.toNat) 0 0 z37 (M18.1 0 3)) = Mq := ⟨_, rfl⟩
      have hP47 : zCP cI cP cS cZ cM o M47 g47 := by rw [← em47]; exact zr_mset hP18 hg
      have hC47 : zCI M47 := by rw [← em47]; exact zi_mset hC18 (zaddS_can (by omega) (by omega) hC18.md)
      have hV47 : zVE M47 M := zVE.tr (by rw [← em47]; exact zv_mset) hV18
      have tv47_3 : M47.1 0 3 = M.1 0 3 := hV47.2 0 3 (by omega) (by omega)
      have tv47_4 : M47.1 0 4 = M.1 0 4 := hV47.2 0 4 (by omega) (by omega)
      have hF47 : zFr f g47 o (o + 681) := zFr.trans hF18 (fun q hq => by rw [hg]; exact va_up_ne _ _ (by omega))
      have hmd47 : M47.1 27 = zaddS (M18.1 27) (M18.2.1 v.toNat) 0 0 z37 (M18.1 0 3) := by rw [← em47]; rfl
      refine lv_iconst (v := zI 1) hX0 hB0 dX11_buildMix_50 rfl ?_
      have hE : zc_buildMix M u v t = (1, M47) := by unfold zc_buildMix; exact zif_t cf_u (zif_t cf_v (zlet_e em18 (zlet_e e37 (zlet_e em47 rfl))))
      rw [← hQ]
      exact z_iret (z := 1) CX hW (by rw [hE]; exact ⟨rfl, hP47, hC47, hF47, hV47, (show (0 ≤ (1 : Int) ∧ (1 : Int) ≤ 1) ∧ ((1 : Int) ≠ 0 → zcan (M.1 0 3) (M47.1 27)) from by exact ⟨by omega, fun _ => by rw [hmd47, hmd18, tv18_3]; exact zaddS_can (by omega) (Int.le_refl _) (hC.poly (by omega) (by omega))⟩)⟩) rfl dX11_buildMix_51
    ·
      rw [zfind_n (a := o + 289) cf_v]
      refine zWalk.met (nL := 4) (ret := (some .boolean)) (cc := cX11_buildMix) (by decide) rfl (Nat.le_of_ble_eq_true rfl) ?_
      intro pg en st mi ag bl mt cd ls CX hW hl
      have CX : zC pg st mi ag mt cd cX11_buildMix 4 (some .boolean) RX11 wsX11_buildMix := CX
      generalize hQ : MQ bl _ ag st 0 0 _ = Q
      have hX0 := CX.1
      have hB0 := CX.2.1
      have hl : lv_has ls 4 [(0, .ref o), (1, .ref (o + 289 + 3 + 2 * u.toNat)), (2, .null), (3, .int (zI t))] := hl
      obtain ⟨H, eH⟩ : ∃ H, H = st.heap := ⟨_, rfl⟩
      obtain ⟨locs, eL⟩ : ∃ L : List Loc, L = [] := ⟨_, rfl⟩
      have hW : zW D (zT cI cJ cZ cP cS cM) L (zQ L sz) st f st.heap H locs := by rw [eH, eL]; exact hW
      suffices hgo : W pg l en ({ frames := 2, cells := 0, slots := 0, locals := 53 } : Room) st mi ag bl mt cd H locs 0 0 Q (F0 mi 0 ls []) by rw [eH, eL] at hgo; exact hgo
      clear eH eL
      have hpb := hC.p
      have hnb := hC.cn
      refine lv_aload_n hX0 hB0 dX11_buildMix_0 rfl (lv_at hl 1 rfl) ?_
      refine lv_ifnull hX0 hB0 dX11_buildMix_1 ?_
      refine lv_aload_nN hX0 hB0 dX11_buildMix_4 rfl (lv_at hl 2 rfl) ?_
      refine lv_ifnonnullN hX0 hB0 dX11_buildMix_5 ?_
      refine lv_iconst (v := zI 0) hX0 hB0 dX11_buildMix_8 rfl ?_
      have hE : zc_buildMix M u v t = (0, M) := by unfold zc_buildMix; exact zif_t cf_u (zif_f cf_v rfl)
      rw [← hQ]
      exact z_iret (z := 0) CX hW (by rw [hE]; exact ⟨rfl, hP, hC, zFr.refl, zVE.rf, (show (0 ≤ (0 : Int) ∧ (0 : Int) ≤ 1) ∧ ((0 : Int) ≠ 0 → zcan (M.1 0 3) (M.1 27)) from by exact ⟨by omega, fun h => absurd rfl h⟩)⟩) rfl dX11_buildMix_9
  ·
    rw [zfind_n (a := o + 289) cf_u]
    by_cases cf_v : 0 ≤ v ∧ v < M.1 0 4 ∧ v < 6
    ·
      rw [zfind_p (a := o + 289) cf_v]
      refine zWalk.met (nL := 4) (ret := (some .boolean)) (cc := cX11_buildMix) (by decide) rfl (Nat.le_of_ble_eq_true rfl) ?_
      intro pg en st mi ag bl mt cd ls CX hW hl
      have CX : zC pg st mi ag mt cd cX11_buildMix 4 (some .boolean) RX11 wsX11_buildMix := CX
      generalize hQ : MQ bl _ ag st 0 0 _ = Q
      have hX0 := CX.1
      have hB0 := CX.2.1
      have hl : lv_has ls 4 [(0, .ref o), (1, .null), (2, .ref (o + 289 + 3 + 2 * v.toNat)), (3, .int (zI t))] := hl
      obtain ⟨H, eH⟩ : ∃ H, H = st.heap := ⟨_, rfl⟩
      obtain ⟨locs, eL⟩ : ∃ L : List Loc, L = [] := ⟨_, rfl⟩
      have hW : zW D (zT cI cJ cZ cP cS cM) L (zQ L sz) st f st.heap H locs := by rw [eH, eL]; exact hW
      suffices hgo : W pg l en ({ frames := 2, cells := 0, slots := 0, locals := 53 } : Room) st mi ag bl mt cd H locs 0 0 Q (F0 mi 0 ls []) by rw [eH, eL] at hgo; exact hgo
      clear eH eL
      have hpb := hC.p
      have hnb := hC.cn
      refine lv_aload_nN hX0 hB0 dX11_buildMix_0 rfl (lv_at hl 1 rfl) ?_
      refine lv_ifnullN (tgt := 8) hX0 hB0 dX11_buildMix_1 (by decide) ?_
      refine lv_iconst (v := zI 0) hX0 hB0 dX11_buildMix_8 rfl ?_
      have hE : zc_buildMix M u v t = (0, M) := by unfold zc_buildMix; exact zif_f cf_u (zif_t cf_v rfl)
      rw [← hQ]
      exact z_iret (z := 0) CX hW (by rw [hE]; exact ⟨rfl, hP, hC, zFr.refl, zVE.rf, (show (0 ≤ (0 : Int) ∧ (0 : Int) ≤ 1) ∧ ((0 : Int) ≠ 0 → zcan (M.1 0 3) (M.1 27)) from by exact ⟨by omega, fun h => absurd rfl h⟩)⟩) rfl dX11_buildMix_9
    ·
      rw [zfind_n (a := o + 289) cf_v]
      refine zWalk.met (nL := 4) (ret := (some .boolean)) (cc := cX11_buildMix) (by decide) rfl (Nat.le_of_ble_eq_true rfl) ?_
      intro pg en st mi ag bl mt cd ls CX hW hl
      have CX : zC pg st mi ag mt cd cX11_buildMix 4 (some .boolean) RX11 wsX11_buildMix := CX
      generalize hQ : MQ bl _ ag st 0 0 _ = Q
      have hX0 := CX.1
      have hB0 := CX.2.1
      have hl : lv_has ls 4 [(0, .ref o), (1, .null), (2, .null), (3, .int (zI t))] := hl
      obtain ⟨H, eH⟩ : ∃ H, H = st.heap := ⟨_, rfl⟩
      obtain ⟨locs, eL⟩ : ∃ L : List Loc, L = [] := ⟨_, rfl⟩
      have hW : zW D (zT cI cJ cZ cP cS cM) L (zQ L sz) st f st.heap H locs := by rw [eH, eL]; exact hW
      suffices hgo : W pg l en ({ frames := 2, cells := 0, slots := 0, locals := 53 } : Room) st mi ag bl mt cd H locs 0 0 Q (F0 mi 0 ls []) by rw [eH, eL] at hgo; exact hgo
      clear eH eL
      have hpb := hC.p
      have hnb := hC.cn
      refine lv_aload_nN hX0 hB0 dX11_buildMix_0 rfl (lv_at hl 1 rfl) ?_
      refine lv_ifnullN (tgt := 8) hX0 hB0 dX11_buildMix_1 (by decide) ?_
      refine lv_iconst (v := zI 0) hX0 hB0 dX11_buildMix_8 rfl ?_
      have hE : zc_buildMix M u v t = (0, M) := by unfold zc_buildMix; exact zif_f cf_u (zif_f cf_v rfl)
      rw [← hQ]
      exact z_iret (z := 0) CX hW (by rw [hE]; exact ⟨rfl, hP, hC, zFr.refl, zVE.rf, (show (0 ≤ (0 : Int) ∧ (0 : Int) ≤ 1) ∧ ((0 : Int) ≠ 0 → zcan (M.1 0 3) (M.1 27)) from by exact ⟨by omega, fun h => absurd rfl h⟩)⟩) rfl dX11_buildMix_9
noncomputable def zc_buildCommon (M : zCt) (u : Int) (v : Int) : Int × zCt := (if 0 ≤ u ∧ u < M.1 0 4 ∧ u < 6 then (if 0 ≤ v ∧ v < M.1 0 4 ∧ v < 6 then zlet (zw_common M (M.2.1 u.toNat) (M.2.1 v.toNat) (M.1 0 3)) (fun M30 => zlet (zw_mset M30 (M30.1 24)) (fun M33 => (1, M33))) else (0, M)) else (if 0 ≤ v ∧ v < M.1 0 4 ∧ v < 6 then (0, M) else (0, M)))
set_option maxRecDepth 100000 in
set_option maxHeartbeats 4000000 in
theorem zd_buildCommon (l : Launch) {D : va_G} {cI cJ cZ cP cS cM : ClassId} {L : List Nat} {sz : Nat} {f : Nat → va_E} (o : Nat) (M : zCt) (u : Int) (v : Int) (hP : zCP cI cP cS cZ cM o M f) (hC : zCI M) (hu : -2147483648 ≤ u ∧ u ≤ 2147483647) (hv : -2147483648 ≤ v ∧ v ≤ 2147483647) : zMi l yX11_buildCommon wsX11_buildCommon 5 122 D (zT cI cJ cZ cP cS cM) L sz f [.ref o, va_rf (zfind (o + 289) (M.1 0 4) u), va_rf (zfind (o + 289) (M.1 0 4) v)] (fun zv gv => zv = (zc_buildCommon M u v).1 ∧ zCP cI cP cS cZ cM o (zc_buildCommon M u v).2 gv ∧ zCI (zc_buildCommon M u v).2 ∧ zFr f gv o (o + 681) ∧ zVE (zc_buildCommon M u v).2 M ∧ (0 ≤ zv ∧ zv ≤ 1) ∧ (zv ≠ 0 → zcan (M.1 0 3) (((zc_buildCommon M u v).2).1 27))) := by
  by_cases cf_u : 0 ≤ u ∧ u < M.1 0 4 ∧ u < 6
  ·
    rw [zfind_p (a := o + 289) cf_u]
    by_cases cf_v : 0 ≤ v ∧ v < M.1 0 4 ∧ v < 6
    ·
      rw [zfind_p (a := o + 289) cf_v]
      refine zWalk.met (nL := 3) (ret := (some .boolean)) (cc := cX11_buildCommon) (by decide) rfl (Nat.le_of_ble_eq_true rfl) ?_
      intro pg en st mi ag bl mt cd ls CX hW hl
      have CX : zC pg st mi ag mt cd cX11_buildCommon 3 (some .boolean) RX11 wsX11_buildCommon := CX
      generalize hQ : MQ bl _ ag st 0 0 _ = Q
      have hX0 := CX.1
      have hB0 := CX.2.1
      have hl : lv_has ls 3 [(0, .ref o), (1, .ref (o + 289 + 3 + 2 * u.toNat)), (2, .ref (o + 289 + 3 + 2 * v.toNat))] := hl
      obtain ⟨H, eH⟩ : ∃ H, H = st.heap := ⟨_, rfl⟩
      obtain ⟨locs, eL⟩ : ∃ L : List Loc, L = [] := ⟨_, rfl⟩
      have hW : zW D (zT cI cJ cZ cP cS cM) L (zQ L sz) st f st.heap H locs := by rw [eH, eL]; exact hW
      suffices hgo : W pg l en ({ frames := 5, cells := 0, slots := 0, locals := 122 } : Room) st mi ag bl mt cd H locs 0 0 Q (F0 mi 0 ls []) by rw [eH, eL] at hgo; exact hgo
      clear eH eL
      have hpb := hC.p
      have hnb := hC.cn
      refine lv_aload_n hX0 hB0 dX11_buildCommon_0 rfl (lv_at hl 1 rfl) ?_
      refine lv_ifnull hX0 hB0 dX11_buildCommon_1 ?_
      refine lv_aload_n hX0 hB0 dX11_buildCommon_4 rfl (lv_at hl 2 rfl) ?_
      refine lv_ifnonnull (tgt := 10) hX0 hB0 dX11_buildCommon_5 (by decide) ?_
      refine lv_aload_n hX0 hB0 dX11_buildCommon_10 rfl (lv_at hl 0 rfl) ?_
      refine z_get (Cn := RX11) (T := TX11) (N := 13) CX hW (v := .ref (o + 634)) (show f o = _ from hP.c0) rfl (fun w h => List.mem_cons_of_mem _ (List.mem_append_left _ (List.mem_append_left _ (List.mem_append_left _ (List.mem_append_left _ (List.mem_append_left _ (List.mem_append_right _ h))))))) 9 (by decide) (List.mem_of_getElem? (i := 1) rfl) rfl rfl dX11_buildCommon_11 ?_
      obtain ⟨sc14, ax14, ay14, az14, bx14, by14, bz14, PX14, PY14, RS14, hmx14⟩ := hP.c11
      have hmk14 := hmx14.1
      refine z_get (Cn := RX0) (T := TX0) (N := 10) CX hW (v := .ref (o + 634 + 1)) hmk14 rfl (fun w h => List.mem_cons_of_mem _ (List.mem_append_left _ (List.mem_append_left _ (List.mem_append_left _ (List.mem_append_left _ (List.mem_append_right _ h)))))) 0 (by decide) (List.mem_of_getElem? (i := 2) rfl) rfl rfl dX11_buildCommon_14 ?_
      refine lv_aload_n hX0 hB0 dX11_buildCommon_17 rfl (lv_at hl 0 rfl) ?_
      refine z_get (Cn := RX11) (T := TX11) (N := 13) CX hW (v := .ref (o + 615)) (show f o = _ from hP.c0) rfl (fun w h => List.mem_cons_of_mem _ (List.mem_append_left _ (List.mem_append_left _ (List.mem_append_left _ (List.mem_append_left _ (List.mem_append_left _ (List.mem_append_right _ h))))))) 6 (by decide) (List.mem_of_getElem? (i := 3) rfl) rfl rfl dX11_buildCommon_18 ?_
      refine lv_aload_n hX0 hB0 dX11_buildCommon_21 rfl (lv_at hl 1 rfl) ?_
      refine lv_aload_n hX0 hB0 dX11_buildCommon_22 rfl (lv_at hl 2 rfl) ?_
      refine lv_aload_n hX0 hB0 dX11_buildCommon_23 rfl (lv_at hl 0 rfl) ?_
      refine z_get (Cn := RX11) (T := TX11) (N := 13) CX hW (v := .ref (o + 289)) (show f o = _ from hP.c0) rfl (fun w h => List.mem_cons_of_mem _ (List.mem_append_left _ (List.mem_append_left _ (List.mem_append_left _ (List.mem_append_left _ (List.mem_append_left _ (List.mem_append_right _ h))))))) 1 (by decide) (List.mem_of_getElem? (i := 4) rfl) rfl rfl dX11_buildCommon_24 ?_
      refine z_get (Cn := RX7) (T := TX7) (N := 4) CX hW (v := .int (zI (M.1 0 3))) hP.c3.1 rfl (fun w h => List.mem_cons_of_mem _ (List.mem_append_left _ (List.mem_append_left _ (List.mem_append_left _ (List.mem_append_right _ h))))) 0 (by decide) (List.mem_of_getElem? (i := 5) rfl) rfl rfl dX11_buildCommon_27 ?_
      have hr27 := hC.p
      obtain ⟨cc30, cr30, ln30, hsx30⟩ := hP.c8
      obtain ⟨w30, lim30, pq30, R30, K30, hk30, hR30⟩ := hP.c1
      refine z_callr hW (va_runV (C := RX6) (As := [.ref (o + 289 + 3 + 2 * u.toNat), .ref (o + 289 + 3 + 2 * v.toNat), .int (zI (M.1 0 3))]) (rest := [.ref (o + 634 + 1)]) CX.fix (c_common l (o + 615) (o + 1) (M.1 24) cc30 cr30 ln30 (o + 289 + 3 + 2 * u.toNat) (o + 289 + 3 + 2 * u.toNat + 1) (M.2.1 u.toNat) (o + 289 + 3 + 2 * v.toNat) (o + 289 + 3 + 2 * v.toNat + 1) (M.2.1 v.toNat) w30 lim30 pq30 R30 K30 (M.1 0 3) hsx30 (hP.poly (k := u.toNat) (by omega)).1 (hP.poly (k := u.toNat) (by omega)).2 (hC.poly (k := u) (by omega) (by omega)) (by omega) (by omega) (hP.poly (k := v.toNat) (by omega)).1 (hP.poly (k := v.toNat) (by omega)).2 (hC.poly (k := v) (by omega) (by omega)) (by omega) (by omega) (by omega) (by omega) hk30 hR30 (by omega) (by omega) (by omega) (by omega)) (cwV 3 CX.fix.2.2.2.2 gX11_buildCommon_X6_find rfl rfl rfl (by decide +kernel) ⟨Nat.le_of_ble_eq_true rfl, Nat.le_of_ble_eq_true rfl⟩) (z_preV CX hW (r := (RX6, TX6, 5)) hP.shob rfl) rfl rfl hl.1 rfl (lv_room (Nat.le_of_ble_eq_true rfl)) dX11_buildCommon_30 ⟨Nat.zero_le _, Nat.zero_le _⟩) (fun z30 g30 H locs hok hW => ?_)
      obtain ⟨hz, hs0, hx⟩ := hok
      have hz : va_rf z30 = .ref (o + 615 + 1) := by rw [hz]; rfl
      rw [hz]
      obtain ⟨M30, em30⟩ : ∃ Mq, zw_common M (M.2.1 u.toNat) (M.2.1 v.toNat) (M.1 0 3) = Mq := ⟨_, rfl⟩
      have hP30 : zCP cI cP cS cZ cM o M30 g30 := by rw [← em30]; exact zr_common hP hs0 hx
      have hC30 : zCI M30 := by rw [← em30]; exact zi_common hC (by omega)
      have hV30 : zVE M30 M := zVE.tr (by rw [← em30]; exact zv_common) zVE.rf
      have tv30_3 : M30.1 0 3 = M.1 0 3 := hV30.2 0 3 (by omega) (by omega)
      have tv30_4 : M30.1 0 4 = M.1 0 4 := hV30.2 0 4 (by omega) (by omega)
      have hF30 : zFr f g30 o (o + 681) := zFr.trans zFr.refl (fun q hq => hs0 q (by omega))
      have hcc30 : zcan (M.1 0 3) (M30.1 24) := by rw [← em30]; exact zcom_can (by omega)
      refine z_callv hW (va_runV (C := RX2) (As := [.ref (o + 615 + 1)]) (rest := []) CX.fix (c_copy l (o + 634 + 1) (o + 634 + 2) (M30.1 27) (o + 615 + 1) (o + 615 + 2) (M30.1 24) hP30.made.1 hP30.made.2 hP30.part.1 hP30.part.2) (cwV 1 CX.fix.2.2.2.2 gX11_buildCommon_X2_copy rfl rfl rfl (by decide +kernel) ⟨Nat.le_of_ble_eq_true rfl, Nat.le_of_ble_eq_true rfl⟩) (z_preV CX hW (r := (RX2, TX2, 1)) hP30.made.1 rfl) rfl rfl hl.1 rfl (lv_room (Nat.le_of_ble_eq_true rfl)) dX11_buildCommon_33 ⟨Nat.zero_le _, Nat.zero_le _⟩) (fun g33 H locs hok hW => ?_)
      have hg := hok
      obtain ⟨M33, em33⟩ : ∃ Mq, zw_mset M30 (M30.1 24) = Mq := ⟨_, rfl⟩
      have hP33 : zCP cI cP cS cZ cM o M33 g33 := by rw [← em33]; exact zr_mset hP30 hg
      have hC33 : zCI M33 := by rw [← em33]; exact zi_mset hC30 hC30.pt
      have hV33 : zVE M33 M := zVE.tr (by rw [← em33]; exact zv_mset) hV30
      have tv33_3 : M33.1 0 3 = M.1 0 3 := hV33.2 0 3 (by omega) (by omega)
      have tv33_4 : M33.1 0 4 = M.1 0 4 := hV33.2 0 4 (by omega) (by omega)
      have hF33 : zFr f g33 o (o + 681) := zFr.trans hF30 (fun q hq => by rw [hg]; exact va_up_ne _ _ (by omega))
      have hmd33 : M33.1 27 = M30.1 24 := by rw [← em33]; rfl
      refine lv_iconst (v := zI 1) hX0 hB0 dX11_buildCommon_36 rfl ?_
      have hE : zc_buildCommon M u v = (1, M33) := by unfold zc_buildCommon; exact zif_t cf_u (zif_t cf_v (zlet_e em30 (zlet_e em33 rfl)))
      rw [← hQ]
      exact z_iret (z := 1) CX hW (by rw [hE]; exact ⟨rfl, hP33, hC33, hF33, hV33, (show (0 ≤ (1 : Int) ∧ (1 : Int) ≤ 1) ∧ ((1 : Int) ≠ 0 → zcan (M.1 0 3) (M33.1 27)) from by exact ⟨by omega, fun _ => by rw [hmd33]; exact hcc30⟩)⟩) rfl dX11_buildCommon_37
    ·
      rw [zfind_n (a := o + 289) cf_v]
      refine zWalk.met (nL := 3) (ret := (some .boolean)) (cc := cX11_buildCommon) (by decide) rfl (Nat.le_of_ble_eq_true rfl) ?_
      intro pg en st mi ag bl mt cd ls CX hW hl
      have CX : zC pg st mi ag mt cd cX11_buildCommon 3 (some .boolean) RX11 wsX11_buildCommon := CX
      generalize hQ : MQ bl _ ag st 0 0 _ = Q
      have hX0 := CX.1
      have hB0 := CX.2.1
      have hl : lv_has ls 3 [(0, .ref o), (1, .ref (o + 289 + 3 + 2 * u.toNat)), (2, .null)] := hl
      obtain ⟨H, eH⟩ : ∃ H, H = st.heap := ⟨_, rfl⟩
      obtain ⟨locs, eL⟩ : ∃ L : List Loc, L = [] := ⟨_, rfl⟩
      have hW : zW D (zT cI cJ cZ cP cS cM) L (zQ L sz) st f st.heap H locs := by rw [eH, eL]; exact hW
      suffices hgo : W pg l en ({ frames := 5, cells := 0, slots := 0, locals := 122 } : Room) st mi ag bl mt cd H locs 0 0 Q (F0 mi 0 ls []) by rw [eH, eL] at hgo; exact hgo
      clear eH eL
      have hpb := hC.p
      have hnb := hC.cn
      refine lv_aload_n hX0 hB0 dX11_buildCommon_0 rfl (lv_at hl 1 rfl) ?_
      refine lv_ifnull hX0 hB0 dX11_buildCommon_1 ?_
      refine lv_aload_nN hX0 hB0 dX11_buildCommon_4 rfl (lv_at hl 2 rfl) ?_
      refine lv_ifnonnullN hX0 hB0 dX11_buildCommon_5 ?_
      refine lv_iconst (v := zI 0) hX0 hB0 dX11_buildCommon_8 rfl ?_
      have hE : zc_buildCommon M u v = (0, M) := by unfold zc_buildCommon; exact zif_t cf_u (zif_f cf_v rfl)
      rw [← hQ]
      exact z_iret (z := 0) CX hW (by rw [hE]; exact ⟨rfl, hP, hC, zFr.refl, zVE.rf, (show (0 ≤ (0 : Int) ∧ (0 : Int) ≤ 1) ∧ ((0 : Int) ≠ 0 → zcan (M.1 0 3) (M.1 27)) from by exact ⟨by omega, fun h => absurd rfl h⟩)⟩) rfl dX11_buildCommon_9
  ·
    rw [zfind_n (a := o + 289) cf_u]
    by_cases cf_v : 0 ≤ v ∧ v < M.1 0 4 ∧ v < 6
    ·
      rw [zfind_p (a := o + 289) cf_v]
      refine zWalk.met (nL := 3) (ret := (some .boolean)) (cc := cX11_buildCommon) (by decide) rfl (Nat.le_of_ble_eq_true rfl) ?_
      intro pg en st mi ag bl mt cd ls CX hW hl
      have CX : zC pg st mi ag mt cd cX11_buildCommon 3 (some .boolean) RX11 wsX11_buildCommon := CX
      generalize hQ : MQ bl _ ag st 0 0 _ = Q
      have hX0 := CX.1
      have hB0 := CX.2.1
      have hl : lv_has ls 3 [(0, .ref o), (1, .null), (2, .ref (o + 289 + 3 + 2 * v.toNat))] := hl
      obtain ⟨H, eH⟩ : ∃ H, H = st.heap := ⟨_, rfl⟩
      obtain ⟨locs, eL⟩ : ∃ L : List Loc, L = [] := ⟨_, rfl⟩
      have hW : zW D (zT cI cJ cZ cP cS cM) L (zQ L sz) st f st.heap H locs := by rw [eH, eL]; exact hW
      suffices hgo : W pg l en ({ frames := 5, cells := 0, slots := 0, locals := 122 } : Room) st mi ag bl mt cd H locs 0 0 Q (F0 mi 0 ls []) by rw [eH, eL] at hgo; exact hgo
      clear eH eL
      have hpb := hC.p
      have hnb := hC.cn
      refine lv_aload_nN hX0 hB0 dX11_buildCommon_0 rfl (lv_at hl 1 rfl) ?_
      refine lv_ifnullN (tgt := 8) hX0 hB0 dX11_buildCommon_1 (by decide) ?_
      refine lv_iconst (v := zI 0) hX0 hB0 dX11_buildCommon_8 rfl ?_
      have hE : zc_buildCommon M u v = (0, M) := by unfold zc_buildCommon; exact zif_f cf_u (zif_t cf_v rfl)
      rw [← hQ]
      exact z_iret (z := 0) CX hW (by rw [hE]; exact ⟨rfl, hP, hC, zFr.refl, zVE.rf, (show (0 ≤ (0 : Int) ∧ (0 : Int) ≤ 1) ∧ ((0 : Int) ≠ 0 → zcan (M.1 0 3) (M.1 27)) from by exact ⟨by omega, fun h => absurd rfl h⟩)⟩) rfl dX11_buildCommon_9
    ·
      rw [zfind_n (a := o + 289) cf_v]
      refine zWalk.met (nL := 3) (ret := (some .boolean)) (cc := cX11_buildCommon) (by decide) rfl (Nat.le_of_ble_eq_true rfl) ?_
      intro pg en st mi ag bl mt cd ls CX hW hl
      have CX : zC pg st mi ag mt cd cX11_buildCommon 3 (some .boolean) RX11 wsX11_buildCommon := CX
      generalize hQ : MQ bl _ ag st 0 0 _ = Q
      have hX0 := CX.1
      have hB0 := CX.2.1
      have hl : lv_has ls 3 [(0, .ref o), (1, .null), (2, .null)] := hl
      obtain ⟨H, eH⟩ : ∃ H, H = st.heap := ⟨_, rfl⟩
      obtain ⟨locs, eL⟩ : ∃ L : List Loc, L = [] := ⟨_, rfl⟩
      have hW : zW D (zT cI cJ cZ cP cS cM) L (zQ L sz) st f st.heap H locs := by rw [eH, eL]; exact hW
      suffices hgo : W pg l en ({ frames := 5, cells := 0, slots := 0, locals := 122 } : Room) st mi ag bl mt cd H locs 0 0 Q (F0 mi 0 ls []) by rw [eH, eL] at hgo; exact hgo
      clear eH eL
      have hpb := hC.p
      have hnb := hC.cn
      refine lv_aload_nN hX0 hB0 dX11_buildCommon_0 rfl (lv_at hl 1 rfl) ?_
      refine lv_ifnullN (tgt := 8) hX0 hB0 dX11_buildCommon_1 (by decide) ?_
      refine lv_iconst (v := zI 0) hX0 hB0 dX11_buildCommon_8 rfl ?_
      have hE : zc_buildCommon M u v = (0, M) := by unfold zc_buildCommon; exact zif_f cf_u (zif_f cf_v rfl)
      rw [← hQ]
      exact z_iret (z := 0) CX hW (by rw [hE]; exact ⟨rfl, hP, hC, zFr.refl, zVE.rf, (show (0 ≤ (0 : Int) ∧ (0 : Int) ≤ 1) ∧ ((0 : Int) ≠ 0 → zcan (M.1 0 3) (M.1 27)) from by exact ⟨by omega, fun h => absurd rfl h⟩)⟩) rfl dX11_buildCommon_9
noncomputable def zc_buildDerivative (M : zCt) (u : Int) (b : Int) : Int × zCt := (if 0 ≤ u ∧ u < M.1 0 4 ∧ u < 6 then (if b < 0 then (0, M) else (if b ≤ 1 then (if b = 0 then zlet (zw_made M (zder (M.2.1 u.toNat) 1 (M.1 0 3)) (M.1 0 3)) (fun M36 => (1, M36)) else zlet (zw_made M (zder (M.2.1 u.toNat) 0 (M.1 0 3)) (M.1 0 3)) (fun M36 => (1, M36))) else (0, M))) else (0, M))
set_option maxRecDepth 100000 in
set_option maxHeartbeats 4000000 in
theorem zd_buildDerivative (l : Launch) {D : va_G} {cI cJ cZ cP cS cM : ClassId} {L : List Nat} {sz : Nat} {f : Nat → va_E} (o : Nat) (M : zCt) (u : Int) (b : Int) (hP : zCP cI cP cS cZ cM o M f) (hC : zCI M) (hu : -2147483648 ≤ u ∧ u ≤ 2147483647) (hb : -2147483648 ≤ b ∧ b ≤ 2147483647) : zMi l yX11_buildDerivative wsX11_buildDerivative 3 70 D (zT cI cJ cZ cP cS cM) L sz f [.ref o, va_rf (zfind (o + 289) (M.1 0 4) u), .int (zI b)] (fun zv gv => zv = (zc_buildDerivative M u b).1 ∧ zCP cI cP cS cZ cM o (zc_buildDerivative M u b).2 gv ∧ zCI (zc_buildDerivative M u b).2 ∧ zFr f gv o (o + 681) ∧ zVE (zc_buildDerivative M u b).2 M ∧ (0 ≤ zv ∧ zv ≤ 1) ∧ (zv ≠ 0 → zcan (M.1 0 3) (((zc_buildDerivative M u b).2).1 27))) := by
  by_cases cf_u : 0 ≤ u ∧ u < M.1 0 4 ∧ u < 6
  ·
    rw [zfind_p (a := o + 289) cf_u]
    refine zWalk.met (nL := 3) (ret := (some .boolean)) (cc := cX11_buildDerivative) (by decide) rfl (Nat.le_of_ble_eq_true rfl) ?_
    intro pg en st mi ag bl mt cd ls CX hW hl
    have CX : zC pg st mi ag mt cd cX11_buildDerivative 3 (some .boolean) RX11 wsX11_buildDerivative := CX
    generalize hQ : MQ bl _ ag st 0 0 _ = Q
    have hX0 := CX.1
    have hB0 := CX.2.1
    have hl : lv_has ls 3 [(0, .ref o), (1, .ref (o + 289 + 3 + 2 * u.toNat)), (2, .int (zI b))] := hl
    obtain ⟨H, eH⟩ : ∃ H, H = st.heap := ⟨_, rfl⟩
    obtain ⟨locs, eL⟩ : ∃ L : List Loc, L = [] := ⟨_, rfl⟩
    have hW : zW D (zT cI cJ cZ cP cS cM) L (zQ L sz) st f st.heap H locs := by rw [eH, eL]; exact hW
    suffices hgo : W pg l en ({ frames := 3, cells := 0, slots := 0, locals := 70 } : Room) st mi ag bl mt cd H locs 0 0 Q (F0 mi 0 ls []) by rw [eH, eL] at hgo; exact hgo
    clear eH eL
    have hpb := hC.p
    have hnb := hC.cn
    refine lv_aload_n hX0 hB0 dX11_buildDerivative_0 rfl (lv_at hl 1 rfl) ?_
    refine lv_ifnull hX0 hB0 dX11_buildDerivative_1 ?_
    refine lv_iload_n hX0 hB0 dX11_buildDerivative_4 rfl (lv_at hl 2 rfl) ?_
    refine z_if_lt (tgt := 13) CX dX11_buildDerivative_5 (by decide) (by constructor <;> omega) (fun c_5 => ?_) (fun c_5 => ?_)
    ·
      refine lv_iconst (v := zI 0) hX0 hB0 dX11_buildDerivative_13 rfl ?_
      have hE : zc_buildDerivative M u b = (0, M) := by unfold zc_buildDerivative; exact zif_t cf_u (zif_t c_5 rfl)
      rw [← hQ]
      exact z_iret (z := 0) CX hW (by rw [hE]; exact ⟨rfl, hP, hC, zFr.refl, zVE.rf, (show (0 ≤ (0 : Int) ∧ (0 : Int) ≤ 1) ∧ ((0 : Int) ≠ 0 → zcan (M.1 0 3) (M.1 27)) from by exact ⟨by omega, fun h => absurd rfl h⟩)⟩) rfl dX11_buildDerivative_14
    ·
      have d_5 : ¬ b < 0 := by omega
      refine lv_iload_n hX0 hB0 dX11_buildDerivative_8 rfl (lv_at hl 2 rfl) ?_
      refine lv_iconst (v := zI 1) hX0 hB0 dX11_buildDerivative_9 rfl ?_
      refine z_icmp_le (tgt := 15) CX dX11_buildDerivative_10 (by decide) (by constructor <;> omega) (by constructor <;> omega) (fun c_10 => ?_) (fun c_10 => ?_)
      ·
        refine lv_aload_n hX0 hB0 dX11_buildDerivative_15 rfl (lv_at hl 0 rfl) ?_
        refine z_get (Cn := RX11) (T := TX11) (N := 13) CX hW (v := .ref (o + 634)) (show f o = _ from hP.c0) rfl (fun w h => List.mem_cons_of_mem _ (List.mem_append_left _ (List.mem_append_left _ (List.mem_append_left _ (List.mem_append_right _ h))))) 9 (by decide) (List.mem_of_getElem? (i := 1) rfl) rfl rfl dX11_buildDerivative_16 ?_
        refine lv_aload_n hX0 hB0 dX11_buildDerivative_19 rfl (lv_at hl 1 rfl) ?_
        refine lv_iload_n hX0 hB0 dX11_buildDerivative_20 rfl (lv_at hl 2 rfl) ?_
        refine z_if_ne (tgt := 28) CX dX11_buildDerivative_21 (by decide) (by constructor <;> omega) (fun c_21 => ?_) (fun c_21 => ?_)
        ·
          refine lv_iconst (v := zI 0) hX0 hB0 dX11_buildDerivative_28 rfl ?_
          refine lv_aload_n hX0 hB0 dX11_buildDerivative_29 rfl (lv_at hl 0 rfl) ?_
          refine z_get (Cn := RX11) (T := TX11) (N := 13) CX hW (v := .ref (o + 289)) (show f o = _ from hP.c0) rfl (fun w h => List.mem_cons_of_mem _ (List.mem_append_left _ (List.mem_append_left _ (List.mem_append_left _ (List.mem_append_right _ h))))) 1 (by decide) (List.mem_of_getElem? (i := 2) rfl) rfl rfl dX11_buildDerivative_30 ?_
          refine z_get (Cn := RX7) (T := TX7) (N := 4) CX hW (v := .int (zI (M.1 0 3))) hP.c3.1 rfl (fun w h => List.mem_cons_of_mem _ (List.mem_append_left _ (List.mem_append_left _ (List.mem_append_right _ h)))) 0 (by decide) (List.mem_of_getElem? (i := 3) rfl) rfl rfl dX11_buildDerivative_33 ?_
          have hr33 := hC.p
          obtain ⟨sc36, ax36, ay36, az36, bx36, by36, bz36, PX36, PY36, RS36, hmx36⟩ := hP.c11
          refine z_callv hW (va_runV (C := RX0) (As := [.ref (o + 289 + 3 + 2 * u.toNat), .int (zI 0), .int (zI (M.1 0 3))]) (rest := []) CX.fix (c_derive l (o + 634) (M.1 0 17) (M.1 27) sc36 (M.1 28) (M.1 29) ax36 ay36 az36 bx36 by36 bz36 PX36 PY36 RS36 (o + 289 + 3 + 2 * u.toNat) (o + 289 + 3 + 2 * u.toNat + 1) (M.2.1 u.toNat) 0 (M.1 0 3) hmx36 (hP.poly (k := u.toNat) (by omega)).1 (hP.poly (k := u.toNat) (by omega)).2 (hC.poly31 (k := u) (by omega) (by omega)) (by omega) (by omega) (by omega) (by omega)) (cwV 3 CX.fix.2.2.2.2 gX11_buildDerivative_X0_derive rfl rfl rfl (by decide +kernel) ⟨Nat.le_of_ble_eq_true rfl, Nat.le_of_ble_eq_true rfl⟩) (z_preV CX hW (r := (RX0, TX0, 10)) hP.mkob rfl) rfl rfl hl.1 rfl (lv_room (Nat.le_of_ble_eq_true rfl)) dX11_buildDerivative_36 ⟨Nat.zero_le _, Nat.zero_le _⟩) (fun g36 H locs hok hW => ?_)
          have hg := hok
          obtain ⟨M36, em36⟩ : ∃ Mq, zw_made M (zder (M.2.1 u.toNat) 0 (M.1 0 3)) (M.1 0 3) = Mq := ⟨_, rfl⟩
          have hP36 : zCP cI cP cS cZ cM o M36 g36 := by rw [← em36]; exact zr_made hP hg
          have hC36 : zCI M36 := by rw [← em36]; exact zi_made hC (zcan_le (zder_can (by omega)) (by omega : (M.1 0 3) ≤ 31))
          have hV36 : zVE M36 M := zVE.tr (by rw [← em36]; exact zv_made) zVE.rf
          have tv36_3 : M36.1 0 3 = M.1 0 3 := hV36.2 0 3 (by omega) (by omega)
          have tv36_4 : M36.1 0 4 = M.1 0 4 := hV36.2 0 4 (by omega) (by omega)
          have hF36 : zFr f g36 o (o + 681) := zFr.trans zFr.refl (fun q hq => by rw [hg, va_up_ne _ _ (by omega), va_up_ne _ _ (by omega)])
          have hth36 : zcan (M.1 0 3) (M36.1 27) := by rw [← em36]; exact zder_can (by omega)
          refine lv_iconst (v := zI 1) hX0 hB0 dX11_buildDerivative_39 rfl ?_
          have hE : zc_buildDerivative M u b = (1, M36) := by unfold zc_buildDerivative; exact zif_t cf_u (zif_f d_5 (zif_t c_10 (zif_f c_21 (zlet_e em36 rfl))))
          rw [← hQ]
          exact z_iret (z := 1) CX hW (by rw [hE]; exact ⟨rfl, hP36, hC36, hF36, hV36, (show (0 ≤ (1 : Int) ∧ (1 : Int) ≤ 1) ∧ ((1 : Int) ≠ 0 → zcan (M.1 0 3) (M36.1 27)) from by exact ⟨by omega, fun _ => hth36⟩)⟩) rfl dX11_buildDerivative_40
        ·
          refine lv_iconst (v := zI 1) hX0 hB0 dX11_buildDerivative_24 rfl ?_
          refine lv_goto (tgt := 29) hX0 hB0 dX11_buildDerivative_25 (by decide) ?_
          refine lv_aload_n hX0 hB0 dX11_buildDerivative_29 rfl (lv_at hl 0 rfl) ?_
          refine z_get (Cn := RX11) (T := TX11) (N := 13) CX hW (v := .ref (o + 289)) (show f o = _ from hP.c0) rfl (fun w h => List.mem_cons_of_mem _ (List.mem_append_left _ (List.mem_append_left _ (List.mem_append_left _ (List.mem_append_right _ h))))) 1 (by decide) (List.mem_of_getElem? (i := 2) rfl) rfl rfl dX11_buildDerivative_30 ?_
          refine z_get (Cn := RX7) (T := TX7) (N := 4) CX hW (v := .int (zI (M.1 0 3))) hP.c3.1 rfl (fun w h => List.mem_cons_of_mem _ (List.mem_append_left _ (List.mem_append_left _ (List.mem_append_right _ h)))) 0 (by decide) (List.mem_of_getElem? (i := 3) rfl) rfl rfl dX11_buildDerivative_33 ?_
          have hr33 := hC.p
          obtain ⟨sc36, ax36, ay36, az36, bx36, by36, bz36, PX36, PY36, RS36, hmx36⟩ := hP.c11
          refine z_callv hW (va_runV (C := RX0) (As := [.ref (o + 289 + 3 + 2 * u.toNat), .int (zI 1), .int (zI (M.1 0 3))]) (rest := []) CX.fix (c_derive l (o + 634) (M.1 0 17) (M.1 27) sc36 (M.1 28) (M.1 29) ax36 ay36 az36 bx36 by36 bz36 PX36 PY36 RS36 (o + 289 + 3 + 2 * u.toNat) (o + 289 + 3 + 2 * u.toNat + 1) (M.2.1 u.toNat) 1 (M.1 0 3) hmx36 (hP.poly (k := u.toNat) (by omega)).1 (hP.poly (k := u.toNat) (by omega)).2 (hC.poly31 (k := u) (by omega) (by omega)) (by omega) (by omega) (by omega) (by omega)) (cwV 3 CX.fix.2.2.2.2 gX11_buildDerivative_X0_derive rfl rfl rfl (by decide +kernel) ⟨Nat.le_of_ble_eq_true rfl, Nat.le_of_ble_eq_true rfl⟩) (z_preV CX hW (r := (RX0, TX0, 10)) hP.mkob rfl) rfl rfl hl.1 rfl (lv_room (Nat.le_of_ble_eq_true rfl)) dX11_buildDerivative_36 ⟨Nat.zero_le _, Nat.zero_le _⟩) (fun g36 H locs hok hW => ?_)
          have hg := hok
          obtain ⟨M36, em36⟩ : ∃ Mq, zw_made M (zder (M.2.1 u.toNat) 1 (M.1 0 3)) (M.1 0 3) = Mq := ⟨_, rfl⟩
          have hP36 : zCP cI cP cS cZ cM o M36 g36 := by rw [← em36]; exact zr_made hP hg
          have hC36 : zCI M36 := by rw [← em36]; exact zi_made hC (zcan_le (zder_can (by omega)) (by omega : (M.1 0 3) ≤ 31))
          have hV36 : zVE M36 M := zVE.tr (by rw [← em36]; exact zv_made) zVE.rf
          have tv36_3 : M36.1 0 3 = M.1 0 3 := hV36.2 0 3 (by omega) (by omega)
          have tv36_4 : M36.1 0 4 = M.1 0 4 := hV36.2 0 4 (by omega) (by omega)
          have hF36 : zFr f g36 o (o + 681) := zFr.trans zFr.refl (fun q hq => by rw [hg, va_up_ne _ _ (by omega), va_up_ne _ _ (by omega)])
          have hth36 : zcan (M.1 0 3) (M36.1 27) := by rw [← em36]; exact zder_can (by omega)
          refine lv_iconst (v := zI 1) hX0 hB0 dX11_buildDerivative_39 rfl ?_
          have hE : zc_buildDerivative M u b = (1, M36) := by unfold zc_buildDerivative; exact zif_t cf_u (zif_f d_5 (zif_t c_10 (zif_t c_21 (zlet_e em36 rfl))))
          rw [← hQ]
          exact z_iret (z := 1) CX hW (by rw [hE]; exact ⟨rfl, hP36, hC36, hF36, hV36, (show (0 ≤ (1 : Int) ∧ (1 : Int) ≤ 1) ∧ ((1 : Int) ≠ 0 → zcan (M.1 0 3) (M36.1 27)) from by exact ⟨by omega, fun _ => hth36⟩)⟩) rfl dX11_buildDerivative_40
      ·
        have d_10 : ¬ b ≤ 1 := by omega
        refine lv_iconst (v := zI 0) hX0 hB0 dX11_buildDerivative_13 rfl ?_
        have hE : zc_buildDerivative M u b = (0, M) := by unfold zc_buildDerivative; exact zif_t cf_u (zif_f d_5 (zif_f d_10 rfl))
        rw [← hQ]
        exact z_iret (z := 0) CX hW (by rw [hE]; exact ⟨rfl, hP, hC, zFr.refl, zVE.rf, (show (0 ≤ (0 : Int) ∧ (0 : Int) ≤ 1) ∧ ((0 : Int) ≠ 0 → zcan (M.1 0 3) (M.1 27)) from by exact ⟨by omega, fun h => absurd rfl h⟩)⟩) rfl dX11_buildDerivative_14
  ·
    rw [zfind_n (a := o + 289) cf_u]
    refine zWalk.met (nL := 3) (ret := (some .boolean)) (cc := cX11_buildDerivative) (by decide) rfl (Nat.le_of_ble_eq_true rfl) ?_
    intro pg en st mi ag bl mt cd ls CX hW hl
    have CX : zC pg st mi ag mt cd cX11_buildDerivative 3 (some .boolean) RX11 wsX11_buildDerivative := CX
    generalize hQ : MQ bl _ ag st 0 0 _ = Q
    have hX0 := CX.1
    have hB0 := CX.2.1
    have hl : lv_has ls 3 [(0, .ref o), (1, .null), (2, .int (zI b))] := hl
    obtain ⟨H, eH⟩ : ∃ H, H = st.heap := ⟨_, rfl⟩
    obtain ⟨locs, eL⟩ : ∃ L : List Loc, L = [] := ⟨_, rfl⟩
    have hW : zW D (zT cI cJ cZ cP cS cM) L (zQ L sz) st f st.heap H locs := by rw [eH, eL]; exact hW
    suffices hgo : W pg l en ({ frames := 3, cells := 0, slots := 0, locals := 70 } : Room) st mi ag bl mt cd H locs 0 0 Q (F0 mi 0 ls []) by rw [eH, eL] at hgo; exact hgo
    clear eH eL
    have hpb := hC.p
    have hnb := hC.cn
    refine lv_aload_nN hX0 hB0 dX11_buildDerivative_0 rfl (lv_at hl 1 rfl) ?_
    refine lv_ifnullN (tgt := 13) hX0 hB0 dX11_buildDerivative_1 (by decide) ?_
    refine lv_iconst (v := zI 0) hX0 hB0 dX11_buildDerivative_13 rfl ?_
    have hE : zc_buildDerivative M u b = (0, M) := by unfold zc_buildDerivative; exact zif_f cf_u rfl
    rw [← hQ]
    exact z_iret (z := 0) CX hW (by rw [hE]; exact ⟨rfl, hP, hC, zFr.refl, zVE.rf, (show (0 ≤ (0 : Int) ∧ (0 : Int) ≤ 1) ∧ ((0 : Int) ≠ 0 → zcan (M.1 0 3) (M.1 27)) from by exact ⟨by omega, fun h => absurd rfl h⟩)⟩) rfl dX11_buildDerivative_14
noncomputable def zc_build (M : zCt) (a : Int) (b : Int) (how : Int) (t : Int) : Int × zCt := (if how = 0 then zlet (zc_buildProduct M a b) (fun q57 => (fun (z57 : Int) (M57 : zCt) => (z57, M57)) q57.1 q57.2) else (if how = 1 then zlet (zc_buildMix M a b t) (fun q80 => (fun (z80 : Int) (M80 : zCt) => (z80, M80)) q80.1 q80.2) else (if how = 2 then zlet (zc_buildCommon M a b) (fun q101 => (fun (z101 : Int) (M101 : zCt) => (z101, M101)) q101.1 q101.2) else (if how = 3 then zlet (zthZ a b (M.1 0 3)) (fun z118 => zlet (zw_made M (zthP a b (M.1 0 3) (M.1 27)) (M.1 0 3)) (fun M118 => (z118, M118))) else (if how = 4 then zlet (zc_lookAt M a b) (fun q125 => (fun (z125 : Int) (M125 : zCt) => (if z125 = 0 then (0, M125) else zlet (zleast (M125.1 20)) (fun z135 => (if z135 = 1 then zlet (zltZ (M125.1 20) (M125.1 0 10) (M125.1 0 11) (M125.1 0 12) (M125.1 0 3)) (fun z164 => zlet (zw_made M125 (zltP (M125.1 20) (M125.1 0 10) (M125.1 0 11) (M125.1 0 12) (M125.1 0 3)) (M125.1 0 3)) (fun M164 => (if z164 = 0 then (0, M164) else (1, M164)))) else (0, M125))))) q125.1 q125.2) else (if how = 5 then zlet (zc_buildDerivative M a b) (fun q186 => (fun (z186 : Int) (M186 : zCt) => (z186, M186)) q186.1 q186.2) else (0, M)))))))
set_option maxRecDepth 100000 in
set_option maxHeartbeats 4000000 in
theorem zd_build (l : Launch) {D : va_G} {cI cJ cZ cP cS cM : ClassId} {L : List Nat} {sz : Nat} {f : Nat → va_E} (o : Nat) (M : zCt) (a : Int) (b : Int) (how : Int) (t : Int) (hP : zCP cI cP cS cZ cM o M f) (hC : zCI M) (ha : -2147483648 ≤ a ∧ a ≤ 2147483647) (hb : -2147483648 ≤ b ∧ b ≤ 2147483647) (hhow : -2147483648 ≤ how ∧ how ≤ 2147483647) (ht : -2147483648 ≤ t ∧ t ≤ 2147483647) : zMi l yX11_build wsX11_build 6 146 D (zT cI cJ cZ cP cS cM) L sz f [.ref o, .int (zI a), .int (zI b), .int (zI how), .int (zI t)] (fun zv gv => zv = (zc_build M a b how t).1 ∧ zCP cI cP cS cZ cM o (zc_build M a b how t).2 gv ∧ zCI (zc_build M a b how t).2 ∧ zFr f gv o (o + 681) ∧ zVE (zc_build M a b how t).2 M ∧ (0 ≤ zv ∧ zv ≤ 1) ∧ (zv ≠ 0 → zcan (M.1 0 3) (((zc_build M a b how t).2).1 27))) := by
  refine zWalk.met (nL := 5) (ret := (some .boolean)) (cc := cX11_build) (by decide) rfl (Nat.le_of_ble_eq_true rfl) ?_
  intro pg en st mi ag bl mt cd ls CX hW hl
  have CX : zC pg st mi ag mt cd cX11_build 5 (some .boolean) RX11 wsX11_build := CX
  generalize hQ : MQ bl _ ag st 0 0 _ = Q
  have hX0 := CX.1
  have hB0 := CX.2.1
  have hl : lv_has ls 5 [(0, .ref o), (1, .int (zI a)), (2, .int (zI b)), (3, .int (zI how)), (4, .int (zI t))] := hl
  obtain ⟨H, eH⟩ : ∃ H, H = st.heap := ⟨_, rfl⟩
  obtain ⟨locs, eL⟩ : ∃ L : List Loc, L = [] := ⟨_, rfl⟩
  have hW : zW D (zT cI cJ cZ cP cS cM) L (zQ L sz) st f st.heap H locs := by rw [eH, eL]; exact hW
  suffices hgo : W pg l en ({ frames := 6, cells := 0, slots := 0, locals := 146 } : Room) st mi ag bl mt cd H locs 0 0 Q (F0 mi 0 ls []) by rw [eH, eL] at hgo; exact hgo
  clear eH eL
  have hpb := hC.p
  have hnb := hC.cn
  refine lv_iload_n hX0 hB0 dX11_build_0 rfl (lv_at hl 3 rfl) ?_
  by_cases c_1_0 : how = 0
  ·
    refine z_tin (K := 0) (off := 39) (tgt := 40) CX dX11_build_1 (by constructor <;> omega) c_1_0 (by decide) (by decide) rfl (by decide) ?_
    refine lv_aload_n hX0 hB0 dX11_build_40 rfl (lv_at hl 0 rfl) ?_
    refine lv_aload_n hX0 hB0 dX11_build_41 rfl (lv_at hl 0 rfl) ?_
    refine z_get (Cn := RX11) (T := TX11) (N := 13) CX hW (v := .ref (o + 289)) (show f o = _ from hP.c0) rfl (fun w h => List.mem_cons_of_mem _ (List.mem_append_left _ (List.mem_append_left _ (List.mem_append_left _ (List.mem_append_left _ (List.mem_append_left _ (List.mem_append_left _ (List.mem_append_left _ (List.mem_append_right _ h))))))))) 1 (by decide) (List.mem_of_getElem? (i := 1) rfl) rfl rfl dX11_build_42 ?_
    refine lv_iload_n hX0 hB0 dX11_build_45 rfl (lv_at hl 1 rfl) ?_
    refine z_callr hW (va_runV (C := RX7) (As := [.int (zI a)]) (rest := [.ref o]) CX.fix (c_find l (o + 289) (M.1 0 3) (M.1 0 4) M.2.1 (M.1 3) a hP.c3 (by omega) (by constructor <;> omega)) (cwV 1 CX.fix.2.2.2.2 gX11_build_X7_find rfl rfl rfl (by decide +kernel) ⟨Nat.le_of_ble_eq_true rfl, Nat.le_of_ble_eq_true rfl⟩) (z_preV CX hW (r := (RX7, TX7, 4)) hP.c3.1 rfl) rfl rfl hl.1 rfl (lv_room (Nat.le_of_ble_eq_true rfl)) dX11_build_46 ⟨Nat.zero_le _, Nat.zero_le _⟩) (fun z46 g46 H locs hok hW => ?_)
    obtain ⟨hz, hg⟩ := hok
    rw [hz]
    rw [hg] at hW
    clear hg
    refine lv_aload_n hX0 hB0 dX11_build_49 rfl (lv_at hl 0 rfl) ?_
    refine z_get (Cn := RX11) (T := TX11) (N := 13) CX hW (v := .ref (o + 289)) (show f o = _ from hP.c0) rfl (fun w h => List.mem_cons_of_mem _ (List.mem_append_left _ (List.mem_append_left _ (List.mem_append_left _ (List.mem_append_left _ (List.mem_append_left _ (List.mem_append_left _ (List.mem_append_left _ (List.mem_append_right _ h))))))))) 1 (by decide) (List.mem_of_getElem? (i := 1) rfl) rfl rfl dX11_build_50 ?_
    refine lv_iload_n hX0 hB0 dX11_build_53 rfl (lv_at hl 2 rfl) ?_
    refine z_callr hW (va_runV (C := RX7) (As := [.int (zI b)]) (rest := [va_rf (zfind (o + 289) (M.1 0 4) a), .ref o]) CX.fix (c_find l (o + 289) (M.1 0 3) (M.1 0 4) M.2.1 (M.1 3) b hP.c3 (by omega) (by constructor <;> omega)) (cwV 1 CX.fix.2.2.2.2 gX11_build_X7_find rfl rfl rfl (by decide +kernel) ⟨Nat.le_of_ble_eq_true rfl, Nat.le_of_ble_eq_true rfl⟩) (z_preV CX hW (r := (RX7, TX7, 4)) hP.c3.1 rfl) rfl rfl hl.1 rfl (lv_room (by cases (zfind (o + 289) (M.1 0 4) a) <;> exact Nat.le_of_ble_eq_true rfl)) dX11_build_54 ⟨Nat.zero_le _, Nat.zero_le _⟩) (fun z54 g54 H locs hok hW => ?_)
    obtain ⟨hz, hg⟩ := hok
    rw [hz]
    rw [hg] at hW
    clear hg
    refine z_calli hW (va_runV (C := RX11) (As := [va_rf (zfind (o + 289) (M.1 0 4) a), va_rf (zfind (o + 289) (M.1 0 4) b)]) (rest := []) CX.fix (zd_buildProduct l o M a b hP hC (by constructor <;> omega) (by constructor <;> omega)) (cwV 2 CX.fix.2.2.2.2 gX11_build_X11_buildProduct rfl rfl rfl (by decide +kernel) ⟨Nat.le_of_ble_eq_true rfl, Nat.le_of_ble_eq_true rfl⟩) (z_preV CX hW (r := (RX11, TX11, 13)) (show f o = _ from hP.c0) rfl) rfl rfl hl.1 rfl (lv_room (Nat.le_of_ble_eq_true rfl)) dX11_build_57 ⟨Nat.zero_le _, Nat.zero_le _⟩) (fun z57 g57 H locs hok hW => ?_)
    obtain ⟨hz57, hp, hc, hfr, hv, hq57⟩ := hok
    obtain ⟨M57, hS57⟩ : ∃ Mq, Mq = (zc_buildProduct M a b).2 := ⟨_, rfl⟩
    rw [← hS57] at hp hc hv
    try rw [← hS57] at hq57
    have e57 : zc_buildProduct M a b = (z57, M57) := Prod.ext hz57.symm hS57.symm
    clear hz57 hS57
    have hP57 := hp
    have hC57 := hc
    have hF57 : zFr f g57 o (o + 681) := zFr.trans zFr.refl hfr
    clear hp hc hfr
    have hV57 : zVE M57 M := zVE.tr hv zVE.rf
    have tv57_3 : M57.1 0 3 = M.1 0 3 := hV57.2 0 3 (by omega) (by omega)
    have tv57_4 : M57.1 0 4 = M.1 0 4 := hV57.2 0 4 (by omega) (by omega)
    clear hv
    have hE : zc_build M a b how t = (z57, M57) := by unfold zc_build; exact zif_t c_1_0 (zlet_e e57 rfl)
    rw [← hQ]
    exact z_iret (z := z57) CX hW (by rw [hE]; exact ⟨rfl, hP57, hC57, hF57, hV57, (show (0 ≤ z57 ∧ z57 ≤ 1) ∧ (z57 ≠ 0 → zcan (M.1 0 3) (M57.1 27)) from by exact hq57)⟩) (zI_bool (by omega)) dX11_build_60
  by_cases c_1_1 : how = 1
  ·
    refine z_tin (K := 1) (off := 60) (tgt := 61) CX dX11_build_1 (by constructor <;> omega) c_1_1 (by decide) (by decide) rfl (by decide) ?_
    refine lv_aload_n hX0 hB0 dX11_build_61 rfl (lv_at hl 0 rfl) ?_
    refine lv_aload_n hX0 hB0 dX11_build_62 rfl (lv_at hl 0 rfl) ?_
    refine z_get (Cn := RX11) (T := TX11) (N := 13) CX hW (v := .ref (o + 289)) (show f o = _ from hP.c0) rfl (fun w h => List.mem_cons_of_mem _ (List.mem_append_left _ (List.mem_append_left _ (List.mem_append_left _ (List.mem_append_left _ (List.mem_append_left _ (List.mem_append_left _ (List.mem_append_left _ (List.mem_append_right _ h))))))))) 1 (by decide) (List.mem_of_getElem? (i := 1) rfl) rfl rfl dX11_build_63 ?_
    refine lv_iload_n hX0 hB0 dX11_build_66 rfl (lv_at hl 1 rfl) ?_
    refine z_callr hW (va_runV (C := RX7) (As := [.int (zI a)]) (rest := [.ref o]) CX.fix (c_find l (o + 289) (M.1 0 3) (M.1 0 4) M.2.1 (M.1 3) a hP.c3 (by omega) (by constructor <;> omega)) (cwV 1 CX.fix.2.2.2.2 gX11_build_X7_find rfl rfl rfl (by decide +kernel) ⟨Nat.le_of_ble_eq_true rfl, Nat.le_of_ble_eq_true rfl⟩) (z_preV CX hW (r := (RX7, TX7, 4)) hP.c3.1 rfl) rfl rfl hl.1 rfl (lv_room (Nat.le_of_ble_eq_true rfl)) dX11_build_67 ⟨Nat.zero_le _, Nat.zero_le _⟩) (fun z67 g67 H locs hok hW => ?_)
    obtain ⟨hz, hg⟩ := hok
    rw [hz]
    rw [hg] at hW
    clear hg
    refine lv_aload_n hX0 hB0 dX11_build_70 rfl (lv_at hl 0 rfl) ?_
    refine z_get (Cn := RX11) (T := TX11) (N := 13) CX hW (v := .ref (o + 289)) (show f o = _ from hP.c0) rfl (fun w h => List.mem_cons_of_mem _ (List.mem_append_left _ (List.mem_append_left _ (List.mem_append_left _ (List.mem_append_left _ (List.mem_append_left _ (List.mem_append_left _ (List.mem_append_left _ (List.mem_append_right _ h))))))))) 1 (by decide) (List.mem_of_getElem? (i := 1) rfl) rfl rfl dX11_build_71 ?_
    refine lv_iload_n hX0 hB0 dX11_build_74 rfl (lv_at hl 2 rfl) ?_
    refine z_callr hW (va_runV (C := RX7) (As := [.int (zI b)]) (rest := [va_rf (zfind (o + 289) (M.1 0 4) a), .ref o]) CX.fix (c_find l (o + 289) (M.1 0 3) (M.1 0 4) M.2.1 (M.1 3) b hP.c3 (by omega) (by constructor <;> omega)) (cwV 1 CX.fix.2.2.2.2 gX11_build_X7_find rfl rfl rfl (by decide +kernel) ⟨Nat.le_of_ble_eq_true rfl, Nat.le_of_ble_eq_true rfl⟩) (z_preV CX hW (r := (RX7, TX7, 4)) hP.c3.1 rfl) rfl rfl hl.1 rfl (lv_room (by cases (zfind (o + 289) (M.1 0 4) a) <;> exact Nat.le_of_ble_eq_true rfl)) dX11_build_75 ⟨Nat.zero_le _, Nat.zero_le _⟩) (fun z75 g75 H locs hok hW => ?_)
    obtain ⟨hz, hg⟩ := hok
    rw [hz]
    rw [hg] at hW
    clear hg
    refine lv_iload hX0 hB0 dX11_build_78 (lv_at hl 4 rfl) ?_
    refine z_calli hW (va_runV (C := RX11) (As := [va_rf (zfind (o + 289) (M.1 0 4) a), va_rf (zfind (o + 289) (M.1 0 4) b), .int (zI t)]) (rest := []) CX.fix (zd_buildMix l o M a b t hP hC (by constructor <;> omega) (by constructor <;> omega) (by constructor <;> omega)) (cwV 3 CX.fix.2.2.2.2 gX11_build_X11_buildMix rfl rfl rfl (by decide +kernel) ⟨Nat.le_of_ble_eq_true rfl, Nat.le_of_ble_eq_true rfl⟩) (z_preV CX hW (r := (RX11, TX11, 13)) (show f o = _ from hP.c0) rfl) rfl rfl hl.1 rfl (lv_room (Nat.le_of_ble_eq_true rfl)) dX11_build_80 ⟨Nat.zero_le _, Nat.zero_le _⟩) (fun z80 g80 H locs hok hW => ?_)
    obtain ⟨hz80, hp, hc, hfr, hv, hq80⟩ := hok
    obtain ⟨M80, hS80⟩ : ∃ Mq, Mq = (zc_buildMix M a b t).2 := ⟨_, rfl⟩
    rw [← hS80] at hp hc hv
    try rw [← hS80] at hq80
    have e80 : zc_buildMix M a b t = (z80, M80) := Prod.ext hz80.symm hS80.symm
    clear hz80 hS80
    have hP80 := hp
    have hC80 := hc
    have hF80 : zFr f g80 o (o + 681) := zFr.trans zFr.refl hfr
    clear hp hc hfr
    have hV80 : zVE M80 M := zVE.tr hv zVE.rf
    have tv80_3 : M80.1 0 3 = M.1 0 3 := hV80.2 0 3 (by omega) (by omega)
    have tv80_4 : M80.1 0 4 = M.1 0 4 := hV80.2 0 4 (by omega) (by omega)
    clear hv
    have hE : zc_build M a b how t = (z80, M80) := by unfold zc_build; exact zif_f c_1_0 (zif_t c_1_1 (zlet_e e80 rfl))
    rw [← hQ]
    exact z_iret (z := z80) CX hW (by rw [hE]; exact ⟨rfl, hP80, hC80, hF80, hV80, (show (0 ≤ z80 ∧ z80 ≤ 1) ∧ (z80 ≠ 0 → zcan (M.1 0 3) (M80.1 27)) from by exact hq80)⟩) (zI_bool (by omega)) dX11_build_83
  by_cases c_1_2 : how = 2
  ·
    refine z_tin (K := 2) (off := 83) (tgt := 84) CX dX11_build_1 (by constructor <;> omega) c_1_2 (by decide) (by decide) rfl (by decide) ?_
    refine lv_aload_n hX0 hB0 dX11_build_84 rfl (lv_at hl 0 rfl) ?_
    refine lv_aload_n hX0 hB0 dX11_build_85 rfl (lv_at hl 0 rfl) ?_
    refine z_get (Cn := RX11) (T := TX11) (N := 13) CX hW (v := .ref (o + 289)) (show f o = _ from hP.c0) rfl (fun w h => List.mem_cons_of_mem _ (List.mem_append_left _ (List.mem_append_left _ (List.mem_append_left _ (List.mem_append_left _ (List.mem_append_left _ (List.mem_append_left _ (List.mem_append_left _ (List.mem_append_right _ h))))))))) 1 (by decide) (List.mem_of_getElem? (i := 1) rfl) rfl rfl dX11_build_86 ?_
    refine lv_iload_n hX0 hB0 dX11_build_89 rfl (lv_at hl 1 rfl) ?_
    refine z_callr hW (va_runV (C := RX7) (As := [.int (zI a)]) (rest := [.ref o]) CX.fix (c_find l (o + 289) (M.1 0 3) (M.1 0 4) M.2.1 (M.1 3) a hP.c3 (by omega) (by constructor <;> omega)) (cwV 1 CX.fix.2.2.2.2 gX11_build_X7_find rfl rfl rfl (by decide +kernel) ⟨Nat.le_of_ble_eq_true rfl, Nat.le_of_ble_eq_true rfl⟩) (z_preV CX hW (r := (RX7, TX7, 4)) hP.c3.1 rfl) rfl rfl hl.1 rfl (lv_room (Nat.le_of_ble_eq_true rfl)) dX11_build_90 ⟨Nat.zero_le _, Nat.zero_le _⟩) (fun z90 g90 H locs hok hW => ?_)
    obtain ⟨hz, hg⟩ := hok
    rw [hz]
    rw [hg] at hW
    clear hg
    refine lv_aload_n hX0 hB0 dX11_build_93 rfl (lv_at hl 0 rfl) ?_
    refine z_get (Cn := RX11) (T := TX11) (N := 13) CX hW (v := .ref (o + 289)) (show f o = _ from hP.c0) rfl (fun w h => List.mem_cons_of_mem _ (List.mem_append_left _ (List.mem_append_left _ (List.mem_append_left _ (List.mem_append_left _ (List.mem_append_left _ (List.mem_append_left _ (List.mem_append_left _ (List.mem_append_right _ h))))))))) 1 (by decide) (List.mem_of_getElem? (i := 1) rfl) rfl rfl dX11_build_94 ?_
    refine lv_iload_n hX0 hB0 dX11_build_97 rfl (lv_at hl 2 rfl) ?_
    refine z_callr hW (va_runV (C := RX7) (As := [.int (zI b)]) (rest := [va_rf (zfind (o + 289) (M.1 0 4) a), .ref o]) CX.fix (c_find l (o + 289) (M.1 0 3) (M.1 0 4) M.2.1 (M.1 3) b hP.c3 (by omega) (by constructor <;> omega)) (cwV 1 CX.fix.2.2.2.2 gX11_build_X7_find rfl rfl rfl (by decide +kernel) ⟨Nat.le_of_ble_eq_true rfl, Nat.le_of_ble_eq_true rfl⟩) (z_preV CX hW (r := (RX7, TX7, 4)) hP.c3.1 rfl) rfl rfl hl.1 rfl (lv_room (by cases (zfind (o + 289) (M.1 0 4) a) <;> exact Nat.le_of_ble_eq_true rfl)) dX11_build_98 ⟨Nat.zero_le _, Nat.zero_le _⟩) (fun z98 g98 H locs hok hW => ?_)
    obtain ⟨hz, hg⟩ := hok
    rw [hz]
    rw [hg] at hW
    clear hg
    refine z_calli hW (va_runV (C := RX11) (As := [va_rf (zfind (o + 289) (M.1 0 4) a), va_rf (zfind (o + 289) (M.1 0 4) b)]) (rest := []) CX.fix (zd_buildCommon l o M a b hP hC (by constructor <;> omega) (by constructor <;> omega)) (cwV 2 CX.fix.2.2.2.2 gX11_build_X11_buildCommon rfl rfl rfl (by decide +kernel) ⟨Nat.le_of_ble_eq_true rfl, Nat.le_of_ble_eq_true rfl⟩) (z_preV CX hW (r := (RX11, TX11, 13)) (show f o = _ from hP.c0) rfl) rfl rfl hl.1 rfl (lv_room (Nat.le_of_ble_eq_true rfl)) dX11_build_101 ⟨Nat.zero_le _, Nat.zero_le _⟩) (fun z101 g101 H locs hok hW => ?_)
    obtain ⟨hz101, hp, hc, hfr, hv, hq101⟩ := hok
    obtain ⟨M101, hS101⟩ : ∃ Mq, Mq = (zc_buildCommon M a b).2 := ⟨_, rfl⟩
    rw [← hS101] at hp hc hv
    try rw [← hS101] at hq101
    have e101 : zc_buildCommon M a b = (z101, M101) := Prod.ext hz101.symm hS101.symm
    clear hz101 hS101
    have hP101 := hp
    have hC101 := hc
    have hF101 : zFr f g101 o (o + 681) := zFr.trans zFr.refl hfr
    clear hp hc hfr
    have hV101 : zVE M101 M := zVE.tr hv zVE.rf
    have tv101_3 : M101.1 0 3 = M.1 0 3 := hV101.2 0 3 (by omega) (by omega)
    have tv101_4 : M101.1 0 4 = M.1 0 4 := hV101.2 0 4 (by omega) (by omega)
    clear hv
    have hE : zc_build M a b how t = (z101, M101) := by unfold zc_build; exact zif_f c_1_0 (zif_f c_1_1 (zif_t c_1_2 (zlet_e e101 rfl)))
    rw [← hQ]
    exact z_iret (z := z101) CX hW (by rw [hE]; exact ⟨rfl, hP101, hC101, hF101, hV101, (show (0 ≤ z101 ∧ z101 ≤ 1) ∧ (z101 ≠ 0 → zcan (M.1 0 3) (M101.1 27)) from by exact hq101)⟩) (zI_bool (by omega)) dX11_build_104
  by_cases c_1_3 : how = 3
  ·
    refine z_tin (K := 3) (off := 104) (tgt := 105) CX dX11_build_1 (by constructor <;> omega) c_1_3 (by decide) (by decide) rfl (by decide) ?_
    refine lv_aload_n hX0 hB0 dX11_build_105 rfl (lv_at hl 0 rfl) ?_
    refine z_get (Cn := RX11) (T := TX11) (N := 13) CX hW (v := .ref (o + 634)) (show f o = _ from hP.c0) rfl (fun w h => List.mem_cons_of_mem _ (List.mem_append_left _ (List.mem_append_left _ (List.mem_append_left _ (List.mem_append_left _ (List.mem_append_left _ (List.mem_append_left _ (List.mem_append_left _ (List.mem_append_right _ h))))))))) 9 (by decide) (List.mem_of_getElem? (i := 2) rfl) rfl rfl dX11_build_106 ?_
    refine lv_iload_n hX0 hB0 dX11_build_109 rfl (lv_at hl 1 rfl) ?_
    refine lv_iload_n hX0 hB0 dX11_build_110 rfl (lv_at hl 2 rfl) ?_
    refine lv_aload_n hX0 hB0 dX11_build_111 rfl (lv_at hl 0 rfl) ?_
    refine z_get (Cn := RX11) (T := TX11) (N := 13) CX hW (v := .ref (o + 289)) (show f o = _ from hP.c0) rfl (fun w h => List.mem_cons_of_mem _ (List.mem_append_left _ (List.mem_append_left _ (List.mem_append_left _ (List.mem_append_left _ (List.mem_append_left _ (List.mem_append_left _ (List.mem_append_left _ (List.mem_append_right _ h))))))))) 1 (by decide) (List.mem_of_getElem? (i := 1) rfl) rfl rfl dX11_build_112 ?_
    refine z_get (Cn := RX7) (T := TX7) (N := 4) CX hW (v := .int (zI (M.1 0 3))) hP.c3.1 rfl (fun w h => List.mem_cons_of_mem _ (List.mem_append_left _ (List.mem_append_left _ (List.mem_append_left _ (List.mem_append_left _ (List.mem_append_left _ (List.mem_append_left _ (List.mem_append_right _ h)))))))) 0 (by decide) (List.mem_of_getElem? (i := 3) rfl) rfl rfl dX11_build_115 ?_
    have hr115 := hC.p
    obtain ⟨sc118, ax118, ay118, az118, bx118, by118, bz118, PX118, PY118, RS118, hmx118⟩ := hP.c11
    refine z_calli hW (va_runV (C := RX0) (As := [.int (zI a), .int (zI b), .int (zI (M.1 0 3))]) (rest := []) CX.fix (c_lineThrough l (o + 634) (M.1 0 17) (M.1 27) sc118 (M.1 28) (M.1 29) ax118 ay118 az118 bx118 by118 bz118 PX118 PY118 RS118 a b (M.1 0 3) hmx118 (by constructor <;> omega) (by constructor <;> omega) (by omega)) (cwV 3 CX.fix.2.2.2.2 gX11_build_X0_lineThrough rfl rfl rfl (by decide +kernel) ⟨Nat.le_of_ble_eq_true rfl, Nat.le_of_ble_eq_true rfl⟩) (z_preV CX hW (r := (RX0, TX0, 10)) hP.mkob rfl) rfl rfl hl.1 rfl (lv_room (Nat.le_of_ble_eq_true rfl)) dX11_build_118 ⟨Nat.zero_le _, Nat.zero_le _⟩) (fun z118 g118 H locs hok hW => ?_)
    obtain ⟨hs0, u1, v1, w1, u2, v2, w2, ha, hb⟩ := hok
    have e118 : zthZ a b (M.1 0 3) = z118 := (by unfold zthZ; exact (Classical.em (a ≠ b ∧ zpt a (M.1 0 3) ∧ zpt b (M.1 0 3))).elim (fun hx => by rw [if_pos hx]; exact (hb hx).1.symm) (fun hx => by rw [if_neg hx]; exact (ha hx).1.symm))
    have hbz118 := zthZ_rng a b (M.1 0 3)
    rw [e118] at hbz118
    obtain ⟨M118, em118⟩ : ∃ Mq, zw_made M (zthP a b (M.1 0 3) (M.1 27)) (M.1 0 3) = Mq := ⟨_, rfl⟩
    have hP118 : zCP cI cP cS cZ cM o M118 g118 := by rw [← em118]; exact zr_thru hP hs0 (fun hx => (ha hx)) (fun hx => (hb hx))
    have hC118 : zCI M118 := by rw [← em118]; exact zi_made hC (zthP_c (by omega) (by omega) hC.md)
    have hV118 : zVE M118 M := zVE.tr (by rw [← em118]; exact zv_made) zVE.rf
    have tv118_3 : M118.1 0 3 = M.1 0 3 := hV118.2 0 3 (by omega) (by omega)
    have tv118_4 : M118.1 0 4 = M.1 0 4 := hV118.2 0 4 (by omega) (by omega)
    have hF118 : zFr f g118 o (o + 681) := zFr.trans zFr.refl (fun q hq => hs0 q (by omega))
    have hth118 : ¬ z118 = 0 → zcan (M.1 0 3) (M118.1 27) := fun hx => by rw [← em118]; exact zthP_1 (by omega) (by rw [e118]; exact hx)
    have hE : zc_build M a b how t = (z118, M118) := by unfold zc_build; exact zif_f c_1_0 (zif_f c_1_1 (zif_f c_1_2 (zif_t c_1_3 (zlet_e e118 (zlet_e em118 rfl)))))
    rw [← hQ]
    exact z_iret (z := z118) CX hW (by rw [hE]; exact ⟨rfl, hP118, hC118, hF118, hV118, (show (0 ≤ z118 ∧ z118 ≤ 1) ∧ (z118 ≠ 0 → zcan (M.1 0 3) (M118.1 27)) from by exact ⟨by omega, hth118⟩)⟩) (zI_bool (by omega)) dX11_build_121
  by_cases c_1_4 : how = 4
  ·
    refine z_tin (K := 4) (off := 121) (tgt := 122) CX dX11_build_1 (by constructor <;> omega) c_1_4 (by decide) (by decide) rfl (by decide) ?_
    refine lv_aload_n hX0 hB0 dX11_build_122 rfl (lv_at hl 0 rfl) ?_
    refine lv_iload_n hX0 hB0 dX11_build_123 rfl (lv_at hl 1 rfl) ?_
    refine lv_iload_n hX0 hB0 dX11_build_124 rfl (lv_at hl 2 rfl) ?_
    refine z_calli hW (va_runV (C := RX11) (As := [.int (zI a), .int (zI b)]) (rest := []) CX.fix (zd_lookAt l o M a b hP hC (by constructor <;> omega) (by constructor <;> omega)) (cwV 2 CX.fix.2.2.2.2 gX11_build_X11_lookAt rfl rfl rfl (by decide +kernel) ⟨Nat.le_of_ble_eq_true rfl, Nat.le_of_ble_eq_true rfl⟩) (z_preV CX hW (r := (RX11, TX11, 13)) (show f o = _ from hP.c0) rfl) rfl rfl hl.1 rfl (lv_room (Nat.le_of_ble_eq_true rfl)) dX11_build_125 ⟨Nat.zero_le _, Nat.zero_le _⟩) (fun z125 g125 H locs hok hW => ?_)
    obtain ⟨hz125, hp, hc, hfr, hv, hq125⟩ := hok
    obtain ⟨M125, hS125⟩ : ∃ Mq, Mq = (zc_lookAt M a b).2 := ⟨_, rfl⟩
    rw [← hS125] at hp hc hv
    try rw [← hS125] at hq125
    have e125 : zc_lookAt M a b = (z125, M125) := Prod.ext hz125.symm hS125.symm
    clear hz125 hS125
    have hP125 := hp
    have hC125 := hc
    have hF125 : zFr f g125 o (o + 681) := zFr.trans zFr.refl hfr
    clear hp hc hfr
    have hV125 : zVE M125 M := zVE.tr hv zVE.rf
    have tv125_3 : M125.1 0 3 = M.1 0 3 := hV125.2 0 3 (by omega) (by omega)
    have tv125_4 : M125.1 0 4 = M.1 0 4 := hV125.2 0 4 (by omega) (by omega)
    clear hv
    refine z_if_eq (tgt := 174) CX dX11_build_128 (by decide) (by constructor <;> omega) (fun c_128 => ?_) (fun c_128 => ?_)
    ·
      refine lv_iconst (v := zI 0) hX0 hB0 dX11_build_174 rfl ?_
      have hE : zc_build M a b how t = (0, M125) := by unfold zc_build; exact zif_f c_1_0 (zif_f c_1_1 (zif_f c_1_2 (zif_f c_1_3 (zif_t c_1_4 (zlet_e e125 (zif_t c_128 rfl))))))
      rw [← hQ]
      exact z_iret (z := 0) CX hW (by rw [hE]; exact ⟨rfl, hP125, hC125, hF125, hV125, (show (0 ≤ (0 : Int) ∧ (0 : Int) ≤ 1) ∧ ((0 : Int) ≠ 0 → zcan (M.1 0 3) (M125.1 27)) from by first | exact ⟨by omega, fun h => absurd rfl h⟩ | exact ⟨by omega, fun _ => by rw [← tv125_3]; exact hth164⟩)⟩) rfl dX11_build_175
    ·
      refine lv_aload_n hX0 hB0 dX11_build_131 rfl (lv_at hl 0 rfl) ?_
      refine z_get (Cn := RX11) (T := TX11) (N := 13) CX hW (v := .ref (o + 607)) (show g125 o = _ from hP125.c0) rfl (fun w h => List.mem_cons_of_mem _ (List.mem_append_left _ (List.mem_append_left _ (List.mem_append_left _ (List.mem_append_left _ (List.mem_append_left _ (List.mem_append_left _ (List.mem_append_left _ (List.mem_append_right _ h))))))))) 4 (by decide) (List.mem_of_getElem? (i := 4) rfl) rfl rfl dX11_build_132 ?_
      refine z_calli hW (va_runV (C := RX10) (As := []) (rest := []) CX.fix (c_least l (o + 607) (M125.1 0 13) (M125.1 20) (M125.1 21) hP125.c6.1 hP125.c6.2.1 hP125.c6.2.2.1 hP125.c6.2.2.2 hC125.vw.1 hC125.vw.2.1) (cwV 0 CX.fix.2.2.2.2 gX11_build_X10_least rfl rfl rfl (by decide +kernel) ⟨Nat.le_of_ble_eq_true rfl, Nat.le_of_ble_eq_true rfl⟩) (z_preV CX hW (r := (RX10, TX10, 3)) hP125.c6.1 rfl) rfl rfl hl.1 rfl (lv_room (Nat.le_of_ble_eq_true rfl)) dX11_build_135 ⟨Nat.zero_le _, Nat.zero_le _⟩) (fun z135 g135 H locs hok hW => ?_)
      obtain ⟨hz, hg⟩ := hok
      have e135 : zleast (M125.1 20) = z135 := hz.symm
      have hls135 := zleast_rng (M125.1 20)
      rw [e135] at hls135
      rw [hg] at hW
      clear hg
      refine lv_iconst (v := zI 1) hX0 hB0 dX11_build_138 rfl ?_
      refine z_icmp_ne (tgt := 174) CX dX11_build_139 (by decide) (by constructor <;> omega) (by constructor <;> omega) (fun c_139 => ?_) (fun c_139 => ?_)
      ·
        refine lv_iconst (v := zI 0) hX0 hB0 dX11_build_174 rfl ?_
        have hE : zc_build M a b how t = (0, M125) := by unfold zc_build; exact zif_f c_1_0 (zif_f c_1_1 (zif_f c_1_2 (zif_f c_1_3 (zif_t c_1_4 (zlet_e e125 (zif_f c_128 (zlet_e e135 (zif_f c_139 rfl))))))))
        rw [← hQ]
        exact z_iret (z := 0) CX hW (by rw [hE]; exact ⟨rfl, hP125, hC125, hF125, hV125, (show (0 ≤ (0 : Int) ∧ (0 : Int) ≤ 1) ∧ ((0 : Int) ≠ 0 → zcan (M.1 0 3) (M125.1 27)) from by first | exact ⟨by omega, fun h => absurd rfl h⟩ | exact ⟨by omega, fun _ => by rw [← tv125_3]; exact hth164⟩)⟩) rfl dX11_build_175
      ·
        refine lv_aload_n hX0 hB0 dX11_build_142 rfl (lv_at hl 0 rfl) ?_
        refine z_get (Cn := RX11) (T := TX11) (N := 13) CX hW (v := .ref (o + 634)) (show g125 o = _ from hP125.c0) rfl (fun w h => List.mem_cons_of_mem _ (List.mem_append_left _ (List.mem_append_left _ (List.mem_append_left _ (List.mem_append_left _ (List.mem_append_left _ (List.mem_append_left _ (List.mem_append_left _ (List.mem_append_right _ h))))))))) 9 (by decide) (List.mem_of_getElem? (i := 2) rfl) rfl rfl dX11_build_143 ?_
        refine lv_aload_n hX0 hB0 dX11_build_146 rfl (lv_at hl 0 rfl) ?_
        refine z_get (Cn := RX11) (T := TX11) (N := 13) CX hW (v := .ref (o + 607)) (show g125 o = _ from hP125.c0) rfl (fun w h => List.mem_cons_of_mem _ (List.mem_append_left _ (List.mem_append_left _ (List.mem_append_left _ (List.mem_append_left _ (List.mem_append_left _ (List.mem_append_left _ (List.mem_append_left _ (List.mem_append_right _ h))))))))) 4 (by decide) (List.mem_of_getElem? (i := 4) rfl) rfl rfl dX11_build_147 ?_
        refine z_get (Cn := RX10) (T := TX10) (N := 3) CX hW (v := .ref (o + 607 + 1)) hP125.c6.1 rfl (fun w h => List.mem_cons_of_mem _ (List.mem_append_left _ (List.mem_append_left _ (List.mem_append_left _ (List.mem_append_left _ (List.mem_append_left _ (List.mem_append_right _ h))))))) 0 (by decide) (List.mem_of_getElem? (i := 5) rfl) rfl rfl dX11_build_150 ?_
        refine lv_aload_n hX0 hB0 dX11_build_153 rfl (lv_at hl 0 rfl) ?_
        refine z_get (Cn := RX11) (T := TX11) (N := 13) CX hW (v := .ref (o + 606)) (show g125 o = _ from hP125.c0) rfl (fun w h => List.mem_cons_of_mem _ (List.mem_append_left _ (List.mem_append_left _ (List.mem_append_left _ (List.mem_append_left _ (List.mem_append_left _ (List.mem_append_left _ (List.mem_append_left _ (List.mem_append_right _ h))))))))) 3 (by decide) (List.mem_of_getElem? (i := 6) rfl) rfl rfl dX11_build_154 ?_
        refine lv_aload_n hX0 hB0 dX11_build_157 rfl (lv_at hl 0 rfl) ?_
        refine z_get (Cn := RX11) (T := TX11) (N := 13) CX hW (v := .ref (o + 289)) (show g125 o = _ from hP125.c0) rfl (fun w h => List.mem_cons_of_mem _ (List.mem_append_left _ (List.mem_append_left _ (List.mem_append_left _ (List.mem_append_left _ (List.mem_append_left _ (List.mem_append_left _ (List.mem_append_left _ (List.mem_append_right _ h))))))))) 1 (by decide) (List.mem_of_getElem? (i := 1) rfl) rfl rfl dX11_build_158 ?_
        refine z_get (Cn := RX7) (T := TX7) (N := 4) CX hW (v := .int (zI (M125.1 0 3))) hP125.c3.1 rfl (fun w h => List.mem_cons_of_mem _ (List.mem_append_left _ (List.mem_append_left _ (List.mem_append_left _ (List.mem_append_left _ (List.mem_append_left _ (List.mem_append_left _ (List.mem_append_right _ h)))))))) 0 (by decide) (List.mem_of_getElem? (i := 3) rfl) rfl rfl dX11_build_161 ?_
        have hr161 := hC125.p
        obtain ⟨sc164, ax164, ay164, az164, bx164, by164, bz164, PX164, PY164, RS164, hmx164⟩ := hP125.c11
        refine z_calli hW (va_runV (C := RX0) (As := [.ref (o + 607 + 1), .ref (o + 606), .int (zI (M125.1 0 3))]) (rest := []) CX.fix (c_lineTangent l (o + 634) (M125.1 0 17) (M125.1 27) sc164 (M125.1 28) (M125.1 29) ax164 ay164 az164 bx164 by164 bz164 PX164 PY164 RS164 (o + 607 + 1) (o + 607 + 2) (M125.1 20) (o + 606) (M125.1 0 10) (M125.1 0 11) (M125.1 0 12) (M125.1 0 3) hmx164 hP125.c6.2.1 hP125.c6.2.2.1 (zcan_le hC125.vw.2.1 (by have := hC125.vw.1; omega)) (by omega) (by omega) hP125.c5 (by omega) (by omega) (by omega) (by omega) (by omega)) (cwV 3 CX.fix.2.2.2.2 gX11_build_X0_lineTangent rfl rfl rfl (by decide +kernel) ⟨Nat.le_of_ble_eq_true rfl, Nat.le_of_ble_eq_true rfl⟩) (z_preV CX hW (r := (RX0, TX0, 10)) hP125.mkob rfl) rfl rfl hl.1 rfl (lv_room (Nat.le_of_ble_eq_true rfl)) dX11_build_164 ⟨Nat.zero_le _, Nat.zero_le _⟩) (fun z164 g164 H locs hok hW => ?_)
        obtain ⟨hz, hg⟩ := hok
        have e164 : zltZ (M125.1 20) (M125.1 0 10) (M125.1 0 11) (M125.1 0 12) (M125.1 0 3) = z164 := (show zltZ (M125.1 20) (M125.1 0 10) (M125.1 0 11) (M125.1 0 12) (M125.1 0 3) = _ from hz.symm)
        have hbz164 := zltZ_rng (M125.1 20) (M125.1 0 10) (M125.1 0 11) (M125.1 0 12) (M125.1 0 3)
        rw [e164] at hbz164
        obtain ⟨M164, em164⟩ : ∃ Mq, zw_made M125 (zltP (M125.1 20) (M125.1 0 10) (M125.1 0 11) (M125.1 0 12) (M125.1 0 3)) (M125.1 0 3) = Mq := ⟨_, rfl⟩
        have hP164 : zCP cI cP cS cZ cM o M164 g164 := by rw [← em164]; exact zr_made hP125 hg
        have hC164 : zCI M164 := by rw [← em164]; exact zi_made hC125 (zcan_le (zml_can (by omega)) (by omega : (M125.1 0 3) ≤ 31))
        have hV164 : zVE M164 M := zVE.tr (by rw [← em164]; exact zv_made) hV125
        have tv164_3 : M164.1 0 3 = M.1 0 3 := hV164.2 0 3 (by omega) (by omega)
        have tv164_4 : M164.1 0 4 = M.1 0 4 := hV164.2 0 4 (by omega) (by omega)
        have hF164 : zFr f g164 o (o + 681) := zFr.trans hF125 (fun q hq => by rw [hg, va_up_ne _ _ (by omega), va_up_ne _ _ (by omega)])
        have hth164 : zcan (M125.1 0 3) (M164.1 27) := by rw [← em164]; exact zml_can (by omega)
        refine z_if_eq (tgt := 174) CX dX11_build_167 (by decide) (by constructor <;> omega) (fun c_167 => ?_) (fun c_167 => ?_)
        ·
          refine lv_iconst (v := zI 0) hX0 hB0 dX11_build_174 rfl ?_
          have hE : zc_build M a b how t = (0, M164) := by unfold zc_build; exact zif_f c_1_0 (zif_f c_1_1 (zif_f c_1_2 (zif_f c_1_3 (zif_t c_1_4 (zlet_e e125 (zif_f c_128 (zlet_e e135 (zif_t c_139 (zlet_e e164 (zlet_e em164 (zif_t c_167 rfl)))))))))))
          rw [← hQ]
          exact z_iret (z := 0) CX hW (by rw [hE]; exact ⟨rfl, hP164, hC164, hF164, hV164, (show (0 ≤ (0 : Int) ∧ (0 : Int) ≤ 1) ∧ ((0 : Int) ≠ 0 → zcan (M.1 0 3) (M164.1 27)) from by first | exact ⟨by omega, fun h => absurd rfl h⟩ | exact ⟨by omega, fun _ => by rw [← tv125_3]; exact hth164⟩)⟩) rfl dX11_build_175
        ·
          refine lv_iconst (v := zI 1) hX0 hB0 dX11_build_170 rfl ?_
          refine lv_goto (tgt := 175) hX0 hB0 dX11_build_171 (by decide) ?_
          have hE : zc_build M a b how t = (1, M164) := by unfold zc_build; exact zif_f c_1_0 (zif_f c_1_1 (zif_f c_1_2 (zif_f c_1_3 (zif_t c_1_4 (zlet_e e125 (zif_f c_128 (zlet_e e135 (zif_t c_139 (zlet_e e164 (zlet_e em164 (zif_f c_167 rfl)))))))))))
          rw [← hQ]
          exact z_iret (z := 1) CX hW (by rw [hE]; exact ⟨rfl, hP164, hC164, hF164, hV164, (show (0 ≤ (1 : Int) ∧ (1 : Int) ≤ 1) ∧ ((1 : Int) ≠ 0 → zcan (M.1 0 3) (M164.1 27)) from by first | exact ⟨by omega, fun h => absurd rfl h⟩ | exact ⟨by omega, fun _ => by rw [← tv125_3]; exact hth164⟩)⟩) rfl dX11_build_175
  by_cases c_1_5 : how = 5
  ·
    refine z_tin (K := 5) (off := 175) (tgt := 176) CX dX11_build_1 (by constructor <;> omega) c_1_5 (by decide) (by decide) rfl (by decide) ?_
    refine lv_aload_n hX0 hB0 dX11_build_176 rfl (lv_at hl 0 rfl) ?_
    refine lv_aload_n hX0 hB0 dX11_build_177 rfl (lv_at hl 0 rfl) ?_
    refine z_get (Cn := RX11) (T := TX11) (N := 13) CX hW (v := .ref (o + 289)) (show f o = _ from hP.c0) rfl (fun w h => List.mem_cons_of_mem _ (List.mem_append_left _ (List.mem_append_left _ (List.mem_append_left _ (List.mem_append_left _ (List.mem_append_left _ (List.mem_append_left _ (List.mem_append_left _ (List.mem_append_right _ h))))))))) 1 (by decide) (List.mem_of_getElem? (i := 1) rfl) rfl rfl dX11_build_178 ?_
    refine lv_iload_n hX0 hB0 dX11_build_181 rfl (lv_at hl 1 rfl) ?_
    refine z_callr hW (va_runV (C := RX7) (As := [.int (zI a)]) (rest := [.ref o]) CX.fix (c_find l (o + 289) (M.1 0 3) (M.1 0 4) M.2.1 (M.1 3) a hP.c3 (by omega) (by constructor <;> omega)) (cwV 1 CX.fix.2.2.2.2 gX11_build_X7_find rfl rfl rfl (by decide +kernel) ⟨Nat.le_of_ble_eq_true rfl, Nat.le_of_ble_eq_true rfl⟩) (z_preV CX hW (r := (RX7, TX7, 4)) hP.c3.1 rfl) rfl rfl hl.1 rfl (lv_room (Nat.le_of_ble_eq_true rfl)) dX11_build_182 ⟨Nat.zero_le _, Nat.zero_le _⟩) (fun z182 g182 H locs hok hW => ?_)
    obtain ⟨hz, hg⟩ := hok
    rw [hz]
    rw [hg] at hW
    clear hg
    refine lv_iload_n hX0 hB0 dX11_build_185 rfl (lv_at hl 2 rfl) ?_
    refine z_calli hW (va_runV (C := RX11) (As := [va_rf (zfind (o + 289) (M.1 0 4) a), .int (zI b)]) (rest := []) CX.fix (zd_buildDerivative l o M a b hP hC (by constructor <;> omega) (by constructor <;> omega)) (cwV 2 CX.fix.2.2.2.2 gX11_build_X11_buildDerivative rfl rfl rfl (by decide +kernel) ⟨Nat.le_of_ble_eq_true rfl, Nat.le_of_ble_eq_true rfl⟩) (z_preV CX hW (r := (RX11, TX11, 13)) (show f o = _ from hP.c0) rfl) rfl rfl hl.1 rfl (lv_room (Nat.le_of_ble_eq_true rfl)) dX11_build_186 ⟨Nat.zero_le _, Nat.zero_le _⟩) (fun z186 g186 H locs hok hW => ?_)
    obtain ⟨hz186, hp, hc, hfr, hv, hq186⟩ := hok
    obtain ⟨M186, hS186⟩ : ∃ Mq, Mq = (zc_buildDerivative M a b).2 := ⟨_, rfl⟩
    rw [← hS186] at hp hc hv
    try rw [← hS186] at hq186
    have e186 : zc_buildDerivative M a b = (z186, M186) := Prod.ext hz186.symm hS186.symm
    clear hz186 hS186
    have hP186 := hp
    have hC186 := hc
    have hF186 : zFr f g186 o (o + 681) := zFr.trans zFr.refl hfr
    clear hp hc hfr
    have hV186 : zVE M186 M := zVE.tr hv zVE.rf
    have tv186_3 : M186.1 0 3 = M.1 0 3 := hV186.2 0 3 (by omega) (by omega)
    have tv186_4 : M186.1 0 4 = M.1 0 4 := hV186.2 0 4 (by omega) (by omega)
    clear hv
    have hE : zc_build M a b how t = (z186, M186) := by unfold zc_build; exact zif_f c_1_0 (zif_f c_1_1 (zif_f c_1_2 (zif_f c_1_3 (zif_f c_1_4 (zif_t c_1_5 (zlet_e e186 rfl))))))
    rw [← hQ]
    exact z_iret (z := z186) CX hW (by rw [hE]; exact ⟨rfl, hP186, hC186, hF186, hV186, (show (0 ≤ z186 ∧ z186 ≤ 1) ∧ (z186 ≠ 0 → zcan (M.1 0 3) (M186.1 27)) from by exact hq186)⟩) (zI_bool (by omega)) dX11_build_189
  refine z_tout (tgt := 190) CX dX11_build_1 (by constructor <;> omega) (by omega) (by decide) ?_
  refine lv_iconst (v := zI 0) hX0 hB0 dX11_build_190 rfl ?_
  have hE : zc_build M a b how t = (0, M) := by unfold zc_build; exact zif_f c_1_0 (zif_f c_1_1 (zif_f c_1_2 (zif_f c_1_3 (zif_f c_1_4 (zif_f c_1_5 rfl)))))
  rw [← hQ]
  exact z_iret (z := 0) CX hW (by rw [hE]; exact ⟨rfl, hP, hC, zFr.refl, zVE.rf, (show (0 ≤ (0 : Int) ∧ (0 : Int) ≤ 1) ∧ ((0 : Int) ≠ 0 → zcan (M.1 0 3) (M.1 27)) from by exact ⟨by omega, fun h => absurd rfl h⟩)⟩) rfl dX11_build_191
noncomputable def zc_make (M : zCt) (a : Int) (b : Int) (how : Int) (t : Int) : Int × zCt := (if 6 ≤ M.1 0 4 then zlet (zc_refuse M 3) (fun M40 => (-1, M40)) else zlet (zc_build M a b how t) (fun q18 => (fun (z18 : Int) (M18 : zCt) => (if z18 = 0 then zlet (zc_refuse M18 3) (fun M40 => (-1, M40)) else zlet (ztop (M18.1 27)) (fun z31 => (if 1 ≤ z31 then zlet (zw_keep M18) (fun M53 => zlet (M53.1 0 4) (fun z67 => zlet (zw_add M53) (fun M67 => (z67, M67)))) else zlet (zc_refuse M18 3) (fun M40 => (-1, M40)))))) q18.1 q18.2))
set_option maxRecDepth 100000 in
set_option maxHeartbeats 4000000 in
theorem zd_make (l : Launch) {D : va_G} {cI cJ cZ cP cS cM : ClassId} {L : List Nat} {sz : Nat} {f : Nat → va_E} (o : Nat) (M : zCt) (a : Int) (b : Int) (how : Int) (t : Int) (hP : zCP cI cP cS cZ cM o M f) (hC : zCI M) (ha : -2147483648 ≤ a ∧ a ≤ 2147483647) (hb : -2147483648 ≤ b ∧ b ≤ 2147483647) (hhow : -2147483648 ≤ how ∧ how ≤ 2147483647) (ht : -2147483648 ≤ t ∧ t ≤ 2147483647) : zMi l yX11_make wsX11_make 7 170 D (zT cI cJ cZ cP cS cM) L sz f [.ref o, .int (zI a), .int (zI b), .int (zI how), .int (zI t)] (fun zv gv => zv = (zc_make M a b how t).1 ∧ zCP cI cP cS cZ cM o (zc_make M a b how t).2 gv ∧ zCI (zc_make M a b how t).2 ∧ zFr f gv o (o + 681) ∧ True) := by
  refine zWalk.met (nL := 5) (ret := (some .int)) (cc := cX11_make) (by decide) rfl (Nat.le_of_ble_eq_true rfl) ?_
  intro pg en st mi ag bl mt cd ls CX hW hl
  have CX : zC pg st mi ag mt cd cX11_make 5 (some .int) RX11 wsX11_make := CX
  generalize hQ : MQ bl _ ag st 0 0 _ = Q
  have hX0 := CX.1
  have hB0 := CX.2.1
  have hl : lv_has ls 5 [(0, .ref o), (1, .int (zI a)), (2, .int (zI b)), (3, .int (zI how)), (4, .int (zI t))] := hl
  obtain ⟨H, eH⟩ : ∃ H, H = st.heap := ⟨_, rfl⟩
  obtain ⟨locs, eL⟩ : ∃ L : List Loc, L = [] := ⟨_, rfl⟩
  have hW : zW D (zT cI cJ cZ cP cS cM) L (zQ L sz) st f st.heap H locs := by rw [eH, eL]; exact hW
  suffices hgo : W pg l en ({ frames := 7, cells := 0, slots := 0, locals := 170 } : Room) st mi ag bl mt cd H locs 0 0 Q (F0 mi 0 ls []) by rw [eH, eL] at hgo; exact hgo
  clear eH eL
  have hpb := hC.p
  have hnb := hC.cn
  refine lv_aload_n hX0 hB0 dX11_make_0 rfl (lv_at hl 0 rfl) ?_
  refine z_get (Cn := RX11) (T := TX11) (N := 13) CX hW (v := .ref (o + 289)) (show f o = _ from hP.c0) rfl (fun w h => List.mem_cons_of_mem _ (List.mem_append_left _ (List.mem_append_left _ (List.mem_append_left _ (List.mem_append_left _ (List.mem_append_left _ (List.mem_append_left _ (List.mem_append_left _ (List.mem_append_left _ (List.mem_append_right _ h)))))))))) 1 (by decide) (List.mem_of_getElem? (i := 1) rfl) rfl rfl dX11_make_1 ?_
  refine z_get (Cn := RX7) (T := TX7) (N := 4) CX hW (v := .int (zI (M.1 0 4))) hP.c3.1 rfl (fun w h => List.mem_cons_of_mem _ (List.mem_append_left _ (List.mem_append_left _ (List.mem_append_left _ (List.mem_append_left _ (List.mem_append_left _ (List.mem_append_left _ (List.mem_append_left _ (List.mem_append_right _ h))))))))) 1 (by decide) (List.mem_of_getElem? (i := 2) rfl) rfl rfl dX11_make_4 ?_
  have hr4 := hC.cn
  refine lv_bipush (v := zI 6) hX0 hB0 dX11_make_7 (by decide) ?_
  refine z_icmp_ge (tgt := 38) CX dX11_make_9 (by decide) (by constructor <;> omega) (by constructor <;> omega) (fun c_9 => ?_) (fun c_9 => ?_)
  ·
    refine lv_aload_n hX0 hB0 dX11_make_38 rfl (lv_at hl 0 rfl) ?_
    refine lv_iconst (v := zI 3) hX0 hB0 dX11_make_39 rfl ?_
    refine z_callv hW (va_runV (C := RX11) (As := [.int (zI 3)]) (rest := []) CX.fix (zd_refuse l o M 3 hP hC (by constructor <;> omega)) (cwV 1 CX.fix.2.2.2.2 gX11_make_X11_refuse rfl rfl rfl (by decide +kernel) ⟨Nat.le_of_ble_eq_true rfl, Nat.le_of_ble_eq_true rfl⟩) (z_preV CX hW (r := (RX11, TX11, 13)) (show f o = _ from hP.c0) rfl) rfl rfl hl.1 rfl (lv_room (Nat.le_of_ble_eq_true rfl)) dX11_make_40 ⟨Nat.zero_le _, Nat.zero_le _⟩) (fun g40 H locs hok hW => ?_)
    obtain ⟨hp, hc, hfr, hq40⟩ := hok
    obtain ⟨M40, e40⟩ : ∃ Mq, zc_refuse M 3 = Mq := ⟨_, rfl⟩
    rw [e40] at hp hc
    try rw [e40] at hq40
    have hP40 := hp
    have hC40 := hc
    have hF40 : zFr f g40 o (o + 681) := zFr.trans zFr.refl hfr
    clear hp hc hfr
    refine lv_iconst (v := zI (-1)) hX0 hB0 dX11_make_43 rfl ?_
    have hE : zc_make M a b how t = (-1, M40) := by unfold zc_make; exact zif_t c_9 (zlet_e e40 rfl)
    rw [← hQ]
    exact z_iret (z := -1) CX hW (by rw [hE]; exact ⟨rfl, hP40, hC40, hF40, trivial⟩) rfl dX11_make_44
  ·
    have d_9 : ¬ 6 ≤ M.1 0 4 := by omega
    refine lv_aload_n hX0 hB0 dX11_make_12 rfl (lv_at hl 0 rfl) ?_
    refine lv_iload_n hX0 hB0 dX11_make_13 rfl (lv_at hl 1 rfl) ?_
    refine lv_iload_n hX0 hB0 dX11_make_14 rfl (lv_at hl 2 rfl) ?_
    refine lv_iload_n hX0 hB0 dX11_make_15 rfl (lv_at hl 3 rfl) ?_
    refine lv_iload hX0 hB0 dX11_make_16 (lv_at hl 4 rfl) ?_
    refine z_calli hW (va_runV (C := RX11) (As := [.int (zI a), .int (zI b), .int (zI how), .int (zI t)]) (rest := []) CX.fix (zd_build l o M a b how t hP hC (by constructor <;> omega) (by constructor <;> omega) (by constructor <;> omega) (by constructor <;> omega)) (cwV 4 CX.fix.2.2.2.2 gX11_make_X11_build rfl rfl rfl (by decide +kernel) ⟨Nat.le_of_ble_eq_true rfl, Nat.le_of_ble_eq_true rfl⟩) (z_preV CX hW (r := (RX11, TX11, 13)) (show f o = _ from hP.c0) rfl) rfl rfl hl.1 rfl (lv_room (Nat.le_of_ble_eq_true rfl)) dX11_make_18 ⟨Nat.zero_le _, Nat.zero_le _⟩) (fun z18 g18 H locs hok hW => ?_)
    obtain ⟨hz18, hp, hc, hfr, hv, hq18⟩ := hok
    obtain ⟨M18, hS18⟩ : ∃ Mq, Mq = (zc_build M a b how t).2 := ⟨_, rfl⟩
    rw [← hS18] at hp hc hv
    try rw [← hS18] at hq18
    have e18 : zc_build M a b how t = (z18, M18) := Prod.ext hz18.symm hS18.symm
    clear hz18 hS18
    have hP18 := hp
    have hC18 := hc
    have hF18 : zFr f g18 o (o + 681) := zFr.trans zFr.refl hfr
    clear hp hc hfr
    have tvc18_3 : M18.1 0 3 = M.1 0 3 := hv.2 0 3 (by omega) (by omega)
    have tvc18_4 : M18.1 0 4 = M.1 0 4 := hv.2 0 4 (by omega) (by omega)
    clear hv
    refine z_if_eq (tgt := 38) CX dX11_make_21 (by decide) (by constructor <;> omega) (fun c_21 => ?_) (fun c_21 => ?_)
    ·
      refine lv_aload_n hX0 hB0 dX11_make_38 rfl (lv_at hl 0 rfl) ?_
      refine lv_iconst (v := zI 3) hX0 hB0 dX11_make_39 rfl ?_
      refine z_callv hW (va_runV (C := RX11) (As := [.int (zI 3)]) (rest := []) CX.fix (zd_refuse l o M18 3 hP18 hC18 (by constructor <;> omega)) (cwV 1 CX.fix.2.2.2.2 gX11_make_X11_refuse rfl rfl rfl (by decide +kernel) ⟨Nat.le_of_ble_eq_true rfl, Nat.le_of_ble_eq_true rfl⟩) (z_preV CX hW (r := (RX11, TX11, 13)) (show g18 o = _ from hP18.c0) rfl) rfl rfl hl.1 rfl (lv_room (Nat.le_of_ble_eq_true rfl)) dX11_make_40 ⟨Nat.zero_le _, Nat.zero_le _⟩) (fun g40 H locs hok hW => ?_)
      obtain ⟨hp, hc, hfr, hq40⟩ := hok
      obtain ⟨M40, e40⟩ : ∃ Mq, zc_refuse M18 3 = Mq := ⟨_, rfl⟩
      rw [e40] at hp hc
      try rw [e40] at hq40
      have hP40 := hp
      have hC40 := hc
      have hF40 : zFr f g40 o (o + 681) := zFr.trans hF18 hfr
      clear hp hc hfr
      refine lv_iconst (v := zI (-1)) hX0 hB0 dX11_make_43 rfl ?_
      have hE : zc_make M a b how t = (-1, M40) := by unfold zc_make; exact zif_f d_9 (zlet_e e18 (zif_t c_21 (zlet_e e40 rfl)))
      rw [← hQ]
      exact z_iret (z := -1) CX hW (by rw [hE]; exact ⟨rfl, hP40, hC40, hF40, trivial⟩) rfl dX11_make_44
    ·
      refine lv_aload_n hX0 hB0 dX11_make_24 rfl (lv_at hl 0 rfl) ?_
      refine z_get (Cn := RX11) (T := TX11) (N := 13) CX hW (v := .ref (o + 634)) (show g18 o = _ from hP18.c0) rfl (fun w h => List.mem_cons_of_mem _ (List.mem_append_left _ (List.mem_append_left _ (List.mem_append_left _ (List.mem_append_left _ (List.mem_append_left _ (List.mem_append_left _ (List.mem_append_left _ (List.mem_append_left _ (List.mem_append_right _ h)))))))))) 9 (by decide) (List.mem_of_getElem? (i := 3) rfl) rfl rfl dX11_make_25 ?_
      obtain ⟨sc28, ax28, ay28, az28, bx28, by28, bz28, PX28, PY28, RS28, hmx28⟩ := hP18.c11
      have hmk28 := hmx28.1
      refine z_get (Cn := RX0) (T := TX0) (N := 10) CX hW (v := .ref (o + 634 + 1)) hmk28 rfl (fun w h => List.mem_cons_of_mem _ (List.mem_append_left _ (List.mem_append_left _ (List.mem_append_left _ (List.mem_append_left _ (List.mem_append_left _ (List.mem_append_left _ (List.mem_append_right _ h)))))))) 0 (by decide) (List.mem_of_getElem? (i := 4) rfl) rfl rfl dX11_make_28 ?_
      refine z_calli hW (va_runV (C := RX2) (As := []) (rest := []) CX.fix (c_top l (o + 634 + 1) (o + 634 + 2) (M18.1 27) hP18.made.1 hP18.made.2 hC18.md) (cwV 0 CX.fix.2.2.2.2 gX11_make_X2_top rfl rfl rfl (by decide +kernel) ⟨Nat.le_of_ble_eq_true rfl, Nat.le_of_ble_eq_true rfl⟩) (z_preV CX hW (r := (RX2, TX2, 1)) hP18.made.1 rfl) rfl rfl hl.1 rfl (lv_room (Nat.le_of_ble_eq_true rfl)) dX11_make_31 ⟨Nat.zero_le _, Nat.zero_le _⟩) (fun z31 g31 H locs hok hW => ?_)
      obtain ⟨hz, hg⟩ := hok
      have e31 : ztop (M18.1 27) = z31 := hz.symm
      have htp31 := ztop_rng (M18.1 27)
      rw [e31] at htp31
      rw [hg] at hW
      clear hg
      refine lv_iconst (v := zI 1) hX0 hB0 dX11_make_34 rfl ?_
      refine z_icmp_ge (tgt := 45) CX dX11_make_35 (by decide) (by constructor <;> omega) (by constructor <;> omega) (fun c_35 => ?_) (fun c_35 => ?_)
      ·
        refine lv_aload_n hX0 hB0 dX11_make_45 rfl (lv_at hl 0 rfl) ?_
        refine z_get (Cn := RX11) (T := TX11) (N := 13) CX hW (v := .ref (o + 304)) (show g18 o = _ from hP18.c0) rfl (fun w h => List.mem_cons_of_mem _ (List.mem_append_left _ (List.mem_append_left _ (List.mem_append_left _ (List.mem_append_left _ (List.mem_append_left _ (List.mem_append_left _ (List.mem_append_left _ (List.mem_append_left _ (List.mem_append_right _ h)))))))))) 2 (by decide) (List.mem_of_getElem? (i := 5) rfl) rfl rfl dX11_make_46 ?_
        refine lv_aload_n hX0 hB0 dX11_make_49 rfl (lv_at hl 0 rfl) ?_
        refine z_get (Cn := RX11) (T := TX11) (N := 13) CX hW (v := .ref (o + 289)) (show g18 o = _ from hP18.c0) rfl (fun w h => List.mem_cons_of_mem _ (List.mem_append_left _ (List.mem_append_left _ (List.mem_append_left _ (List.mem_append_left _ (List.mem_append_left _ (List.mem_append_left _ (List.mem_append_left _ (List.mem_append_left _ (List.mem_append_right _ h)))))))))) 1 (by decide) (List.mem_of_getElem? (i := 1) rfl) rfl rfl dX11_make_50 ?_
        refine z_callv hW (va_runV (C := RX1) (As := [.ref (o + 289)]) (rest := []) CX.fix (c_keep l (o + 304) (M18.1 0 5) (M18.1 0 6) (M18.1 40) (M18.1 41) M18.2.2.2.1 M18.2.2.1 (o + 289) (M18.1 0 3) (M18.1 0 4) M18.2.1 (M18.1 3) hP18.c4 hC18.ct hC18.nx hP18.c3 (by omega)) (cwV 1 CX.fix.2.2.2.2 gX11_make_X1_keep rfl rfl rfl (by decide +kernel) ⟨Nat.le_of_ble_eq_true rfl, Nat.le_of_ble_eq_true rfl⟩) (z_preV CX hW (r := (RX1, TX1, 3)) hP18.c4.1 rfl) rfl rfl hl.1 rfl (lv_room (Nat.le_of_ble_eq_true rfl)) dX11_make_53 ⟨Nat.zero_le _, Nat.zero_le _⟩) (fun g53 H locs hok hW => ?_)
        obtain ⟨hs0, hx⟩ := hok
        obtain ⟨M53, em53⟩ : ∃ Mq, zw_keep M18 = Mq := ⟨_, rfl⟩
        have hP53 : zCP cI cP cS cZ cM o M53 g53 := by rw [← em53]; exact zr_keep hP18 hs0 hx
        have hC53 : zCI M53 := by rw [← em53]; exact zi_keep hC18
        have hF53 : zFr f g53 o (o + 681) := zFr.trans hF18 (fun q hq => hs0 q (by omega))
        have hkp53 := zk_keep (M := M18)
        rw [em53] at hkp53
        refine lv_aload_n hX0 hB0 dX11_make_56 rfl (lv_at hl 0 rfl) ?_
        refine z_get (Cn := RX11) (T := TX11) (N := 13) CX hW (v := .ref (o + 289)) (show g53 o = _ from hP53.c0) rfl (fun w h => List.mem_cons_of_mem _ (List.mem_append_left _ (List.mem_append_left _ (List.mem_append_left _ (List.mem_append_left _ (List.mem_append_left _ (List.mem_append_left _ (List.mem_append_left _ (List.mem_append_left _ (List.mem_append_right _ h)))))))))) 1 (by decide) (List.mem_of_getElem? (i := 1) rfl) rfl rfl dX11_make_57 ?_
        refine lv_aload_n hX0 hB0 dX11_make_60 rfl (lv_at hl 0 rfl) ?_
        refine z_get (Cn := RX11) (T := TX11) (N := 13) CX hW (v := .ref (o + 634)) (show g53 o = _ from hP53.c0) rfl (fun w h => List.mem_cons_of_mem _ (List.mem_append_left _ (List.mem_append_left _ (List.mem_append_left _ (List.mem_append_left _ (List.mem_append_left _ (List.mem_append_left _ (List.mem_append_left _ (List.mem_append_left _ (List.mem_append_right _ h)))))))))) 9 (by decide) (List.mem_of_getElem? (i := 3) rfl) rfl rfl dX11_make_61 ?_
        obtain ⟨sc64, ax64, ay64, az64, bx64, by64, bz64, PX64, PY64, RS64, hmx64⟩ := hP53.c11
        have hmk64 := hmx64.1
        refine z_get (Cn := RX0) (T := TX0) (N := 10) CX hW (v := .ref (o + 634 + 1)) hmk64 rfl (fun w h => List.mem_cons_of_mem _ (List.mem_append_left _ (List.mem_append_left _ (List.mem_append_left _ (List.mem_append_left _ (List.mem_append_left _ (List.mem_append_left _ (List.mem_append_right _ h)))))))) 0 (by decide) (List.mem_of_getElem? (i := 4) rfl) rfl rfl dX11_make_64 ?_
        have hp53 := hC53.p
        have hn53 := hC53.cn
        refine z_calli hW (va_runV (C := RX7) (As := [.ref (o + 634 + 1)]) (rest := []) CX.fix (c_shelfadd l (o + 289) (M53.1 0 3) (M53.1 0 4) M53.2.1 (M53.1 3) (o + 634 + 1) (o + 634 + 2) (M53.1 27) hP53.c3 (by omega) hP53.made.1 hP53.made.2 (by omega) (by omega)) (cwV 1 CX.fix.2.2.2.2 gX11_make_X7_add rfl rfl rfl (by decide +kernel) ⟨Nat.le_of_ble_eq_true rfl, Nat.le_of_ble_eq_true rfl⟩) (z_preV CX hW (r := (RX7, TX7, 4)) hP53.c3.1 rfl) rfl rfl hl.1 rfl (lv_room (Nat.le_of_ble_eq_true rfl)) dX11_make_67 ⟨Nat.zero_le _, Nat.zero_le _⟩) (fun z67 g67 H locs hok hW => ?_)
        obtain ⟨hz, hs0, hx⟩ := hok.2 (by omega)
        have e67 : M53.1 0 4 = z67 := hz.symm
        obtain ⟨M67, em67⟩ : ∃ Mq, zw_add M53 = Mq := ⟨_, rfl⟩
        have hP67 : zCP cI cP cS cZ cM o M67 g67 := by rw [← em67]; exact zr_add hP53 hs0 hx
        have hC67 : zCI M67 := by rw [← em67]; exact zi_add hC53 (by omega) (by rw [hkp53.2.2.1, hkp53.2.2.2.2.1, tvc18_3]; exact hq18.2 c_21)
        have hF67 : zFr f g67 o (o + 681) := zFr.trans hF53 (fun q hq => hs0 q (by omega))
        have hE : zc_make M a b how t = (z67, M67) := by unfold zc_make; exact zif_f d_9 (zlet_e e18 (zif_f c_21 (zlet_e e31 (zif_t c_35 (zlet_e em53 (zlet_e e67 (zlet_e em67 rfl)))))))
        rw [← hQ]
        exact z_iret (z := z67) CX hW (by rw [hE]; exact ⟨rfl, hP67, hC67, hF67, trivial⟩) rfl dX11_make_70
      ·
        have d_35 : ¬ 1 ≤ z31 := by omega
        refine lv_aload_n hX0 hB0 dX11_make_38 rfl (lv_at hl 0 rfl) ?_
        refine lv_iconst (v := zI 3) hX0 hB0 dX11_make_39 rfl ?_
        refine z_callv hW (va_runV (C := RX11) (As := [.int (zI 3)]) (rest := []) CX.fix (zd_refuse l o M18 3 hP18 hC18 (by constructor <;> omega)) (cwV 1 CX.fix.2.2.2.2 gX11_make_X11_refuse rfl rfl rfl (by decide +kernel) ⟨Nat.le_of_ble_eq_true rfl, Nat.le_of_ble_eq_true rfl⟩) (z_preV CX hW (r := (RX11, TX11, 13)) (show g18 o = _ from hP18.c0) rfl) rfl rfl hl.1 rfl (lv_room (Nat.le_of_ble_eq_true rfl)) dX11_make_40 ⟨Nat.zero_le _, Nat.zero_le _⟩) (fun g40 H locs hok hW => ?_)
        obtain ⟨hp, hc, hfr, hq40⟩ := hok
        obtain ⟨M40, e40⟩ : ∃ Mq, zc_refuse M18 3 = Mq := ⟨_, rfl⟩
        rw [e40] at hp hc
        try rw [e40] at hq40
        have hP40 := hp
        have hC40 := hc
        have hF40 : zFr f g40 o (o + 681) := zFr.trans hF18 hfr
        clear hp hc hfr
        refine lv_iconst (v := zI (-1)) hX0 hB0 dX11_make_43 rfl ?_
        have hE : zc_make M a b how t = (-1, M40) := by unfold zc_make; exact zif_f d_9 (zlet_e e18 (zif_f c_21 (zlet_e e31 (zif_f d_35 (zlet_e e40 rfl)))))
        rw [← hQ]
        exact z_iret (z := -1) CX hW (by rw [hE]; exact ⟨rfl, hP40, hC40, hF40, trivial⟩) rfl dX11_make_44
noncomputable def zc_drop (M : zCt) (cv : Int) : Int × zCt := (if 0 ≤ cv ∧ cv < M.1 0 4 ∧ cv < 6 then zlet (ztop (M.2.1 cv.toNat)) (fun z21 => zlet (zw_keep M) (fun M33 => zlet (zw_remove M33 cv) (fun M41 => (z21, M41)))) else zlet (zc_refuse M 3) (fun M15 => (-1, M15)))
set_option maxRecDepth 100000 in
set_option maxHeartbeats 4000000 in
theorem zd_drop (l : Launch) {D : va_G} {cI cJ cZ cP cS cM : ClassId} {L : List Nat} {sz : Nat} {f : Nat → va_E} (o : Nat) (M : zCt) (cv : Int) (hP : zCP cI cP cS cZ cM o M f) (hC : zCI M) (hcv : -2147483648 ≤ cv ∧ cv ≤ 2147483647) : zMi l yX11_drop wsX11_drop 4 96 D (zT cI cJ cZ cP cS cM) L sz f [.ref o, .int (zI cv)] (fun zv gv => zv = (zc_drop M cv).1 ∧ zCP cI cP cS cZ cM o (zc_drop M cv).2 gv ∧ zCI (zc_drop M cv).2 ∧ zFr f gv o (o + 681) ∧ True) := by
  refine zWalk.met (nL := 4) (ret := (some .int)) (cc := cX11_drop) (by decide) rfl (Nat.le_of_ble_eq_true rfl) ?_
  intro pg en st mi ag bl mt cd ls CX hW hl
  have CX : zC pg st mi ag mt cd cX11_drop 4 (some .int) RX11 wsX11_drop := CX
  generalize hQ : MQ bl _ ag st 0 0 _ = Q
  have hX0 := CX.1
  have hB0 := CX.2.1
  have hl : lv_has ls 4 [(0, .ref o), (1, .int (zI cv))] := hl
  obtain ⟨H, eH⟩ : ∃ H, H = st.heap := ⟨_, rfl⟩
  obtain ⟨locs, eL⟩ : ∃ L : List Loc, L = [] := ⟨_, rfl⟩
  have hW : zW D (zT cI cJ cZ cP cS cM) L (zQ L sz) st f st.heap H locs := by rw [eH, eL]; exact hW
  suffices hgo : W pg l en ({ frames := 4, cells := 0, slots := 0, locals := 96 } : Room) st mi ag bl mt cd H locs 0 0 Q (F0 mi 0 ls []) by rw [eH, eL] at hgo; exact hgo
  clear eH eL
  have hpb := hC.p
  have hnb := hC.cn
  refine lv_aload_n hX0 hB0 dX11_drop_0 rfl (lv_at hl 0 rfl) ?_
  refine z_get (Cn := RX11) (T := TX11) (N := 13) CX hW (v := .ref (o + 289)) (show f o = _ from hP.c0) rfl (fun w h => List.mem_cons_of_mem _ (List.mem_append_left _ (List.mem_append_left _ (List.mem_append_left _ (List.mem_append_right _ h))))) 1 (by decide) (List.mem_of_getElem? (i := 1) rfl) rfl rfl dX11_drop_1 ?_
  refine lv_iload_n hX0 hB0 dX11_drop_4 rfl (lv_at hl 1 rfl) ?_
  refine z_callr hW (va_runV (C := RX7) (As := [.int (zI cv)]) (rest := []) CX.fix (c_find l (o + 289) (M.1 0 3) (M.1 0 4) M.2.1 (M.1 3) cv hP.c3 (by omega) (by constructor <;> omega)) (cwV 1 CX.fix.2.2.2.2 gX11_drop_X7_find rfl rfl rfl (by decide +kernel) ⟨Nat.le_of_ble_eq_true rfl, Nat.le_of_ble_eq_true rfl⟩) (z_preV CX hW (r := (RX7, TX7, 4)) hP.c3.1 rfl) rfl rfl hl.1 rfl (lv_room (Nat.le_of_ble_eq_true rfl)) dX11_drop_5 ⟨Nat.zero_le _, Nat.zero_le _⟩) (fun z5 g5 H locs hok hW => ?_)
  obtain ⟨hz, hg⟩ := hok
  rw [hz]
  rw [hg] at hW
  clear hg
  by_cases cf_cv_8 : 0 ≤ cv ∧ cv < M.1 0 4 ∧ cv < 6
  ·
    have hzf := zfind_p (a := o + 289) cf_cv_8
    rw [hzf]
    clear hzf
    refine lv_astore_n (lv' := [(2, .ref (o + 289 + 3 + 2 * cv.toNat)), (0, .ref o), (1, .int (zI cv))]) hX0 hB0 dX11_drop_8 rfl hl (by decide) rfl (fun ls hl => ?_)
    refine lv_aload_n hX0 hB0 dX11_drop_9 rfl (lv_at hl 0 rfl) ?_
    refine lv_ifnonnull (tgt := 20) hX0 hB0 dX11_drop_10 (by decide) ?_
    refine lv_aload_n hX0 hB0 dX11_drop_20 rfl (lv_at hl 0 rfl) ?_
    refine z_calli hW (va_runV (C := RX2) (As := []) (rest := []) CX.fix (c_top l (o + 289 + 3 + 2 * cv.toNat) (o + 289 + 3 + 2 * cv.toNat + 1) (M.2.1 cv.toNat) (hP.poly (k := cv.toNat) (by omega)).1 (hP.poly (k := cv.toNat) (by omega)).2 (hC.poly31 (k := cv) (by omega) (by omega))) (cwV 0 CX.fix.2.2.2.2 gX11_drop_X2_top rfl rfl rfl (by decide +kernel) ⟨Nat.le_of_ble_eq_true rfl, Nat.le_of_ble_eq_true rfl⟩) (z_preV CX hW (r := (RX2, TX2, 1)) (hP.poly (k := cv.toNat) (by omega)).1 rfl) rfl rfl hl.1 rfl (lv_room (Nat.le_of_ble_eq_true rfl)) dX11_drop_21 ⟨Nat.zero_le _, Nat.zero_le _⟩) (fun z21 g21 H locs hok hW => ?_)
    obtain ⟨hz, hg⟩ := hok
    have e21 : ztop (M.2.1 cv.toNat) = z21 := hz.symm
    have htp21 := ztop_rng (M.2.1 cv.toNat)
    rw [e21] at htp21
    rw [hg] at hW
    clear hg
    refine lv_istore_n (lv' := [(3, .int (zI z21)), (2, .ref (o + 289 + 3 + 2 * cv.toNat)), (0, .ref o), (1, .int (zI cv))]) hX0 hB0 dX11_drop_24 rfl hl (by decide) rfl (fun ls hl => ?_)
    refine lv_aload_n hX0 hB0 dX11_drop_25 rfl (lv_at hl 2 rfl) ?_
    refine z_get (Cn := RX11) (T := TX11) (N := 13) CX hW (v := .ref (o + 304)) (show f o = _ from hP.c0) rfl (fun w h => List.mem_cons_of_mem _ (List.mem_append_left _ (List.mem_append_left _ (List.mem_append_left _ (List.mem_append_right _ h))))) 2 (by decide) (List.mem_of_getElem? (i := 2) rfl) rfl rfl dX11_drop_26 ?_
    refine lv_aload_n hX0 hB0 dX11_drop_29 rfl (lv_at hl 2 rfl) ?_
    refine z_get (Cn := RX11) (T := TX11) (N := 13) CX hW (v := .ref (o + 289)) (show f o = _ from hP.c0) rfl (fun w h => List.mem_cons_of_mem _ (List.mem_append_left _ (List.mem_append_left _ (List.mem_append_left _ (List.mem_append_right _ h))))) 1 (by decide) (List.mem_of_getElem? (i := 1) rfl) rfl rfl dX11_drop_30 ?_
    refine z_callv hW (va_runV (C := RX1) (As := [.ref (o + 289)]) (rest := []) CX.fix (c_keep l (o + 304) (M.1 0 5) (M.1 0 6) (M.1 40) (M.1 41) M.2.2.2.1 M.2.2.1 (o + 289) (M.1 0 3) (M.1 0 4) M.2.1 (M.1 3) hP.c4 hC.ct hC.nx hP.c3 (by omega)) (cwV 1 CX.fix.2.2.2.2 gX11_drop_X1_keep rfl rfl rfl (by decide +kernel) ⟨Nat.le_of_ble_eq_true rfl, Nat.le_of_ble_eq_true rfl⟩) (z_preV CX hW (r := (RX1, TX1, 3)) hP.c4.1 rfl) rfl rfl hl.1 rfl (lv_room (Nat.le_of_ble_eq_true rfl)) dX11_drop_33 ⟨Nat.zero_le _, Nat.zero_le _⟩) (fun g33 H locs hok hW => ?_)
    obtain ⟨hs0, hx⟩ := hok
    obtain ⟨M33, em33⟩ : ∃ Mq, zw_keep M = Mq := ⟨_, rfl⟩
    have hP33 : zCP cI cP cS cZ cM o M33 g33 := by rw [← em33]; exact zr_keep hP hs0 hx
    have hC33 : zCI M33 := by rw [← em33]; exact zi_keep hC
    have hF33 : zFr f g33 o (o + 681) := zFr.trans zFr.refl (fun q hq => hs0 q (by omega))
    have hkp33 := zk_keep (M := M)
    rw [em33] at hkp33
    refine lv_aload_n hX0 hB0 dX11_drop_36 rfl (lv_at hl 2 rfl) ?_
    refine z_get (Cn := RX11) (T := TX11) (N := 13) CX hW (v := .ref (o + 289)) (show g33 o = _ from hP33.c0) rfl (fun w h => List.mem_cons_of_mem _ (List.mem_append_left _ (List.mem_append_left _ (List.mem_append_left _ (List.mem_append_right _ h))))) 1 (by decide) (List.mem_of_getElem? (i := 1) rfl) rfl rfl dX11_drop_37 ?_
    refine lv_iload_n hX0 hB0 dX11_drop_40 rfl (lv_at hl 3 rfl) ?_
    refine z_callv hW (va_runV (C := RX7) (As := [.int (zI cv)]) (rest := []) CX.fix (c_shelfremove l (o + 289) (M33.1 0 3) (M33.1 0 4) M33.2.1 (M33.1 3) cv hP33.c3 (by omega) (by constructor <;> omega)) (cwV 1 CX.fix.2.2.2.2 gX11_drop_X7_remove rfl rfl rfl (by decide +kernel) ⟨Nat.le_of_ble_eq_true rfl, Nat.le_of_ble_eq_true rfl⟩) (z_preV CX hW (r := (RX7, TX7, 4)) hP33.c3.1 rfl) rfl rfl hl.1 rfl (lv_room (Nat.le_of_ble_eq_true rfl)) dX11_drop_41 ⟨Nat.zero_le _, Nat.zero_le _⟩) (fun g41 H locs hok hW => ?_)
    obtain ⟨hs0, hx⟩ := hok.2 (by omega)
    obtain ⟨M41, em41⟩ : ∃ Mq, zw_remove M33 cv = Mq := ⟨_, rfl⟩
    have hP41 : zCP cI cP cS cZ cM o M41 g41 := by rw [← em41]; exact zr_remove hP33 hs0 hx
    have hC41 : zCI M41 := by rw [← em41]; exact zi_remove hC33 (by omega)
    have hF41 : zFr f g41 o (o + 681) := zFr.trans hF33 (fun q hq => hs0 q (by omega))
    refine lv_iload_n hX0 hB0 dX11_drop_44 rfl (lv_at hl 0 rfl) ?_
    have hE : zc_drop M cv = (z21, M41) := by unfold zc_drop; exact zif_t cf_cv_8 (zlet_e e21 (zlet_e em33 (zlet_e em41 rfl)))
    rw [← hQ]
    exact z_iret (z := z21) CX hW (by rw [hE]; exact ⟨rfl, hP41, hC41, hF41, trivial⟩) rfl dX11_drop_45
  ·
    have hzf := zfind_n (a := o + 289) cf_cv_8
    rw [hzf]
    clear hzf
    refine lv_astore_nN (lv' := [(2, .null), (0, .ref o), (1, .int (zI cv))]) hX0 hB0 dX11_drop_8 rfl hl (by decide) rfl (fun ls hl => ?_)
    refine lv_aload_nN hX0 hB0 dX11_drop_9 rfl (lv_at hl 0 rfl) ?_
    refine lv_ifnonnullN hX0 hB0 dX11_drop_10 ?_
    refine lv_aload_n hX0 hB0 dX11_drop_13 rfl (lv_at hl 1 rfl) ?_
    refine lv_iconst (v := zI 3) hX0 hB0 dX11_drop_14 rfl ?_
    refine z_callv hW (va_runV (C := RX11) (As := [.int (zI 3)]) (rest := []) CX.fix (zd_refuse l o M 3 hP hC (by constructor <;> omega)) (cwV 1 CX.fix.2.2.2.2 gX11_drop_X11_refuse rfl rfl rfl (by decide +kernel) ⟨Nat.le_of_ble_eq_true rfl, Nat.le_of_ble_eq_true rfl⟩) (z_preV CX hW (r := (RX11, TX11, 13)) (show f o = _ from hP.c0) rfl) rfl rfl hl.1 rfl (lv_room (Nat.le_of_ble_eq_true rfl)) dX11_drop_15 ⟨Nat.zero_le _, Nat.zero_le _⟩) (fun g15 H locs hok hW => ?_)
    obtain ⟨hp, hc, hfr, hq15⟩ := hok
    obtain ⟨M15, e15⟩ : ∃ Mq, zc_refuse M 3 = Mq := ⟨_, rfl⟩
    rw [e15] at hp hc
    try rw [e15] at hq15
    have hP15 := hp
    have hC15 := hc
    have hF15 : zFr f g15 o (o + 681) := zFr.trans zFr.refl hfr
    clear hp hc hfr
    refine lv_iconst (v := zI (-1)) hX0 hB0 dX11_drop_18 rfl ?_
    have hE : zc_drop M cv = (-1, M15) := by unfold zc_drop; exact zif_f cf_cv_8 (zlet_e e15 rfl)
    rw [← hQ]
    exact z_iret (z := -1) CX hW (by rw [hE]; exact ⟨rfl, hP15, hC15, hF15, trivial⟩) rfl dX11_drop_19
noncomputable def zc_undo (M : zCt)  : Int × zCt := zlet ((if M.1 0 5 = 0 then (0 : Int) else 1)) (fun z8 => zlet (zw_undo M) (fun M8 => (if z8 = 0 then zlet (zc_refuse M8 4) (fun M16 => (0, M16)) else (1, M8))))
set_option maxRecDepth 100000 in
set_option maxHeartbeats 4000000 in
theorem zd_undo (l : Launch) {D : va_G} {cI cJ cZ cP cS cM : ClassId} {L : List Nat} {sz : Nat} {f : Nat → va_E} (o : Nat) (M : zCt)  (hP : zCP cI cP cS cZ cM o M f) (hC : zCI M)  : zMi l yX11_undo wsX11_undo 4 96 D (zT cI cJ cZ cP cS cM) L sz f [.ref o] (fun zv gv => zv = (zc_undo M).1 ∧ zCP cI cP cS cZ cM o (zc_undo M).2 gv ∧ zCI (zc_undo M).2 ∧ zFr f gv o (o + 681) ∧ True) := by
  refine zWalk.met (nL := 1) (ret := (some .boolean)) (cc := cX11_undo) (by decide) rfl (Nat.le_of_ble_eq_true rfl) ?_
  intro pg en st mi ag bl mt cd ls CX hW hl
  have CX : zC pg st mi ag mt cd cX11_undo 1 (some .boolean) RX11 wsX11_undo := CX
  generalize hQ : MQ bl _ ag st 0 0 _ = Q
  have hX0 := CX.1
  have hB0 := CX.2.1
  have hl : lv_has ls 1 [(0, .ref o)] := hl
  obtain ⟨H, eH⟩ : ∃ H, H = st.heap := ⟨_, rfl⟩
  obtain ⟨locs, eL⟩ : ∃ L : List Loc, L = [] := ⟨_, rfl⟩
  have hW : zW D (zT cI cJ cZ cP cS cM) L (zQ L sz) st f st.heap H locs := by rw [eH, eL]; exact hW
  suffices hgo : W pg l en ({ frames := 4, cells := 0, slots := 0, locals := 96 } : Room) st mi ag bl mt cd H locs 0 0 Q (F0 mi 0 ls []) by rw [eH, eL] at hgo; exact hgo
  clear eH eL
  have hpb := hC.p
  have hnb := hC.cn
  refine lv_aload_n hX0 hB0 dX11_undo_0 rfl (lv_at hl 0 rfl) ?_
  refine z_get (Cn := RX11) (T := TX11) (N := 13) CX hW (v := .ref (o + 304)) (show f o = _ from hP.c0) rfl (fun w h => List.mem_cons_of_mem _ (List.mem_append_left _ (List.mem_append_left _ (List.mem_append_left _ (List.mem_append_right _ h))))) 2 (by decide) (List.mem_of_getElem? (i := 1) rfl) rfl rfl dX11_undo_1 ?_
  refine lv_aload_n hX0 hB0 dX11_undo_4 rfl (lv_at hl 0 rfl) ?_
  refine z_get (Cn := RX11) (T := TX11) (N := 13) CX hW (v := .ref (o + 289)) (show f o = _ from hP.c0) rfl (fun w h => List.mem_cons_of_mem _ (List.mem_append_left _ (List.mem_append_left _ (List.mem_append_left _ (List.mem_append_right _ h))))) 1 (by decide) (List.mem_of_getElem? (i := 2) rfl) rfl rfl dX11_undo_5 ?_
  refine z_calli hW (va_runV (C := RX1) (As := [.ref (o + 289)]) (rest := []) CX.fix (c_back l (o + 304) (M.1 0 5) (M.1 0 6) (M.1 40) (M.1 41) M.2.2.2.1 M.2.2.1 (o + 289) (M.1 0 3) (M.1 0 4) M.2.1 (M.1 3) hP.c4 hC.ct hC.nx hP.c3 (by omega)) (cwV 1 CX.fix.2.2.2.2 gX11_undo_X1_back rfl rfl rfl (by decide +kernel) ⟨Nat.le_of_ble_eq_true rfl, Nat.le_of_ble_eq_true rfl⟩) (z_preV CX hW (r := (RX1, TX1, 3)) hP.c4.1 rfl) rfl rfl hl.1 rfl (lv_room (Nat.le_of_ble_eq_true rfl)) dX11_undo_8 ⟨Nat.zero_le _, Nat.zero_le _⟩) (fun z8 g8 H locs hok hW => ?_)
  obtain ⟨hu1, hs0, hz⟩ := zr_undo hP hC.ct.1 hok
  have e8 : (if M.1 0 5 = 0 then (0 : Int) else 1) = z8 := hz
  have hb8 : 0 ≤ z8 ∧ z8 ≤ 1 := by rw [← e8]; split <;> omega
  obtain ⟨M8, em8⟩ : ∃ Mq, zw_undo M = Mq := ⟨_, rfl⟩
  have hP8 : zCP cI cP cS cZ cM o M8 g8 := by rw [← em8]; exact hu1
  have hC8 : zCI M8 := by rw [← em8]; exact zi_undo hC
  have hF8 : zFr f g8 o (o + 681) := zFr.trans zFr.refl (fun q hq => hs0 q (by omega) (by omega))
  refine z_if_ne (tgt := 21) CX dX11_undo_11 (by decide) (by constructor <;> omega) (fun c_11 => ?_) (fun c_11 => ?_)
  ·
    refine lv_iconst (v := zI 1) hX0 hB0 dX11_undo_21 rfl ?_
    have hE : zc_undo M = (1, M8) := by unfold zc_undo; exact zlet_e e8 (zlet_e em8 (zif_f c_11 rfl))
    rw [← hQ]
    exact z_iret (z := 1) CX hW (by rw [hE]; exact ⟨rfl, hP8, hC8, hF8, trivial⟩) rfl dX11_undo_22
  ·
    refine lv_aload_n hX0 hB0 dX11_undo_14 rfl (lv_at hl 0 rfl) ?_
    refine lv_iconst (v := zI 4) hX0 hB0 dX11_undo_15 rfl ?_
    refine z_callv hW (va_runV (C := RX11) (As := [.int (zI 4)]) (rest := []) CX.fix (zd_refuse l o M8 4 hP8 hC8 (by constructor <;> omega)) (cwV 1 CX.fix.2.2.2.2 gX11_undo_X11_refuse rfl rfl rfl (by decide +kernel) ⟨Nat.le_of_ble_eq_true rfl, Nat.le_of_ble_eq_true rfl⟩) (z_preV CX hW (r := (RX11, TX11, 13)) (show g8 o = _ from hP8.c0) rfl) rfl rfl hl.1 rfl (lv_room (Nat.le_of_ble_eq_true rfl)) dX11_undo_16 ⟨Nat.zero_le _, Nat.zero_le _⟩) (fun g16 H locs hok hW => ?_)
    obtain ⟨hp, hc, hfr, hq16⟩ := hok
    obtain ⟨M16, e16⟩ : ∃ Mq, zc_refuse M8 4 = Mq := ⟨_, rfl⟩
    rw [e16] at hp hc
    try rw [e16] at hq16
    have hP16 := hp
    have hC16 := hc
    have hF16 : zFr f g16 o (o + 681) := zFr.trans hF8 hfr
    clear hp hc hfr
    refine lv_iconst (v := zI 0) hX0 hB0 dX11_undo_19 rfl ?_
    have hE : zc_undo M = (0, M16) := by unfold zc_undo; exact zlet_e e8 (zlet_e em8 (zif_t c_11 (zlet_e e16 rfl)))
    rw [← hQ]
    exact z_iret (z := 0) CX hW (by rw [hE]; exact ⟨rfl, hP16, hC16, hF16, trivial⟩) rfl dX11_undo_20
end ZCk
