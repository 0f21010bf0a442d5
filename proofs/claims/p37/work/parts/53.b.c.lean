section ZCi
noncomputable def zc_refuse (M : zCt) (what : Int) : zCt := (if what < 0 then M else (if 5 ≤ what then M else zlet (zw_ref M what.toNat ((M.1 1 what.toNat) + 1)) (fun M18 => M18)))
set_option maxRecDepth 100000 in
set_option maxHeartbeats 4000000 in
theorem zd_refuse (l : Launch) {D : va_G} {cI cJ cZ cP cS cM : ClassId} {L : List Nat} {sz : Nat} {f : Nat → va_E} (o : Nat) (M : zCt) (what : Int) (hP : zCP cI cP cS cZ cM o M f) (hC : zCI M) (hwhat : -2147483648 ≤ what ∧ what ≤ 2147483647) : zMv l yX11_refuse wsX11_refuse 0 0 D (zT cI cJ cZ cP cS cM) L sz f [.ref o, .int (zI what)] (fun gv => zCP cI cP cS cZ cM o (zc_refuse M what) gv ∧ zCI (zc_refuse M what) ∧ zFr f gv o (o + 681) ∧ True) := by
  refine zWalk.met (nL := 2) (ret := none) (cc := cX11_refuse) (by decide) rfl (Nat.le_of_ble_eq_true rfl) ?_
  intro pg en st mi ag bl mt cd ls CX hW hl
  have CX : zC pg st mi ag mt cd cX11_refuse 2 none RX11 wsX11_refuse := CX
  generalize hQ : MQ bl _ ag st 0 0 _ = Q
  have hX0 := CX.1
  have hB0 := CX.2.1
  have hl : lv_has ls 2 [(0, .ref o), (1, .int (zI what))] := hl
  obtain ⟨H, eH⟩ : ∃ H, H = st.heap := ⟨_, rfl⟩
  obtain ⟨locs, eL⟩ : ∃ L : List Loc, L = [] := ⟨_, rfl⟩
  have hW : zW D (zT cI cJ cZ cP cS cM) L (zQ L sz) st f st.heap H locs := by rw [eH, eL]; exact hW
  suffices hgo : W pg l en ({ frames := 0, cells := 0, slots := 0, locals := 0 } : Room) st mi ag bl mt cd H locs 0 0 Q (F0 mi 0 ls []) by rw [eH, eL] at hgo; exact hgo
  clear eH eL
  have hpb := hC.p
  have hnb := hC.cn
  refine lv_iload_n hX0 hB0 dX11_refuse_0 rfl (lv_at hl 1 rfl) ?_
  refine z_if_lt (tgt := 19) CX dX11_refuse_1 (by decide) (by constructor <;> omega) (fun c_1 => ?_) (fun c_1 => ?_)
  ·
    have hE : zc_refuse M what = M := by unfold zc_refuse; exact zif_t c_1 rfl
    rw [← hQ]
    exact z_vret CX hW (by rw [hE]; exact ⟨hP, hC, zFr.refl, trivial⟩) dX11_refuse_19
  ·
    have d_1 : ¬ what < 0 := by omega
    refine lv_iload_n hX0 hB0 dX11_refuse_4 rfl (lv_at hl 1 rfl) ?_
    refine lv_iconst (v := zI 5) hX0 hB0 dX11_refuse_5 rfl ?_
    refine z_icmp_ge (tgt := 19) CX dX11_refuse_6 (by decide) (by constructor <;> omega) (by constructor <;> omega) (fun c_6 => ?_) (fun c_6 => ?_)
    ·
      have hE : zc_refuse M what = M := by unfold zc_refuse; exact zif_f d_1 (zif_t c_6 rfl)
      rw [← hQ]
      exact z_vret CX hW (by rw [hE]; exact ⟨hP, hC, zFr.refl, trivial⟩) dX11_refuse_19
    ·
      have d_6 : ¬ 5 ≤ what := by omega
      refine lv_aload_n hX0 hB0 dX11_refuse_9 rfl (lv_at hl 0 rfl) ?_
      refine z_get (Cn := RX11) (T := TX11) (N := 13) CX hW (v := .ref (o + 680)) (show f o = _ from hP.c0) rfl (fun w h => List.mem_cons_of_mem _ (List.mem_append_right _ h)) 10 (by decide) (List.mem_of_getElem? (i := 1) rfl) rfl rfl dX11_refuse_10 ?_
      refine lv_iload_n hX0 hB0 dX11_refuse_13 rfl (lv_at hl 1 rfl) ?_
      refine lv_dup2_11 hX0 hB0 dX11_refuse_14 rfl rfl ?_
      refine z_iald (z := M.1 1 what.toNat) CX hW hP.c12 0 rfl (by refine ⟨?_, ?_, ?_⟩ <;> omega) rfl dX11_refuse_15 ?_
      refine lv_iconst (v := zI 1) hX0 hB0 dX11_refuse_16 rfl ?_
      refine z_iadd (z := (M.1 1 what.toNat) + 1) CX dX11_refuse_17 rfl ?_
      refine z_iast CX hW (show f (o + 680) = zA cI 5 (M.1 1) from hP.c12) 0 rfl (by refine ⟨?_, ?_, ?_⟩ <;> omega) (g := va_up f (o + 680) (zA cI 5 (zup (M.1 1) what.toNat ((M.1 1 what.toNat) + 1)))) rfl dX11_refuse_18 (fun H locs hW => ?_)
      obtain ⟨M18, em18⟩ : ∃ Mq, zw_ref M what.toNat ((M.1 1 what.toNat) + 1) = Mq := ⟨_, rfl⟩
      have hP18 : zCP cI cP cS cZ cM o M18 (va_up f (o + 680) (zA cI 5 (zup (M.1 1) what.toNat ((M.1 1 what.toNat) + 1)))) := by rw [← em18]; exact zr_ref hP rfl
      have hC18 : zCI M18 := by rw [← em18]; exact (show zCI _ from hC)
      have hF18 : zFr f (va_up f (o + 680) (zA cI 5 (zup (M.1 1) what.toNat ((M.1 1 what.toNat) + 1)))) o (o + 681) := zFr.trans zFr.refl (fun q hq => va_up_ne _ _ (by omega))
      have hE : zc_refuse M what = M18 := by unfold zc_refuse; exact zif_f d_1 (zif_f d_6 (zlet_e em18 rfl))
      rw [← hQ]
      exact z_vret CX hW (by rw [hE]; exact ⟨hP18, hC18, hF18, trivial⟩) dX11_refuse_19
noncomputable def zc_lookAt (M : zCt) (cv : Int) (pt : Int) : Int × zCt := (if 0 ≤ cv ∧ cv < M.1 0 4 ∧ cv < 6 then zlet (bI (zpt pt (M.1 0 3))) (fun z25 => zlet (zw_go M pt (M.1 0 3)) (fun M25 => (if z25 = 0 then (0, M25) else zlet (zw_look1 M25 (M25.2.1 cv.toNat) (M25.1 0 3)) (fun M49 => (1, M49))))) else (0, M))
set_option maxRecDepth 100000 in
set_option maxHeartbeats 4000000 in
theorem zd_lookAt (l : Launch) {D : va_G} {cI cJ cZ cP cS cM : ClassId} {L : List Nat} {sz : Nat} {f : Nat → va_E} (o : Nat) (M : zCt) (cv : Int) (pt : Int) (hP : zCP cI cP cS cZ cM o M f) (hC : zCI M) (hcv : -2147483648 ≤ cv ∧ cv ≤ 2147483647) (hpt : -2147483648 ≤ pt ∧ pt ≤ 2147483647) : zMi l yX11_lookAt wsX11_lookAt 5 123 D (zT cI cJ cZ cP cS cM) L sz f [.ref o, .int (zI cv), .int (zI pt)] (fun zv gv => zv = (zc_lookAt M cv pt).1 ∧ zCP cI cP cS cZ cM o (zc_lookAt M cv pt).2 gv ∧ zCI (zc_lookAt M cv pt).2 ∧ zFr f gv o (o + 681) ∧ zVE (zc_lookAt M cv pt).2 M ∧ 0 ≤ zv ∧ zv ≤ 1 ∧ (zv ≠ 0 → (0 ≤ ((zc_lookAt M cv pt).2).1 0 10 ∧ ((zc_lookAt M cv pt).2).1 0 10 ≤ 31) ∧ (0 ≤ ((zc_lookAt M cv pt).2).1 0 11 ∧ ((zc_lookAt M cv pt).2).1 0 11 ≤ 31) ∧ 0 ≤ ((zc_lookAt M cv pt).2).1 0 12 ∧ ((zc_lookAt M cv pt).2).1 0 12 ≤ 1)) := by
  refine zWalk.met (nL := 4) (ret := (some .boolean)) (cc := cX11_lookAt) (by decide) rfl (Nat.le_of_ble_eq_true rfl) ?_
  intro pg en st mi ag bl mt cd ls CX hW hl
  have CX : zC pg st mi ag mt cd cX11_lookAt 4 (some .boolean) RX11 wsX11_lookAt := CX
  generalize hQ : MQ bl _ ag st 0 0 _ = Q
  have hX0 := CX.1
  have hB0 := CX.2.1
  have hl : lv_has ls 4 [(0, .ref o), (1, .int (zI cv)), (2, .int (zI pt))] := hl
  obtain ⟨H, eH⟩ : ∃ H, H = st.heap := ⟨_, rfl⟩
  obtain ⟨locs, eL⟩ : ∃ L : List Loc, L = [] := ⟨_, rfl⟩
  have hW : zW D (zT cI cJ cZ cP cS cM) L (zQ L sz) st f st.heap H locs := by rw [eH, eL]; exact hW
  suffices hgo : W pg l en ({ frames := 5, cells := 0, slots := 0, locals := 123 } : Room) st mi ag bl mt cd H locs 0 0 Q (F0 mi 0 ls []) by rw [eH, eL] at hgo; exact hgo
  clear eH eL
  have hpb := hC.p
  have hnb := hC.cn
  refine lv_aload_n hX0 hB0 dX11_lookAt_0 rfl (lv_at hl 0 rfl) ?_
  refine z_get (Cn := RX11) (T := TX11) (N := 13) CX hW (v := .ref (o + 289)) (show f o = _ from hP.c0) rfl (fun w h => List.mem_cons_of_mem _ (List.mem_append_left _ (List.mem_append_left _ (List.mem_append_left _ (List.mem_append_left _ (List.mem_append_right _ h)))))) 1 (by decide) (List.mem_of_getElem? (i := 1) rfl) rfl rfl dX11_lookAt_1 ?_
  refine lv_iload_n hX0 hB0 dX11_lookAt_4 rfl (lv_at hl 1 rfl) ?_
  refine z_callr hW (va_runV (C := RX7) (As := [.int (zI cv)]) (rest := []) CX.fix (c_find l (o + 289) (M.1 0 3) (M.1 0 4) M.2.1 (M.1 3) cv hP.c3 (by omega) (by constructor <;> omega)) (cwV 1 CX.fix.2.2.2.2 gX11_lookAt_X7_find rfl rfl rfl (by decide +kernel) ⟨Nat.le_of_ble_eq_true rfl, Nat.le_of_ble_eq_true rfl⟩) (z_preV CX hW (r := (RX7, TX7, 4)) hP.c3.1 rfl) rfl rfl hl.1 rfl (lv_room (Nat.le_of_ble_eq_true rfl)) dX11_lookAt_5 ⟨Nat.zero_le _, Nat.zero_le _⟩) (fun z5 g5 H locs hok hW => ?_)
  obtain ⟨hz, hg⟩ := hok
  rw [hz]
  rw [hg] at hW
  clear hg
  by_cases cf_cv_8 : 0 ≤ cv ∧ cv < M.1 0 4 ∧ cv < 6
  ·
    have hzf := zfind_p (a := o + 289) cf_cv_8
    rw [hzf]
    clear hzf
    refine lv_astore_n (lv' := [(3, .ref (o + 289 + 3 + 2 * cv.toNat)), (0, .ref o), (1, .int (zI cv)), (2, .int (zI pt))]) hX0 hB0 dX11_lookAt_8 rfl hl (by decide) rfl (fun ls hl => ?_)
    refine lv_aload_n hX0 hB0 dX11_lookAt_9 rfl (lv_at hl 0 rfl) ?_
    refine lv_ifnull hX0 hB0 dX11_lookAt_10 ?_
    refine lv_aload_n hX0 hB0 dX11_lookAt_13 rfl (lv_at hl 1 rfl) ?_
    refine z_get (Cn := RX11) (T := TX11) (N := 13) CX hW (v := .ref (o + 606)) (show f o = _ from hP.c0) rfl (fun w h => List.mem_cons_of_mem _ (List.mem_append_left _ (List.mem_append_left _ (List.mem_append_left _ (List.mem_append_left _ (List.mem_append_right _ h)))))) 3 (by decide) (List.mem_of_getElem? (i := 2) rfl) rfl rfl dX11_lookAt_14 ?_
    refine lv_iload_n hX0 hB0 dX11_lookAt_17 rfl (lv_at hl 3 rfl) ?_
    refine lv_aload_n hX0 hB0 dX11_lookAt_18 rfl (lv_at hl 1 rfl) ?_
    refine z_get (Cn := RX11) (T := TX11) (N := 13) CX hW (v := .ref (o + 289)) (show f o = _ from hP.c0) rfl (fun w h => List.mem_cons_of_mem _ (List.mem_append_left _ (List.mem_append_left _ (List.mem_append_left _ (List.mem_append_left _ (List.mem_append_right _ h)))))) 1 (by decide) (List.mem_of_getElem? (i := 1) rfl) rfl rfl dX11_lookAt_19 ?_
    refine z_get (Cn := RX7) (T := TX7) (N := 4) CX hW (v := .int (zI (M.1 0 3))) hP.c3.1 rfl (fun w h => List.mem_cons_of_mem _ (List.mem_append_left _ (List.mem_append_left _ (List.mem_append_left _ (List.mem_append_right _ h))))) 0 (by decide) (List.mem_of_getElem? (i := 3) rfl) rfl rfl dX11_lookAt_22 ?_
    have hr22 := hC.p
    refine z_calli hW (va_runV (C := RX9) (As := [.int (zI pt), .int (zI (M.1 0 3))]) (rest := []) CX.fix (c_go l (o + 606) (M.1 0 10) (M.1 0 11) (M.1 0 12) pt (M.1 0 3) hP.c5 (by constructor <;> omega) (by omega)) (cwV 2 CX.fix.2.2.2.2 gX11_lookAt_X9_go rfl rfl rfl (by decide +kernel) ⟨Nat.le_of_ble_eq_true rfl, Nat.le_of_ble_eq_true rfl⟩) (z_preV CX hW (r := (RX9, TX9, 3)) (show f (o + 606) = _ from hP.c5) rfl) rfl rfl hl.1 rfl (lv_room (Nat.le_of_ble_eq_true rfl)) dX11_lookAt_25 ⟨Nat.zero_le _, Nat.zero_le _⟩) (fun z25 g25 H locs hok hW => ?_)
    obtain ⟨hz, hg⟩ := hok
    have e25 : bI (zpt pt (M.1 0 3)) = z25 := hz.symm
    have hb25 := bI_01 (zpt pt (M.1 0 3))
    rw [e25] at hb25
    obtain ⟨M25, em25⟩ : ∃ Mq, zw_go M pt (M.1 0 3) = Mq := ⟨_, rfl⟩
    have hP25 : zCP cI cP cS cZ cM o M25 g25 := by rw [← em25]; exact zr_go hP hg
    have hC25 : zCI M25 := by rw [← em25]; exact zi_go hC
    have hV25 : zVE M25 M := zVE.tr (by rw [← em25]; exact zv_go) zVE.rf
    have tv25_3 : M25.1 0 3 = M.1 0 3 := hV25.2 0 3 (by omega) (by omega)
    have tv25_4 : M25.1 0 4 = M.1 0 4 := hV25.2 0 4 (by omega) (by omega)
    have hF25 : zFr f g25 o (o + 681) := zFr.trans zFr.refl (fun q hq => by rw [hg]; exact va_up_ne _ _ (by omega))
    have hgo25 : ¬ z25 = 0 → (M25.1 0 10 = zpx pt (M.1 0 3) ∧ M25.1 0 11 = zpy pt (M.1 0 3) ∧ M25.1 0 12 = zpz pt (M.1 0 3)) ∧ (0 ≤ M25.1 0 10 ∧ M25.1 0 10 < (M.1 0 3)) ∧ (0 ≤ M25.1 0 11 ∧ M25.1 0 11 < (M.1 0 3)) ∧ 0 ≤ M25.1 0 12 ∧ M25.1 0 12 ≤ 1 := fun hz0 => by rw [← em25]; exact zgo_rng (by omega) (by rw [e25]; exact hz0)
    skip
    skip
    skip
    refine z_if_ne (tgt := 33) CX dX11_lookAt_28 (by decide) (by constructor <;> omega) (fun c_28 => ?_) (fun c_28 => ?_)
    ·
      refine lv_aload_n hX0 hB0 dX11_lookAt_33 rfl (lv_at hl 1 rfl) ?_
      refine z_get (Cn := RX11) (T := TX11) (N := 13) CX hW (v := .ref (o + 607)) (show g25 o = _ from hP25.c0) rfl (fun w h => List.mem_cons_of_mem _ (List.mem_append_left _ (List.mem_append_left _ (List.mem_append_left _ (List.mem_append_left _ (List.mem_append_right _ h)))))) 4 (by decide) (List.mem_of_getElem? (i := 4) rfl) rfl rfl dX11_lookAt_34 ?_
      refine lv_aload_n hX0 hB0 dX11_lookAt_37 rfl (lv_at hl 0 rfl) ?_
      refine lv_aload_n hX0 hB0 dX11_lookAt_38 rfl (lv_at hl 1 rfl) ?_
      refine z_get (Cn := RX11) (T := TX11) (N := 13) CX hW (v := .ref (o + 606)) (show g25 o = _ from hP25.c0) rfl (fun w h => List.mem_cons_of_mem _ (List.mem_append_left _ (List.mem_append_left _ (List.mem_append_left _ (List.mem_append_left _ (List.mem_append_right _ h)))))) 3 (by decide) (List.mem_of_getElem? (i := 2) rfl) rfl rfl dX11_lookAt_39 ?_
      refine lv_aload_n hX0 hB0 dX11_lookAt_42 rfl (lv_at hl 1 rfl) ?_
      refine z_get (Cn := RX11) (T := TX11) (N := 13) CX hW (v := .ref (o + 289)) (show g25 o = _ from hP25.c0) rfl (fun w h => List.mem_cons_of_mem _ (List.mem_append_left _ (List.mem_append_left _ (List.mem_append_left _ (List.mem_append_left _ (List.mem_append_right _ h)))))) 1 (by decide) (List.mem_of_getElem? (i := 1) rfl) rfl rfl dX11_lookAt_43 ?_
      refine z_get (Cn := RX7) (T := TX7) (N := 4) CX hW (v := .int (zI (M25.1 0 3))) hP25.c3.1 rfl (fun w h => List.mem_cons_of_mem _ (List.mem_append_left _ (List.mem_append_left _ (List.mem_append_left _ (List.mem_append_right _ h))))) 0 (by decide) (List.mem_of_getElem? (i := 3) rfl) rfl rfl dX11_lookAt_46 ?_
      have hr46 := hC25.p
      refine z_callv hW (va_runV (C := RX10) (As := [.ref (o + 289 + 3 + 2 * cv.toNat), .ref (o + 606), .int (zI (M25.1 0 3))]) (rest := []) CX.fix (c_look l (o + 607) (M25.1 0 13) (M25.1 20) (M25.1 21) (o + 606) (M25.1 0 10) (M25.1 0 11) (M25.1 0 12) (o + 289 + 3 + 2 * cv.toNat) (o + 289 + 3 + 2 * cv.toNat + 1) (M25.2.1 cv.toNat) (M25.1 0 3) hP25.c6.1 hP25.c6.2.1 hP25.c6.2.2.1 hP25.c6.2.2.2 (by omega) hP25.c5 (by omega) (by omega) (by omega) (by omega) (hP25.poly (k := cv.toNat) (by omega)).1 (hP25.poly (k := cv.toNat) (by omega)).2 (hC25.poly (k := cv) (by omega) (by omega)) (by omega) (by omega)) (cwV 3 CX.fix.2.2.2.2 gX11_lookAt_X10_look rfl rfl rfl (by decide +kernel) ⟨Nat.le_of_ble_eq_true rfl, Nat.le_of_ble_eq_true rfl⟩) (z_preV CX hW (r := (RX10, TX10, 3)) hP25.c6.1 rfl) rfl rfl hl.1 rfl (lv_room (Nat.le_of_ble_eq_true rfl)) dX11_lookAt_49 ⟨Nat.zero_le _, Nat.zero_le _⟩) (fun g49 H locs hok hW => ?_)
      have hg := hok
      obtain ⟨M49, em49⟩ : ∃ Mq, zw_look1 M25 (M25.2.1 cv.toNat) (M25.1 0 3) = Mq := ⟨_, rfl⟩
      have hP49 : zCP cI cP cS cZ cM o M49 g49 := by rw [← em49]; exact zr_look1 hP25 hg
      have hC49 : zCI M49 := by rw [← em49]; exact zi_look1 hC25 (by omega)
      have hV49 : zVE M49 M := zVE.tr (by rw [← em49]; exact zv_look1) hV25
      have tv49_3 : M49.1 0 3 = M.1 0 3 := hV49.2 0 3 (by omega) (by omega)
      have tv49_4 : M49.1 0 4 = M.1 0 4 := hV49.2 0 4 (by omega) (by omega)
      have hF49 : zFr f g49 o (o + 681) := zFr.trans hF25 (fun q hq => by rw [hg, va_up_ne _ _ (by omega), va_up_ne _ _ (by omega)])
      have ts49_10 : M49.1 0 10 = M25.1 0 10 := by rw [← em49]; rfl
      have ts49_11 : M49.1 0 11 = M25.1 0 11 := by rw [← em49]; rfl
      have ts49_12 : M49.1 0 12 = M25.1 0 12 := by rw [← em49]; rfl
      refine lv_iconst (v := zI 1) hX0 hB0 dX11_lookAt_52 rfl ?_
      have hE : zc_lookAt M cv pt = (1, M49) := by unfold zc_lookAt; exact zif_t cf_cv_8 (zlet_e e25 (zlet_e em25 (zif_f c_28 (zlet_e em49 rfl))))
      rw [← hQ]
      exact z_iret (z := 1) CX hW (by rw [hE]; exact ⟨rfl, hP49, hC49, hF49, hV49, (show 0 ≤ (1 : Int) ∧ (1 : Int) ≤ 1 ∧ ((1 : Int) ≠ 0 → (0 ≤ M49.1 0 10 ∧ M49.1 0 10 ≤ 31) ∧ (0 ≤ M49.1 0 11 ∧ M49.1 0 11 ≤ 31) ∧ 0 ≤ M49.1 0 12 ∧ M49.1 0 12 ≤ 1) from by omega)⟩) rfl dX11_lookAt_53
    ·
      refine lv_iconst (v := zI 0) hX0 hB0 dX11_lookAt_31 rfl ?_
      have hE : zc_lookAt M cv pt = (0, M25) := by unfold zc_lookAt; exact zif_t cf_cv_8 (zlet_e e25 (zlet_e em25 (zif_t c_28 rfl)))
      rw [← hQ]
      exact z_iret (z := 0) CX hW (by rw [hE]; exact ⟨rfl, hP25, hC25, hF25, hV25, (show 0 ≤ (0 : Int) ∧ (0 : Int) ≤ 1 ∧ ((0 : Int) ≠ 0 → (0 ≤ M25.1 0 10 ∧ M25.1 0 10 ≤ 31) ∧ (0 ≤ M25.1 0 11 ∧ M25.1 0 11 ≤ 31) ∧ 0 ≤ M25.1 0 12 ∧ M25.1 0 12 ≤ 1) from by omega)⟩) rfl dX11_lookAt_32
  ·
    have hzf := zfind_n (a := o + 289) cf_cv_8
    rw [hzf]
    clear hzf
    refine lv_astore_nN (lv' := [(3, .null), (0, .ref o), (1, .int (zI cv)), (2, .int (zI pt))]) hX0 hB0 dX11_lookAt_8 rfl hl (by decide) rfl (fun ls hl => ?_)
    refine lv_aload_nN hX0 hB0 dX11_lookAt_9 rfl (lv_at hl 0 rfl) ?_
    refine lv_ifnullN (tgt := 31) hX0 hB0 dX11_lookAt_10 (by decide) ?_
    refine lv_iconst (v := zI 0) hX0 hB0 dX11_lookAt_31 rfl ?_
    have hE : zc_lookAt M cv pt = (0, M) := by unfold zc_lookAt; exact zif_f cf_cv_8 rfl
    rw [← hQ]
    exact z_iret (z := 0) CX hW (by rw [hE]; exact ⟨rfl, hP, hC, zFr.refl, zVE.rf, (show 0 ≤ (0 : Int) ∧ (0 : Int) ≤ 1 ∧ ((0 : Int) ≠ 0 → (0 ≤ M.1 0 10 ∧ M.1 0 10 ≤ 31) ∧ (0 ≤ M.1 0 11 ∧ M.1 0 11 ≤ 31) ∧ 0 ≤ M.1 0 12 ∧ M.1 0 12 ≤ 1) from by omega)⟩) rfl dX11_lookAt_32
noncomputable def zc_has (M : zCt) (what : Int) : Int × zCt := (if what = 0 then (M.1 0 3, M) else (if what = 1 then (M.1 0 4, M) else (if what = 2 then zlet (zmany (M.1 0 3)) (fun z55 => (z55, M)) else (if what = 3 then (M.1 0 5, M) else (-1, M)))))
set_option maxRecDepth 100000 in
set_option maxHeartbeats 4000000 in
theorem zd_has (l : Launch) {D : va_G} {cI cJ cZ cP cS cM : ClassId} {L : List Nat} {sz : Nat} {f : Nat → va_E} (o : Nat) (M : zCt) (what : Int) (hP : zCP cI cP cS cZ cM o M f) (hC : zCI M) (hwhat : -2147483648 ≤ what ∧ what ≤ 2147483647) : zMi l yX11_has wsX11_has 1 20 D (zT cI cJ cZ cP cS cM) L sz f [.ref o, .int (zI what)] (fun zv gv => zv = (zc_has M what).1 ∧ zCP cI cP cS cZ cM o (zc_has M what).2 gv ∧ zCI (zc_has M what).2 ∧ zFr f gv o (o + 681) ∧ zVE (zc_has M what).2 M ∧ True) := by
  refine zWalk.met (nL := 2) (ret := (some .int)) (cc := cX11_has) (by decide) rfl (Nat.le_of_ble_eq_true rfl) ?_
  intro pg en st mi ag bl mt cd ls CX hW hl
  have CX : zC pg st mi ag mt cd cX11_has 2 (some .int) RX11 wsX11_has := CX
  generalize hQ : MQ bl _ ag st 0 0 _ = Q
  have hX0 := CX.1
  have hB0 := CX.2.1
  have hl : lv_has ls 2 [(0, .ref o), (1, .int (zI what))] := hl
  obtain ⟨H, eH⟩ : ∃ H, H = st.heap := ⟨_, rfl⟩
  obtain ⟨locs, eL⟩ : ∃ L : List Loc, L = [] := ⟨_, rfl⟩
  have hW : zW D (zT cI cJ cZ cP cS cM) L (zQ L sz) st f st.heap H locs := by rw [eH, eL]; exact hW
  suffices hgo : W pg l en ({ frames := 1, cells := 0, slots := 0, locals := 20 } : Room) st mi ag bl mt cd H locs 0 0 Q (F0 mi 0 ls []) by rw [eH, eL] at hgo; exact hgo
  clear eH eL
  have hpb := hC.p
  have hnb := hC.cn
  refine lv_iload_n hX0 hB0 dX11_has_0 rfl (lv_at hl 1 rfl) ?_
  by_cases c_1_0 : what = 0
  ·
    refine z_tin (K := 0) (off := 31) (tgt := 32) CX dX11_has_1 (by constructor <;> omega) c_1_0 (by decide) (by decide) rfl (by decide) ?_
    refine lv_aload_n hX0 hB0 dX11_has_32 rfl (lv_at hl 0 rfl) ?_
    refine z_get (Cn := RX11) (T := TX11) (N := 13) CX hW (v := .ref (o + 289)) (show f o = _ from hP.c0) rfl (fun w h => List.mem_cons_of_mem _ (List.mem_append_left _ (List.mem_append_left _ (List.mem_append_right _ h)))) 1 (by decide) (List.mem_of_getElem? (i := 1) rfl) rfl rfl dX11_has_33 ?_
    refine z_get (Cn := RX7) (T := TX7) (N := 4) CX hW (v := .int (zI (M.1 0 3))) hP.c3.1 rfl (fun w h => List.mem_cons_of_mem _ (List.mem_append_left _ (List.mem_append_right _ h))) 0 (by decide) (List.mem_of_getElem? (i := 2) rfl) rfl rfl dX11_has_36 ?_
    have hr36 := hC.p
    have hE : zc_has M what = (M.1 0 3, M) := by unfold zc_has; exact zif_t c_1_0 rfl
    rw [← hQ]
    exact z_iret (z := M.1 0 3) CX hW (by rw [hE]; exact ⟨rfl, hP, hC, zFr.refl, zVE.rf, trivial⟩) rfl dX11_has_39
  by_cases c_1_1 : what = 1
  ·
    refine z_tin (K := 1) (off := 39) (tgt := 40) CX dX11_has_1 (by constructor <;> omega) c_1_1 (by decide) (by decide) rfl (by decide) ?_
    refine lv_aload_n hX0 hB0 dX11_has_40 rfl (lv_at hl 0 rfl) ?_
    refine z_get (Cn := RX11) (T := TX11) (N := 13) CX hW (v := .ref (o + 289)) (show f o = _ from hP.c0) rfl (fun w h => List.mem_cons_of_mem _ (List.mem_append_left _ (List.mem_append_left _ (List.mem_append_right _ h)))) 1 (by decide) (List.mem_of_getElem? (i := 1) rfl) rfl rfl dX11_has_41 ?_
    refine z_get (Cn := RX7) (T := TX7) (N := 4) CX hW (v := .int (zI (M.1 0 4))) hP.c3.1 rfl (fun w h => List.mem_cons_of_mem _ (List.mem_append_left _ (List.mem_append_right _ h))) 1 (by decide) (List.mem_of_getElem? (i := 3) rfl) rfl rfl dX11_has_44 ?_
    have hr44 := hC.cn
    have hE : zc_has M what = (M.1 0 4, M) := by unfold zc_has; exact zif_f c_1_0 (zif_t c_1_1 rfl)
    rw [← hQ]
    exact z_iret (z := M.1 0 4) CX hW (by rw [hE]; exact ⟨rfl, hP, hC, zFr.refl, zVE.rf, trivial⟩) rfl dX11_has_47
  by_cases c_1_2 : what = 2
  ·
    refine z_tin (K := 2) (off := 47) (tgt := 48) CX dX11_has_1 (by constructor <;> omega) c_1_2 (by decide) (by decide) rfl (by decide) ?_
    refine lv_aload_n hX0 hB0 dX11_has_48 rfl (lv_at hl 0 rfl) ?_
    refine z_get (Cn := RX11) (T := TX11) (N := 13) CX hW (v := .ref (o + 289)) (show f o = _ from hP.c0) rfl (fun w h => List.mem_cons_of_mem _ (List.mem_append_left _ (List.mem_append_left _ (List.mem_append_right _ h)))) 1 (by decide) (List.mem_of_getElem? (i := 1) rfl) rfl rfl dX11_has_49 ?_
    refine z_get (Cn := RX7) (T := TX7) (N := 4) CX hW (v := .int (zI (M.1 0 3))) hP.c3.1 rfl (fun w h => List.mem_cons_of_mem _ (List.mem_append_left _ (List.mem_append_right _ h))) 0 (by decide) (List.mem_of_getElem? (i := 2) rfl) rfl rfl dX11_has_52 ?_
    have hr52 := hC.p
    refine z_calli hW (va_runS (As := [.int (zI (M.1 0 3))]) (rest := []) CX.fix (c_howMany l (f := f) (M.1 0 3)) (va_cwS 1 CX.fix.2.2.2.2 gX11_has_X9_howMany rfl rfl rfl (by decide +kernel) ⟨Nat.le_of_ble_eq_true rfl, Nat.le_of_ble_eq_true rfl⟩) (z_preS CX hW) rfl rfl hl.1 rfl (lv_room (Nat.le_of_ble_eq_true rfl)) dX11_has_55 ⟨Nat.zero_le _, Nat.zero_le _⟩) (fun z55 g55 H locs hok hW => ?_)
    obtain ⟨hz, hg⟩ := hok
    have e55 : zmany (M.1 0 3) = z55 := hz.symm
    have hmy55 := zmany_rng (p := (M.1 0 3)) (by omega)
    rw [e55] at hmy55
    rw [hg] at hW
    clear hg
    have hE : zc_has M what = (z55, M) := by unfold zc_has; exact zif_f c_1_0 (zif_f c_1_1 (zif_t c_1_2 (zlet_e e55 rfl)))
    rw [← hQ]
    exact z_iret (z := z55) CX hW (by rw [hE]; exact ⟨rfl, hP, hC, zFr.refl, zVE.rf, trivial⟩) rfl dX11_has_58
  by_cases c_1_3 : what = 3
  ·
    refine z_tin (K := 3) (off := 58) (tgt := 59) CX dX11_has_1 (by constructor <;> omega) c_1_3 (by decide) (by decide) rfl (by decide) ?_
    refine lv_aload_n hX0 hB0 dX11_has_59 rfl (lv_at hl 0 rfl) ?_
    refine z_get (Cn := RX11) (T := TX11) (N := 13) CX hW (v := .ref (o + 304)) (show f o = _ from hP.c0) rfl (fun w h => List.mem_cons_of_mem _ (List.mem_append_left _ (List.mem_append_left _ (List.mem_append_right _ h)))) 2 (by decide) (List.mem_of_getElem? (i := 4) rfl) rfl rfl dX11_has_60 ?_
    refine z_get (Cn := RX1) (T := TX1) (N := 3) CX hW (v := .int (zI (M.1 0 5))) hP.c4.1 rfl (fun w h => List.mem_cons_of_mem _ (List.mem_append_right _ h)) 0 (by decide) (List.mem_of_getElem? (i := 5) rfl) rfl rfl dX11_has_63 ?_
    have hr63 := hC.ct
    have hE : zc_has M what = (M.1 0 5, M) := by unfold zc_has; exact zif_f c_1_0 (zif_f c_1_1 (zif_f c_1_2 (zif_t c_1_3 rfl)))
    rw [← hQ]
    exact z_iret (z := M.1 0 5) CX hW (by rw [hE]; exact ⟨rfl, hP, hC, zFr.refl, zVE.rf, trivial⟩) rfl dX11_has_66
  refine z_tout (tgt := 67) CX dX11_has_1 (by constructor <;> omega) (by omega) (by decide) ?_
  refine lv_iconst (v := zI (-1)) hX0 hB0 dX11_has_67 rfl ?_
  have hE : zc_has M what = (-1, M) := by unfold zc_has; exact zif_f c_1_0 (zif_f c_1_1 (zif_f c_1_2 (zif_f c_1_3 rfl)))
  rw [← hQ]
  exact z_iret (z := -1) CX hW (by rw [hE]; exact ⟨rfl, hP, hC, zFr.refl, zVE.rf, trivial⟩) rfl dX11_has_68
noncomputable def zc_fault (M : zCt) (what : Int) : Int × zCt := (if what = 0 then (M.1 0 0, M) else (if what = 1 then (M.1 0 1, M) else (-1, M)))
noncomputable def zc_status (M : zCt) (what : Int) : Int × zCt := (if what < 0 then (-1, M) else (if what < 5 then (M.1 1 what.toNat, M) else (-1, M)))
noncomputable def zc_term (M : zCt) (cv : Int) (i : Int) (j : Int) : Int × zCt := (if 0 ≤ cv ∧ cv < M.1 0 4 ∧ cv < 6 then zlet (bI (zfits i j)) (fun z17 => (if z17 = 0 then (-1, M) else zlet (zat (M.2.1 cv.toNat) i j) (fun z31 => (z31, M)))) else (-1, M))
noncomputable def zc_degree (M : zCt) (cv : Int) : Int × zCt := (if 0 ≤ cv ∧ cv < M.1 0 4 ∧ cv < 6 then zlet (ztop (M.2.1 cv.toNat)) (fun z18 => (z18, M)) else (-1, M))
set_option maxRecDepth 100000 in
set_option maxHeartbeats 4000000 in
theorem zd_degree (l : Launch) {D : va_G} {cI cJ cZ cP cS cM : ClassId} {L : List Nat} {sz : Nat} {f : Nat → va_E} (o : Nat) (M : zCt) (cv : Int) (hP : zCP cI cP cS cZ cM o M f) (hC : zCI M) (hcv : -2147483648 ≤ cv ∧ cv ≤ 2147483647) : zMi l yX11_degree wsX11_degree 2 44 D (zT cI cJ cZ cP cS cM) L sz f [.ref o, .int (zI cv)] (fun zv gv => zv = (zc_degree M cv).1 ∧ zCP cI cP cS cZ cM o (zc_degree M cv).2 gv ∧ zCI (zc_degree M cv).2 ∧ zFr f gv o (o + 681) ∧ zVE (zc_degree M cv).2 M ∧ True) := by
  refine zWalk.met (nL := 3) (ret := (some .int)) (cc := cX11_degree) (by decide) rfl (Nat.le_of_ble_eq_true rfl) ?_
  intro pg en st mi ag bl mt cd ls CX hW hl
  have CX : zC pg st mi ag mt cd cX11_degree 3 (some .int) RX11 wsX11_degree := CX
  generalize hQ : MQ bl _ ag st 0 0 _ = Q
  have hX0 := CX.1
  have hB0 := CX.2.1
  have hl : lv_has ls 3 [(0, .ref o), (1, .int (zI cv))] := hl
  obtain ⟨H, eH⟩ : ∃ H, H = st.heap := ⟨_, rfl⟩
  obtain ⟨locs, eL⟩ : ∃ L : List Loc, L = [] := ⟨_, rfl⟩
  have hW : zW D (zT cI cJ cZ cP cS cM) L (zQ L sz) st f st.heap H locs := by rw [eH, eL]; exact hW
  suffices hgo : W pg l en ({ frames := 2, cells := 0, slots := 0, locals := 44 } : Room) st mi ag bl mt cd H locs 0 0 Q (F0 mi 0 ls []) by rw [eH, eL] at hgo; exact hgo
  clear eH eL
  have hpb := hC.p
  have hnb := hC.cn
  refine lv_aload_n hX0 hB0 dX11_degree_0 rfl (lv_at hl 0 rfl) ?_
  refine z_get (Cn := RX11) (T := TX11) (N := 13) CX hW (v := .ref (o + 289)) (show f o = _ from hP.c0) rfl (fun w h => List.mem_cons_of_mem _ (List.mem_append_left _ (List.mem_append_left _ (List.mem_append_right _ h)))) 1 (by decide) (List.mem_of_getElem? (i := 1) rfl) rfl rfl dX11_degree_1 ?_
  refine lv_iload_n hX0 hB0 dX11_degree_4 rfl (lv_at hl 1 rfl) ?_
  refine z_callr hW (va_runV (C := RX7) (As := [.int (zI cv)]) (rest := []) CX.fix (c_find l (o + 289) (M.1 0 3) (M.1 0 4) M.2.1 (M.1 3) cv hP.c3 (by omega) (by constructor <;> omega)) (cwV 1 CX.fix.2.2.2.2 gX11_degree_X7_find rfl rfl rfl (by decide +kernel) ⟨Nat.le_of_ble_eq_true rfl, Nat.le_of_ble_eq_true rfl⟩) (z_preV CX hW (r := (RX7, TX7, 4)) hP.c3.1 rfl) rfl rfl hl.1 rfl (lv_room (Nat.le_of_ble_eq_true rfl)) dX11_degree_5 ⟨Nat.zero_le _, Nat.zero_le _⟩) (fun z5 g5 H locs hok hW => ?_)
  obtain ⟨hz, hg⟩ := hok
  rw [hz]
  rw [hg] at hW
  clear hg
  by_cases cf_cv_8 : 0 ≤ cv ∧ cv < M.1 0 4 ∧ cv < 6
  ·
    have hzf := zfind_p (a := o + 289) cf_cv_8
    rw [hzf]
    clear hzf
    refine lv_astore_n (lv' := [(2, .ref (o + 289 + 3 + 2 * cv.toNat)), (0, .ref o), (1, .int (zI cv))]) hX0 hB0 dX11_degree_8 rfl hl (by decide) rfl (fun ls hl => ?_)
    refine lv_aload_n hX0 hB0 dX11_degree_9 rfl (lv_at hl 0 rfl) ?_
    refine lv_ifnonnull (tgt := 17) hX0 hB0 dX11_degree_10 (by decide) ?_
    refine lv_aload_n hX0 hB0 dX11_degree_17 rfl (lv_at hl 0 rfl) ?_
    refine z_calli hW (va_runV (C := RX2) (As := []) (rest := []) CX.fix (c_top l (o + 289 + 3 + 2 * cv.toNat) (o + 289 + 3 + 2 * cv.toNat + 1) (M.2.1 cv.toNat) (hP.poly (k := cv.toNat) (by omega)).1 (hP.poly (k := cv.toNat) (by omega)).2 (hC.poly31 (k := cv) (by omega) (by omega))) (cwV 0 CX.fix.2.2.2.2 gX11_degree_X2_top rfl rfl rfl (by decide +kernel) ⟨Nat.le_of_ble_eq_true rfl, Nat.le_of_ble_eq_true rfl⟩) (z_preV CX hW (r := (RX2, TX2, 1)) (hP.poly (k := cv.toNat) (by omega)).1 rfl) rfl rfl hl.1 rfl (lv_room (Nat.le_of_ble_eq_true rfl)) dX11_degree_18 ⟨Nat.zero_le _, Nat.zero_le _⟩) (fun z18 g18 H locs hok hW => ?_)
    obtain ⟨hz, hg⟩ := hok
    have e18 : ztop (M.2.1 cv.toNat) = z18 := hz.symm
    have htp18 := ztop_rng (M.2.1 cv.toNat)
    rw [e18] at htp18
    rw [hg] at hW
    clear hg
    have hE : zc_degree M cv = (z18, M) := by unfold zc_degree; exact zif_t cf_cv_8 (zlet_e e18 rfl)
    rw [← hQ]
    exact z_iret (z := z18) CX hW (by rw [hE]; exact ⟨rfl, hP, hC, zFr.refl, zVE.rf, trivial⟩) rfl dX11_degree_21
  ·
    have hzf := zfind_n (a := o + 289) cf_cv_8
    rw [hzf]
    clear hzf
    refine lv_astore_nN (lv' := [(2, .null), (0, .ref o), (1, .int (zI cv))]) hX0 hB0 dX11_degree_8 rfl hl (by decide) rfl (fun ls hl => ?_)
    refine lv_aload_nN hX0 hB0 dX11_degree_9 rfl (lv_at hl 0 rfl) ?_
    refine lv_ifnonnullN hX0 hB0 dX11_degree_10 ?_
    refine lv_iconst (v := zI (-1)) hX0 hB0 dX11_degree_13 rfl ?_
    refine lv_goto (tgt := 21) hX0 hB0 dX11_degree_14 (by decide) ?_
    have hE : zc_degree M cv = (-1, M) := by unfold zc_degree; exact zif_f cf_cv_8 rfl
    rw [← hQ]
    exact z_iret (z := -1) CX hW (by rw [hE]; exact ⟨rfl, hP, hC, zFr.refl, zVE.rf, trivial⟩) rfl dX11_degree_21
noncomputable def zc_value (M : zCt) (cv : Int) (pt : Int) : Int × zCt := (if 0 ≤ cv ∧ cv < M.1 0 4 ∧ cv < 6 then zlet (bI (zpt pt (M.1 0 3))) (fun z25 => zlet (zw_go M pt (M.1 0 3)) (fun M25 => (if z25 = 0 then (-1, M25) else zlet (zval (M25.2.1 cv.toNat) (M25.1 0 10) (M25.1 0 11) (M25.1 0 12) (M25.1 0 3)) (fun z45 => (z45, M25))))) else (-1, M))
set_option maxRecDepth 100000 in
set_option maxHeartbeats 4000000 in
theorem zd_value (l : Launch) {D : va_G} {cI cJ cZ cP cS cM : ClassId} {L : List Nat} {sz : Nat} {f : Nat → va_E} (o : Nat) (M : zCt) (cv : Int) (pt : Int) (hP : zCP cI cP cS cZ cM o M f) (hC : zCI M) (hcv : -2147483648 ≤ cv ∧ cv ≤ 2147483647) (hpt : -2147483648 ≤ pt ∧ pt ≤ 2147483647) : zMi l yX11_value wsX11_value 3 71 D (zT cI cJ cZ cP cS cM) L sz f [.ref o, .int (zI cv), .int (zI pt)] (fun zv gv => zv = (zc_value M cv pt).1 ∧ zCP cI cP cS cZ cM o (zc_value M cv pt).2 gv ∧ zCI (zc_value M cv pt).2 ∧ zFr f gv o (o + 681) ∧ zVE (zc_value M cv pt).2 M ∧ -1 ≤ zv ∧ zv ≤ 30) := by
  refine zWalk.met (nL := 4) (ret := (some .int)) (cc := cX11_value) (by decide) rfl (Nat.le_of_ble_eq_true rfl) ?_
  intro pg en st mi ag bl mt cd ls CX hW hl
  have CX : zC pg st mi ag mt cd cX11_value 4 (some .int) RX11 wsX11_value := CX
  generalize hQ : MQ bl _ ag st 0 0 _ = Q
  have hX0 := CX.1
  have hB0 := CX.2.1
  have hl : lv_has ls 4 [(0, .ref o), (1, .int (zI cv)), (2, .int (zI pt))] := hl
  obtain ⟨H, eH⟩ : ∃ H, H = st.heap := ⟨_, rfl⟩
  obtain ⟨locs, eL⟩ : ∃ L : List Loc, L = [] := ⟨_, rfl⟩
  have hW : zW D (zT cI cJ cZ cP cS cM) L (zQ L sz) st f st.heap H locs := by rw [eH, eL]; exact hW
  suffices hgo : W pg l en ({ frames := 3, cells := 0, slots := 0, locals := 71 } : Room) st mi ag bl mt cd H locs 0 0 Q (F0 mi 0 ls []) by rw [eH, eL] at hgo; exact hgo
  clear eH eL
  have hpb := hC.p
  have hnb := hC.cn
  refine lv_aload_n hX0 hB0 dX11_value_0 rfl (lv_at hl 0 rfl) ?_
  refine z_get (Cn := RX11) (T := TX11) (N := 13) CX hW (v := .ref (o + 289)) (show f o = _ from hP.c0) rfl (fun w h => List.mem_cons_of_mem _ (List.mem_append_left _ (List.mem_append_left _ (List.mem_append_left _ (List.mem_append_right _ h))))) 1 (by decide) (List.mem_of_getElem? (i := 1) rfl) rfl rfl dX11_value_1 ?_
  refine lv_iload_n hX0 hB0 dX11_value_4 rfl (lv_at hl 1 rfl) ?_
  refine z_callr hW (va_runV (C := RX7) (As := [.int (zI cv)]) (rest := []) CX.fix (c_find l (o + 289) (M.1 0 3) (M.1 0 4) M.2.1 (M.1 3) cv hP.c3 (by omega) (by constructor <;> omega)) (cwV 1 CX.fix.2.2.2.2 gX11_value_X7_find rfl rfl rfl (by decide +kernel) ⟨Nat.le_of_ble_eq_true rfl, Nat.le_of_ble_eq_true rfl⟩) (z_preV CX hW (r := (RX7, TX7, 4)) hP.c3.1 rfl) rfl rfl hl.1 rfl (lv_room (Nat.le_of_ble_eq_true rfl)) dX11_value_5 ⟨Nat.zero_le _, Nat.zero_le _⟩) (fun z5 g5 H locs hok hW => ?_)
  obtain ⟨hz, hg⟩ := hok
  rw [hz]
  rw [hg] at hW
  clear hg
  by_cases cf_cv_8 : 0 ≤ cv ∧ cv < M.1 0 4 ∧ cv < 6
  ·
    have hzf := zfind_p (a := o + 289) cf_cv_8
    rw [hzf]
    clear hzf
    refine lv_astore_n (lv' := [(3, .ref (o + 289 + 3 + 2 * cv.toNat)), (0, .ref o), (1, .int (zI cv)), (2, .int (zI pt))]) hX0 hB0 dX11_value_8 rfl hl (by decide) rfl (fun ls hl => ?_)
    refine lv_aload_n hX0 hB0 dX11_value_9 rfl (lv_at hl 0 rfl) ?_
    refine lv_ifnull hX0 hB0 dX11_value_10 ?_
    refine lv_aload_n hX0 hB0 dX11_value_13 rfl (lv_at hl 1 rfl) ?_
    refine z_get (Cn := RX11) (T := TX11) (N := 13) CX hW (v := .ref (o + 606)) (show f o = _ from hP.c0) rfl (fun w h => List.mem_cons_of_mem _ (List.mem_append_left _ (List.mem_append_left _ (List.mem_append_left _ (List.mem_append_right _ h))))) 3 (by decide) (List.mem_of_getElem? (i := 2) rfl) rfl rfl dX11_value_14 ?_
    refine lv_iload_n hX0 hB0 dX11_value_17 rfl (lv_at hl 3 rfl) ?_
    refine lv_aload_n hX0 hB0 dX11_value_18 rfl (lv_at hl 1 rfl) ?_
    refine z_get (Cn := RX11) (T := TX11) (N := 13) CX hW (v := .ref (o + 289)) (show f o = _ from hP.c0) rfl (fun w h => List.mem_cons_of_mem _ (List.mem_append_left _ (List.mem_append_left _ (List.mem_append_left _ (List.mem_append_right _ h))))) 1 (by decide) (List.mem_of_getElem? (i := 1) rfl) rfl rfl dX11_value_19 ?_
    refine z_get (Cn := RX7) (T := TX7) (N := 4) CX hW (v := .int (zI (M.1 0 3))) hP.c3.1 rfl (fun w h => List.mem_cons_of_mem _ (List.mem_append_left _ (List.mem_append_left _ (List.mem_append_right _ h)))) 0 (by decide) (List.mem_of_getElem? (i := 3) rfl) rfl rfl dX11_value_22 ?_
    have hr22 := hC.p
    refine z_calli hW (va_runV (C := RX9) (As := [.int (zI pt), .int (zI (M.1 0 3))]) (rest := []) CX.fix (c_go l (o + 606) (M.1 0 10) (M.1 0 11) (M.1 0 12) pt (M.1 0 3) hP.c5 (by constructor <;> omega) (by omega)) (cwV 2 CX.fix.2.2.2.2 gX11_value_X9_go rfl rfl rfl (by decide +kernel) ⟨Nat.le_of_ble_eq_true rfl, Nat.le_of_ble_eq_true rfl⟩) (z_preV CX hW (r := (RX9, TX9, 3)) (show f (o + 606) = _ from hP.c5) rfl) rfl rfl hl.1 rfl (lv_room (Nat.le_of_ble_eq_true rfl)) dX11_value_25 ⟨Nat.zero_le _, Nat.zero_le _⟩) (fun z25 g25 H locs hok hW => ?_)
    obtain ⟨hz, hg⟩ := hok
    have e25 : bI (zpt pt (M.1 0 3)) = z25 := hz.symm
    have hb25 := bI_01 (zpt pt (M.1 0 3))
    rw [e25] at hb25
    obtain ⟨M25, em25⟩ : ∃ Mq, zw_go M pt (M.1 0 3) = Mq := ⟨_, rfl⟩
    have hP25 : zCP cI cP cS cZ cM o M25 g25 := by rw [← em25]; exact zr_go hP hg
    have hC25 : zCI M25 := by rw [← em25]; exact zi_go hC
    have hV25 : zVE M25 M := zVE.tr (by rw [← em25]; exact zv_go) zVE.rf
    have tv25_3 : M25.1 0 3 = M.1 0 3 := hV25.2 0 3 (by omega) (by omega)
    have tv25_4 : M25.1 0 4 = M.1 0 4 := hV25.2 0 4 (by omega) (by omega)
    have hF25 : zFr f g25 o (o + 681) := zFr.trans zFr.refl (fun q hq => by rw [hg]; exact va_up_ne _ _ (by omega))
    have hgo25 : ¬ z25 = 0 → (M25.1 0 10 = zpx pt (M.1 0 3) ∧ M25.1 0 11 = zpy pt (M.1 0 3) ∧ M25.1 0 12 = zpz pt (M.1 0 3)) ∧ (0 ≤ M25.1 0 10 ∧ M25.1 0 10 < (M.1 0 3)) ∧ (0 ≤ M25.1 0 11 ∧ M25.1 0 11 < (M.1 0 3)) ∧ 0 ≤ M25.1 0 12 ∧ M25.1 0 12 ≤ 1 := fun hz0 => by rw [← em25]; exact zgo_rng (by omega) (by rw [e25]; exact hz0)
    refine z_if_ne (tgt := 33) CX dX11_value_28 (by decide) (by constructor <;> omega) (fun c_28 => ?_) (fun c_28 => ?_)
    ·
      refine lv_aload_n hX0 hB0 dX11_value_33 rfl (lv_at hl 1 rfl) ?_
      refine z_get (Cn := RX11) (T := TX11) (N := 13) CX hW (v := .ref (o + 606)) (show g25 o = _ from hP25.c0) rfl (fun w h => List.mem_cons_of_mem _ (List.mem_append_left _ (List.mem_append_left _ (List.mem_append_left _ (List.mem_append_right _ h))))) 3 (by decide) (List.mem_of_getElem? (i := 2) rfl) rfl rfl dX11_value_34 ?_
      refine lv_aload_n hX0 hB0 dX11_value_37 rfl (lv_at hl 0 rfl) ?_
      refine lv_aload_n hX0 hB0 dX11_value_38 rfl (lv_at hl 1 rfl) ?_
      refine z_get (Cn := RX11) (T := TX11) (N := 13) CX hW (v := .ref (o + 289)) (show g25 o = _ from hP25.c0) rfl (fun w h => List.mem_cons_of_mem _ (List.mem_append_left _ (List.mem_append_left _ (List.mem_append_left _ (List.mem_append_right _ h))))) 1 (by decide) (List.mem_of_getElem? (i := 1) rfl) rfl rfl dX11_value_39 ?_
      refine z_get (Cn := RX7) (T := TX7) (N := 4) CX hW (v := .int (zI (M25.1 0 3))) hP25.c3.1 rfl (fun w h => List.mem_cons_of_mem _ (List.mem_append_left _ (List.mem_append_left _ (List.mem_append_right _ h)))) 0 (by decide) (List.mem_of_getElem? (i := 3) rfl) rfl rfl dX11_value_42 ?_
      have hr42 := hC25.p
      refine z_calli hW (va_runV (C := RX9) (As := [.ref (o + 289 + 3 + 2 * cv.toNat), .int (zI (M25.1 0 3))]) (rest := []) CX.fix (c_valueOf l (o + 606) (M25.1 0 10) (M25.1 0 11) (M25.1 0 12) (o + 289 + 3 + 2 * cv.toNat) (o + 289 + 3 + 2 * cv.toNat + 1) (M25.2.1 cv.toNat) (M25.1 0 3) hP25.c5 (hP25.poly (k := cv.toNat) (by omega)).1 (hP25.poly (k := cv.toNat) (by omega)).2 (hC25.poly31 (k := cv) (by omega) (by omega)) (by omega) (by omega) (by omega) (by omega)) (cwV 2 CX.fix.2.2.2.2 gX11_value_X9_valueOf rfl rfl rfl (by decide +kernel) ⟨Nat.le_of_ble_eq_true rfl, Nat.le_of_ble_eq_true rfl⟩) (z_preV CX hW (r := (RX9, TX9, 3)) (show g25 (o + 606) = _ from hP25.c5) rfl) rfl rfl hl.1 rfl (lv_room (Nat.le_of_ble_eq_true rfl)) dX11_value_45 ⟨Nat.zero_le _, Nat.zero_le _⟩) (fun z45 g45 H locs hok hW => ?_)
      obtain ⟨hz, hg⟩ := hok
      have e45 : zval (M25.2.1 cv.toNat) (M25.1 0 10) (M25.1 0 11) (M25.1 0 12) (M25.1 0 3) = z45 := hz.symm
      have hvr45 := zval_rng (c := M25.2.1 cv.toNat) (x := M25.1 0 10) (y := M25.1 0 11) (z := M25.1 0 12) (p := (M25.1 0 3)) (by omega)
      rw [e45] at hvr45
      rw [hg] at hW
      clear hg
      have hE : zc_value M cv pt = (z45, M25) := by unfold zc_value; exact zif_t cf_cv_8 (zlet_e e25 (zlet_e em25 (zif_f c_28 (zlet_e e45 rfl))))
      rw [← hQ]
      exact z_iret (z := z45) CX hW (by rw [hE]; exact ⟨rfl, hP25, hC25, hF25, hV25, (show -1 ≤ z45 ∧ z45 ≤ 30 from by omega)⟩) rfl dX11_value_48
    ·
      refine lv_iconst (v := zI (-1)) hX0 hB0 dX11_value_31 rfl ?_
      have hE : zc_value M cv pt = (-1, M25) := by unfold zc_value; exact zif_t cf_cv_8 (zlet_e e25 (zlet_e em25 (zif_t c_28 rfl)))
      rw [← hQ]
      exact z_iret (z := -1) CX hW (by rw [hE]; exact ⟨rfl, hP25, hC25, hF25, hV25, (show -1 ≤ (-1 : Int) ∧ (-1 : Int) ≤ 30 from by omega)⟩) rfl dX11_value_32
  ·
    have hzf := zfind_n (a := o + 289) cf_cv_8
    rw [hzf]
    clear hzf
    refine lv_astore_nN (lv' := [(3, .null), (0, .ref o), (1, .int (zI cv)), (2, .int (zI pt))]) hX0 hB0 dX11_value_8 rfl hl (by decide) rfl (fun ls hl => ?_)
    refine lv_aload_nN hX0 hB0 dX11_value_9 rfl (lv_at hl 0 rfl) ?_
    refine lv_ifnullN (tgt := 31) hX0 hB0 dX11_value_10 (by decide) ?_
    refine lv_iconst (v := zI (-1)) hX0 hB0 dX11_value_31 rfl ?_
    have hE : zc_value M cv pt = (-1, M) := by unfold zc_value; exact zif_f cf_cv_8 rfl
    rw [← hQ]
    exact z_iret (z := -1) CX hW (by rw [hE]; exact ⟨rfl, hP, hC, zFr.refl, zVE.rf, (show -1 ≤ (-1 : Int) ∧ (-1 : Int) ≤ 30 from by omega)⟩) rfl dX11_value_32
noncomputable def zc_hasTrait (M : zCt) (u : Int) (q : Int) (tr : Int) : Int × zCt := zlet (bI (zpt q (M.1 0 3))) (fun z12 => zlet (zw_go M q (M.1 0 3)) (fun M12 => (if z12 = 0 then (0, M12) else zlet (zval (M12.2.1 u.toNat) (M12.1 0 10) (M12.1 0 11) (M12.1 0 12) (M12.1 0 3)) (fun z30 => (if z30 = 0 then (if tr = 0 then (1, M12) else zlet (zw_look1 M12 (M12.2.1 u.toNat) (M12.1 0 3)) (fun M60 => (if tr = 1 then zlet (zleast (M60.1 20)) (fun z72 => (if z72 < 2 then (0, M60) else (1, M60))) else zlet (zbend (M60.1 20) (M60.1 0 13)) (fun z89 => (if z89 = -2 then (1, M60) else (if z89 < 3 then (0, M60) else (1, M60))))))) else (0, M12))))))
noncomputable def zc_choose_W40 (cv : Int) (k : Int) (tr : Int) (z29 : Int) : Nat → Int → Int → zCt → (Int × zCt) ⊕ (Int × Int × zCt)
  | 0, n40, q40, M40 => .inr (n40, q40, M40)
  | fu40 + 1, n40, q40, M40 => (if z29 ≤ q40 then .inr (n40, q40, M40) else zlet (zc_hasTrait M40 cv q40 tr) (fun q53 => (fun (z53 : Int) (M53 : zCt) => (if z53 = 0 then zc_choose_W40 cv k tr z29 fu40 n40 (q40 + 1) M53 else (if n40 = k then .inl ((q40, M53)) else zc_choose_W40 cv k tr z29 fu40 (n40 + 1) (q40 + 1) M53))) q53.1 q53.2))
noncomputable def zc_choose (M : zCt) (cv : Int) (k : Int) (tr : Int) : Int × zCt := (if 0 ≤ cv ∧ cv < M.1 0 4 ∧ cv < 6 then (if -1 ≤ k then zlet (zmany (M.1 0 3)) (fun z29 => zsum (zc_choose_W40 cv k tr z29 ((995 : Nat)) 0 0 M) (fun r40 => r40) (fun q40 => (fun (n40 : Int) (q40 : Int) (M40 : zCt) => (if k = -1 then (n40, M40) else (-1, M40))) q40.1 q40.2.1 q40.2.2)) else (-1, M)) else (-1, M))
noncomputable def zc_point (M : zCt) (cv : Int) (k : Int) : Int × zCt := zlet (zc_choose M cv k 0) (fun q4 => (fun (z4 : Int) (M4 : zCt) => (z4, M4)) q4.1 q4.2)
noncomputable def zc_singular (M : zCt) (cv : Int) (k : Int) : Int × zCt := zlet (zc_choose M cv k 1) (fun q4 => (fun (z4 : Int) (M4 : zCt) => (z4, M4)) q4.1 q4.2)
noncomputable def zc_flex (M : zCt) (cv : Int) (k : Int) : Int × zCt := zlet (zc_choose M cv k 2) (fun q4 => (fun (z4 : Int) (M4 : zCt) => (z4, M4)) q4.1 q4.2)
noncomputable def zc_order (M : zCt) (cv : Int) (pt : Int) : Int × zCt := zlet (zc_lookAt M cv pt) (fun q3 => (fun (z3 : Int) (M3 : zCt) => (if z3 = 0 then (-1, M3) else zlet (zleast (M3.1 20)) (fun z13 => (z13, M3)))) q3.1 q3.2)
set_option maxRecDepth 100000 in
set_option maxHeartbeats 4000000 in
theorem zd_order (l : Launch) {D : va_G} {cI cJ cZ cP cS cM : ClassId} {L : List Nat} {sz : Nat} {f : Nat → va_E} (o : Nat) (M : zCt) (cv : Int) (pt : Int) (hP : zCP cI cP cS cZ cM o M f) (hC : zCI M) (hcv : -2147483648 ≤ cv ∧ cv ≤ 2147483647) (hpt : -2147483648 ≤ pt ∧ pt ≤ 2147483647) : zMi l yX11_order wsX11_order 6 146 D (zT cI cJ cZ cP cS cM) L sz f [.ref o, .int (zI cv), .int (zI pt)] (fun zv gv => zv = (zc_order M cv pt).1 ∧ zCP cI cP cS cZ cM o (zc_order M cv pt).2 gv ∧ zCI (zc_order M cv pt).2 ∧ zFr f gv o (o + 681) ∧ zVE (zc_order M cv pt).2 M ∧ True) := by
  refine zWalk.met (nL := 3) (ret := (some .int)) (cc := cX11_order) (by decide) rfl (Nat.le_of_ble_eq_true rfl) ?_
  intro pg en st mi ag bl mt cd ls CX hW hl
  have CX : zC pg st mi ag mt cd cX11_order 3 (some .int) RX11 wsX11_order := CX
  generalize hQ : MQ bl _ ag st 0 0 _ = Q
  have hX0 := CX.1
  have hB0 := CX.2.1
  have hl : lv_has ls 3 [(0, .ref o), (1, .int (zI cv)), (2, .int (zI pt))] := hl
  obtain ⟨H, eH⟩ : ∃ H, H = st.heap := ⟨_, rfl⟩
  obtain ⟨locs, eL⟩ : ∃ L : List Loc, L = [] := ⟨_, rfl⟩
  have hW : zW D (zT cI cJ cZ cP cS cM) L (zQ L sz) st f st.heap H locs := by rw [eH, eL]; exact hW
  suffices hgo : W pg l en ({ frames := 6, cells := 0, slots := 0, locals := 146 } : Room) st mi ag bl mt cd H locs 0 0 Q (F0 mi 0 ls []) by rw [eH, eL] at hgo; exact hgo
  clear eH eL
  have hpb := hC.p
  have hnb := hC.cn
  refine lv_aload_n hX0 hB0 dX11_order_0 rfl (lv_at hl 0 rfl) ?_
  refine lv_iload_n hX0 hB0 dX11_order_1 rfl (lv_at hl 1 rfl) ?_
  refine lv_iload_n hX0 hB0 dX11_order_2 rfl (lv_at hl 2 rfl) ?_
  refine z_calli hW (va_runV (C := RX11) (As := [.int (zI cv), .int (zI pt)]) (rest := []) CX.fix (zd_lookAt l o M cv pt hP hC (by constructor <;> omega) (by constructor <;> omega)) (cwV 2 CX.fix.2.2.2.2 gX11_order_X11_lookAt rfl rfl rfl (by decide +kernel) ⟨Nat.le_of_ble_eq_true rfl, Nat.le_of_ble_eq_true rfl⟩) (z_preV CX hW (r := (RX11, TX11, 13)) (show f o = _ from hP.c0) rfl) rfl rfl hl.1 rfl (lv_room (Nat.le_of_ble_eq_true rfl)) dX11_order_3 ⟨Nat.zero_le _, Nat.zero_le _⟩) (fun z3 g3 H locs hok hW => ?_)
  obtain ⟨hz3, hp, hc, hfr, hv, hq3⟩ := hok
  obtain ⟨M3, hS3⟩ : ∃ Mq, Mq = (zc_lookAt M cv pt).2 := ⟨_, rfl⟩
  rw [← hS3] at hp hc hv
  try rw [← hS3] at hq3
  have e3 : zc_lookAt M cv pt = (z3, M3) := Prod.ext hz3.symm hS3.symm
  clear hz3 hS3
  have hP3 := hp
  have hC3 := hc
  have hF3 : zFr f g3 o (o + 681) := zFr.trans zFr.refl hfr
  clear hp hc hfr
  have hV3 : zVE M3 M := zVE.tr hv zVE.rf
  have tv3_3 : M3.1 0 3 = M.1 0 3 := hV3.2 0 3 (by omega) (by omega)
  have tv3_4 : M3.1 0 4 = M.1 0 4 := hV3.2 0 4 (by omega) (by omega)
  clear hv
  refine z_if_eq (tgt := 19) CX dX11_order_6 (by decide) (by constructor <;> omega) (fun c_6 => ?_) (fun c_6 => ?_)
  ·
    refine lv_iconst (v := zI (-1)) hX0 hB0 dX11_order_19 rfl ?_
    have hE : zc_order M cv pt = (-1, M3) := by unfold zc_order; exact zlet_e e3 (zif_t c_6 rfl)
    rw [← hQ]
    exact z_iret (z := -1) CX hW (by rw [hE]; exact ⟨rfl, hP3, hC3, hF3, hV3, trivial⟩) rfl dX11_order_20
  ·
    refine lv_aload_n hX0 hB0 dX11_order_9 rfl (lv_at hl 0 rfl) ?_
    refine z_get (Cn := RX11) (T := TX11) (N := 13) CX hW (v := .ref (o + 607)) (show g3 o = _ from hP3.c0) rfl (fun w h => List.mem_cons_of_mem _ (List.mem_append_left _ (List.mem_append_left _ (List.mem_append_left _ (List.mem_append_left _ (List.mem_append_right _ h)))))) 4 (by decide) (List.mem_of_getElem? (i := 1) rfl) rfl rfl dX11_order_10 ?_
    refine z_calli hW (va_runV (C := RX10) (As := []) (rest := []) CX.fix (c_least l (o + 607) (M3.1 0 13) (M3.1 20) (M3.1 21) hP3.c6.1 hP3.c6.2.1 hP3.c6.2.2.1 hP3.c6.2.2.2 hC3.vw.1 hC3.vw.2.1) (cwV 0 CX.fix.2.2.2.2 gX11_order_X10_least rfl rfl rfl (by decide +kernel) ⟨Nat.le_of_ble_eq_true rfl, Nat.le_of_ble_eq_true rfl⟩) (z_preV CX hW (r := (RX10, TX10, 3)) hP3.c6.1 rfl) rfl rfl hl.1 rfl (lv_room (Nat.le_of_ble_eq_true rfl)) dX11_order_13 ⟨Nat.zero_le _, Nat.zero_le _⟩) (fun z13 g13 H locs hok hW => ?_)
    obtain ⟨hz, hg⟩ := hok
    have e13 : zleast (M3.1 20) = z13 := hz.symm
    have hls13 := zleast_rng (M3.1 20)
    rw [e13] at hls13
    rw [hg] at hW
    clear hg
    refine lv_goto (tgt := 20) hX0 hB0 dX11_order_16 (by decide) ?_
    have hE : zc_order M cv pt = (z13, M3) := by unfold zc_order; exact zlet_e e3 (zif_f c_6 (zlet_e e13 rfl))
    rw [← hQ]
    exact z_iret (z := z13) CX hW (by rw [hE]; exact ⟨rfl, hP3, hC3, hF3, hV3, trivial⟩) rfl dX11_order_20
noncomputable def zc_bend (M : zCt) (cv : Int) (pt : Int) : Int × zCt := zlet (zc_lookAt M cv pt) (fun q3 => (fun (z3 : Int) (M3 : zCt) => (if z3 = 0 then (-1, M3) else zlet (zbend (M3.1 20) (M3.1 0 13)) (fun z13 => (z13, M3)))) q3.1 q3.2)
noncomputable def zc_local (M : zCt) (cv : Int) (pt : Int) (i : Int) (j : Int) : Int × zCt := zlet (zc_lookAt M cv pt) (fun q3 => (fun (z3 : Int) (M3 : zCt) => (if z3 = 0 then (-1, M3) else zlet (bI (zfits i j)) (fun z12 => (if z12 = 0 then (-1, M3) else zlet (zat (M3.1 20) i j) (fun z28 => (z28, M3)))))) q3.1 q3.2)
noncomputable def zc_tangent_W46 (k : Int) (what : Int) : Nat → Int → Int → Int → zCt → (Int × zCt) ⊕ (Int × Int × Int × zCt)
  | 0, w46, t46, q46, M46 => .inr (w46, t46, q46, M46)
  | fu46 + 1, w46, t46, q46, M46 => (if M46.1 0 3 < q46 then .inr (w46, t46, q46, M46) else zlet ((zoften (M46.1 20) (M46.1 21) q46 (M46.1 0 13)).1) (fun z64 => zlet (zw_often M46 (zoften (M46.1 20) (M46.1 21) q46 (M46.1 0 13)).2) (fun M64 => (if z64 = 0 then zc_tangent_W46 k what fu46 w46 t46 (q46 + 1) M64 else (if w46 = k then (if what = 0 then .inl ((q46, M64)) else .inl ((z64, M64))) else zc_tangent_W46 k what fu46 (w46 + 1) (t46 + z64) (q46 + 1) M64)))))
noncomputable def zc_tangent (M : zCt) (cv : Int) (pt : Int) (k : Int) (what : Int) : Int × zCt := (if what < 0 then (-1, M) else (if 1 < what then (-1, M) else (if k < -1 then (-1, M) else zlet (zc_lookAt M cv pt) (fun q19 => (fun (z19 : Int) (M19 : zCt) => (if z19 = 0 then (-1, M19) else zlet (zleast (M19.1 20)) (fun z29 => (if z29 = 0 then (-1, M19) else zsum (zc_tangent_W46 k what ((35 : Nat)) 0 0 0 M19) (fun r46 => r46) (fun q46 => (fun (w46 : Int) (t46 : Int) (q46 : Int) (M46 : zCt) => (if k = -1 then (if what = 0 then (w46, M46) else (t46, M46)) else (-1, M46))) q46.1 q46.2.1 q46.2.2.1 q46.2.2.2))))) q19.1 q19.2))))
noncomputable def zc_genus_W47 (cv : Int) (z39 : Int) : Nat → Int → Int → zCt → Int × Int × zCt
  | 0, v47, q47, M47 => (v47, q47, M47)
  | fu47 + 1, v47, q47, M47 => (if z39 ≤ q47 then (v47, q47, M47) else zlet (zc_hasTrait M47 cv q47 1) (fun q59 => (fun (z59 : Int) (M59 : zCt) => (if z59 = 0 then zc_genus_W47 cv z39 fu47 v47 (q47 + 1) M59 else zlet (zleast (M59.1 20)) (fun z69 => zc_genus_W47 cv z39 fu47 (v47 - (Int.tdiv (z69 * (z69 - 1)) 2)) (q47 + 1) M59))) q59.1 q59.2))
noncomputable def zc_genus (M : zCt) (cv : Int) : Int × zCt := (if 0 ≤ cv ∧ cv < M.1 0 4 ∧ cv < 6 then zlet (ztop (M.2.1 cv.toNat)) (fun z17 => zlet (zmany (M.1 0 3)) (fun z39 => zlet (zc_genus_W47 cv z39 ((995 : Nat)) (Int.tdiv ((z17 - 1) * (z17 - 2)) 2) 0 M) (fun q47 => (fun (v47 : Int) (q47 : Int) (M47 : zCt) => (v47, M47)) q47.1 q47.2.1 q47.2.2))) else (-100, M))
end ZCi
