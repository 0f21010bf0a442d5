section ZCi
noncomputable def zc_refuse (M : zCt) (what : Int) : zCt := (if what < 0 then M else (if 5 ≤ what then M else zlet (zw_ref M what.toNat ((M.1 1 what.toNat) + 1)) (fun M18 => M18)))
set_option maxRecDepth 100000 in
set_option maxHeartbeats 4000000 in
theorem zd_refuse (l : Launch) {D : va_G} {cI cJ cZ cP cS cM : ClassId} {L : List Nat} {sz : Nat} {f : Nat → va_E} (o : Nat) (M : zCt) (what : Int) (hP : zCP cI cP cS cZ cM o M f) (hC : zCI M) (hwhat : -2147483648 ≤ what ∧ what ≤ 2147483647) : zMv l yX11_refuse wsX11_refuse 0 0 D (zT cI cJ cZ cP cS cM) L sz f [.ref o, .int (zI what)] (fun gv => zCP cI cP cS cZ cM o (zc_refuse M what) gv ∧ zCI (zc_refuse M what) ∧ zFr f gv o (o + 681) ∧ True) := by
  refine zWalk.met (nL := 2) (ret := none) (cc := cX11_refuse) (by decide) rfl (Nat.le_of_ble_eq_true rfl) ?_
  intro pg en st mi ag bl mt cd ls CX hW hl
  have CX : zC pg st mi ag mt cd cX11_refuse 2 none RX11 wsX11_refuse := CX
  generalize hQ : MQ bl _ ag st 0 0 _ = Q
  have hX0 := CX.1
  have hB0 := CX.2.1
  have hl : lv_has ls 2 [(0, .ref o), (1, .int (zI what))] := hl
  obtain ⟨H, eH⟩ : ∃ H, H = st.heap := ⟨_, rfl⟩
  obtain ⟨locs, eL⟩ : ∃ L : List Loc, L = [] := ⟨_, rfl⟩
  have hW : zW D (zT cI cJ cZ cP cS cM) L (zQ L sz) st f st.heap H locs := by rw [eH, eL]; exact hW
  suffices hgo : W pg l en ({ frames := 0, cells := 0, slots := 0, locals := 0 } : Room) st mi ag bl mt cd H locs 0 0 Q (F0 mi 0 ls []) by rw [eH, eL] at hgo; exact hgo
  clear eH eL
  have hpb := hC.p
  have hnb := hC.cn
  refine lv_iload_n hX0 hB0 dX11_refuse_0 rfl (lv_at hl 1 rfl) ?_
  refine z_if_lt (tgt := 19) CX dX11_refuse_1 (by decide) (by constructor <;> omega) (fun c_1 => ?_) (fun c_1 => ?_)
  ·
    have hE : zc_refuse M what = M := by unfold zc_refuse; exact zif_t c_1 rfl
    rw [← hQ]
    exact z_vret CX hW (by rw [hE]; exact ⟨hP, hC, zFr.refl, trivial⟩) dX11_refuse_19
  ·
    have d_1 : ¬ what < 0 := by omega
    refine lv_iload_n hX0 hB0 dX11_refuse_4 rfl (lv_at hl 1 rfl) ?_
    refine lv_iconst (v := zI 5) hX0 hB0 dX11_refuse_5 rfl ?_
    refine z_icmp_ge (tgt := 19) CX dX11_refuse_6 (by decide) (by constructor <;> omega) (by constructor <;> omega) (fun c_6 => ?_) (fun c_6 => ?_)
    ·
      have hE : zc_refuse M what = M := by unfold zc_refuse; exact zif_f d_1 (zif_t c_6 rfl)
      rw [← hQ]
      exact z_vret CX hW (by rw [hE]; exact ⟨hP, hC, zFr.refl, trivial⟩) dX11_refuse_19
    ·
      have d_6 : ¬ 5 ≤ what := by omega
      refine lv_aload_n hX0 hB0 dX11_refuse_9 rfl (lv_at hl 0 rfl) ?_
      refine z_get (Cn := RX11) (T := TX11) (N := 13) CX hW (v := .ref (o + 680)) (show f o = _ from hP.c0) rfl (fun w h => List.mem_cons_of_mem _ (List.mem_append_right _ h)) 10 (by decide) (List.mem_of_getElem? (i := 1) rfl) rfl rfl dX11_refuse_10 ?_
      refine lv_iload_n hX0 hB0 dX11_refuse_13 rfl (lv_at hl 1 rfl) ?_
      refine lv_dup2_11 hX0 hB0 dX11_refuse_14 rfl rfl ?_
      refine z_iald (z := M.1 1 what.toNat) CX hW hP.c12 0 rfl (by refine ⟨?_, ?_, ?_⟩ <;> omega) rfl dX11_refuse_15 ?_
      refine lv_iconst (v := zI 1) hX0 hB0 dX11_refuse_16 rfl ?_
      refine z_iadd (z := (M.1 1 what.toNat) + 1) CX dX11_refuse_17 rfl ?_
      refine z_iast CX hW (show f (o + 680) = zA cI 5 (M.1 1) from hP.c12) 0 rfl (by refine ⟨?_, ?_, ?_⟩ <;> omega) (g := va_up f (o + 680) (zA cI 5 (zup (M.1 1) what.toNat ((M.1 1 what.toNat) + 1)))) rfl dX11_refuse_18 (fun H locs hW => ?_)
      obtain ⟨M18, em18⟩ : ∃ Mq, zw_ref M what.toNat ((M.1 1 what.toNat) + 1) = Mq := ⟨_, rfl⟩
      have hP18 : zCP cI cP cS cZ cM o M18 (va_up f (o + 680) (zA cI 5 (zup (M.1 1) what.toNat ((M.1 1 what.toNat) + 1)))) := by rw [← em18]; exact zr_ref hP rfl
      have hC18 : zCI M18 := by rw [← em18]; exact (show zCI _ from hC)
      have hF18 : zFr f (va_up f (o + 680) (zA cI 5 (zup (M.1 1) what.toNat ((M.1 1 what.toNat) + 1)))) o (o + 681) := zFr.trans zFr.refl (fun q hq => va_up_ne _ _ (by omega))
      have hE : zc_refuse M what = M18 := by unfold zc_refuse; exact zif_f d_1 (zif_f d_6 (zlet_e em18 rfl))
      rw [← hQ]
      exact z_vret CX hW (by rw [hE]; exact ⟨hP18, hC18, hF18, trivial⟩) dX11_refuse_19
noncomputable def zc_lookAt (M : zCt) (cv : Int) (pt : Int) : Int × zCt := (if 0 ≤ cv ∧ cv < M.1 0 4 ∧ cv < 6 then zlet (bI (zpt pt (M.1 0 3))) (fun z25 => zlet (zw_go M pt (M.1 0 3)) (fun M25 => (if z25 = 0 then (0, M25) else zlet (zw_look1 M25 (M25.2.1 cv.toNat) (M25.1 0 3)) (fun M49 => (1, M49))))) else (0, M))
set_option maxRecDepth 100000 in
set_option maxHeartbeats 4000000 in
theorem zd_lookAt (l : Launch) {D : va_G} {cI cJ cZ cP cS cM : ClassId} {L : List Nat} {sz : Nat} {f : Nat → va_E} (o : Nat) (M : zCt) (cv : Int) (pt : Int) (hP : zCP cI cP cS cZ cM o M f) (hC : zCI M) (hcv : -2147483648 ≤ cv ∧ cv ≤ 2147483647) (hpt : -2147483648 ≤ pt ∧ pt ≤ 2147483647) : zMi l yX11_lookAt wsX11_lookAt 5 123 D (zT cI cJ cZ cP cS cM) L sz f [.ref o, .int (zI cv), .int (zI pt)] (fun zv gv => zv = (zc_lookAt M cv pt).1 ∧ zCP cI cP cS cZ cM o (zc_lookAt M cv pt).2 gv ∧ zCI (zc_lookAt M cv pt).2 ∧ zFr f gv o (o + 681) ∧ zVE (zc_lookAt M cv pt).2 M ∧ 0 ≤ zv ∧ zv ≤ 1 ∧ (zv ≠ 0 → (0 ≤ ((zc_lookAt M cv pt).2).1 0 10 ∧ ((zc_lookAt M cv pt).2).1 0 10 ≤ 31) ∧ (0 ≤ ((zc_lookAt M cv pt).2).1 0 11 ∧ ((zc_lookAt M cv pt).2).1 0 11 ≤ 31) ∧ 0 ≤ ((zc_lookAt M cv pt).2).1 0 12 ∧ ((zc_lookAt M cv pt).2).1 0 12 ≤ 1)) := by
  refine zWalk.met (nL := 4) (ret := (some .boolean)) (cc := cX11_lookAt) (by decide) rfl (Nat.le_of_ble_eq_true rfl) ?_
  intro pg en st mi ag bl mt cd ls CX hW hl
  have CX : zC pg st mi ag mt cd cX11_lookAt 4 (some .boolean) RX11 wsX11_lookAt := CX
  generalize hQ : MQ bl _ ag st 0 0 _ = Q
  have hX0 := CX.1
  have hB0 := CX.2.1
  have hl : lv_has ls 4 [(0, .ref o), (1, .int (zI cv)), (2, .int (zI pt))] := hl
  obtain ⟨H, eH⟩ : ∃ H, H = st.heap := ⟨_, rfl⟩
  obtain ⟨locs, eL⟩ : ∃ L : List Loc, L = [] := ⟨_, rfl⟩
  have hW : zW D (zT cI cJ cZ cP cS cM) L (zQ L sz) st f st.heap H locs := by rw [eH, eL]; exact hW
  suffices hgo : W pg l en ({ frames := 5, cells := 0, slots := 0, locals := 123 } : Room) st mi ag bl mt cd H locs 0 0 Q (F0 mi 0 ls []) by rw [eH, eL] at hgo; exact hgo
  clear eH eL
  have hpb := hC.p
  have hnb := hC.cn
  refine lv_aload_n hX0 hB0 dX11_lookAt_0 rfl (lv_at hl 0 rfl) ?_
  refine z_get (Cn := RX11) (T := TX11) (N := 13) CX hW (v := .ref (o + 289)) (show f o = _ from hP.c0) rfl (fun w h => List.mem_cons_of_mem _ (List.mem_append_left _ (List.mem_append_left _ (List.mem_append_left _ (List.mem_append_left _ (List.mem_append_right _ h)))))) 1 (by decide) (List.mem_of_getElem? (i := 1) rfl) rfl rfl dX11_lookAt_1 ?_
  refine lv_iload_n hX0 hB0 dX11_lookAt_4 rfl (lv_at hl 1 rfl) ?_
  refine z_callr hW (va_runV (C := RX7) (As := [.int (zI cv)]) (rest := []) CX.fix (c_find l (o + 289) (M.1 0 3) (M.1 0 4) M.2.1 (M.1 3) cv hP.c3 (by omega) (by constructor <;> omega)) (cwV 1 CX.fix.2.2.2.2 gX11_lookAt_X7_find rfl rfl rfl (by decide +kernel) ⟨Nat.le_of_ble_eq_true rfl, Nat.le_of_ble_eq_true rfl⟩) (z_preV CX hW (r := (RX7, TX7, 4)) hP.c3.1 rfl) rfl rfl hl.1 rfl (lv_room (Nat.le_of_ble_eq_true rfl)) dX11_lookAt_5 ⟨Nat.zero_le _, Nat.zero_le _⟩) (fun z5 g5 H locs hok hW => ?_)
  obtain ⟨hz, hg⟩ := hok
  rw [hz]
  rw [hg] at hW
  clear hg
  by_cases cf_cv_8 : 0 ≤ cv ∧ cv < M.1 0 4 ∧ cv < 6
  ·
    have hzf := zfind_p (a := o + 289) cf_cv_8
    rw [hzf]
    clear hzf
    refine lv_astore_n (lv' := [(3, .ref (o + 289 + 3 + 2 * cv.toNat)), (0, .ref o), (1, .int (zI cv)), (2, .int (zI pt))]) hX0 hB0 dX11_lookAt_8 rfl hl (by decide) rfl (fun ls hl => ?_)
    refine lv_aload_n hX0 hB0 dX11_lookAt_9 rfl (lv_at hl 0 rfl) ?_
    refine lv_ifnull hX0 hB0 dX11_lookAt_10 ?_
    refine lv_aload_n hX0 hB0 dX11_lookAt_13 rfl (lv_at hl 1 rfl) ?_
    refine z_get (Cn := RX11) (T := TX11) (N := 13) CX hW (v := .ref (o + 606)) (show f o = _ from hP.c0) rfl (fun w h => List.mem_cons_of_mem _ (List.mem_append_left _ (List.mem_append_left _ (List.mem_append_left _ (List.mem_append_left _ (List.mem_append_right _ h)))))) 3 (by decide) (List.mem_of_getElem? (i := 2) rfl) rfl rfl dX11_lookAt_14 ?_
    refine lv_iload_n hX0 hB0 dX11_lookAt_17 rfl (lv_at hl 3 rfl) ?_
    refine lv_aload_n hX0 hB0 dX11_lookAt_18 rfl (lv_at hl 1 rfl) ?_
    refine z_get (Cn := RX11) (T := TX11) (N := 13) CX hW (v := .ref (o + 289)) (show f o = _ from hP.c0) rfl (fun w h => List.mem_cons_of_mem _ (List.mem_append_left _ (List.mem_append_left _ (List.mem_append_left _ (List.mem_append_left _ (List.mem_append_right _ h)))))) 1 (by decide) (List.mem_of_getElem? (i := 1) rfl) rfl rfl dX11_lookAt_19 ?_
    refine z_get (Cn := RX7) (T := TX7) (N := 4) CX hW (v := .int (zI (M.1 0 3))) hP.c3.1 rfl (fun w h => List.mem_cons_of_mem _ (List.mem_append_left _ (List.mem_append_left _ (List.mem_append_left _ (List.mem_append_right _ h))))) 0 (by decide) (List.mem_of_getElem? (i := 3) rfl) rfl rfl dX11_lookAt_22 ?_
    have hr22 := hC.p
    refine z_calli hW (va_runV (C := RX9) (As := [.int (zI pt), .int (zI (M.1 0 3))]) (rest := []) CX.fix (c_go l (o + 606) (M.1 0 10) (M.1 0 11) (M.1 0 12) pt (M.1 0 3) hP.c5 (by constructor <;> omega) (by omega)) (cwV 2 CX.fix.2.2.2.2 gX11_lookAt_X9_go rfl rfl rfl (by decide +kernel) ⟨Nat.le_of_ble_eq_true rfl, Nat.le_of_ble_eq_true rfl⟩) (z_preV CX hW (r := (RX9, TX9, 3)) (show f (o + 606) = _ from hP.c5) rfl) rfl rfl hl.1 rfl (lv_room (Nat.le_of_ble_eq_true rfl)) dX11_lookAt_25 ⟨Nat.zero_le _, Nat.zero_le _⟩) (fun z25 g25 H locs hok hW => ?_)
    obtain ⟨hz, hg⟩ := hok
    have e25 : bI (zpt pt (M.1 0 3)) = z25 := hz.symm
    have hb25 := bI_01 (zpt pt (M.1 0 3))
    rw [e25] at hb25
    obtain ⟨M25, em25⟩ : ∃ Mq, zw_go M pt (M.1 0 3) = Mq := ⟨_, rfl⟩
    have hP25 : zCP cI cP cS cZ cM o M25 g25 := by rw [← em25]; exact zr_go hP hg
    have hC25 : zCI M25 := by rw [← em25]; exact zi_go hC
    have hV25 : zVE M25 M := zVE.tr (by rw [← em25]; exact zv_go) zVE.rf
    have tv25_3 : M25.1 0 3 = M.1 0 3 := hV25.2 0 3 (by omega) (by omega)
    have tv25_4 : M25.1 0 4 = M.1 0 4 := hV25.2 0 4 (by omega) (by omega)
    have hF25 : zFr f g25 o (o + 681) := zFr.trans zFr.refl (fun q hq => by rw [hg]; exact va_up_ne _ _ (by omega))
    have hgo25 : ¬ z25 = 0 → (M25.1 0 10 = zpx pt (M.1 0 3) ∧ M25.1 0 11 = zpy pt (M.1 0 3) ∧ M25.1 0 12 = zpz pt (M.1 0 3)) ∧ (0 ≤ M25.1 0 10 ∧ M25.1 0 10 < (M.1 0 3)) ∧ (0 ≤ M25.1 0 11 ∧ M25.1 0 11 < (M.1 0 3)) ∧ 0 ≤ M25.1 0 12 ∧ M25.1 0 12 ≤ 1 := fun hz0 => by rw [← em25]; exact zgo_rng (by omega) (by rw [e25]; exact hz0)
    skip
    skip
    skip
    refine z_if_ne (tgt := 33) CX dX11_lookAt_28 (by decide) (by constructor <;> omega) (fun c_28 => ?_) (fun c_28 => ?_)
    ·
      refine lv_aload_n hX0 hB0 dX11_lookAt_33 rfl (lv_at hl 1 rfl) ?_
      refine z_get (Cn := RX11) (T := TX11) (N := 13) CX hW (v := .ref (o + 607)) (show g25 o = _ from hP25.c0) rfl (fun w h => List.mem_cons_of_mem _ (List.mem_append_left _ (List.mem_append_left _ (List.mem_append_left _ (List.mem_append_left _ (List.mem_append_right _ h)))))) 4 (by decide) (List.mem_of_getElem? (i := 4) rfl) rfl rfl dX11_lookAt_34 ?_
      refine lv_aload_n hX0 hB0 dX11_lookAt_37 rfl (lv_at hl 0 rfl) ?_
      refine lv_aload_n hX0 hB0 dX11_lookAt_38 rfl (lv_at hl 1 rfl) ?_
      refine z_get (Cn := RX11) (T := TX11) (N := 13) CX hW (v := .ref (o + 606)) (show g25 o = _ from hP25.c0) rfl (fun w h => List.mem_cons_of_mem _ (List.mem_append_left _ (List.mem_append_left _ (List.mem_append_left _ (List.mem_append_left _ (List.mem_append_right _ h)))))) 3 (by decide) (List.mem_of_getElem? (i := 2) rfl) rfl rfl dX11_lookAt_39 ?_
      refine lv_aload_n hX0 hB0 dX11_lookAt_42 rfl (lv_at hl 1 rfl) ?_
      refine z_get (Cn := RX11) (T := TX11) (N := 13) CX hW (v := .ref (o + 289)) (show g25 o = _ from hP25.c0) rfl (fun w h => List.mem_cons_of_mem _ (List.mem_append_left _ (List.mem_append_left _ (List.mem_append_left _ (List.mem_append_left _ (List.mem_append_right _ h)))))) 1 (by decide) (List.mem_of_getElem? (i := 1) rfl) rfl rfl dX11_lookAt_43 ?_
      refine z_get (Cn := RX7) (T := TX7) (N := 4) CX hW (v := .int (zI (M25.1 0 3))) hP25.c3.1 rfl (fun w h => List.mem_cons_of_mem _ (List.mem_append_left _ (List.mem_append_left _ (List.mem_append_left _ (List.mem_append_right _ h))))) 0 (by decide) (List.mem_of_getElem? (i := 3) rfl) rfl rfl dX11_lookAt_46 ?_
      have hr46 := hC25.p
      refine z_callv hW (va_runV (C := RX10) (As := [.ref (o + 289 + 3 + 2 * cv.toNat), .ref (o + 606), .int (zI (M25.1 0 3))]) (rest := []) CX.fix (c_look l (o + 607) (M25.1 0 13) (M25.1 20) (M25.1 21) (o + 606) (M25.1 0 10) (M25.1 0 11) (M25.1 0 12) (o + 289 + 3 + 2 * cv.toNat) (o + 289 + 3 + 2 * cv.toNat + 1) (M25.2.1 cv.toNat) (M25.1 0 3) hP25.c6.1 hP25.c6.2.1 hP25.c6.2.2.1 hP25.c6.2.2.2 (by omega) hP25.c5 (by omega) (by omega) (by omega) (by omega) (hP25.poly (k := cv.toNat) (by omega)).1 (hP25.poly (k := cv.toNat) (by omega)).2 (hC25.poly (k := cv) (by omega) (by omega)) (by omega) (by omega)) (cwV 3 CX.fix.2.2.2.2 gX11_lookAt_X10_look rfl rfl rfl (by decide +kernel) ⟨Nat.le_of_ble_eq_true rfl, Nat.le_of_ble_eq_true rfl⟩) (z_preV CX hW (r := (RX10, TX10, 3)) hP25.c6.1 rfl) rfl rfl hl.1 rfl (lv_room (Nat.le_of_ble_eq_true rfl)) dX11_lookAt_49 ⟨Nat.zero_le _, Nat.zero_le _⟩) (fun g49 H locs hok hW => ?_)
      have hg := hok
      obtain ⟨M49, em49⟩ : ∃ Mq, zw_look1 M25 (M25.2.1 cv.toNat) (M25.1 0 3) = Mq := ⟨_, rfl⟩
      have hP49 : zCP cI cP cS cZ cM o M49 g49 := by rw [← em49]; exact zr_look1 hP25 hg
      have hC49 : zCI M49 := by rw [← em49]; exact zi_look1 hC25 (by omega)
      have hV49 : zVE M49 M := zVE.tr (by rw [← em49]; exact zv_look1) hV25
      have tv49_3 : M49.1 0 3 = M.1 0 3 := hV49.2 0 3 (by omega) (by omega)
      have tv49_4 : M49.1 0 4 = M.1 0 4 := hV49.2 0 4 (by omega) (by omega)
      have hF49 : zFr f g49 o (o + 681) := zFr.trans hF25 (fun q hq => by rw [hg, va_up_ne _ _ (by omega), va_up_ne _ _ (by omega)])
      have ts49_10 : M49.1 0 10 = M25.1 0 10 := by rw [← em49]; rfl
      have ts49_11 : M49.1 0 11 = M25.1 0 11 := by rw [← em49]; rfl
      have ts49_12 : M49.1 0 12 = M25.1 0 12 := by rw [← em49]; rfl
      refine lv_iconst (v := zI 1) hX0 hB0 dX11_lookAt_52 rfl ?_
      have hE : zc_lookAt M cv pt = (1, M49) := by unfold zc_lookAt; exact zif_t cf_cv_8 (zlet_e e25 (zlet_e em25 (zif_f c_28 (zlet_e em49 rfl))))
      rw [← hQ]
      exact z_iret (z := 1) CX hW (by rw [hE]; exact ⟨rfl, hP49, hC49, hF49, hV49, (show 0 ≤ (1 : Int) ∧ (1 : Int) ≤ 1 ∧ ((1 : Int) ≠ 0 → (0 ≤ M49.1 0 10 ∧ M49.1 0 10 ≤ 31) ∧ (0 ≤ M49.1 0 11 ∧ M49.1 0 11 ≤ 31) ∧ 0 ≤ M49.1 0 12 ∧ M49.1 0 12 ≤ 1) from by omega)⟩) rfl dX11_lookAt_53
    ·
      refine lv_iconst (v := zI 0) hX0 hB0 dX11_lookAt_31 rfl ?_
      have hE : zc_lookAt M cv pt = (0, M25) := by unfold zc_lookAt; exact zif_t cf_cv_8 (zlet_e e25 (zlet_e em25 (zif_t c_28 rfl)))
      rw [← hQ]
      exact z_iret (z := 0) CX hW (by rw [hE]; exact ⟨rfl, hP25, hC25, hF25, hV25, (show 0 ≤ (0 : Int) ∧ (0 : Int) ≤ 1 ∧ ((0 : Int) ≠ 0 → (0 ≤ M25.1 0 10 ∧ M25.1 0 10 ≤ 31) ∧ (0 ≤ M25.1 0 11 ∧ M25.1 0 11 ≤ 31) ∧ 0 ≤ M25.1 0 12 ∧ M25.1 0 12 ≤ 1) from by omega)⟩) rfl dX11_lookAt_32
  ·
    have hzf := zfind_n (a := o + 289) cf_cv_8
    rw [hzf]
    clear hzf
    refine lv_astore_nN (lv' := [(3, .null), (0, .ref o), (1, .int (zI cv)), (2, .int (zI pt))]) hX0 hB0 dX11_lookAt_8 rfl hl (by decide) rfl (fun ls hl => ?_)
    refine lv_aload_nN hX0 hB0 dX11_lookAt_9 rfl (lv_at hl 0 rfl) ?_
    refine lv_ifnullN (tgt := 31) hX0 hB0 dX11_lookAt_10 (by decide) ?_
    refine lv_iconst (v := zI 0) hX0 hB0 dX11_lookAt_31 rfl ?_
    have hE : zc_lookAt M cv pt = (0, M) := by unfold zc_lookAt; exact zif_f cf_cv_8 rfl
    rw [← hQ]
    exact z_iret (z := 0) CX hW (by rw [hE]; exact ⟨rfl, hP, hC, zFr.refl, zVE.rf, (show 0 ≤ (0 : Int) ∧ (0 : Int) ≤ 1 ∧ ((0 : Int) ≠ 0 → (0 ≤ M.1 0 10 ∧ M.1 0 10 ≤ 31) ∧ (0 ≤ M.1 0 11 ∧ M.1 0 11 ≤ 31) ∧ 0 ≤ M.1 0 12 ∧ M.1 0 12 ≤ 1) from by omega)⟩) rfl dX11_lookAt_32
noncomputable def zc_has (M : zCt) (what : Int) : Int × zCt := (if what = 0 then (M.1 0 3, M) else (if what = 1 then (M.1 0 4, M) else (if what = 2 then zlet (zmany (M.1 0 3)) (fun z55 => (z55, M)) else (if what = 3 then (M.1 0 5, M) else (-1, M)))))
set_option maxRecDepth 100000 in
set_option maxHeartbeats 4000000 in
theorem zd_has (l : Launch) {D : va_G} {cI cJ cZ cP cS cM : ClassId} {L : List Nat} {sz : Nat} {f : Nat → va_E} (o : Nat) (M : zCt) (what : Int) (hP : zCP cI cP cS cZ cM o M f) (hC : zCI M) (hwhat : -2147483648 ≤ what ∧ what ≤ 2147483647) : zMi l yX11_has wsX11_has 1 20 D (zT cI cJ cZ cP cS cM) L sz f [.ref o, .int (zI what)] (fun zv gv => zv = (zc_has M what).1 ∧ zCP cI cP cS cZ cM o (zc_has M what).2 gv ∧ zCI (zc_has M what).2 ∧ zFr f gv o (o + 681) ∧ zVE (zc_has M what).2 M ∧ True) := by
  refine zWalk.met (nL := 2) (ret := (some .int)) (cc := cX11_has) (by decide) rfl (Nat.le_of_ble_eq_true rfl) ?_
  intro pg en st mi ag bl mt cd ls CX hW hl
  have CX : zC pg st mi ag mt cd cX11_has 2 (some .int) RX11 wsX11_has := CX
  generalize hQ : MQ bl _ ag st 0 0 _ = Q
  have hX0 := CX.1
  have hB0 := CX.2.1
  have hl : lv_has ls 2 [(0, .ref o), (1, .int (zI what))] := hl
  obtain ⟨H, eH⟩ : ∃ H, H = st.heap := ⟨_, rfl⟩
  obtain ⟨locs, eL⟩ : ∃ L : List Loc, L = [] := ⟨_, rfl⟩
  have hW : zW D (zT cI cJ cZ cP cS cM) L (zQ L sz) st f st.heap H locs := by rw [eH, eL]; exact hW
  suffices hgo : W pg l en ({ frames := 1, cells := 0, slots := 0, locals := 20 } : Room) st mi ag bl mt cd H locs 0 0 Q (F0 mi 0 ls []) by rw [eH, eL] at hgo; exact hgo
  clear eH eL
  have hpb := hC.p
  have hnb := hC.cn
  refine lv_iload_n hX0 hB0 dX11_has_0 rfl (lv_at hl 1 rfl) ?_
  by_cases c_1_0 : what = 0
  ·
    refine z_tin (K := 0) (off := 31) (tgt := 32) CX dX11_has_1 (by constructor <;> omega) c_1_0 (by decide) (by decide) rfl (by decide) ?_
    refine lv_aload_n hX0 hB0 dX11_has_32 rfl (lv_at hl 0 rfl) ?_
    refine z_get (Cn := RX11) (T := TX11) (N := 13) CX hW (v := .ref (o + 289)) (show f o = _ from hP.c0) rfl (fun w h => List.mem_cons_of_mem _ (List.mem_append_left _ (List.mem_append_left _ (List.mem_append_right _ h)))) 1 (by decide) (List.mem_of_getElem? (i := 1) rfl) rfl rfl dX11_has_33 ?_
    refine z_get (Cn := RX7) (T := TX7) (N := 4) CX hW (v := .int (zI (M.1 0 3))) hP.c3.1 rfl (fun w h => List.mem_cons_of_mem _ (List.mem_append_left _ (List.mem_append_right _ h))) 0 (by decide) (List.mem_of_getElem? (i := 2) rfl) rfl rfl dX11_has_36 ?_
    have hr36 := hC.p
    have hE : zc_has M what = (M.1 0 3, M) := by unfold zc_has; exact zif_t c_1_0 rfl
    rw [← hQ]
    exact z_iret (z := M.1 0 3) CX hW (by rw [hE]; exact ⟨rfl, hP, hC, zFr.refl, zVE.rf, trivial⟩) rfl dX11_has_39
  by_cases c_1_1 : what = 1
  ·
    refine z_tin (K := 1) (off := 39) (tgt := 40) CX dX11_has_1 (by constructor <;> omega) c_1_1 (by decide) (by decide) rfl (by decide) ?_
    refine lv_aload_n hX0 hB0 dX11_has_40 rfl (lv_at hl 0 rfl) ?_
    refine z_get (Cn := RX11) (T := TX11) (N := 13) CX hW (v := .ref (o + 289)) (show f o = _ from hP.c0) rfl (fun w h => List.mem_cons_of_mem _ (List.mem_append_left _ (List.mem_append_left _ (List.mem_append_right _ h)))) 1 (by decide) (List.mem_of_getElem? (i := 1) rfl) rfl rfl dX11_has_41 ?_
    refine z_get (Cn := RX7) (T := TX7) (N := 4) CX hW (v := .int (zI (M.1 0 4))) hP.c3.1 rfl (fun w h => List.mem_cons_of_mem _ (List.mem_append_left _ (List.mem_append_right _ h))) 1 (by decide) (List.mem_of_getElem? (i := 3) rfl) rfl rfl dX11_has_44 ?_
    have hr44 := hC.cn
    have hE : zc_has M what = (M.1 0 4, M) := by unfold zc_has; exact zif_f c_1_0 (zif_t c_1_1 rfl)
    rw [← hQ]
    exact z_iret (z := M.1 0 4) CX hW (by rw [hE]; exact ⟨rfl, hP, hC, zFr.refl, zVE.rf, trivial⟩) rfl dX11_has_47
  by_cases c_1_2 : what = 2
  ·
    refine z_tin (K := 2) (off := 47) (tgt := 48) CX dX11_has_1 (by constructor <;> omega) c_1_2 (by decide) (by decide) rfl (by decide) ?_
    refine lv_aload_n hX0 hB0 dX11_has_48 rfl (lv_at hl 0 rfl) ?_
    refine z_get (Cn := RX11) (T := TX11) (N := 13) CX hW (v := .ref (o + 289)) (show f o = _ from hP.c0) rfl (fun w h => List.mem_cons_of_mem _ (List.mem_append_left _ (List.mem_append_left _ (List.mem_append_right _ h)))) 1 (by decide) (List.mem_of_getElem? (i := 1) rfl) rfl rfl dX11_has_49 ?_
    refine z_get (Cn := RX7) (T := TX7) (N := 4) CX hW (v := .int (zI (M.1 0 3))) hP.c3.1 rfl (fun w h => List.mem_cons_of_mem _ (List.mem_append_left _ (List.mem_append_right _ h))) 0 (by decide) (List.mem_of_getElem? (i := 2) rfl) rfl rfl dX11_has_52 ?_
    have hr52 := hC.p
    refine z_calli hW (va_runS (As := [.int (zI (M.1 0 3))]) (rest := []) CX.fix (c_howMany l (f := f) (M.1 0 3)) (va_cwS 1 CX.fix.2.2.2.2 gX11_has_X9_howMany rfl rfl rfl (by decide +kernel) ⟨Nat.le_of_ble_eq_true rfl, Nat.le_of_ble_eq_true rfl⟩) (z_preS CX hW) rfl rfl hl.1 rfl (lv_room (Nat.le_of_ble_eq_true rfl)) dX11_has_55 ⟨Nat.zero_le _, Nat.zero_le _⟩) (fun z55 g55 H locs hok hW => ?_)
    obtain ⟨hz, hg⟩ := hok
    have e55 : zmany (M.1 0 3) = z55 := hz.symm
    have hmy55 := zmany_rng (p := (M.1 0 3)) (by omega)
    rw [e55] at hmy55
    rw [hg] at hW
    clear hg
    have hE : zc_has M what = (z55, M) := by unfold zc_has; exact zif_f c_1_0 (zif_f c_1_1 (zif_t c_1_2 (zlet_e e55 rfl)))
    rw [← hQ]
    exact z_iret (z := z55) CX hW (by rw [hE]; exact ⟨rfl, hP, hC, zFr.refl, zVE.rf, trivial⟩) rfl dX11_has_58
  by_cases c_1_3 : what = 3
  ·
    refine z_tin (K := 3) (off := 58) (tgt := 59) CX dX11_has_1 (by constructor <;> omega) c_1_3 (by decide) (by decide) rfl (by decide) ?_
    refine lv_aload_n hX0 hB0 dX11_has_59 rfl (lv_at hl 0 rfl) ?_
    refine z_get (Cn := RX11) (T := TX11) (N := 13) CX hW (v := .ref (o + 304)) (show f o = _ from hP.c0) rfl (fun w h => List.mem_cons_of_mem _ (List.mem_append_left _ (List.mem_append_left _ (List.mem_append_right _ h)))) 2 (by decide) (List.mem_of_getElem? (i := 4) rfl) rfl rfl dX11_has_60 ?_
    refine z_get (Cn := RX1) (T := TX1) (N := 3) CX hW (v := .int (zI (M.1 0 5))) hP.c4.1 rfl (fun w h => List.mem_cons_of_mem _ (List.mem_append_right _ h)) 0 (by decide) (List.mem_of_getElem? (i := 5) rfl) rfl rfl dX11_has_63 ?_
    have hr63 := hC.ct
    have hE : zc_has M what = (M.1 0 5, M) := by unfold zc_has; exact zif_f c_1_0 (zif_f c_1_1 (zif_f c_1_2 (zif_t c_1_3 rfl)))
    rw [← hQ]
    exact z_iret (z := M.1 0 5) CX hW (by rw [hE]; exact ⟨rfl, hP, hC, zFr.refl, zVE.rf, trivial⟩) rfl dX11_has_66
  refine z_tout (tgt := 67) CX dX11_has_1 (by constructor <;> omega) (by omega) (by decide) ?_
  refine lv_iconst (v := zI (-1)) hX0 hB0 dX11_has_67 rfl ?_
  have hE : zc_has M what = (-1, M) := by unfold zc_has; exact zif_f c_1_0 (zif_f c_1_1 (zif_f c_1_2 (zif_f c_1_3 rfl)))
  rw [← hQ]
  exact z_iret (z := -1) CX hW (by rw [hE]; exact ⟨rfl, hP, hC, zFr.refl, zVE.rf, trivial⟩) rfl dX11_has_68
noncomputable def zc_fault (M : zCt) (what : Int) : Int × zCt := (if what = 0 then (M.1 0 0, M) else (if what = 1 then (M.1 0 1, M) else (-1, M)))
set_option maxRecDepth 100000 in
set_option maxHeartbeats 4000000 in
theorem zd_fault (l : Launch) {D : va_G} {cI cJ cZ cP cS cM : ClassId} {L : List Nat} {sz : Nat} {f : Nat → va_E} (o : Nat) (M : zCt) (what : Int) (hP : zCP cI cP cS cZ cM o M f) (hC : zCI M) (hwhat : -2147483648 ≤ what ∧ what ≤ 2147483647) : zMi l yX11_fault wsX11_fault 0 0 D (zT cI cJ cZ cP cS cM) L sz f [.ref o, .int (zI what)] (fun zv gv => zv = (zc_fault M what).1 ∧ zCP cI cP cS cZ cM o (zc_fault M what).2 gv ∧ zCI (zc_fault M what).2 ∧ zFr f gv o (o + 681) ∧ zVE (zc_fault M what).2 M ∧ True) := by
  refine zWalk.met (nL := 2) (ret := (some .int)) (cc := cX11_fault) (by decide) rfl (Nat.le_of_ble_eq_true rfl) ?_
  intro pg en st mi ag bl mt cd ls CX hW hl
  have CX : zC pg st mi ag mt cd cX11_fault 2 (some .int) RX11 wsX11_fault := CX
  generalize hQ : MQ bl _ ag st 0 0 _ = Q
  have hX0 := CX.1
  have hB0 := CX.2.1
  have hl : lv_has ls 2 [(0, .ref o), (1, .int (zI what))] := hl
  obtain ⟨H, eH⟩ : ∃ H, H = st.heap := ⟨_, rfl⟩
  obtain ⟨locs, eL⟩ : ∃ L : List Loc, L = [] := ⟨_, rfl⟩
  have hW : zW D (zT cI cJ cZ cP cS cM) L (zQ L sz) st f st.heap H locs := by rw [eH, eL]; exact hW
  suffices hgo : W pg l en ({ frames := 0, cells := 0, slots := 0, locals := 0 } : Room) st mi ag bl mt cd H locs 0 0 Q (F0 mi 0 ls []) by rw [eH, eL] at hgo; exact hgo
  clear eH eL
  have hpb := hC.p
  have hnb := hC.cn
  refine lv_iload_n hX0 hB0 dX11_fault_0 rfl (lv_at hl 1 rfl) ?_
  refine z_if_ne (tgt := 9) CX dX11_fault_1 (by decide) (by constructor <;> omega) (fun c_1 => ?_) (fun c_1 => ?_)
  ·
    refine lv_iload_n hX0 hB0 dX11_fault_9 rfl (lv_at hl 1 rfl) ?_
    refine lv_iconst (v := zI 1) hX0 hB0 dX11_fault_10 rfl ?_
    refine z_icmp_ne (tgt := 21) CX dX11_fault_11 (by decide) (by constructor <;> omega) (by constructor <;> omega) (fun c_11 => ?_) (fun c_11 => ?_)
    ·
      refine lv_iconst (v := zI (-1)) hX0 hB0 dX11_fault_21 rfl ?_
      have hE : zc_fault M what = (-1, M) := by unfold zc_fault; exact zif_f c_1 (zif_f c_11 rfl)
      rw [← hQ]
      exact z_iret (z := -1) CX hW (by rw [hE]; exact ⟨rfl, hP, hC, zFr.refl, zVE.rf, trivial⟩) rfl dX11_fault_22
    ·
      refine lv_aload_n hX0 hB0 dX11_fault_14 rfl (lv_at hl 0 rfl) ?_
      refine z_get (Cn := RX11) (T := TX11) (N := 13) CX hW (v := .int (zI (M.1 0 1))) (show f o = _ from hP.c0) rfl (fun w h => List.mem_cons_of_mem _ (List.mem_append_right _ h)) 12 (by decide) (List.mem_of_getElem? (i := 2) rfl) rfl rfl dX11_fault_15 ?_
      refine lv_goto (tgt := 22) hX0 hB0 dX11_fault_18 (by decide) ?_
      have hE : zc_fault M what = (M.1 0 1, M) := by unfold zc_fault; exact zif_f c_1 (zif_t c_11 rfl)
      rw [← hQ]
      exact z_iret (z := M.1 0 1) CX hW (by rw [hE]; exact ⟨rfl, hP, hC, zFr.refl, zVE.rf, trivial⟩) rfl dX11_fault_22
  ·
    refine lv_aload_n hX0 hB0 dX11_fault_4 rfl (lv_at hl 0 rfl) ?_
    refine z_get (Cn := RX11) (T := TX11) (N := 13) CX hW (v := .int (zI (M.1 0 0))) (show f o = _ from hP.c0) rfl (fun w h => List.mem_cons_of_mem _ (List.mem_append_right _ h)) 11 (by decide) (List.mem_of_getElem? (i := 1) rfl) rfl rfl dX11_fault_5 ?_
    have hE : zc_fault M what = (M.1 0 0, M) := by unfold zc_fault; exact zif_t c_1 rfl
    rw [← hQ]
    exact z_iret (z := M.1 0 0) CX hW (by rw [hE]; exact ⟨rfl, hP, hC, zFr.refl, zVE.rf, trivial⟩) rfl dX11_fault_8
noncomputable def zc_status (M : zCt) (what : Int) : Int × zCt := (if what < 0 then (-1, M) else (if what < 5 then (M.1 1 what.toNat, M) else (-1, M)))
set_option maxRecDepth 100000 in
set_option maxHeartbeats 4000000 in
theorem zd_status (l : Launch) {D : va_G} {cI cJ cZ cP cS cM : ClassId} {L : List Nat} {sz : Nat} {f : Nat → va_E} (o : Nat) (M : zCt) (what : Int) (hP : zCP cI cP cS cZ cM o M f) (hC : zCI M) (hwhat : -2147483648 ≤ what ∧ what ≤ 2147483647) : zMi l yX11_status wsX11_status 0 0 D (zT cI cJ cZ cP cS cM) L sz f [.ref o, .int (zI what)] (fun zv gv => zv = (zc_status M what).1 ∧ zCP cI cP cS cZ cM o (zc_status M what).2 gv ∧ zCI (zc_status M what).2 ∧ zFr f gv o (o + 681) ∧ zVE (zc_status M what).2 M ∧ True) := by
  refine zWalk.met (nL := 2) (ret := (some .int)) (cc := cX11_status) (by decide) rfl (Nat.le_of_ble_eq_true rfl) ?_
  intro pg en st mi ag bl mt cd ls CX hW hl
  have CX : zC pg st mi ag mt cd cX11_status 2 (some .int) RX11 wsX11_status := CX
  generalize hQ : MQ bl _ ag st 0 0 _ = Q
  have hX0 := CX.1
  have hB0 := CX.2.1
  have hl : lv_has ls 2 [(0, .ref o), (1, .int (zI what))] := hl
  obtain ⟨H, eH⟩ : ∃ H, H = st.heap := ⟨_, rfl⟩
  obtain ⟨locs, eL⟩ : ∃ L : List Loc, L = [] := ⟨_, rfl⟩
  have hW : zW D (zT cI cJ cZ cP cS cM) L (zQ L sz) st f st.heap H locs := by rw [eH, eL]; exact hW
  suffices hgo : W pg l en ({ frames := 0, cells := 0, slots := 0, locals := 0 } : Room) st mi ag bl mt cd H locs 0 0 Q (F0 mi 0 ls []) by rw [eH, eL] at hgo; exact hgo
  clear eH eL
  have hpb := hC.p
  have hnb := hC.cn
  refine lv_iload_n hX0 hB0 dX11_status_0 rfl (lv_at hl 1 rfl) ?_
  refine z_if_lt (tgt := 9) CX dX11_status_1 (by decide) (by constructor <;> omega) (fun c_1 => ?_) (fun c_1 => ?_)
  ·
    refine lv_iconst (v := zI (-1)) hX0 hB0 dX11_status_9 rfl ?_
    refine lv_goto (tgt := 19) hX0 hB0 dX11_status_10 (by decide) ?_
    have hE : zc_status M what = (-1, M) := by unfold zc_status; exact zif_t c_1 rfl
    rw [← hQ]
    exact z_iret (z := -1) CX hW (by rw [hE]; exact ⟨rfl, hP, hC, zFr.refl, zVE.rf, trivial⟩) rfl dX11_status_19
  ·
    have d_1 : ¬ what < 0 := by omega
    refine lv_iload_n hX0 hB0 dX11_status_4 rfl (lv_at hl 1 rfl) ?_
    refine lv_iconst (v := zI 5) hX0 hB0 dX11_status_5 rfl ?_
    refine z_icmp_lt (tgt := 13) CX dX11_status_6 (by decide) (by constructor <;> omega) (by constructor <;> omega) (fun c_6 => ?_) (fun c_6 => ?_)
    ·
      refine lv_aload_n hX0 hB0 dX11_status_13 rfl (lv_at hl 0 rfl) ?_
      refine z_get (Cn := RX11) (T := TX11) (N := 13) CX hW (v := .ref (o + 680)) (show f o = _ from hP.c0) rfl (fun w h => List.mem_cons_of_mem _ (List.mem_append_right _ h)) 10 (by decide) (List.mem_of_getElem? (i := 1) rfl) rfl rfl dX11_status_14 ?_
      refine lv_iload_n hX0 hB0 dX11_status_17 rfl (lv_at hl 1 rfl) ?_
      refine z_iald (z := M.1 1 what.toNat) CX hW hP.c12 0 rfl (by refine ⟨?_, ?_, ?_⟩ <;> omega) rfl dX11_status_18 ?_
      have hE : zc_status M what = (M.1 1 what.toNat, M) := by unfold zc_status; exact zif_f d_1 (zif_t c_6 rfl)
      rw [← hQ]
      exact z_iret (z := M.1 1 what.toNat) CX hW (by rw [hE]; exact ⟨rfl, hP, hC, zFr.refl, zVE.rf, trivial⟩) rfl dX11_status_19
    ·
      have d_6 : ¬ what < 5 := by omega
      refine lv_iconst (v := zI (-1)) hX0 hB0 dX11_status_9 rfl ?_
      refine lv_goto (tgt := 19) hX0 hB0 dX11_status_10 (by decide) ?_
      have hE : zc_status M what = (-1, M) := by unfold zc_status; exact zif_f d_1 (zif_f d_6 rfl)
      rw [← hQ]
      exact z_iret (z := -1) CX hW (by rw [hE]; exact ⟨rfl, hP, hC, zFr.refl, zVE.rf, trivial⟩) rfl dX11_status_19
noncomputable def zc_term (M : zCt) (cv : Int) (i : Int) (j : Int) : Int × zCt := (if 0 ≤ cv ∧ cv < M.1 0 4 ∧ cv < 6 then zlet (bI (zfits i j)) (fun z17 => (if z17 = 0 then (-1, M) else zlet (zat (M.2.1 cv.toNat) i j) (fun z31 => (z31, M)))) else (-1, M))
set_option maxRecDepth 100000 in
set_option maxHeartbeats 4000000 in
theorem zd_term (l : Launch) {D : va_G} {cI cJ cZ cP cS cM : ClassId} {L : List Nat} {sz : Nat} {f : Nat → va_E} (o : Nat) (M : zCt) (cv : Int) (i : Int) (j : Int) (hP : zCP cI cP cS cZ cM o M f) (hC : zCI M) (hcv : -2147483648 ≤ cv ∧ cv ≤ 2147483647) (hi : -2147483648 ≤ i ∧ i ≤ 2147483647) (hj : -2147483648 ≤ j ∧ j ≤ 2147483647) : zMi l yX11_term wsX11_term 2 43 D (zT cI cJ cZ cP cS cM) L sz f [.ref o, .int (zI cv), .int (zI i), .int (zI j)] (fun zv gv => zv = (zc_term M cv i j).1 ∧ zCP cI cP cS cZ cM o (zc_term M cv i j).2 gv ∧ zCI (zc_term M cv i j).2 ∧ zFr f gv o (o + 681) ∧ zVE (zc_term M cv i j).2 M ∧ True) := by
  refine zWalk.met (nL := 5) (ret := (some .int)) (cc := cX11_term) (by decide) rfl (Nat.le_of_ble_eq_true rfl) ?_
  intro pg en st mi ag bl mt cd ls CX hW hl
  have CX : zC pg st mi ag mt cd cX11_term 5 (some .int) RX11 wsX11_term := CX
  generalize hQ : MQ bl _ ag st 0 0 _ = Q
  have hX0 := CX.1
  have hB0 := CX.2.1
  have hl : lv_has ls 5 [(0, .ref o), (1, .int (zI cv)), (2, .int (zI i)), (3, .int (zI j))] := hl
  obtain ⟨H, eH⟩ : ∃ H, H = st.heap := ⟨_, rfl⟩
  obtain ⟨locs, eL⟩ : ∃ L : List Loc, L = [] := ⟨_, rfl⟩
  have hW : zW D (zT cI cJ cZ cP cS cM) L (zQ L sz) st f st.heap H locs := by rw [eH, eL]; exact hW
  suffices hgo : W pg l en ({ frames := 2, cells := 0, slots := 0, locals := 43 } : Room) st mi ag bl mt cd H locs 0 0 Q (F0 mi 0 ls []) by rw [eH, eL] at hgo; exact hgo
  clear eH eL
  have hpb := hC.p
  have hnb := hC.cn
  refine lv_aload_n hX0 hB0 dX11_term_0 rfl (lv_at hl 0 rfl) ?_
  refine z_get (Cn := RX11) (T := TX11) (N := 13) CX hW (v := .ref (o + 289)) (show f o = _ from hP.c0) rfl (fun w h => List.mem_cons_of_mem _ (List.mem_append_left _ (List.mem_append_left _ (List.mem_append_right _ h)))) 1 (by decide) (List.mem_of_getElem? (i := 1) rfl) rfl rfl dX11_term_1 ?_
  refine lv_iload_n hX0 hB0 dX11_term_4 rfl (lv_at hl 1 rfl) ?_
  refine z_callr hW (va_runV (C := RX7) (As := [.int (zI cv)]) (rest := []) CX.fix (c_find l (o + 289) (M.1 0 3) (M.1 0 4) M.2.1 (M.1 3) cv hP.c3 (by omega) (by constructor <;> omega)) (cwV 1 CX.fix.2.2.2.2 gX11_term_X7_find rfl rfl rfl (by decide +kernel) ⟨Nat.le_of_ble_eq_true rfl, Nat.le_of_ble_eq_true rfl⟩) (z_preV CX hW (r := (RX7, TX7, 4)) hP.c3.1 rfl) rfl rfl hl.1 rfl (lv_room (Nat.le_of_ble_eq_true rfl)) dX11_term_5 ⟨Nat.zero_le _, Nat.zero_le _⟩) (fun z5 g5 H locs hok hW => ?_)
  obtain ⟨hz, hg⟩ := hok
  rw [hz]
  rw [hg] at hW
  clear hg
  by_cases cf_cv_8 : 0 ≤ cv ∧ cv < M.1 0 4 ∧ cv < 6
  ·
    have hzf := zfind_p (a := o + 289) cf_cv_8
    rw [hzf]
    clear hzf
    refine lv_astore (lv' := [(4, .ref (o + 289 + 3 + 2 * cv.toNat)), (0, .ref o), (1, .int (zI cv)), (2, .int (zI i)), (3, .int (zI j))]) hX0 hB0 dX11_term_8 hl (by decide) rfl (fun ls hl => ?_)
    refine lv_aload hX0 hB0 dX11_term_10 (lv_at hl 0 rfl) ?_
    refine lv_ifnull hX0 hB0 dX11_term_12 ?_
    refine lv_iload_n hX0 hB0 dX11_term_15 rfl (lv_at hl 3 rfl) ?_
    refine lv_iload_n hX0 hB0 dX11_term_16 rfl (lv_at hl 4 rfl) ?_
    refine z_calli hW (va_runS (As := [.int (zI i), .int (zI j)]) (rest := []) CX.fix (c_fits l (f := f) i j (by constructor <;> omega) (by constructor <;> omega)) (va_cwS 2 CX.fix.2.2.2.2 gX11_term_X2_fits rfl rfl rfl (by decide +kernel) ⟨Nat.le_of_ble_eq_true rfl, Nat.le_of_ble_eq_true rfl⟩) (z_preS CX hW) rfl rfl hl.1 rfl (lv_room (Nat.le_of_ble_eq_true rfl)) dX11_term_17 ⟨Nat.zero_le _, Nat.zero_le _⟩) (fun z17 g17 H locs hok hW => ?_)
    obtain ⟨hz, hg⟩ := hok
    have e17 : bI (zfits i j) = z17 := hz.symm
    have hb17 := bI_01 (zfits i j)
    rw [e17] at hb17
    rw [hg] at hW
    clear hg
    refine z_if_ne (tgt := 27) CX dX11_term_20 (by decide) (by constructor <;> omega) (fun c_20 => ?_) (fun c_20 => ?_)
    ·
      refine lv_aload hX0 hB0 dX11_term_27 (lv_at hl 0 rfl) ?_
      refine lv_iload_n hX0 hB0 dX11_term_29 rfl (lv_at hl 3 rfl) ?_
      refine lv_iload_n hX0 hB0 dX11_term_30 rfl (lv_at hl 4 rfl) ?_
      refine z_calli hW (va_runV (C := RX2) (As := [.int (zI i), .int (zI j)]) (rest := []) CX.fix (c_at l (o + 289 + 3 + 2 * cv.toNat) (o + 289 + 3 + 2 * cv.toNat + 1) (M.2.1 cv.toNat) i j (hP.poly (k := cv.toNat) (by omega)).1 (hP.poly (k := cv.toNat) (by omega)).2 (by constructor <;> omega) (by constructor <;> omega)) (cwV 2 CX.fix.2.2.2.2 gX11_term_X2_at rfl rfl rfl (by decide +kernel) ⟨Nat.le_of_ble_eq_true rfl, Nat.le_of_ble_eq_true rfl⟩) (z_preV CX hW (r := (RX2, TX2, 1)) (hP.poly (k := cv.toNat) (by omega)).1 rfl) rfl rfl hl.1 rfl (lv_room (Nat.le_of_ble_eq_true rfl)) dX11_term_31 ⟨Nat.zero_le _, Nat.zero_le _⟩) (fun z31 g31 H locs hok hW => ?_)
      obtain ⟨hz, hg⟩ := hok
      have e31 : zat (M.2.1 cv.toNat) i j = z31 := hz.symm
      rw [hg] at hW
      clear hg
      have hE : zc_term M cv i j = (z31, M) := by unfold zc_term; exact zif_t cf_cv_8 (zlet_e e17 (zif_f c_20 (zlet_e e31 rfl)))
      rw [← hQ]
      exact z_iret (z := z31) CX hW (by rw [hE]; exact ⟨rfl, hP, hC, zFr.refl, zVE.rf, trivial⟩) rfl dX11_term_34
    ·
      refine lv_iconst (v := zI (-1)) hX0 hB0 dX11_term_23 rfl ?_
      refine lv_goto (tgt := 34) hX0 hB0 dX11_term_24 (by decide) ?_
      have hE : zc_term M cv i j = (-1, M) := by unfold zc_term; exact zif_t cf_cv_8 (zlet_e e17 (zif_t c_20 rfl))
      rw [← hQ]
      exact z_iret (z := -1) CX hW (by rw [hE]; exact ⟨rfl, hP, hC, zFr.refl, zVE.rf, trivial⟩) rfl dX11_term_34
  ·
    have hzf := zfind_n (a := o + 289) cf_cv_8
    rw [hzf]
    clear hzf
    refine lv_astoreN (lv' := [(4, .null), (0, .ref o), (1, .int (zI cv)), (2, .int (zI i)), (3, .int (zI j))]) hX0 hB0 dX11_term_8 hl (by decide) rfl (fun ls hl => ?_)
    refine lv_aloadN hX0 hB0 dX11_term_10 (lv_at hl 0 rfl) ?_
    refine lv_ifnullN (tgt := 23) hX0 hB0 dX11_term_12 (by decide) ?_
    refine lv_iconst (v := zI (-1)) hX0 hB0 dX11_term_23 rfl ?_
    refine lv_goto (tgt := 34) hX0 hB0 dX11_term_24 (by decide) ?_
    have hE : zc_term M cv i j = (-1, M) := by unfold zc_term; exact zif_f cf_cv_8 rfl
    rw [← hQ]
    exact z_iret (z := -1) CX hW (by rw [hE]; exact ⟨rfl, hP, hC, zFr.refl, zVE.rf, trivial⟩) rfl dX11_term_34
noncomputable def zc_degree (M : zCt) (cv : Int) : Int × zCt := (if 0 ≤ cv ∧ cv < M.1 0 4 ∧ cv < 6 then zlet (ztop (M.2.1 cv.toNat)) (fun z18 => (z18, M)) else (-1, M))
set_option maxRecDepth 100000 in
set_option maxHeartbeats 4000000 in
theorem zd_degree (l : Launch) {D : va_G} {cI cJ cZ cP cS cM : ClassId} {L : List Nat} {sz : Nat} {f : Nat → va_E} (o : Nat) (M : zCt) (cv : Int) (hP : zCP cI cP cS cZ cM o M f) (hC : zCI M) (hcv : -2147483648 ≤ cv ∧ cv ≤ 2147483647) : zMi l yX11_degree wsX11_degree 2 44 D (zT cI cJ cZ cP cS cM) L sz f [.ref o, .int (zI cv)] (fun zv gv => zv = (zc_degree M cv).1 ∧ zCP cI cP cS cZ cM o (zc_degree M cv).2 gv ∧ zCI (zc_degree M cv).2 ∧ zFr f gv o (o + 681) ∧ zVE (zc_degree M cv).2 M ∧ True) := by
  refine zWalk.met (nL := 3) (ret := (some .int)) (cc := cX11_degree) (by decide) rfl (Nat.le_of_ble_eq_true rfl) ?_
  intro pg en st mi ag bl mt cd ls CX hW hl
  have CX : zC pg st mi ag mt cd cX11_degree 3 (some .int) RX11 wsX11_degree := CX
  generalize hQ : MQ bl _ ag st 0 0 _ = Q
  have hX0 := CX.1
  have hB0 := CX.2.1
  have hl : lv_has ls 3 [(0, .ref o), (1, .int (zI cv))] := hl
  obtain ⟨H, eH⟩ : ∃ H, H = st.heap := ⟨_, rfl⟩
  obtain ⟨locs, eL⟩ : ∃ L : List Loc, L = [] := ⟨_, rfl⟩
  have hW : zW D (zT cI cJ cZ cP cS cM) L (zQ L sz) st f st.heap H locs := by rw [eH, eL]; exact hW
  suffices hgo : W pg l en ({ frames := 2, cells := 0, slots := 0, locals := 44 } : Room) st mi ag bl mt cd H locs 0 0 Q (F0 mi 0 ls []) by rw [eH, eL] at hgo; exact hgo
  clear eH eL
  have hpb := hC.p
  have hnb := hC.cn
  refine lv_aload_n hX0 hB0 dX11_degree_0 rfl (lv_at hl 0 rfl) ?_
  refine z_get (Cn := RX11) (T := TX11) (N := 13) CX hW (v := .ref (o + 289)) (show f o = _ from hP.c0) rfl (fun w h => List.mem_cons_of_mem _ (List.mem_append_left _ (List.mem_append_left _ (List.mem_append_right _ h)))) 1 (by decide) (List.mem_of_getElem? (i := 1) rfl) rfl rfl dX11_degree_1 ?_
  refine lv_iload_n hX0 hB0 dX11_degree_4 rfl (lv_at hl 1 rfl) ?_
  refine z_callr hW (va_runV (C := RX7) (As := [.int (zI cv)]) (rest := []) CX.fix (c_find l (o + 289) (M.1 0 3) (M.1 0 4) M.2.1 (M.1 3) cv hP.c3 (by omega) (by constructor <;> omega)) (cwV 1 CX.fix.2.2.2.2 gX11_degree_X7_find rfl rfl rfl (by decide +kernel) ⟨Nat.le_of_ble_eq_true rfl, Nat.le_of_ble_eq_true rfl⟩) (z_preV CX hW (r := (RX7, TX7, 4)) hP.c3.1 rfl) rfl rfl hl.1 rfl (lv_room (Nat.le_of_ble_eq_true rfl)) dX11_degree_5 ⟨Nat.zero_le _, Nat.zero_le _⟩) (fun z5 g5 H locs hok hW => ?_)
  obtain ⟨hz, hg⟩ := hok
  rw [hz]
  rw [hg] at hW
  clear hg
  by_cases cf_cv_8 : 0 ≤ cv ∧ cv < M.1 0 4 ∧ cv < 6
  ·
    have hzf := zfind_p (a := o + 289) cf_cv_8
    rw [hzf]
    clear hzf
    refine lv_astore_n (lv' := [(2, .ref (o + 289 + 3 + 2 * cv.toNat)), (0, .ref o), (1, .int (zI cv))]) hX0 hB0 dX11_degree_8 rfl hl (by decide) rfl (fun ls hl => ?_)
    refine lv_aload_n hX0 hB0 dX11_degree_9 rfl (lv_at hl 0 rfl) ?_
    refine lv_ifnonnull (tgt := 17) hX0 hB0 dX11_degree_10 (by decide) ?_
    refine lv_aload_n hX0 hB0 dX11_degree_17 rfl (lv_at hl 0 rfl) ?_
    refine z_calli hW (va_runV (C := RX2) (As := []) (rest := []) CX.fix (c_top l (o + 289 + 3 + 2 * cv.toNat) (o + 289 + 3 + 2 * cv.toNat + 1) (M.2.1 cv.toNat) (hP.poly (k := cv.toNat) (by omega)).1 (hP.poly (k := cv.toNat) (by omega)).2 (hC.poly31 (k := cv) (by omega) (by omega))) (cwV 0 CX.fix.2.2.2.2 gX11_degree_X2_top rfl rfl rfl (by decide +kernel) ⟨Nat.le_of_ble_eq_true rfl, Nat.le_of_ble_eq_true rfl⟩) (z_preV CX hW (r := (RX2, TX2, 1)) (hP.poly (k := cv.toNat) (by omega)).1 rfl) rfl rfl hl.1 rfl (lv_room (Nat.le_of_ble_eq_true rfl)) dX11_degree_18 ⟨Nat.zero_le _, Nat.zero_le _⟩) (fun z18 g18 H locs hok hW => ?_)
    obtain ⟨hz, hg⟩ := hok
    have e18 : ztop (M.2.1 cv.toNat) = z18 := hz.symm
    have htp18 := ztop_rng (M.2.1 cv.toNat)
    rw [e18] at htp18
    rw [hg] at hW
    clear hg
    have hE : zc_degree M cv = (z18, M) := by unfold zc_degree; exact zif_t cf_cv_8 (zlet_e e18 rfl)
    rw [← hQ]
    exact z_iret (z := z18) CX hW (by rw [hE]; exact ⟨rfl, hP, hC, zFr.refl, zVE.rf, trivial⟩) rfl dX11_degree_21
  ·
    have hzf := zfind_n (a := o + 289) cf_cv_8
    rw [hzf]
    clear hzf
    refine lv_astore_nN (lv' := [(2, .null), (0, .ref o), (1, .int (zI cv))]) hX0 hB0 dX11_degree_8 rfl hl (by decide) rfl (fun ls hl => ?_)
    refine lv_aload_nN hX0 hB0 dX11_degree_9 rfl (lv_at hl 0 rfl) ?_
    refine lv_ifnonnullN hX0 hB0 dX11_degree_10 ?_
    refine lv_iconst (v := zI (-1)) hX0 hB0 dX11_degree_13 rfl ?_
    refine lv_goto (tgt := 21) hX0 hB0 dX11_degree_14 (by decide) ?_
    have hE : zc_degree M cv = (-1, M) := by unfold zc_degree; exact zif_f cf_cv_8 rfl
    rw [← hQ]
    exact z_iret (z := -1) CX hW (by rw [hE]; exact ⟨rfl, hP, hC, zFr.refl, zVE.rf, trivial⟩) rfl dX11_degree_21
noncomputable def zc_value (M : zCt) (cv : Int) (pt : Int) : Int × zCt := (if 0 ≤ cv ∧ cv < M.1 0 4 ∧ cv < 6 then zlet (bI (zpt pt (M.1 0 3))) (fun z25 => zlet (zw_go M pt (M.1 0 3)) (fun M25 => (if z25 = 0 then (-1, M25) else zlet (zval (M25.2.1 cv.toNat) (M25.1 0 10) (M25.1 0 11) (M25.1 0 12) (M25.1 0 3)) (fun z45 => (z45, M25))))) else (-1, M))
set_option maxRecDepth 100000 in
set_option maxHeartbeats 4000000 in
theorem zd_value (l : Launch) {D : va_G} {cI cJ cZ cP cS cM : ClassId} {L : List Nat} {sz : Nat} {f : Nat → va_E} (o : Nat) (M : zCt) (cv : Int) (pt : Int) (hP : zCP cI cP cS cZ cM o M f) (hC : zCI M) (hcv : -2147483648 ≤ cv ∧ cv ≤ 2147483647) (hpt : -2147483648 ≤ pt ∧ pt ≤ 2147483647) : zMi l yX11_value wsX11_value 3 71 D (zT cI cJ cZ cP cS cM) L sz f [.ref o, .int (zI cv), .int (zI pt)] (fun zv gv => zv = (zc_value M cv pt).1 ∧ zCP cI cP cS cZ cM o (zc_value M cv pt).2 gv ∧ zCI (zc_value M cv pt).2 ∧ zFr f gv o (o + 681) ∧ zVE (zc_value M cv pt).2 M ∧ -1 ≤ zv ∧ zv ≤ 30) := by
  refine zWalk.met (nL := 4) (ret := (some .int)) (cc := cX11_value) (by decide) rfl (Nat.le_of_ble_eq_true rfl) ?_
  intro pg en st mi ag bl mt cd ls CX hW hl
  have CX : zC pg st mi ag mt cd cX11_value 4 (some .int) RX11 wsX11_value := CX
  generalize hQ : MQ bl _ ag st 0 0 _ = Q
  have hX0 := CX.1
  have hB0 := CX.2.1
  have hl : lv_has ls 4 [(0, .ref o), (1, .int (zI cv)), (2, .int (zI pt))] := hl
  obtain ⟨H, eH⟩ : ∃ H, H = st.heap := ⟨_, rfl⟩
  obtain ⟨locs, eL⟩ : ∃ L : List Loc, L = [] := ⟨_, rfl⟩
  have hW : zW D (zT cI cJ cZ cP cS cM) L (zQ L sz) st f st.heap H locs := by rw [eH, eL]; exact hW
  suffices hgo : W pg l en ({ frames := 3, cells := 0, slots := 0, locals := 71 } : Room) st mi ag bl mt cd H locs 0 0 Q (F0 mi 0 ls []) by rw [eH, eL] at hgo; exact hgo
  clear eH eL
  have hpb := hC.p
  have hnb := hC.cn
  refine lv_aload_n hX0 hB0 dX11_value_0 rfl (lv_at hl 0 rfl) ?_
  refine z_get (Cn := RX11) (T := TX11) (N := 13) CX hW (v := .ref (o + 289)) (show f o = _ from hP.c0) rfl (fun w h => List.mem_cons_of_mem _ (List.mem_append_left _ (List.mem_append_left _ (List.mem_append_left _ (List.mem_append_right _ h))))) 1 (by decide) (List.mem_of_getElem? (i := 1) rfl) rfl rfl dX11_value_1 ?_
  refine lv_iload_n hX0 hB0 dX11_value_4 rfl (lv_at hl 1 rfl) ?_
  refine z_callr hW (va_runV (C := RX7) (As := [.int (zI cv)]) (rest := []) CX.fix (c_find l (o + 289) (M.1 0 3) (M.1 0 4) M.2.1 (M.1 3) cv hP.c3 (by omega) (by constructor <;> omega)) (cwV 1 CX.fix.2.2.2.2 gX11_value_X7_find rfl rfl rfl (by decide +kernel) ⟨Nat.le_of_ble_eq_true rfl, Nat.le_of_ble_eq_true rfl⟩) (z_preV CX hW (r := (RX7, TX7, 4)) hP.c3.1 rfl) rfl rfl hl.1 rfl (lv_room (Nat.le_of_ble_eq_true rfl)) dX11_value_5 ⟨Nat.zero_le _, Nat.zero_le _⟩) (fun z5 g5 H locs hok hW => ?_)
  obtain ⟨hz, hg⟩ := hok
  rw [hz]
  rw [hg] at hW
  clear hg
  by_cases cf_cv_8 : 0 ≤ cv ∧ cv < M.1 0 4 ∧ cv < 6
  ·
    have hzf := zfind_p (a := o + 289) cf_cv_8
    rw [hzf]
    clear hzf
    refine lv_astore_n (lv' := [(3, .ref (o + 289 + 3 + 2 * cv.toNat)), (0, .ref o), (1, .int (zI cv)), (2, .int (zI pt))]) hX0 hB0 dX11_value_8 rfl hl (by decide) rfl (fun ls hl => ?_)
    refine lv_aload_n hX0 hB0 dX11_value_9 rfl (lv_at hl 0 rfl) ?_
    refine lv_ifnull hX0 hB0 dX11_value_10 ?_
    refine lv_aload_n hX0 hB0 dX11_value_13 rfl (lv_at hl 1 rfl) ?_
    refine z_get (Cn := RX11) (T := TX11) (N := 13) CX hW (v := .ref (o + 606)) (show f o = _ from hP.c0) rfl (fun w h => List.mem_cons_of_mem _ (List.mem_append_left _ (List.mem_append_left _ (List.mem_append_left _ (List.mem_append_right _ h))))) 3 (by decide) (List.mem_of_getElem? (i := 2) rfl) rfl rfl dX11_value_14 ?_
    refine lv_iload_n hX0 hB0 dX11_value_17 rfl (lv_at hl 3 rfl) ?_
    refine lv_aload_n hX0 hB0 dX11_value_18 rfl (lv_at hl 1 rfl) ?_
    refine z_get (Cn := RX11) (T := TX11) (N := 13) CX hW (v := .ref (o + 289)) (show f o = _ from hP.c0) rfl (fun w h => List.mem_cons_of_mem _ (List.mem_append_left _ (List.mem_append_left _ (List.mem_append_left _ (List.mem_append_right _ h))))) 1 (by decide) (List.mem_of_getElem? (i := 1) rfl) rfl rfl dX11_value_19 ?_
    refine z_get (Cn := RX7) (T := TX7) (N := 4) CX hW (v := .int (zI (M.1 0 3))) hP.c3.1 rfl (fun w h => List.mem_cons_of_mem _ (List.mem_append_left _ (List.mem_append_left _ (List.mem_append_right _ h)))) 0 (by decide) (List.mem_of_getElem? (i := 3) rfl) rfl rfl dX11_value_22 ?_
    have hr22 := hC.p
    refine z_calli hW (va_runV (C := RX9) (As := [.int (zI pt), .int (zI (M.1 0 3))]) (rest := []) CX.fix (c_go l (o + 606) (M.1 0 10) (M.1 0 11) (M.1 0 12) pt (M.1 0 3) hP.c5 (by constructor <;> omega) (by omega)) (cwV 2 CX.fix.2.2.2.2 gX11_value_X9_go rfl rfl rfl (by decide +kernel) ⟨Nat.le_of_ble_eq_true rfl, Nat.le_of_ble_eq_true rfl⟩) (z_preV CX hW (r := (RX9, TX9, 3)) (show f (o + 606) = _ from hP.c5) rfl) rfl rfl hl.1 rfl (lv_room (Nat.le_of_ble_eq_true rfl)) dX11_value_25 ⟨Nat.zero_le _, Nat.zero_le _⟩) (fun z25 g25 H locs hok hW => ?_)
    obtain ⟨hz, hg⟩ := hok
    have e25 : bI (zpt pt (M.1 0 3)) = z25 := hz.symm
    have hb25 := bI_01 (zpt pt (M.1 0 3))
    rw [e25] at hb25
    obtain ⟨M25, em25⟩ : ∃ Mq, zw_go M pt (M.1 0 3) = Mq := ⟨_, rfl⟩
    have hP25 : zCP cI cP cS cZ cM o M25 g25 := by rw [← em25]; exact zr_go hP hg
    have hC25 : zCI M25 := by rw [← em25]; exact zi_go hC
    have hV25 : zVE M25 M := zVE.tr (by rw [← em25]; exact zv_go) zVE.rf
    have tv25_3 : M25.1 0 3 = M.1 0 3 := hV25.2 0 3 (by omega) (by omega)
    have tv25_4 : M25.1 0 4 = M.1 0 4 := hV25.2 0 4 (by omega) (by omega)
    have hF25 : zFr f g25 o (o + 681) := zFr.trans zFr.refl (fun q hq => by rw [hg]; exact va_up_ne _ _ (by omega))
    have hgo25 : ¬ z25 = 0 → (M25.1 0 10 = zpx pt (M.1 0 3) ∧ M25.1 0 11 = zpy pt (M.1 0 3) ∧ M25.1 0 12 = zpz pt (M.1 0 3)) ∧ (0 ≤ M25.1 0 10 ∧ M25.1 0 10 < (M.1 0 3)) ∧ (0 ≤ M25.1 0 11 ∧ M25.1 0 11 < (M.1 0 3)) ∧ 0 ≤ M25.1 0 12 ∧ M25.1 0 12 ≤ 1 := fun hz0 => by rw [← em25]; exact zgo_rng (by omega) (by rw [e25]; exact hz0)
    refine z_if_ne (tgt := 33) CX dX11_value_28 (by decide) (by constructor <;> omega) (fun c_28 => ?_) (fun c_28 => ?_)
    ·
      refine lv_aload_n hX0 hB0 dX11_value_33 rfl (lv_at hl 1 rfl) ?_
      refine z_get (Cn := RX11) (T := TX11) (N := 13) CX hW (v := .ref (o + 606)) (show g25 o = _ from hP25.c0) rfl (fun w h => List.mem_cons_of_mem _ (List.mem_append_left _ (List.mem_append_left _ (List.mem_append_left _ (List.mem_append_right _ h))))) 3 (by decide) (List.mem_of_getElem? (i := 2) rfl) rfl rfl dX11_value_34 ?_
      refine lv_aload_n hX0 hB0 dX11_value_37 rfl (lv_at hl 0 rfl) ?_
      refine lv_aload_n hX0 hB0 dX11_value_38 rfl (lv_at hl 1 rfl) ?_
      refine z_get (Cn := RX11) (T := TX11) (N := 13) CX hW (v := .ref (o + 289)) (show g25 o = _ from hP25.c0) rfl (fun w h => List.mem_cons_of_mem _ (List.mem_append_left _ (List.mem_append_left _ (List.mem_append_left _ (List.mem_append_right _ h))))) 1 (by decide) (List.mem_of_getElem? (i := 1) rfl) rfl rfl dX11_value_39 ?_
      refine z_get (Cn := RX7) (T := TX7) (N := 4) CX hW (v := .int (zI (M25.1 0 3))) hP25.c3.1 rfl (fun w h => List.mem_cons_of_mem _ (List.mem_append_left _ (List.mem_append_left _ (List.mem_append_right _ h)))) 0 (by decide) (List.mem_of_getElem? (i := 3) rfl) rfl rfl dX11_value_42 ?_
      have hr42 := hC25.p
      refine z_calli hW (va_runV (C := RX9) (As := [.ref (o + 289 + 3 + 2 * cv.toNat), .int (zI (M25.1 0 3))]) (rest := []) CX.fix (c_valueOf l (o + 606) (M25.1 0 10) (M25.1 0 11) (M25.1 0 12) (o + 289 + 3 + 2 * cv.toNat) (o + 289 + 3 + 2 * cv.toNat + 1) (M25.2.1 cv.toNat) (M25.1 0 3) hP25.c5 (hP25.poly (k := cv.toNat) (by omega)).1 (hP25.poly (k := cv.toNat) (by omega)).2 (hC25.poly31 (k := cv) (by omega) (by omega)) (by omega) (by omega) (by omega) (by omega)) (cwV 2 CX.fix.2.2.2.2 gX11_value_X9_valueOf rfl rfl rfl (by decide +kernel) ⟨Nat.le_of_ble_eq_true rfl, Nat.le_of_ble_eq_true rfl⟩) (z_preV CX hW (r := (RX9, TX9, 3)) (show g25 (o + 606) = _ from hP25.c5) rfl) rfl rfl hl.1 rfl (lv_room (Nat.le_of_ble_eq_true rfl)) dX11_value_45 ⟨Nat.zero_le _, Nat.zero_le _⟩) (fun z45 g45 H locs hok hW => ?_)
      obtain ⟨hz, hg⟩ := hok
      have e45 : zval (M25.2.1 cv.toNat) (M25.1 0 10) (M25.1 0 11) (M25.1 0 12) (M25.1 0 3) = z45 := hz.symm
      have hvr45 := zval_rng (c := M25.2.1 cv.toNat) (x := M25.1 0 10) (y := M25.1 0 11) (z := M25.1 0 12) (p := (M25.1 0 3)) (by omega)
      rw [e45] at hvr45
      rw [hg] at hW
      clear hg
      have hE : zc_value M cv pt = (z45, M25) := by unfold zc_value; exact zif_t cf_cv_8 (zlet_e e25 (zlet_e em25 (zif_f c_28 (zlet_e e45 rfl))))
      rw [← hQ]
      exact z_iret (z := z45) CX hW (by rw [hE]; exact ⟨rfl, hP25, hC25, hF25, hV25, (show -1 ≤ z45 ∧ z45 ≤ 30 from by omega)⟩) rfl dX11_value_48
    ·
      refine lv_iconst (v := zI (-1)) hX0 hB0 dX11_value_31 rfl ?_
      have hE : zc_value M cv pt = (-1, M25) := by unfold zc_value; exact zif_t cf_cv_8 (zlet_e e25 (zlet_e em25 (zif_t c_28 rfl)))
      rw [← hQ]
      exact z_iret (z := -1) CX hW (by rw [hE]; exact ⟨rfl, hP25, hC25, hF25, hV25, (show -1 ≤ (-1 : Int) ∧ (-1 : Int) ≤ 30 from by omega)⟩) rfl dX11_value_32
  ·
    have hzf := zfind_n (a := o + 289) cf_cv_8
    rw [hzf]
    clear hzf
    refine lv_astore_nN (lv' := [(3, .null), (0, .ref o), (1, .int (zI cv)), (2, .int (zI pt))]) hX0 hB0 dX11_value_8 rfl hl (by decide) rfl (fun ls hl => ?_)
    refine lv_aload_nN hX0 hB0 dX11_value_9 rfl (lv_at hl 0 rfl) ?_
    refine lv_ifnullN (tgt := 31) hX0 hB0 dX11_value_10 (by decide) ?_
    refine lv_iconst (v := zI (-1)) hX0 hB0 dX11_value_31 rfl ?_
    have hE : zc_value M cv pt = (-1, M) := by unfold zc_value; exact zif_f cf_cv_8 rfl
    rw [← hQ]
    exact z_iret (z := -1) CX hW (by rw [hE]; exact ⟨rfl, hP, hC, zFr.refl, zVE.rf, (show -1 ≤ (-1 : Int) ∧ (-1 : Int) ≤ 30 from by omega)⟩) rfl dX11_value_32
noncomputable def zc_hasTrait (M : zCt) (u : Int) (q : Int) (tr : Int) : Int × zCt := zlet (bI (zpt q (M.1 0 3))) (fun z12 => zlet (zw_go M q (M.1 0 3)) (fun M12 => (if z12 = 0 then (0, M12) else zlet (zval (M12.2.1 u.toNat) (M12.1 0 10) (M12.1 0 11) (M12.1 0 12) (M12.1 0 3)) (fun z30 => (if z30 = 0 then (if tr = 0 then (1, M12) else zlet (zw_look1 M12 (M12.2.1 u.toNat) (M12.1 0 3)) (fun M60 => (if tr = 1 then zlet (zleast (M60.1 20)) (fun z72 => (if z72 < 2 then (0, M60) else (1, M60))) else zlet (zbend (M60.1 20) (M60.1 0 13)) (fun z89 => (if z89 = -2 then (1, M60) else (if z89 < 3 then (0, M60) else (1, M60))))))) else (0, M12))))))
set_option maxRecDepth 100000 in
set_option maxHeartbeats 4000000 in
theorem zd_hasTrait (l : Launch) {D : va_G} {cI cJ cZ cP cS cM : ClassId} {L : List Nat} {sz : Nat} {f : Nat → va_E} (o : Nat) (M : zCt) (u : Int) (q : Int) (tr : Int) (hP : zCP cI cP cS cZ cM o M f) (hC : zCI M) (hu : 0 ≤ u ∧ u < M.1 0 4) (hq : -2147483648 ≤ q ∧ q ≤ 2147483647) (htr : -2147483648 ≤ tr ∧ tr ≤ 2147483647) : zMi l yX11_hasTrait wsX11_hasTrait 5 123 D (zT cI cJ cZ cP cS cM) L sz f [.ref o, .ref (o + 289 + 3 + 2 * u.toNat), .int (zI q), .int (zI tr)] (fun zv gv => zv = (zc_hasTrait M u q tr).1 ∧ zCP cI cP cS cZ cM o (zc_hasTrait M u q tr).2 gv ∧ zCI (zc_hasTrait M u q tr).2 ∧ zFr f gv o (o + 681) ∧ zVE (zc_hasTrait M u q tr).2 M ∧ 0 ≤ zv ∧ zv ≤ 1) := by
  refine zWalk.met (nL := 5) (ret := (some .boolean)) (cc := cX11_hasTrait) (by decide) rfl (Nat.le_of_ble_eq_true rfl) ?_
  intro pg en st mi ag bl mt cd ls CX hW hl
  have CX : zC pg st mi ag mt cd cX11_hasTrait 5 (some .boolean) RX11 wsX11_hasTrait := CX
  generalize hQ : MQ bl _ ag st 0 0 _ = Q
  have hX0 := CX.1
  have hB0 := CX.2.1
  have hl : lv_has ls 5 [(0, .ref o), (1, .ref (o + 289 + 3 + 2 * u.toNat)), (2, .int (zI q)), (3, .int (zI tr))] := hl
  obtain ⟨H, eH⟩ : ∃ H, H = st.heap := ⟨_, rfl⟩
  obtain ⟨locs, eL⟩ : ∃ L : List Loc, L = [] := ⟨_, rfl⟩
  have hW : zW D (zT cI cJ cZ cP cS cM) L (zQ L sz) st f st.heap H locs := by rw [eH, eL]; exact hW
  suffices hgo : W pg l en ({ frames := 5, cells := 0, slots := 0, locals := 123 } : Room) st mi ag bl mt cd H locs 0 0 Q (F0 mi 0 ls []) by rw [eH, eL] at hgo; exact hgo
  clear eH eL
  have hpb := hC.p
  have hnb := hC.cn
  refine lv_aload_n hX0 hB0 dX11_hasTrait_0 rfl (lv_at hl 0 rfl) ?_
  refine z_get (Cn := RX11) (T := TX11) (N := 13) CX hW (v := .ref (o + 606)) (show f o = _ from hP.c0) rfl (fun w h => List.mem_cons_of_mem _ (List.mem_append_left _ (List.mem_append_left _ (List.mem_append_left _ (List.mem_append_left _ (List.mem_append_right _ h)))))) 3 (by decide) (List.mem_of_getElem? (i := 1) rfl) rfl rfl dX11_hasTrait_1 ?_
  refine lv_iload_n hX0 hB0 dX11_hasTrait_4 rfl (lv_at hl 2 rfl) ?_
  refine lv_aload_n hX0 hB0 dX11_hasTrait_5 rfl (lv_at hl 0 rfl) ?_
  refine z_get (Cn := RX11) (T := TX11) (N := 13) CX hW (v := .ref (o + 289)) (show f o = _ from hP.c0) rfl (fun w h => List.mem_cons_of_mem _ (List.mem_append_left _ (List.mem_append_left _ (List.mem_append_left _ (List.mem_append_left _ (List.mem_append_right _ h)))))) 1 (by decide) (List.mem_of_getElem? (i := 2) rfl) rfl rfl dX11_hasTrait_6 ?_
  refine z_get (Cn := RX7) (T := TX7) (N := 4) CX hW (v := .int (zI (M.1 0 3))) hP.c3.1 rfl (fun w h => List.mem_cons_of_mem _ (List.mem_append_left _ (List.mem_append_left _ (List.mem_append_left _ (List.mem_append_right _ h))))) 0 (by decide) (List.mem_of_getElem? (i := 3) rfl) rfl rfl dX11_hasTrait_9 ?_
  have hr9 := hC.p
  refine z_calli hW (va_runV (C := RX9) (As := [.int (zI q), .int (zI (M.1 0 3))]) (rest := []) CX.fix (c_go l (o + 606) (M.1 0 10) (M.1 0 11) (M.1 0 12) q (M.1 0 3) hP.c5 (by constructor <;> omega) (by omega)) (cwV 2 CX.fix.2.2.2.2 gX11_hasTrait_X9_go rfl rfl rfl (by decide +kernel) ⟨Nat.le_of_ble_eq_true rfl, Nat.le_of_ble_eq_true rfl⟩) (z_preV CX hW (r := (RX9, TX9, 3)) (show f (o + 606) = _ from hP.c5) rfl) rfl rfl hl.1 rfl (lv_room (Nat.le_of_ble_eq_true rfl)) dX11_hasTrait_12 ⟨Nat.zero_le _, Nat.zero_le _⟩) (fun z12 g12 H locs hok hW => ?_)
  obtain ⟨hz, hg⟩ := hok
  have e12 : bI (zpt q (M.1 0 3)) = z12 := hz.symm
  have hb12 := bI_01 (zpt q (M.1 0 3))
  rw [e12] at hb12
  obtain ⟨M12, em12⟩ : ∃ Mq, zw_go M q (M.1 0 3) = Mq := ⟨_, rfl⟩
  have hP12 : zCP cI cP cS cZ cM o M12 g12 := by rw [← em12]; exact zr_go hP hg
  have hC12 : zCI M12 := by rw [← em12]; exact zi_go hC
  have hV12 : zVE M12 M := zVE.tr (by rw [← em12]; exact zv_go) zVE.rf
  have tv12_3 : M12.1 0 3 = M.1 0 3 := hV12.2 0 3 (by omega) (by omega)
  have tv12_4 : M12.1 0 4 = M.1 0 4 := hV12.2 0 4 (by omega) (by omega)
  have hF12 : zFr f g12 o (o + 681) := zFr.trans zFr.refl (fun q hq => by rw [hg]; exact va_up_ne _ _ (by omega))
  have hgo12 : ¬ z12 = 0 → (M12.1 0 10 = zpx q (M.1 0 3) ∧ M12.1 0 11 = zpy q (M.1 0 3) ∧ M12.1 0 12 = zpz q (M.1 0 3)) ∧ (0 ≤ M12.1 0 10 ∧ M12.1 0 10 < (M.1 0 3)) ∧ (0 ≤ M12.1 0 11 ∧ M12.1 0 11 < (M.1 0 3)) ∧ 0 ≤ M12.1 0 12 ∧ M12.1 0 12 ≤ 1 := fun hz0 => by rw [← em12]; exact zgo_rng (by omega) (by rw [e12]; exact hz0)
  refine z_if_eq (tgt := 36) CX dX11_hasTrait_15 (by decide) (by constructor <;> omega) (fun c_15 => ?_) (fun c_15 => ?_)
  ·
    refine lv_iconst (v := zI 0) hX0 hB0 dX11_hasTrait_36 rfl ?_
    have hE : zc_hasTrait M u q tr = (0, M12) := by unfold zc_hasTrait; exact zlet_e e12 (zlet_e em12 (zif_t c_15 rfl))
    rw [← hQ]
    exact z_iret (z := 0) CX hW (by rw [hE]; exact ⟨rfl, hP12, hC12, hF12, hV12, (show 0 ≤ (0 : Int) ∧ (0 : Int) ≤ 1 from by omega)⟩) rfl dX11_hasTrait_37
  ·
    refine lv_aload_n hX0 hB0 dX11_hasTrait_18 rfl (lv_at hl 0 rfl) ?_
    refine z_get (Cn := RX11) (T := TX11) (N := 13) CX hW (v := .ref (o + 606)) (show g12 o = _ from hP12.c0) rfl (fun w h => List.mem_cons_of_mem _ (List.mem_append_left _ (List.mem_append_left _ (List.mem_append_left _ (List.mem_append_left _ (List.mem_append_right _ h)))))) 3 (by decide) (List.mem_of_getElem? (i := 1) rfl) rfl rfl dX11_hasTrait_19 ?_
    refine lv_aload_n hX0 hB0 dX11_hasTrait_22 rfl (lv_at hl 1 rfl) ?_
    refine lv_aload_n hX0 hB0 dX11_hasTrait_23 rfl (lv_at hl 0 rfl) ?_
    refine z_get (Cn := RX11) (T := TX11) (N := 13) CX hW (v := .ref (o + 289)) (show g12 o = _ from hP12.c0) rfl (fun w h => List.mem_cons_of_mem _ (List.mem_append_left _ (List.mem_append_left _ (List.mem_append_left _ (List.mem_append_left _ (List.mem_append_right _ h)))))) 1 (by decide) (List.mem_of_getElem? (i := 2) rfl) rfl rfl dX11_hasTrait_24 ?_
    refine z_get (Cn := RX7) (T := TX7) (N := 4) CX hW (v := .int (zI (M12.1 0 3))) hP12.c3.1 rfl (fun w h => List.mem_cons_of_mem _ (List.mem_append_left _ (List.mem_append_left _ (List.mem_append_left _ (List.mem_append_right _ h))))) 0 (by decide) (List.mem_of_getElem? (i := 3) rfl) rfl rfl dX11_hasTrait_27 ?_
    have hr27 := hC12.p
    refine z_calli hW (va_runV (C := RX9) (As := [.ref (o + 289 + 3 + 2 * u.toNat), .int (zI (M12.1 0 3))]) (rest := []) CX.fix (c_valueOf l (o + 606) (M12.1 0 10) (M12.1 0 11) (M12.1 0 12) (o + 289 + 3 + 2 * u.toNat) (o + 289 + 3 + 2 * u.toNat + 1) (M12.2.1 u.toNat) (M12.1 0 3) hP12.c5 (hP12.poly (k := u.toNat) (by omega)).1 (hP12.poly (k := u.toNat) (by omega)).2 (hC12.poly31 (k := u) (by omega) (by omega)) (by omega) (by omega) (by omega) (by omega)) (cwV 2 CX.fix.2.2.2.2 gX11_hasTrait_X9_valueOf rfl rfl rfl (by decide +kernel) ⟨Nat.le_of_ble_eq_true rfl, Nat.le_of_ble_eq_true rfl⟩) (z_preV CX hW (r := (RX9, TX9, 3)) (show g12 (o + 606) = _ from hP12.c5) rfl) rfl rfl hl.1 rfl (lv_room (Nat.le_of_ble_eq_true rfl)) dX11_hasTrait_30 ⟨Nat.zero_le _, Nat.zero_le _⟩) (fun z30 g30 H locs hok hW => ?_)
    obtain ⟨hz, hg⟩ := hok
    have e30 : zval (M12.2.1 u.toNat) (M12.1 0 10) (M12.1 0 11) (M12.1 0 12) (M12.1 0 3) = z30 := hz.symm
    have hvr30 := zval_rng (c := M12.2.1 u.toNat) (x := M12.1 0 10) (y := M12.1 0 11) (z := M12.1 0 12) (p := (M12.1 0 3)) (by omega)
    rw [e30] at hvr30
    rw [hg] at hW
    clear hg
    refine z_if_eq (tgt := 38) CX dX11_hasTrait_33 (by decide) (by constructor <;> omega) (fun c_33 => ?_) (fun c_33 => ?_)
    ·
      refine lv_iload_n hX0 hB0 dX11_hasTrait_38 rfl (lv_at hl 3 rfl) ?_
      refine z_if_ne (tgt := 44) CX dX11_hasTrait_39 (by decide) (by constructor <;> omega) (fun c_39 => ?_) (fun c_39 => ?_)
      ·
        refine lv_aload_n hX0 hB0 dX11_hasTrait_44 rfl (lv_at hl 0 rfl) ?_
        refine z_get (Cn := RX11) (T := TX11) (N := 13) CX hW (v := .ref (o + 607)) (show g12 o = _ from hP12.c0) rfl (fun w h => List.mem_cons_of_mem _ (List.mem_append_left _ (List.mem_append_left _ (List.mem_append_left _ (List.mem_append_left _ (List.mem_append_right _ h)))))) 4 (by decide) (List.mem_of_getElem? (i := 4) rfl) rfl rfl dX11_hasTrait_45 ?_
        refine lv_aload_n hX0 hB0 dX11_hasTrait_48 rfl (lv_at hl 1 rfl) ?_
        refine lv_aload_n hX0 hB0 dX11_hasTrait_49 rfl (lv_at hl 0 rfl) ?_
        refine z_get (Cn := RX11) (T := TX11) (N := 13) CX hW (v := .ref (o + 606)) (show g12 o = _ from hP12.c0) rfl (fun w h => List.mem_cons_of_mem _ (List.mem_append_left _ (List.mem_append_left _ (List.mem_append_left _ (List.mem_append_left _ (List.mem_append_right _ h)))))) 3 (by decide) (List.mem_of_getElem? (i := 1) rfl) rfl rfl dX11_hasTrait_50 ?_
        refine lv_aload_n hX0 hB0 dX11_hasTrait_53 rfl (lv_at hl 0 rfl) ?_
        refine z_get (Cn := RX11) (T := TX11) (N := 13) CX hW (v := .ref (o + 289)) (show g12 o = _ from hP12.c0) rfl (fun w h => List.mem_cons_of_mem _ (List.mem_append_left _ (List.mem_append_left _ (List.mem_append_left _ (List.mem_append_left _ (List.mem_append_right _ h)))))) 1 (by decide) (List.mem_of_getElem? (i := 2) rfl) rfl rfl dX11_hasTrait_54 ?_
        refine z_get (Cn := RX7) (T := TX7) (N := 4) CX hW (v := .int (zI (M12.1 0 3))) hP12.c3.1 rfl (fun w h => List.mem_cons_of_mem _ (List.mem_append_left _ (List.mem_append_left _ (List.mem_append_left _ (List.mem_append_right _ h))))) 0 (by decide) (List.mem_of_getElem? (i := 3) rfl) rfl rfl dX11_hasTrait_57 ?_
        have hr57 := hC12.p
        refine z_callv hW (va_runV (C := RX10) (As := [.ref (o + 289 + 3 + 2 * u.toNat), .ref (o + 606), .int (zI (M12.1 0 3))]) (rest := []) CX.fix (c_look l (o + 607) (M12.1 0 13) (M12.1 20) (M12.1 21) (o + 606) (M12.1 0 10) (M12.1 0 11) (M12.1 0 12) (o + 289 + 3 + 2 * u.toNat) (o + 289 + 3 + 2 * u.toNat + 1) (M12.2.1 u.toNat) (M12.1 0 3) hP12.c6.1 hP12.c6.2.1 hP12.c6.2.2.1 hP12.c6.2.2.2 (by omega) hP12.c5 (by omega) (by omega) (by omega) (by omega) (hP12.poly (k := u.toNat) (by omega)).1 (hP12.poly (k := u.toNat) (by omega)).2 (hC12.poly (k := u) (by omega) (by omega)) (by omega) (by omega)) (cwV 3 CX.fix.2.2.2.2 gX11_hasTrait_X10_look rfl rfl rfl (by decide +kernel) ⟨Nat.le_of_ble_eq_true rfl, Nat.le_of_ble_eq_true rfl⟩) (z_preV CX hW (r := (RX10, TX10, 3)) hP12.c6.1 rfl) rfl rfl hl.1 rfl (lv_room (Nat.le_of_ble_eq_true rfl)) dX11_hasTrait_60 ⟨Nat.zero_le _, Nat.zero_le _⟩) (fun g60 H locs hok hW => ?_)
        have hg := hok
        obtain ⟨M60, em60⟩ : ∃ Mq, zw_look1 M12 (M12.2.1 u.toNat) (M12.1 0 3) = Mq := ⟨_, rfl⟩
        have hP60 : zCP cI cP cS cZ cM o M60 g60 := by rw [← em60]; exact zr_look1 hP12 hg
        have hC60 : zCI M60 := by rw [← em60]; exact zi_look1 hC12 (by omega)
        have hV60 : zVE M60 M := zVE.tr (by rw [← em60]; exact zv_look1) hV12
        have tv60_3 : M60.1 0 3 = M.1 0 3 := hV60.2 0 3 (by omega) (by omega)
        have tv60_4 : M60.1 0 4 = M.1 0 4 := hV60.2 0 4 (by omega) (by omega)
        have hF60 : zFr f g60 o (o + 681) := zFr.trans hF12 (fun q hq => by rw [hg, va_up_ne _ _ (by omega), va_up_ne _ _ (by omega)])
        refine lv_iload_n hX0 hB0 dX11_hasTrait_63 rfl (lv_at hl 3 rfl) ?_
        refine lv_iconst (v := zI 1) hX0 hB0 dX11_hasTrait_64 rfl ?_
        refine z_icmp_ne (tgt := 85) CX dX11_hasTrait_65 (by decide) (by constructor <;> omega) (by constructor <;> omega) (fun c_65 => ?_) (fun c_65 => ?_)
        ·
          refine lv_aload_n hX0 hB0 dX11_hasTrait_85 rfl (lv_at hl 0 rfl) ?_
          refine z_get (Cn := RX11) (T := TX11) (N := 13) CX hW (v := .ref (o + 607)) (show g60 o = _ from hP60.c0) rfl (fun w h => List.mem_cons_of_mem _ (List.mem_append_left _ (List.mem_append_left _ (List.mem_append_left _ (List.mem_append_left _ (List.mem_append_right _ h)))))) 4 (by decide) (List.mem_of_getElem? (i := 4) rfl) rfl rfl dX11_hasTrait_86 ?_
          refine z_calli hW (va_runV (C := RX10) (As := []) (rest := []) CX.fix (c_bendHere l (o + 607) (M60.1 0 13) (M60.1 20) (M60.1 21) hP60.c6.1 hP60.c6.2.1 hP60.c6.2.2.1 hP60.c6.2.2.2 hC60.vw.1 hC60.vw.2.1) (cwV 0 CX.fix.2.2.2.2 gX11_hasTrait_X10_bendHere rfl rfl rfl (by decide +kernel) ⟨Nat.le_of_ble_eq_true rfl, Nat.le_of_ble_eq_true rfl⟩) (z_preV CX hW (r := (RX10, TX10, 3)) hP60.c6.1 rfl) rfl rfl hl.1 rfl (lv_room (Nat.le_of_ble_eq_true rfl)) dX11_hasTrait_89 ⟨Nat.zero_le _, Nat.zero_le _⟩) (fun z89 g89 H locs hok hW => ?_)
          obtain ⟨hz, hg⟩ := hok
          have e89 : zbend (M60.1 20) (M60.1 0 13) = z89 := hz.symm
          have hbn89 := zbend_rng (M60.1 20) (M60.1 0 13)
          rw [e89] at hbn89
          rw [hg] at hW
          clear hg
          refine lv_istore (lv' := [(4, .int (zI z89)), (0, .ref o), (1, .ref (o + 289 + 3 + 2 * u.toNat)), (2, .int (zI q)), (3, .int (zI tr))]) hX0 hB0 dX11_hasTrait_92 hl (by decide) rfl (fun ls hl => ?_)
          refine lv_iload hX0 hB0 dX11_hasTrait_94 (lv_at hl 0 rfl) ?_
          refine lv_bipush (v := zI (-2)) hX0 hB0 dX11_hasTrait_96 (by decide) ?_
          refine z_icmp_eq (tgt := 107) CX dX11_hasTrait_98 (by decide) (by constructor <;> omega) (by constructor <;> omega) (fun c_98 => ?_) (fun c_98 => ?_)
          ·
            refine lv_iconst (v := zI 1) hX0 hB0 dX11_hasTrait_107 rfl ?_
            refine lv_goto (tgt := 112) hX0 hB0 dX11_hasTrait_108 (by decide) ?_
            have hE : zc_hasTrait M u q tr = (1, M60) := by unfold zc_hasTrait; exact zlet_e e12 (zlet_e em12 (zif_f c_15 (zlet_e e30 (zif_t c_33 (zif_f c_39 (zlet_e em60 (zif_f c_65 (zlet_e e89 (zif_t c_98 rfl)))))))))
            rw [← hQ]
            exact z_iret (z := 1) CX hW (by rw [hE]; exact ⟨rfl, hP60, hC60, hF60, hV60, (show 0 ≤ (1 : Int) ∧ (1 : Int) ≤ 1 from by omega)⟩) rfl dX11_hasTrait_112
          ·
            refine lv_iload hX0 hB0 dX11_hasTrait_101 (lv_at hl 0 rfl) ?_
            refine lv_iconst (v := zI 3) hX0 hB0 dX11_hasTrait_103 rfl ?_
            refine z_icmp_lt (tgt := 111) CX dX11_hasTrait_104 (by decide) (by constructor <;> omega) (by constructor <;> omega) (fun c_104 => ?_) (fun c_104 => ?_)
            ·
              refine lv_iconst (v := zI 0) hX0 hB0 dX11_hasTrait_111 rfl ?_
              have hE : zc_hasTrait M u q tr = (0, M60) := by unfold zc_hasTrait; exact zlet_e e12 (zlet_e em12 (zif_f c_15 (zlet_e e30 (zif_t c_33 (zif_f c_39 (zlet_e em60 (zif_f c_65 (zlet_e e89 (zif_f c_98 (zif_t c_104 rfl))))))))))
              rw [← hQ]
              exact z_iret (z := 0) CX hW (by rw [hE]; exact ⟨rfl, hP60, hC60, hF60, hV60, (show 0 ≤ (0 : Int) ∧ (0 : Int) ≤ 1 from by omega)⟩) rfl dX11_hasTrait_112
            ·
              have d_104 : ¬ z89 < 3 := by omega
              refine lv_iconst (v := zI 1) hX0 hB0 dX11_hasTrait_107 rfl ?_
              refine lv_goto (tgt := 112) hX0 hB0 dX11_hasTrait_108 (by decide) ?_
              have hE : zc_hasTrait M u q tr = (1, M60) := by unfold zc_hasTrait; exact zlet_e e12 (zlet_e em12 (zif_f c_15 (zlet_e e30 (zif_t c_33 (zif_f c_39 (zlet_e em60 (zif_f c_65 (zlet_e e89 (zif_f c_98 (zif_f d_104 rfl))))))))))
              rw [← hQ]
              exact z_iret (z := 1) CX hW (by rw [hE]; exact ⟨rfl, hP60, hC60, hF60, hV60, (show 0 ≤ (1 : Int) ∧ (1 : Int) ≤ 1 from by omega)⟩) rfl dX11_hasTrait_112
        ·
          refine lv_aload_n hX0 hB0 dX11_hasTrait_68 rfl (lv_at hl 0 rfl) ?_
          refine z_get (Cn := RX11) (T := TX11) (N := 13) CX hW (v := .ref (o + 607)) (show g60 o = _ from hP60.c0) rfl (fun w h => List.mem_cons_of_mem _ (List.mem_append_left _ (List.mem_append_left _ (List.mem_append_left _ (List.mem_append_left _ (List.mem_append_right _ h)))))) 4 (by decide) (List.mem_of_getElem? (i := 4) rfl) rfl rfl dX11_hasTrait_69 ?_
          refine z_calli hW (va_runV (C := RX10) (As := []) (rest := []) CX.fix (c_least l (o + 607) (M60.1 0 13) (M60.1 20) (M60.1 21) hP60.c6.1 hP60.c6.2.1 hP60.c6.2.2.1 hP60.c6.2.2.2 hC60.vw.1 hC60.vw.2.1) (cwV 0 CX.fix.2.2.2.2 gX11_hasTrait_X10_least rfl rfl rfl (by decide +kernel) ⟨Nat.le_of_ble_eq_true rfl, Nat.le_of_ble_eq_true rfl⟩) (z_preV CX hW (r := (RX10, TX10, 3)) hP60.c6.1 rfl) rfl rfl hl.1 rfl (lv_room (Nat.le_of_ble_eq_true rfl)) dX11_hasTrait_72 ⟨Nat.zero_le _, Nat.zero_le _⟩) (fun z72 g72 H locs hok hW => ?_)
          obtain ⟨hz, hg⟩ := hok
          have e72 : zleast (M60.1 20) = z72 := hz.symm
          have hls72 := zleast_rng (M60.1 20)
          rw [e72] at hls72
          rw [hg] at hW
          clear hg
          refine lv_iconst (v := zI 2) hX0 hB0 dX11_hasTrait_75 rfl ?_
          refine z_icmp_lt (tgt := 83) CX dX11_hasTrait_76 (by decide) (by constructor <;> omega) (by constructor <;> omega) (fun c_76 => ?_) (fun c_76 => ?_)
          ·
            refine lv_iconst (v := zI 0) hX0 hB0 dX11_hasTrait_83 rfl ?_
            have hE : zc_hasTrait M u q tr = (0, M60) := by unfold zc_hasTrait; exact zlet_e e12 (zlet_e em12 (zif_f c_15 (zlet_e e30 (zif_t c_33 (zif_f c_39 (zlet_e em60 (zif_t c_65 (zlet_e e72 (zif_t c_76 rfl)))))))))
            rw [← hQ]
            exact z_iret (z := 0) CX hW (by rw [hE]; exact ⟨rfl, hP60, hC60, hF60, hV60, (show 0 ≤ (0 : Int) ∧ (0 : Int) ≤ 1 from by omega)⟩) rfl dX11_hasTrait_84
          ·
            have d_76 : ¬ z72 < 2 := by omega
            refine lv_iconst (v := zI 1) hX0 hB0 dX11_hasTrait_79 rfl ?_
            refine lv_goto (tgt := 84) hX0 hB0 dX11_hasTrait_80 (by decide) ?_
            have hE : zc_hasTrait M u q tr = (1, M60) := by unfold zc_hasTrait; exact zlet_e e12 (zlet_e em12 (zif_f c_15 (zlet_e e30 (zif_t c_33 (zif_f c_39 (zlet_e em60 (zif_t c_65 (zlet_e e72 (zif_f d_76 rfl)))))))))
            rw [← hQ]
            exact z_iret (z := 1) CX hW (by rw [hE]; exact ⟨rfl, hP60, hC60, hF60, hV60, (show 0 ≤ (1 : Int) ∧ (1 : Int) ≤ 1 from by omega)⟩) rfl dX11_hasTrait_84
      ·
        refine lv_iconst (v := zI 1) hX0 hB0 dX11_hasTrait_42 rfl ?_
        have hE : zc_hasTrait M u q tr = (1, M12) := by unfold zc_hasTrait; exact zlet_e e12 (zlet_e em12 (zif_f c_15 (zlet_e e30 (zif_t c_33 (zif_t c_39 rfl)))))
        rw [← hQ]
        exact z_iret (z := 1) CX hW (by rw [hE]; exact ⟨rfl, hP12, hC12, hF12, hV12, (show 0 ≤ (1 : Int) ∧ (1 : Int) ≤ 1 from by omega)⟩) rfl dX11_hasTrait_43
    ·
      refine lv_iconst (v := zI 0) hX0 hB0 dX11_hasTrait_36 rfl ?_
      have hE : zc_hasTrait M u q tr = (0, M12) := by unfold zc_hasTrait; exact zlet_e e12 (zlet_e em12 (zif_f c_15 (zlet_e e30 (zif_f c_33 rfl))))
      rw [← hQ]
      exact z_iret (z := 0) CX hW (by rw [hE]; exact ⟨rfl, hP12, hC12, hF12, hV12, (show 0 ≤ (0 : Int) ∧ (0 : Int) ≤ 1 from by omega)⟩) rfl dX11_hasTrait_37
noncomputable def zc_choose_W40 (cv : Int) (k : Int) (tr : Int) (z29 : Int) : Nat → Int → Int → zCt → (Int × zCt) ⊕ (Int × Int × zCt)
  | 0, n40, q40, M40 => .inr (n40, q40, M40)
  | fu40 + 1, n40, q40, M40 => (if z29 ≤ q40 then .inr (n40, q40, M40) else zlet (zc_hasTrait M40 cv q40 tr) (fun q53 => (fun (z53 : Int) (M53 : zCt) => (if z53 = 0 then zc_choose_W40 cv k tr z29 fu40 n40 (q40 + 1) M53 else (if n40 = k then .inl ((q40, M53)) else zc_choose_W40 cv k tr z29 fu40 (n40 + 1) (q40 + 1) M53))) q53.1 q53.2))
noncomputable def zc_choose (M : zCt) (cv : Int) (k : Int) (tr : Int) : Int × zCt := (if 0 ≤ cv ∧ cv < M.1 0 4 ∧ cv < 6 then (if -1 ≤ k then zlet (zmany (M.1 0 3)) (fun z29 => zsum (zc_choose_W40 cv k tr z29 ((995 : Nat)) 0 0 M) (fun r40 => r40) (fun q40 => (fun (n40 : Int) (q40 : Int) (M40 : zCt) => (if k = -1 then (n40, M40) else (-1, M40))) q40.1 q40.2.1 q40.2.2)) else (-1, M)) else (-1, M))
set_option maxRecDepth 100000 in
set_option maxHeartbeats 4000000 in
theorem zd_choose (l : Launch) {D : va_G} {cI cJ cZ cP cS cM : ClassId} {L : List Nat} {sz : Nat} {f : Nat → va_E} (o : Nat) (M : zCt) (cv : Int) (k : Int) (tr : Int) (hP : zCP cI cP cS cZ cM o M f) (hC : zCI M) (hcv : -2147483648 ≤ cv ∧ cv ≤ 2147483647) (hk : -2147483648 ≤ k ∧ k ≤ 2147483647) (htr : -2147483648 ≤ tr ∧ tr ≤ 2147483647) : zMi l yX11_choose wsX11_choose 6 147 D (zT cI cJ cZ cP cS cM) L sz f [.ref o, .int (zI cv), .int (zI k), .int (zI tr)] (fun zv gv => zv = (zc_choose M cv k tr).1 ∧ zCP cI cP cS cZ cM o (zc_choose M cv k tr).2 gv ∧ zCI (zc_choose M cv k tr).2 ∧ zFr f gv o (o + 681) ∧ zVE (zc_choose M cv k tr).2 M ∧ True) := by
  refine zWalk.met (nL := 8) (ret := (some .int)) (cc := cX11_choose) (by decide) rfl (Nat.le_of_ble_eq_true rfl) ?_
  intro pg en st mi ag bl mt cd ls CX hW hl
  have CX : zC pg st mi ag mt cd cX11_choose 8 (some .int) RX11 wsX11_choose := CX
  generalize hQ : MQ bl _ ag st 0 0 _ = Q
  have hX0 := CX.1
  have hB0 := CX.2.1
  have hl : lv_has ls 8 [(0, .ref o), (1, .int (zI cv)), (2, .int (zI k)), (3, .int (zI tr))] := hl
  obtain ⟨H, eH⟩ : ∃ H, H = st.heap := ⟨_, rfl⟩
  obtain ⟨locs, eL⟩ : ∃ L : List Loc, L = [] := ⟨_, rfl⟩
  have hW : zW D (zT cI cJ cZ cP cS cM) L (zQ L sz) st f st.heap H locs := by rw [eH, eL]; exact hW
  suffices hgo : W pg l en ({ frames := 6, cells := 0, slots := 0, locals := 147 } : Room) st mi ag bl mt cd H locs 0 0 Q (F0 mi 0 ls []) by rw [eH, eL] at hgo; exact hgo
  clear eH eL
  have hpb := hC.p
  have hnb := hC.cn
  refine lv_aload_n hX0 hB0 dX11_choose_0 rfl (lv_at hl 0 rfl) ?_
  refine z_get (Cn := RX11) (T := TX11) (N := 13) CX hW (v := .ref (o + 289)) (show f o = _ from hP.c0) rfl (fun w h => List.mem_cons_of_mem _ (List.mem_append_left _ (List.mem_append_left _ (List.mem_append_left _ (List.mem_append_left _ (List.mem_append_right _ h)))))) 1 (by decide) (List.mem_of_getElem? (i := 1) rfl) rfl rfl dX11_choose_1 ?_
  refine lv_iload_n hX0 hB0 dX11_choose_4 rfl (lv_at hl 1 rfl) ?_
  refine z_callr hW (va_runV (C := RX7) (As := [.int (zI cv)]) (rest := []) CX.fix (c_find l (o + 289) (M.1 0 3) (M.1 0 4) M.2.1 (M.1 3) cv hP.c3 (by omega) (by constructor <;> omega)) (cwV 1 CX.fix.2.2.2.2 gX11_choose_X7_find rfl rfl rfl (by decide +kernel) ⟨Nat.le_of_ble_eq_true rfl, Nat.le_of_ble_eq_true rfl⟩) (z_preV CX hW (r := (RX7, TX7, 4)) hP.c3.1 rfl) rfl rfl hl.1 rfl (lv_room (Nat.le_of_ble_eq_true rfl)) dX11_choose_5 ⟨Nat.zero_le _, Nat.zero_le _⟩) (fun z5 g5 H locs hok hW => ?_)
  obtain ⟨hz, hg⟩ := hok
  rw [hz]
  rw [hg] at hW
  clear hg
  by_cases cf_cv_8 : 0 ≤ cv ∧ cv < M.1 0 4 ∧ cv < 6
  ·
    have hzf := zfind_p (a := o + 289) cf_cv_8
    rw [hzf]
    clear hzf
    refine lv_astore (lv' := [(4, .ref (o + 289 + 3 + 2 * cv.toNat)), (0, .ref o), (1, .int (zI cv)), (2, .int (zI k)), (3, .int (zI tr))]) hX0 hB0 dX11_choose_8 hl (by decide) rfl (fun ls hl => ?_)
    refine lv_aload hX0 hB0 dX11_choose_10 (lv_at hl 0 rfl) ?_
    refine lv_ifnull hX0 hB0 dX11_choose_12 ?_
    refine lv_iload_n hX0 hB0 dX11_choose_15 rfl (lv_at hl 3 rfl) ?_
    refine lv_iconst (v := zI (-1)) hX0 hB0 dX11_choose_16 rfl ?_
    refine z_icmp_ge (tgt := 22) CX dX11_choose_17 (by decide) (by constructor <;> omega) (by constructor <;> omega) (fun c_17 => ?_) (fun c_17 => ?_)
    ·
      refine lv_aload_n hX0 hB0 dX11_choose_22 rfl (lv_at hl 1 rfl) ?_
      refine z_get (Cn := RX11) (T := TX11) (N := 13) CX hW (v := .ref (o + 289)) (show f o = _ from hP.c0) rfl (fun w h => List.mem_cons_of_mem _ (List.mem_append_left _ (List.mem_append_left _ (List.mem_append_left _ (List.mem_append_left _ (List.mem_append_right _ h)))))) 1 (by decide) (List.mem_of_getElem? (i := 1) rfl) rfl rfl dX11_choose_23 ?_
      refine z_get (Cn := RX7) (T := TX7) (N := 4) CX hW (v := .int (zI (M.1 0 3))) hP.c3.1 rfl (fun w h => List.mem_cons_of_mem _ (List.mem_append_left _ (List.mem_append_left _ (List.mem_append_left _ (List.mem_append_right _ h))))) 0 (by decide) (List.mem_of_getElem? (i := 2) rfl) rfl rfl dX11_choose_26 ?_
      have hr26 := hC.p
      refine z_calli hW (va_runS (As := [.int (zI (M.1 0 3))]) (rest := []) CX.fix (c_howMany l (f := f) (M.1 0 3)) (va_cwS 1 CX.fix.2.2.2.2 gX11_choose_X9_howMany rfl rfl rfl (by decide +kernel) ⟨Nat.le_of_ble_eq_true rfl, Nat.le_of_ble_eq_true rfl⟩) (z_preS CX hW) rfl rfl hl.1 rfl (lv_room (Nat.le_of_ble_eq_true rfl)) dX11_choose_29 ⟨Nat.zero_le _, Nat.zero_le _⟩) (fun z29 g29 H locs hok hW => ?_)
      obtain ⟨hz, hg⟩ := hok
      have e29 : zmany (M.1 0 3) = z29 := hz.symm
      have hmy29 := zmany_rng (p := (M.1 0 3)) (by omega)
      rw [e29] at hmy29
      rw [hg] at hW
      clear hg
      refine lv_istore (lv' := [(5, .int (zI z29)), (4, .ref (o + 289 + 3 + 2 * cv.toNat)), (0, .ref o), (1, .int (zI cv)), (2, .int (zI k)), (3, .int (zI tr))]) hX0 hB0 dX11_choose_32 hl (by decide) rfl (fun ls hl => ?_)
      refine lv_iconst (v := zI 0) hX0 hB0 dX11_choose_34 rfl ?_
      refine lv_istore (lv' := [(6, .int (zI 0)), (5, .int (zI z29)), (4, .ref (o + 289 + 3 + 2 * cv.toNat)), (0, .ref o), (1, .int (zI cv)), (2, .int (zI k)), (3, .int (zI tr))]) hX0 hB0 dX11_choose_35 hl (by decide) rfl (fun ls hl => ?_)
      refine lv_iconst (v := zI 0) hX0 hB0 dX11_choose_37 rfl ?_
      refine lv_istore (lv' := [(7, .int (zI 0)), (6, .int (zI 0)), (5, .int (zI z29)), (4, .ref (o + 289 + 3 + 2 * cv.toNat)), (0, .ref o), (1, .int (zI cv)), (2, .int (zI k)), (3, .int (zI tr))]) hX0 hB0 dX11_choose_38 hl (by decide) rfl (fun ls hl => ?_)
      have hXt40 : ∀ (n40 : Int) (q40 : Int) (M40 : zCt) (g40 : Nat → va_E), (zc_choose_W40 cv k tr z29 ((995 : Nat)) 0 0 M = .inr (n40, q40, M40) ∧ zCP cI cP cS cZ cM o M40 g40 ∧ zCI M40 ∧ zFr f g40 o (o + 681) ∧ zVE M40 M ∧ 0 ≤ n40 ∧ n40 ≤ 1000 ∧ 0 ≤ q40 ∧ q40 ≤ 993 ∧ (n40 ≤ q40)) → ∀ (H : Heap) (locs : List Loc) (ls : Array Slot), zW D (zT cI cJ cZ cP cS cM) L (zQ L sz) st g40 st.heap H locs → lv_has ls 8 [(6, .int (zI n40)), (7, .int (zI q40)), (5, .int (zI z29)), (4, .ref (o + 289 + 3 + 2 * cv.toNat)), (0, .ref o), (1, .int (zI cv)), (2, .int (zI k)), (3, .int (zI tr))] → W pg l en ({ frames := 6, cells := 0, slots := 0, locals := 147 } : Room) st mi ag bl mt cd H locs 0 0 Q (F0 mi 80 ls []) := by
        intro n40 q40 M40 g40 hinv H locs ls hW hl
        obtain ⟨e40, hP40, hC40, hF40, hV40, han40, hbn40, haq40, hbq40, hv40⟩ := hinv
        have hp40 := hC40.p
        have hn40 := hC40.cn
        have tv40_3 : M40.1 0 3 = M.1 0 3 := hV40.2 0 3 (by omega) (by omega)
        have tv40_4 : M40.1 0 4 = M.1 0 4 := hV40.2 0 4 (by omega) (by omega)
        refine lv_iload_n hX0 hB0 dX11_choose_80 rfl (lv_at hl 6 rfl) ?_
        refine lv_iconst (v := zI (-1)) hX0 hB0 dX11_choose_81 rfl ?_
        refine z_icmp_ne (tgt := 90) CX dX11_choose_82 (by decide) (by constructor <;> omega) (by constructor <;> omega) (fun c_82 => ?_) (fun c_82 => ?_)
        ·
          refine lv_iconst (v := zI (-1)) hX0 hB0 dX11_choose_90 rfl ?_
          have hE : zc_choose M cv k tr = (-1, M40) := by unfold zc_choose; exact zif_t cf_cv_8 (zif_t c_17 (zlet_e e29 (zsum_r e40 (zif_f c_82 rfl))))
          rw [← hQ]
          exact z_iret (z := -1) CX hW (by rw [hE]; exact ⟨rfl, hP40, hC40, hF40, hV40, trivial⟩) rfl dX11_choose_91
        ·
          refine lv_iload hX0 hB0 dX11_choose_85 (lv_at hl 0 rfl) ?_
          refine lv_goto (tgt := 91) hX0 hB0 dX11_choose_87 (by decide) ?_
          have hE : zc_choose M cv k tr = (n40, M40) := by unfold zc_choose; exact zif_t cf_cv_8 (zif_t c_17 (zlet_e e29 (zsum_r e40 (zif_t c_82 rfl))))
          rw [← hQ]
          exact z_iret (z := n40) CX hW (by rw [hE]; exact ⟨rfl, hP40, hC40, hF40, hV40, trivial⟩) rfl dX11_choose_91
      have hL40 : ∀ (fu : Nat) (n40 : Int) (q40 : Int) (M40 : zCt) (g40 : Nat → va_E), (zc_choose_W40 cv k tr z29 ((995 : Nat)) 0 0 M = zc_choose_W40 cv k tr z29 fu n40 q40 M40 ∧ zCP cI cP cS cZ cM o M40 g40 ∧ zCI M40 ∧ zFr f g40 o (o + 681) ∧ zVE M40 M ∧ 0 ≤ n40 ∧ n40 ≤ 1000 ∧ 0 ≤ q40 ∧ q40 ≤ 993 ∧ (n40 ≤ q40)) → (994 - q40).toNat < fu → ∀ (H : Heap) (locs : List Loc) (ls : Array Slot), zW D (zT cI cJ cZ cP cS cM) L (zQ L sz) st g40 st.heap H locs → lv_has ls 8 [(6, .int (zI n40)), (7, .int (zI q40)), (5, .int (zI z29)), (4, .ref (o + 289 + 3 + 2 * cv.toNat)), (0, .ref o), (1, .int (zI cv)), (2, .int (zI k)), (3, .int (zI tr))] → W pg l en ({ frames := 6, cells := 0, slots := 0, locals := 147 } : Room) st mi ag bl mt cd H locs 0 0 Q (F0 mi 40 ls []) := by
        intro fu
        induction fu with
        | zero => intro n40 q40 M40 g40 _ hfu; exact absurd hfu (Nat.not_lt_zero _)
        | succ fu ih40 =>
          intro n40 q40 M40 g40 hinv hfu40 H locs ls hW hl
          obtain ⟨hz40, hP40, hC40, hF40, hV40, han40, hbn40, haq40, hbq40, hv40⟩ := hinv
          have hp40 := hC40.p
          have hn40 := hC40.cn
          have tv40_3 : M40.1 0 3 = M.1 0 3 := hV40.2 0 3 (by omega) (by omega)
          have tv40_4 : M40.1 0 4 = M.1 0 4 := hV40.2 0 4 (by omega) (by omega)
          refine lv_iload hX0 hB0 dX11_choose_40 (lv_at hl 1 rfl) ?_
          refine lv_iload hX0 hB0 dX11_choose_42 (lv_at hl 2 rfl) ?_
          refine z_icmp_ge (tgt := 80) CX dX11_choose_44 (by decide) (by constructor <;> omega) (by constructor <;> omega) (fun c_44 => ?_) (fun c_44 => ?_)
          ·
            exact hXt40 n40 q40 M40 g40 ⟨hz40.trans (by rw [zc_choose_W40]; exact zif_t c_44 rfl), hP40, hC40, hF40, hV40, by omega, by omega, by omega, by omega, by omega⟩ H locs ls hW (lv_sub hl [0, 1, 2, 3, 4, 5, 6, 7] rfl)
          ·
            have d_44 : ¬ z29 ≤ q40 := by omega
            refine lv_aload_n hX0 hB0 dX11_choose_47 rfl (lv_at hl 4 rfl) ?_
            refine lv_aload hX0 hB0 dX11_choose_48 (lv_at hl 3 rfl) ?_
            refine lv_iload hX0 hB0 dX11_choose_50 (lv_at hl 1 rfl) ?_
            refine lv_iload_n hX0 hB0 dX11_choose_52 rfl (lv_at hl 7 rfl) ?_
            refine z_calli hW (va_runV (C := RX11) (As := [.ref (o + 289 + 3 + 2 * cv.toNat), .int (zI q40), .int (zI tr)]) (rest := []) CX.fix (zd_hasTrait l o M40 cv q40 tr hP40 hC40 (by constructor <;> omega) (by constructor <;> omega) (by constructor <;> omega)) (cwV 3 CX.fix.2.2.2.2 gX11_choose_X11_hasTrait rfl rfl rfl (by decide +kernel) ⟨Nat.le_of_ble_eq_true rfl, Nat.le_of_ble_eq_true rfl⟩) (z_preV CX hW (r := (RX11, TX11, 13)) (show g40 o = _ from hP40.c0) rfl) rfl rfl hl.1 rfl (lv_room (Nat.le_of_ble_eq_true rfl)) dX11_choose_53 ⟨Nat.zero_le _, Nat.zero_le _⟩) (fun z53 g53 H locs hok hW => ?_)
            obtain ⟨hz53, hp, hc, hfr, hv, hq53⟩ := hok
            obtain ⟨M53, hS53⟩ : ∃ Mq, Mq = (zc_hasTrait M40 cv q40 tr).2 := ⟨_, rfl⟩
            rw [← hS53] at hp hc hv
            try rw [← hS53] at hq53
            have e53 : zc_hasTrait M40 cv q40 tr = (z53, M53) := Prod.ext hz53.symm hS53.symm
            clear hz53 hS53
            have hP53 := hp
            have hC53 := hc
            have hF53 : zFr f g53 o (o + 681) := zFr.trans hF40 hfr
            clear hp hc hfr
            have hV53 : zVE M53 M := zVE.tr hv hV40
            have tv53_3 : M53.1 0 3 = M.1 0 3 := hV53.2 0 3 (by omega) (by omega)
            have tv53_4 : M53.1 0 4 = M.1 0 4 := hV53.2 0 4 (by omega) (by omega)
            clear hv
            refine z_if_ne (tgt := 62) CX dX11_choose_56 (by decide) (by constructor <;> omega) (fun c_56 => ?_) (fun c_56 => ?_)
            ·
              refine lv_iload hX0 hB0 dX11_choose_62 (lv_at hl 0 rfl) ?_
              refine lv_iload_n hX0 hB0 dX11_choose_64 rfl (lv_at hl 6 rfl) ?_
              refine z_icmp_ne (tgt := 71) CX dX11_choose_65 (by decide) (by constructor <;> omega) (by constructor <;> omega) (fun c_65 => ?_) (fun c_65 => ?_)
              ·
                refine lv_iinc (v := zI (n40 + 1)) (lv' := [(6, .int (zI (n40 + 1))), (7, .int (zI q40)), (5, .int (zI z29)), (4, .ref (o + 289 + 3 + 2 * cv.toNat)), (0, .ref o), (1, .int (zI cv)), (2, .int (zI k)), (3, .int (zI tr))]) hX0 hB0 dX11_choose_71 hl (k := 0) rfl (zI_add _ _) (by decide) rfl (fun ls hl => ?_)
                refine lv_iinc (v := zI (q40 + 1)) (lv' := [(7, .int (zI (q40 + 1))), (6, .int (zI (n40 + 1))), (5, .int (zI z29)), (4, .ref (o + 289 + 3 + 2 * cv.toNat)), (0, .ref o), (1, .int (zI cv)), (2, .int (zI k)), (3, .int (zI tr))]) hX0 hB0 dX11_choose_74 hl (k := 1) rfl (zI_add _ _) (by decide) rfl (fun ls hl => ?_)
                refine lv_goto (tgt := 40) hX0 hB0 dX11_choose_77 (by decide) ?_
                exact ih40 (n40 + 1) (q40 + 1) M53 g53 ⟨hz40.trans (by rw [zc_choose_W40]; exact zif_f d_44 (zlet_e e53 (zif_f c_56 (zif_f c_65 rfl)))), hP53, hC53, hF53, hV53, by omega, by omega, by omega, by omega, by omega⟩ (by omega) H locs ls hW (lv_sub hl [1, 0, 2, 3, 4, 5, 6, 7] rfl)
              ·
                refine lv_iload hX0 hB0 dX11_choose_68 (lv_at hl 1 rfl) ?_
                have hE : zc_choose M cv k tr = (q40, M53) := by unfold zc_choose; exact zif_t cf_cv_8 (zif_t c_17 (zlet_e e29 (zsum_l (hz40.trans (by rw [zc_choose_W40]; exact zif_f d_44 (zlet_e e53 (zif_f c_56 (zif_t c_65 rfl))))) rfl)))
                rw [← hQ]
                exact z_iret (z := q40) CX hW (by rw [hE]; exact ⟨rfl, hP53, hC53, hF53, hV53, trivial⟩) rfl dX11_choose_70
            ·
              refine lv_goto (tgt := 74) hX0 hB0 dX11_choose_59 (by decide) ?_
              refine lv_iinc (v := zI (q40 + 1)) (lv' := [(7, .int (zI (q40 + 1))), (6, .int (zI n40)), (5, .int (zI z29)), (4, .ref (o + 289 + 3 + 2 * cv.toNat)), (0, .ref o), (1, .int (zI cv)), (2, .int (zI k)), (3, .int (zI tr))]) hX0 hB0 dX11_choose_74 hl (k := 1) rfl (zI_add _ _) (by decide) rfl (fun ls hl => ?_)
              refine lv_goto (tgt := 40) hX0 hB0 dX11_choose_77 (by decide) ?_
              exact ih40 n40 (q40 + 1) M53 g53 ⟨hz40.trans (by rw [zc_choose_W40]; exact zif_f d_44 (zlet_e e53 (zif_t c_56 rfl))), hP53, hC53, hF53, hV53, by omega, by omega, by omega, by omega, by omega⟩ (by omega) H locs ls hW (lv_sub hl [1, 0, 2, 3, 4, 5, 6, 7] rfl)
      exact hL40 _ 0 0 M f ⟨rfl, hP, hC, zFr.refl, zVE.rf, by omega, by omega, by omega, by omega, by omega⟩ (by omega) H locs ls hW (lv_sub hl [1, 0, 2, 3, 4, 5, 6, 7] rfl)
    ·
      have d_17 : ¬ -1 ≤ k := by omega
      refine lv_iconst (v := zI (-1)) hX0 hB0 dX11_choose_20 rfl ?_
      have hE : zc_choose M cv k tr = (-1, M) := by unfold zc_choose; exact zif_t cf_cv_8 (zif_f d_17 rfl)
      rw [← hQ]
      exact z_iret (z := -1) CX hW (by rw [hE]; exact ⟨rfl, hP, hC, zFr.refl, zVE.rf, trivial⟩) rfl dX11_choose_21
  ·
    have hzf := zfind_n (a := o + 289) cf_cv_8
    rw [hzf]
    clear hzf
    refine lv_astoreN (lv' := [(4, .null), (0, .ref o), (1, .int (zI cv)), (2, .int (zI k)), (3, .int (zI tr))]) hX0 hB0 dX11_choose_8 hl (by decide) rfl (fun ls hl => ?_)
    refine lv_aloadN hX0 hB0 dX11_choose_10 (lv_at hl 0 rfl) ?_
    refine lv_ifnullN (tgt := 20) hX0 hB0 dX11_choose_12 (by decide) ?_
    refine lv_iconst (v := zI (-1)) hX0 hB0 dX11_choose_20 rfl ?_
    have hE : zc_choose M cv k tr = (-1, M) := by unfold zc_choose; exact zif_f cf_cv_8 rfl
    rw [← hQ]
    exact z_iret (z := -1) CX hW (by rw [hE]; exact ⟨rfl, hP, hC, zFr.refl, zVE.rf, trivial⟩) rfl dX11_choose_21
noncomputable def zc_point (M : zCt) (cv : Int) (k : Int) : Int × zCt := zlet (zc_choose M cv k 0) (fun q4 => (fun (z4 : Int) (M4 : zCt) => (z4, M4)) q4.1 q4.2)
set_option maxRecDepth 100000 in
set_option maxHeartbeats 4000000 in
theorem zd_point (l : Launch) {D : va_G} {cI cJ cZ cP cS cM : ClassId} {L : List Nat} {sz : Nat} {f : Nat → va_E} (o : Nat) (M : zCt) (cv : Int) (k : Int) (hP : zCP cI cP cS cZ cM o M f) (hC : zCI M) (hcv : -2147483648 ≤ cv ∧ cv ≤ 2147483647) (hk : -2147483648 ≤ k ∧ k ≤ 2147483647) : zMi l yX11_point wsX11_point 7 174 D (zT cI cJ cZ cP cS cM) L sz f [.ref o, .int (zI cv), .int (zI k)] (fun zv gv => zv = (zc_point M cv k).1 ∧ zCP cI cP cS cZ cM o (zc_point M cv k).2 gv ∧ zCI (zc_point M cv k).2 ∧ zFr f gv o (o + 681) ∧ zVE (zc_point M cv k).2 M ∧ True) := by
  refine zWalk.met (nL := 3) (ret := (some .int)) (cc := cX11_point) (by decide) rfl (Nat.le_of_ble_eq_true rfl) ?_
  intro pg en st mi ag bl mt cd ls CX hW hl
  have CX : zC pg st mi ag mt cd cX11_point 3 (some .int) RX11 wsX11_point := CX
  generalize hQ : MQ bl _ ag st 0 0 _ = Q
  have hX0 := CX.1
  have hB0 := CX.2.1
  have hl : lv_has ls 3 [(0, .ref o), (1, .int (zI cv)), (2, .int (zI k))] := hl
  obtain ⟨H, eH⟩ : ∃ H, H = st.heap := ⟨_, rfl⟩
  obtain ⟨locs, eL⟩ : ∃ L : List Loc, L = [] := ⟨_, rfl⟩
  have hW : zW D (zT cI cJ cZ cP cS cM) L (zQ L sz) st f st.heap H locs := by rw [eH, eL]; exact hW
  suffices hgo : W pg l en ({ frames := 7, cells := 0, slots := 0, locals := 174 } : Room) st mi ag bl mt cd H locs 0 0 Q (F0 mi 0 ls []) by rw [eH, eL] at hgo; exact hgo
  clear eH eL
  have hpb := hC.p
  have hnb := hC.cn
  refine lv_aload_n hX0 hB0 dX11_point_0 rfl (lv_at hl 0 rfl) ?_
  refine lv_iload_n hX0 hB0 dX11_point_1 rfl (lv_at hl 1 rfl) ?_
  refine lv_iload_n hX0 hB0 dX11_point_2 rfl (lv_at hl 2 rfl) ?_
  refine lv_iconst (v := zI 0) hX0 hB0 dX11_point_3 rfl ?_
  refine z_calli hW (va_runV (C := RX11) (As := [.int (zI cv), .int (zI k), .int (zI 0)]) (rest := []) CX.fix (zd_choose l o M cv k 0 hP hC (by constructor <;> omega) (by constructor <;> omega) (by constructor <;> omega)) (cwV 3 CX.fix.2.2.2.2 gX11_point_X11_choose rfl rfl rfl (by decide +kernel) ⟨Nat.le_of_ble_eq_true rfl, Nat.le_of_ble_eq_true rfl⟩) (z_preV CX hW (r := (RX11, TX11, 13)) (show f o = _ from hP.c0) rfl) rfl rfl hl.1 rfl (lv_room (Nat.le_of_ble_eq_true rfl)) dX11_point_4 ⟨Nat.zero_le _, Nat.zero_le _⟩) (fun z4 g4 H locs hok hW => ?_)
  obtain ⟨hz4, hp, hc, hfr, hv, hq4⟩ := hok
  obtain ⟨M4, hS4⟩ : ∃ Mq, Mq = (zc_choose M cv k 0).2 := ⟨_, rfl⟩
  rw [← hS4] at hp hc hv
  try rw [← hS4] at hq4
  have e4 : zc_choose M cv k 0 = (z4, M4) := Prod.ext hz4.symm hS4.symm
  clear hz4 hS4
  have hP4 := hp
  have hC4 := hc
  have hF4 : zFr f g4 o (o + 681) := zFr.trans zFr.refl hfr
  clear hp hc hfr
  have hV4 : zVE M4 M := zVE.tr hv zVE.rf
  have tv4_3 : M4.1 0 3 = M.1 0 3 := hV4.2 0 3 (by omega) (by omega)
  have tv4_4 : M4.1 0 4 = M.1 0 4 := hV4.2 0 4 (by omega) (by omega)
  clear hv
  have hE : zc_point M cv k = (z4, M4) := by unfold zc_point; exact zlet_e e4 rfl
  rw [← hQ]
  exact z_iret (z := z4) CX hW (by rw [hE]; exact ⟨rfl, hP4, hC4, hF4, hV4, trivial⟩) rfl dX11_point_7
noncomputable def zc_singular (M : zCt) (cv : Int) (k : Int) : Int × zCt := zlet (zc_choose M cv k 1) (fun q4 => (fun (z4 : Int) (M4 : zCt) => (z4, M4)) q4.1 q4.2)
set_option maxRecDepth 100000 in
set_option maxHeartbeats 4000000 in
theorem zd_singular (l : Launch) {D : va_G} {cI cJ cZ cP cS cM : ClassId} {L : List Nat} {sz : Nat} {f : Nat → va_E} (o : Nat) (M : zCt) (cv : Int) (k : Int) (hP : zCP cI cP cS cZ cM o M f) (hC : zCI M) (hcv : -2147483648 ≤ cv ∧ cv ≤ 2147483647) (hk : -2147483648 ≤ k ∧ k ≤ 2147483647) : zMi l yX11_singular wsX11_singular 7 174 D (zT cI cJ cZ cP cS cM) L sz f [.ref o, .int (zI cv), .int (zI k)] (fun zv gv => zv = (zc_singular M cv k).1 ∧ zCP cI cP cS cZ cM o (zc_singular M cv k).2 gv ∧ zCI (zc_singular M cv k).2 ∧ zFr f gv o (o + 681) ∧ zVE (zc_singular M cv k).2 M ∧ True) := by
  refine zWalk.met (nL := 3) (ret := (some .int)) (cc := cX11_singular) (by decide) rfl (Nat.le_of_ble_eq_true rfl) ?_
  intro pg en st mi ag bl mt cd ls CX hW hl
  have CX : zC pg st mi ag mt cd cX11_singular 3 (some .int) RX11 wsX11_singular := CX
  generalize hQ : MQ bl _ ag st 0 0 _ = Q
  have hX0 := CX.1
  have hB0 := CX.2.1
  have hl : lv_has ls 3 [(0, .ref o), (1, .int (zI cv)), (2, .int (zI k))] := hl
  obtain ⟨H, eH⟩ : ∃ H, H = st.heap := ⟨_, rfl⟩
  obtain ⟨locs, eL⟩ : ∃ L : List Loc, L = [] := ⟨_, rfl⟩
  have hW : zW D (zT cI cJ cZ cP cS cM) L (zQ L sz) st f st.heap H locs := by rw [eH, eL]; exact hW
  suffices hgo : W pg l en ({ frames := 7, cells := 0, slots := 0, locals := 174 } : Room) st mi ag bl mt cd H locs 0 0 Q (F0 mi 0 ls []) by rw [eH, eL] at hgo; exact hgo
  clear eH eL
  have hpb := hC.p
  have hnb := hC.cn
  refine lv_aload_n hX0 hB0 dX11_singular_0 rfl (lv_at hl 0 rfl) ?_
  refine lv_iload_n hX0 hB0 dX11_singular_1 rfl (lv_at hl 1 rfl) ?_
  refine lv_iload_n hX0 hB0 dX11_singular_2 rfl (lv_at hl 2 rfl) ?_
  refine lv_iconst (v := zI 1) hX0 hB0 dX11_singular_3 rfl ?_
  refine z_calli hW (va_runV (C := RX11) (As := [.int (zI cv), .int (zI k), .int (zI 1)]) (rest := []) CX.fix (zd_choose l o M cv k 1 hP hC (by constructor <;> omega) (by constructor <;> omega) (by constructor <;> omega)) (cwV 3 CX.fix.2.2.2.2 gX11_singular_X11_choose rfl rfl rfl (by decide +kernel) ⟨Nat.le_of_ble_eq_true rfl, Nat.le_of_ble_eq_true rfl⟩) (z_preV CX hW (r := (RX11, TX11, 13)) (show f o = _ from hP.c0) rfl) rfl rfl hl.1 rfl (lv_room (Nat.le_of_ble_eq_true rfl)) dX11_singular_4 ⟨Nat.zero_le _, Nat.zero_le _⟩) (fun z4 g4 H locs hok hW => ?_)
  obtain ⟨hz4, hp, hc, hfr, hv, hq4⟩ := hok
  obtain ⟨M4, hS4⟩ : ∃ Mq, Mq = (zc_choose M cv k 1).2 := ⟨_, rfl⟩
  rw [← hS4] at hp hc hv
  try rw [← hS4] at hq4
  have e4 : zc_choose M cv k 1 = (z4, M4) := Prod.ext hz4.symm hS4.symm
  clear hz4 hS4
  have hP4 := hp
  have hC4 := hc
  have hF4 : zFr f g4 o (o + 681) := zFr.trans zFr.refl hfr
  clear hp hc hfr
  have hV4 : zVE M4 M := zVE.tr hv zVE.rf
  have tv4_3 : M4.1 0 3 = M.1 0 3 := hV4.2 0 3 (by omega) (by omega)
  have tv4_4 : M4.1 0 4 = M.1 0 4 := hV4.2 0 4 (by omega) (by omega)
  clear hv
  have hE : zc_singular M cv k = (z4, M4) := by unfold zc_singular; exact zlet_e e4 rfl
  rw [← hQ]
  exact z_iret (z := z4) CX hW (by rw [hE]; exact ⟨rfl, hP4, hC4, hF4, hV4, trivial⟩) rfl dX11_singular_7
noncomputable def zc_flex (M : zCt) (cv : Int) (k : Int) : Int × zCt := zlet (zc_choose M cv k 2) (fun q4 => (fun (z4 : Int) (M4 : zCt) => (z4, M4)) q4.1 q4.2)
set_option maxRecDepth 100000 in
set_option maxHeartbeats 4000000 in
theorem zd_flex (l : Launch) {D : va_G} {cI cJ cZ cP cS cM : ClassId} {L : List Nat} {sz : Nat} {f : Nat → va_E} (o : Nat) (M : zCt) (cv : Int) (k : Int) (hP : zCP cI cP cS cZ cM o M f) (hC : zCI M) (hcv : -2147483648 ≤ cv ∧ cv ≤ 2147483647) (hk : -2147483648 ≤ k ∧ k ≤ 2147483647) : zMi l yX11_flex wsX11_flex 7 174 D (zT cI cJ cZ cP cS cM) L sz f [.ref o, .int (zI cv), .int (zI k)] (fun zv gv => zv = (zc_flex M cv k).1 ∧ zCP cI cP cS cZ cM o (zc_flex M cv k).2 gv ∧ zCI (zc_flex M cv k).2 ∧ zFr f gv o (o + 681) ∧ zVE (zc_flex M cv k).2 M ∧ True) := by
  refine zWalk.met (nL := 3) (ret := (some .int)) (cc := cX11_flex) (by decide) rfl (Nat.le_of_ble_eq_true rfl) ?_
  intro pg en st mi ag bl mt cd ls CX hW hl
  have CX : zC pg st mi ag mt cd cX11_flex 3 (some .int) RX11 wsX11_flex := CX
  generalize hQ : MQ bl _ ag st 0 0 _ = Q
  have hX0 := CX.1
  have hB0 := CX.2.1
  have hl : lv_has ls 3 [(0, .ref o), (1, .int (zI cv)), (2, .int (zI k))] := hl
  obtain ⟨H, eH⟩ : ∃ H, H = st.heap := ⟨_, rfl⟩
  obtain ⟨locs, eL⟩ : ∃ L : List Loc, L = [] := ⟨_, rfl⟩
  have hW : zW D (zT cI cJ cZ cP cS cM) L (zQ L sz) st f st.heap H locs := by rw [eH, eL]; exact hW
  suffices hgo : W pg l en ({ frames := 7, cells := 0, slots := 0, locals := 174 } : Room) st mi ag bl mt cd H locs 0 0 Q (F0 mi 0 ls []) by rw [eH, eL] at hgo; exact hgo
  clear eH eL
  have hpb := hC.p
  have hnb := hC.cn
  refine lv_aload_n hX0 hB0 dX11_flex_0 rfl (lv_at hl 0 rfl) ?_
  refine lv_iload_n hX0 hB0 dX11_flex_1 rfl (lv_at hl 1 rfl) ?_
  refine lv_iload_n hX0 hB0 dX11_flex_2 rfl (lv_at hl 2 rfl) ?_
  refine lv_iconst (v := zI 2) hX0 hB0 dX11_flex_3 rfl ?_
  refine z_calli hW (va_runV (C := RX11) (As := [.int (zI cv), .int (zI k), .int (zI 2)]) (rest := []) CX.fix (zd_choose l o M cv k 2 hP hC (by constructor <;> omega) (by constructor <;> omega) (by constructor <;> omega)) (cwV 3 CX.fix.2.2.2.2 gX11_flex_X11_choose rfl rfl rfl (by decide +kernel) ⟨Nat.le_of_ble_eq_true rfl, Nat.le_of_ble_eq_true rfl⟩) (z_preV CX hW (r := (RX11, TX11, 13)) (show f o = _ from hP.c0) rfl) rfl rfl hl.1 rfl (lv_room (Nat.le_of_ble_eq_true rfl)) dX11_flex_4 ⟨Nat.zero_le _, Nat.zero_le _⟩) (fun z4 g4 H locs hok hW => ?_)
  obtain ⟨hz4, hp, hc, hfr, hv, hq4⟩ := hok
  obtain ⟨M4, hS4⟩ : ∃ Mq, Mq = (zc_choose M cv k 2).2 := ⟨_, rfl⟩
  rw [← hS4] at hp hc hv
  try rw [← hS4] at hq4
  have e4 : zc_choose M cv k 2 = (z4, M4) := Prod.ext hz4.symm hS4.symm
  clear hz4 hS4
  have hP4 := hp
  have hC4 := hc
  have hF4 : zFr f g4 o (o + 681) := zFr.trans zFr.refl hfr
  clear hp hc hfr
  have hV4 : zVE M4 M := zVE.tr hv zVE.rf
  have tv4_3 : M4.1 0 3 = M.1 0 3 := hV4.2 0 3 (by omega) (by omega)
  have tv4_4 : M4.1 0 4 = M.1 0 4 := hV4.2 0 4 (by omega) (by omega)
  clear hv
  have hE : zc_flex M cv k = (z4, M4) := by unfold zc_flex; exact zlet_e e4 rfl
  rw [← hQ]
  exact z_iret (z := z4) CX hW (by rw [hE]; exact ⟨rfl, hP4, hC4, hF4, hV4, trivial⟩) rfl dX11_flex_7
noncomputable def zc_order (M : zCt) (cv : Int) (pt : Int) : Int × zCt := zlet (zc_lookAt M cv pt) (fun q3 => (fun (z3 : Int) (M3 : zCt) => (if z3 = 0 then (-1, M3) else zlet (zleast (M3.1 20)) (fun z13 => (z13, M3)))) q3.1 q3.2)
set_option maxRecDepth 100000 in
set_option maxHeartbeats 4000000 in
theorem zd_order (l : Launch) {D : va_G} {cI cJ cZ cP cS cM : ClassId} {L : List Nat} {sz : Nat} {f : Nat → va_E} (o : Nat) (M : zCt) (cv : Int) (pt : Int) (hP : zCP cI cP cS cZ cM o M f) (hC : zCI M) (hcv : -2147483648 ≤ cv ∧ cv ≤ 2147483647) (hpt : -2147483648 ≤ pt ∧ pt ≤ 2147483647) : zMi l yX11_order wsX11_order 6 146 D (zT cI cJ cZ cP cS cM) L sz f [.ref o, .int (zI cv), .int (zI pt)] (fun zv gv => zv = (zc_order M cv pt).1 ∧ zCP cI cP cS cZ cM o (zc_order M cv pt).2 gv ∧ zCI (zc_order M cv pt).2 ∧ zFr f gv o (o + 681) ∧ zVE (zc_order M cv pt).2 M ∧ True) := by
  refine zWalk.met (nL := 3) (ret := (some .int)) (cc := cX11_order) (by decide) rfl (Nat.le_of_ble_eq_true rfl) ?_
  intro pg en st mi ag bl mt cd ls CX hW hl
  have CX : zC pg st mi ag mt cd cX11_order 3 (some .int) RX11 wsX11_order := CX
  generalize hQ : MQ bl _ ag st 0 0 _ = Q
  have hX0 := CX.1
  have hB0 := CX.2.1
  have hl : lv_has ls 3 [(0, .ref o), (1, .int (zI cv)), (2, .int (zI pt))] := hl
  obtain ⟨H, eH⟩ : ∃ H, H = st.heap := ⟨_, rfl⟩
  obtain ⟨locs, eL⟩ : ∃ L : List Loc, L = [] := ⟨_, rfl⟩
  have hW : zW D (zT cI cJ cZ cP cS cM) L (zQ L sz) st f st.heap H locs := by rw [eH, eL]; exact hW
  suffices hgo : W pg l en ({ frames := 6, cells := 0, slots := 0, locals := 146 } : Room) st mi ag bl mt cd H locs 0 0 Q (F0 mi 0 ls []) by rw [eH, eL] at hgo; exact hgo
  clear eH eL
  have hpb := hC.p
  have hnb := hC.cn
  refine lv_aload_n hX0 hB0 dX11_order_0 rfl (lv_at hl 0 rfl) ?_
  refine lv_iload_n hX0 hB0 dX11_order_1 rfl (lv_at hl 1 rfl) ?_
  refine lv_iload_n hX0 hB0 dX11_order_2 rfl (lv_at hl 2 rfl) ?_
  refine z_calli hW (va_runV (C := RX11) (As := [.int (zI cv), .int (zI pt)]) (rest := []) CX.fix (zd_lookAt l o M cv pt hP hC (by constructor <;> omega) (by constructor <;> omega)) (cwV 2 CX.fix.2.2.2.2 gX11_order_X11_lookAt rfl rfl rfl (by decide +kernel) ⟨Nat.le_of_ble_eq_true rfl, Nat.le_of_ble_eq_true rfl⟩) (z_preV CX hW (r := (RX11, TX11, 13)) (show f o = _ from hP.c0) rfl) rfl rfl hl.1 rfl (lv_room (Nat.le_of_ble_eq_true rfl)) dX11_order_3 ⟨Nat.zero_le _, Nat.zero_le _⟩) (fun z3 g3 H locs hok hW => ?_)
  obtain ⟨hz3, hp, hc, hfr, hv, hq3⟩ := hok
  obtain ⟨M3, hS3⟩ : ∃ Mq, Mq = (zc_lookAt M cv pt).2 := ⟨_, rfl⟩
  rw [← hS3] at hp hc hv
  try rw [← hS3] at hq3
  have e3 : zc_lookAt M cv pt = (z3, M3) := Prod.ext hz3.symm hS3.symm
  clear hz3 hS3
  have hP3 := hp
  have hC3 := hc
  have hF3 : zFr f g3 o (o + 681) := zFr.trans zFr.refl hfr
  clear hp hc hfr
  have hV3 : zVE M3 M := zVE.tr hv zVE.rf
  have tv3_3 : M3.1 0 3 = M.1 0 3 := hV3.2 0 3 (by omega) (by omega)
  have tv3_4 : M3.1 0 4 = M.1 0 4 := hV3.2 0 4 (by omega) (by omega)
  clear hv
  refine z_if_eq (tgt := 19) CX dX11_order_6 (by decide) (by constructor <;> omega) (fun c_6 => ?_) (fun c_6 => ?_)
  ·
    refine lv_iconst (v := zI (-1)) hX0 hB0 dX11_order_19 rfl ?_
    have hE : zc_order M cv pt = (-1, M3) := by unfold zc_order; exact zlet_e e3 (zif_t c_6 rfl)
    rw [← hQ]
    exact z_iret (z := -1) CX hW (by rw [hE]; exact ⟨rfl, hP3, hC3, hF3, hV3, trivial⟩) rfl dX11_order_20
  ·
    refine lv_aload_n hX0 hB0 dX11_order_9 rfl (lv_at hl 0 rfl) ?_
    refine z_get (Cn := RX11) (T := TX11) (N := 13) CX hW (v := .ref (o + 607)) (show g3 o = _ from hP3.c0) rfl (fun w h => List.mem_cons_of_mem _ (List.mem_append_left _ (List.mem_append_left _ (List.mem_append_left _ (List.mem_append_left _ (List.mem_append_right _ h)))))) 4 (by decide) (List.mem_of_getElem? (i := 1) rfl) rfl rfl dX11_order_10 ?_
    refine z_calli hW (va_runV (C := RX10) (As := []) (rest := []) CX.fix (c_least l (o + 607) (M3.1 0 13) (M3.1 20) (M3.1 21) hP3.c6.1 hP3.c6.2.1 hP3.c6.2.2.1 hP3.c6.2.2.2 hC3.vw.1 hC3.vw.2.1) (cwV 0 CX.fix.2.2.2.2 gX11_order_X10_least rfl rfl rfl (by decide +kernel) ⟨Nat.le_of_ble_eq_true rfl, Nat.le_of_ble_eq_true rfl⟩) (z_preV CX hW (r := (RX10, TX10, 3)) hP3.c6.1 rfl) rfl rfl hl.1 rfl (lv_room (Nat.le_of_ble_eq_true rfl)) dX11_order_13 ⟨Nat.zero_le _, Nat.zero_le _⟩) (fun z13 g13 H locs hok hW => ?_)
    obtain ⟨hz, hg⟩ := hok
    have e13 : zleast (M3.1 20) = z13 := hz.symm
    have hls13 := zleast_rng (M3.1 20)
    rw [e13] at hls13
    rw [hg] at hW
    clear hg
    refine lv_goto (tgt := 20) hX0 hB0 dX11_order_16 (by decide) ?_
    have hE : zc_order M cv pt = (z13, M3) := by unfold zc_order; exact zlet_e e3 (zif_f c_6 (zlet_e e13 rfl))
    rw [← hQ]
    exact z_iret (z := z13) CX hW (by rw [hE]; exact ⟨rfl, hP3, hC3, hF3, hV3, trivial⟩) rfl dX11_order_20
noncomputable def zc_bend (M : zCt) (cv : Int) (pt : Int) : Int × zCt := zlet (zc_lookAt M cv pt) (fun q3 => (fun (z3 : Int) (M3 : zCt) => (if z3 = 0 then (-1, M3) else zlet (zbend (M3.1 20) (M3.1 0 13)) (fun z13 => (z13, M3)))) q3.1 q3.2)
set_option maxRecDepth 100000 in
set_option maxHeartbeats 4000000 in
theorem zd_bend (l : Launch) {D : va_G} {cI cJ cZ cP cS cM : ClassId} {L : List Nat} {sz : Nat} {f : Nat → va_E} (o : Nat) (M : zCt) (cv : Int) (pt : Int) (hP : zCP cI cP cS cZ cM o M f) (hC : zCI M) (hcv : -2147483648 ≤ cv ∧ cv ≤ 2147483647) (hpt : -2147483648 ≤ pt ∧ pt ≤ 2147483647) : zMi l yX11_bend wsX11_bend 6 146 D (zT cI cJ cZ cP cS cM) L sz f [.ref o, .int (zI cv), .int (zI pt)] (fun zv gv => zv = (zc_bend M cv pt).1 ∧ zCP cI cP cS cZ cM o (zc_bend M cv pt).2 gv ∧ zCI (zc_bend M cv pt).2 ∧ zFr f gv o (o + 681) ∧ zVE (zc_bend M cv pt).2 M ∧ True) := by
  refine zWalk.met (nL := 3) (ret := (some .int)) (cc := cX11_bend) (by decide) rfl (Nat.le_of_ble_eq_true rfl) ?_
  intro pg en st mi ag bl mt cd ls CX hW hl
  have CX : zC pg st mi ag mt cd cX11_bend 3 (some .int) RX11 wsX11_bend := CX
  generalize hQ : MQ bl _ ag st 0 0 _ = Q
  have hX0 := CX.1
  have hB0 := CX.2.1
  have hl : lv_has ls 3 [(0, .ref o), (1, .int (zI cv)), (2, .int (zI pt))] := hl
  obtain ⟨H, eH⟩ : ∃ H, H = st.heap := ⟨_, rfl⟩
  obtain ⟨locs, eL⟩ : ∃ L : List Loc, L = [] := ⟨_, rfl⟩
  have hW : zW D (zT cI cJ cZ cP cS cM) L (zQ L sz) st f st.heap H locs := by rw [eH, eL]; exact hW
  suffices hgo : W pg l en ({ frames := 6, cells := 0, slots := 0, locals := 146 } : Room) st mi ag bl mt cd H locs 0 0 Q (F0 mi 0 ls []) by rw [eH, eL] at hgo; exact hgo
  clear eH eL
  have hpb := hC.p
  have hnb := hC.cn
  refine lv_aload_n hX0 hB0 dX11_bend_0 rfl (lv_at hl 0 rfl) ?_
  refine lv_iload_n hX0 hB0 dX11_bend_1 rfl (lv_at hl 1 rfl) ?_
  refine lv_iload_n hX0 hB0 dX11_bend_2 rfl (lv_at hl 2 rfl) ?_
  refine z_calli hW (va_runV (C := RX11) (As := [.int (zI cv), .int (zI pt)]) (rest := []) CX.fix (zd_lookAt l o M cv pt hP hC (by constructor <;> omega) (by constructor <;> omega)) (cwV 2 CX.fix.2.2.2.2 gX11_bend_X11_lookAt rfl rfl rfl (by decide +kernel) ⟨Nat.le_of_ble_eq_true rfl, Nat.le_of_ble_eq_true rfl⟩) (z_preV CX hW (r := (RX11, TX11, 13)) (show f o = _ from hP.c0) rfl) rfl rfl hl.1 rfl (lv_room (Nat.le_of_ble_eq_true rfl)) dX11_bend_3 ⟨Nat.zero_le _, Nat.zero_le _⟩) (fun z3 g3 H locs hok hW => ?_)
  obtain ⟨hz3, hp, hc, hfr, hv, hq3⟩ := hok
  obtain ⟨M3, hS3⟩ : ∃ Mq, Mq = (zc_lookAt M cv pt).2 := ⟨_, rfl⟩
  rw [← hS3] at hp hc hv
  try rw [← hS3] at hq3
  have e3 : zc_lookAt M cv pt = (z3, M3) := Prod.ext hz3.symm hS3.symm
  clear hz3 hS3
  have hP3 := hp
  have hC3 := hc
  have hF3 : zFr f g3 o (o + 681) := zFr.trans zFr.refl hfr
  clear hp hc hfr
  have hV3 : zVE M3 M := zVE.tr hv zVE.rf
  have tv3_3 : M3.1 0 3 = M.1 0 3 := hV3.2 0 3 (by omega) (by omega)
  have tv3_4 : M3.1 0 4 = M.1 0 4 := hV3.2 0 4 (by omega) (by omega)
  clear hv
  refine z_if_eq (tgt := 19) CX dX11_bend_6 (by decide) (by constructor <;> omega) (fun c_6 => ?_) (fun c_6 => ?_)
  ·
    refine lv_iconst (v := zI (-1)) hX0 hB0 dX11_bend_19 rfl ?_
    have hE : zc_bend M cv pt = (-1, M3) := by unfold zc_bend; exact zlet_e e3 (zif_t c_6 rfl)
    rw [← hQ]
    exact z_iret (z := -1) CX hW (by rw [hE]; exact ⟨rfl, hP3, hC3, hF3, hV3, trivial⟩) rfl dX11_bend_20
  ·
    refine lv_aload_n hX0 hB0 dX11_bend_9 rfl (lv_at hl 0 rfl) ?_
    refine z_get (Cn := RX11) (T := TX11) (N := 13) CX hW (v := .ref (o + 607)) (show g3 o = _ from hP3.c0) rfl (fun w h => List.mem_cons_of_mem _ (List.mem_append_left _ (List.mem_append_left _ (List.mem_append_left _ (List.mem_append_left _ (List.mem_append_right _ h)))))) 4 (by decide) (List.mem_of_getElem? (i := 1) rfl) rfl rfl dX11_bend_10 ?_
    refine z_calli hW (va_runV (C := RX10) (As := []) (rest := []) CX.fix (c_bendHere l (o + 607) (M3.1 0 13) (M3.1 20) (M3.1 21) hP3.c6.1 hP3.c6.2.1 hP3.c6.2.2.1 hP3.c6.2.2.2 hC3.vw.1 hC3.vw.2.1) (cwV 0 CX.fix.2.2.2.2 gX11_bend_X10_bendHere rfl rfl rfl (by decide +kernel) ⟨Nat.le_of_ble_eq_true rfl, Nat.le_of_ble_eq_true rfl⟩) (z_preV CX hW (r := (RX10, TX10, 3)) hP3.c6.1 rfl) rfl rfl hl.1 rfl (lv_room (Nat.le_of_ble_eq_true rfl)) dX11_bend_13 ⟨Nat.zero_le _, Nat.zero_le _⟩) (fun z13 g13 H locs hok hW => ?_)
    obtain ⟨hz, hg⟩ := hok
    have e13 : zbend (M3.1 20) (M3.1 0 13) = z13 := hz.symm
    have hbn13 := zbend_rng (M3.1 20) (M3.1 0 13)
    rw [e13] at hbn13
    rw [hg] at hW
    clear hg
    refine lv_goto (tgt := 20) hX0 hB0 dX11_bend_16 (by decide) ?_
    have hE : zc_bend M cv pt = (z13, M3) := by unfold zc_bend; exact zlet_e e3 (zif_f c_6 (zlet_e e13 rfl))
    rw [← hQ]
    exact z_iret (z := z13) CX hW (by rw [hE]; exact ⟨rfl, hP3, hC3, hF3, hV3, trivial⟩) rfl dX11_bend_20
noncomputable def zc_local (M : zCt) (cv : Int) (pt : Int) (i : Int) (j : Int) : Int × zCt := zlet (zc_lookAt M cv pt) (fun q3 => (fun (z3 : Int) (M3 : zCt) => (if z3 = 0 then (-1, M3) else zlet (bI (zfits i j)) (fun z12 => (if z12 = 0 then (-1, M3) else zlet (zat (M3.1 20) i j) (fun z28 => (z28, M3)))))) q3.1 q3.2)
set_option maxRecDepth 100000 in
set_option maxHeartbeats 4000000 in
theorem zd_local (l : Launch) {D : va_G} {cI cJ cZ cP cS cM : ClassId} {L : List Nat} {sz : Nat} {f : Nat → va_E} (o : Nat) (M : zCt) (cv : Int) (pt : Int) (i : Int) (j : Int) (hP : zCP cI cP cS cZ cM o M f) (hC : zCI M) (hcv : -2147483648 ≤ cv ∧ cv ≤ 2147483647) (hpt : -2147483648 ≤ pt ∧ pt ≤ 2147483647) (hi : -2147483648 ≤ i ∧ i ≤ 2147483647) (hj : -2147483648 ≤ j ∧ j ≤ 2147483647) : zMi l yX11_local wsX11_local 6 146 D (zT cI cJ cZ cP cS cM) L sz f [.ref o, .int (zI cv), .int (zI pt), .int (zI i), .int (zI j)] (fun zv gv => zv = (zc_local M cv pt i j).1 ∧ zCP cI cP cS cZ cM o (zc_local M cv pt i j).2 gv ∧ zCI (zc_local M cv pt i j).2 ∧ zFr f gv o (o + 681) ∧ zVE (zc_local M cv pt i j).2 M ∧ True) := by
  refine zWalk.met (nL := 5) (ret := (some .int)) (cc := cX11_local) (by decide) rfl (Nat.le_of_ble_eq_true rfl) ?_
  intro pg en st mi ag bl mt cd ls CX hW hl
  have CX : zC pg st mi ag mt cd cX11_local 5 (some .int) RX11 wsX11_local := CX
  generalize hQ : MQ bl _ ag st 0 0 _ = Q
  have hX0 := CX.1
  have hB0 := CX.2.1
  have hl : lv_has ls 5 [(0, .ref o), (1, .int (zI cv)), (2, .int (zI pt)), (3, .int (zI i)), (4, .int (zI j))] := hl
  obtain ⟨H, eH⟩ : ∃ H, H = st.heap := ⟨_, rfl⟩
  obtain ⟨locs, eL⟩ : ∃ L : List Loc, L = [] := ⟨_, rfl⟩
  have hW : zW D (zT cI cJ cZ cP cS cM) L (zQ L sz) st f st.heap H locs := by rw [eH, eL]; exact hW
  suffices hgo : W pg l en ({ frames := 6, cells := 0, slots := 0, locals := 146 } : Room) st mi ag bl mt cd H locs 0 0 Q (F0 mi 0 ls []) by rw [eH, eL] at hgo; exact hgo
  clear eH eL
  have hpb := hC.p
  have hnb := hC.cn
  refine lv_aload_n hX0 hB0 dX11_local_0 rfl (lv_at hl 0 rfl) ?_
  refine lv_iload_n hX0 hB0 dX11_local_1 rfl (lv_at hl 1 rfl) ?_
  refine lv_iload_n hX0 hB0 dX11_local_2 rfl (lv_at hl 2 rfl) ?_
  refine z_calli hW (va_runV (C := RX11) (As := [.int (zI cv), .int (zI pt)]) (rest := []) CX.fix (zd_lookAt l o M cv pt hP hC (by constructor <;> omega) (by constructor <;> omega)) (cwV 2 CX.fix.2.2.2.2 gX11_local_X11_lookAt rfl rfl rfl (by decide +kernel) ⟨Nat.le_of_ble_eq_true rfl, Nat.le_of_ble_eq_true rfl⟩) (z_preV CX hW (r := (RX11, TX11, 13)) (show f o = _ from hP.c0) rfl) rfl rfl hl.1 rfl (lv_room (Nat.le_of_ble_eq_true rfl)) dX11_local_3 ⟨Nat.zero_le _, Nat.zero_le _⟩) (fun z3 g3 H locs hok hW => ?_)
  obtain ⟨hz3, hp, hc, hfr, hv, hq3⟩ := hok
  obtain ⟨M3, hS3⟩ : ∃ Mq, Mq = (zc_lookAt M cv pt).2 := ⟨_, rfl⟩
  rw [← hS3] at hp hc hv
  try rw [← hS3] at hq3
  have e3 : zc_lookAt M cv pt = (z3, M3) := Prod.ext hz3.symm hS3.symm
  clear hz3 hS3
  have hP3 := hp
  have hC3 := hc
  have hF3 : zFr f g3 o (o + 681) := zFr.trans zFr.refl hfr
  clear hp hc hfr
  have hV3 : zVE M3 M := zVE.tr hv zVE.rf
  have tv3_3 : M3.1 0 3 = M.1 0 3 := hV3.2 0 3 (by omega) (by omega)
  have tv3_4 : M3.1 0 4 = M.1 0 4 := hV3.2 0 4 (by omega) (by omega)
  clear hv
  refine z_if_eq (tgt := 34) CX dX11_local_6 (by decide) (by constructor <;> omega) (fun c_6 => ?_) (fun c_6 => ?_)
  ·
    refine lv_iconst (v := zI (-1)) hX0 hB0 dX11_local_34 rfl ?_
    have hE : zc_local M cv pt i j = (-1, M3) := by unfold zc_local; exact zlet_e e3 (zif_t c_6 rfl)
    rw [← hQ]
    exact z_iret (z := -1) CX hW (by rw [hE]; exact ⟨rfl, hP3, hC3, hF3, hV3, trivial⟩) rfl dX11_local_35
  ·
    refine lv_iload_n hX0 hB0 dX11_local_9 rfl (lv_at hl 3 rfl) ?_
    refine lv_iload hX0 hB0 dX11_local_10 (lv_at hl 4 rfl) ?_
    refine z_calli hW (va_runS (As := [.int (zI i), .int (zI j)]) (rest := []) CX.fix (c_fits l (f := g3) i j (by constructor <;> omega) (by constructor <;> omega)) (va_cwS 2 CX.fix.2.2.2.2 gX11_local_X2_fits rfl rfl rfl (by decide +kernel) ⟨Nat.le_of_ble_eq_true rfl, Nat.le_of_ble_eq_true rfl⟩) (z_preS CX hW) rfl rfl hl.1 rfl (lv_room (Nat.le_of_ble_eq_true rfl)) dX11_local_12 ⟨Nat.zero_le _, Nat.zero_le _⟩) (fun z12 g12 H locs hok hW => ?_)
    obtain ⟨hz, hg⟩ := hok
    have e12 : bI (zfits i j) = z12 := hz.symm
    have hb12 := bI_01 (zfits i j)
    rw [e12] at hb12
    rw [hg] at hW
    clear hg
    refine z_if_eq (tgt := 34) CX dX11_local_15 (by decide) (by constructor <;> omega) (fun c_15 => ?_) (fun c_15 => ?_)
    ·
      refine lv_iconst (v := zI (-1)) hX0 hB0 dX11_local_34 rfl ?_
      have hE : zc_local M cv pt i j = (-1, M3) := by unfold zc_local; exact zlet_e e3 (zif_f c_6 (zlet_e e12 (zif_t c_15 rfl)))
      rw [← hQ]
      exact z_iret (z := -1) CX hW (by rw [hE]; exact ⟨rfl, hP3, hC3, hF3, hV3, trivial⟩) rfl dX11_local_35
    ·
      refine lv_aload_n hX0 hB0 dX11_local_18 rfl (lv_at hl 0 rfl) ?_
      refine z_get (Cn := RX11) (T := TX11) (N := 13) CX hW (v := .ref (o + 607)) (show g3 o = _ from hP3.c0) rfl (fun w h => List.mem_cons_of_mem _ (List.mem_append_left _ (List.mem_append_left _ (List.mem_append_left _ (List.mem_append_left _ (List.mem_append_right _ h)))))) 4 (by decide) (List.mem_of_getElem? (i := 1) rfl) rfl rfl dX11_local_19 ?_
      refine z_get (Cn := RX10) (T := TX10) (N := 3) CX hW (v := .ref (o + 607 + 1)) hP3.c6.1 rfl (fun w h => List.mem_cons_of_mem _ (List.mem_append_left _ (List.mem_append_left _ (List.mem_append_left _ (List.mem_append_right _ h))))) 0 (by decide) (List.mem_of_getElem? (i := 2) rfl) rfl rfl dX11_local_22 ?_
      refine lv_iload_n hX0 hB0 dX11_local_25 rfl (lv_at hl 3 rfl) ?_
      refine lv_iload hX0 hB0 dX11_local_26 (lv_at hl 4 rfl) ?_
      refine z_calli hW (va_runV (C := RX2) (As := [.int (zI i), .int (zI j)]) (rest := []) CX.fix (c_at l (o + 607 + 1) (o + 607 + 2) (M3.1 20) i j hP3.c6.2.1 hP3.c6.2.2.1 (by constructor <;> omega) (by constructor <;> omega)) (cwV 2 CX.fix.2.2.2.2 gX11_local_X2_at rfl rfl rfl (by decide +kernel) ⟨Nat.le_of_ble_eq_true rfl, Nat.le_of_ble_eq_true rfl⟩) (z_preV CX hW (r := (RX2, TX2, 1)) hP3.c6.2.1 rfl) rfl rfl hl.1 rfl (lv_room (Nat.le_of_ble_eq_true rfl)) dX11_local_28 ⟨Nat.zero_le _, Nat.zero_le _⟩) (fun z28 g28 H locs hok hW => ?_)
      obtain ⟨hz, hg⟩ := hok
      have e28 : zat (M3.1 20) i j = z28 := hz.symm
      rw [hg] at hW
      clear hg
      refine lv_goto (tgt := 35) hX0 hB0 dX11_local_31 (by decide) ?_
      have hE : zc_local M cv pt i j = (z28, M3) := by unfold zc_local; exact zlet_e e3 (zif_f c_6 (zlet_e e12 (zif_f c_15 (zlet_e e28 rfl))))
      rw [← hQ]
      exact z_iret (z := z28) CX hW (by rw [hE]; exact ⟨rfl, hP3, hC3, hF3, hV3, trivial⟩) rfl dX11_local_35
noncomputable def zc_tangent_W46 (k : Int) (what : Int) : Nat → Int → Int → Int → zCt → (Int × zCt) ⊕ (Int × Int × Int × zCt)
  | 0, w46, t46, q46, M46 => .inr (w46, t46, q46, M46)
  | fu46 + 1, w46, t46, q46, M46 => (if M46.1 0 3 < q46 then .inr (w46, t46, q46, M46) else zlet ((zoften (M46.1 20) (M46.1 21) q46 (M46.1 0 13)).1) (fun z64 => zlet (zw_often M46 (zoften (M46.1 20) (M46.1 21) q46 (M46.1 0 13)).2) (fun M64 => (if z64 = 0 then zc_tangent_W46 k what fu46 w46 t46 (q46 + 1) M64 else (if w46 = k then (if what = 0 then .inl ((q46, M64)) else .inl ((z64, M64))) else zc_tangent_W46 k what fu46 (w46 + 1) (t46 + z64) (q46 + 1) M64)))))
noncomputable def zc_tangent (M : zCt) (cv : Int) (pt : Int) (k : Int) (what : Int) : Int × zCt := (if what < 0 then (-1, M) else (if 1 < what then (-1, M) else (if k < -1 then (-1, M) else zlet (zc_lookAt M cv pt) (fun q19 => (fun (z19 : Int) (M19 : zCt) => (if z19 = 0 then (-1, M19) else zlet (zleast (M19.1 20)) (fun z29 => (if z29 = 0 then (-1, M19) else zsum (zc_tangent_W46 k what ((35 : Nat)) 0 0 0 M19) (fun r46 => r46) (fun q46 => (fun (w46 : Int) (t46 : Int) (q46 : Int) (M46 : zCt) => (if k = -1 then (if what = 0 then (w46, M46) else (t46, M46)) else (-1, M46))) q46.1 q46.2.1 q46.2.2.1 q46.2.2.2))))) q19.1 q19.2))))
set_option maxRecDepth 100000 in
set_option maxHeartbeats 4000000 in
theorem zd_tangent (l : Launch) {D : va_G} {cI cJ cZ cP cS cM : ClassId} {L : List Nat} {sz : Nat} {f : Nat → va_E} (o : Nat) (M : zCt) (cv : Int) (pt : Int) (k : Int) (what : Int) (hP : zCP cI cP cS cZ cM o M f) (hC : zCI M) (hcv : -2147483648 ≤ cv ∧ cv ≤ 2147483647) (hpt : -2147483648 ≤ pt ∧ pt ≤ 2147483647) (hk : -2147483648 ≤ k ∧ k ≤ 2147483647) (hwhat : -2147483648 ≤ what ∧ what ≤ 2147483647) : zMi l yX11_tangent wsX11_tangent 6 146 D (zT cI cJ cZ cP cS cM) L sz f [.ref o, .int (zI cv), .int (zI pt), .int (zI k), .int (zI what)] (fun zv gv => zv = (zc_tangent M cv pt k what).1 ∧ zCP cI cP cS cZ cM o (zc_tangent M cv pt k what).2 gv ∧ zCI (zc_tangent M cv pt k what).2 ∧ zFr f gv o (o + 681) ∧ zVE (zc_tangent M cv pt k what).2 M ∧ True) := by
  refine zWalk.met (nL := 9) (ret := (some .int)) (cc := cX11_tangent) (by decide) rfl (Nat.le_of_ble_eq_true rfl) ?_
  intro pg en st mi ag bl mt cd ls CX hW hl
  have CX : zC pg st mi ag mt cd cX11_tangent 9 (some .int) RX11 wsX11_tangent := CX
  generalize hQ : MQ bl _ ag st 0 0 _ = Q
  have hX0 := CX.1
  have hB0 := CX.2.1
  have hl : lv_has ls 9 [(0, .ref o), (1, .int (zI cv)), (2, .int (zI pt)), (3, .int (zI k)), (4, .int (zI what))] := hl
  obtain ⟨H, eH⟩ : ∃ H, H = st.heap := ⟨_, rfl⟩
  obtain ⟨locs, eL⟩ : ∃ L : List Loc, L = [] := ⟨_, rfl⟩
  have hW : zW D (zT cI cJ cZ cP cS cM) L (zQ L sz) st f st.heap H locs := by rw [eH, eL]; exact hW
  suffices hgo : W pg l en ({ frames := 6, cells := 0, slots := 0, locals := 146 } : Room) st mi ag bl mt cd H locs 0 0 Q (F0 mi 0 ls []) by rw [eH, eL] at hgo; exact hgo
  clear eH eL
  have hpb := hC.p
  have hnb := hC.cn
  refine lv_iload hX0 hB0 dX11_tangent_0 (lv_at hl 4 rfl) ?_
  refine z_if_lt (tgt := 35) CX dX11_tangent_2 (by decide) (by constructor <;> omega) (fun c_2 => ?_) (fun c_2 => ?_)
  ·
    refine lv_iconst (v := zI (-1)) hX0 hB0 dX11_tangent_35 rfl ?_
    have hE : zc_tangent M cv pt k what = (-1, M) := by unfold zc_tangent; exact zif_t c_2 rfl
    rw [← hQ]
    exact z_iret (z := -1) CX hW (by rw [hE]; exact ⟨rfl, hP, hC, zFr.refl, zVE.rf, trivial⟩) rfl dX11_tangent_36
  ·
    have d_2 : ¬ what < 0 := by omega
    refine lv_iload hX0 hB0 dX11_tangent_5 (lv_at hl 4 rfl) ?_
    refine lv_iconst (v := zI 1) hX0 hB0 dX11_tangent_7 rfl ?_
    refine z_icmp_gt (tgt := 35) CX dX11_tangent_8 (by decide) (by constructor <;> omega) (by constructor <;> omega) (fun c_8 => ?_) (fun c_8 => ?_)
    ·
      refine lv_iconst (v := zI (-1)) hX0 hB0 dX11_tangent_35 rfl ?_
      have hE : zc_tangent M cv pt k what = (-1, M) := by unfold zc_tangent; exact zif_f d_2 (zif_t c_8 rfl)
      rw [← hQ]
      exact z_iret (z := -1) CX hW (by rw [hE]; exact ⟨rfl, hP, hC, zFr.refl, zVE.rf, trivial⟩) rfl dX11_tangent_36
    ·
      have d_8 : ¬ 1 < what := by omega
      refine lv_iload_n hX0 hB0 dX11_tangent_11 rfl (lv_at hl 3 rfl) ?_
      refine lv_iconst (v := zI (-1)) hX0 hB0 dX11_tangent_12 rfl ?_
      refine z_icmp_lt (tgt := 35) CX dX11_tangent_13 (by decide) (by constructor <;> omega) (by constructor <;> omega) (fun c_13 => ?_) (fun c_13 => ?_)
      ·
        refine lv_iconst (v := zI (-1)) hX0 hB0 dX11_tangent_35 rfl ?_
        have hE : zc_tangent M cv pt k what = (-1, M) := by unfold zc_tangent; exact zif_f d_2 (zif_f d_8 (zif_t c_13 rfl))
        rw [← hQ]
        exact z_iret (z := -1) CX hW (by rw [hE]; exact ⟨rfl, hP, hC, zFr.refl, zVE.rf, trivial⟩) rfl dX11_tangent_36
      ·
        have d_13 : ¬ k < -1 := by omega
        refine lv_aload_n hX0 hB0 dX11_tangent_16 rfl (lv_at hl 0 rfl) ?_
        refine lv_iload_n hX0 hB0 dX11_tangent_17 rfl (lv_at hl 1 rfl) ?_
        refine lv_iload_n hX0 hB0 dX11_tangent_18 rfl (lv_at hl 2 rfl) ?_
        refine z_calli hW (va_runV (C := RX11) (As := [.int (zI cv), .int (zI pt)]) (rest := []) CX.fix (zd_lookAt l o M cv pt hP hC (by constructor <;> omega) (by constructor <;> omega)) (cwV 2 CX.fix.2.2.2.2 gX11_tangent_X11_lookAt rfl rfl rfl (by decide +kernel) ⟨Nat.le_of_ble_eq_true rfl, Nat.le_of_ble_eq_true rfl⟩) (z_preV CX hW (r := (RX11, TX11, 13)) (show f o = _ from hP.c0) rfl) rfl rfl hl.1 rfl (lv_room (Nat.le_of_ble_eq_true rfl)) dX11_tangent_19 ⟨Nat.zero_le _, Nat.zero_le _⟩) (fun z19 g19 H locs hok hW => ?_)
        obtain ⟨hz19, hp, hc, hfr, hv, hq19⟩ := hok
        obtain ⟨M19, hS19⟩ : ∃ Mq, Mq = (zc_lookAt M cv pt).2 := ⟨_, rfl⟩
        rw [← hS19] at hp hc hv
        try rw [← hS19] at hq19
        have e19 : zc_lookAt M cv pt = (z19, M19) := Prod.ext hz19.symm hS19.symm
        clear hz19 hS19
        have hP19 := hp
        have hC19 := hc
        have hF19 : zFr f g19 o (o + 681) := zFr.trans zFr.refl hfr
        clear hp hc hfr
        have hV19 : zVE M19 M := zVE.tr hv zVE.rf
        have tv19_3 : M19.1 0 3 = M.1 0 3 := hV19.2 0 3 (by omega) (by omega)
        have tv19_4 : M19.1 0 4 = M.1 0 4 := hV19.2 0 4 (by omega) (by omega)
        clear hv
        refine z_if_eq (tgt := 35) CX dX11_tangent_22 (by decide) (by constructor <;> omega) (fun c_22 => ?_) (fun c_22 => ?_)
        ·
          refine lv_iconst (v := zI (-1)) hX0 hB0 dX11_tangent_35 rfl ?_
          have hE : zc_tangent M cv pt k what = (-1, M19) := by unfold zc_tangent; exact zif_f d_2 (zif_f d_8 (zif_f d_13 (zlet_e e19 (zif_t c_22 rfl))))
          rw [← hQ]
          exact z_iret (z := -1) CX hW (by rw [hE]; exact ⟨rfl, hP19, hC19, hF19, hV19, trivial⟩) rfl dX11_tangent_36
        ·
          refine lv_aload_n hX0 hB0 dX11_tangent_25 rfl (lv_at hl 0 rfl) ?_
          refine z_get (Cn := RX11) (T := TX11) (N := 13) CX hW (v := .ref (o + 607)) (show g19 o = _ from hP19.c0) rfl (fun w h => List.mem_cons_of_mem _ (List.mem_append_left _ (List.mem_append_left _ (List.mem_append_left _ (List.mem_append_left _ (List.mem_append_right _ h)))))) 4 (by decide) (List.mem_of_getElem? (i := 1) rfl) rfl rfl dX11_tangent_26 ?_
          refine z_calli hW (va_runV (C := RX10) (As := []) (rest := []) CX.fix (c_least l (o + 607) (M19.1 0 13) (M19.1 20) (M19.1 21) hP19.c6.1 hP19.c6.2.1 hP19.c6.2.2.1 hP19.c6.2.2.2 hC19.vw.1 hC19.vw.2.1) (cwV 0 CX.fix.2.2.2.2 gX11_tangent_X10_least rfl rfl rfl (by decide +kernel) ⟨Nat.le_of_ble_eq_true rfl, Nat.le_of_ble_eq_true rfl⟩) (z_preV CX hW (r := (RX10, TX10, 3)) hP19.c6.1 rfl) rfl rfl hl.1 rfl (lv_room (Nat.le_of_ble_eq_true rfl)) dX11_tangent_29 ⟨Nat.zero_le _, Nat.zero_le _⟩) (fun z29 g29 H locs hok hW => ?_)
          obtain ⟨hz, hg⟩ := hok
          have e29 : zleast (M19.1 20) = z29 := hz.symm
          have hls29 := zleast_rng (M19.1 20)
          rw [e29] at hls29
          rw [hg] at hW
          clear hg
          refine z_if_ne (tgt := 37) CX dX11_tangent_32 (by decide) (by constructor <;> omega) (fun c_32 => ?_) (fun c_32 => ?_)
          ·
            refine lv_iconst (v := zI 0) hX0 hB0 dX11_tangent_37 rfl ?_
            refine lv_istore (lv' := [(5, .int (zI 0)), (0, .ref o), (1, .int (zI cv)), (2, .int (zI pt)), (3, .int (zI k)), (4, .int (zI what))]) hX0 hB0 dX11_tangent_38 hl (by decide) rfl (fun ls hl => ?_)
            refine lv_iconst (v := zI 0) hX0 hB0 dX11_tangent_40 rfl ?_
            refine lv_istore (lv' := [(6, .int (zI 0)), (5, .int (zI 0)), (0, .ref o), (1, .int (zI cv)), (2, .int (zI pt)), (3, .int (zI k)), (4, .int (zI what))]) hX0 hB0 dX11_tangent_41 hl (by decide) rfl (fun ls hl => ?_)
            refine lv_iconst (v := zI 0) hX0 hB0 dX11_tangent_43 rfl ?_
            refine lv_istore (lv' := [(7, .int (zI 0)), (6, .int (zI 0)), (5, .int (zI 0)), (0, .ref o), (1, .int (zI cv)), (2, .int (zI pt)), (3, .int (zI k)), (4, .int (zI what))]) hX0 hB0 dX11_tangent_44 hl (by decide) rfl (fun ls hl => ?_)
            have hXt46 : ∀ (w46 : Int) (t46 : Int) (q46 : Int) (M46 : zCt) (g46 : Nat → va_E), (zc_tangent_W46 k what ((35 : Nat)) 0 0 0 M19 = .inr (w46, t46, q46, M46) ∧ zCP cI cP cS cZ cM o M46 g46 ∧ zCI M46 ∧ zFr f g46 o (o + 681) ∧ zVE M46 M ∧ 0 ≤ w46 ∧ w46 ≤ 40 ∧ 0 ≤ q46 ∧ q46 ≤ 32 ∧ (w46 ≤ q46)) → ∀ (H : Heap) (locs : List Loc) (ls : Array Slot), zW D (zT cI cJ cZ cP cS cM) L (zQ L sz) st g46 st.heap H locs → lv_has ls 9 [(5, .int (zI w46)), (6, .int (zI t46)), (7, .int (zI q46)), (0, .ref o), (1, .int (zI cv)), (2, .int (zI pt)), (3, .int (zI k)), (4, .int (zI what))] → W pg l en ({ frames := 6, cells := 0, slots := 0, locals := 146 } : Room) st mi ag bl mt cd H locs 0 0 Q (F0 mi 112 ls []) := by
              intro w46 t46 q46 M46 g46 hinv H locs ls hW hl
              obtain ⟨e46, hP46, hC46, hF46, hV46, haw46, hbw46, haq46, hbq46, hv46⟩ := hinv
              have hp46 := hC46.p
              have hn46 := hC46.cn
              have tv46_3 : M46.1 0 3 = M.1 0 3 := hV46.2 0 3 (by omega) (by omega)
              have tv46_4 : M46.1 0 4 = M.1 0 4 := hV46.2 0 4 (by omega) (by omega)
              refine lv_iload_n hX0 hB0 dX11_tangent_112 rfl (lv_at hl 6 rfl) ?_
              refine lv_iconst (v := zI (-1)) hX0 hB0 dX11_tangent_113 rfl ?_
              refine z_icmp_eq (tgt := 119) CX dX11_tangent_114 (by decide) (by constructor <;> omega) (by constructor <;> omega) (fun c_114 => ?_) (fun c_114 => ?_)
              ·
                refine lv_iload hX0 hB0 dX11_tangent_119 (lv_at hl 7 rfl) ?_
                refine z_if_ne (tgt := 129) CX dX11_tangent_121 (by decide) (by constructor <;> omega) (fun c_121 => ?_) (fun c_121 => ?_)
                ·
                  refine lv_iload hX0 hB0 dX11_tangent_129 (lv_at hl 1 rfl) ?_
                  have hE : zc_tangent M cv pt k what = (t46, M46) := by unfold zc_tangent; exact zif_f d_2 (zif_f d_8 (zif_f d_13 (zlet_e e19 (zif_f c_22 (zlet_e e29 (zif_f c_32 (zsum_r e46 (zif_t c_114 (zif_f c_121 rfl)))))))))
                  rw [← hQ]
                  exact z_iret (z := t46) CX hW (by rw [hE]; exact ⟨rfl, hP46, hC46, hF46, hV46, trivial⟩) rfl dX11_tangent_131
                ·
                  refine lv_iload hX0 hB0 dX11_tangent_124 (lv_at hl 0 rfl) ?_
                  refine lv_goto (tgt := 131) hX0 hB0 dX11_tangent_126 (by decide) ?_
                  have hE : zc_tangent M cv pt k what = (w46, M46) := by unfold zc_tangent; exact zif_f d_2 (zif_f d_8 (zif_f d_13 (zlet_e e19 (zif_f c_22 (zlet_e e29 (zif_f c_32 (zsum_r e46 (zif_t c_114 (zif_t c_121 rfl)))))))))
                  rw [← hQ]
                  exact z_iret (z := w46) CX hW (by rw [hE]; exact ⟨rfl, hP46, hC46, hF46, hV46, trivial⟩) rfl dX11_tangent_131
              ·
                refine lv_iconst (v := zI (-1)) hX0 hB0 dX11_tangent_117 rfl ?_
                have hE : zc_tangent M cv pt k what = (-1, M46) := by unfold zc_tangent; exact zif_f d_2 (zif_f d_8 (zif_f d_13 (zlet_e e19 (zif_f c_22 (zlet_e e29 (zif_f c_32 (zsum_r e46 (zif_f c_114 rfl))))))))
                rw [← hQ]
                exact z_iret (z := -1) CX hW (by rw [hE]; exact ⟨rfl, hP46, hC46, hF46, hV46, trivial⟩) rfl dX11_tangent_118
            have hL46 : ∀ (fu : Nat) (w46 : Int) (t46 : Int) (q46 : Int) (M46 : zCt) (g46 : Nat → va_E), (zc_tangent_W46 k what ((35 : Nat)) 0 0 0 M19 = zc_tangent_W46 k what fu w46 t46 q46 M46 ∧ zCP cI cP cS cZ cM o M46 g46 ∧ zCI M46 ∧ zFr f g46 o (o + 681) ∧ zVE M46 M ∧ 0 ≤ w46 ∧ w46 ≤ 40 ∧ 0 ≤ q46 ∧ q46 ≤ 32 ∧ (w46 ≤ q46)) → (34 - q46).toNat < fu → ∀ (H : Heap) (locs : List Loc) (ls : Array Slot), zW D (zT cI cJ cZ cP cS cM) L (zQ L sz) st g46 st.heap H locs → lv_has ls 9 [(5, .int (zI w46)), (6, .int (zI t46)), (7, .int (zI q46)), (0, .ref o), (1, .int (zI cv)), (2, .int (zI pt)), (3, .int (zI k)), (4, .int (zI what))] → W pg l en ({ frames := 6, cells := 0, slots := 0, locals := 146 } : Room) st mi ag bl mt cd H locs 0 0 Q (F0 mi 46 ls []) := by
              intro fu
              induction fu with
              | zero => intro w46 t46 q46 M46 g46 _ hfu; exact absurd hfu (Nat.not_lt_zero _)
              | succ fu ih46 =>
                intro w46 t46 q46 M46 g46 hinv hfu46 H locs ls hW hl
                obtain ⟨hz46, hP46, hC46, hF46, hV46, haw46, hbw46, haq46, hbq46, hv46⟩ := hinv
                have hp46 := hC46.p
                have hn46 := hC46.cn
                have tv46_3 : M46.1 0 3 = M.1 0 3 := hV46.2 0 3 (by omega) (by omega)
                have tv46_4 : M46.1 0 4 = M.1 0 4 := hV46.2 0 4 (by omega) (by omega)
                refine lv_iload hX0 hB0 dX11_tangent_46 (lv_at hl 2 rfl) ?_
                refine lv_aload_n hX0 hB0 dX11_tangent_48 rfl (lv_at hl 3 rfl) ?_
                refine z_get (Cn := RX11) (T := TX11) (N := 13) CX hW (v := .ref (o + 289)) (show g46 o = _ from hP46.c0) rfl (fun w h => List.mem_cons_of_mem _ (List.mem_append_left _ (List.mem_append_left _ (List.mem_append_left _ (List.mem_append_left _ (List.mem_append_right _ h)))))) 1 (by decide) (List.mem_of_getElem? (i := 2) rfl) rfl rfl dX11_tangent_49 ?_
                refine z_get (Cn := RX7) (T := TX7) (N := 4) CX hW (v := .int (zI (M46.1 0 3))) hP46.c3.1 rfl (fun w h => List.mem_cons_of_mem _ (List.mem_append_left _ (List.mem_append_left _ (List.mem_append_left _ (List.mem_append_right _ h))))) 0 (by decide) (List.mem_of_getElem? (i := 3) rfl) rfl rfl dX11_tangent_52 ?_
                have hr52 := hC46.p
                refine z_icmp_gt (tgt := 112) CX dX11_tangent_55 (by decide) (by constructor <;> omega) (by constructor <;> omega) (fun c_55 => ?_) (fun c_55 => ?_)
                ·
                  exact hXt46 w46 t46 q46 M46 g46 ⟨hz46.trans (by rw [zc_tangent_W46]; exact zif_t c_55 rfl), hP46, hC46, hF46, hV46, by omega, by omega, by omega, by omega, by omega⟩ H locs ls hW (lv_sub hl [0, 1, 2, 3, 4, 5, 6, 7] rfl)
                ·
                  have d_55 : ¬ M46.1 0 3 < q46 := by omega
                  refine lv_aload_n hX0 hB0 dX11_tangent_58 rfl (lv_at hl 3 rfl) ?_
                  refine z_get (Cn := RX11) (T := TX11) (N := 13) CX hW (v := .ref (o + 607)) (show g46 o = _ from hP46.c0) rfl (fun w h => List.mem_cons_of_mem _ (List.mem_append_left _ (List.mem_append_left _ (List.mem_append_left _ (List.mem_append_left _ (List.mem_append_right _ h)))))) 4 (by decide) (List.mem_of_getElem? (i := 1) rfl) rfl rfl dX11_tangent_59 ?_
                  refine lv_iload hX0 hB0 dX11_tangent_62 (lv_at hl 2 rfl) ?_
                  refine z_calli hW (va_runV (C := RX10) (As := [.int (zI q46)]) (rest := []) CX.fix (c_oftenTangent l (o + 607) (M46.1 0 13) (M46.1 20) (M46.1 21) q46 hP46.c6.1 hP46.c6.2.1 hP46.c6.2.2.1 hP46.c6.2.2.2 hC46.vw.1 hC46.vw.2.1 hC46.vw.2.2 (by omega)) (cwV 1 CX.fix.2.2.2.2 gX11_tangent_X10_oftenTangent rfl rfl rfl (by decide +kernel) ⟨Nat.le_of_ble_eq_true rfl, Nat.le_of_ble_eq_true rfl⟩) (z_preV CX hW (r := (RX10, TX10, 3)) hP46.c6.1 rfl) rfl rfl hl.1 rfl (lv_room (Nat.le_of_ble_eq_true rfl)) dX11_tangent_64 ⟨Nat.zero_le _, Nat.zero_le _⟩) (fun z64 g64 H locs hok hW => ?_)
                  obtain ⟨hz, hg⟩ := hok
                  have e64 : (zoften (M46.1 20) (M46.1 21) q46 (M46.1 0 13)).1 = z64 := hz.symm
                  have hof64 := zoften_rng (M46.1 20) (M46.1 21) q46 (M46.1 0 13)
                  rw [e64] at hof64
                  obtain ⟨M64, em64⟩ : ∃ Mq, zw_often M46 (zoften (M46.1 20) (M46.1 21) q46 (M46.1 0 13)).2 = Mq := ⟨_, rfl⟩
                  have hP64 : zCP cI cP cS cZ cM o M64 g64 := by rw [← em64]; exact zr_often hP46 hg
                  have hC64 : zCI M64 := by rw [← em64]; exact zi_often hC46 (zoften_can (by have := hC46.vw.1; omega) (by have := hC46.vw.1; omega) (zcan_le hC46.vw.2.1 (by have := hC46.vw.1; omega)) hC46.vw.2.2)
                  have hV64 : zVE M64 M := zVE.tr (by rw [← em64]; exact zv_often) hV46
                  have tv64_3 : M64.1 0 3 = M.1 0 3 := hV64.2 0 3 (by omega) (by omega)
                  have tv64_4 : M64.1 0 4 = M.1 0 4 := hV64.2 0 4 (by omega) (by omega)
                  have hF64 : zFr f g64 o (o + 681) := zFr.trans hF46 (fun q hq => by rw [hg]; exact va_up_ne _ _ (by omega))
                  refine lv_istore (lv' := [(8, .int (zI z64)), (5, .int (zI w46)), (6, .int (zI t46)), (7, .int (zI q46)), (0, .ref o), (1, .int (zI cv)), (2, .int (zI pt)), (3, .int (zI k)), (4, .int (zI what))]) hX0 hB0 dX11_tangent_67 hl (by decide) rfl (fun ls hl => ?_)
                  refine lv_iload hX0 hB0 dX11_tangent_69 (lv_at hl 0 rfl) ?_
                  refine z_if_ne (tgt := 77) CX dX11_tangent_71 (by decide) (by constructor <;> omega) (fun c_71 => ?_) (fun c_71 => ?_)
                  ·
                    refine lv_iload hX0 hB0 dX11_tangent_77 (lv_at hl 1 rfl) ?_
                    refine lv_iload_n hX0 hB0 dX11_tangent_79 rfl (lv_at hl 7 rfl) ?_
                    refine z_icmp_ne (tgt := 96) CX dX11_tangent_80 (by decide) (by constructor <;> omega) (by constructor <;> omega) (fun c_80 => ?_) (fun c_80 => ?_)
                    ·
                      refine lv_iinc (v := zI (w46 + 1)) (lv' := [(5, .int (zI (w46 + 1))), (8, .int (zI z64)), (6, .int (zI t46)), (7, .int (zI q46)), (0, .ref o), (1, .int (zI cv)), (2, .int (zI pt)), (3, .int (zI k)), (4, .int (zI what))]) hX0 hB0 dX11_tangent_96 hl (k := 1) rfl (zI_add _ _) (by decide) rfl (fun ls hl => ?_)
                      refine lv_iload hX0 hB0 dX11_tangent_99 (lv_at hl 2 rfl) ?_
                      refine lv_iload hX0 hB0 dX11_tangent_101 (lv_at hl 1 rfl) ?_
                      refine z_iadd (z := t46 + z64) CX dX11_tangent_103 rfl ?_
                      refine lv_istore (lv' := [(6, .int (zI (t46 + z64))), (5, .int (zI (w46 + 1))), (8, .int (zI z64)), (7, .int (zI q46)), (0, .ref o), (1, .int (zI cv)), (2, .int (zI pt)), (3, .int (zI k)), (4, .int (zI what))]) hX0 hB0 dX11_tangent_104 hl (by decide) rfl (fun ls hl => ?_)
                      refine lv_iinc (v := zI (q46 + 1)) (lv' := [(7, .int (zI (q46 + 1))), (6, .int (zI (t46 + z64))), (5, .int (zI (w46 + 1))), (8, .int (zI z64)), (0, .ref o), (1, .int (zI cv)), (2, .int (zI pt)), (3, .int (zI k)), (4, .int (zI what))]) hX0 hB0 dX11_tangent_106 hl (k := 3) rfl (zI_add _ _) (by decide) rfl (fun ls hl => ?_)
                      refine lv_goto (tgt := 46) hX0 hB0 dX11_tangent_109 (by decide) ?_
                      exact ih46 (w46 + 1) (t46 + z64) (q46 + 1) M64 g64 ⟨hz46.trans (by rw [zc_tangent_W46]; exact zif_f d_55 (zlet_e e64 (zlet_e em64 (zif_f c_71 (zif_f c_80 rfl))))), hP64, hC64, hF64, hV64, by omega, by omega, by omega, by omega, by omega⟩ (by omega) H locs ls hW (lv_sub hl [2, 1, 0, 4, 5, 6, 7, 8] rfl)
                    ·
                      refine lv_iload hX0 hB0 dX11_tangent_83 (lv_at hl 8 rfl) ?_
                      refine z_if_ne (tgt := 93) CX dX11_tangent_85 (by decide) (by constructor <;> omega) (fun c_85 => ?_) (fun c_85 => ?_)
                      ·
                        refine lv_iload hX0 hB0 dX11_tangent_93 (lv_at hl 0 rfl) ?_
                        have hE : zc_tangent M cv pt k what = (z64, M64) := by unfold zc_tangent; exact zif_f d_2 (zif_f d_8 (zif_f d_13 (zlet_e e19 (zif_f c_22 (zlet_e e29 (zif_f c_32 (zsum_l (hz46.trans (by rw [zc_tangent_W46]; exact zif_f d_55 (zlet_e e64 (zlet_e em64 (zif_f c_71 (zif_t c_80 (zif_f c_85 rfl))))))) rfl)))))))
                        rw [← hQ]
                        exact z_iret (z := z64) CX hW (by rw [hE]; exact ⟨rfl, hP64, hC64, hF64, hV64, trivial⟩) rfl dX11_tangent_95
                      ·
                        refine lv_iload hX0 hB0 dX11_tangent_88 (lv_at hl 3 rfl) ?_
                        refine lv_goto (tgt := 95) hX0 hB0 dX11_tangent_90 (by decide) ?_
                        have hE : zc_tangent M cv pt k what = (q46, M64) := by unfold zc_tangent; exact zif_f d_2 (zif_f d_8 (zif_f d_13 (zlet_e e19 (zif_f c_22 (zlet_e e29 (zif_f c_32 (zsum_l (hz46.trans (by rw [zc_tangent_W46]; exact zif_f d_55 (zlet_e e64 (zlet_e em64 (zif_f c_71 (zif_t c_80 (zif_t c_85 rfl))))))) rfl)))))))
                        rw [← hQ]
                        exact z_iret (z := q46) CX hW (by rw [hE]; exact ⟨rfl, hP64, hC64, hF64, hV64, trivial⟩) rfl dX11_tangent_95
                  ·
                    refine lv_goto (tgt := 106) hX0 hB0 dX11_tangent_74 (by decide) ?_
                    refine lv_iinc (v := zI (q46 + 1)) (lv' := [(7, .int (zI (q46 + 1))), (8, .int (zI z64)), (5, .int (zI w46)), (6, .int (zI t46)), (0, .ref o), (1, .int (zI cv)), (2, .int (zI pt)), (3, .int (zI k)), (4, .int (zI what))]) hX0 hB0 dX11_tangent_106 hl (k := 3) rfl (zI_add _ _) (by decide) rfl (fun ls hl => ?_)
                    refine lv_goto (tgt := 46) hX0 hB0 dX11_tangent_109 (by decide) ?_
                    exact ih46 w46 t46 (q46 + 1) M64 g64 ⟨hz46.trans (by rw [zc_tangent_W46]; exact zif_f d_55 (zlet_e e64 (zlet_e em64 (zif_t c_71 rfl)))), hP64, hC64, hF64, hV64, by omega, by omega, by omega, by omega, by omega⟩ (by omega) H locs ls hW (lv_sub hl [2, 3, 0, 4, 5, 6, 7, 8] rfl)
            exact hL46 _ 0 0 0 M19 g19 ⟨rfl, hP19, hC19, hF19, hV19, by omega, by omega, by omega, by omega, by omega⟩ (by omega) H locs ls hW (lv_sub hl [2, 1, 0, 3, 4, 5, 6, 7] rfl)
          ·
            refine lv_iconst (v := zI (-1)) hX0 hB0 dX11_tangent_35 rfl ?_
            have hE : zc_tangent M cv pt k what = (-1, M19) := by unfold zc_tangent; exact zif_f d_2 (zif_f d_8 (zif_f d_13 (zlet_e e19 (zif_f c_22 (zlet_e e29 (zif_t c_32 rfl))))))
            rw [← hQ]
            exact z_iret (z := -1) CX hW (by rw [hE]; exact ⟨rfl, hP19, hC19, hF19, hV19, trivial⟩) rfl dX11_tangent_36
noncomputable def zc_genus_W47 (cv : Int) (z39 : Int) : Nat → Int → Int → zCt → Int × Int × zCt
  | 0, v47, q47, M47 => (v47, q47, M47)
  | fu47 + 1, v47, q47, M47 => (if z39 ≤ q47 then (v47, q47, M47) else zlet (zc_hasTrait M47 cv q47 1) (fun q59 => (fun (z59 : Int) (M59 : zCt) => (if z59 = 0 then zc_genus_W47 cv z39 fu47 v47 (q47 + 1) M59 else zlet (zleast (M59.1 20)) (fun z69 => zc_genus_W47 cv z39 fu47 (v47 - (Int.tdiv (z69 * (z69 - 1)) 2)) (q47 + 1) M59))) q59.1 q59.2))
noncomputable def zc_genus (M : zCt) (cv : Int) : Int × zCt := (if 0 ≤ cv ∧ cv < M.1 0 4 ∧ cv < 6 then zlet (ztop (M.2.1 cv.toNat)) (fun z17 => zlet (zmany (M.1 0 3)) (fun z39 => zlet (zc_genus_W47 cv z39 ((995 : Nat)) (Int.tdiv ((z17 - 1) * (z17 - 2)) 2) 0 M) (fun q47 => (fun (v47 : Int) (q47 : Int) (M47 : zCt) => (v47, M47)) q47.1 q47.2.1 q47.2.2))) else (-100, M))
set_option maxRecDepth 100000 in
set_option maxHeartbeats 4000000 in
theorem zd_genus (l : Launch) {D : va_G} {cI cJ cZ cP cS cM : ClassId} {L : List Nat} {sz : Nat} {f : Nat → va_E} (o : Nat) (M : zCt) (cv : Int) (hP : zCP cI cP cS cZ cM o M f) (hC : zCI M) (hcv : -2147483648 ≤ cv ∧ cv ≤ 2147483647) : zMi l yX11_genus wsX11_genus 6 147 D (zT cI cJ cZ cP cS cM) L sz f [.ref o, .int (zI cv)] (fun zv gv => zv = (zc_genus M cv).1 ∧ zCP cI cP cS cZ cM o (zc_genus M cv).2 gv ∧ zCI (zc_genus M cv).2 ∧ zFr f gv o (o + 681) ∧ zVE (zc_genus M cv).2 M ∧ True) := by
  refine zWalk.met (nL := 8) (ret := (some .int)) (cc := cX11_genus) (by decide) rfl (Nat.le_of_ble_eq_true rfl) ?_
  intro pg en st mi ag bl mt cd ls CX hW hl
  have CX : zC pg st mi ag mt cd cX11_genus 8 (some .int) RX11 wsX11_genus := CX
  generalize hQ : MQ bl _ ag st 0 0 _ = Q
  have hX0 := CX.1
  have hB0 := CX.2.1
  have hl : lv_has ls 8 [(0, .ref o), (1, .int (zI cv))] := hl
  obtain ⟨H, eH⟩ : ∃ H, H = st.heap := ⟨_, rfl⟩
  obtain ⟨locs, eL⟩ : ∃ L : List Loc, L = [] := ⟨_, rfl⟩
  have hW : zW D (zT cI cJ cZ cP cS cM) L (zQ L sz) st f st.heap H locs := by rw [eH, eL]; exact hW
  suffices hgo : W pg l en ({ frames := 6, cells := 0, slots := 0, locals := 147 } : Room) st mi ag bl mt cd H locs 0 0 Q (F0 mi 0 ls []) by rw [eH, eL] at hgo; exact hgo
  clear eH eL
  have hpb := hC.p
  have hnb := hC.cn
  refine lv_aload_n hX0 hB0 dX11_genus_0 rfl (lv_at hl 0 rfl) ?_
  refine z_get (Cn := RX11) (T := TX11) (N := 13) CX hW (v := .ref (o + 289)) (show f o = _ from hP.c0) rfl (fun w h => List.mem_cons_of_mem _ (List.mem_append_left _ (List.mem_append_left _ (List.mem_append_left _ (List.mem_append_left _ (List.mem_append_right _ h)))))) 1 (by decide) (List.mem_of_getElem? (i := 1) rfl) rfl rfl dX11_genus_1 ?_
  refine lv_iload_n hX0 hB0 dX11_genus_4 rfl (lv_at hl 1 rfl) ?_
  refine z_callr hW (va_runV (C := RX7) (As := [.int (zI cv)]) (rest := []) CX.fix (c_find l (o + 289) (M.1 0 3) (M.1 0 4) M.2.1 (M.1 3) cv hP.c3 (by omega) (by constructor <;> omega)) (cwV 1 CX.fix.2.2.2.2 gX11_genus_X7_find rfl rfl rfl (by decide +kernel) ⟨Nat.le_of_ble_eq_true rfl, Nat.le_of_ble_eq_true rfl⟩) (z_preV CX hW (r := (RX7, TX7, 4)) hP.c3.1 rfl) rfl rfl hl.1 rfl (lv_room (Nat.le_of_ble_eq_true rfl)) dX11_genus_5 ⟨Nat.zero_le _, Nat.zero_le _⟩) (fun z5 g5 H locs hok hW => ?_)
  obtain ⟨hz, hg⟩ := hok
  rw [hz]
  rw [hg] at hW
  clear hg
  by_cases cf_cv_8 : 0 ≤ cv ∧ cv < M.1 0 4 ∧ cv < 6
  ·
    have hzf := zfind_p (a := o + 289) cf_cv_8
    rw [hzf]
    clear hzf
    refine lv_astore_n (lv' := [(2, .ref (o + 289 + 3 + 2 * cv.toNat)), (0, .ref o), (1, .int (zI cv))]) hX0 hB0 dX11_genus_8 rfl hl (by decide) rfl (fun ls hl => ?_)
    refine lv_aload_n hX0 hB0 dX11_genus_9 rfl (lv_at hl 0 rfl) ?_
    refine lv_ifnonnull (tgt := 16) hX0 hB0 dX11_genus_10 (by decide) ?_
    refine lv_aload_n hX0 hB0 dX11_genus_16 rfl (lv_at hl 0 rfl) ?_
    refine z_calli hW (va_runV (C := RX2) (As := []) (rest := []) CX.fix (c_top l (o + 289 + 3 + 2 * cv.toNat) (o + 289 + 3 + 2 * cv.toNat + 1) (M.2.1 cv.toNat) (hP.poly (k := cv.toNat) (by omega)).1 (hP.poly (k := cv.toNat) (by omega)).2 (hC.poly31 (k := cv) (by omega) (by omega))) (cwV 0 CX.fix.2.2.2.2 gX11_genus_X2_top rfl rfl rfl (by decide +kernel) ⟨Nat.le_of_ble_eq_true rfl, Nat.le_of_ble_eq_true rfl⟩) (z_preV CX hW (r := (RX2, TX2, 1)) (hP.poly (k := cv.toNat) (by omega)).1 rfl) rfl rfl hl.1 rfl (lv_room (Nat.le_of_ble_eq_true rfl)) dX11_genus_17 ⟨Nat.zero_le _, Nat.zero_le _⟩) (fun z17 g17 H locs hok hW => ?_)
    obtain ⟨hz, hg⟩ := hok
    have e17 : ztop (M.2.1 cv.toNat) = z17 := hz.symm
    have htp17 := ztop_rng (M.2.1 cv.toNat)
    rw [e17] at htp17
    rw [hg] at hW
    clear hg
    refine lv_istore_n (lv' := [(3, .int (zI z17)), (2, .ref (o + 289 + 3 + 2 * cv.toNat)), (0, .ref o), (1, .int (zI cv))]) hX0 hB0 dX11_genus_20 rfl hl (by decide) rfl (fun ls hl => ?_)
    refine lv_iload_n hX0 hB0 dX11_genus_21 rfl (lv_at hl 0 rfl) ?_
    refine lv_iconst (v := zI 1) hX0 hB0 dX11_genus_22 rfl ?_
    refine z_isub (z := z17 - 1) CX dX11_genus_23 rfl ?_
    refine lv_iload_n hX0 hB0 dX11_genus_24 rfl (lv_at hl 0 rfl) ?_
    refine lv_iconst (v := zI 2) hX0 hB0 dX11_genus_25 rfl ?_
    refine z_isub (z := z17 - 2) CX dX11_genus_26 rfl ?_
    refine z_imul (z := (z17 - 1) * (z17 - 2)) CX dX11_genus_27 rfl ?_
    have hm27 := zbox_mul (a := z17 - 1) (b := z17 - 2) (A := 7) (B := 6) (by constructor <;> omega) (by constructor <;> omega) (C := 42) (by decide)
    refine lv_iconst (v := zI 2) hX0 hB0 dX11_genus_28 rfl ?_
    refine z_idiv (z := Int.tdiv ((z17 - 1) * (z17 - 2)) 2) CX dX11_genus_29 (by constructor <;> omega) (by constructor <;> omega) rfl ?_
    refine lv_istore (lv' := [(4, .int (zI (Int.tdiv ((z17 - 1) * (z17 - 2)) 2))), (3, .int (zI z17)), (2, .ref (o + 289 + 3 + 2 * cv.toNat)), (0, .ref o), (1, .int (zI cv))]) hX0 hB0 dX11_genus_30 hl (by decide) rfl (fun ls hl => ?_)
    refine lv_aload_n hX0 hB0 dX11_genus_32 rfl (lv_at hl 3 rfl) ?_
    refine z_get (Cn := RX11) (T := TX11) (N := 13) CX hW (v := .ref (o + 289)) (show f o = _ from hP.c0) rfl (fun w h => List.mem_cons_of_mem _ (List.mem_append_left _ (List.mem_append_left _ (List.mem_append_left _ (List.mem_append_left _ (List.mem_append_right _ h)))))) 1 (by decide) (List.mem_of_getElem? (i := 1) rfl) rfl rfl dX11_genus_33 ?_
    refine z_get (Cn := RX7) (T := TX7) (N := 4) CX hW (v := .int (zI (M.1 0 3))) hP.c3.1 rfl (fun w h => List.mem_cons_of_mem _ (List.mem_append_left _ (List.mem_append_left _ (List.mem_append_left _ (List.mem_append_right _ h))))) 0 (by decide) (List.mem_of_getElem? (i := 2) rfl) rfl rfl dX11_genus_36 ?_
    have hr36 := hC.p
    refine z_calli hW (va_runS (As := [.int (zI (M.1 0 3))]) (rest := []) CX.fix (c_howMany l (f := f) (M.1 0 3)) (va_cwS 1 CX.fix.2.2.2.2 gX11_genus_X9_howMany rfl rfl rfl (by decide +kernel) ⟨Nat.le_of_ble_eq_true rfl, Nat.le_of_ble_eq_true rfl⟩) (z_preS CX hW) rfl rfl hl.1 rfl (lv_room (Nat.le_of_ble_eq_true rfl)) dX11_genus_39 ⟨Nat.zero_le _, Nat.zero_le _⟩) (fun z39 g39 H locs hok hW => ?_)
    obtain ⟨hz, hg⟩ := hok
    have e39 : zmany (M.1 0 3) = z39 := hz.symm
    have hmy39 := zmany_rng (p := (M.1 0 3)) (by omega)
    rw [e39] at hmy39
    rw [hg] at hW
    clear hg
    refine lv_istore (lv' := [(5, .int (zI z39)), (4, .int (zI (Int.tdiv ((z17 - 1) * (z17 - 2)) 2))), (3, .int (zI z17)), (2, .ref (o + 289 + 3 + 2 * cv.toNat)), (0, .ref o), (1, .int (zI cv))]) hX0 hB0 dX11_genus_42 hl (by decide) rfl (fun ls hl => ?_)
    refine lv_iconst (v := zI 0) hX0 hB0 dX11_genus_44 rfl ?_
    refine lv_istore (lv' := [(6, .int (zI 0)), (5, .int (zI z39)), (4, .int (zI (Int.tdiv ((z17 - 1) * (z17 - 2)) 2))), (3, .int (zI z17)), (2, .ref (o + 289 + 3 + 2 * cv.toNat)), (0, .ref o), (1, .int (zI cv))]) hX0 hB0 dX11_genus_45 hl (by decide) rfl (fun ls hl => ?_)
    have hXt47 : ∀ (v47 : Int) (q47 : Int) (M47 : zCt) (g47 : Nat → va_E), (zc_genus_W47 cv z39 ((995 : Nat)) (Int.tdiv ((z17 - 1) * (z17 - 2)) 2) 0 M = (v47, q47, M47) ∧ zCP cI cP cS cZ cM o M47 g47 ∧ zCI M47 ∧ zFr f g47 o (o + 681) ∧ zVE M47 M ∧ 0 ≤ q47 ∧ q47 ≤ 993) → ∀ (H : Heap) (locs : List Loc) (ls : Array Slot), zW D (zT cI cJ cZ cP cS cM) L (zQ L sz) st g47 st.heap H locs → lv_has ls 8 [(4, .int (zI v47)), (6, .int (zI q47)), (5, .int (zI z39)), (3, .int (zI z17)), (2, .ref (o + 289 + 3 + 2 * cv.toNat)), (0, .ref o), (1, .int (zI cv))] → W pg l en ({ frames := 6, cells := 0, slots := 0, locals := 147 } : Room) st mi ag bl mt cd H locs 0 0 Q (F0 mi 94 ls []) := by
      intro v47 q47 M47 g47 hinv H locs ls hW hl
      obtain ⟨e47, hP47, hC47, hF47, hV47, haq47, hbq47⟩ := hinv
      have hp47 := hC47.p
      have hn47 := hC47.cn
      have tv47_3 : M47.1 0 3 = M.1 0 3 := hV47.2 0 3 (by omega) (by omega)
      have tv47_4 : M47.1 0 4 = M.1 0 4 := hV47.2 0 4 (by omega) (by omega)
      refine lv_iload hX0 hB0 dX11_genus_94 (lv_at hl 0 rfl) ?_
      have hE : zc_genus M cv = (v47, M47) := by unfold zc_genus; exact zif_t cf_cv_8 (zlet_e e17 (zlet_e e39 (zlet_e e47 rfl)))
      rw [← hQ]
      exact z_iret (z := v47) CX hW (by rw [hE]; exact ⟨rfl, hP47, hC47, hF47, hV47, trivial⟩) rfl dX11_genus_96
    have hL47 : ∀ (fu : Nat) (v47 : Int) (q47 : Int) (M47 : zCt) (g47 : Nat → va_E), (zc_genus_W47 cv z39 ((995 : Nat)) (Int.tdiv ((z17 - 1) * (z17 - 2)) 2) 0 M = zc_genus_W47 cv z39 fu v47 q47 M47 ∧ zCP cI cP cS cZ cM o M47 g47 ∧ zCI M47 ∧ zFr f g47 o (o + 681) ∧ zVE M47 M ∧ 0 ≤ q47 ∧ q47 ≤ 993) → (994 - q47).toNat < fu → ∀ (H : Heap) (locs : List Loc) (ls : Array Slot), zW D (zT cI cJ cZ cP cS cM) L (zQ L sz) st g47 st.heap H locs → lv_has ls 8 [(4, .int (zI v47)), (6, .int (zI q47)), (5, .int (zI z39)), (3, .int (zI z17)), (2, .ref (o + 289 + 3 + 2 * cv.toNat)), (0, .ref o), (1, .int (zI cv))] → W pg l en ({ frames := 6, cells := 0, slots := 0, locals := 147 } : Room) st mi ag bl mt cd H locs 0 0 Q (F0 mi 47 ls []) := by
      intro fu
      induction fu with
      | zero => intro v47 q47 M47 g47 _ hfu; exact absurd hfu (Nat.not_lt_zero _)
      | succ fu ih47 =>
        intro v47 q47 M47 g47 hinv hfu47 H locs ls hW hl
        obtain ⟨hz47, hP47, hC47, hF47, hV47, haq47, hbq47⟩ := hinv
        have hp47 := hC47.p
        have hn47 := hC47.cn
        have tv47_3 : M47.1 0 3 = M.1 0 3 := hV47.2 0 3 (by omega) (by omega)
        have tv47_4 : M47.1 0 4 = M.1 0 4 := hV47.2 0 4 (by omega) (by omega)
        refine lv_iload hX0 hB0 dX11_genus_47 (lv_at hl 1 rfl) ?_
        refine lv_iload hX0 hB0 dX11_genus_49 (lv_at hl 2 rfl) ?_
        refine z_icmp_ge (tgt := 94) CX dX11_genus_51 (by decide) (by constructor <;> omega) (by constructor <;> omega) (fun c_51 => ?_) (fun c_51 => ?_)
        ·
          exact hXt47 v47 q47 M47 g47 ⟨hz47.trans (by rw [zc_genus_W47]; exact zif_t c_51 rfl), hP47, hC47, hF47, hV47, by omega, by omega⟩ H locs ls hW (lv_sub hl [0, 1, 2, 3, 4, 5, 6] rfl)
        ·
          have d_51 : ¬ z39 ≤ q47 := by omega
          refine lv_aload_n hX0 hB0 dX11_genus_54 rfl (lv_at hl 5 rfl) ?_
          refine lv_aload_n hX0 hB0 dX11_genus_55 rfl (lv_at hl 4 rfl) ?_
          refine lv_iload hX0 hB0 dX11_genus_56 (lv_at hl 1 rfl) ?_
          refine lv_iconst (v := zI 1) hX0 hB0 dX11_genus_58 rfl ?_
          refine z_calli hW (va_runV (C := RX11) (As := [.ref (o + 289 + 3 + 2 * cv.toNat), .int (zI q47), .int (zI 1)]) (rest := []) CX.fix (zd_hasTrait l o M47 cv q47 1 hP47 hC47 (by constructor <;> omega) (by constructor <;> omega) (by constructor <;> omega)) (cwV 3 CX.fix.2.2.2.2 gX11_genus_X11_hasTrait rfl rfl rfl (by decide +kernel) ⟨Nat.le_of_ble_eq_true rfl, Nat.le_of_ble_eq_true rfl⟩) (z_preV CX hW (r := (RX11, TX11, 13)) (show g47 o = _ from hP47.c0) rfl) rfl rfl hl.1 rfl (lv_room (Nat.le_of_ble_eq_true rfl)) dX11_genus_59 ⟨Nat.zero_le _, Nat.zero_le _⟩) (fun z59 g59 H locs hok hW => ?_)
          obtain ⟨hz59, hp, hc, hfr, hv, hq59⟩ := hok
          obtain ⟨M59, hS59⟩ : ∃ Mq, Mq = (zc_hasTrait M47 cv q47 1).2 := ⟨_, rfl⟩
          rw [← hS59] at hp hc hv
          try rw [← hS59] at hq59
          have e59 : zc_hasTrait M47 cv q47 1 = (z59, M59) := Prod.ext hz59.symm hS59.symm
          clear hz59 hS59
          have hP59 := hp
          have hC59 := hc
          have hF59 : zFr f g59 o (o + 681) := zFr.trans hF47 hfr
          clear hp hc hfr
          have hV59 : zVE M59 M := zVE.tr hv hV47
          have tv59_3 : M59.1 0 3 = M.1 0 3 := hV59.2 0 3 (by omega) (by omega)
          have tv59_4 : M59.1 0 4 = M.1 0 4 := hV59.2 0 4 (by omega) (by omega)
          clear hv
          refine z_if_eq (tgt := 88) CX dX11_genus_62 (by decide) (by constructor <;> omega) (fun c_62 => ?_) (fun c_62 => ?_)
          ·
            refine lv_iinc (v := zI (q47 + 1)) (lv' := [(6, .int (zI (q47 + 1))), (4, .int (zI v47)), (5, .int (zI z39)), (3, .int (zI z17)), (2, .ref (o + 289 + 3 + 2 * cv.toNat)), (0, .ref o), (1, .int (zI cv))]) hX0 hB0 dX11_genus_88 hl (k := 1) rfl (zI_add _ _) (by decide) rfl (fun ls hl => ?_)
            refine lv_goto (tgt := 47) hX0 hB0 dX11_genus_91 (by decide) ?_
            exact ih47 v47 (q47 + 1) M59 g59 ⟨hz47.trans (by rw [zc_genus_W47]; exact zif_f d_51 (zlet_e e59 (zif_t c_62 rfl))), hP59, hC59, hF59, hV59, by omega, by omega⟩ (by omega) H locs ls hW (lv_sub hl [1, 0, 2, 3, 4, 5, 6] rfl)
          ·
            refine lv_aload_n hX0 hB0 dX11_genus_65 rfl (lv_at hl 5 rfl) ?_
            refine z_get (Cn := RX11) (T := TX11) (N := 13) CX hW (v := .ref (o + 607)) (show g59 o = _ from hP59.c0) rfl (fun w h => List.mem_cons_of_mem _ (List.mem_append_left _ (List.mem_append_left _ (List.mem_append_left _ (List.mem_append_left _ (List.mem_append_right _ h)))))) 4 (by decide) (List.mem_of_getElem? (i := 3) rfl) rfl rfl dX11_genus_66 ?_
            refine z_calli hW (va_runV (C := RX10) (As := []) (rest := []) CX.fix (c_least l (o + 607) (M59.1 0 13) (M59.1 20) (M59.1 21) hP59.c6.1 hP59.c6.2.1 hP59.c6.2.2.1 hP59.c6.2.2.2 hC59.vw.1 hC59.vw.2.1) (cwV 0 CX.fix.2.2.2.2 gX11_genus_X10_least rfl rfl rfl (by decide +kernel) ⟨Nat.le_of_ble_eq_true rfl, Nat.le_of_ble_eq_true rfl⟩) (z_preV CX hW (r := (RX10, TX10, 3)) hP59.c6.1 rfl) rfl rfl hl.1 rfl (lv_room (Nat.le_of_ble_eq_true rfl)) dX11_genus_69 ⟨Nat.zero_le _, Nat.zero_le _⟩) (fun z69 g69 H locs hok hW => ?_)
            obtain ⟨hz, hg⟩ := hok
            have e69 : zleast (M59.1 20) = z69 := hz.symm
            have hls69 := zleast_rng (M59.1 20)
            rw [e69] at hls69
            rw [hg] at hW
            clear hg
            refine lv_istore (lv' := [(7, .int (zI z69)), (4, .int (zI v47)), (6, .int (zI q47)), (5, .int (zI z39)), (3, .int (zI z17)), (2, .ref (o + 289 + 3 + 2 * cv.toNat)), (0, .ref o), (1, .int (zI cv))]) hX0 hB0 dX11_genus_72 hl (by decide) rfl (fun ls hl => ?_)
            refine lv_iload hX0 hB0 dX11_genus_74 (lv_at hl 1 rfl) ?_
            refine lv_iload hX0 hB0 dX11_genus_76 (lv_at hl 0 rfl) ?_
            refine lv_iload hX0 hB0 dX11_genus_78 (lv_at hl 0 rfl) ?_
            refine lv_iconst (v := zI 1) hX0 hB0 dX11_genus_80 rfl ?_
            refine z_isub (z := z69 - 1) CX dX11_genus_81 rfl ?_
            refine z_imul (z := z69 * (z69 - 1)) CX dX11_genus_82 rfl ?_
            have hm82 := zbox_mul (a := z69) (b := z69 - 1) (A := 4) (B := 3) (by constructor <;> omega) (by constructor <;> omega) (C := 12) (by decide)
            refine lv_iconst (v := zI 2) hX0 hB0 dX11_genus_83 rfl ?_
            refine z_idiv (z := Int.tdiv (z69 * (z69 - 1)) 2) CX dX11_genus_84 (by constructor <;> omega) (by constructor <;> omega) rfl ?_
            refine z_isub (z := v47 - (Int.tdiv (z69 * (z69 - 1)) 2)) CX dX11_genus_85 rfl ?_
            refine lv_istore (lv' := [(4, .int (zI (v47 - (Int.tdiv (z69 * (z69 - 1)) 2)))), (7, .int (zI z69)), (6, .int (zI q47)), (5, .int (zI z39)), (3, .int (zI z17)), (2, .ref (o + 289 + 3 + 2 * cv.toNat)), (0, .ref o), (1, .int (zI cv))]) hX0 hB0 dX11_genus_86 hl (by decide) rfl (fun ls hl => ?_)
            refine lv_iinc (v := zI (q47 + 1)) (lv' := [(6, .int (zI (q47 + 1))), (4, .int (zI (v47 - (Int.tdiv (z69 * (z69 - 1)) 2)))), (7, .int (zI z69)), (5, .int (zI z39)), (3, .int (zI z17)), (2, .ref (o + 289 + 3 + 2 * cv.toNat)), (0, .ref o), (1, .int (zI cv))]) hX0 hB0 dX11_genus_88 hl (k := 2) rfl (zI_add _ _) (by decide) rfl (fun ls hl => ?_)
            refine lv_goto (tgt := 47) hX0 hB0 dX11_genus_91 (by decide) ?_
            exact ih47 (v47 - (Int.tdiv (z69 * (z69 - 1)) 2)) (q47 + 1) M59 g59 ⟨hz47.trans (by rw [zc_genus_W47]; exact zif_f d_51 (zlet_e e59 (zif_f c_62 (zlet_e e69 rfl)))), hP59, hC59, hF59, hV59, by omega, by omega⟩ (by omega) H locs ls hW (lv_sub hl [1, 0, 3, 4, 5, 6, 7] rfl)
    exact hL47 _ (Int.tdiv ((z17 - 1) * (z17 - 2)) 2) 0 M f ⟨rfl, hP, hC, zFr.refl, zVE.rf, by omega, by omega⟩ (by omega) H locs ls hW (lv_sub hl [2, 0, 1, 3, 4, 5, 6] rfl)
  ·
    have hzf := zfind_n (a := o + 289) cf_cv_8
    rw [hzf]
    clear hzf
    refine lv_astore_nN (lv' := [(2, .null), (0, .ref o), (1, .int (zI cv))]) hX0 hB0 dX11_genus_8 rfl hl (by decide) rfl (fun ls hl => ?_)
    refine lv_aload_nN hX0 hB0 dX11_genus_9 rfl (lv_at hl 0 rfl) ?_
    refine lv_ifnonnullN hX0 hB0 dX11_genus_10 ?_
    refine lv_bipush (v := zI (-100)) hX0 hB0 dX11_genus_13 (by decide) ?_
    have hE : zc_genus M cv = (-100, M) := by unfold zc_genus; exact zif_f cf_cv_8 rfl
    rw [← hQ]
    exact z_iret (z := -100) CX hW (by rw [hE]; exact ⟨rfl, hP, hC, zFr.refl, zVE.rf, trivial⟩) rfl dX11_genus_15
end ZCi
