section ZCj
noncomputable def zc_common (M : zCt) (a : Int) (b : Int) : Int × zCt := (if 0 ≤ a ∧ a < M.1 0 4 ∧ a < 6 then (if 0 ≤ b ∧ b < M.1 0 4 ∧ b < 6 then zlet (zw_common M (M.2.1 a.toNat) (M.2.1 b.toNat) (M.1 0 3)) (fun M46 => zlet (ztop (M46.1 24)) (fun z49 => (z49, M46))) else (-1, M)) else (if 0 ≤ b ∧ b < M.1 0 4 ∧ b < 6 then (-1, M) else (-1, M)))
set_option maxRecDepth 100000 in
set_option maxHeartbeats 4000000 in
theorem zd_common (l : Launch) {D : va_G} {cI cJ cZ cP cS cM : ClassId} {L : List Nat} {sz : Nat} {f : Nat → va_E} (o : Nat) (M : zCt) (a : Int) (b : Int) (hP : zCP cI cP cS cZ cM o M f) (hC : zCI M) (ha : -2147483648 ≤ a ∧ a ≤ 2147483647) (hb : -2147483648 ≤ b ∧ b ≤ 2147483647) : zMi l yX11_common wsX11_common 5 122 D (zT cI cJ cZ cP cS cM) L sz f [.ref o, .int (zI a), .int (zI b)] (fun zv gv => zv = (zc_common M a b).1 ∧ zCP cI cP cS cZ cM o (zc_common M a b).2 gv ∧ zCI (zc_common M a b).2 ∧ zFr f gv o (o + 681) ∧ zVE (zc_common M a b).2 M ∧ True) := by
  refine zWalk.met (nL := 5) (ret := (some .int)) (cc := cX11_common) (by decide) rfl (Nat.le_of_ble_eq_true rfl) ?_
  intro pg en st mi ag bl mt cd ls CX hW hl
  have CX : zC pg st mi ag mt cd cX11_common 5 (some .int) RX11 wsX11_common := CX
  generalize hQ : MQ bl _ ag st 0 0 _ = Q
  have hX0 := CX.1
  have hB0 := CX.2.1
  have hl : lv_has ls 5 [(0, .ref o), (1, .int (zI a)), (2, .int (zI b))] := hl
  obtain ⟨H, eH⟩ : ∃ H, H = st.heap := ⟨_, rfl⟩
  obtain ⟨locs, eL⟩ : ∃ L : List Loc, L = [] := ⟨_, rfl⟩
  have hW : zW D (zT cI cJ cZ cP cS cM) L (zQ L sz) st f st.heap H locs := by rw [eH, eL]; exact hW
  suffices hgo : W pg l en ({ frames := 5, cells := 0, slots := 0, locals := 122 } : Room) st mi ag bl mt cd H locs 0 0 Q (F0 mi 0 ls []) by rw [eH, eL] at hgo; exact hgo
  clear eH eL
  have hpb := hC.p
  have hnb := hC.cn
  refine lv_aload_n hX0 hB0 dX11_common_0 rfl (lv_at hl 0 rfl) ?_
  refine z_get (Cn := RX11) (T := TX11) (N := 13) CX hW (v := .ref (o + 289)) (show f o = _ from hP.c0) rfl (fun w h => List.mem_cons_of_mem _ (List.mem_append_left _ (List.mem_append_left _ (List.mem_append_left _ (List.mem_append_left _ (List.mem_append_right _ h)))))) 1 (by decide) (List.mem_of_getElem? (i := 1) rfl) rfl rfl dX11_common_1 ?_
  refine lv_iload_n hX0 hB0 dX11_common_4 rfl (lv_at hl 1 rfl) ?_
  refine z_callr hW (va_runV (C := RX7) (As := [.int (zI a)]) (rest := []) CX.fix (c_find l (o + 289) (M.1 0 3) (M.1 0 4) M.2.1 (M.1 3) a hP.c3 (by omega) (by constructor <;> omega)) (cwV 1 CX.fix.2.2.2.2 gX11_common_X7_find rfl rfl rfl (by decide +kernel) ⟨Nat.le_of_ble_eq_true rfl, Nat.le_of_ble_eq_true rfl⟩) (z_preV CX hW (r := (RX7, TX7, 4)) hP.c3.1 rfl) rfl rfl hl.1 rfl (lv_room (Nat.le_of_ble_eq_true rfl)) dX11_common_5 ⟨Nat.zero_le _, Nat.zero_le _⟩) (fun z5 g5 H locs hok hW => ?_)
  obtain ⟨hz, hg⟩ := hok
  rw [hz]
  rw [hg] at hW
  clear hg
  by_cases cf_a_8 : 0 ≤ a ∧ a < M.1 0 4 ∧ a < 6
  ·
    have hzf := zfind_p (a := o + 289) cf_a_8
    rw [hzf]
    clear hzf
    refine lv_astore_n (lv' := [(3, .ref (o + 289 + 3 + 2 * a.toNat)), (0, .ref o), (1, .int (zI a)), (2, .int (zI b))]) hX0 hB0 dX11_common_8 rfl hl (by decide) rfl (fun ls hl => ?_)
    refine lv_aload_n hX0 hB0 dX11_common_9 rfl (lv_at hl 1 rfl) ?_
    refine z_get (Cn := RX11) (T := TX11) (N := 13) CX hW (v := .ref (o + 289)) (show f o = _ from hP.c0) rfl (fun w h => List.mem_cons_of_mem _ (List.mem_append_left _ (List.mem_append_left _ (List.mem_append_left _ (List.mem_append_left _ (List.mem_append_right _ h)))))) 1 (by decide) (List.mem_of_getElem? (i := 1) rfl) rfl rfl dX11_common_10 ?_
    refine lv_iload_n hX0 hB0 dX11_common_13 rfl (lv_at hl 3 rfl) ?_
    refine z_callr hW (va_runV (C := RX7) (As := [.int (zI b)]) (rest := []) CX.fix (c_find l (o + 289) (M.1 0 3) (M.1 0 4) M.2.1 (M.1 3) b hP.c3 (by omega) (by constructor <;> omega)) (cwV 1 CX.fix.2.2.2.2 gX11_common_X7_find rfl rfl rfl (by decide +kernel) ⟨Nat.le_of_ble_eq_true rfl, Nat.le_of_ble_eq_true rfl⟩) (z_preV CX hW (r := (RX7, TX7, 4)) hP.c3.1 rfl) rfl rfl hl.1 rfl (lv_room (Nat.le_of_ble_eq_true rfl)) dX11_common_14 ⟨Nat.zero_le _, Nat.zero_le _⟩) (fun z14 g14 H locs hok hW => ?_)
    obtain ⟨hz, hg⟩ := hok
    rw [hz]
    rw [hg] at hW
    clear hg
    by_cases cf_b_17 : 0 ≤ b ∧ b < M.1 0 4 ∧ b < 6
    ·
      have hzf := zfind_p (a := o + 289) cf_b_17
      rw [hzf]
      clear hzf
      refine lv_astore (lv' := [(4, .ref (o + 289 + 3 + 2 * b.toNat)), (3, .ref (o + 289 + 3 + 2 * a.toNat)), (0, .ref o), (1, .int (zI a)), (2, .int (zI b))]) hX0 hB0 dX11_common_17 hl (by decide) rfl (fun ls hl => ?_)
      refine lv_aload_n hX0 hB0 dX11_common_19 rfl (lv_at hl 1 rfl) ?_
      refine lv_ifnull hX0 hB0 dX11_common_20 ?_
      refine lv_aload hX0 hB0 dX11_common_23 (lv_at hl 0 rfl) ?_
      refine lv_ifnonnull (tgt := 32) hX0 hB0 dX11_common_25 (by decide) ?_
      refine lv_aload_n hX0 hB0 dX11_common_32 rfl (lv_at hl 2 rfl) ?_
      refine z_get (Cn := RX11) (T := TX11) (N := 13) CX hW (v := .ref (o + 615)) (show f o = _ from hP.c0) rfl (fun w h => List.mem_cons_of_mem _ (List.mem_append_left _ (List.mem_append_left _ (List.mem_append_left _ (List.mem_append_left _ (List.mem_append_right _ h)))))) 6 (by decide) (List.mem_of_getElem? (i := 2) rfl) rfl rfl dX11_common_33 ?_
      refine lv_aload_n hX0 hB0 dX11_common_36 rfl (lv_at hl 1 rfl) ?_
      refine lv_aload hX0 hB0 dX11_common_37 (lv_at hl 0 rfl) ?_
      refine lv_aload_n hX0 hB0 dX11_common_39 rfl (lv_at hl 2 rfl) ?_
      refine z_get (Cn := RX11) (T := TX11) (N := 13) CX hW (v := .ref (o + 289)) (show f o = _ from hP.c0) rfl (fun w h => List.mem_cons_of_mem _ (List.mem_append_left _ (List.mem_append_left _ (List.mem_append_left _ (List.mem_append_left _ (List.mem_append_right _ h)))))) 1 (by decide) (List.mem_of_getElem? (i := 1) rfl) rfl rfl dX11_common_40 ?_
      refine z_get (Cn := RX7) (T := TX7) (N := 4) CX hW (v := .int (zI (M.1 0 3))) hP.c3.1 rfl (fun w h => List.mem_cons_of_mem _ (List.mem_append_left _ (List.mem_append_left _ (List.mem_append_left _ (List.mem_append_right _ h))))) 0 (by decide) (List.mem_of_getElem? (i := 3) rfl) rfl rfl dX11_common_43 ?_
      have hr43 := hC.p
      obtain ⟨cc46, cr46, ln46, hsx46⟩ := hP.c8
      obtain ⟨w46, lim46, pq46, R46, K46, hk46, hR46⟩ := hP.c1
      refine z_callr hW (va_runV (C := RX6) (As := [.ref (o + 289 + 3 + 2 * a.toNat), .ref (o + 289 + 3 + 2 * b.toNat), .int (zI (M.1 0 3))]) (rest := []) CX.fix (c_common l (o + 615) (o + 1) (M.1 24) cc46 cr46 ln46 (o + 289 + 3 + 2 * a.toNat) (o + 289 + 3 + 2 * a.toNat + 1) (M.2.1 a.toNat) (o + 289 + 3 + 2 * b.toNat) (o + 289 + 3 + 2 * b.toNat + 1) (M.2.1 b.toNat) w46 lim46 pq46 R46 K46 (M.1 0 3) hsx46 (hP.poly (k := a.toNat) (by omega)).1 (hP.poly (k := a.toNat) (by omega)).2 (hC.poly (k := a) (by omega) (by omega)) (by omega) (by omega) (hP.poly (k := b.toNat) (by omega)).1 (hP.poly (k := b.toNat) (by omega)).2 (hC.poly (k := b) (by omega) (by omega)) (by omega) (by omega) (by omega) (by omega) hk46 hR46 (by omega) (by omega) (by omega) (by omega)) (cwV 3 CX.fix.2.2.2.2 gX11_common_X6_find rfl rfl rfl (by decide +kernel) ⟨Nat.le_of_ble_eq_true rfl, Nat.le_of_ble_eq_true rfl⟩) (z_preV CX hW (r := (RX6, TX6, 5)) hP.shob rfl) rfl rfl hl.1 rfl (lv_room (Nat.le_of_ble_eq_true rfl)) dX11_common_46 ⟨Nat.zero_le _, Nat.zero_le _⟩) (fun z46 g46 H locs hok hW => ?_)
      obtain ⟨hz, hs0, hx⟩ := hok
      have hz : va_rf z46 = .ref (o + 615 + 1) := by rw [hz]; rfl
      rw [hz]
      obtain ⟨M46, em46⟩ : ∃ Mq, zw_common M (M.2.1 a.toNat) (M.2.1 b.toNat) (M.1 0 3) = Mq := ⟨_, rfl⟩
      have hP46 : zCP cI cP cS cZ cM o M46 g46 := by rw [← em46]; exact zr_common hP hs0 hx
      have hC46 : zCI M46 := by rw [← em46]; exact zi_common hC (by omega)
      have hV46 : zVE M46 M := zVE.tr (by rw [← em46]; exact zv_common) zVE.rf
      have tv46_3 : M46.1 0 3 = M.1 0 3 := hV46.2 0 3 (by omega) (by omega)
      have tv46_4 : M46.1 0 4 = M.1 0 4 := hV46.2 0 4 (by omega) (by omega)
      have hF46 : zFr f g46 o (o + 681) := zFr.trans zFr.refl (fun q hq => hs0 q (by omega))
      refine z_calli hW (va_runV (C := RX2) (As := []) (rest := []) CX.fix (c_top l (o + 615 + 1) (o + 615 + 2) (M46.1 24) hP46.part.1 hP46.part.2 hC46.pt) (cwV 0 CX.fix.2.2.2.2 gX11_common_X2_top rfl rfl rfl (by decide +kernel) ⟨Nat.le_of_ble_eq_true rfl, Nat.le_of_ble_eq_true rfl⟩) (z_preV CX hW (r := (RX2, TX2, 1)) hP46.part.1 rfl) rfl rfl hl.1 rfl (lv_room (Nat.le_of_ble_eq_true rfl)) dX11_common_49 ⟨Nat.zero_le _, Nat.zero_le _⟩) (fun z49 g49 H locs hok hW => ?_)
      obtain ⟨hz, hg⟩ := hok
      have e49 : ztop (M46.1 24) = z49 := hz.symm
      have htp49 := ztop_rng (M46.1 24)
      rw [e49] at htp49
      rw [hg] at hW
      clear hg
      have hE : zc_common M a b = (z49, M46) := by unfold zc_common; exact zif_t cf_a_8 (zif_t cf_b_17 (zlet_e em46 (zlet_e e49 rfl)))
      rw [← hQ]
      exact z_iret (z := z49) CX hW (by rw [hE]; exact ⟨rfl, hP46, hC46, hF46, hV46, trivial⟩) rfl dX11_common_52
    ·
      have hzf := zfind_n (a := o + 289) cf_b_17
      rw [hzf]
      clear hzf
      refine lv_astoreN (lv' := [(4, .null), (3, .ref (o + 289 + 3 + 2 * a.toNat)), (0, .ref o), (1, .int (zI a)), (2, .int (zI b))]) hX0 hB0 dX11_common_17 hl (by decide) rfl (fun ls hl => ?_)
      refine lv_aload_n hX0 hB0 dX11_common_19 rfl (lv_at hl 1 rfl) ?_
      refine lv_ifnull hX0 hB0 dX11_common_20 ?_
      refine lv_aloadN hX0 hB0 dX11_common_23 (lv_at hl 0 rfl) ?_
      refine lv_ifnonnullN hX0 hB0 dX11_common_25 ?_
      refine lv_iconst (v := zI (-1)) hX0 hB0 dX11_common_28 rfl ?_
      refine lv_goto (tgt := 52) hX0 hB0 dX11_common_29 (by decide) ?_
      have hE : zc_common M a b = (-1, M) := by unfold zc_common; exact zif_t cf_a_8 (zif_f cf_b_17 rfl)
      rw [← hQ]
      exact z_iret (z := -1) CX hW (by rw [hE]; exact ⟨rfl, hP, hC, zFr.refl, zVE.rf, trivial⟩) rfl dX11_common_52
  ·
    have hzf := zfind_n (a := o + 289) cf_a_8
    rw [hzf]
    clear hzf
    refine lv_astore_nN (lv' := [(3, .null), (0, .ref o), (1, .int (zI a)), (2, .int (zI b))]) hX0 hB0 dX11_common_8 rfl hl (by decide) rfl (fun ls hl => ?_)
    refine lv_aload_n hX0 hB0 dX11_common_9 rfl (lv_at hl 1 rfl) ?_
    refine z_get (Cn := RX11) (T := TX11) (N := 13) CX hW (v := .ref (o + 289)) (show f o = _ from hP.c0) rfl (fun w h => List.mem_cons_of_mem _ (List.mem_append_left _ (List.mem_append_left _ (List.mem_append_left _ (List.mem_append_left _ (List.mem_append_right _ h)))))) 1 (by decide) (List.mem_of_getElem? (i := 1) rfl) rfl rfl dX11_common_10 ?_
    refine lv_iload_n hX0 hB0 dX11_common_13 rfl (lv_at hl 3 rfl) ?_
    refine z_callr hW (va_runV (C := RX7) (As := [.int (zI b)]) (rest := []) CX.fix (c_find l (o + 289) (M.1 0 3) (M.1 0 4) M.2.1 (M.1 3) b hP.c3 (by omega) (by constructor <;> omega)) (cwV 1 CX.fix.2.2.2.2 gX11_common_X7_find rfl rfl rfl (by decide +kernel) ⟨Nat.le_of_ble_eq_true rfl, Nat.le_of_ble_eq_true rfl⟩) (z_preV CX hW (r := (RX7, TX7, 4)) hP.c3.1 rfl) rfl rfl hl.1 rfl (lv_room (Nat.le_of_ble_eq_true rfl)) dX11_common_14 ⟨Nat.zero_le _, Nat.zero_le _⟩) (fun z14 g14 H locs hok hW => ?_)
    obtain ⟨hz, hg⟩ := hok
    rw [hz]
    rw [hg] at hW
    clear hg
    by_cases cf_b_17 : 0 ≤ b ∧ b < M.1 0 4 ∧ b < 6
    ·
      have hzf := zfind_p (a := o + 289) cf_b_17
      rw [hzf]
      clear hzf
      refine lv_astore (lv' := [(4, .ref (o + 289 + 3 + 2 * b.toNat)), (3, .null), (0, .ref o), (1, .int (zI a)), (2, .int (zI b))]) hX0 hB0 dX11_common_17 hl (by decide) rfl (fun ls hl => ?_)
      refine lv_aload_nN hX0 hB0 dX11_common_19 rfl (lv_at hl 1 rfl) ?_
      refine lv_ifnullN (tgt := 28) hX0 hB0 dX11_common_20 (by decide) ?_
      refine lv_iconst (v := zI (-1)) hX0 hB0 dX11_common_28 rfl ?_
      refine lv_goto (tgt := 52) hX0 hB0 dX11_common_29 (by decide) ?_
      have hE : zc_common M a b = (-1, M) := by unfold zc_common; exact zif_f cf_a_8 (zif_t cf_b_17 rfl)
      rw [← hQ]
      exact z_iret (z := -1) CX hW (by rw [hE]; exact ⟨rfl, hP, hC, zFr.refl, zVE.rf, trivial⟩) rfl dX11_common_52
    ·
      have hzf := zfind_n (a := o + 289) cf_b_17
      rw [hzf]
      clear hzf
      refine lv_astoreN (lv' := [(4, .null), (3, .null), (0, .ref o), (1, .int (zI a)), (2, .int (zI b))]) hX0 hB0 dX11_common_17 hl (by decide) rfl (fun ls hl => ?_)
      refine lv_aload_nN hX0 hB0 dX11_common_19 rfl (lv_at hl 1 rfl) ?_
      refine lv_ifnullN (tgt := 28) hX0 hB0 dX11_common_20 (by decide) ?_
      refine lv_iconst (v := zI (-1)) hX0 hB0 dX11_common_28 rfl ?_
      refine lv_goto (tgt := 52) hX0 hB0 dX11_common_29 (by decide) ?_
      have hE : zc_common M a b = (-1, M) := by unfold zc_common; exact zif_f cf_a_8 (zif_f cf_b_17 rfl)
      rw [← hQ]
      exact z_iret (z := -1) CX hW (by rw [hE]; exact ⟨rfl, hP, hC, zFr.refl, zVE.rf, trivial⟩) rfl dX11_common_52
noncomputable def zc_commonTerm (M : zCt) (a : Int) (b : Int) (i : Int) (j : Int) : Int × zCt := (if 0 ≤ a ∧ a < M.1 0 4 ∧ a < 6 then (if 0 ≤ b ∧ b < M.1 0 4 ∧ b < 6 then zlet (bI (zfits i j)) (fun z33 => (if z33 = 0 then (-1, M) else zlet (zw_common M (M.2.1 a.toNat) (M.2.1 b.toNat) (M.1 0 3)) (fun M56 => zlet (zat (M56.1 24) i j) (fun z62 => (z62, M56))))) else (-1, M)) else (if 0 ≤ b ∧ b < M.1 0 4 ∧ b < 6 then (-1, M) else (-1, M)))
noncomputable def zc_timesAt (M : zCt) (u : Int) (v : Int) (pt : Int) : Int × zCt := zlet (bI (zpt pt (M.1 0 3))) (fun z12 => zlet (zw_go M pt (M.1 0 3)) (fun M12 => (if z12 = 0 then (-1, M12) else zlet (zval (M12.1 24) (M12.1 0 10) (M12.1 0 11) (M12.1 0 12) (M12.1 0 3)) (fun z38 => (if z38 = 0 then (-2, M12) else zlet (zw_look1 M12 (M12.2.1 u.toNat) (M12.1 0 3)) (fun M63 => zlet (zw_look2 M63 (M63.2.1 v.toNat) (M63.1 0 3)) (fun M82 => zlet ((zrunA (M82.1 0 3) (M82.1 20) (M82.1 22) (M82.1 26)).1) (fun z110 => zlet (zw_run M82 (M82.1 20) (M82.1 22) (M82.1 0 3)) (fun M110 => (z110, M110))))))))))
set_option maxRecDepth 100000 in
set_option maxHeartbeats 4000000 in
theorem zd_timesAt (l : Launch) {D : va_G} {cI cJ cZ cP cS cM : ClassId} {L : List Nat} {sz : Nat} {f : Nat → va_E} (o : Nat) (M : zCt) (u : Int) (v : Int) (pt : Int) (hP : zCP cI cP cS cZ cM o M f) (hC : zCI M) (hu : 0 ≤ u ∧ u < M.1 0 4) (hv : 0 ≤ v ∧ v < M.1 0 4) (hpt : -2147483648 ≤ pt ∧ pt ≤ 2147483647) : zMi l yX11_timesAt wsX11_timesAt 5 123 D (zT cI cJ cZ cP cS cM) L sz f [.ref o, .ref (o + 289 + 3 + 2 * u.toNat), .ref (o + 289 + 3 + 2 * v.toNat), .int (zI pt)] (fun zv gv => zv = (zc_timesAt M u v pt).1 ∧ zCP cI cP cS cZ cM o (zc_timesAt M u v pt).2 gv ∧ zCI (zc_timesAt M u v pt).2 ∧ zFr f gv o (o + 681) ∧ zVE (zc_timesAt M u v pt).2 M ∧ -2 ≤ zv ∧ zv ≤ 32768) := by
  refine zWalk.met (nL := 4) (ret := (some .int)) (cc := cX11_timesAt) (by decide) rfl (Nat.le_of_ble_eq_true rfl) ?_
  intro pg en st mi ag bl mt cd ls CX hW hl
  have CX : zC pg st mi ag mt cd cX11_timesAt 4 (some .int) RX11 wsX11_timesAt := CX
  generalize hQ : MQ bl _ ag st 0 0 _ = Q
  have hX0 := CX.1
  have hB0 := CX.2.1
  have hl : lv_has ls 4 [(0, .ref o), (1, .ref (o + 289 + 3 + 2 * u.toNat)), (2, .ref (o + 289 + 3 + 2 * v.toNat)), (3, .int (zI pt))] := hl
  obtain ⟨H, eH⟩ : ∃ H, H = st.heap := ⟨_, rfl⟩
  obtain ⟨locs, eL⟩ : ∃ L : List Loc, L = [] := ⟨_, rfl⟩
  have hW : zW D (zT cI cJ cZ cP cS cM) L (zQ L sz) st f st.heap H locs := by rw [eH, eL]; exact hW
  suffices hgo : W pg l en ({ frames := 5, cells := 0, slots := 0, locals := 123 } : Room) st mi ag bl mt cd H locs 0 0 Q (F0 mi 0 ls []) by rw [eH, eL] at hgo; exact hgo
  clear eH eL
  have hpb := hC.p
  have hnb := hC.cn
  refine lv_aload_n hX0 hB0 dX11_timesAt_0 rfl (lv_at hl 0 rfl) ?_
  refine z_get (Cn := RX11) (T := TX11) (N := 13) CX hW (v := .ref (o + 606)) (show f o = _ from hP.c0) rfl (fun w h => List.mem_cons_of_mem _ (List.mem_append_left _ (List.mem_append_left _ (List.mem_append_left _ (List.mem_append_left _ (List.mem_append_left _ (List.mem_append_left _ (List.mem_append_right _ h)))))))) 3 (by decide) (List.mem_of_getElem? (i := 1) rfl) rfl rfl dX11_timesAt_1 ?_
  refine lv_iload_n hX0 hB0 dX11_timesAt_4 rfl (lv_at hl 3 rfl) ?_
  refine lv_aload_n hX0 hB0 dX11_timesAt_5 rfl (lv_at hl 0 rfl) ?_
  refine z_get (Cn := RX11) (T := TX11) (N := 13) CX hW (v := .ref (o + 289)) (show f o = _ from hP.c0) rfl (fun w h => List.mem_cons_of_mem _ (List.mem_append_left _ (List.mem_append_left _ (List.mem_append_left _ (List.mem_append_left _ (List.mem_append_left _ (List.mem_append_left _ (List.mem_append_right _ h)))))))) 1 (by decide) (List.mem_of_getElem? (i := 2) rfl) rfl rfl dX11_timesAt_6 ?_
  refine z_get (Cn := RX7) (T := TX7) (N := 4) CX hW (v := .int (zI (M.1 0 3))) hP.c3.1 rfl (fun w h => List.mem_cons_of_mem _ (List.mem_append_left _ (List.mem_append_left _ (List.mem_append_left _ (List.mem_append_left _ (List.mem_append_left _ (List.mem_append_right _ h))))))) 0 (by decide) (List.mem_of_getElem? (i := 3) rfl) rfl rfl dX11_timesAt_9 ?_
  have hr9 := hC.p
  refine z_calli hW (va_runV (C := RX9) (As := [.int (zI pt), .int (zI (M.1 0 3))]) (rest := []) CX.fix (c_go l (o + 606) (M.1 0 10) (M.1 0 11) (M.1 0 12) pt (M.1 0 3) hP.c5 (by constructor <;> omega) (by omega)) (cwV 2 CX.fix.2.2.2.2 gX11_timesAt_X9_go rfl rfl rfl (by decide +kernel) ⟨Nat.le_of_ble_eq_true rfl, Nat.le_of_ble_eq_true rfl⟩) (z_preV CX hW (r := (RX9, TX9, 3)) (show f (o + 606) = _ from hP.c5) rfl) rfl rfl hl.1 rfl (lv_room (Nat.le_of_ble_eq_true rfl)) dX11_timesAt_12 ⟨Nat.zero_le _, Nat.zero_le _⟩) (fun z12 g12 H locs hok hW => ?_)
  obtain ⟨hz, hg⟩ := hok
  have e12 : bI (zpt pt (M.1 0 3)) = z12 := hz.symm
  have hb12 := bI_01 (zpt pt (M.1 0 3))
  rw [e12] at hb12
  obtain ⟨M12, em12⟩ : ∃ Mq, zw_go M pt (M.1 0 3) = Mq := ⟨_, rfl⟩
  have hP12 : zCP cI cP cS cZ cM o M12 g12 := by rw [← em12]; exact zr_go hP hg
  have hC12 : zCI M12 := by rw [← em12]; exact zi_go hC
  have hV12 : zVE M12 M := zVE.tr (by rw [← em12]; exact zv_go) zVE.rf
  have tv12_3 : M12.1 0 3 = M.1 0 3 := hV12.2 0 3 (by omega) (by omega)
  have tv12_4 : M12.1 0 4 = M.1 0 4 := hV12.2 0 4 (by omega) (by omega)
  have hF12 : zFr f g12 o (o + 681) := zFr.trans zFr.refl (fun q hq => by rw [hg]; exact va_up_ne _ _ (by omega))
  have hgo12 : ¬ z12 = 0 → (M12.1 0 10 = zpx pt (M.1 0 3) ∧ M12.1 0 11 = zpy pt (M.1 0 3) ∧ M12.1 0 12 = zpz pt (M.1 0 3)) ∧ (0 ≤ M12.1 0 10 ∧ M12.1 0 10 < (M.1 0 3)) ∧ (0 ≤ M12.1 0 11 ∧ M12.1 0 11 < (M.1 0 3)) ∧ 0 ≤ M12.1 0 12 ∧ M12.1 0 12 ≤ 1 := fun hz0 => by rw [← em12]; exact zgo_rng (by omega) (by rw [e12]; exact hz0)
  skip
  skip
  skip
  refine z_if_ne (tgt := 20) CX dX11_timesAt_15 (by decide) (by constructor <;> omega) (fun c_15 => ?_) (fun c_15 => ?_)
  ·
    refine lv_aload_n hX0 hB0 dX11_timesAt_20 rfl (lv_at hl 0 rfl) ?_
    refine z_get (Cn := RX11) (T := TX11) (N := 13) CX hW (v := .ref (o + 606)) (show g12 o = _ from hP12.c0) rfl (fun w h => List.mem_cons_of_mem _ (List.mem_append_left _ (List.mem_append_left _ (List.mem_append_left _ (List.mem_append_left _ (List.mem_append_left _ (List.mem_append_left _ (List.mem_append_right _ h)))))))) 3 (by decide) (List.mem_of_getElem? (i := 1) rfl) rfl rfl dX11_timesAt_21 ?_
    refine lv_aload_n hX0 hB0 dX11_timesAt_24 rfl (lv_at hl 0 rfl) ?_
    refine z_get (Cn := RX11) (T := TX11) (N := 13) CX hW (v := .ref (o + 615)) (show g12 o = _ from hP12.c0) rfl (fun w h => List.mem_cons_of_mem _ (List.mem_append_left _ (List.mem_append_left _ (List.mem_append_left _ (List.mem_append_left _ (List.mem_append_left _ (List.mem_append_left _ (List.mem_append_right _ h)))))))) 6 (by decide) (List.mem_of_getElem? (i := 4) rfl) rfl rfl dX11_timesAt_25 ?_
    obtain ⟨cc28, cr28, ln28, hsx28⟩ := hP12.c8
    have hsh28 := hsx28.1
    refine z_get (Cn := RX6) (T := TX6) (N := 5) CX hW (v := .ref (o + 615 + 1)) hsh28 rfl (fun w h => List.mem_cons_of_mem _ (List.mem_append_left _ (List.mem_append_left _ (List.mem_append_left _ (List.mem_append_left _ (List.mem_append_right _ h)))))) 0 (by decide) (List.mem_of_getElem? (i := 5) rfl) rfl rfl dX11_timesAt_28 ?_
    refine lv_aload_n hX0 hB0 dX11_timesAt_31 rfl (lv_at hl 0 rfl) ?_
    refine z_get (Cn := RX11) (T := TX11) (N := 13) CX hW (v := .ref (o + 289)) (show g12 o = _ from hP12.c0) rfl (fun w h => List.mem_cons_of_mem _ (List.mem_append_left _ (List.mem_append_left _ (List.mem_append_left _ (List.mem_append_left _ (List.mem_append_left _ (List.mem_append_left _ (List.mem_append_right _ h)))))))) 1 (by decide) (List.mem_of_getElem? (i := 2) rfl) rfl rfl dX11_timesAt_32 ?_
    refine z_get (Cn := RX7) (T := TX7) (N := 4) CX hW (v := .int (zI (M12.1 0 3))) hP12.c3.1 rfl (fun w h => List.mem_cons_of_mem _ (List.mem_append_left _ (List.mem_append_left _ (List.mem_append_left _ (List.mem_append_left _ (List.mem_append_left _ (List.mem_append_right _ h))))))) 0 (by decide) (List.mem_of_getElem? (i := 3) rfl) rfl rfl dX11_timesAt_35 ?_
    have hr35 := hC12.p
    refine z_calli hW (va_runV (C := RX9) (As := [.ref (o + 615 + 1), .int (zI (M12.1 0 3))]) (rest := []) CX.fix (c_valueOf l (o + 606) (M12.1 0 10) (M12.1 0 11) (M12.1 0 12) (o + 615 + 1) (o + 615 + 2) (M12.1 24) (M12.1 0 3) hP12.c5 hP12.part.1 hP12.part.2 hC12.pt (by omega) (by omega) (by omega) (by omega)) (cwV 2 CX.fix.2.2.2.2 gX11_timesAt_X9_valueOf rfl rfl rfl (by decide +kernel) ⟨Nat.le_of_ble_eq_true rfl, Nat.le_of_ble_eq_true rfl⟩) (z_preV CX hW (r := (RX9, TX9, 3)) (show g12 (o + 606) = _ from hP12.c5) rfl) rfl rfl hl.1 rfl (lv_room (Nat.le_of_ble_eq_true rfl)) dX11_timesAt_38 ⟨Nat.zero_le _, Nat.zero_le _⟩) (fun z38 g38 H locs hok hW => ?_)
    obtain ⟨hz, hg⟩ := hok
    have e38 : zval (M12.1 24) (M12.1 0 10) (M12.1 0 11) (M12.1 0 12) (M12.1 0 3) = z38 := hz.symm
    have hvr38 := zval_rng (c := M12.1 24) (x := M12.1 0 10) (y := M12.1 0 11) (z := M12.1 0 12) (p := (M12.1 0 3)) (by omega)
    rw [e38] at hvr38
    rw [hg] at hW
    clear hg
    refine z_if_ne (tgt := 47) CX dX11_timesAt_41 (by decide) (by constructor <;> omega) (fun c_41 => ?_) (fun c_41 => ?_)
    ·
      refine lv_aload_n hX0 hB0 dX11_timesAt_47 rfl (lv_at hl 0 rfl) ?_
      refine z_get (Cn := RX11) (T := TX11) (N := 13) CX hW (v := .ref (o + 607)) (show g12 o = _ from hP12.c0) rfl (fun w h => List.mem_cons_of_mem _ (List.mem_append_left _ (List.mem_append_left _ (List.mem_append_left _ (List.mem_append_left _ (List.mem_append_left _ (List.mem_append_left _ (List.mem_append_right _ h)))))))) 4 (by decide) (List.mem_of_getElem? (i := 6) rfl) rfl rfl dX11_timesAt_48 ?_
      refine lv_aload_n hX0 hB0 dX11_timesAt_51 rfl (lv_at hl 1 rfl) ?_
      refine lv_aload_n hX0 hB0 dX11_timesAt_52 rfl (lv_at hl 0 rfl) ?_
      refine z_get (Cn := RX11) (T := TX11) (N := 13) CX hW (v := .ref (o + 606)) (show g12 o = _ from hP12.c0) rfl (fun w h => List.mem_cons_of_mem _ (List.mem_append_left _ (List.mem_append_left _ (List.mem_append_left _ (List.mem_append_left _ (List.mem_append_left _ (List.mem_append_left _ (List.mem_append_right _ h)))))))) 3 (by decide) (List.mem_of_getElem? (i := 1) rfl) rfl rfl dX11_timesAt_53 ?_
      refine lv_aload_n hX0 hB0 dX11_timesAt_56 rfl (lv_at hl 0 rfl) ?_
      refine z_get (Cn := RX11) (T := TX11) (N := 13) CX hW (v := .ref (o + 289)) (show g12 o = _ from hP12.c0) rfl (fun w h => List.mem_cons_of_mem _ (List.mem_append_left _ (List.mem_append_left _ (List.mem_append_left _ (List.mem_append_left _ (List.mem_append_left _ (List.mem_append_left _ (List.mem_append_right _ h)))))))) 1 (by decide) (List.mem_of_getElem? (i := 2) rfl) rfl rfl dX11_timesAt_57 ?_
      refine z_get (Cn := RX7) (T := TX7) (N := 4) CX hW (v := .int (zI (M12.1 0 3))) hP12.c3.1 rfl (fun w h => List.mem_cons_of_mem _ (List.mem_append_left _ (List.mem_append_left _ (List.mem_append_left _ (List.mem_append_left _ (List.mem_append_left _ (List.mem_append_right _ h))))))) 0 (by decide) (List.mem_of_getElem? (i := 3) rfl) rfl rfl dX11_timesAt_60 ?_
      have hr60 := hC12.p
      refine z_callv hW (va_runV (C := RX10) (As := [.ref (o + 289 + 3 + 2 * u.toNat), .ref (o + 606), .int (zI (M12.1 0 3))]) (rest := []) CX.fix (c_look l (o + 607) (M12.1 0 13) (M12.1 20) (M12.1 21) (o + 606) (M12.1 0 10) (M12.1 0 11) (M12.1 0 12) (o + 289 + 3 + 2 * u.toNat) (o + 289 + 3 + 2 * u.toNat + 1) (M12.2.1 u.toNat) (M12.1 0 3) hP12.c6.1 hP12.c6.2.1 hP12.c6.2.2.1 hP12.c6.2.2.2 (by omega) hP12.c5 (by omega) (by omega) (by omega) (by omega) (hP12.poly (k := u.toNat) (by omega)).1 (hP12.poly (k := u.toNat) (by omega)).2 (hC12.poly (k := u) (by omega) (by omega)) (by omega) (by omega)) (cwV 3 CX.fix.2.2.2.2 gX11_timesAt_X10_look rfl rfl rfl (by decide +kernel) ⟨Nat.le_of_ble_eq_true rfl, Nat.le_of_ble_eq_true rfl⟩) (z_preV CX hW (r := (RX10, TX10, 3)) hP12.c6.1 rfl) rfl rfl hl.1 rfl (lv_room (Nat.le_of_ble_eq_true rfl)) dX11_timesAt_63 ⟨Nat.zero_le _, Nat.zero_le _⟩) (fun g63 H locs hok hW => ?_)
      have hg := hok
      obtain ⟨M63, em63⟩ : ∃ Mq, zw_look1 M12 (M12.2.1 u.toNat) (M12.1 0 3) = Mq := ⟨_, rfl⟩
      have hP63 : zCP cI cP cS cZ cM o M63 g63 := by rw [← em63]; exact zr_look1 hP12 hg
      have hC63 : zCI M63 := by rw [← em63]; exact zi_look1 hC12 (by omega)
      have hV63 : zVE M63 M := zVE.tr (by rw [← em63]; exact zv_look1) hV12
      have tv63_3 : M63.1 0 3 = M.1 0 3 := hV63.2 0 3 (by omega) (by omega)
      have tv63_4 : M63.1 0 4 = M.1 0 4 := hV63.2 0 4 (by omega) (by omega)
      have hF63 : zFr f g63 o (o + 681) := zFr.trans hF12 (fun q hq => by rw [hg, va_up_ne _ _ (by omega), va_up_ne _ _ (by omega)])
      have ts63_10 : M63.1 0 10 = M12.1 0 10 := by rw [← em63]; rfl
      have ts63_11 : M63.1 0 11 = M12.1 0 11 := by rw [← em63]; rfl
      have ts63_12 : M63.1 0 12 = M12.1 0 12 := by rw [← em63]; rfl
      refine lv_aload_n hX0 hB0 dX11_timesAt_66 rfl (lv_at hl 0 rfl) ?_
      refine z_get (Cn := RX11) (T := TX11) (N := 13) CX hW (v := .ref (o + 611)) (show g63 o = _ from hP63.c0) rfl (fun w h => List.mem_cons_of_mem _ (List.mem_append_left _ (List.mem_append_left _ (List.mem_append_left _ (List.mem_append_left _ (List.mem_append_left _ (List.mem_append_left _ (List.mem_append_right _ h)))))))) 5 (by decide) (List.mem_of_getElem? (i := 7) rfl) rfl rfl dX11_timesAt_67 ?_
      refine lv_aload_n hX0 hB0 dX11_timesAt_70 rfl (lv_at hl 2 rfl) ?_
      refine lv_aload_n hX0 hB0 dX11_timesAt_71 rfl (lv_at hl 0 rfl) ?_
      refine z_get (Cn := RX11) (T := TX11) (N := 13) CX hW (v := .ref (o + 606)) (show g63 o = _ from hP63.c0) rfl (fun w h => List.mem_cons_of_mem _ (List.mem_append_left _ (List.mem_append_left _ (List.mem_append_left _ (List.mem_append_left _ (List.mem_append_left _ (List.mem_append_left _ (List.mem_append_right _ h)))))))) 3 (by decide) (List.mem_of_getElem? (i := 1) rfl) rfl rfl dX11_timesAt_72 ?_
      refine lv_aload_n hX0 hB0 dX11_timesAt_75 rfl (lv_at hl 0 rfl) ?_
      refine z_get (Cn := RX11) (T := TX11) (N := 13) CX hW (v := .ref (o + 289)) (show g63 o = _ from hP63.c0) rfl (fun w h => List.mem_cons_of_mem _ (List.mem_append_left _ (List.mem_append_left _ (List.mem_append_left _ (List.mem_append_left _ (List.mem_append_left _ (List.mem_append_left _ (List.mem_append_right _ h)))))))) 1 (by decide) (List.mem_of_getElem? (i := 2) rfl) rfl rfl dX11_timesAt_76 ?_
      refine z_get (Cn := RX7) (T := TX7) (N := 4) CX hW (v := .int (zI (M63.1 0 3))) hP63.c3.1 rfl (fun w h => List.mem_cons_of_mem _ (List.mem_append_left _ (List.mem_append_left _ (List.mem_append_left _ (List.mem_append_left _ (List.mem_append_left _ (List.mem_append_right _ h))))))) 0 (by decide) (List.mem_of_getElem? (i := 3) rfl) rfl rfl dX11_timesAt_79 ?_
      have hr79 := hC63.p
      refine z_callv hW (va_runV (C := RX10) (As := [.ref (o + 289 + 3 + 2 * v.toNat), .ref (o + 606), .int (zI (M63.1 0 3))]) (rest := []) CX.fix (c_look l (o + 611) (M63.1 0 14) (M63.1 22) (M63.1 23) (o + 606) (M63.1 0 10) (M63.1 0 11) (M63.1 0 12) (o + 289 + 3 + 2 * v.toNat) (o + 289 + 3 + 2 * v.toNat + 1) (M63.2.1 v.toNat) (M63.1 0 3) hP63.c7.1 hP63.c7.2.1 hP63.c7.2.2.1 hP63.c7.2.2.2 (by omega) hP63.c5 (by omega) (by omega) (by omega) (by omega) (hP63.poly (k := v.toNat) (by omega)).1 (hP63.poly (k := v.toNat) (by omega)).2 (hC63.poly (k := v) (by omega) (by omega)) (by omega) (by omega)) (cwV 3 CX.fix.2.2.2.2 gX11_timesAt_X10_look rfl rfl rfl (by decide +kernel) ⟨Nat.le_of_ble_eq_true rfl, Nat.le_of_ble_eq_true rfl⟩) (z_preV CX hW (r := (RX10, TX10, 3)) hP63.c7.1 rfl) rfl rfl hl.1 rfl (lv_room (Nat.le_of_ble_eq_true rfl)) dX11_timesAt_82 ⟨Nat.zero_le _, Nat.zero_le _⟩) (fun g82 H locs hok hW => ?_)
      have hg := hok
      obtain ⟨M82, em82⟩ : ∃ Mq, zw_look2 M63 (M63.2.1 v.toNat) (M63.1 0 3) = Mq := ⟨_, rfl⟩
      have hP82 : zCP cI cP cS cZ cM o M82 g82 := by rw [← em82]; exact zr_look2 hP63 hg
      have hC82 : zCI M82 := by rw [← em82]; exact zi_look2 hC63 (by omega)
      have hV82 : zVE M82 M := zVE.tr (by rw [← em82]; exact zv_look2) hV63
      have tv82_3 : M82.1 0 3 = M.1 0 3 := hV82.2 0 3 (by omega) (by omega)
      have tv82_4 : M82.1 0 4 = M.1 0 4 := hV82.2 0 4 (by omega) (by omega)
      have hF82 : zFr f g82 o (o + 681) := zFr.trans hF63 (fun q hq => by rw [hg, va_up_ne _ _ (by omega), va_up_ne _ _ (by omega)])
      have ts82_10 : M82.1 0 10 = M63.1 0 10 := by rw [← em82]; rfl
      have ts82_11 : M82.1 0 11 = M63.1 0 11 := by rw [← em82]; rfl
      have ts82_12 : M82.1 0 12 = M63.1 0 12 := by rw [← em82]; rfl
      refine lv_aload_n hX0 hB0 dX11_timesAt_85 rfl (lv_at hl 0 rfl) ?_
      refine z_get (Cn := RX11) (T := TX11) (N := 13) CX hW (v := .ref (o + 623)) (show g82 o = _ from hP82.c0) rfl (fun w h => List.mem_cons_of_mem _ (List.mem_append_left _ (List.mem_append_left _ (List.mem_append_left _ (List.mem_append_left _ (List.mem_append_left _ (List.mem_append_left _ (List.mem_append_right _ h)))))))) 7 (by decide) (List.mem_of_getElem? (i := 8) rfl) rfl rfl dX11_timesAt_86 ?_
      refine lv_aload_n hX0 hB0 dX11_timesAt_89 rfl (lv_at hl 0 rfl) ?_
      refine z_get (Cn := RX11) (T := TX11) (N := 13) CX hW (v := .ref (o + 607)) (show g82 o = _ from hP82.c0) rfl (fun w h => List.mem_cons_of_mem _ (List.mem_append_left _ (List.mem_append_left _ (List.mem_append_left _ (List.mem_append_left _ (List.mem_append_left _ (List.mem_append_left _ (List.mem_append_right _ h)))))))) 4 (by decide) (List.mem_of_getElem? (i := 6) rfl) rfl rfl dX11_timesAt_90 ?_
      refine z_get (Cn := RX10) (T := TX10) (N := 3) CX hW (v := .ref (o + 607 + 1)) hP82.c6.1 rfl (fun w h => List.mem_cons_of_mem _ (List.mem_append_left _ (List.mem_append_left _ (List.mem_append_left _ (List.mem_append_right _ h))))) 0 (by decide) (List.mem_of_getElem? (i := 9) rfl) rfl rfl dX11_timesAt_93 ?_
      refine lv_aload_n hX0 hB0 dX11_timesAt_96 rfl (lv_at hl 0 rfl) ?_
      refine z_get (Cn := RX11) (T := TX11) (N := 13) CX hW (v := .ref (o + 611)) (show g82 o = _ from hP82.c0) rfl (fun w h => List.mem_cons_of_mem _ (List.mem_append_left _ (List.mem_append_left _ (List.mem_append_left _ (List.mem_append_left _ (List.mem_append_left _ (List.mem_append_left _ (List.mem_append_right _ h)))))))) 5 (by decide) (List.mem_of_getElem? (i := 7) rfl) rfl rfl dX11_timesAt_97 ?_
      refine z_get (Cn := RX10) (T := TX10) (N := 3) CX hW (v := .ref (o + 611 + 1)) hP82.c7.1 rfl (fun w h => List.mem_cons_of_mem _ (List.mem_append_left _ (List.mem_append_left _ (List.mem_append_left _ (List.mem_append_right _ h))))) 0 (by decide) (List.mem_of_getElem? (i := 9) rfl) rfl rfl dX11_timesAt_100 ?_
      refine lv_aload_n hX0 hB0 dX11_timesAt_103 rfl (lv_at hl 0 rfl) ?_
      refine z_get (Cn := RX11) (T := TX11) (N := 13) CX hW (v := .ref (o + 289)) (show g82 o = _ from hP82.c0) rfl (fun w h => List.mem_cons_of_mem _ (List.mem_append_left _ (List.mem_append_left _ (List.mem_append_left _ (List.mem_append_left _ (List.mem_append_left _ (List.mem_append_left _ (List.mem_append_right _ h)))))))) 1 (by decide) (List.mem_of_getElem? (i := 2) rfl) rfl rfl dX11_timesAt_104 ?_
      refine z_get (Cn := RX7) (T := TX7) (N := 4) CX hW (v := .int (zI (M82.1 0 3))) hP82.c3.1 rfl (fun w h => List.mem_cons_of_mem _ (List.mem_append_left _ (List.mem_append_left _ (List.mem_append_left _ (List.mem_append_left _ (List.mem_append_left _ (List.mem_append_right _ h))))))) 0 (by decide) (List.mem_of_getElem? (i := 3) rfl) rfl rfl dX11_timesAt_107 ?_
      have hr107 := hC82.p
      obtain ⟨rx110, ry110, rF110, rG110, hrx110, hrF110, hrG110⟩ := hP82.c9
      have hrdo110 := hrx110.1
      refine z_calli hW (va_runV (C := RX4) (As := [.ref (o + 607 + 1), .ref (o + 611 + 1), .int (zI (M82.1 0 3))]) (rest := []) CX.fix (c_run l (o + 623) rx110 ry110 (M82.1 0 15) (M82.1 0 16) (M82.1 25) (M82.1 26) rF110 rG110 (o + 607 + 1) (o + 607 + 2) (M82.1 20) (o + 611 + 1) (o + 611 + 2) (M82.1 22) (M82.1 0 3) hrx110 hrF110 hrG110 hP82.c6.2.1 hP82.c6.2.2.1 (zcan_le hC82.vw.2.1 (by have := hC82.vw.1; omega)) hP82.c7.2.1 hP82.c7.2.2.1 hC82.v2 (by omega) (by omega) (by omega) (by omega) (by omega)) (cwV 3 CX.fix.2.2.2.2 gX11_timesAt_X4_run rfl rfl rfl (by decide +kernel) ⟨Nat.le_of_ble_eq_true rfl, Nat.le_of_ble_eq_true rfl⟩) (z_preV CX hW (r := (RX4, TX4, 6)) hrdo110 rfl) rfl rfl hl.1 rfl (lv_room (Nat.le_of_ble_eq_true rfl)) dX11_timesAt_110 ⟨Nat.zero_le _, Nat.zero_le _⟩) (fun z110 g110 H locs hok hW => ?_)
      obtain ⟨hz, hs0, hx⟩ := hok
      have e110 : (zrunA (M82.1 0 3) (M82.1 20) (M82.1 22) (M82.1 26)).1 = z110 := hz.symm
      have hrs110 := zrunA_sm (M82.1 0 3) (M82.1 20) (M82.1 22) (M82.1 26)
      rw [e110] at hrs110
      obtain ⟨M110, em110⟩ : ∃ Mq, zw_run M82 (M82.1 20) (M82.1 22) (M82.1 0 3) = Mq := ⟨_, rfl⟩
      have hP110 : zCP cI cP cS cZ cM o M110 g110 := by rw [← em110]; exact zr_run hP82 hs0 hx
      have hC110 : zCI M110 := by rw [← em110]; exact zi_run hC82
      have hV110 : zVE M110 M := zVE.tr (by rw [← em110]; exact zv_run) hV82
      have tv110_3 : M110.1 0 3 = M.1 0 3 := hV110.2 0 3 (by omega) (by omega)
      have tv110_4 : M110.1 0 4 = M.1 0 4 := hV110.2 0 4 (by omega) (by omega)
      have hF110 : zFr f g110 o (o + 681) := zFr.trans hF82 (fun q hq => hs0 q (by omega))
      have ts110_10 : M110.1 0 10 = M82.1 0 10 := by rw [← em110]; rfl
      have ts110_11 : M110.1 0 11 = M82.1 0 11 := by rw [← em110]; rfl
      have ts110_12 : M110.1 0 12 = M82.1 0 12 := by rw [← em110]; rfl
      have hE : zc_timesAt M u v pt = (z110, M110) := by unfold zc_timesAt; exact zlet_e e12 (zlet_e em12 (zif_f c_15 (zlet_e e38 (zif_f c_41 (zlet_e em63 (zlet_e em82 (zlet_e e110 (zlet_e em110 rfl))))))))
      rw [← hQ]
      exact z_iret (z := z110) CX hW (by rw [hE]; exact ⟨rfl, hP110, hC110, hF110, hV110, (show -2 ≤ z110 ∧ z110 ≤ 32768 from by omega)⟩) rfl dX11_timesAt_113
    ·
      refine lv_bipush (v := zI (-2)) hX0 hB0 dX11_timesAt_44 (by decide) ?_
      have hE : zc_timesAt M u v pt = (-2, M12) := by unfold zc_timesAt; exact zlet_e e12 (zlet_e em12 (zif_f c_15 (zlet_e e38 (zif_t c_41 rfl))))
      rw [← hQ]
      exact z_iret (z := -2) CX hW (by rw [hE]; exact ⟨rfl, hP12, hC12, hF12, hV12, (show -2 ≤ (-2 : Int) ∧ (-2 : Int) ≤ 32768 from by omega)⟩) rfl dX11_timesAt_46
  ·
    refine lv_iconst (v := zI (-1)) hX0 hB0 dX11_timesAt_18 rfl ?_
    have hE : zc_timesAt M u v pt = (-1, M12) := by unfold zc_timesAt; exact zlet_e e12 (zlet_e em12 (zif_t c_15 rfl))
    rw [← hQ]
    exact z_iret (z := -1) CX hW (by rw [hE]; exact ⟨rfl, hP12, hC12, hF12, hV12, (show -2 ≤ (-1 : Int) ∧ (-1 : Int) ≤ 32768 from by omega)⟩) rfl dX11_timesAt_19
noncomputable def zc_times (M : zCt) (a : Int) (b : Int) (pt : Int) : Int × zCt := (if 0 ≤ a ∧ a < M.1 0 4 ∧ a < 6 then (if 0 ≤ b ∧ b < M.1 0 4 ∧ b < 6 then zlet (bI (zpt pt (M.1 0 3))) (fun z38 => (if z38 = 0 then (-1, M) else zlet (zw_common M (M.2.1 a.toNat) (M.2.1 b.toNat) (M.1 0 3)) (fun M61 => zlet (zc_timesAt M61 a b pt) (fun q71 => (fun (z71 : Int) (M71 : zCt) => (z71, M71)) q71.1 q71.2)))) else (-1, M)) else (if 0 ≤ b ∧ b < M.1 0 4 ∧ b < 6 then (-1, M) else (-1, M)))
set_option maxRecDepth 100000 in
set_option maxHeartbeats 4000000 in
theorem zd_times (l : Launch) {D : va_G} {cI cJ cZ cP cS cM : ClassId} {L : List Nat} {sz : Nat} {f : Nat → va_E} (o : Nat) (M : zCt) (a : Int) (b : Int) (pt : Int) (hP : zCP cI cP cS cZ cM o M f) (hC : zCI M) (ha : -2147483648 ≤ a ∧ a ≤ 2147483647) (hb : -2147483648 ≤ b ∧ b ≤ 2147483647) (hpt : -2147483648 ≤ pt ∧ pt ≤ 2147483647) : zMi l yX11_times wsX11_times 6 146 D (zT cI cJ cZ cP cS cM) L sz f [.ref o, .int (zI a), .int (zI b), .int (zI pt)] (fun zv gv => zv = (zc_times M a b pt).1 ∧ zCP cI cP cS cZ cM o (zc_times M a b pt).2 gv ∧ zCI (zc_times M a b pt).2 ∧ zFr f gv o (o + 681) ∧ zVE (zc_times M a b pt).2 M ∧ -2 ≤ zv ∧ zv ≤ 32768) := by
  refine zWalk.met (nL := 6) (ret := (some .int)) (cc := cX11_times) (by decide) rfl (Nat.le_of_ble_eq_true rfl) ?_
  intro pg en st mi ag bl mt cd ls CX hW hl
  have CX : zC pg st mi ag mt cd cX11_times 6 (some .int) RX11 wsX11_times := CX
  generalize hQ : MQ bl _ ag st 0 0 _ = Q
  have hX0 := CX.1
  have hB0 := CX.2.1
  have hl : lv_has ls 6 [(0, .ref o), (1, .int (zI a)), (2, .int (zI b)), (3, .int (zI pt))] := hl
  obtain ⟨H, eH⟩ : ∃ H, H = st.heap := ⟨_, rfl⟩
  obtain ⟨locs, eL⟩ : ∃ L : List Loc, L = [] := ⟨_, rfl⟩
  have hW : zW D (zT cI cJ cZ cP cS cM) L (zQ L sz) st f st.heap H locs := by rw [eH, eL]; exact hW
  suffices hgo : W pg l en ({ frames := 6, cells := 0, slots := 0, locals := 146 } : Room) st mi ag bl mt cd H locs 0 0 Q (F0 mi 0 ls []) by rw [eH, eL] at hgo; exact hgo
  clear eH eL
  have hpb := hC.p
  have hnb := hC.cn
  refine lv_aload_n hX0 hB0 dX11_times_0 rfl (lv_at hl 0 rfl) ?_
  refine z_get (Cn := RX11) (T := TX11) (N := 13) CX hW (v := .ref (o + 289)) (show f o = _ from hP.c0) rfl (fun w h => List.mem_cons_of_mem _ (List.mem_append_left _ (List.mem_append_left _ (List.mem_append_left _ (List.mem_append_left _ (List.mem_append_left _ (List.mem_append_left _ (List.mem_append_left _ (List.mem_append_right _ h))))))))) 1 (by decide) (List.mem_of_getElem? (i := 1) rfl) rfl rfl dX11_times_1 ?_
  refine lv_iload_n hX0 hB0 dX11_times_4 rfl (lv_at hl 1 rfl) ?_
  refine z_callr hW (va_runV (C := RX7) (As := [.int (zI a)]) (rest := []) CX.fix (c_find l (o + 289) (M.1 0 3) (M.1 0 4) M.2.1 (M.1 3) a hP.c3 (by omega) (by constructor <;> omega)) (cwV 1 CX.fix.2.2.2.2 gX11_times_X7_find rfl rfl rfl (by decide +kernel) ⟨Nat.le_of_ble_eq_true rfl, Nat.le_of_ble_eq_true rfl⟩) (z_preV CX hW (r := (RX7, TX7, 4)) hP.c3.1 rfl) rfl rfl hl.1 rfl (lv_room (Nat.le_of_ble_eq_true rfl)) dX11_times_5 ⟨Nat.zero_le _, Nat.zero_le _⟩) (fun z5 g5 H locs hok hW => ?_)
  obtain ⟨hz, hg⟩ := hok
  rw [hz]
  rw [hg] at hW
  clear hg
  by_cases cf_a_8 : 0 ≤ a ∧ a < M.1 0 4 ∧ a < 6
  ·
    have hzf := zfind_p (a := o + 289) cf_a_8
    rw [hzf]
    clear hzf
    refine lv_astore (lv' := [(4, .ref (o + 289 + 3 + 2 * a.toNat)), (0, .ref o), (1, .int (zI a)), (2, .int (zI b)), (3, .int (zI pt))]) hX0 hB0 dX11_times_8 hl (by decide) rfl (fun ls hl => ?_)
    refine lv_aload_n hX0 hB0 dX11_times_10 rfl (lv_at hl 1 rfl) ?_
    refine z_get (Cn := RX11) (T := TX11) (N := 13) CX hW (v := .ref (o + 289)) (show f o = _ from hP.c0) rfl (fun w h => List.mem_cons_of_mem _ (List.mem_append_left _ (List.mem_append_left _ (List.mem_append_left _ (List.mem_append_left _ (List.mem_append_left _ (List.mem_append_left _ (List.mem_append_left _ (List.mem_append_right _ h))))))))) 1 (by decide) (List.mem_of_getElem? (i := 1) rfl) rfl rfl dX11_times_11 ?_
    refine lv_iload_n hX0 hB0 dX11_times_14 rfl (lv_at hl 3 rfl) ?_
    refine z_callr hW (va_runV (C := RX7) (As := [.int (zI b)]) (rest := []) CX.fix (c_find l (o + 289) (M.1 0 3) (M.1 0 4) M.2.1 (M.1 3) b hP.c3 (by omega) (by constructor <;> omega)) (cwV 1 CX.fix.2.2.2.2 gX11_times_X7_find rfl rfl rfl (by decide +kernel) ⟨Nat.le_of_ble_eq_true rfl, Nat.le_of_ble_eq_true rfl⟩) (z_preV CX hW (r := (RX7, TX7, 4)) hP.c3.1 rfl) rfl rfl hl.1 rfl (lv_room (Nat.le_of_ble_eq_true rfl)) dX11_times_15 ⟨Nat.zero_le _, Nat.zero_le _⟩) (fun z15 g15 H locs hok hW => ?_)
    obtain ⟨hz, hg⟩ := hok
    rw [hz]
    rw [hg] at hW
    clear hg
    by_cases cf_b_18 : 0 ≤ b ∧ b < M.1 0 4 ∧ b < 6
    ·
      have hzf := zfind_p (a := o + 289) cf_b_18
      rw [hzf]
      clear hzf
      refine lv_astore (lv' := [(5, .ref (o + 289 + 3 + 2 * b.toNat)), (4, .ref (o + 289 + 3 + 2 * a.toNat)), (0, .ref o), (1, .int (zI a)), (2, .int (zI b)), (3, .int (zI pt))]) hX0 hB0 dX11_times_18 hl (by decide) rfl (fun ls hl => ?_)
      refine lv_aload hX0 hB0 dX11_times_20 (lv_at hl 1 rfl) ?_
      refine lv_ifnull hX0 hB0 dX11_times_22 ?_
      refine lv_aload hX0 hB0 dX11_times_25 (lv_at hl 0 rfl) ?_
      refine lv_ifnull hX0 hB0 dX11_times_27 ?_
      refine lv_iload_n hX0 hB0 dX11_times_30 rfl (lv_at hl 5 rfl) ?_
      refine lv_aload_n hX0 hB0 dX11_times_31 rfl (lv_at hl 2 rfl) ?_
      refine z_get (Cn := RX11) (T := TX11) (N := 13) CX hW (v := .ref (o + 289)) (show f o = _ from hP.c0) rfl (fun w h => List.mem_cons_of_mem _ (List.mem_append_left _ (List.mem_append_left _ (List.mem_append_left _ (List.mem_append_left _ (List.mem_append_left _ (List.mem_append_left _ (List.mem_append_left _ (List.mem_append_right _ h))))))))) 1 (by decide) (List.mem_of_getElem? (i := 1) rfl) rfl rfl dX11_times_32 ?_
      refine z_get (Cn := RX7) (T := TX7) (N := 4) CX hW (v := .int (zI (M.1 0 3))) hP.c3.1 rfl (fun w h => List.mem_cons_of_mem _ (List.mem_append_left _ (List.mem_append_left _ (List.mem_append_left _ (List.mem_append_left _ (List.mem_append_left _ (List.mem_append_left _ (List.mem_append_right _ h)))))))) 0 (by decide) (List.mem_of_getElem? (i := 2) rfl) rfl rfl dX11_times_35 ?_
      have hr35 := hC.p
      refine z_calli hW (va_runS (As := [.int (zI pt), .int (zI (M.1 0 3))]) (rest := []) CX.fix (c_isPoint l (f := f) pt (M.1 0 3) (by constructor <;> omega) (by omega)) (va_cwS 2 CX.fix.2.2.2.2 gX11_times_X9_isPoint rfl rfl rfl (by decide +kernel) ⟨Nat.le_of_ble_eq_true rfl, Nat.le_of_ble_eq_true rfl⟩) (z_preS CX hW) rfl rfl hl.1 rfl (lv_room (Nat.le_of_ble_eq_true rfl)) dX11_times_38 ⟨Nat.zero_le _, Nat.zero_le _⟩) (fun z38 g38 H locs hok hW => ?_)
      obtain ⟨hz, hg⟩ := hok
      have e38 : bI (zpt pt (M.1 0 3)) = z38 := hz.symm
      have hb38 := bI_01 (zpt pt (M.1 0 3))
      rw [e38] at hb38
      rw [hg] at hW
      clear hg
      refine z_if_ne (tgt := 46) CX dX11_times_41 (by decide) (by constructor <;> omega) (fun c_41 => ?_) (fun c_41 => ?_)
      ·
        refine lv_aload_n hX0 hB0 dX11_times_46 rfl (lv_at hl 2 rfl) ?_
        refine z_get (Cn := RX11) (T := TX11) (N := 13) CX hW (v := .ref (o + 615)) (show f o = _ from hP.c0) rfl (fun w h => List.mem_cons_of_mem _ (List.mem_append_left _ (List.mem_append_left _ (List.mem_append_left _ (List.mem_append_left _ (List.mem_append_left _ (List.mem_append_left _ (List.mem_append_left _ (List.mem_append_right _ h))))))))) 6 (by decide) (List.mem_of_getElem? (i := 3) rfl) rfl rfl dX11_times_47 ?_
        refine lv_aload hX0 hB0 dX11_times_50 (lv_at hl 1 rfl) ?_
        refine lv_aload hX0 hB0 dX11_times_52 (lv_at hl 0 rfl) ?_
        refine lv_aload_n hX0 hB0 dX11_times_54 rfl (lv_at hl 2 rfl) ?_
        refine z_get (Cn := RX11) (T := TX11) (N := 13) CX hW (v := .ref (o + 289)) (show f o = _ from hP.c0) rfl (fun w h => List.mem_cons_of_mem _ (List.mem_append_left _ (List.mem_append_left _ (List.mem_append_left _ (List.mem_append_left _ (List.mem_append_left _ (List.mem_append_left _ (List.mem_append_left _ (List.mem_append_right _ h))))))))) 1 (by decide) (List.mem_of_getElem? (i := 1) rfl) rfl rfl dX11_times_55 ?_
        refine z_get (Cn := RX7) (T := TX7) (N := 4) CX hW (v := .int (zI (M.1 0 3))) hP.c3.1 rfl (fun w h => List.mem_cons_of_mem _ (List.mem_append_left _ (List.mem_append_left _ (List.mem_append_left _ (List.mem_append_left _ (List.mem_append_left _ (List.mem_append_left _ (List.mem_append_right _ h)))))))) 0 (by decide) (List.mem_of_getElem? (i := 2) rfl) rfl rfl dX11_times_58 ?_
        have hr58 := hC.p
        obtain ⟨cc61, cr61, ln61, hsx61⟩ := hP.c8
        obtain ⟨w61, lim61, pq61, R61, K61, hk61, hR61⟩ := hP.c1
        refine z_callr hW (va_runV (C := RX6) (As := [.ref (o + 289 + 3 + 2 * a.toNat), .ref (o + 289 + 3 + 2 * b.toNat), .int (zI (M.1 0 3))]) (rest := []) CX.fix (c_common l (o + 615) (o + 1) (M.1 24) cc61 cr61 ln61 (o + 289 + 3 + 2 * a.toNat) (o + 289 + 3 + 2 * a.toNat + 1) (M.2.1 a.toNat) (o + 289 + 3 + 2 * b.toNat) (o + 289 + 3 + 2 * b.toNat + 1) (M.2.1 b.toNat) w61 lim61 pq61 R61 K61 (M.1 0 3) hsx61 (hP.poly (k := a.toNat) (by omega)).1 (hP.poly (k := a.toNat) (by omega)).2 (hC.poly (k := a) (by omega) (by omega)) (by omega) (by omega) (hP.poly (k := b.toNat) (by omega)).1 (hP.poly (k := b.toNat) (by omega)).2 (hC.poly (k := b) (by omega) (by omega)) (by omega) (by omega) (by omega) (by omega) hk61 hR61 (by omega) (by omega) (by omega) (by omega)) (cwV 3 CX.fix.2.2.2.2 gX11_times_X6_find rfl rfl rfl (by decide +kernel) ⟨Nat.le_of_ble_eq_true rfl, Nat.le_of_ble_eq_true rfl⟩) (z_preV CX hW (r := (RX6, TX6, 5)) hP.shob rfl) rfl rfl hl.1 rfl (lv_room (Nat.le_of_ble_eq_true rfl)) dX11_times_61 ⟨Nat.zero_le _, Nat.zero_le _⟩) (fun z61 g61 H locs hok hW => ?_)
        obtain ⟨hz, hs0, hx⟩ := hok
        have hz : va_rf z61 = .ref (o + 615 + 1) := by rw [hz]; rfl
        rw [hz]
        obtain ⟨M61, em61⟩ : ∃ Mq, zw_common M (M.2.1 a.toNat) (M.2.1 b.toNat) (M.1 0 3) = Mq := ⟨_, rfl⟩
        have hP61 : zCP cI cP cS cZ cM o M61 g61 := by rw [← em61]; exact zr_common hP hs0 hx
        have hC61 : zCI M61 := by rw [← em61]; exact zi_common hC (by omega)
        have hV61 : zVE M61 M := zVE.tr (by rw [← em61]; exact zv_common) zVE.rf
        have tv61_3 : M61.1 0 3 = M.1 0 3 := hV61.2 0 3 (by omega) (by omega)
        have tv61_4 : M61.1 0 4 = M.1 0 4 := hV61.2 0 4 (by omega) (by omega)
        have hF61 : zFr f g61 o (o + 681) := zFr.trans zFr.refl (fun q hq => hs0 q (by omega))
        refine lv_pop hX0 hB0 dX11_times_64 rfl ?_
        refine lv_aload_n hX0 hB0 dX11_times_65 rfl (lv_at hl 2 rfl) ?_
        refine lv_aload hX0 hB0 dX11_times_66 (lv_at hl 1 rfl) ?_
        refine lv_aload hX0 hB0 dX11_times_68 (lv_at hl 0 rfl) ?_
        refine lv_iload_n hX0 hB0 dX11_times_70 rfl (lv_at hl 5 rfl) ?_
        refine z_calli hW (va_runV (C := RX11) (As := [.ref (o + 289 + 3 + 2 * a.toNat), .ref (o + 289 + 3 + 2 * b.toNat), .int (zI pt)]) (rest := []) CX.fix (zd_timesAt l o M61 a b pt hP61 hC61 (by constructor <;> omega) (by constructor <;> omega) (by constructor <;> omega)) (cwV 3 CX.fix.2.2.2.2 gX11_times_X11_timesAt rfl rfl rfl (by decide +kernel) ⟨Nat.le_of_ble_eq_true rfl, Nat.le_of_ble_eq_true rfl⟩) (z_preV CX hW (r := (RX11, TX11, 13)) (show g61 o = _ from hP61.c0) rfl) rfl rfl hl.1 rfl (lv_room (Nat.le_of_ble_eq_true rfl)) dX11_times_71 ⟨Nat.zero_le _, Nat.zero_le _⟩) (fun z71 g71 H locs hok hW => ?_)
        obtain ⟨hz71, hp, hc, hfr, hv, hq71⟩ := hok
        obtain ⟨M71, hS71⟩ : ∃ Mq, Mq = (zc_timesAt M61 a b pt).2 := ⟨_, rfl⟩
        rw [← hS71] at hp hc hv
        try rw [← hS71] at hq71
        have e71 : zc_timesAt M61 a b pt = (z71, M71) := Prod.ext hz71.symm hS71.symm
        clear hz71 hS71
        have hP71 := hp
        have hC71 := hc
        have hF71 : zFr f g71 o (o + 681) := zFr.trans hF61 hfr
        clear hp hc hfr
        have hV71 : zVE M71 M := zVE.tr hv hV61
        have tv71_3 : M71.1 0 3 = M.1 0 3 := hV71.2 0 3 (by omega) (by omega)
        have tv71_4 : M71.1 0 4 = M.1 0 4 := hV71.2 0 4 (by omega) (by omega)
        clear hv
        have hE : zc_times M a b pt = (z71, M71) := by unfold zc_times; exact zif_t cf_a_8 (zif_t cf_b_18 (zlet_e e38 (zif_f c_41 (zlet_e em61 (zlet_e e71 rfl)))))
        rw [← hQ]
        exact z_iret (z := z71) CX hW (by rw [hE]; exact ⟨rfl, hP71, hC71, hF71, hV71, (show -2 ≤ z71 ∧ z71 ≤ 32768 from by omega)⟩) rfl dX11_times_74
      ·
        refine lv_iconst (v := zI (-1)) hX0 hB0 dX11_times_44 rfl ?_
        have hE : zc_times M a b pt = (-1, M) := by unfold zc_times; exact zif_t cf_a_8 (zif_t cf_b_18 (zlet_e e38 (zif_t c_41 rfl)))
        rw [← hQ]
        exact z_iret (z := -1) CX hW (by rw [hE]; exact ⟨rfl, hP, hC, zFr.refl, zVE.rf, (show -2 ≤ (-1 : Int) ∧ (-1 : Int) ≤ 32768 from by omega)⟩) rfl dX11_times_45
    ·
      have hzf := zfind_n (a := o + 289) cf_b_18
      rw [hzf]
      clear hzf
      refine lv_astoreN (lv' := [(5, .null), (4, .ref (o + 289 + 3 + 2 * a.toNat)), (0, .ref o), (1, .int (zI a)), (2, .int (zI b)), (3, .int (zI pt))]) hX0 hB0 dX11_times_18 hl (by decide) rfl (fun ls hl => ?_)
      refine lv_aload hX0 hB0 dX11_times_20 (lv_at hl 1 rfl) ?_
      refine lv_ifnull hX0 hB0 dX11_times_22 ?_
      refine lv_aloadN hX0 hB0 dX11_times_25 (lv_at hl 0 rfl) ?_
      refine lv_ifnullN (tgt := 44) hX0 hB0 dX11_times_27 (by decide) ?_
      refine lv_iconst (v := zI (-1)) hX0 hB0 dX11_times_44 rfl ?_
      have hE : zc_times M a b pt = (-1, M) := by unfold zc_times; exact zif_t cf_a_8 (zif_f cf_b_18 rfl)
      rw [← hQ]
      exact z_iret (z := -1) CX hW (by rw [hE]; exact ⟨rfl, hP, hC, zFr.refl, zVE.rf, (show -2 ≤ (-1 : Int) ∧ (-1 : Int) ≤ 32768 from by omega)⟩) rfl dX11_times_45
  ·
    have hzf := zfind_n (a := o + 289) cf_a_8
    rw [hzf]
    clear hzf
    refine lv_astoreN (lv' := [(4, .null), (0, .ref o), (1, .int (zI a)), (2, .int (zI b)), (3, .int (zI pt))]) hX0 hB0 dX11_times_8 hl (by decide) rfl (fun ls hl => ?_)
    refine lv_aload_n hX0 hB0 dX11_times_10 rfl (lv_at hl 1 rfl) ?_
    refine z_get (Cn := RX11) (T := TX11) (N := 13) CX hW (v := .ref (o + 289)) (show f o = _ from hP.c0) rfl (fun w h => List.mem_cons_of_mem _ (List.mem_append_left _ (List.mem_append_left _ (List.mem_append_left _ (List.mem_append_left _ (List.mem_append_left _ (List.mem_append_left _ (List.mem_append_left _ (List.mem_append_right _ h))))))))) 1 (by decide) (List.mem_of_getElem? (i := 1) rfl) rfl rfl dX11_times_11 ?_
    refine lv_iload_n hX0 hB0 dX11_times_14 rfl (lv_at hl 3 rfl) ?_
    refine z_callr hW (va_runV (C := RX7) (As := [.int (zI b)]) (rest := []) CX.fix (c_find l (o + 289) (M.1 0 3) (M.1 0 4) M.2.1 (M.1 3) b hP.c3 (by omega) (by constructor <;> omega)) (cwV 1 CX.fix.2.2.2.2 gX11_times_X7_find rfl rfl rfl (by decide +kernel) ⟨Nat.le_of_ble_eq_true rfl, Nat.le_of_ble_eq_true rfl⟩) (z_preV CX hW (r := (RX7, TX7, 4)) hP.c3.1 rfl) rfl rfl hl.1 rfl (lv_room (Nat.le_of_ble_eq_true rfl)) dX11_times_15 ⟨Nat.zero_le _, Nat.zero_le _⟩) (fun z15 g15 H locs hok hW => ?_)
    obtain ⟨hz, hg⟩ := hok
    rw [hz]
    rw [hg] at hW
    clear hg
    by_cases cf_b_18 : 0 ≤ b ∧ b < M.1 0 4 ∧ b < 6
    ·
      have hzf := zfind_p (a := o + 289) cf_b_18
      rw [hzf]
      clear hzf
      refine lv_astore (lv' := [(5, .ref (o + 289 + 3 + 2 * b.toNat)), (4, .null), (0, .ref o), (1, .int (zI a)), (2, .int (zI b)), (3, .int (zI pt))]) hX0 hB0 dX11_times_18 hl (by decide) rfl (fun ls hl => ?_)
      refine lv_aloadN hX0 hB0 dX11_times_20 (lv_at hl 1 rfl) ?_
      refine lv_ifnullN (tgt := 44) hX0 hB0 dX11_times_22 (by decide) ?_
      refine lv_iconst (v := zI (-1)) hX0 hB0 dX11_times_44 rfl ?_
      have hE : zc_times M a b pt = (-1, M) := by unfold zc_times; exact zif_f cf_a_8 (zif_t cf_b_18 rfl)
      rw [← hQ]
      exact z_iret (z := -1) CX hW (by rw [hE]; exact ⟨rfl, hP, hC, zFr.refl, zVE.rf, (show -2 ≤ (-1 : Int) ∧ (-1 : Int) ≤ 32768 from by omega)⟩) rfl dX11_times_45
    ·
      have hzf := zfind_n (a := o + 289) cf_b_18
      rw [hzf]
      clear hzf
      refine lv_astoreN (lv' := [(5, .null), (4, .null), (0, .ref o), (1, .int (zI a)), (2, .int (zI b)), (3, .int (zI pt))]) hX0 hB0 dX11_times_18 hl (by decide) rfl (fun ls hl => ?_)
      refine lv_aloadN hX0 hB0 dX11_times_20 (lv_at hl 1 rfl) ?_
      refine lv_ifnullN (tgt := 44) hX0 hB0 dX11_times_22 (by decide) ?_
      refine lv_iconst (v := zI (-1)) hX0 hB0 dX11_times_44 rfl ?_
      have hE : zc_times M a b pt = (-1, M) := by unfold zc_times; exact zif_f cf_a_8 (zif_f cf_b_18 rfl)
      rw [← hQ]
      exact z_iret (z := -1) CX hW (by rw [hE]; exact ⟨rfl, hP, hC, zFr.refl, zVE.rf, (show -2 ≤ (-1 : Int) ∧ (-1 : Int) ≤ 32768 from by omega)⟩) rfl dX11_times_45
noncomputable def zc_rules (M : zCt) (a : Int) (b : Int) (pt : Int) (kd : Int) : Int × zCt := (if kd < 0 then (-1, M) else (if kd < 4 then zlet (zc_times M a b pt) (fun q17 => (fun (z17 : Int) (M17 : zCt) => (if 0 ≤ z17 then (M17.1 25 kd.toNat, M17) else (-1, M17))) q17.1 q17.2) else (-1, M)))
set_option maxRecDepth 100000 in
set_option maxHeartbeats 4000000 in
theorem zd_rules (l : Launch) {D : va_G} {cI cJ cZ cP cS cM : ClassId} {L : List Nat} {sz : Nat} {f : Nat → va_E} (o : Nat) (M : zCt) (a : Int) (b : Int) (pt : Int) (kd : Int) (hP : zCP cI cP cS cZ cM o M f) (hC : zCI M) (ha : -2147483648 ≤ a ∧ a ≤ 2147483647) (hb : -2147483648 ≤ b ∧ b ≤ 2147483647) (hpt : -2147483648 ≤ pt ∧ pt ≤ 2147483647) (hkd : -2147483648 ≤ kd ∧ kd ≤ 2147483647) : zMi l yX11_rules wsX11_rules 7 171 D (zT cI cJ cZ cP cS cM) L sz f [.ref o, .int (zI a), .int (zI b), .int (zI pt), .int (zI kd)] (fun zv gv => zv = (zc_rules M a b pt kd).1 ∧ zCP cI cP cS cZ cM o (zc_rules M a b pt kd).2 gv ∧ zCI (zc_rules M a b pt kd).2 ∧ zFr f gv o (o + 681) ∧ zVE (zc_rules M a b pt kd).2 M ∧ True) := by
  refine zWalk.met (nL := 5) (ret := (some .int)) (cc := cX11_rules) (by decide) rfl (Nat.le_of_ble_eq_true rfl) ?_
  intro pg en st mi ag bl mt cd ls CX hW hl
  have CX : zC pg st mi ag mt cd cX11_rules 5 (some .int) RX11 wsX11_rules := CX
  generalize hQ : MQ bl _ ag st 0 0 _ = Q
  have hX0 := CX.1
  have hB0 := CX.2.1
  have hl : lv_has ls 5 [(0, .ref o), (1, .int (zI a)), (2, .int (zI b)), (3, .int (zI pt)), (4, .int (zI kd))] := hl
  obtain ⟨H, eH⟩ : ∃ H, H = st.heap := ⟨_, rfl⟩
  obtain ⟨locs, eL⟩ : ∃ L : List Loc, L = [] := ⟨_, rfl⟩
  have hW : zW D (zT cI cJ cZ cP cS cM) L (zQ L sz) st f st.heap H locs := by rw [eH, eL]; exact hW
  suffices hgo : W pg l en ({ frames := 7, cells := 0, slots := 0, locals := 171 } : Room) st mi ag bl mt cd H locs 0 0 Q (F0 mi 0 ls []) by rw [eH, eL] at hgo; exact hgo
  clear eH eL
  have hpb := hC.p
  have hnb := hC.cn
  refine lv_iload hX0 hB0 dX11_rules_0 (lv_at hl 4 rfl) ?_
  refine z_if_lt (tgt := 11) CX dX11_rules_2 (by decide) (by constructor <;> omega) (fun c_2 => ?_) (fun c_2 => ?_)
  ·
    refine lv_iconst (v := zI (-1)) hX0 hB0 dX11_rules_11 rfl ?_
    have hE : zc_rules M a b pt kd = (-1, M) := by unfold zc_rules; exact zif_t c_2 rfl
    rw [← hQ]
    exact z_iret (z := -1) CX hW (by rw [hE]; exact ⟨rfl, hP, hC, zFr.refl, zVE.rf, trivial⟩) rfl dX11_rules_12
  ·
    have d_2 : ¬ kd < 0 := by omega
    refine lv_iload hX0 hB0 dX11_rules_5 (lv_at hl 4 rfl) ?_
    refine lv_iconst (v := zI 4) hX0 hB0 dX11_rules_7 rfl ?_
    refine z_icmp_lt (tgt := 13) CX dX11_rules_8 (by decide) (by constructor <;> omega) (by constructor <;> omega) (fun c_8 => ?_) (fun c_8 => ?_)
    ·
      refine lv_aload_n hX0 hB0 dX11_rules_13 rfl (lv_at hl 0 rfl) ?_
      refine lv_iload_n hX0 hB0 dX11_rules_14 rfl (lv_at hl 1 rfl) ?_
      refine lv_iload_n hX0 hB0 dX11_rules_15 rfl (lv_at hl 2 rfl) ?_
      refine lv_iload_n hX0 hB0 dX11_rules_16 rfl (lv_at hl 3 rfl) ?_
      refine z_calli hW (va_runV (C := RX11) (As := [.int (zI a), .int (zI b), .int (zI pt)]) (rest := []) CX.fix (zd_times l o M a b pt hP hC (by constructor <;> omega) (by constructor <;> omega) (by constructor <;> omega)) (cwV 3 CX.fix.2.2.2.2 gX11_rules_X11_times rfl rfl rfl (by decide +kernel) ⟨Nat.le_of_ble_eq_true rfl, Nat.le_of_ble_eq_true rfl⟩) (z_preV CX hW (r := (RX11, TX11, 13)) (show f o = _ from hP.c0) rfl) rfl rfl hl.1 rfl (lv_room (Nat.le_of_ble_eq_true rfl)) dX11_rules_17 ⟨Nat.zero_le _, Nat.zero_le _⟩) (fun z17 g17 H locs hok hW => ?_)
      obtain ⟨hz17, hp, hc, hfr, hv, hq17⟩ := hok
      obtain ⟨M17, hS17⟩ : ∃ Mq, Mq = (zc_times M a b pt).2 := ⟨_, rfl⟩
      rw [← hS17] at hp hc hv
      try rw [← hS17] at hq17
      have e17 : zc_times M a b pt = (z17, M17) := Prod.ext hz17.symm hS17.symm
      clear hz17 hS17
      have hP17 := hp
      have hC17 := hc
      have hF17 : zFr f g17 o (o + 681) := zFr.trans zFr.refl hfr
      clear hp hc hfr
      have hV17 : zVE M17 M := zVE.tr hv zVE.rf
      have tv17_3 : M17.1 0 3 = M.1 0 3 := hV17.2 0 3 (by omega) (by omega)
      have tv17_4 : M17.1 0 4 = M.1 0 4 := hV17.2 0 4 (by omega) (by omega)
      clear hv
      refine z_if_ge (tgt := 27) CX dX11_rules_20 (by decide) (by constructor <;> omega) (fun c_20 => ?_) (fun c_20 => ?_)
      ·
        refine lv_aload_n hX0 hB0 dX11_rules_27 rfl (lv_at hl 0 rfl) ?_
        refine z_get (Cn := RX11) (T := TX11) (N := 13) CX hW (v := .ref (o + 623)) (show g17 o = _ from hP17.c0) rfl (fun w h => List.mem_cons_of_mem _ (List.mem_append_left _ (List.mem_append_left _ (List.mem_append_left _ (List.mem_append_left _ (List.mem_append_left _ (List.mem_append_left _ (List.mem_append_left _ (List.mem_append_right _ h))))))))) 7 (by decide) (List.mem_of_getElem? (i := 1) rfl) rfl rfl dX11_rules_28 ?_
        obtain ⟨rx31, ry31, rF31, rG31, hrx31, hrF31⟩ := hP17.c9
        have hrk31 := hrx31.1
        have hoft31 := hrx31.2.1
        refine z_get (Cn := RX4) (T := TX4) (N := 6) CX hW (v := .ref (o + 623 + 1)) hrk31 rfl (fun w h => List.mem_cons_of_mem _ (List.mem_append_left _ (List.mem_append_left _ (List.mem_append_left _ (List.mem_append_left _ (List.mem_append_left _ (List.mem_append_left _ (List.mem_append_right _ h)))))))) 0 (by decide) (List.mem_of_getElem? (i := 2) rfl) rfl rfl dX11_rules_31 ?_
        refine lv_iload hX0 hB0 dX11_rules_34 (lv_at hl 4 rfl) ?_
        refine z_iald (z := M17.1 25 kd.toNat) CX hW hoft31 0 rfl (by refine ⟨?_, ?_, ?_⟩ <;> omega) rfl dX11_rules_36 ?_
        have hE : zc_rules M a b pt kd = (M17.1 25 kd.toNat, M17) := by unfold zc_rules; exact zif_f d_2 (zif_t c_8 (zlet_e e17 (zif_t c_20 rfl)))
        rw [← hQ]
        exact z_iret (z := M17.1 25 kd.toNat) CX hW (by rw [hE]; exact ⟨rfl, hP17, hC17, hF17, hV17, trivial⟩) rfl dX11_rules_37
      ·
        have d_20 : ¬ 0 ≤ z17 := by omega
        refine lv_iconst (v := zI (-1)) hX0 hB0 dX11_rules_23 rfl ?_
        refine lv_goto (tgt := 37) hX0 hB0 dX11_rules_24 (by decide) ?_
        have hE : zc_rules M a b pt kd = (-1, M17) := by unfold zc_rules; exact zif_f d_2 (zif_t c_8 (zlet_e e17 (zif_f d_20 rfl)))
        rw [← hQ]
        exact z_iret (z := -1) CX hW (by rw [hE]; exact ⟨rfl, hP17, hC17, hF17, hV17, trivial⟩) rfl dX11_rules_37
    ·
      have d_8 : ¬ kd < 4 := by omega
      refine lv_iconst (v := zI (-1)) hX0 hB0 dX11_rules_11 rfl ?_
      have hE : zc_rules M a b pt kd = (-1, M) := by unfold zc_rules; exact zif_f d_2 (zif_f d_8 rfl)
      rw [← hQ]
      exact z_iret (z := -1) CX hW (by rw [hE]; exact ⟨rfl, hP, hC, zFr.refl, zVE.rf, trivial⟩) rfl dX11_rules_12
noncomputable def zc_rule (M : zCt) (a : Int) (b : Int) (pt : Int) (k : Int) : Int × zCt := zlet (zc_times M a b pt) (fun q4 => (fun (z4 : Int) (M4 : zCt) => (if 0 ≤ z4 then zlet ((if 0 ≤ k ∧ k < M4.1 0 15 ∧ k < 2048 then M4.1 26 (k).toNat else -1)) (fun z20 => (z20, M4)) else (-1, M4))) q4.1 q4.2)
set_option maxRecDepth 100000 in
set_option maxHeartbeats 4000000 in
theorem zd_rule (l : Launch) {D : va_G} {cI cJ cZ cP cS cM : ClassId} {L : List Nat} {sz : Nat} {f : Nat → va_E} (o : Nat) (M : zCt) (a : Int) (b : Int) (pt : Int) (k : Int) (hP : zCP cI cP cS cZ cM o M f) (hC : zCI M) (ha : -2147483648 ≤ a ∧ a ≤ 2147483647) (hb : -2147483648 ≤ b ∧ b ≤ 2147483647) (hpt : -2147483648 ≤ pt ∧ pt ≤ 2147483647) (hk : -2147483648 ≤ k ∧ k ≤ 2147483647) : zMi l yX11_rule wsX11_rule 7 171 D (zT cI cJ cZ cP cS cM) L sz f [.ref o, .int (zI a), .int (zI b), .int (zI pt), .int (zI k)] (fun zv gv => zv = (zc_rule M a b pt k).1 ∧ zCP cI cP cS cZ cM o (zc_rule M a b pt k).2 gv ∧ zCI (zc_rule M a b pt k).2 ∧ zFr f gv o (o + 681) ∧ zVE (zc_rule M a b pt k).2 M ∧ True) := by
  refine zWalk.met (nL := 5) (ret := (some .int)) (cc := cX11_rule) (by decide) rfl (Nat.le_of_ble_eq_true rfl) ?_
  intro pg en st mi ag bl mt cd ls CX hW hl
  have CX : zC pg st mi ag mt cd cX11_rule 5 (some .int) RX11 wsX11_rule := CX
  generalize hQ : MQ bl _ ag st 0 0 _ = Q
  have hX0 := CX.1
  have hB0 := CX.2.1
  have hl : lv_has ls 5 [(0, .ref o), (1, .int (zI a)), (2, .int (zI b)), (3, .int (zI pt)), (4, .int (zI k))] := hl
  obtain ⟨H, eH⟩ : ∃ H, H = st.heap := ⟨_, rfl⟩
  obtain ⟨locs, eL⟩ : ∃ L : List Loc, L = [] := ⟨_, rfl⟩
  have hW : zW D (zT cI cJ cZ cP cS cM) L (zQ L sz) st f st.heap H locs := by rw [eH, eL]; exact hW
  suffices hgo : W pg l en ({ frames := 7, cells := 0, slots := 0, locals := 171 } : Room) st mi ag bl mt cd H locs 0 0 Q (F0 mi 0 ls []) by rw [eH, eL] at hgo; exact hgo
  clear eH eL
  have hpb := hC.p
  have hnb := hC.cn
  refine lv_aload_n hX0 hB0 dX11_rule_0 rfl (lv_at hl 0 rfl) ?_
  refine lv_iload_n hX0 hB0 dX11_rule_1 rfl (lv_at hl 1 rfl) ?_
  refine lv_iload_n hX0 hB0 dX11_rule_2 rfl (lv_at hl 2 rfl) ?_
  refine lv_iload_n hX0 hB0 dX11_rule_3 rfl (lv_at hl 3 rfl) ?_
  refine z_calli hW (va_runV (C := RX11) (As := [.int (zI a), .int (zI b), .int (zI pt)]) (rest := []) CX.fix (zd_times l o M a b pt hP hC (by constructor <;> omega) (by constructor <;> omega) (by constructor <;> omega)) (cwV 3 CX.fix.2.2.2.2 gX11_rule_X11_times rfl rfl rfl (by decide +kernel) ⟨Nat.le_of_ble_eq_true rfl, Nat.le_of_ble_eq_true rfl⟩) (z_preV CX hW (r := (RX11, TX11, 13)) (show f o = _ from hP.c0) rfl) rfl rfl hl.1 rfl (lv_room (Nat.le_of_ble_eq_true rfl)) dX11_rule_4 ⟨Nat.zero_le _, Nat.zero_le _⟩) (fun z4 g4 H locs hok hW => ?_)
  obtain ⟨hz4, hp, hc, hfr, hv, hq4⟩ := hok
  obtain ⟨M4, hS4⟩ : ∃ Mq, Mq = (zc_times M a b pt).2 := ⟨_, rfl⟩
  rw [← hS4] at hp hc hv
  try rw [← hS4] at hq4
  have e4 : zc_times M a b pt = (z4, M4) := Prod.ext hz4.symm hS4.symm
  clear hz4 hS4
  have hP4 := hp
  have hC4 := hc
  have hF4 : zFr f g4 o (o + 681) := zFr.trans zFr.refl hfr
  clear hp hc hfr
  have hV4 : zVE M4 M := zVE.tr hv zVE.rf
  have tv4_3 : M4.1 0 3 = M.1 0 3 := hV4.2 0 3 (by omega) (by omega)
  have tv4_4 : M4.1 0 4 = M.1 0 4 := hV4.2 0 4 (by omega) (by omega)
  clear hv
  refine z_if_ge (tgt := 14) CX dX11_rule_7 (by decide) (by constructor <;> omega) (fun c_7 => ?_) (fun c_7 => ?_)
  ·
    refine lv_aload_n hX0 hB0 dX11_rule_14 rfl (lv_at hl 0 rfl) ?_
    refine z_get (Cn := RX11) (T := TX11) (N := 13) CX hW (v := .ref (o + 623)) (show g4 o = _ from hP4.c0) rfl (fun w h => List.mem_cons_of_mem _ (List.mem_append_left _ (List.mem_append_left _ (List.mem_append_left _ (List.mem_append_left _ (List.mem_append_left _ (List.mem_append_left _ (List.mem_append_left _ (List.mem_append_right _ h))))))))) 7 (by decide) (List.mem_of_getElem? (i := 1) rfl) rfl rfl dX11_rule_15 ?_
    refine lv_iload hX0 hB0 dX11_rule_18 (lv_at hl 4 rfl) ?_
    obtain ⟨rx20, ry20, rF20, rG20, hrx20, hrF20, hrG20⟩ := hP4.c9
    have hrdo20 := hrx20.1
    refine z_calli hW (va_runV (C := RX4) (As := [.int (zI k)]) (rest := []) CX.fix (c_kindOf l (o + 623) rx20 ry20 (M4.1 0 15) (M4.1 0 16) (M4.1 25) (M4.1 26) rF20 rG20 k hrx20 hrF20 hrG20 hC4.st (by constructor <;> omega)) (cwV 1 CX.fix.2.2.2.2 gX11_rule_X4_kindOf rfl rfl rfl (by decide +kernel) ⟨Nat.le_of_ble_eq_true rfl, Nat.le_of_ble_eq_true rfl⟩) (z_preV CX hW (r := (RX4, TX4, 6)) hrdo20 rfl) rfl rfl hl.1 rfl (lv_room (Nat.le_of_ble_eq_true rfl)) dX11_rule_20 ⟨Nat.zero_le _, Nat.zero_le _⟩) (fun z20 g20 H locs hok hW => ?_)
    obtain ⟨hz, hg⟩ := hok
    have e20 : (if 0 ≤ k ∧ k < M4.1 0 15 ∧ k < 2048 then M4.1 26 (k).toNat else -1) = z20 := hz.symm
    rw [hg] at hW
    clear hg
    have hE : zc_rule M a b pt k = (z20, M4) := by unfold zc_rule; exact zlet_e e4 (zif_t c_7 (zlet_e e20 rfl))
    rw [← hQ]
    exact z_iret (z := z20) CX hW (by rw [hE]; exact ⟨rfl, hP4, hC4, hF4, hV4, trivial⟩) rfl dX11_rule_23
  ·
    have d_7 : ¬ 0 ≤ z4 := by omega
    refine lv_iconst (v := zI (-1)) hX0 hB0 dX11_rule_10 rfl ?_
    refine lv_goto (tgt := 23) hX0 hB0 dX11_rule_11 (by decide) ?_
    have hE : zc_rule M a b pt k = (-1, M4) := by unfold zc_rule; exact zlet_e e4 (zif_f d_7 rfl)
    rw [← hQ]
    exact z_iret (z := -1) CX hW (by rw [hE]; exact ⟨rfl, hP4, hC4, hF4, hV4, trivial⟩) rfl dX11_rule_23
noncomputable def zc_size (M : zCt) (a : Int) (b : Int) (pt : Int) : Int × zCt := (if 0 ≤ a ∧ a < M.1 0 4 ∧ a < 6 then (if 0 ≤ b ∧ b < M.1 0 4 ∧ b < 6 then zlet (bI (zpt pt (M.1 0 3))) (fun z42 => zlet (zw_go M pt (M.1 0 3)) (fun M42 => (if z42 = 0 then (-1, M42) else zlet (zw_look1 M42 (M42.2.1 a.toNat) (M42.1 0 3)) (fun M67 => zlet (zw_look2 M67 (M67.2.1 b.toNat) (M67.1 0 3)) (fun M87 => zlet (zszP (M87.1 20) (M87.1 22) (M87.1 0 3)) (fun z115 => (z115, M87))))))) else (-1, M)) else (if 0 ≤ b ∧ b < M.1 0 4 ∧ b < 6 then (-1, M) else (-1, M)))
set_option maxRecDepth 100000 in
set_option maxHeartbeats 4000000 in
theorem zd_size (l : Launch) {D : va_G} {cI cJ cZ cP cS cM : ClassId} {L : List Nat} {sz : Nat} {f : Nat → va_E} (o : Nat) (M : zCt) (a : Int) (b : Int) (pt : Int) (hP : zCP cI cP cS cZ cM o M f) (hC : zCI M) (ha : -2147483648 ≤ a ∧ a ≤ 2147483647) (hb : -2147483648 ≤ b ∧ b ≤ 2147483647) (hpt : -2147483648 ≤ pt ∧ pt ≤ 2147483647) : zMi l yX11_size wsX11_size 6 143 D (zT cI cJ cZ cP cS cM) L sz f [.ref o, .int (zI a), .int (zI b), .int (zI pt)] (fun zv gv => zv = (zc_size M a b pt).1 ∧ zCP cI cP cS cZ cM o (zc_size M a b pt).2 gv ∧ zCI (zc_size M a b pt).2 ∧ zFr f gv o (o + 681) ∧ zVE (zc_size M a b pt).2 M ∧ True) := by
  refine zWalk.met (nL := 6) (ret := (some .int)) (cc := cX11_size) (by decide) rfl (Nat.le_of_ble_eq_true rfl) ?_
  intro pg en st mi ag bl mt cd ls CX hW hl
  have CX : zC pg st mi ag mt cd cX11_size 6 (some .int) RX11 wsX11_size := CX
  generalize hQ : MQ bl _ ag st 0 0 _ = Q
  have hX0 := CX.1
  have hB0 := CX.2.1
  have hl : lv_has ls 6 [(0, .ref o), (1, .int (zI a)), (2, .int (zI b)), (3, .int (zI pt))] := hl
  obtain ⟨H, eH⟩ : ∃ H, H = st.heap := ⟨_, rfl⟩
  obtain ⟨locs, eL⟩ : ∃ L : List Loc, L = [] := ⟨_, rfl⟩
  have hW : zW D (zT cI cJ cZ cP cS cM) L (zQ L sz) st f st.heap H locs := by rw [eH, eL]; exact hW
  suffices hgo : W pg l en ({ frames := 6, cells := 0, slots := 0, locals := 143 } : Room) st mi ag bl mt cd H locs 0 0 Q (F0 mi 0 ls []) by rw [eH, eL] at hgo; exact hgo
  clear eH eL
  have hpb := hC.p
  have hnb := hC.cn
  refine lv_aload_n hX0 hB0 dX11_size_0 rfl (lv_at hl 0 rfl) ?_
  refine z_get (Cn := RX11) (T := TX11) (N := 13) CX hW (v := .ref (o + 289)) (show f o = _ from hP.c0) rfl (fun w h => List.mem_cons_of_mem _ (List.mem_append_left _ (List.mem_append_left _ (List.mem_append_left _ (List.mem_append_left _ (List.mem_append_left _ (List.mem_append_left _ (List.mem_append_right _ h)))))))) 1 (by decide) (List.mem_of_getElem? (i := 1) rfl) rfl rfl dX11_size_1 ?_
  refine lv_iload_n hX0 hB0 dX11_size_4 rfl (lv_at hl 1 rfl) ?_
  refine z_callr hW (va_runV (C := RX7) (As := [.int (zI a)]) (rest := []) CX.fix (c_find l (o + 289) (M.1 0 3) (M.1 0 4) M.2.1 (M.1 3) a hP.c3 (by omega) (by constructor <;> omega)) (cwV 1 CX.fix.2.2.2.2 gX11_size_X7_find rfl rfl rfl (by decide +kernel) ⟨Nat.le_of_ble_eq_true rfl, Nat.le_of_ble_eq_true rfl⟩) (z_preV CX hW (r := (RX7, TX7, 4)) hP.c3.1 rfl) rfl rfl hl.1 rfl (lv_room (Nat.le_of_ble_eq_true rfl)) dX11_size_5 ⟨Nat.zero_le _, Nat.zero_le _⟩) (fun z5 g5 H locs hok hW => ?_)
  obtain ⟨hz, hg⟩ := hok
  rw [hz]
  rw [hg] at hW
  clear hg
  by_cases cf_a_8 : 0 ≤ a ∧ a < M.1 0 4 ∧ a < 6
  ·
    have hzf := zfind_p (a := o + 289) cf_a_8
    rw [hzf]
    clear hzf
    refine lv_astore (lv' := [(4, .ref (o + 289 + 3 + 2 * a.toNat)), (0, .ref o), (1, .int (zI a)), (2, .int (zI b)), (3, .int (zI pt))]) hX0 hB0 dX11_size_8 hl (by decide) rfl (fun ls hl => ?_)
    refine lv_aload_n hX0 hB0 dX11_size_10 rfl (lv_at hl 1 rfl) ?_
    refine z_get (Cn := RX11) (T := TX11) (N := 13) CX hW (v := .ref (o + 289)) (show f o = _ from hP.c0) rfl (fun w h => List.mem_cons_of_mem _ (List.mem_append_left _ (List.mem_append_left _ (List.mem_append_left _ (List.mem_append_left _ (List.mem_append_left _ (List.mem_append_left _ (List.mem_append_right _ h)))))))) 1 (by decide) (List.mem_of_getElem? (i := 1) rfl) rfl rfl dX11_size_11 ?_
    refine lv_iload_n hX0 hB0 dX11_size_14 rfl (lv_at hl 3 rfl) ?_
    refine z_callr hW (va_runV (C := RX7) (As := [.int (zI b)]) (rest := []) CX.fix (c_find l (o + 289) (M.1 0 3) (M.1 0 4) M.2.1 (M.1 3) b hP.c3 (by omega) (by constructor <;> omega)) (cwV 1 CX.fix.2.2.2.2 gX11_size_X7_find rfl rfl rfl (by decide +kernel) ⟨Nat.le_of_ble_eq_true rfl, Nat.le_of_ble_eq_true rfl⟩) (z_preV CX hW (r := (RX7, TX7, 4)) hP.c3.1 rfl) rfl rfl hl.1 rfl (lv_room (Nat.le_of_ble_eq_true rfl)) dX11_size_15 ⟨Nat.zero_le _, Nat.zero_le _⟩) (fun z15 g15 H locs hok hW => ?_)
    obtain ⟨hz, hg⟩ := hok
    rw [hz]
    rw [hg] at hW
    clear hg
    by_cases cf_b_18 : 0 ≤ b ∧ b < M.1 0 4 ∧ b < 6
    ·
      have hzf := zfind_p (a := o + 289) cf_b_18
      rw [hzf]
      clear hzf
      refine lv_astore (lv' := [(5, .ref (o + 289 + 3 + 2 * b.toNat)), (4, .ref (o + 289 + 3 + 2 * a.toNat)), (0, .ref o), (1, .int (zI a)), (2, .int (zI b)), (3, .int (zI pt))]) hX0 hB0 dX11_size_18 hl (by decide) rfl (fun ls hl => ?_)
      refine lv_aload hX0 hB0 dX11_size_20 (lv_at hl 1 rfl) ?_
      refine lv_ifnull hX0 hB0 dX11_size_22 ?_
      refine lv_aload hX0 hB0 dX11_size_25 (lv_at hl 0 rfl) ?_
      refine lv_ifnull hX0 hB0 dX11_size_27 ?_
      refine lv_aload_n hX0 hB0 dX11_size_30 rfl (lv_at hl 2 rfl) ?_
      refine z_get (Cn := RX11) (T := TX11) (N := 13) CX hW (v := .ref (o + 606)) (show f o = _ from hP.c0) rfl (fun w h => List.mem_cons_of_mem _ (List.mem_append_left _ (List.mem_append_left _ (List.mem_append_left _ (List.mem_append_left _ (List.mem_append_left _ (List.mem_append_left _ (List.mem_append_right _ h)))))))) 3 (by decide) (List.mem_of_getElem? (i := 2) rfl) rfl rfl dX11_size_31 ?_
      refine lv_iload_n hX0 hB0 dX11_size_34 rfl (lv_at hl 5 rfl) ?_
      refine lv_aload_n hX0 hB0 dX11_size_35 rfl (lv_at hl 2 rfl) ?_
      refine z_get (Cn := RX11) (T := TX11) (N := 13) CX hW (v := .ref (o + 289)) (show f o = _ from hP.c0) rfl (fun w h => List.mem_cons_of_mem _ (List.mem_append_left _ (List.mem_append_left _ (List.mem_append_left _ (List.mem_append_left _ (List.mem_append_left _ (List.mem_append_left _ (List.mem_append_right _ h)))))))) 1 (by decide) (List.mem_of_getElem? (i := 1) rfl) rfl rfl dX11_size_36 ?_
      refine z_get (Cn := RX7) (T := TX7) (N := 4) CX hW (v := .int (zI (M.1 0 3))) hP.c3.1 rfl (fun w h => List.mem_cons_of_mem _ (List.mem_append_left _ (List.mem_append_left _ (List.mem_append_left _ (List.mem_append_left _ (List.mem_append_left _ (List.mem_append_right _ h))))))) 0 (by decide) (List.mem_of_getElem? (i := 3) rfl) rfl rfl dX11_size_39 ?_
      have hr39 := hC.p
      refine z_calli hW (va_runV (C := RX9) (As := [.int (zI pt), .int (zI (M.1 0 3))]) (rest := []) CX.fix (c_go l (o + 606) (M.1 0 10) (M.1 0 11) (M.1 0 12) pt (M.1 0 3) hP.c5 (by constructor <;> omega) (by omega)) (cwV 2 CX.fix.2.2.2.2 gX11_size_X9_go rfl rfl rfl (by decide +kernel) ⟨Nat.le_of_ble_eq_true rfl, Nat.le_of_ble_eq_true rfl⟩) (z_preV CX hW (r := (RX9, TX9, 3)) (show f (o + 606) = _ from hP.c5) rfl) rfl rfl hl.1 rfl (lv_room (Nat.le_of_ble_eq_true rfl)) dX11_size_42 ⟨Nat.zero_le _, Nat.zero_le _⟩) (fun z42 g42 H locs hok hW => ?_)
      obtain ⟨hz, hg⟩ := hok
      have e42 : bI (zpt pt (M.1 0 3)) = z42 := hz.symm
      have hb42 := bI_01 (zpt pt (M.1 0 3))
      rw [e42] at hb42
      obtain ⟨M42, em42⟩ : ∃ Mq, zw_go M pt (M.1 0 3) = Mq := ⟨_, rfl⟩
      have hP42 : zCP cI cP cS cZ cM o M42 g42 := by rw [← em42]; exact zr_go hP hg
      have hC42 : zCI M42 := by rw [← em42]; exact zi_go hC
      have hV42 : zVE M42 M := zVE.tr (by rw [← em42]; exact zv_go) zVE.rf
      have tv42_3 : M42.1 0 3 = M.1 0 3 := hV42.2 0 3 (by omega) (by omega)
      have tv42_4 : M42.1 0 4 = M.1 0 4 := hV42.2 0 4 (by omega) (by omega)
      have hF42 : zFr f g42 o (o + 681) := zFr.trans zFr.refl (fun q hq => by rw [hg]; exact va_up_ne _ _ (by omega))
      have hgo42 : ¬ z42 = 0 → (M42.1 0 10 = zpx pt (M.1 0 3) ∧ M42.1 0 11 = zpy pt (M.1 0 3) ∧ M42.1 0 12 = zpz pt (M.1 0 3)) ∧ (0 ≤ M42.1 0 10 ∧ M42.1 0 10 < (M.1 0 3)) ∧ (0 ≤ M42.1 0 11 ∧ M42.1 0 11 < (M.1 0 3)) ∧ 0 ≤ M42.1 0 12 ∧ M42.1 0 12 ≤ 1 := fun hz0 => by rw [← em42]; exact zgo_rng (by omega) (by rw [e42]; exact hz0)
      skip
      skip
      skip
      refine z_if_ne (tgt := 50) CX dX11_size_45 (by decide) (by constructor <;> omega) (fun c_45 => ?_) (fun c_45 => ?_)
      ·
        refine lv_aload_n hX0 hB0 dX11_size_50 rfl (lv_at hl 2 rfl) ?_
        refine z_get (Cn := RX11) (T := TX11) (N := 13) CX hW (v := .ref (o + 607)) (show g42 o = _ from hP42.c0) rfl (fun w h => List.mem_cons_of_mem _ (List.mem_append_left _ (List.mem_append_left _ (List.mem_append_left _ (List.mem_append_left _ (List.mem_append_left _ (List.mem_append_left _ (List.mem_append_right _ h)))))))) 4 (by decide) (List.mem_of_getElem? (i := 4) rfl) rfl rfl dX11_size_51 ?_
        refine lv_aload hX0 hB0 dX11_size_54 (lv_at hl 1 rfl) ?_
        refine lv_aload_n hX0 hB0 dX11_size_56 rfl (lv_at hl 2 rfl) ?_
        refine z_get (Cn := RX11) (T := TX11) (N := 13) CX hW (v := .ref (o + 606)) (show g42 o = _ from hP42.c0) rfl (fun w h => List.mem_cons_of_mem _ (List.mem_append_left _ (List.mem_append_left _ (List.mem_append_left _ (List.mem_append_left _ (List.mem_append_left _ (List.mem_append_left _ (List.mem_append_right _ h)))))))) 3 (by decide) (List.mem_of_getElem? (i := 2) rfl) rfl rfl dX11_size_57 ?_
        refine lv_aload_n hX0 hB0 dX11_size_60 rfl (lv_at hl 2 rfl) ?_
        refine z_get (Cn := RX11) (T := TX11) (N := 13) CX hW (v := .ref (o + 289)) (show g42 o = _ from hP42.c0) rfl (fun w h => List.mem_cons_of_mem _ (List.mem_append_left _ (List.mem_append_left _ (List.mem_append_left _ (List.mem_append_left _ (List.mem_append_left _ (List.mem_append_left _ (List.mem_append_right _ h)))))))) 1 (by decide) (List.mem_of_getElem? (i := 1) rfl) rfl rfl dX11_size_61 ?_
        refine z_get (Cn := RX7) (T := TX7) (N := 4) CX hW (v := .int (zI (M42.1 0 3))) hP42.c3.1 rfl (fun w h => List.mem_cons_of_mem _ (List.mem_append_left _ (List.mem_append_left _ (List.mem_append_left _ (List.mem_append_left _ (List.mem_append_left _ (List.mem_append_right _ h))))))) 0 (by decide) (List.mem_of_getElem? (i := 3) rfl) rfl rfl dX11_size_64 ?_
        have hr64 := hC42.p
        refine z_callv hW (va_runV (C := RX10) (As := [.ref (o + 289 + 3 + 2 * a.toNat), .ref (o + 606), .int (zI (M42.1 0 3))]) (rest := []) CX.fix (c_look l (o + 607) (M42.1 0 13) (M42.1 20) (M42.1 21) (o + 606) (M42.1 0 10) (M42.1 0 11) (M42.1 0 12) (o + 289 + 3 + 2 * a.toNat) (o + 289 + 3 + 2 * a.toNat + 1) (M42.2.1 a.toNat) (M42.1 0 3) hP42.c6.1 hP42.c6.2.1 hP42.c6.2.2.1 hP42.c6.2.2.2 (by omega) hP42.c5 (by omega) (by omega) (by omega) (by omega) (hP42.poly (k := a.toNat) (by omega)).1 (hP42.poly (k := a.toNat) (by omega)).2 (hC42.poly (k := a) (by omega) (by omega)) (by omega) (by omega)) (cwV 3 CX.fix.2.2.2.2 gX11_size_X10_look rfl rfl rfl (by decide +kernel) ⟨Nat.le_of_ble_eq_true rfl, Nat.le_of_ble_eq_true rfl⟩) (z_preV CX hW (r := (RX10, TX10, 3)) hP42.c6.1 rfl) rfl rfl hl.1 rfl (lv_room (Nat.le_of_ble_eq_true rfl)) dX11_size_67 ⟨Nat.zero_le _, Nat.zero_le _⟩) (fun g67 H locs hok hW => ?_)
        have hg := hok
        obtain ⟨M67, em67⟩ : ∃ Mq, zw_look1 M42 (M42.2.1 a.toNat) (M42.1 0 3) = Mq := ⟨_, rfl⟩
        have hP67 : zCP cI cP cS cZ cM o M67 g67 := by rw [← em67]; exact zr_look1 hP42 hg
        have hC67 : zCI M67 := by rw [← em67]; exact zi_look1 hC42 (by omega)
        have hV67 : zVE M67 M := zVE.tr (by rw [← em67]; exact zv_look1) hV42
        have tv67_3 : M67.1 0 3 = M.1 0 3 := hV67.2 0 3 (by omega) (by omega)
        have tv67_4 : M67.1 0 4 = M.1 0 4 := hV67.2 0 4 (by omega) (by omega)
        have hF67 : zFr f g67 o (o + 681) := zFr.trans hF42 (fun q hq => by rw [hg, va_up_ne _ _ (by omega), va_up_ne _ _ (by omega)])
        have ts67_10 : M67.1 0 10 = M42.1 0 10 := by rw [← em67]; rfl
        have ts67_11 : M67.1 0 11 = M42.1 0 11 := by rw [← em67]; rfl
        have ts67_12 : M67.1 0 12 = M42.1 0 12 := by rw [← em67]; rfl
        refine lv_aload_n hX0 hB0 dX11_size_70 rfl (lv_at hl 2 rfl) ?_
        refine z_get (Cn := RX11) (T := TX11) (N := 13) CX hW (v := .ref (o + 611)) (show g67 o = _ from hP67.c0) rfl (fun w h => List.mem_cons_of_mem _ (List.mem_append_left _ (List.mem_append_left _ (List.mem_append_left _ (List.mem_append_left _ (List.mem_append_left _ (List.mem_append_left _ (List.mem_append_right _ h)))))))) 5 (by decide) (List.mem_of_getElem? (i := 5) rfl) rfl rfl dX11_size_71 ?_
        refine lv_aload hX0 hB0 dX11_size_74 (lv_at hl 0 rfl) ?_
        refine lv_aload_n hX0 hB0 dX11_size_76 rfl (lv_at hl 2 rfl) ?_
        refine z_get (Cn := RX11) (T := TX11) (N := 13) CX hW (v := .ref (o + 606)) (show g67 o = _ from hP67.c0) rfl (fun w h => List.mem_cons_of_mem _ (List.mem_append_left _ (List.mem_append_left _ (List.mem_append_left _ (List.mem_append_left _ (List.mem_append_left _ (List.mem_append_left _ (List.mem_append_right _ h)))))))) 3 (by decide) (List.mem_of_getElem? (i := 2) rfl) rfl rfl dX11_size_77 ?_
        refine lv_aload_n hX0 hB0 dX11_size_80 rfl (lv_at hl 2 rfl) ?_
        refine z_get (Cn := RX11) (T := TX11) (N := 13) CX hW (v := .ref (o + 289)) (show g67 o = _ from hP67.c0) rfl (fun w h => List.mem_cons_of_mem _ (List.mem_append_left _ (List.mem_append_left _ (List.mem_append_left _ (List.mem_append_left _ (List.mem_append_left _ (List.mem_append_left _ (List.mem_append_right _ h)))))))) 1 (by decide) (List.mem_of_getElem? (i := 1) rfl) rfl rfl dX11_size_81 ?_
        refine z_get (Cn := RX7) (T := TX7) (N := 4) CX hW (v := .int (zI (M67.1 0 3))) hP67.c3.1 rfl (fun w h => List.mem_cons_of_mem _ (List.mem_append_left _ (List.mem_append_left _ (List.mem_append_left _ (List.mem_append_left _ (List.mem_append_left _ (List.mem_append_right _ h))))))) 0 (by decide) (List.mem_of_getElem? (i := 3) rfl) rfl rfl dX11_size_84 ?_
        have hr84 := hC67.p
        refine z_callv hW (va_runV (C := RX10) (As := [.ref (o + 289 + 3 + 2 * b.toNat), .ref (o + 606), .int (zI (M67.1 0 3))]) (rest := []) CX.fix (c_look l (o + 611) (M67.1 0 14) (M67.1 22) (M67.1 23) (o + 606) (M67.1 0 10) (M67.1 0 11) (M67.1 0 12) (o + 289 + 3 + 2 * b.toNat) (o + 289 + 3 + 2 * b.toNat + 1) (M67.2.1 b.toNat) (M67.1 0 3) hP67.c7.1 hP67.c7.2.1 hP67.c7.2.2.1 hP67.c7.2.2.2 (by omega) hP67.c5 (by omega) (by omega) (by omega) (by omega) (hP67.poly (k := b.toNat) (by omega)).1 (hP67.poly (k := b.toNat) (by omega)).2 (hC67.poly (k := b) (by omega) (by omega)) (by omega) (by omega)) (cwV 3 CX.fix.2.2.2.2 gX11_size_X10_look rfl rfl rfl (by decide +kernel) ⟨Nat.le_of_ble_eq_true rfl, Nat.le_of_ble_eq_true rfl⟩) (z_preV CX hW (r := (RX10, TX10, 3)) hP67.c7.1 rfl) rfl rfl hl.1 rfl (lv_room (Nat.le_of_ble_eq_true rfl)) dX11_size_87 ⟨Nat.zero_le _, Nat.zero_le _⟩) (fun g87 H locs hok hW => ?_)
        have hg := hok
        obtain ⟨M87, em87⟩ : ∃ Mq, zw_look2 M67 (M67.2.1 b.toNat) (M67.1 0 3) = Mq := ⟨_, rfl⟩
        have hP87 : zCP cI cP cS cZ cM o M87 g87 := by rw [← em87]; exact zr_look2 hP67 hg
        have hC87 : zCI M87 := by rw [← em87]; exact zi_look2 hC67 (by omega)
        have hV87 : zVE M87 M := zVE.tr (by rw [← em87]; exact zv_look2) hV67
        have tv87_3 : M87.1 0 3 = M.1 0 3 := hV87.2 0 3 (by omega) (by omega)
        have tv87_4 : M87.1 0 4 = M.1 0 4 := hV87.2 0 4 (by omega) (by omega)
        have hF87 : zFr f g87 o (o + 681) := zFr.trans hF67 (fun q hq => by rw [hg, va_up_ne _ _ (by omega), va_up_ne _ _ (by omega)])
        have ts87_10 : M87.1 0 10 = M67.1 0 10 := by rw [← em87]; rfl
        have ts87_11 : M87.1 0 11 = M67.1 0 11 := by rw [← em87]; rfl
        have ts87_12 : M87.1 0 12 = M67.1 0 12 := by rw [← em87]; rfl
        refine lv_aload_n hX0 hB0 dX11_size_90 rfl (lv_at hl 2 rfl) ?_
        refine z_get (Cn := RX11) (T := TX11) (N := 13) CX hW (v := .ref (o + 628)) (show g87 o = _ from hP87.c0) rfl (fun w h => List.mem_cons_of_mem _ (List.mem_append_left _ (List.mem_append_left _ (List.mem_append_left _ (List.mem_append_left _ (List.mem_append_left _ (List.mem_append_left _ (List.mem_append_right _ h)))))))) 8 (by decide) (List.mem_of_getElem? (i := 6) rfl) rfl rfl dX11_size_91 ?_
        refine lv_aload_n hX0 hB0 dX11_size_94 rfl (lv_at hl 2 rfl) ?_
        refine z_get (Cn := RX11) (T := TX11) (N := 13) CX hW (v := .ref (o + 607)) (show g87 o = _ from hP87.c0) rfl (fun w h => List.mem_cons_of_mem _ (List.mem_append_left _ (List.mem_append_left _ (List.mem_append_left _ (List.mem_append_left _ (List.mem_append_left _ (List.mem_append_left _ (List.mem_append_right _ h)))))))) 4 (by decide) (List.mem_of_getElem? (i := 4) rfl) rfl rfl dX11_size_95 ?_
        refine z_get (Cn := RX10) (T := TX10) (N := 3) CX hW (v := .ref (o + 607 + 1)) hP87.c6.1 rfl (fun w h => List.mem_cons_of_mem _ (List.mem_append_left _ (List.mem_append_left _ (List.mem_append_left _ (List.mem_append_left _ (List.mem_append_right _ h)))))) 0 (by decide) (List.mem_of_getElem? (i := 7) rfl) rfl rfl dX11_size_98 ?_
        refine lv_aload_n hX0 hB0 dX11_size_101 rfl (lv_at hl 2 rfl) ?_
        refine z_get (Cn := RX11) (T := TX11) (N := 13) CX hW (v := .ref (o + 611)) (show g87 o = _ from hP87.c0) rfl (fun w h => List.mem_cons_of_mem _ (List.mem_append_left _ (List.mem_append_left _ (List.mem_append_left _ (List.mem_append_left _ (List.mem_append_left _ (List.mem_append_left _ (List.mem_append_right _ h)))))))) 5 (by decide) (List.mem_of_getElem? (i := 5) rfl) rfl rfl dX11_size_102 ?_
        refine z_get (Cn := RX10) (T := TX10) (N := 3) CX hW (v := .ref (o + 611 + 1)) hP87.c7.1 rfl (fun w h => List.mem_cons_of_mem _ (List.mem_append_left _ (List.mem_append_left _ (List.mem_append_left _ (List.mem_append_left _ (List.mem_append_right _ h)))))) 0 (by decide) (List.mem_of_getElem? (i := 7) rfl) rfl rfl dX11_size_105 ?_
        refine lv_aload_n hX0 hB0 dX11_size_108 rfl (lv_at hl 2 rfl) ?_
        refine z_get (Cn := RX11) (T := TX11) (N := 13) CX hW (v := .ref (o + 289)) (show g87 o = _ from hP87.c0) rfl (fun w h => List.mem_cons_of_mem _ (List.mem_append_left _ (List.mem_append_left _ (List.mem_append_left _ (List.mem_append_left _ (List.mem_append_left _ (List.mem_append_left _ (List.mem_append_right _ h)))))))) 1 (by decide) (List.mem_of_getElem? (i := 1) rfl) rfl rfl dX11_size_109 ?_
        refine z_get (Cn := RX7) (T := TX7) (N := 4) CX hW (v := .int (zI (M87.1 0 3))) hP87.c3.1 rfl (fun w h => List.mem_cons_of_mem _ (List.mem_append_left _ (List.mem_append_left _ (List.mem_append_left _ (List.mem_append_left _ (List.mem_append_left _ (List.mem_append_right _ h))))))) 0 (by decide) (List.mem_of_getElem? (i := 3) rfl) rfl rfl dX11_size_112 ?_
        have hr112 := hC87.p
        obtain ⟨w115, lim115, pq115, R115, K115, hk115, hR115⟩ := hP87.c1
        obtain ⟨v115, pq115q, top115, lc115, lx115, ly115, wd115, row115, col115, ln115, hrg115, hcl115⟩ := hP87.c10
        have hrgo115 := hrg115.1
        refine z_calli hW (va_runV (C := RX5) (As := [.ref (o + 607 + 1), .ref (o + 611 + 1), .int (zI (M87.1 0 3))]) (rest := []) CX.fix (c_sizeOf l (o + 628) (o + 1) v115 pq115q top115 lc115 lx115 ly115 wd115 row115 col115 ln115 (o + 607 + 1) (o + 607 + 2) (M87.1 20) (o + 611 + 1) (o + 611 + 2) (M87.1 22) w115 lim115 pq115 R115 K115 (M87.1 0 3) hrg115 hP87.c6.2.1 hP87.c6.2.2.1 (zcan_le hC87.vw.2.1 (by have := hC87.vw.1; omega)) (by omega) (by omega) hP87.c7.2.1 hP87.c7.2.2.1 hC87.v2 (by omega) (by omega) hk115 hR115 (by omega) (by omega) hcl115 (by omega) (by omega) (by omega) (by omega) ) (cwV 3 CX.fix.2.2.2.2 gX11_size_X5_sizeOf rfl rfl rfl (by decide +kernel) ⟨Nat.le_of_ble_eq_true rfl, Nat.le_of_ble_eq_true rfl⟩) (z_preV CX hW (r := (RX5, TX5, 11)) hrgo115 rfl) rfl rfl hl.1 rfl (lv_room (Nat.le_of_ble_eq_true rfl)) dX11_size_115 ⟨Nat.zero_le _, Nat.zero_le _⟩) (fun z115 g115 H locs hok hW => ?_)
        obtain ⟨hz, hs0, hx⟩ := hok
        have e115 : zszP (M87.1 20) (M87.1 22) (M87.1 0 3) = z115 := (zsize_ind (M87.1 20) (M87.1 22)  (M87.1 0 3) R115 col115 ln115 row115).symm.trans hz.symm
        have hP115 : zCP cI cP cS cZ cM o M87 g115 := zr_ring hP87 hs0 hx
        have hF115 : zFr f g115 o (o + 681) := zFr.trans hF87 (fun q hq => hs0 q (by omega))
        have hE : zc_size M a b pt = (z115, M87) := by unfold zc_size; exact zif_t cf_a_8 (zif_t cf_b_18 (zlet_e e42 (zlet_e em42 (zif_f c_45 (zlet_e em67 (zlet_e em87 (zlet_e e115 rfl)))))))
        rw [← hQ]
        exact z_iret (z := z115) CX hW (by rw [hE]; exact ⟨rfl, hP115, hC87, hF115, hV87, trivial⟩) rfl dX11_size_118
      ·
        refine lv_iconst (v := zI (-1)) hX0 hB0 dX11_size_48 rfl ?_
        have hE : zc_size M a b pt = (-1, M42) := by unfold zc_size; exact zif_t cf_a_8 (zif_t cf_b_18 (zlet_e e42 (zlet_e em42 (zif_t c_45 rfl))))
        rw [← hQ]
        exact z_iret (z := -1) CX hW (by rw [hE]; exact ⟨rfl, hP42, hC42, hF42, hV42, trivial⟩) rfl dX11_size_49
    ·
      have hzf := zfind_n (a := o + 289) cf_b_18
      rw [hzf]
      clear hzf
      refine lv_astoreN (lv' := [(5, .null), (4, .ref (o + 289 + 3 + 2 * a.toNat)), (0, .ref o), (1, .int (zI a)), (2, .int (zI b)), (3, .int (zI pt))]) hX0 hB0 dX11_size_18 hl (by decide) rfl (fun ls hl => ?_)
      refine lv_aload hX0 hB0 dX11_size_20 (lv_at hl 1 rfl) ?_
      refine lv_ifnull hX0 hB0 dX11_size_22 ?_
      refine lv_aloadN hX0 hB0 dX11_size_25 (lv_at hl 0 rfl) ?_
      refine lv_ifnullN (tgt := 48) hX0 hB0 dX11_size_27 (by decide) ?_
      refine lv_iconst (v := zI (-1)) hX0 hB0 dX11_size_48 rfl ?_
      have hE : zc_size M a b pt = (-1, M) := by unfold zc_size; exact zif_t cf_a_8 (zif_f cf_b_18 rfl)
      rw [← hQ]
      exact z_iret (z := -1) CX hW (by rw [hE]; exact ⟨rfl, hP, hC, zFr.refl, zVE.rf, trivial⟩) rfl dX11_size_49
  ·
    have hzf := zfind_n (a := o + 289) cf_a_8
    rw [hzf]
    clear hzf
    refine lv_astoreN (lv' := [(4, .null), (0, .ref o), (1, .int (zI a)), (2, .int (zI b)), (3, .int (zI pt))]) hX0 hB0 dX11_size_8 hl (by decide) rfl (fun ls hl => ?_)
    refine lv_aload_n hX0 hB0 dX11_size_10 rfl (lv_at hl 1 rfl) ?_
    refine z_get (Cn := RX11) (T := TX11) (N := 13) CX hW (v := .ref (o + 289)) (show f o = _ from hP.c0) rfl (fun w h => List.mem_cons_of_mem _ (List.mem_append_left _ (List.mem_append_left _ (List.mem_append_left _ (List.mem_append_left _ (List.mem_append_left _ (List.mem_append_left _ (List.mem_append_right _ h)))))))) 1 (by decide) (List.mem_of_getElem? (i := 1) rfl) rfl rfl dX11_size_11 ?_
    refine lv_iload_n hX0 hB0 dX11_size_14 rfl (lv_at hl 3 rfl) ?_
    refine z_callr hW (va_runV (C := RX7) (As := [.int (zI b)]) (rest := []) CX.fix (c_find l (o + 289) (M.1 0 3) (M.1 0 4) M.2.1 (M.1 3) b hP.c3 (by omega) (by constructor <;> omega)) (cwV 1 CX.fix.2.2.2.2 gX11_size_X7_find rfl rfl rfl (by decide +kernel) ⟨Nat.le_of_ble_eq_true rfl, Nat.le_of_ble_eq_true rfl⟩) (z_preV CX hW (r := (RX7, TX7, 4)) hP.c3.1 rfl) rfl rfl hl.1 rfl (lv_room (Nat.le_of_ble_eq_true rfl)) dX11_size_15 ⟨Nat.zero_le _, Nat.zero_le _⟩) (fun z15 g15 H locs hok hW => ?_)
    obtain ⟨hz, hg⟩ := hok
    rw [hz]
    rw [hg] at hW
    clear hg
    by_cases cf_b_18 : 0 ≤ b ∧ b < M.1 0 4 ∧ b < 6
    ·
      have hzf := zfind_p (a := o + 289) cf_b_18
      rw [hzf]
      clear hzf
      refine lv_astore (lv' := [(5, .ref (o + 289 + 3 + 2 * b.toNat)), (4, .null), (0, .ref o), (1, .int (zI a)), (2, .int (zI b)), (3, .int (zI pt))]) hX0 hB0 dX11_size_18 hl (by decide) rfl (fun ls hl => ?_)
      refine lv_aloadN hX0 hB0 dX11_size_20 (lv_at hl 1 rfl) ?_
      refine lv_ifnullN (tgt := 48) hX0 hB0 dX11_size_22 (by decide) ?_
      refine lv_iconst (v := zI (-1)) hX0 hB0 dX11_size_48 rfl ?_
      have hE : zc_size M a b pt = (-1, M) := by unfold zc_size; exact zif_f cf_a_8 (zif_t cf_b_18 rfl)
      rw [← hQ]
      exact z_iret (z := -1) CX hW (by rw [hE]; exact ⟨rfl, hP, hC, zFr.refl, zVE.rf, trivial⟩) rfl dX11_size_49
    ·
      have hzf := zfind_n (a := o + 289) cf_b_18
      rw [hzf]
      clear hzf
      refine lv_astoreN (lv' := [(5, .null), (4, .null), (0, .ref o), (1, .int (zI a)), (2, .int (zI b)), (3, .int (zI pt))]) hX0 hB0 dX11_size_18 hl (by decide) rfl (fun ls hl => ?_)
      refine lv_aloadN hX0 hB0 dX11_size_20 (lv_at hl 1 rfl) ?_
      refine lv_ifnullN (tgt := 48) hX0 hB0 dX11_size_22 (by decide) ?_
      refine lv_iconst (v := zI (-1)) hX0 hB0 dX11_size_48 rfl ?_
      have hE : zc_size M a b pt = (-1, M) := by unfold zc_size; exact zif_f cf_a_8 (zif_f cf_b_18 rfl)
      rw [← hQ]
      exact z_iret (z := -1) CX hW (by rw [hE]; exact ⟨rfl, hP, hC, zFr.refl, zVE.rf, trivial⟩) rfl dX11_size_49
noncomputable def zc_areBothOn (M : zCt) (u : Int) (v : Int) (pt : Int) : Int × zCt := zlet (bI (zpt pt (M.1 0 3))) (fun z12 => zlet (zw_go M pt (M.1 0 3)) (fun M12 => (if z12 = 0 then (0, M12) else zlet (zval (M12.2.1 u.toNat) (M12.1 0 10) (M12.1 0 11) (M12.1 0 12) (M12.1 0 3)) (fun z30 => (if z30 = 0 then zlet (zval (M12.2.1 v.toNat) (M12.1 0 10) (M12.1 0 11) (M12.1 0 12) (M12.1 0 3)) (fun z48 => (if z48 = 0 then (1, M12) else (0, M12))) else (0, M12))))))
set_option maxRecDepth 100000 in
set_option maxHeartbeats 4000000 in
theorem zd_areBothOn (l : Launch) {D : va_G} {cI cJ cZ cP cS cM : ClassId} {L : List Nat} {sz : Nat} {f : Nat → va_E} (o : Nat) (M : zCt) (u : Int) (v : Int) (pt : Int) (hP : zCP cI cP cS cZ cM o M f) (hC : zCI M) (hu : 0 ≤ u ∧ u < M.1 0 4) (hv : 0 ≤ v ∧ v < M.1 0 4) (hpt : -2147483648 ≤ pt ∧ pt ≤ 2147483647) : zMi l yX11_areBothOn wsX11_areBothOn 3 71 D (zT cI cJ cZ cP cS cM) L sz f [.ref o, .ref (o + 289 + 3 + 2 * u.toNat), .ref (o + 289 + 3 + 2 * v.toNat), .int (zI pt)] (fun zv gv => zv = (zc_areBothOn M u v pt).1 ∧ zCP cI cP cS cZ cM o (zc_areBothOn M u v pt).2 gv ∧ zCI (zc_areBothOn M u v pt).2 ∧ zFr f gv o (o + 681) ∧ zVE (zc_areBothOn M u v pt).2 M ∧ 0 ≤ zv ∧ zv ≤ 1) := by
  refine zWalk.met (nL := 4) (ret := (some .boolean)) (cc := cX11_areBothOn) (by decide) rfl (Nat.le_of_ble_eq_true rfl) ?_
  intro pg en st mi ag bl mt cd ls CX hW hl
  have CX : zC pg st mi ag mt cd cX11_areBothOn 4 (some .boolean) RX11 wsX11_areBothOn := CX
  generalize hQ : MQ bl _ ag st 0 0 _ = Q
  have hX0 := CX.1
  have hB0 := CX.2.1
  have hl : lv_has ls 4 [(0, .ref o), (1, .ref (o + 289 + 3 + 2 * u.toNat)), (2, .ref (o + 289 + 3 + 2 * v.toNat)), (3, .int (zI pt))] := hl
  obtain ⟨H, eH⟩ : ∃ H, H = st.heap := ⟨_, rfl⟩
  obtain ⟨locs, eL⟩ : ∃ L : List Loc, L = [] := ⟨_, rfl⟩
  have hW : zW D (zT cI cJ cZ cP cS cM) L (zQ L sz) st f st.heap H locs := by rw [eH, eL]; exact hW
  suffices hgo : W pg l en ({ frames := 3, cells := 0, slots := 0, locals := 71 } : Room) st mi ag bl mt cd H locs 0 0 Q (F0 mi 0 ls []) by rw [eH, eL] at hgo; exact hgo
  clear eH eL
  have hpb := hC.p
  have hnb := hC.cn
  refine lv_aload_n hX0 hB0 dX11_areBothOn_0 rfl (lv_at hl 0 rfl) ?_
  refine z_get (Cn := RX11) (T := TX11) (N := 13) CX hW (v := .ref (o + 606)) (show f o = _ from hP.c0) rfl (fun w h => List.mem_cons_of_mem _ (List.mem_append_left _ (List.mem_append_left _ (List.mem_append_left _ (List.mem_append_right _ h))))) 3 (by decide) (List.mem_of_getElem? (i := 1) rfl) rfl rfl dX11_areBothOn_1 ?_
  refine lv_iload_n hX0 hB0 dX11_areBothOn_4 rfl (lv_at hl 3 rfl) ?_
  refine lv_aload_n hX0 hB0 dX11_areBothOn_5 rfl (lv_at hl 0 rfl) ?_
  refine z_get (Cn := RX11) (T := TX11) (N := 13) CX hW (v := .ref (o + 289)) (show f o = _ from hP.c0) rfl (fun w h => List.mem_cons_of_mem _ (List.mem_append_left _ (List.mem_append_left _ (List.mem_append_left _ (List.mem_append_right _ h))))) 1 (by decide) (List.mem_of_getElem? (i := 2) rfl) rfl rfl dX11_areBothOn_6 ?_
  refine z_get (Cn := RX7) (T := TX7) (N := 4) CX hW (v := .int (zI (M.1 0 3))) hP.c3.1 rfl (fun w h => List.mem_cons_of_mem _ (List.mem_append_left _ (List.mem_append_left _ (List.mem_append_right _ h)))) 0 (by decide) (List.mem_of_getElem? (i := 3) rfl) rfl rfl dX11_areBothOn_9 ?_
  have hr9 := hC.p
  refine z_calli hW (va_runV (C := RX9) (As := [.int (zI pt), .int (zI (M.1 0 3))]) (rest := []) CX.fix (c_go l (o + 606) (M.1 0 10) (M.1 0 11) (M.1 0 12) pt (M.1 0 3) hP.c5 (by constructor <;> omega) (by omega)) (cwV 2 CX.fix.2.2.2.2 gX11_areBothOn_X9_go rfl rfl rfl (by decide +kernel) ⟨Nat.le_of_ble_eq_true rfl, Nat.le_of_ble_eq_true rfl⟩) (z_preV CX hW (r := (RX9, TX9, 3)) (show f (o + 606) = _ from hP.c5) rfl) rfl rfl hl.1 rfl (lv_room (Nat.le_of_ble_eq_true rfl)) dX11_areBothOn_12 ⟨Nat.zero_le _, Nat.zero_le _⟩) (fun z12 g12 H locs hok hW => ?_)
  obtain ⟨hz, hg⟩ := hok
  have e12 : bI (zpt pt (M.1 0 3)) = z12 := hz.symm
  have hb12 := bI_01 (zpt pt (M.1 0 3))
  rw [e12] at hb12
  obtain ⟨M12, em12⟩ : ∃ Mq, zw_go M pt (M.1 0 3) = Mq := ⟨_, rfl⟩
  have hP12 : zCP cI cP cS cZ cM o M12 g12 := by rw [← em12]; exact zr_go hP hg
  have hC12 : zCI M12 := by rw [← em12]; exact zi_go hC
  have hV12 : zVE M12 M := zVE.tr (by rw [← em12]; exact zv_go) zVE.rf
  have tv12_3 : M12.1 0 3 = M.1 0 3 := hV12.2 0 3 (by omega) (by omega)
  have tv12_4 : M12.1 0 4 = M.1 0 4 := hV12.2 0 4 (by omega) (by omega)
  have hF12 : zFr f g12 o (o + 681) := zFr.trans zFr.refl (fun q hq => by rw [hg]; exact va_up_ne _ _ (by omega))
  have hgo12 : ¬ z12 = 0 → (M12.1 0 10 = zpx pt (M.1 0 3) ∧ M12.1 0 11 = zpy pt (M.1 0 3) ∧ M12.1 0 12 = zpz pt (M.1 0 3)) ∧ (0 ≤ M12.1 0 10 ∧ M12.1 0 10 < (M.1 0 3)) ∧ (0 ≤ M12.1 0 11 ∧ M12.1 0 11 < (M.1 0 3)) ∧ 0 ≤ M12.1 0 12 ∧ M12.1 0 12 ≤ 1 := fun hz0 => by rw [← em12]; exact zgo_rng (by omega) (by rw [e12]; exact hz0)
  refine z_if_eq (tgt := 58) CX dX11_areBothOn_15 (by decide) (by constructor <;> omega) (fun c_15 => ?_) (fun c_15 => ?_)
  ·
    refine lv_iconst (v := zI 0) hX0 hB0 dX11_areBothOn_58 rfl ?_
    have hE : zc_areBothOn M u v pt = (0, M12) := by unfold zc_areBothOn; exact zlet_e e12 (zlet_e em12 (zif_t c_15 rfl))
    rw [← hQ]
    exact z_iret (z := 0) CX hW (by rw [hE]; exact ⟨rfl, hP12, hC12, hF12, hV12, (show 0 ≤ (0 : Int) ∧ (0 : Int) ≤ 1 from by omega)⟩) rfl dX11_areBothOn_59
  ·
    refine lv_aload_n hX0 hB0 dX11_areBothOn_18 rfl (lv_at hl 0 rfl) ?_
    refine z_get (Cn := RX11) (T := TX11) (N := 13) CX hW (v := .ref (o + 606)) (show g12 o = _ from hP12.c0) rfl (fun w h => List.mem_cons_of_mem _ (List.mem_append_left _ (List.mem_append_left _ (List.mem_append_left _ (List.mem_append_right _ h))))) 3 (by decide) (List.mem_of_getElem? (i := 1) rfl) rfl rfl dX11_areBothOn_19 ?_
    refine lv_aload_n hX0 hB0 dX11_areBothOn_22 rfl (lv_at hl 1 rfl) ?_
    refine lv_aload_n hX0 hB0 dX11_areBothOn_23 rfl (lv_at hl 0 rfl) ?_
    refine z_get (Cn := RX11) (T := TX11) (N := 13) CX hW (v := .ref (o + 289)) (show g12 o = _ from hP12.c0) rfl (fun w h => List.mem_cons_of_mem _ (List.mem_append_left _ (List.mem_append_left _ (List.mem_append_left _ (List.mem_append_right _ h))))) 1 (by decide) (List.mem_of_getElem? (i := 2) rfl) rfl rfl dX11_areBothOn_24 ?_
    refine z_get (Cn := RX7) (T := TX7) (N := 4) CX hW (v := .int (zI (M12.1 0 3))) hP12.c3.1 rfl (fun w h => List.mem_cons_of_mem _ (List.mem_append_left _ (List.mem_append_left _ (List.mem_append_right _ h)))) 0 (by decide) (List.mem_of_getElem? (i := 3) rfl) rfl rfl dX11_areBothOn_27 ?_
    have hr27 := hC12.p
    refine z_calli hW (va_runV (C := RX9) (As := [.ref (o + 289 + 3 + 2 * u.toNat), .int (zI (M12.1 0 3))]) (rest := []) CX.fix (c_valueOf l (o + 606) (M12.1 0 10) (M12.1 0 11) (M12.1 0 12) (o + 289 + 3 + 2 * u.toNat) (o + 289 + 3 + 2 * u.toNat + 1) (M12.2.1 u.toNat) (M12.1 0 3) hP12.c5 (hP12.poly (k := u.toNat) (by omega)).1 (hP12.poly (k := u.toNat) (by omega)).2 (hC12.poly31 (k := u) (by omega) (by omega)) (by omega) (by omega) (by omega) (by omega)) (cwV 2 CX.fix.2.2.2.2 gX11_areBothOn_X9_valueOf rfl rfl rfl (by decide +kernel) ⟨Nat.le_of_ble_eq_true rfl, Nat.le_of_ble_eq_true rfl⟩) (z_preV CX hW (r := (RX9, TX9, 3)) (show g12 (o + 606) = _ from hP12.c5) rfl) rfl rfl hl.1 rfl (lv_room (Nat.le_of_ble_eq_true rfl)) dX11_areBothOn_30 ⟨Nat.zero_le _, Nat.zero_le _⟩) (fun z30 g30 H locs hok hW => ?_)
    obtain ⟨hz, hg⟩ := hok
    have e30 : zval (M12.2.1 u.toNat) (M12.1 0 10) (M12.1 0 11) (M12.1 0 12) (M12.1 0 3) = z30 := hz.symm
    have hvr30 := zval_rng (c := M12.2.1 u.toNat) (x := M12.1 0 10) (y := M12.1 0 11) (z := M12.1 0 12) (p := (M12.1 0 3)) (by omega)
    rw [e30] at hvr30
    rw [hg] at hW
    clear hg
    refine z_if_ne (tgt := 58) CX dX11_areBothOn_33 (by decide) (by constructor <;> omega) (fun c_33 => ?_) (fun c_33 => ?_)
    ·
      refine lv_iconst (v := zI 0) hX0 hB0 dX11_areBothOn_58 rfl ?_
      have hE : zc_areBothOn M u v pt = (0, M12) := by unfold zc_areBothOn; exact zlet_e e12 (zlet_e em12 (zif_f c_15 (zlet_e e30 (zif_f c_33 rfl))))
      rw [← hQ]
      exact z_iret (z := 0) CX hW (by rw [hE]; exact ⟨rfl, hP12, hC12, hF12, hV12, (show 0 ≤ (0 : Int) ∧ (0 : Int) ≤ 1 from by omega)⟩) rfl dX11_areBothOn_59
    ·
      refine lv_aload_n hX0 hB0 dX11_areBothOn_36 rfl (lv_at hl 0 rfl) ?_
      refine z_get (Cn := RX11) (T := TX11) (N := 13) CX hW (v := .ref (o + 606)) (show g12 o = _ from hP12.c0) rfl (fun w h => List.mem_cons_of_mem _ (List.mem_append_left _ (List.mem_append_left _ (List.mem_append_left _ (List.mem_append_right _ h))))) 3 (by decide) (List.mem_of_getElem? (i := 1) rfl) rfl rfl dX11_areBothOn_37 ?_
      refine lv_aload_n hX0 hB0 dX11_areBothOn_40 rfl (lv_at hl 2 rfl) ?_
      refine lv_aload_n hX0 hB0 dX11_areBothOn_41 rfl (lv_at hl 0 rfl) ?_
      refine z_get (Cn := RX11) (T := TX11) (N := 13) CX hW (v := .ref (o + 289)) (show g12 o = _ from hP12.c0) rfl (fun w h => List.mem_cons_of_mem _ (List.mem_append_left _ (List.mem_append_left _ (List.mem_append_left _ (List.mem_append_right _ h))))) 1 (by decide) (List.mem_of_getElem? (i := 2) rfl) rfl rfl dX11_areBothOn_42 ?_
      refine z_get (Cn := RX7) (T := TX7) (N := 4) CX hW (v := .int (zI (M12.1 0 3))) hP12.c3.1 rfl (fun w h => List.mem_cons_of_mem _ (List.mem_append_left _ (List.mem_append_left _ (List.mem_append_right _ h)))) 0 (by decide) (List.mem_of_getElem? (i := 3) rfl) rfl rfl dX11_areBothOn_45 ?_
      have hr45 := hC12.p
      refine z_calli hW (va_runV (C := RX9) (As := [.ref (o + 289 + 3 + 2 * v.toNat), .int (zI (M12.1 0 3))]) (rest := []) CX.fix (c_valueOf l (o + 606) (M12.1 0 10) (M12.1 0 11) (M12.1 0 12) (o + 289 + 3 + 2 * v.toNat) (o + 289 + 3 + 2 * v.toNat + 1) (M12.2.1 v.toNat) (M12.1 0 3) hP12.c5 (hP12.poly (k := v.toNat) (by omega)).1 (hP12.poly (k := v.toNat) (by omega)).2 (hC12.poly31 (k := v) (by omega) (by omega)) (by omega) (by omega) (by omega) (by omega)) (cwV 2 CX.fix.2.2.2.2 gX11_areBothOn_X9_valueOf rfl rfl rfl (by decide +kernel) ⟨Nat.le_of_ble_eq_true rfl, Nat.le_of_ble_eq_true rfl⟩) (z_preV CX hW (r := (RX9, TX9, 3)) (show g12 (o + 606) = _ from hP12.c5) rfl) rfl rfl hl.1 rfl (lv_room (Nat.le_of_ble_eq_true rfl)) dX11_areBothOn_48 ⟨Nat.zero_le _, Nat.zero_le _⟩) (fun z48 g48 H locs hok hW => ?_)
      obtain ⟨hz, hg⟩ := hok
      have e48 : zval (M12.2.1 v.toNat) (M12.1 0 10) (M12.1 0 11) (M12.1 0 12) (M12.1 0 3) = z48 := hz.symm
      have hvr48 := zval_rng (c := M12.2.1 v.toNat) (x := M12.1 0 10) (y := M12.1 0 11) (z := M12.1 0 12) (p := (M12.1 0 3)) (by omega)
      rw [e48] at hvr48
      rw [hg] at hW
      clear hg
      refine z_if_ne (tgt := 58) CX dX11_areBothOn_51 (by decide) (by constructor <;> omega) (fun c_51 => ?_) (fun c_51 => ?_)
      ·
        refine lv_iconst (v := zI 0) hX0 hB0 dX11_areBothOn_58 rfl ?_
        have hE : zc_areBothOn M u v pt = (0, M12) := by unfold zc_areBothOn; exact zlet_e e12 (zlet_e em12 (zif_f c_15 (zlet_e e30 (zif_t c_33 (zlet_e e48 (zif_f c_51 rfl))))))
        rw [← hQ]
        exact z_iret (z := 0) CX hW (by rw [hE]; exact ⟨rfl, hP12, hC12, hF12, hV12, (show 0 ≤ (0 : Int) ∧ (0 : Int) ≤ 1 from by omega)⟩) rfl dX11_areBothOn_59
      ·
        refine lv_iconst (v := zI 1) hX0 hB0 dX11_areBothOn_54 rfl ?_
        refine lv_goto (tgt := 59) hX0 hB0 dX11_areBothOn_55 (by decide) ?_
        have hE : zc_areBothOn M u v pt = (1, M12) := by unfold zc_areBothOn; exact zlet_e e12 (zlet_e em12 (zif_f c_15 (zlet_e e30 (zif_t c_33 (zlet_e e48 (zif_t c_51 rfl))))))
        rw [← hQ]
        exact z_iret (z := 1) CX hW (by rw [hE]; exact ⟨rfl, hP12, hC12, hF12, hV12, (show 0 ≤ (1 : Int) ∧ (1 : Int) ≤ 1 from by omega)⟩) rfl dX11_areBothOn_59
noncomputable def zc_timesBetween_W6 (u : Int) (v : Int) (to : Int) : Nat → Int → Int → zCt → (Int × zCt) ⊕ (Int × Int × zCt)
  | 0, s6, q6, M6 => .inr (s6, q6, M6)
  | fu6 + 1, s6, q6, M6 => (if to ≤ q6 then .inr (s6, q6, M6) else zlet (zc_areBothOn M6 u v q6) (fun q18 => (fun (z18 : Int) (M18 : zCt) => (if z18 = 0 then zc_timesBetween_W6 u v to fu6 s6 (q6 + 1) M18 else zlet (zc_timesAt M18 u v q6) (fun q32 => (fun (z32 : Int) (M32 : zCt) => (if z32 = -2 then .inl ((-2, M32)) else zc_timesBetween_W6 u v to fu6 (s6 + z32) (q6 + 1) M32)) q32.1 q32.2))) q18.1 q18.2))
noncomputable def zc_timesBetween (M : zCt) (u : Int) (v : Int) (fr : Int) (to : Int) : Int × zCt := zsum (zc_timesBetween_W6 u v to ((995 : Nat)) 0 fr M) (fun r6 => r6) (fun q6 => (fun (s6 : Int) (q6 : Int) (M6 : zCt) => (s6, M6)) q6.1 q6.2.1 q6.2.2)
set_option maxRecDepth 100000 in
set_option maxHeartbeats 4000000 in
theorem zd_timesBetween (l : Launch) {D : va_G} {cI cJ cZ cP cS cM : ClassId} {L : List Nat} {sz : Nat} {f : Nat → va_E} (o : Nat) (M : zCt) (u : Int) (v : Int) (fr : Int) (to : Int) (hP : zCP cI cP cS cZ cM o M f) (hC : zCI M) (hu : 0 ≤ u ∧ u < M.1 0 4) (hv : 0 ≤ v ∧ v < M.1 0 4) (hfr : 0 ≤ fr ∧ fr ≤ 993) (hto : 0 ≤ to ∧ to ≤ 993) : zMi l yX11_timesBetween wsX11_timesBetween 6 146 D (zT cI cJ cZ cP cS cM) L sz f [.ref o, .ref (o + 289 + 3 + 2 * u.toNat), .ref (o + 289 + 3 + 2 * v.toNat), .int (zI fr), .int (zI to)] (fun zv gv => zv = (zc_timesBetween M u v fr to).1 ∧ zCP cI cP cS cZ cM o (zc_timesBetween M u v fr to).2 gv ∧ zCI (zc_timesBetween M u v fr to).2 ∧ zFr f gv o (o + 681) ∧ zVE (zc_timesBetween M u v fr to).2 M ∧ True) := by
  refine zWalk.met (nL := 8) (ret := (some .int)) (cc := cX11_timesBetween) (by decide) rfl (Nat.le_of_ble_eq_true rfl) ?_
  intro pg en st mi ag bl mt cd ls CX hW hl
  have CX : zC pg st mi ag mt cd cX11_timesBetween 8 (some .int) RX11 wsX11_timesBetween := CX
  generalize hQ : MQ bl _ ag st 0 0 _ = Q
  have hX0 := CX.1
  have hB0 := CX.2.1
  have hl : lv_has ls 8 [(0, .ref o), (1, .ref (o + 289 + 3 + 2 * u.toNat)), (2, .ref (o + 289 + 3 + 2 * v.toNat)), (3, .int (zI fr)), (4, .int (zI to))] := hl
  obtain ⟨H, eH⟩ : ∃ H, H = st.heap := ⟨_, rfl⟩
  obtain ⟨locs, eL⟩ : ∃ L : List Loc, L = [] := ⟨_, rfl⟩
  have hW : zW D (zT cI cJ cZ cP cS cM) L (zQ L sz) st f st.heap H locs := by rw [eH, eL]; exact hW
  suffices hgo : W pg l en ({ frames := 6, cells := 0, slots := 0, locals := 146 } : Room) st mi ag bl mt cd H locs 0 0 Q (F0 mi 0 ls []) by rw [eH, eL] at hgo; exact hgo
  clear eH eL
  have hpb := hC.p
  have hnb := hC.cn
  refine lv_iconst (v := zI 0) hX0 hB0 dX11_timesBetween_0 rfl ?_
  refine lv_istore (lv' := [(5, .int (zI 0)), (0, .ref o), (1, .ref (o + 289 + 3 + 2 * u.toNat)), (2, .ref (o + 289 + 3 + 2 * v.toNat)), (3, .int (zI fr)), (4, .int (zI to))]) hX0 hB0 dX11_timesBetween_1 hl (by decide) rfl (fun ls hl => ?_)
  refine lv_iload_n hX0 hB0 dX11_timesBetween_3 rfl (lv_at hl 4 rfl) ?_
  refine lv_istore (lv' := [(6, .int (zI fr)), (5, .int (zI 0)), (0, .ref o), (1, .ref (o + 289 + 3 + 2 * u.toNat)), (2, .ref (o + 289 + 3 + 2 * v.toNat)), (3, .int (zI fr)), (4, .int (zI to))]) hX0 hB0 dX11_timesBetween_4 hl (by decide) rfl (fun ls hl => ?_)
  have hXt6 : ∀ (s6 : Int) (q6 : Int) (M6 : zCt) (g6 : Nat → va_E), (zc_timesBetween_W6 u v to ((995 : Nat)) 0 fr M = .inr (s6, q6, M6) ∧ zCP cI cP cS cZ cM o M6 g6 ∧ zCI M6 ∧ zFr f g6 o (o + 681) ∧ zVE M6 M ∧ 0 ≤ q6 ∧ q6 ≤ 993) → ∀ (H : Heap) (locs : List Loc) (ls : Array Slot), zW D (zT cI cJ cZ cP cS cM) L (zQ L sz) st g6 st.heap H locs → lv_has ls 8 [(5, .int (zI s6)), (6, .int (zI q6)), (0, .ref o), (1, .ref (o + 289 + 3 + 2 * u.toNat)), (2, .ref (o + 289 + 3 + 2 * v.toNat)), (3, .int (zI fr)), (4, .int (zI to))] → W pg l en ({ frames := 6, cells := 0, slots := 0, locals := 146 } : Room) st mi ag bl mt cd H locs 0 0 Q (F0 mi 60 ls []) := by
    intro s6 q6 M6 g6 hinv H locs ls hW hl
    obtain ⟨e6, hP6, hC6, hF6, hV6, haq6, hbq6⟩ := hinv
    have hp6 := hC6.p
    have hn6 := hC6.cn
    have tv6_3 : M6.1 0 3 = M.1 0 3 := hV6.2 0 3 (by omega) (by omega)
    have tv6_4 : M6.1 0 4 = M.1 0 4 := hV6.2 0 4 (by omega) (by omega)
    refine lv_iload hX0 hB0 dX11_timesBetween_60 (lv_at hl 0 rfl) ?_
    have hE : zc_timesBetween M u v fr to = (s6, M6) := by unfold zc_timesBetween; exact zsum_r e6 rfl
    rw [← hQ]
    exact z_iret (z := s6) CX hW (by rw [hE]; exact ⟨rfl, hP6, hC6, hF6, hV6, trivial⟩) rfl dX11_timesBetween_62
  have hL6 : ∀ (fu : Nat) (s6 : Int) (q6 : Int) (M6 : zCt) (g6 : Nat → va_E), (zc_timesBetween_W6 u v to ((995 : Nat)) 0 fr M = zc_timesBetween_W6 u v to fu s6 q6 M6 ∧ zCP cI cP cS cZ cM o M6 g6 ∧ zCI M6 ∧ zFr f g6 o (o + 681) ∧ zVE M6 M ∧ 0 ≤ q6 ∧ q6 ≤ 993) → (994 - q6).toNat < fu → ∀ (H : Heap) (locs : List Loc) (ls : Array Slot), zW D (zT cI cJ cZ cP cS cM) L (zQ L sz) st g6 st.heap H locs → lv_has ls 8 [(5, .int (zI s6)), (6, .int (zI q6)), (0, .ref o), (1, .ref (o + 289 + 3 + 2 * u.toNat)), (2, .ref (o + 289 + 3 + 2 * v.toNat)), (3, .int (zI fr)), (4, .int (zI to))] → W pg l en ({ frames := 6, cells := 0, slots := 0, locals := 146 } : Room) st mi ag bl mt cd H locs 0 0 Q (F0 mi 6 ls []) := by
    intro fu
    induction fu with
    | zero => intro s6 q6 M6 g6 _ hfu; exact absurd hfu (Nat.not_lt_zero _)
    | succ fu ih6 =>
      intro s6 q6 M6 g6 hinv hfu6 H locs ls hW hl
      obtain ⟨hz6, hP6, hC6, hF6, hV6, haq6, hbq6⟩ := hinv
      have hp6 := hC6.p
      have hn6 := hC6.cn
      have tv6_3 : M6.1 0 3 = M.1 0 3 := hV6.2 0 3 (by omega) (by omega)
      have tv6_4 : M6.1 0 4 = M.1 0 4 := hV6.2 0 4 (by omega) (by omega)
      refine lv_iload hX0 hB0 dX11_timesBetween_6 (lv_at hl 1 rfl) ?_
      refine lv_iload hX0 hB0 dX11_timesBetween_8 (lv_at hl 6 rfl) ?_
      refine z_icmp_ge (tgt := 60) CX dX11_timesBetween_10 (by decide) (by constructor <;> omega) (by constructor <;> omega) (fun c_10 => ?_) (fun c_10 => ?_)
      ·
        exact hXt6 s6 q6 M6 g6 ⟨hz6.trans (by rw [zc_timesBetween_W6]; exact zif_t c_10 rfl), hP6, hC6, hF6, hV6, by omega, by omega⟩ H locs ls hW (lv_sub hl [0, 1, 2, 3, 4, 5, 6] rfl)
      ·
        have d_10 : ¬ to ≤ q6 := by omega
        refine lv_aload_n hX0 hB0 dX11_timesBetween_13 rfl (lv_at hl 2 rfl) ?_
        refine lv_aload_n hX0 hB0 dX11_timesBetween_14 rfl (lv_at hl 3 rfl) ?_
        refine lv_aload_n hX0 hB0 dX11_timesBetween_15 rfl (lv_at hl 4 rfl) ?_
        refine lv_iload hX0 hB0 dX11_timesBetween_16 (lv_at hl 1 rfl) ?_
        refine z_calli hW (va_runV (C := RX11) (As := [.ref (o + 289 + 3 + 2 * u.toNat), .ref (o + 289 + 3 + 2 * v.toNat), .int (zI q6)]) (rest := []) CX.fix (zd_areBothOn l o M6 u v q6 hP6 hC6 (by constructor <;> omega) (by constructor <;> omega) (by constructor <;> omega)) (cwV 3 CX.fix.2.2.2.2 gX11_timesBetween_X11_areBothOn rfl rfl rfl (by decide +kernel) ⟨Nat.le_of_ble_eq_true rfl, Nat.le_of_ble_eq_true rfl⟩) (z_preV CX hW (r := (RX11, TX11, 13)) (show g6 o = _ from hP6.c0) rfl) rfl rfl hl.1 rfl (lv_room (Nat.le_of_ble_eq_true rfl)) dX11_timesBetween_18 ⟨Nat.zero_le _, Nat.zero_le _⟩) (fun z18 g18 H locs hok hW => ?_)
        obtain ⟨hz18, hp, hc, hfr, hv, hq18⟩ := hok
        obtain ⟨M18, hS18⟩ : ∃ Mq, Mq = (zc_areBothOn M6 u v q6).2 := ⟨_, rfl⟩
        rw [← hS18] at hp hc hv
        try rw [← hS18] at hq18
        have e18 : zc_areBothOn M6 u v q6 = (z18, M18) := Prod.ext hz18.symm hS18.symm
        clear hz18 hS18
        have hP18 := hp
        have hC18 := hc
        have hF18 : zFr f g18 o (o + 681) := zFr.trans hF6 hfr
        clear hp hc hfr
        have hV18 : zVE M18 M := zVE.tr hv hV6
        have tv18_3 : M18.1 0 3 = M.1 0 3 := hV18.2 0 3 (by omega) (by omega)
        have tv18_4 : M18.1 0 4 = M.1 0 4 := hV18.2 0 4 (by omega) (by omega)
        clear hv
        refine z_if_ne (tgt := 27) CX dX11_timesBetween_21 (by decide) (by constructor <;> omega) (fun c_21 => ?_) (fun c_21 => ?_)
        ·
          refine lv_aload_n hX0 hB0 dX11_timesBetween_27 rfl (lv_at hl 2 rfl) ?_
          refine lv_aload_n hX0 hB0 dX11_timesBetween_28 rfl (lv_at hl 3 rfl) ?_
          refine lv_aload_n hX0 hB0 dX11_timesBetween_29 rfl (lv_at hl 4 rfl) ?_
          refine lv_iload hX0 hB0 dX11_timesBetween_30 (lv_at hl 1 rfl) ?_
          refine z_calli hW (va_runV (C := RX11) (As := [.ref (o + 289 + 3 + 2 * u.toNat), .ref (o + 289 + 3 + 2 * v.toNat), .int (zI q6)]) (rest := []) CX.fix (zd_timesAt l o M18 u v q6 hP18 hC18 (by constructor <;> omega) (by constructor <;> omega) (by constructor <;> omega)) (cwV 3 CX.fix.2.2.2.2 gX11_timesBetween_X11_timesAt rfl rfl rfl (by decide +kernel) ⟨Nat.le_of_ble_eq_true rfl, Nat.le_of_ble_eq_true rfl⟩) (z_preV CX hW (r := (RX11, TX11, 13)) (show g18 o = _ from hP18.c0) rfl) rfl rfl hl.1 rfl (lv_room (Nat.le_of_ble_eq_true rfl)) dX11_timesBetween_32 ⟨Nat.zero_le _, Nat.zero_le _⟩) (fun z32 g32 H locs hok hW => ?_)
          obtain ⟨hz32, hp, hc, hfr, hv, hq32⟩ := hok
          obtain ⟨M32, hS32⟩ : ∃ Mq, Mq = (zc_timesAt M18 u v q6).2 := ⟨_, rfl⟩
          rw [← hS32] at hp hc hv
          try rw [← hS32] at hq32
          have e32 : zc_timesAt M18 u v q6 = (z32, M32) := Prod.ext hz32.symm hS32.symm
          clear hz32 hS32
          have hP32 := hp
          have hC32 := hc
          have hF32 : zFr f g32 o (o + 681) := zFr.trans hF18 hfr
          clear hp hc hfr
          have hV32 : zVE M32 M := zVE.tr hv hV18
          have tv32_3 : M32.1 0 3 = M.1 0 3 := hV32.2 0 3 (by omega) (by omega)
          have tv32_4 : M32.1 0 4 = M.1 0 4 := hV32.2 0 4 (by omega) (by omega)
          clear hv
          refine lv_istore (lv' := [(7, .int (zI z32)), (5, .int (zI s6)), (6, .int (zI q6)), (0, .ref o), (1, .ref (o + 289 + 3 + 2 * u.toNat)), (2, .ref (o + 289 + 3 + 2 * v.toNat)), (3, .int (zI fr)), (4, .int (zI to))]) hX0 hB0 dX11_timesBetween_35 hl (by decide) rfl (fun ls hl => ?_)
          refine lv_iload hX0 hB0 dX11_timesBetween_37 (lv_at hl 0 rfl) ?_
          refine lv_bipush (v := zI (-2)) hX0 hB0 dX11_timesBetween_39 (by decide) ?_
          refine z_icmp_ne (tgt := 47) CX dX11_timesBetween_41 (by decide) (by constructor <;> omega) (by constructor <;> omega) (fun c_41 => ?_) (fun c_41 => ?_)
          ·
            refine lv_iload hX0 hB0 dX11_timesBetween_47 (lv_at hl 1 rfl) ?_
            refine lv_iload hX0 hB0 dX11_timesBetween_49 (lv_at hl 0 rfl) ?_
            refine z_iadd (z := s6 + z32) CX dX11_timesBetween_51 rfl ?_
            refine lv_istore (lv' := [(5, .int (zI (s6 + z32))), (7, .int (zI z32)), (6, .int (zI q6)), (0, .ref o), (1, .ref (o + 289 + 3 + 2 * u.toNat)), (2, .ref (o + 289 + 3 + 2 * v.toNat)), (3, .int (zI fr)), (4, .int (zI to))]) hX0 hB0 dX11_timesBetween_52 hl (by decide) rfl (fun ls hl => ?_)
            refine lv_iinc (v := zI (q6 + 1)) (lv' := [(6, .int (zI (q6 + 1))), (5, .int (zI (s6 + z32))), (7, .int (zI z32)), (0, .ref o), (1, .ref (o + 289 + 3 + 2 * u.toNat)), (2, .ref (o + 289 + 3 + 2 * v.toNat)), (3, .int (zI fr)), (4, .int (zI to))]) hX0 hB0 dX11_timesBetween_54 hl (k := 2) rfl (zI_add _ _) (by decide) rfl (fun ls hl => ?_)
            refine lv_goto (tgt := 6) hX0 hB0 dX11_timesBetween_57 (by decide) ?_
            exact ih6 (s6 + z32) (q6 + 1) M32 g32 ⟨hz6.trans (by rw [zc_timesBetween_W6]; exact zif_f d_10 (zlet_e e18 (zif_f c_21 (zlet_e e32 (zif_f c_41 rfl))))), hP32, hC32, hF32, hV32, by omega, by omega⟩ (by omega) H locs ls hW (lv_sub hl [1, 0, 3, 4, 5, 6, 7] rfl)
          ·
            refine lv_bipush (v := zI (-2)) hX0 hB0 dX11_timesBetween_44 (by decide) ?_
            have hE : zc_timesBetween M u v fr to = (-2, M32) := by unfold zc_timesBetween; exact zsum_l (hz6.trans (by rw [zc_timesBetween_W6]; exact zif_f d_10 (zlet_e e18 (zif_f c_21 (zlet_e e32 (zif_t c_41 rfl)))))) rfl
            rw [← hQ]
            exact z_iret (z := -2) CX hW (by rw [hE]; exact ⟨rfl, hP32, hC32, hF32, hV32, trivial⟩) rfl dX11_timesBetween_46
        ·
          refine lv_goto (tgt := 54) hX0 hB0 dX11_timesBetween_24 (by decide) ?_
          refine lv_iinc (v := zI (q6 + 1)) (lv' := [(6, .int (zI (q6 + 1))), (5, .int (zI s6)), (0, .ref o), (1, .ref (o + 289 + 3 + 2 * u.toNat)), (2, .ref (o + 289 + 3 + 2 * v.toNat)), (3, .int (zI fr)), (4, .int (zI to))]) hX0 hB0 dX11_timesBetween_54 hl (k := 1) rfl (zI_add _ _) (by decide) rfl (fun ls hl => ?_)
          refine lv_goto (tgt := 6) hX0 hB0 dX11_timesBetween_57 (by decide) ?_
          exact ih6 s6 (q6 + 1) M18 g18 ⟨hz6.trans (by rw [zc_timesBetween_W6]; exact zif_f d_10 (zlet_e e18 (zif_t c_21 rfl))), hP18, hC18, hF18, hV18, by omega, by omega⟩ (by omega) H locs ls hW (lv_sub hl [1, 0, 2, 3, 4, 5, 6] rfl)
  exact hL6 _ 0 fr M f ⟨rfl, hP, hC, zFr.refl, zVE.rf, by omega, by omega⟩ (by omega) H locs ls hW (lv_sub hl [1, 0, 2, 3, 4, 5, 6] rfl)
noncomputable def zc_meet_W116 (a : Int) (b : Int) (k : Int) (what : Int) (z105 : Int) : Nat → Int → Int → zCt → (Int × zCt) ⊕ (Int × Int × zCt)
  | 0, n116, q116, M116 => .inr (n116, q116, M116)
  | fu116 + 1, n116, q116, M116 => (if z105 ≤ q116 then .inr (n116, q116, M116) else zlet (zc_areBothOn M116 a b q116) (fun q130 => (fun (z130 : Int) (M130 : zCt) => (if z130 = 0 then zc_meet_W116 a b k what z105 fu116 n116 (q116 + 1) M130 else (if n116 = k then (if what = 0 then .inl ((q116, M130)) else zlet (zc_timesAt M130 a b q116) (fun q162 => (fun (z162 : Int) (M162 : zCt) => .inl ((z162, M162))) q162.1 q162.2)) else zc_meet_W116 a b k what z105 fu116 (n116 + 1) (q116 + 1) M130))) q130.1 q130.2))
noncomputable def zc_meet (M : zCt) (a : Int) (b : Int) (k : Int) (what : Int) : Int × zCt := (if 0 ≤ a ∧ a < M.1 0 4 ∧ a < 6 then (if 0 ≤ b ∧ b < M.1 0 4 ∧ b < 6 then (if what < 0 then (-1, M) else (if 1 < what then (-1, M) else (if -1 ≤ k then zlet (zw_common M (M.2.1 a.toNat) (M.2.1 b.toNat) (M.1 0 3)) (fun M63 => (if k = -1 then (if what = 1 then zlet (zmany (M63.1 0 3)) (fun z91 => zlet (zc_timesBetween M63 a b 0 z91) (fun q94 => (fun (z94 : Int) (M94 : zCt) => (z94, M94)) q94.1 q94.2)) else zlet (zmany (M63.1 0 3)) (fun z105 => zsum (zc_meet_W116 a b k what z105 ((995 : Nat)) 0 0 M63) (fun r116 => r116) (fun q116 => (fun (n116 : Int) (q116 : Int) (M116 : zCt) => (if k = -1 then (n116, M116) else (-1, M116))) q116.1 q116.2.1 q116.2.2))) else zlet (zmany (M63.1 0 3)) (fun z105 => zsum (zc_meet_W116 a b k what z105 ((995 : Nat)) 0 0 M63) (fun r116 => r116) (fun q116 => (fun (n116 : Int) (q116 : Int) (M116 : zCt) => (if k = -1 then (n116, M116) else (-1, M116))) q116.1 q116.2.1 q116.2.2)))) else (-1, M)))) else (-1, M)) else (if 0 ≤ b ∧ b < M.1 0 4 ∧ b < 6 then (-1, M) else (-1, M)))
set_option maxRecDepth 100000 in
set_option maxHeartbeats 4000000 in
theorem zd_meet (l : Launch) {D : va_G} {cI cJ cZ cP cS cM : ClassId} {L : List Nat} {sz : Nat} {f : Nat → va_E} (o : Nat) (M : zCt) (a : Int) (b : Int) (k : Int) (what : Int) (hP : zCP cI cP cS cZ cM o M f) (hC : zCI M) (ha : -2147483648 ≤ a ∧ a ≤ 2147483647) (hb : -2147483648 ≤ b ∧ b ≤ 2147483647) (hk : -2147483648 ≤ k ∧ k ≤ 2147483647) (hwhat : -2147483648 ≤ what ∧ what ≤ 2147483647) : zMi l yX11_meet wsX11_meet 7 173 D (zT cI cJ cZ cP cS cM) L sz f [.ref o, .int (zI a), .int (zI b), .int (zI k), .int (zI what)] (fun zv gv => zv = (zc_meet M a b k what).1 ∧ zCP cI cP cS cZ cM o (zc_meet M a b k what).2 gv ∧ zCI (zc_meet M a b k what).2 ∧ zFr f gv o (o + 681) ∧ zVE (zc_meet M a b k what).2 M ∧ True) := by
  refine zWalk.met (nL := 10) (ret := (some .int)) (cc := cX11_meet) (by decide) rfl (Nat.le_of_ble_eq_true rfl) ?_
  intro pg en st mi ag bl mt cd ls CX hW hl
  have CX : zC pg st mi ag mt cd cX11_meet 10 (some .int) RX11 wsX11_meet := CX
  generalize hQ : MQ bl _ ag st 0 0 _ = Q
  have hX0 := CX.1
  have hB0 := CX.2.1
  have hl : lv_has ls 10 [(0, .ref o), (1, .int (zI a)), (2, .int (zI b)), (3, .int (zI k)), (4, .int (zI what))] := hl
  obtain ⟨H, eH⟩ : ∃ H, H = st.heap := ⟨_, rfl⟩
  obtain ⟨locs, eL⟩ : ∃ L : List Loc, L = [] := ⟨_, rfl⟩
  have hW : zW D (zT cI cJ cZ cP cS cM) L (zQ L sz) st f st.heap H locs := by rw [eH, eL]; exact hW
  suffices hgo : W pg l en ({ frames := 7, cells := 0, slots := 0, locals := 173 } : Room) st mi ag bl mt cd H locs 0 0 Q (F0 mi 0 ls []) by rw [eH, eL] at hgo; exact hgo
  clear eH eL
  have hpb := hC.p
  have hnb := hC.cn
  refine lv_aload_n hX0 hB0 dX11_meet_0 rfl (lv_at hl 0 rfl) ?_
  refine z_get (Cn := RX11) (T := TX11) (N := 13) CX hW (v := .ref (o + 289)) (show f o = _ from hP.c0) rfl (fun w h => List.mem_cons_of_mem _ (List.mem_append_left _ (List.mem_append_left _ (List.mem_append_left _ (List.mem_append_left _ (List.mem_append_left _ (List.mem_append_left _ (List.mem_append_left _ (List.mem_append_right _ h))))))))) 1 (by decide) (List.mem_of_getElem? (i := 1) rfl) rfl rfl dX11_meet_1 ?_
  refine lv_iload_n hX0 hB0 dX11_meet_4 rfl (lv_at hl 1 rfl) ?_
  refine z_callr hW (va_runV (C := RX7) (As := [.int (zI a)]) (rest := []) CX.fix (c_find l (o + 289) (M.1 0 3) (M.1 0 4) M.2.1 (M.1 3) a hP.c3 (by omega) (by constructor <;> omega)) (cwV 1 CX.fix.2.2.2.2 gX11_meet_X7_find rfl rfl rfl (by decide +kernel) ⟨Nat.le_of_ble_eq_true rfl, Nat.le_of_ble_eq_true rfl⟩) (z_preV CX hW (r := (RX7, TX7, 4)) hP.c3.1 rfl) rfl rfl hl.1 rfl (lv_room (Nat.le_of_ble_eq_true rfl)) dX11_meet_5 ⟨Nat.zero_le _, Nat.zero_le _⟩) (fun z5 g5 H locs hok hW => ?_)
  obtain ⟨hz, hg⟩ := hok
  rw [hz]
  rw [hg] at hW
  clear hg
  by_cases cf_a_8 : 0 ≤ a ∧ a < M.1 0 4 ∧ a < 6
  ·
    have hzf := zfind_p (a := o + 289) cf_a_8
    rw [hzf]
    clear hzf
    refine lv_astore (lv' := [(5, .ref (o + 289 + 3 + 2 * a.toNat)), (0, .ref o), (1, .int (zI a)), (2, .int (zI b)), (3, .int (zI k)), (4, .int (zI what))]) hX0 hB0 dX11_meet_8 hl (by decide) rfl (fun ls hl => ?_)
    refine lv_aload_n hX0 hB0 dX11_meet_10 rfl (lv_at hl 1 rfl) ?_
    refine z_get (Cn := RX11) (T := TX11) (N := 13) CX hW (v := .ref (o + 289)) (show f o = _ from hP.c0) rfl (fun w h => List.mem_cons_of_mem _ (List.mem_append_left _ (List.mem_append_left _ (List.mem_append_left _ (List.mem_append_left _ (List.mem_append_left _ (List.mem_append_left _ (List.mem_append_left _ (List.mem_append_right _ h))))))))) 1 (by decide) (List.mem_of_getElem? (i := 1) rfl) rfl rfl dX11_meet_11 ?_
    refine lv_iload_n hX0 hB0 dX11_meet_14 rfl (lv_at hl 3 rfl) ?_
    refine z_callr hW (va_runV (C := RX7) (As := [.int (zI b)]) (rest := []) CX.fix (c_find l (o + 289) (M.1 0 3) (M.1 0 4) M.2.1 (M.1 3) b hP.c3 (by omega) (by constructor <;> omega)) (cwV 1 CX.fix.2.2.2.2 gX11_meet_X7_find rfl rfl rfl (by decide +kernel) ⟨Nat.le_of_ble_eq_true rfl, Nat.le_of_ble_eq_true rfl⟩) (z_preV CX hW (r := (RX7, TX7, 4)) hP.c3.1 rfl) rfl rfl hl.1 rfl (lv_room (Nat.le_of_ble_eq_true rfl)) dX11_meet_15 ⟨Nat.zero_le _, Nat.zero_le _⟩) (fun z15 g15 H locs hok hW => ?_)
    obtain ⟨hz, hg⟩ := hok
    rw [hz]
    rw [hg] at hW
    clear hg
    by_cases cf_b_18 : 0 ≤ b ∧ b < M.1 0 4 ∧ b < 6
    ·
      have hzf := zfind_p (a := o + 289) cf_b_18
      rw [hzf]
      clear hzf
      refine lv_astore (lv' := [(6, .ref (o + 289 + 3 + 2 * b.toNat)), (5, .ref (o + 289 + 3 + 2 * a.toNat)), (0, .ref o), (1, .int (zI a)), (2, .int (zI b)), (3, .int (zI k)), (4, .int (zI what))]) hX0 hB0 dX11_meet_18 hl (by decide) rfl (fun ls hl => ?_)
      refine lv_aload hX0 hB0 dX11_meet_20 (lv_at hl 1 rfl) ?_
      refine lv_ifnull hX0 hB0 dX11_meet_22 ?_
      refine lv_aload hX0 hB0 dX11_meet_25 (lv_at hl 0 rfl) ?_
      refine lv_ifnull hX0 hB0 dX11_meet_27 ?_
      refine lv_iload hX0 hB0 dX11_meet_30 (lv_at hl 6 rfl) ?_
      refine z_if_lt (tgt := 46) CX dX11_meet_32 (by decide) (by constructor <;> omega) (fun c_32 => ?_) (fun c_32 => ?_)
      ·
        refine lv_iconst (v := zI (-1)) hX0 hB0 dX11_meet_46 rfl ?_
        have hE : zc_meet M a b k what = (-1, M) := by unfold zc_meet; exact zif_t cf_a_8 (zif_t cf_b_18 (zif_t c_32 rfl))
        rw [← hQ]
        exact z_iret (z := -1) CX hW (by rw [hE]; exact ⟨rfl, hP, hC, zFr.refl, zVE.rf, trivial⟩) rfl dX11_meet_47
      ·
        have d_32 : ¬ what < 0 := by omega
        refine lv_iload hX0 hB0 dX11_meet_35 (lv_at hl 6 rfl) ?_
        refine lv_iconst (v := zI 1) hX0 hB0 dX11_meet_37 rfl ?_
        refine z_icmp_gt (tgt := 46) CX dX11_meet_38 (by decide) (by constructor <;> omega) (by constructor <;> omega) (fun c_38 => ?_) (fun c_38 => ?_)
        ·
          refine lv_iconst (v := zI (-1)) hX0 hB0 dX11_meet_46 rfl ?_
          have hE : zc_meet M a b k what = (-1, M) := by unfold zc_meet; exact zif_t cf_a_8 (zif_t cf_b_18 (zif_f d_32 (zif_t c_38 rfl)))
          rw [← hQ]
          exact z_iret (z := -1) CX hW (by rw [hE]; exact ⟨rfl, hP, hC, zFr.refl, zVE.rf, trivial⟩) rfl dX11_meet_47
        ·
          have d_38 : ¬ 1 < what := by omega
          refine lv_iload_n hX0 hB0 dX11_meet_41 rfl (lv_at hl 5 rfl) ?_
          refine lv_iconst (v := zI (-1)) hX0 hB0 dX11_meet_42 rfl ?_
          refine z_icmp_ge (tgt := 48) CX dX11_meet_43 (by decide) (by constructor <;> omega) (by constructor <;> omega) (fun c_43 => ?_) (fun c_43 => ?_)
          ·
            refine lv_aload_n hX0 hB0 dX11_meet_48 rfl (lv_at hl 2 rfl) ?_
            refine z_get (Cn := RX11) (T := TX11) (N := 13) CX hW (v := .ref (o + 615)) (show f o = _ from hP.c0) rfl (fun w h => List.mem_cons_of_mem _ (List.mem_append_left _ (List.mem_append_left _ (List.mem_append_left _ (List.mem_append_left _ (List.mem_append_left _ (List.mem_append_left _ (List.mem_append_left _ (List.mem_append_right _ h))))))))) 6 (by decide) (List.mem_of_getElem? (i := 2) rfl) rfl rfl dX11_meet_49 ?_
            refine lv_aload hX0 hB0 dX11_meet_52 (lv_at hl 1 rfl) ?_
            refine lv_aload hX0 hB0 dX11_meet_54 (lv_at hl 0 rfl) ?_
            refine lv_aload_n hX0 hB0 dX11_meet_56 rfl (lv_at hl 2 rfl) ?_
            refine z_get (Cn := RX11) (T := TX11) (N := 13) CX hW (v := .ref (o + 289)) (show f o = _ from hP.c0) rfl (fun w h => List.mem_cons_of_mem _ (List.mem_append_left _ (List.mem_append_left _ (List.mem_append_left _ (List.mem_append_left _ (List.mem_append_left _ (List.mem_append_left _ (List.mem_append_left _ (List.mem_append_right _ h))))))))) 1 (by decide) (List.mem_of_getElem? (i := 1) rfl) rfl rfl dX11_meet_57 ?_
            refine z_get (Cn := RX7) (T := TX7) (N := 4) CX hW (v := .int (zI (M.1 0 3))) hP.c3.1 rfl (fun w h => List.mem_cons_of_mem _ (List.mem_append_left _ (List.mem_append_left _ (List.mem_append_left _ (List.mem_append_left _ (List.mem_append_left _ (List.mem_append_left _ (List.mem_append_right _ h)))))))) 0 (by decide) (List.mem_of_getElem? (i := 3) rfl) rfl rfl dX11_meet_60 ?_
            have hr60 := hC.p
            obtain ⟨cc63, cr63, ln63, hsx63⟩ := hP.c8
            obtain ⟨w63, lim63, pq63, R63, K63, hk63, hR63⟩ := hP.c1
            refine z_callr hW (va_runV (C := RX6) (As := [.ref (o + 289 + 3 + 2 * a.toNat), .ref (o + 289 + 3 + 2 * b.toNat), .int (zI (M.1 0 3))]) (rest := []) CX.fix (c_common l (o + 615) (o + 1) (M.1 24) cc63 cr63 ln63 (o + 289 + 3 + 2 * a.toNat) (o + 289 + 3 + 2 * a.toNat + 1) (M.2.1 a.toNat) (o + 289 + 3 + 2 * b.toNat) (o + 289 + 3 + 2 * b.toNat + 1) (M.2.1 b.toNat) w63 lim63 pq63 R63 K63 (M.1 0 3) hsx63 (hP.poly (k := a.toNat) (by omega)).1 (hP.poly (k := a.toNat) (by omega)).2 (hC.poly (k := a) (by omega) (by omega)) (by omega) (by omega) (hP.poly (k := b.toNat) (by omega)).1 (hP.poly (k := b.toNat) (by omega)).2 (hC.poly (k := b) (by omega) (by omega)) (by omega) (by omega) (by omega) (by omega) hk63 hR63 (by omega) (by omega) (by omega) (by omega)) (cwV 3 CX.fix.2.2.2.2 gX11_meet_X6_find rfl rfl rfl (by decide +kernel) ⟨Nat.le_of_ble_eq_true rfl, Nat.le_of_ble_eq_true rfl⟩) (z_preV CX hW (r := (RX6, TX6, 5)) hP.shob rfl) rfl rfl hl.1 rfl (lv_room (Nat.le_of_ble_eq_true rfl)) dX11_meet_63 ⟨Nat.zero_le _, Nat.zero_le _⟩) (fun z63 g63 H locs hok hW => ?_)
            obtain ⟨hz, hs0, hx⟩ := hok
            have hz : va_rf z63 = .ref (o + 615 + 1) := by rw [hz]; rfl
            rw [hz]
            obtain ⟨M63, em63⟩ : ∃ Mq, zw_common M (M.2.1 a.toNat) (M.2.1 b.toNat) (M.1 0 3) = Mq := ⟨_, rfl⟩
            have hP63 : zCP cI cP cS cZ cM o M63 g63 := by rw [← em63]; exact zr_common hP hs0 hx
            have hC63 : zCI M63 := by rw [← em63]; exact zi_common hC (by omega)
            have hV63 : zVE M63 M := zVE.tr (by rw [← em63]; exact zv_common) zVE.rf
            have tv63_3 : M63.1 0 3 = M.1 0 3 := hV63.2 0 3 (by omega) (by omega)
            have tv63_4 : M63.1 0 4 = M.1 0 4 := hV63.2 0 4 (by omega) (by omega)
            have hF63 : zFr f g63 o (o + 681) := zFr.trans zFr.refl (fun q hq => hs0 q (by omega))
            refine lv_pop hX0 hB0 dX11_meet_66 rfl ?_
            refine lv_iload_n hX0 hB0 dX11_meet_67 rfl (lv_at hl 5 rfl) ?_
            refine lv_iconst (v := zI (-1)) hX0 hB0 dX11_meet_68 rfl ?_
            refine z_icmp_ne (tgt := 98) CX dX11_meet_69 (by decide) (by constructor <;> omega) (by constructor <;> omega) (fun c_69 => ?_) (fun c_69 => ?_)
            ·
              refine lv_aload_n hX0 hB0 dX11_meet_98 rfl (lv_at hl 2 rfl) ?_
              refine z_get (Cn := RX11) (T := TX11) (N := 13) CX hW (v := .ref (o + 289)) (show g63 o = _ from hP63.c0) rfl (fun w h => List.mem_cons_of_mem _ (List.mem_append_left _ (List.mem_append_left _ (List.mem_append_left _ (List.mem_append_left _ (List.mem_append_left _ (List.mem_append_left _ (List.mem_append_left _ (List.mem_append_right _ h))))))))) 1 (by decide) (List.mem_of_getElem? (i := 1) rfl) rfl rfl dX11_meet_99 ?_
              refine z_get (Cn := RX7) (T := TX7) (N := 4) CX hW (v := .int (zI (M63.1 0 3))) hP63.c3.1 rfl (fun w h => List.mem_cons_of_mem _ (List.mem_append_left _ (List.mem_append_left _ (List.mem_append_left _ (List.mem_append_left _ (List.mem_append_left _ (List.mem_append_left _ (List.mem_append_right _ h)))))))) 0 (by decide) (List.mem_of_getElem? (i := 3) rfl) rfl rfl dX11_meet_102 ?_
              have hr102 := hC63.p
              refine z_calli hW (va_runS (As := [.int (zI (M63.1 0 3))]) (rest := []) CX.fix (c_howMany l (f := g63) (M63.1 0 3)) (va_cwS 1 CX.fix.2.2.2.2 gX11_meet_X9_howMany rfl rfl rfl (by decide +kernel) ⟨Nat.le_of_ble_eq_true rfl, Nat.le_of_ble_eq_true rfl⟩) (z_preS CX hW) rfl rfl hl.1 rfl (lv_room (Nat.le_of_ble_eq_true rfl)) dX11_meet_105 ⟨Nat.zero_le _, Nat.zero_le _⟩) (fun z105 g105 H locs hok hW => ?_)
              obtain ⟨hz, hg⟩ := hok
              have e105 : zmany (M63.1 0 3) = z105 := hz.symm
              have hmy105 := zmany_rng (p := (M63.1 0 3)) (by omega)
              rw [e105] at hmy105
              rw [hg] at hW
              clear hg
              refine lv_istore (lv' := [(7, .int (zI z105)), (6, .ref (o + 289 + 3 + 2 * b.toNat)), (5, .ref (o + 289 + 3 + 2 * a.toNat)), (0, .ref o), (1, .int (zI a)), (2, .int (zI b)), (3, .int (zI k)), (4, .int (zI what))]) hX0 hB0 dX11_meet_108 hl (by decide) rfl (fun ls hl => ?_)
              refine lv_iconst (v := zI 0) hX0 hB0 dX11_meet_110 rfl ?_
              refine lv_istore (lv' := [(8, .int (zI 0)), (7, .int (zI z105)), (6, .ref (o + 289 + 3 + 2 * b.toNat)), (5, .ref (o + 289 + 3 + 2 * a.toNat)), (0, .ref o), (1, .int (zI a)), (2, .int (zI b)), (3, .int (zI k)), (4, .int (zI what))]) hX0 hB0 dX11_meet_111 hl (by decide) rfl (fun ls hl => ?_)
              refine lv_iconst (v := zI 0) hX0 hB0 dX11_meet_113 rfl ?_
              refine lv_istore (lv' := [(9, .int (zI 0)), (8, .int (zI 0)), (7, .int (zI z105)), (6, .ref (o + 289 + 3 + 2 * b.toNat)), (5, .ref (o + 289 + 3 + 2 * a.toNat)), (0, .ref o), (1, .int (zI a)), (2, .int (zI b)), (3, .int (zI k)), (4, .int (zI what))]) hX0 hB0 dX11_meet_114 hl (by decide) rfl (fun ls hl => ?_)
              have hXt116 : ∀ (n116 : Int) (q116 : Int) (M116 : zCt) (g116 : Nat → va_E), (zc_meet_W116 a b k what z105 ((995 : Nat)) 0 0 M63 = .inr (n116, q116, M116) ∧ zCP cI cP cS cZ cM o M116 g116 ∧ zCI M116 ∧ zFr f g116 o (o + 681) ∧ zVE M116 M ∧ 0 ≤ n116 ∧ n116 ≤ 1000 ∧ 0 ≤ q116 ∧ q116 ≤ 993 ∧ (n116 ≤ q116)) → ∀ (H : Heap) (locs : List Loc) (ls : Array Slot), zW D (zT cI cJ cZ cP cS cM) L (zQ L sz) st g116 st.heap H locs → lv_has ls 10 [(8, .int (zI n116)), (9, .int (zI q116)), (7, .int (zI z105)), (6, .ref (o + 289 + 3 + 2 * b.toNat)), (5, .ref (o + 289 + 3 + 2 * a.toNat)), (0, .ref o), (1, .int (zI a)), (2, .int (zI b)), (3, .int (zI k)), (4, .int (zI what))] → W pg l en ({ frames := 7, cells := 0, slots := 0, locals := 173 } : Room) st mi ag bl mt cd H locs 0 0 Q (F0 mi 175 ls []) := by
                intro n116 q116 M116 g116 hinv H locs ls hW hl
                obtain ⟨e116, hP116, hC116, hF116, hV116, han116, hbn116, haq116, hbq116, hv116⟩ := hinv
                have hp116 := hC116.p
                have hn116 := hC116.cn
                have tv116_3 : M116.1 0 3 = M.1 0 3 := hV116.2 0 3 (by omega) (by omega)
                have tv116_4 : M116.1 0 4 = M.1 0 4 := hV116.2 0 4 (by omega) (by omega)
                refine lv_iload_n hX0 hB0 dX11_meet_175 rfl (lv_at hl 8 rfl) ?_
                refine lv_iconst (v := zI (-1)) hX0 hB0 dX11_meet_176 rfl ?_
                refine z_icmp_ne (tgt := 185) CX dX11_meet_177 (by decide) (by constructor <;> omega) (by constructor <;> omega) (fun c_177 => ?_) (fun c_177 => ?_)
                ·
                  refine lv_iconst (v := zI (-1)) hX0 hB0 dX11_meet_185 rfl ?_
                  have hE : zc_meet M a b k what = (-1, M116) := by unfold zc_meet; exact zif_t cf_a_8 (zif_t cf_b_18 (zif_f d_32 (zif_f d_38 (zif_t c_43 (zlet_e em63 (zif_f c_69 (zlet_e e105 (zsum_r e116 (zif_f c_177 rfl)))))))))
                  rw [← hQ]
                  exact z_iret (z := -1) CX hW (by rw [hE]; exact ⟨rfl, hP116, hC116, hF116, hV116, trivial⟩) rfl dX11_meet_186
                ·
                  refine lv_iload hX0 hB0 dX11_meet_180 (lv_at hl 0 rfl) ?_
                  refine lv_goto (tgt := 186) hX0 hB0 dX11_meet_182 (by decide) ?_
                  have hE : zc_meet M a b k what = (n116, M116) := by unfold zc_meet; exact zif_t cf_a_8 (zif_t cf_b_18 (zif_f d_32 (zif_f d_38 (zif_t c_43 (zlet_e em63 (zif_f c_69 (zlet_e e105 (zsum_r e116 (zif_t c_177 rfl)))))))))
                  rw [← hQ]
                  exact z_iret (z := n116) CX hW (by rw [hE]; exact ⟨rfl, hP116, hC116, hF116, hV116, trivial⟩) rfl dX11_meet_186
              have hL116 : ∀ (fu : Nat) (n116 : Int) (q116 : Int) (M116 : zCt) (g116 : Nat → va_E), (zc_meet_W116 a b k what z105 ((995 : Nat)) 0 0 M63 = zc_meet_W116 a b k what z105 fu n116 q116 M116 ∧ zCP cI cP cS cZ cM o M116 g116 ∧ zCI M116 ∧ zFr f g116 o (o + 681) ∧ zVE M116 M ∧ 0 ≤ n116 ∧ n116 ≤ 1000 ∧ 0 ≤ q116 ∧ q116 ≤ 993 ∧ (n116 ≤ q116)) → (994 - q116).toNat < fu → ∀ (H : Heap) (locs : List Loc) (ls : Array Slot), zW D (zT cI cJ cZ cP cS cM) L (zQ L sz) st g116 st.heap H locs → lv_has ls 10 [(8, .int (zI n116)), (9, .int (zI q116)), (7, .int (zI z105)), (6, .ref (o + 289 + 3 + 2 * b.toNat)), (5, .ref (o + 289 + 3 + 2 * a.toNat)), (0, .ref o), (1, .int (zI a)), (2, .int (zI b)), (3, .int (zI k)), (4, .int (zI what))] → W pg l en ({ frames := 7, cells := 0, slots := 0, locals := 173 } : Room) st mi ag bl mt cd H locs 0 0 Q (F0 mi 116 ls []) := by
                intro fu
                induction fu with
                | zero => intro n116 q116 M116 g116 _ hfu; exact absurd hfu (Nat.not_lt_zero _)
                | succ fu ih116 =>
                  intro n116 q116 M116 g116 hinv hfu116 H locs ls hW hl
                  obtain ⟨hz116, hP116, hC116, hF116, hV116, han116, hbn116, haq116, hbq116, hv116⟩ := hinv
                  have hp116 := hC116.p
                  have hn116 := hC116.cn
                  have tv116_3 : M116.1 0 3 = M.1 0 3 := hV116.2 0 3 (by omega) (by omega)
                  have tv116_4 : M116.1 0 4 = M.1 0 4 := hV116.2 0 4 (by omega) (by omega)
                  refine lv_iload hX0 hB0 dX11_meet_116 (lv_at hl 1 rfl) ?_
                  refine lv_iload hX0 hB0 dX11_meet_118 (lv_at hl 2 rfl) ?_
                  refine z_icmp_ge (tgt := 175) CX dX11_meet_120 (by decide) (by constructor <;> omega) (by constructor <;> omega) (fun c_120 => ?_) (fun c_120 => ?_)
                  ·
                    exact hXt116 n116 q116 M116 g116 ⟨hz116.trans (by rw [zc_meet_W116]; exact zif_t c_120 rfl), hP116, hC116, hF116, hV116, by omega, by omega, by omega, by omega, by omega⟩ H locs ls hW (lv_sub hl [0, 1, 2, 3, 4, 5, 6, 7, 8, 9] rfl)
                  ·
                    have d_120 : ¬ z105 ≤ q116 := by omega
                    refine lv_aload_n hX0 hB0 dX11_meet_123 rfl (lv_at hl 5 rfl) ?_
                    refine lv_aload hX0 hB0 dX11_meet_124 (lv_at hl 4 rfl) ?_
                    refine lv_aload hX0 hB0 dX11_meet_126 (lv_at hl 3 rfl) ?_
                    refine lv_iload hX0 hB0 dX11_meet_128 (lv_at hl 1 rfl) ?_
                    refine z_calli hW (va_runV (C := RX11) (As := [.ref (o + 289 + 3 + 2 * a.toNat), .ref (o + 289 + 3 + 2 * b.toNat), .int (zI q116)]) (rest := []) CX.fix (zd_areBothOn l o M116 a b q116 hP116 hC116 (by constructor <;> omega) (by constructor <;> omega) (by constructor <;> omega)) (cwV 3 CX.fix.2.2.2.2 gX11_meet_X11_areBothOn rfl rfl rfl (by decide +kernel) ⟨Nat.le_of_ble_eq_true rfl, Nat.le_of_ble_eq_true rfl⟩) (z_preV CX hW (r := (RX11, TX11, 13)) (show g116 o = _ from hP116.c0) rfl) rfl rfl hl.1 rfl (lv_room (Nat.le_of_ble_eq_true rfl)) dX11_meet_130 ⟨Nat.zero_le _, Nat.zero_le _⟩) (fun z130 g130 H locs hok hW => ?_)
                    obtain ⟨hz130, hp, hc, hfr, hv, hq130⟩ := hok
                    obtain ⟨M130, hS130⟩ : ∃ Mq, Mq = (zc_areBothOn M116 a b q116).2 := ⟨_, rfl⟩
                    rw [← hS130] at hp hc hv
                    try rw [← hS130] at hq130
                    have e130 : zc_areBothOn M116 a b q116 = (z130, M130) := Prod.ext hz130.symm hS130.symm
                    clear hz130 hS130
                    have hP130 := hp
                    have hC130 := hc
                    have hF130 : zFr f g130 o (o + 681) := zFr.trans hF116 hfr
                    clear hp hc hfr
                    have hV130 : zVE M130 M := zVE.tr hv hV116
                    have tv130_3 : M130.1 0 3 = M.1 0 3 := hV130.2 0 3 (by omega) (by omega)
                    have tv130_4 : M130.1 0 4 = M.1 0 4 := hV130.2 0 4 (by omega) (by omega)
                    clear hv
                    refine z_if_ne (tgt := 139) CX dX11_meet_133 (by decide) (by constructor <;> omega) (fun c_133 => ?_) (fun c_133 => ?_)
                    ·
                      refine lv_iload hX0 hB0 dX11_meet_139 (lv_at hl 0 rfl) ?_
                      refine lv_iload_n hX0 hB0 dX11_meet_141 rfl (lv_at hl 8 rfl) ?_
                      refine z_icmp_ne (tgt := 166) CX dX11_meet_142 (by decide) (by constructor <;> omega) (by constructor <;> omega) (fun c_142 => ?_) (fun c_142 => ?_)
                      ·
                        refine lv_iinc (v := zI (n116 + 1)) (lv' := [(8, .int (zI (n116 + 1))), (9, .int (zI q116)), (7, .int (zI z105)), (6, .ref (o + 289 + 3 + 2 * b.toNat)), (5, .ref (o + 289 + 3 + 2 * a.toNat)), (0, .ref o), (1, .int (zI a)), (2, .int (zI b)), (3, .int (zI k)), (4, .int (zI what))]) hX0 hB0 dX11_meet_166 hl (k := 0) rfl (zI_add _ _) (by decide) rfl (fun ls hl => ?_)
                        refine lv_iinc (v := zI (q116 + 1)) (lv' := [(9, .int (zI (q116 + 1))), (8, .int (zI (n116 + 1))), (7, .int (zI z105)), (6, .ref (o + 289 + 3 + 2 * b.toNat)), (5, .ref (o + 289 + 3 + 2 * a.toNat)), (0, .ref o), (1, .int (zI a)), (2, .int (zI b)), (3, .int (zI k)), (4, .int (zI what))]) hX0 hB0 dX11_meet_169 hl (k := 1) rfl (zI_add _ _) (by decide) rfl (fun ls hl => ?_)
                        refine lv_goto (tgt := 116) hX0 hB0 dX11_meet_172 (by decide) ?_
                        exact ih116 (n116 + 1) (q116 + 1) M130 g130 ⟨hz116.trans (by rw [zc_meet_W116]; exact zif_f d_120 (zlet_e e130 (zif_f c_133 (zif_f c_142 rfl)))), hP130, hC130, hF130, hV130, by omega, by omega, by omega, by omega, by omega⟩ (by omega) H locs ls hW (lv_sub hl [1, 0, 2, 3, 4, 5, 6, 7, 8, 9] rfl)
                      ·
                        refine lv_iload hX0 hB0 dX11_meet_145 (lv_at hl 9 rfl) ?_
                        refine z_if_ne (tgt := 155) CX dX11_meet_147 (by decide) (by constructor <;> omega) (fun c_147 => ?_) (fun c_147 => ?_)
                        ·
                          refine lv_aload_n hX0 hB0 dX11_meet_155 rfl (lv_at hl 5 rfl) ?_
                          refine lv_aload hX0 hB0 dX11_meet_156 (lv_at hl 4 rfl) ?_
                          refine lv_aload hX0 hB0 dX11_meet_158 (lv_at hl 3 rfl) ?_
                          refine lv_iload hX0 hB0 dX11_meet_160 (lv_at hl 1 rfl) ?_
                          refine z_calli hW (va_runV (C := RX11) (As := [.ref (o + 289 + 3 + 2 * a.toNat), .ref (o + 289 + 3 + 2 * b.toNat), .int (zI q116)]) (rest := []) CX.fix (zd_timesAt l o M130 a b q116 hP130 hC130 (by constructor <;> omega) (by constructor <;> omega) (by constructor <;> omega)) (cwV 3 CX.fix.2.2.2.2 gX11_meet_X11_timesAt rfl rfl rfl (by decide +kernel) ⟨Nat.le_of_ble_eq_true rfl, Nat.le_of_ble_eq_true rfl⟩) (z_preV CX hW (r := (RX11, TX11, 13)) (show g130 o = _ from hP130.c0) rfl) rfl rfl hl.1 rfl (lv_room (Nat.le_of_ble_eq_true rfl)) dX11_meet_162 ⟨Nat.zero_le _, Nat.zero_le _⟩) (fun z162 g162 H locs hok hW => ?_)
                          obtain ⟨hz162, hp, hc, hfr, hv, hq162⟩ := hok
                          obtain ⟨M162, hS162⟩ : ∃ Mq, Mq = (zc_timesAt M130 a b q116).2 := ⟨_, rfl⟩
                          rw [← hS162] at hp hc hv
                          try rw [← hS162] at hq162
                          have e162 : zc_timesAt M130 a b q116 = (z162, M162) := Prod.ext hz162.symm hS162.symm
                          clear hz162 hS162
                          have hP162 := hp
                          have hC162 := hc
                          have hF162 : zFr f g162 o (o + 681) := zFr.trans hF130 hfr
                          clear hp hc hfr
                          have hV162 : zVE M162 M := zVE.tr hv hV130
                          have tv162_3 : M162.1 0 3 = M.1 0 3 := hV162.2 0 3 (by omega) (by omega)
                          have tv162_4 : M162.1 0 4 = M.1 0 4 := hV162.2 0 4 (by omega) (by omega)
                          clear hv
                          have hE : zc_meet M a b k what = (z162, M162) := by unfold zc_meet; exact zif_t cf_a_8 (zif_t cf_b_18 (zif_f d_32 (zif_f d_38 (zif_t c_43 (zlet_e em63 (zif_f c_69 (zlet_e e105 (zsum_l (hz116.trans (by rw [zc_meet_W116]; exact zif_f d_120 (zlet_e e130 (zif_f c_133 (zif_t c_142 (zif_f c_147 (zlet_e e162 rfl))))))) rfl))))))))
                          rw [← hQ]
                          exact z_iret (z := z162) CX hW (by rw [hE]; exact ⟨rfl, hP162, hC162, hF162, hV162, trivial⟩) rfl dX11_meet_165
                        ·
                          refine lv_iload hX0 hB0 dX11_meet_150 (lv_at hl 1 rfl) ?_
                          refine lv_goto (tgt := 165) hX0 hB0 dX11_meet_152 (by decide) ?_
                          have hE : zc_meet M a b k what = (q116, M130) := by unfold zc_meet; exact zif_t cf_a_8 (zif_t cf_b_18 (zif_f d_32 (zif_f d_38 (zif_t c_43 (zlet_e em63 (zif_f c_69 (zlet_e e105 (zsum_l (hz116.trans (by rw [zc_meet_W116]; exact zif_f d_120 (zlet_e e130 (zif_f c_133 (zif_t c_142 (zif_t c_147 rfl)))))) rfl))))))))
                          rw [← hQ]
                          exact z_iret (z := q116) CX hW (by rw [hE]; exact ⟨rfl, hP130, hC130, hF130, hV130, trivial⟩) rfl dX11_meet_165
                    ·
                      refine lv_goto (tgt := 169) hX0 hB0 dX11_meet_136 (by decide) ?_
                      refine lv_iinc (v := zI (q116 + 1)) (lv' := [(9, .int (zI (q116 + 1))), (8, .int (zI n116)), (7, .int (zI z105)), (6, .ref (o + 289 + 3 + 2 * b.toNat)), (5, .ref (o + 289 + 3 + 2 * a.toNat)), (0, .ref o), (1, .int (zI a)), (2, .int (zI b)), (3, .int (zI k)), (4, .int (zI what))]) hX0 hB0 dX11_meet_169 hl (k := 1) rfl (zI_add _ _) (by decide) rfl (fun ls hl => ?_)
                      refine lv_goto (tgt := 116) hX0 hB0 dX11_meet_172 (by decide) ?_
                      exact ih116 n116 (q116 + 1) M130 g130 ⟨hz116.trans (by rw [zc_meet_W116]; exact zif_f d_120 (zlet_e e130 (zif_t c_133 rfl))), hP130, hC130, hF130, hV130, by omega, by omega, by omega, by omega, by omega⟩ (by omega) H locs ls hW (lv_sub hl [1, 0, 2, 3, 4, 5, 6, 7, 8, 9] rfl)
              exact hL116 _ 0 0 M63 g63 ⟨rfl, hP63, hC63, hF63, hV63, by omega, by omega, by omega, by omega, by omega⟩ (by omega) H locs ls hW (lv_sub hl [1, 0, 2, 3, 4, 5, 6, 7, 8, 9] rfl)
            ·
              refine lv_iload hX0 hB0 dX11_meet_72 (lv_at hl 6 rfl) ?_
              refine lv_iconst (v := zI 1) hX0 hB0 dX11_meet_74 rfl ?_
              refine z_icmp_ne (tgt := 98) CX dX11_meet_75 (by decide) (by constructor <;> omega) (by constructor <;> omega) (fun c_75 => ?_) (fun c_75 => ?_)
              ·
                refine lv_aload_n hX0 hB0 dX11_meet_98 rfl (lv_at hl 2 rfl) ?_
                refine z_get (Cn := RX11) (T := TX11) (N := 13) CX hW (v := .ref (o + 289)) (show g63 o = _ from hP63.c0) rfl (fun w h => List.mem_cons_of_mem _ (List.mem_append_left _ (List.mem_append_left _ (List.mem_append_left _ (List.mem_append_left _ (List.mem_append_left _ (List.mem_append_left _ (List.mem_append_left _ (List.mem_append_right _ h))))))))) 1 (by decide) (List.mem_of_getElem? (i := 1) rfl) rfl rfl dX11_meet_99 ?_
                refine z_get (Cn := RX7) (T := TX7) (N := 4) CX hW (v := .int (zI (M63.1 0 3))) hP63.c3.1 rfl (fun w h => List.mem_cons_of_mem _ (List.mem_append_left _ (List.mem_append_left _ (List.mem_append_left _ (List.mem_append_left _ (List.mem_append_left _ (List.mem_append_left _ (List.mem_append_right _ h)))))))) 0 (by decide) (List.mem_of_getElem? (i := 3) rfl) rfl rfl dX11_meet_102 ?_
                have hr102 := hC63.p
                refine z_calli hW (va_runS (As := [.int (zI (M63.1 0 3))]) (rest := []) CX.fix (c_howMany l (f := g63) (M63.1 0 3)) (va_cwS 1 CX.fix.2.2.2.2 gX11_meet_X9_howMany rfl rfl rfl (by decide +kernel) ⟨Nat.le_of_ble_eq_true rfl, Nat.le_of_ble_eq_true rfl⟩) (z_preS CX hW) rfl rfl hl.1 rfl (lv_room (Nat.le_of_ble_eq_true rfl)) dX11_meet_105 ⟨Nat.zero_le _, Nat.zero_le _⟩) (fun z105 g105 H locs hok hW => ?_)
                obtain ⟨hz, hg⟩ := hok
                have e105 : zmany (M63.1 0 3) = z105 := hz.symm
                have hmy105 := zmany_rng (p := (M63.1 0 3)) (by omega)
                rw [e105] at hmy105
                rw [hg] at hW
                clear hg
                refine lv_istore (lv' := [(7, .int (zI z105)), (6, .ref (o + 289 + 3 + 2 * b.toNat)), (5, .ref (o + 289 + 3 + 2 * a.toNat)), (0, .ref o), (1, .int (zI a)), (2, .int (zI b)), (3, .int (zI k)), (4, .int (zI what))]) hX0 hB0 dX11_meet_108 hl (by decide) rfl (fun ls hl => ?_)
                refine lv_iconst (v := zI 0) hX0 hB0 dX11_meet_110 rfl ?_
                refine lv_istore (lv' := [(8, .int (zI 0)), (7, .int (zI z105)), (6, .ref (o + 289 + 3 + 2 * b.toNat)), (5, .ref (o + 289 + 3 + 2 * a.toNat)), (0, .ref o), (1, .int (zI a)), (2, .int (zI b)), (3, .int (zI k)), (4, .int (zI what))]) hX0 hB0 dX11_meet_111 hl (by decide) rfl (fun ls hl => ?_)
                refine lv_iconst (v := zI 0) hX0 hB0 dX11_meet_113 rfl ?_
                refine lv_istore (lv' := [(9, .int (zI 0)), (8, .int (zI 0)), (7, .int (zI z105)), (6, .ref (o + 289 + 3 + 2 * b.toNat)), (5, .ref (o + 289 + 3 + 2 * a.toNat)), (0, .ref o), (1, .int (zI a)), (2, .int (zI b)), (3, .int (zI k)), (4, .int (zI what))]) hX0 hB0 dX11_meet_114 hl (by decide) rfl (fun ls hl => ?_)
                have hXt116 : ∀ (n116 : Int) (q116 : Int) (M116 : zCt) (g116 : Nat → va_E), (zc_meet_W116 a b k what z105 ((995 : Nat)) 0 0 M63 = .inr (n116, q116, M116) ∧ zCP cI cP cS cZ cM o M116 g116 ∧ zCI M116 ∧ zFr f g116 o (o + 681) ∧ zVE M116 M ∧ 0 ≤ n116 ∧ n116 ≤ 1000 ∧ 0 ≤ q116 ∧ q116 ≤ 993 ∧ (n116 ≤ q116)) → ∀ (H : Heap) (locs : List Loc) (ls : Array Slot), zW D (zT cI cJ cZ cP cS cM) L (zQ L sz) st g116 st.heap H locs → lv_has ls 10 [(8, .int (zI n116)), (9, .int (zI q116)), (7, .int (zI z105)), (6, .ref (o + 289 + 3 + 2 * b.toNat)), (5, .ref (o + 289 + 3 + 2 * a.toNat)), (0, .ref o), (1, .int (zI a)), (2, .int (zI b)), (3, .int (zI k)), (4, .int (zI what))] → W pg l en ({ frames := 7, cells := 0, slots := 0, locals := 173 } : Room) st mi ag bl mt cd H locs 0 0 Q (F0 mi 175 ls []) := by
                  intro n116 q116 M116 g116 hinv H locs ls hW hl
                  obtain ⟨e116, hP116, hC116, hF116, hV116, han116, hbn116, haq116, hbq116, hv116⟩ := hinv
                  have hp116 := hC116.p
                  have hn116 := hC116.cn
                  have tv116_3 : M116.1 0 3 = M.1 0 3 := hV116.2 0 3 (by omega) (by omega)
                  have tv116_4 : M116.1 0 4 = M.1 0 4 := hV116.2 0 4 (by omega) (by omega)
                  refine lv_iload_n hX0 hB0 dX11_meet_175 rfl (lv_at hl 8 rfl) ?_
                  refine lv_iconst (v := zI (-1)) hX0 hB0 dX11_meet_176 rfl ?_
                  refine z_icmp_ne (tgt := 185) CX dX11_meet_177 (by decide) (by constructor <;> omega) (by constructor <;> omega) (fun c_177 => ?_) (fun c_177 => ?_)
                  ·
                    refine lv_iconst (v := zI (-1)) hX0 hB0 dX11_meet_185 rfl ?_
                    have hE : zc_meet M a b k what = (-1, M116) := by unfold zc_meet; exact zif_t cf_a_8 (zif_t cf_b_18 (zif_f d_32 (zif_f d_38 (zif_t c_43 (zlet_e em63 (zif_t c_69 (zif_f c_75 (zlet_e e105 (zsum_r e116 (zif_f c_177 rfl))))))))))
                    rw [← hQ]
                    exact z_iret (z := -1) CX hW (by rw [hE]; exact ⟨rfl, hP116, hC116, hF116, hV116, trivial⟩) rfl dX11_meet_186
                  ·
                    refine lv_iload hX0 hB0 dX11_meet_180 (lv_at hl 0 rfl) ?_
                    refine lv_goto (tgt := 186) hX0 hB0 dX11_meet_182 (by decide) ?_
                    have hE : zc_meet M a b k what = (n116, M116) := by unfold zc_meet; exact zif_t cf_a_8 (zif_t cf_b_18 (zif_f d_32 (zif_f d_38 (zif_t c_43 (zlet_e em63 (zif_t c_69 (zif_f c_75 (zlet_e e105 (zsum_r e116 (zif_t c_177 rfl))))))))))
                    rw [← hQ]
                    exact z_iret (z := n116) CX hW (by rw [hE]; exact ⟨rfl, hP116, hC116, hF116, hV116, trivial⟩) rfl dX11_meet_186
                have hL116 : ∀ (fu : Nat) (n116 : Int) (q116 : Int) (M116 : zCt) (g116 : Nat → va_E), (zc_meet_W116 a b k what z105 ((995 : Nat)) 0 0 M63 = zc_meet_W116 a b k what z105 fu n116 q116 M116 ∧ zCP cI cP cS cZ cM o M116 g116 ∧ zCI M116 ∧ zFr f g116 o (o + 681) ∧ zVE M116 M ∧ 0 ≤ n116 ∧ n116 ≤ 1000 ∧ 0 ≤ q116 ∧ q116 ≤ 993 ∧ (n116 ≤ q116)) → (994 - q116).toNat < fu → ∀ (H : Heap) (locs : List Loc) (ls : Array Slot), zW D (zT cI cJ cZ cP cS cM) L (zQ L sz) st g116 st.heap H locs → lv_has ls 10 [(8, .int (zI n116)), (9, .int (zI q116)), (7, .int (zI z105)), (6, .ref (o + 289 + 3 + 2 * b.toNat)), (5, .ref (o + 289 + 3 + 2 * a.toNat)), (0, .ref o), (1, .int (zI a)), (2, .int (zI b)), (3, .int (zI k)), (4, .int (zI what))] → W pg l en ({ frames := 7, cells := 0, slots := 0, locals := 173 } : Room) st mi ag bl mt cd H locs 0 0 Q (F0 mi 116 ls []) := by
                  intro fu
                  induction fu with
                  | zero => intro n116 q116 M116 g116 _ hfu; exact absurd hfu (Nat.not_lt_zero _)
                  | succ fu ih116 =>
                    intro n116 q116 M116 g116 hinv hfu116 H locs ls hW hl
                    obtain ⟨hz116, hP116, hC116, hF116, hV116, han116, hbn116, haq116, hbq116, hv116⟩ := hinv
                    have hp116 := hC116.p
                    have hn116 := hC116.cn
                    have tv116_3 : M116.1 0 3 = M.1 0 3 := hV116.2 0 3 (by omega) (by omega)
                    have tv116_4 : M116.1 0 4 = M.1 0 4 := hV116.2 0 4 (by omega) (by omega)
                    refine lv_iload hX0 hB0 dX11_meet_116 (lv_at hl 1 rfl) ?_
                    refine lv_iload hX0 hB0 dX11_meet_118 (lv_at hl 2 rfl) ?_
                    refine z_icmp_ge (tgt := 175) CX dX11_meet_120 (by decide) (by constructor <;> omega) (by constructor <;> omega) (fun c_120 => ?_) (fun c_120 => ?_)
                    ·
                      exact hXt116 n116 q116 M116 g116 ⟨hz116.trans (by rw [zc_meet_W116]; exact zif_t c_120 rfl), hP116, hC116, hF116, hV116, by omega, by omega, by omega, by omega, by omega⟩ H locs ls hW (lv_sub hl [0, 1, 2, 3, 4, 5, 6, 7, 8, 9] rfl)
                    ·
                      have d_120 : ¬ z105 ≤ q116 := by omega
                      refine lv_aload_n hX0 hB0 dX11_meet_123 rfl (lv_at hl 5 rfl) ?_
                      refine lv_aload hX0 hB0 dX11_meet_124 (lv_at hl 4 rfl) ?_
                      refine lv_aload hX0 hB0 dX11_meet_126 (lv_at hl 3 rfl) ?_
                      refine lv_iload hX0 hB0 dX11_meet_128 (lv_at hl 1 rfl) ?_
                      refine z_calli hW (va_runV (C := RX11) (As := [.ref (o + 289 + 3 + 2 * a.toNat), .ref (o + 289 + 3 + 2 * b.toNat), .int (zI q116)]) (rest := []) CX.fix (zd_areBothOn l o M116 a b q116 hP116 hC116 (by constructor <;> omega) (by constructor <;> omega) (by constructor <;> omega)) (cwV 3 CX.fix.2.2.2.2 gX11_meet_X11_areBothOn rfl rfl rfl (by decide +kernel) ⟨Nat.le_of_ble_eq_true rfl, Nat.le_of_ble_eq_true rfl⟩) (z_preV CX hW (r := (RX11, TX11, 13)) (show g116 o = _ from hP116.c0) rfl) rfl rfl hl.1 rfl (lv_room (Nat.le_of_ble_eq_true rfl)) dX11_meet_130 ⟨Nat.zero_le _, Nat.zero_le _⟩) (fun z130 g130 H locs hok hW => ?_)
                      obtain ⟨hz130, hp, hc, hfr, hv, hq130⟩ := hok
                      obtain ⟨M130, hS130⟩ : ∃ Mq, Mq = (zc_areBothOn M116 a b q116).2 := ⟨_, rfl⟩
                      rw [← hS130] at hp hc hv
                      try rw [← hS130] at hq130
                      have e130 : zc_areBothOn M116 a b q116 = (z130, M130) := Prod.ext hz130.symm hS130.symm
                      clear hz130 hS130
                      have hP130 := hp
                      have hC130 := hc
                      have hF130 : zFr f g130 o (o + 681) := zFr.trans hF116 hfr
                      clear hp hc hfr
                      have hV130 : zVE M130 M := zVE.tr hv hV116
                      have tv130_3 : M130.1 0 3 = M.1 0 3 := hV130.2 0 3 (by omega) (by omega)
                      have tv130_4 : M130.1 0 4 = M.1 0 4 := hV130.2 0 4 (by omega) (by omega)
                      clear hv
                      refine z_if_ne (tgt := 139) CX dX11_meet_133 (by decide) (by constructor <;> omega) (fun c_133 => ?_) (fun c_133 => ?_)
                      ·
                        refine lv_iload hX0 hB0 dX11_meet_139 (lv_at hl 0 rfl) ?_
                        refine lv_iload_n hX0 hB0 dX11_meet_141 rfl (lv_at hl 8 rfl) ?_
                        refine z_icmp_ne (tgt := 166) CX dX11_meet_142 (by decide) (by constructor <;> omega) (by constructor <;> omega) (fun c_142 => ?_) (fun c_142 => ?_)
                        ·
                          refine lv_iinc (v := zI (n116 + 1)) (lv' := [(8, .int (zI (n116 + 1))), (9, .int (zI q116)), (7, .int (zI z105)), (6, .ref (o + 289 + 3 + 2 * b.toNat)), (5, .ref (o + 289 + 3 + 2 * a.toNat)), (0, .ref o), (1, .int (zI a)), (2, .int (zI b)), (3, .int (zI k)), (4, .int (zI what))]) hX0 hB0 dX11_meet_166 hl (k := 0) rfl (zI_add _ _) (by decide) rfl (fun ls hl => ?_)
                          refine lv_iinc (v := zI (q116 + 1)) (lv' := [(9, .int (zI (q116 + 1))), (8, .int (zI (n116 + 1))), (7, .int (zI z105)), (6, .ref (o + 289 + 3 + 2 * b.toNat)), (5, .ref (o + 289 + 3 + 2 * a.toNat)), (0, .ref o), (1, .int (zI a)), (2, .int (zI b)), (3, .int (zI k)), (4, .int (zI what))]) hX0 hB0 dX11_meet_169 hl (k := 1) rfl (zI_add _ _) (by decide) rfl (fun ls hl => ?_)
                          refine lv_goto (tgt := 116) hX0 hB0 dX11_meet_172 (by decide) ?_
                          exact ih116 (n116 + 1) (q116 + 1) M130 g130 ⟨hz116.trans (by rw [zc_meet_W116]; exact zif_f d_120 (zlet_e e130 (zif_f c_133 (zif_f c_142 rfl)))), hP130, hC130, hF130, hV130, by omega, by omega, by omega, by omega, by omega⟩ (by omega) H locs ls hW (lv_sub hl [1, 0, 2, 3, 4, 5, 6, 7, 8, 9] rfl)
                        ·
                          refine lv_iload hX0 hB0 dX11_meet_145 (lv_at hl 9 rfl) ?_
                          refine z_if_ne (tgt := 155) CX dX11_meet_147 (by decide) (by constructor <;> omega) (fun c_147 => ?_) (fun c_147 => ?_)
                          ·
                            refine lv_aload_n hX0 hB0 dX11_meet_155 rfl (lv_at hl 5 rfl) ?_
                            refine lv_aload hX0 hB0 dX11_meet_156 (lv_at hl 4 rfl) ?_
                            refine lv_aload hX0 hB0 dX11_meet_158 (lv_at hl 3 rfl) ?_
                            refine lv_iload hX0 hB0 dX11_meet_160 (lv_at hl 1 rfl) ?_
                            refine z_calli hW (va_runV (C := RX11) (As := [.ref (o + 289 + 3 + 2 * a.toNat), .ref (o + 289 + 3 + 2 * b.toNat), .int (zI q116)]) (rest := []) CX.fix (zd_timesAt l o M130 a b q116 hP130 hC130 (by constructor <;> omega) (by constructor <;> omega) (by constructor <;> omega)) (cwV 3 CX.fix.2.2.2.2 gX11_meet_X11_timesAt rfl rfl rfl (by decide +kernel) ⟨Nat.le_of_ble_eq_true rfl, Nat.le_of_ble_eq_true rfl⟩) (z_preV CX hW (r := (RX11, TX11, 13)) (show g130 o = _ from hP130.c0) rfl) rfl rfl hl.1 rfl (lv_room (Nat.le_of_ble_eq_true rfl)) dX11_meet_162 ⟨Nat.zero_le _, Nat.zero_le _⟩) (fun z162 g162 H locs hok hW => ?_)
                            obtain ⟨hz162, hp, hc, hfr, hv, hq162⟩ := hok
                            obtain ⟨M162, hS162⟩ : ∃ Mq, Mq = (zc_timesAt M130 a b q116).2 := ⟨_, rfl⟩
                            rw [← hS162] at hp hc hv
                            try rw [← hS162] at hq162
                            have e162 : zc_timesAt M130 a b q116 = (z162, M162) := Prod.ext hz162.symm hS162.symm
                            clear hz162 hS162
                            have hP162 := hp
                            have hC162 := hc
                            have hF162 : zFr f g162 o (o + 681) := zFr.trans hF130 hfr
                            clear hp hc hfr
                            have hV162 : zVE M162 M := zVE.tr hv hV130
                            have tv162_3 : M162.1 0 3 = M.1 0 3 := hV162.2 0 3 (by omega) (by omega)
                            have tv162_4 : M162.1 0 4 = M.1 0 4 := hV162.2 0 4 (by omega) (by omega)
                            clear hv
                            have hE : zc_meet M a b k what = (z162, M162) := by unfold zc_meet; exact zif_t cf_a_8 (zif_t cf_b_18 (zif_f d_32 (zif_f d_38 (zif_t c_43 (zlet_e em63 (zif_t c_69 (zif_f c_75 (zlet_e e105 (zsum_l (hz116.trans (by rw [zc_meet_W116]; exact zif_f d_120 (zlet_e e130 (zif_f c_133 (zif_t c_142 (zif_f c_147 (zlet_e e162 rfl))))))) rfl)))))))))
                            rw [← hQ]
                            exact z_iret (z := z162) CX hW (by rw [hE]; exact ⟨rfl, hP162, hC162, hF162, hV162, trivial⟩) rfl dX11_meet_165
                          ·
                            refine lv_iload hX0 hB0 dX11_meet_150 (lv_at hl 1 rfl) ?_
                            refine lv_goto (tgt := 165) hX0 hB0 dX11_meet_152 (by decide) ?_
                            have hE : zc_meet M a b k what = (q116, M130) := by unfold zc_meet; exact zif_t cf_a_8 (zif_t cf_b_18 (zif_f d_32 (zif_f d_38 (zif_t c_43 (zlet_e em63 (zif_t c_69 (zif_f c_75 (zlet_e e105 (zsum_l (hz116.trans (by rw [zc_meet_W116]; exact zif_f d_120 (zlet_e e130 (zif_f c_133 (zif_t c_142 (zif_t c_147 rfl)))))) rfl)))))))))
                            rw [← hQ]
                            exact z_iret (z := q116) CX hW (by rw [hE]; exact ⟨rfl, hP130, hC130, hF130, hV130, trivial⟩) rfl dX11_meet_165
                      ·
                        refine lv_goto (tgt := 169) hX0 hB0 dX11_meet_136 (by decide) ?_
                        refine lv_iinc (v := zI (q116 + 1)) (lv' := [(9, .int (zI (q116 + 1))), (8, .int (zI n116)), (7, .int (zI z105)), (6, .ref (o + 289 + 3 + 2 * b.toNat)), (5, .ref (o + 289 + 3 + 2 * a.toNat)), (0, .ref o), (1, .int (zI a)), (2, .int (zI b)), (3, .int (zI k)), (4, .int (zI what))]) hX0 hB0 dX11_meet_169 hl (k := 1) rfl (zI_add _ _) (by decide) rfl (fun ls hl => ?_)
                        refine lv_goto (tgt := 116) hX0 hB0 dX11_meet_172 (by decide) ?_
                        exact ih116 n116 (q116 + 1) M130 g130 ⟨hz116.trans (by rw [zc_meet_W116]; exact zif_f d_120 (zlet_e e130 (zif_t c_133 rfl))), hP130, hC130, hF130, hV130, by omega, by omega, by omega, by omega, by omega⟩ (by omega) H locs ls hW (lv_sub hl [1, 0, 2, 3, 4, 5, 6, 7, 8, 9] rfl)
                exact hL116 _ 0 0 M63 g63 ⟨rfl, hP63, hC63, hF63, hV63, by omega, by omega, by omega, by omega, by omega⟩ (by omega) H locs ls hW (lv_sub hl [1, 0, 2, 3, 4, 5, 6, 7, 8, 9] rfl)
              ·
                refine lv_aload_n hX0 hB0 dX11_meet_78 rfl (lv_at hl 2 rfl) ?_
                refine lv_aload hX0 hB0 dX11_meet_79 (lv_at hl 1 rfl) ?_
                refine lv_aload hX0 hB0 dX11_meet_81 (lv_at hl 0 rfl) ?_
                refine lv_iconst (v := zI 0) hX0 hB0 dX11_meet_83 rfl ?_
                refine lv_aload_n hX0 hB0 dX11_meet_84 rfl (lv_at hl 2 rfl) ?_
                refine z_get (Cn := RX11) (T := TX11) (N := 13) CX hW (v := .ref (o + 289)) (show g63 o = _ from hP63.c0) rfl (fun w h => List.mem_cons_of_mem _ (List.mem_append_left _ (List.mem_append_left _ (List.mem_append_left _ (List.mem_append_left _ (List.mem_append_left _ (List.mem_append_left _ (List.mem_append_left _ (List.mem_append_right _ h))))))))) 1 (by decide) (List.mem_of_getElem? (i := 1) rfl) rfl rfl dX11_meet_85 ?_
                refine z_get (Cn := RX7) (T := TX7) (N := 4) CX hW (v := .int (zI (M63.1 0 3))) hP63.c3.1 rfl (fun w h => List.mem_cons_of_mem _ (List.mem_append_left _ (List.mem_append_left _ (List.mem_append_left _ (List.mem_append_left _ (List.mem_append_left _ (List.mem_append_left _ (List.mem_append_right _ h)))))))) 0 (by decide) (List.mem_of_getElem? (i := 3) rfl) rfl rfl dX11_meet_88 ?_
                have hr88 := hC63.p
                refine z_calli hW (va_runS (As := [.int (zI (M63.1 0 3))]) (rest := [.int (zI 0), .ref (o + 289 + 3 + 2 * b.toNat), .ref (o + 289 + 3 + 2 * a.toNat), .ref o]) CX.fix (c_howMany l (f := g63) (M63.1 0 3)) (va_cwS 1 CX.fix.2.2.2.2 gX11_meet_X9_howMany rfl rfl rfl (by decide +kernel) ⟨Nat.le_of_ble_eq_true rfl, Nat.le_of_ble_eq_true rfl⟩) (z_preS CX hW) rfl rfl hl.1 rfl (lv_room (Nat.le_of_ble_eq_true rfl)) dX11_meet_91 ⟨Nat.zero_le _, Nat.zero_le _⟩) (fun z91 g91 H locs hok hW => ?_)
                obtain ⟨hz, hg⟩ := hok
                have e91 : zmany (M63.1 0 3) = z91 := hz.symm
                have hmy91 := zmany_rng (p := (M63.1 0 3)) (by omega)
                rw [e91] at hmy91
                rw [hg] at hW
                clear hg
                refine z_calli hW (va_runV (C := RX11) (As := [.ref (o + 289 + 3 + 2 * a.toNat), .ref (o + 289 + 3 + 2 * b.toNat), .int (zI 0), .int (zI z91)]) (rest := []) CX.fix (zd_timesBetween l o M63 a b 0 z91 hP63 hC63 (by constructor <;> omega) (by constructor <;> omega) (by constructor <;> omega) (by constructor <;> omega)) (cwV 4 CX.fix.2.2.2.2 gX11_meet_X11_timesBetween rfl rfl rfl (by decide +kernel) ⟨Nat.le_of_ble_eq_true rfl, Nat.le_of_ble_eq_true rfl⟩) (z_preV CX hW (r := (RX11, TX11, 13)) (show g63 o = _ from hP63.c0) rfl) rfl rfl hl.1 rfl (lv_room (Nat.le_of_ble_eq_true rfl)) dX11_meet_94 ⟨Nat.zero_le _, Nat.zero_le _⟩) (fun z94 g94 H locs hok hW => ?_)
                obtain ⟨hz94, hp, hc, hfr, hv, hq94⟩ := hok
                obtain ⟨M94, hS94⟩ : ∃ Mq, Mq = (zc_timesBetween M63 a b 0 z91).2 := ⟨_, rfl⟩
                rw [← hS94] at hp hc hv
                try rw [← hS94] at hq94
                have e94 : zc_timesBetween M63 a b 0 z91 = (z94, M94) := Prod.ext hz94.symm hS94.symm
                clear hz94 hS94
                have hP94 := hp
                have hC94 := hc
                have hF94 : zFr f g94 o (o + 681) := zFr.trans hF63 hfr
                clear hp hc hfr
                have hV94 : zVE M94 M := zVE.tr hv hV63
                have tv94_3 : M94.1 0 3 = M.1 0 3 := hV94.2 0 3 (by omega) (by omega)
                have tv94_4 : M94.1 0 4 = M.1 0 4 := hV94.2 0 4 (by omega) (by omega)
                clear hv
                have hE : zc_meet M a b k what = (z94, M94) := by unfold zc_meet; exact zif_t cf_a_8 (zif_t cf_b_18 (zif_f d_32 (zif_f d_38 (zif_t c_43 (zlet_e em63 (zif_t c_69 (zif_t c_75 (zlet_e e91 (zlet_e e94 rfl)))))))))
                rw [← hQ]
                exact z_iret (z := z94) CX hW (by rw [hE]; exact ⟨rfl, hP94, hC94, hF94, hV94, trivial⟩) rfl dX11_meet_97
          ·
            have d_43 : ¬ -1 ≤ k := by omega
            refine lv_iconst (v := zI (-1)) hX0 hB0 dX11_meet_46 rfl ?_
            have hE : zc_meet M a b k what = (-1, M) := by unfold zc_meet; exact zif_t cf_a_8 (zif_t cf_b_18 (zif_f d_32 (zif_f d_38 (zif_f d_43 rfl))))
            rw [← hQ]
            exact z_iret (z := -1) CX hW (by rw [hE]; exact ⟨rfl, hP, hC, zFr.refl, zVE.rf, trivial⟩) rfl dX11_meet_47
    ·
      have hzf := zfind_n (a := o + 289) cf_b_18
      rw [hzf]
      clear hzf
      refine lv_astoreN (lv' := [(6, .null), (5, .ref (o + 289 + 3 + 2 * a.toNat)), (0, .ref o), (1, .int (zI a)), (2, .int (zI b)), (3, .int (zI k)), (4, .int (zI what))]) hX0 hB0 dX11_meet_18 hl (by decide) rfl (fun ls hl => ?_)
      refine lv_aload hX0 hB0 dX11_meet_20 (lv_at hl 1 rfl) ?_
      refine lv_ifnull hX0 hB0 dX11_meet_22 ?_
      refine lv_aloadN hX0 hB0 dX11_meet_25 (lv_at hl 0 rfl) ?_
      refine lv_ifnullN (tgt := 46) hX0 hB0 dX11_meet_27 (by decide) ?_
      refine lv_iconst (v := zI (-1)) hX0 hB0 dX11_meet_46 rfl ?_
      have hE : zc_meet M a b k what = (-1, M) := by unfold zc_meet; exact zif_t cf_a_8 (zif_f cf_b_18 rfl)
      rw [← hQ]
      exact z_iret (z := -1) CX hW (by rw [hE]; exact ⟨rfl, hP, hC, zFr.refl, zVE.rf, trivial⟩) rfl dX11_meet_47
  ·
    have hzf := zfind_n (a := o + 289) cf_a_8
    rw [hzf]
    clear hzf
    refine lv_astoreN (lv' := [(5, .null), (0, .ref o), (1, .int (zI a)), (2, .int (zI b)), (3, .int (zI k)), (4, .int (zI what))]) hX0 hB0 dX11_meet_8 hl (by decide) rfl (fun ls hl => ?_)
    refine lv_aload_n hX0 hB0 dX11_meet_10 rfl (lv_at hl 1 rfl) ?_
    refine z_get (Cn := RX11) (T := TX11) (N := 13) CX hW (v := .ref (o + 289)) (show f o = _ from hP.c0) rfl (fun w h => List.mem_cons_of_mem _ (List.mem_append_left _ (List.mem_append_left _ (List.mem_append_left _ (List.mem_append_left _ (List.mem_append_left _ (List.mem_append_left _ (List.mem_append_left _ (List.mem_append_right _ h))))))))) 1 (by decide) (List.mem_of_getElem? (i := 1) rfl) rfl rfl dX11_meet_11 ?_
    refine lv_iload_n hX0 hB0 dX11_meet_14 rfl (lv_at hl 3 rfl) ?_
    refine z_callr hW (va_runV (C := RX7) (As := [.int (zI b)]) (rest := []) CX.fix (c_find l (o + 289) (M.1 0 3) (M.1 0 4) M.2.1 (M.1 3) b hP.c3 (by omega) (by constructor <;> omega)) (cwV 1 CX.fix.2.2.2.2 gX11_meet_X7_find rfl rfl rfl (by decide +kernel) ⟨Nat.le_of_ble_eq_true rfl, Nat.le_of_ble_eq_true rfl⟩) (z_preV CX hW (r := (RX7, TX7, 4)) hP.c3.1 rfl) rfl rfl hl.1 rfl (lv_room (Nat.le_of_ble_eq_true rfl)) dX11_meet_15 ⟨Nat.zero_le _, Nat.zero_le _⟩) (fun z15 g15 H locs hok hW => ?_)
    obtain ⟨hz, hg⟩ := hok
    rw [hz]
    rw [hg] at hW
    clear hg
    by_cases cf_b_18 : 0 ≤ b ∧ b < M.1 0 4 ∧ b < 6
    ·
      have hzf := zfind_p (a := o + 289) cf_b_18
      rw [hzf]
      clear hzf
      refine lv_astore (lv' := [(6, .ref (o + 289 + 3 + 2 * b.toNat)), (5, .null), (0, .ref o), (1, .int (zI a)), (2, .int (zI b)), (3, .int (zI k)), (4, .int (zI what))]) hX0 hB0 dX11_meet_18 hl (by decide) rfl (fun ls hl => ?_)
      refine lv_aloadN hX0 hB0 dX11_meet_20 (lv_at hl 1 rfl) ?_
      refine lv_ifnullN (tgt := 46) hX0 hB0 dX11_meet_22 (by decide) ?_
      refine lv_iconst (v := zI (-1)) hX0 hB0 dX11_meet_46 rfl ?_
      have hE : zc_meet M a b k what = (-1, M) := by unfold zc_meet; exact zif_f cf_a_8 (zif_t cf_b_18 rfl)
      rw [← hQ]
      exact z_iret (z := -1) CX hW (by rw [hE]; exact ⟨rfl, hP, hC, zFr.refl, zVE.rf, trivial⟩) rfl dX11_meet_47
    ·
      have hzf := zfind_n (a := o + 289) cf_b_18
      rw [hzf]
      clear hzf
      refine lv_astoreN (lv' := [(6, .null), (5, .null), (0, .ref o), (1, .int (zI a)), (2, .int (zI b)), (3, .int (zI k)), (4, .int (zI what))]) hX0 hB0 dX11_meet_18 hl (by decide) rfl (fun ls hl => ?_)
      refine lv_aloadN hX0 hB0 dX11_meet_20 (lv_at hl 1 rfl) ?_
      refine lv_ifnullN (tgt := 46) hX0 hB0 dX11_meet_22 (by decide) ?_
      refine lv_iconst (v := zI (-1)) hX0 hB0 dX11_meet_46 rfl ?_
      have hE : zc_meet M a b k what = (-1, M) := by unfold zc_meet; exact zif_f cf_a_8 (zif_f cf_b_18 rfl)
      rw [← hQ]
      exact z_iret (z := -1) CX hW (by rw [hE]; exact ⟨rfl, hP, hC, zFr.refl, zVE.rf, trivial⟩) rfl dX11_meet_47
noncomputable def zc_forms (d : Int) : Int := (if 0 ≤ d then Int.tdiv ((d + 1) * (d + 2)) 2 else 0)
set_option maxRecDepth 100000 in
set_option maxHeartbeats 4000000 in
theorem zd_forms (l : Launch) {D : va_G} {cI cJ cZ cP cS cM : ClassId} {L : List Nat} {sz : Nat} {f : Nat → va_E} (d : Int) (hd : -40 ≤ d ∧ d ≤ 40) : zMi l yX11_forms wsX11_forms 0 0 D (zT cI cJ cZ cP cS cM) L sz f [.int (zI d)] (fun zv gv => zv = zc_forms d ∧ gv = f ∧ True) := by
  refine zWalk.met (nL := 1) (ret := (some .int)) (cc := cX11_forms) (by decide) rfl (Nat.le_of_ble_eq_true rfl) ?_
  intro pg en st mi ag bl mt cd ls CX hW hl
  have CX : zC pg st mi ag mt cd cX11_forms 1 (some .int) RX11 wsX11_forms := CX
  generalize hQ : MQ bl _ ag st 0 0 _ = Q
  have hX0 := CX.1
  have hB0 := CX.2.1
  have hl : lv_has ls 1 [(0, .int (zI d))] := hl
  obtain ⟨H, eH⟩ : ∃ H, H = st.heap := ⟨_, rfl⟩
  obtain ⟨locs, eL⟩ : ∃ L : List Loc, L = [] := ⟨_, rfl⟩
  have hW : zW D (zT cI cJ cZ cP cS cM) L (zQ L sz) st f st.heap H locs := by rw [eH, eL]; exact hW
  suffices hgo : W pg l en ({ frames := 0, cells := 0, slots := 0, locals := 0 } : Room) st mi ag bl mt cd H locs 0 0 Q (F0 mi 0 ls []) by rw [eH, eL] at hgo; exact hgo
  clear eH eL
  refine lv_iload_n hX0 hB0 dX11_forms_0 rfl (lv_at hl 0 rfl) ?_
  refine z_if_ge (tgt := 8) CX dX11_forms_1 (by decide) (by constructor <;> omega) (fun c_1 => ?_) (fun c_1 => ?_)
  ·
    refine lv_iload_n hX0 hB0 dX11_forms_8 rfl (lv_at hl 0 rfl) ?_
    refine lv_iconst (v := zI 1) hX0 hB0 dX11_forms_9 rfl ?_
    refine z_iadd (z := d + 1) CX dX11_forms_10 rfl ?_
    refine lv_iload_n hX0 hB0 dX11_forms_11 rfl (lv_at hl 0 rfl) ?_
    refine lv_iconst (v := zI 2) hX0 hB0 dX11_forms_12 rfl ?_
    refine z_iadd (z := d + 2) CX dX11_forms_13 rfl ?_
    refine z_imul (z := (d + 1) * (d + 2)) CX dX11_forms_14 rfl ?_
    have hm14 := zbox_mul (a := d + 1) (b := d + 2) (A := 41) (B := 42) (by constructor <;> omega) (by constructor <;> omega) (C := 1722) (by decide)
    refine lv_iconst (v := zI 2) hX0 hB0 dX11_forms_15 rfl ?_
    refine z_idiv (z := Int.tdiv ((d + 1) * (d + 2)) 2) CX dX11_forms_16 (by constructor <;> omega) (by constructor <;> omega) rfl ?_
    have hE : zc_forms d = Int.tdiv ((d + 1) * (d + 2)) 2 := by unfold zc_forms; exact zif_t c_1 rfl
    rw [← hQ]
    exact z_iret (z := Int.tdiv ((d + 1) * (d + 2)) 2) CX hW (by rw [hE]; exact ⟨rfl, rfl, trivial⟩) rfl dX11_forms_17
  ·
    have d_1 : ¬ 0 ≤ d := by omega
    refine lv_iconst (v := zI 0) hX0 hB0 dX11_forms_4 rfl ?_
    refine lv_goto (tgt := 17) hX0 hB0 dX11_forms_5 (by decide) ?_
    have hE : zc_forms d = 0 := by unfold zc_forms; exact zif_f d_1 rfl
    rw [← hQ]
    exact z_iret (z := 0) CX hW (by rw [hE]; exact ⟨rfl, rfl, trivial⟩) rfl dX11_forms_17
noncomputable def zc_parts (M : zCt) (a : Int) (b : Int) (d : Int) : Int × zCt := (if 0 ≤ a ∧ a < M.1 0 4 ∧ a < 6 then (if 0 ≤ b ∧ b < M.1 0 4 ∧ b < 6 then (if d < 0 then (-1, M) else (if d ≤ 24 then zlet (ztop (M.2.1 a.toNat)) (fun z44 => zlet (ztop (M.2.1 b.toNat)) (fun z51 => zlet (zw_common M (M.2.1 a.toNat) (M.2.1 b.toNat) (M.1 0 3)) (fun M76 => zlet (ztop (M76.1 24)) (fun z79 => zlet (zc_forms d) (fun z86 => zlet (zc_forms (d - z44)) (fun z93 => zlet (zc_forms (d - z51)) (fun z101 => zlet (zc_forms (d - ((z44 + z51) - z79))) (fun z109 => (((z86 - z93) - z101) + z109, M76))))))))) else (-1, M))) else (-1, M)) else (if 0 ≤ b ∧ b < M.1 0 4 ∧ b < 6 then (-1, M) else (-1, M)))
set_option maxRecDepth 100000 in
set_option maxHeartbeats 4000000 in
theorem zd_parts (l : Launch) {D : va_G} {cI cJ cZ cP cS cM : ClassId} {L : List Nat} {sz : Nat} {f : Nat → va_E} (o : Nat) (M : zCt) (a : Int) (b : Int) (d : Int) (hP : zCP cI cP cS cZ cM o M f) (hC : zCI M) (ha : -2147483648 ≤ a ∧ a ≤ 2147483647) (hb : -2147483648 ≤ b ∧ b ≤ 2147483647) (hd : -2147483648 ≤ d ∧ d ≤ 2147483647) : zMi l yX11_parts wsX11_parts 5 122 D (zT cI cJ cZ cP cS cM) L sz f [.ref o, .int (zI a), .int (zI b), .int (zI d)] (fun zv gv => zv = (zc_parts M a b d).1 ∧ zCP cI cP cS cZ cM o (zc_parts M a b d).2 gv ∧ zCI (zc_parts M a b d).2 ∧ zFr f gv o (o + 681) ∧ zVE (zc_parts M a b d).2 M ∧ True) := by
  refine zWalk.met (nL := 9) (ret := (some .int)) (cc := cX11_parts) (by decide) rfl (Nat.le_of_ble_eq_true rfl) ?_
  intro pg en st mi ag bl mt cd ls CX hW hl
  have CX : zC pg st mi ag mt cd cX11_parts 9 (some .int) RX11 wsX11_parts := CX
  generalize hQ : MQ bl _ ag st 0 0 _ = Q
  have hX0 := CX.1
  have hB0 := CX.2.1
  have hl : lv_has ls 9 [(0, .ref o), (1, .int (zI a)), (2, .int (zI b)), (3, .int (zI d))] := hl
  obtain ⟨H, eH⟩ : ∃ H, H = st.heap := ⟨_, rfl⟩
  obtain ⟨locs, eL⟩ : ∃ L : List Loc, L = [] := ⟨_, rfl⟩
  have hW : zW D (zT cI cJ cZ cP cS cM) L (zQ L sz) st f st.heap H locs := by rw [eH, eL]; exact hW
  suffices hgo : W pg l en ({ frames := 5, cells := 0, slots := 0, locals := 122 } : Room) st mi ag bl mt cd H locs 0 0 Q (F0 mi 0 ls []) by rw [eH, eL] at hgo; exact hgo
  clear eH eL
  have hpb := hC.p
  have hnb := hC.cn
  refine lv_aload_n hX0 hB0 dX11_parts_0 rfl (lv_at hl 0 rfl) ?_
  refine z_get (Cn := RX11) (T := TX11) (N := 13) CX hW (v := .ref (o + 289)) (show f o = _ from hP.c0) rfl (fun w h => List.mem_cons_of_mem _ (List.mem_append_left _ (List.mem_append_left _ (List.mem_append_left _ (List.mem_append_left _ (List.mem_append_right _ h)))))) 1 (by decide) (List.mem_of_getElem? (i := 1) rfl) rfl rfl dX11_parts_1 ?_
  refine lv_iload_n hX0 hB0 dX11_parts_4 rfl (lv_at hl 1 rfl) ?_
  refine z_callr hW (va_runV (C := RX7) (As := [.int (zI a)]) (rest := []) CX.fix (c_find l (o + 289) (M.1 0 3) (M.1 0 4) M.2.1 (M.1 3) a hP.c3 (by omega) (by constructor <;> omega)) (cwV 1 CX.fix.2.2.2.2 gX11_parts_X7_find rfl rfl rfl (by decide +kernel) ⟨Nat.le_of_ble_eq_true rfl, Nat.le_of_ble_eq_true rfl⟩) (z_preV CX hW (r := (RX7, TX7, 4)) hP.c3.1 rfl) rfl rfl hl.1 rfl (lv_room (Nat.le_of_ble_eq_true rfl)) dX11_parts_5 ⟨Nat.zero_le _, Nat.zero_le _⟩) (fun z5 g5 H locs hok hW => ?_)
  obtain ⟨hz, hg⟩ := hok
  rw [hz]
  rw [hg] at hW
  clear hg
  by_cases cf_a_8 : 0 ≤ a ∧ a < M.1 0 4 ∧ a < 6
  ·
    have hzf := zfind_p (a := o + 289) cf_a_8
    rw [hzf]
    clear hzf
    refine lv_astore (lv' := [(4, .ref (o + 289 + 3 + 2 * a.toNat)), (0, .ref o), (1, .int (zI a)), (2, .int (zI b)), (3, .int (zI d))]) hX0 hB0 dX11_parts_8 hl (by decide) rfl (fun ls hl => ?_)
    refine lv_aload_n hX0 hB0 dX11_parts_10 rfl (lv_at hl 1 rfl) ?_
    refine z_get (Cn := RX11) (T := TX11) (N := 13) CX hW (v := .ref (o + 289)) (show f o = _ from hP.c0) rfl (fun w h => List.mem_cons_of_mem _ (List.mem_append_left _ (List.mem_append_left _ (List.mem_append_left _ (List.mem_append_left _ (List.mem_append_right _ h)))))) 1 (by decide) (List.mem_of_getElem? (i := 1) rfl) rfl rfl dX11_parts_11 ?_
    refine lv_iload_n hX0 hB0 dX11_parts_14 rfl (lv_at hl 3 rfl) ?_
    refine z_callr hW (va_runV (C := RX7) (As := [.int (zI b)]) (rest := []) CX.fix (c_find l (o + 289) (M.1 0 3) (M.1 0 4) M.2.1 (M.1 3) b hP.c3 (by omega) (by constructor <;> omega)) (cwV 1 CX.fix.2.2.2.2 gX11_parts_X7_find rfl rfl rfl (by decide +kernel) ⟨Nat.le_of_ble_eq_true rfl, Nat.le_of_ble_eq_true rfl⟩) (z_preV CX hW (r := (RX7, TX7, 4)) hP.c3.1 rfl) rfl rfl hl.1 rfl (lv_room (Nat.le_of_ble_eq_true rfl)) dX11_parts_15 ⟨Nat.zero_le _, Nat.zero_le _⟩) (fun z15 g15 H locs hok hW => ?_)
    obtain ⟨hz, hg⟩ := hok
    rw [hz]
    rw [hg] at hW
    clear hg
    by_cases cf_b_18 : 0 ≤ b ∧ b < M.1 0 4 ∧ b < 6
    ·
      have hzf := zfind_p (a := o + 289) cf_b_18
      rw [hzf]
      clear hzf
      refine lv_astore (lv' := [(5, .ref (o + 289 + 3 + 2 * b.toNat)), (4, .ref (o + 289 + 3 + 2 * a.toNat)), (0, .ref o), (1, .int (zI a)), (2, .int (zI b)), (3, .int (zI d))]) hX0 hB0 dX11_parts_18 hl (by decide) rfl (fun ls hl => ?_)
      refine lv_aload hX0 hB0 dX11_parts_20 (lv_at hl 1 rfl) ?_
      refine lv_ifnull hX0 hB0 dX11_parts_22 ?_
      refine lv_aload hX0 hB0 dX11_parts_25 (lv_at hl 0 rfl) ?_
      refine lv_ifnull hX0 hB0 dX11_parts_27 ?_
      refine lv_iload_n hX0 hB0 dX11_parts_30 rfl (lv_at hl 5 rfl) ?_
      refine z_if_lt (tgt := 40) CX dX11_parts_31 (by decide) (by constructor <;> omega) (fun c_31 => ?_) (fun c_31 => ?_)
      ·
        refine lv_iconst (v := zI (-1)) hX0 hB0 dX11_parts_40 rfl ?_
        have hE : zc_parts M a b d = (-1, M) := by unfold zc_parts; exact zif_t cf_a_8 (zif_t cf_b_18 (zif_t c_31 rfl))
        rw [← hQ]
        exact z_iret (z := -1) CX hW (by rw [hE]; exact ⟨rfl, hP, hC, zFr.refl, zVE.rf, trivial⟩) rfl dX11_parts_41
      ·
        have d_31 : ¬ d < 0 := by omega
        refine lv_iload_n hX0 hB0 dX11_parts_34 rfl (lv_at hl 5 rfl) ?_
        refine lv_bipush (v := zI 24) hX0 hB0 dX11_parts_35 (by decide) ?_
        refine z_icmp_le (tgt := 42) CX dX11_parts_37 (by decide) (by constructor <;> omega) (by constructor <;> omega) (fun c_37 => ?_) (fun c_37 => ?_)
        ·
          refine lv_aload hX0 hB0 dX11_parts_42 (lv_at hl 1 rfl) ?_
          refine z_calli hW (va_runV (C := RX2) (As := []) (rest := []) CX.fix (c_top l (o + 289 + 3 + 2 * a.toNat) (o + 289 + 3 + 2 * a.toNat + 1) (M.2.1 a.toNat) (hP.poly (k := a.toNat) (by omega)).1 (hP.poly (k := a.toNat) (by omega)).2 (hC.poly31 (k := a) (by omega) (by omega))) (cwV 0 CX.fix.2.2.2.2 gX11_parts_X2_top rfl rfl rfl (by decide +kernel) ⟨Nat.le_of_ble_eq_true rfl, Nat.le_of_ble_eq_true rfl⟩) (z_preV CX hW (r := (RX2, TX2, 1)) (hP.poly (k := a.toNat) (by omega)).1 rfl) rfl rfl hl.1 rfl (lv_room (Nat.le_of_ble_eq_true rfl)) dX11_parts_44 ⟨Nat.zero_le _, Nat.zero_le _⟩) (fun z44 g44 H locs hok hW => ?_)
          obtain ⟨hz, hg⟩ := hok
          have e44 : ztop (M.2.1 a.toNat) = z44 := hz.symm
          have htp44 := ztop_rng (M.2.1 a.toNat)
          rw [e44] at htp44
          rw [hg] at hW
          clear hg
          refine lv_istore (lv' := [(6, .int (zI z44)), (5, .ref (o + 289 + 3 + 2 * b.toNat)), (4, .ref (o + 289 + 3 + 2 * a.toNat)), (0, .ref o), (1, .int (zI a)), (2, .int (zI b)), (3, .int (zI d))]) hX0 hB0 dX11_parts_47 hl (by decide) rfl (fun ls hl => ?_)
          refine lv_aload hX0 hB0 dX11_parts_49 (lv_at hl 1 rfl) ?_
          refine z_calli hW (va_runV (C := RX2) (As := []) (rest := []) CX.fix (c_top l (o + 289 + 3 + 2 * b.toNat) (o + 289 + 3 + 2 * b.toNat + 1) (M.2.1 b.toNat) (hP.poly (k := b.toNat) (by omega)).1 (hP.poly (k := b.toNat) (by omega)).2 (hC.poly31 (k := b) (by omega) (by omega))) (cwV 0 CX.fix.2.2.2.2 gX11_parts_X2_top rfl rfl rfl (by decide +kernel) ⟨Nat.le_of_ble_eq_true rfl, Nat.le_of_ble_eq_true rfl⟩) (z_preV CX hW (r := (RX2, TX2, 1)) (hP.poly (k := b.toNat) (by omega)).1 rfl) rfl rfl hl.1 rfl (lv_room (Nat.le_of_ble_eq_true rfl)) dX11_parts_51 ⟨Nat.zero_le _, Nat.zero_le _⟩) (fun z51 g51 H locs hok hW => ?_)
          obtain ⟨hz, hg⟩ := hok
          have e51 : ztop (M.2.1 b.toNat) = z51 := hz.symm
          have htp51 := ztop_rng (M.2.1 b.toNat)
          rw [e51] at htp51
          rw [hg] at hW
          clear hg
          refine lv_istore (lv' := [(7, .int (zI z51)), (6, .int (zI z44)), (5, .ref (o + 289 + 3 + 2 * b.toNat)), (4, .ref (o + 289 + 3 + 2 * a.toNat)), (0, .ref o), (1, .int (zI a)), (2, .int (zI b)), (3, .int (zI d))]) hX0 hB0 dX11_parts_54 hl (by decide) rfl (fun ls hl => ?_)
          refine lv_iload hX0 hB0 dX11_parts_56 (lv_at hl 1 rfl) ?_
          refine lv_iload hX0 hB0 dX11_parts_58 (lv_at hl 0 rfl) ?_
          refine z_iadd (z := z44 + z51) CX dX11_parts_60 rfl ?_
          refine lv_aload_n hX0 hB0 dX11_parts_61 rfl (lv_at hl 4 rfl) ?_
          refine z_get (Cn := RX11) (T := TX11) (N := 13) CX hW (v := .ref (o + 615)) (show f o = _ from hP.c0) rfl (fun w h => List.mem_cons_of_mem _ (List.mem_append_left _ (List.mem_append_left _ (List.mem_append_left _ (List.mem_append_left _ (List.mem_append_right _ h)))))) 6 (by decide) (List.mem_of_getElem? (i := 2) rfl) rfl rfl dX11_parts_62 ?_
          refine lv_aload hX0 hB0 dX11_parts_65 (lv_at hl 3 rfl) ?_
          refine lv_aload hX0 hB0 dX11_parts_67 (lv_at hl 2 rfl) ?_
          refine lv_aload_n hX0 hB0 dX11_parts_69 rfl (lv_at hl 4 rfl) ?_
          refine z_get (Cn := RX11) (T := TX11) (N := 13) CX hW (v := .ref (o + 289)) (show f o = _ from hP.c0) rfl (fun w h => List.mem_cons_of_mem _ (List.mem_append_left _ (List.mem_append_left _ (List.mem_append_left _ (List.mem_append_left _ (List.mem_append_right _ h)))))) 1 (by decide) (List.mem_of_getElem? (i := 1) rfl) rfl rfl dX11_parts_70 ?_
          refine z_get (Cn := RX7) (T := TX7) (N := 4) CX hW (v := .int (zI (M.1 0 3))) hP.c3.1 rfl (fun w h => List.mem_cons_of_mem _ (List.mem_append_left _ (List.mem_append_left _ (List.mem_append_left _ (List.mem_append_right _ h))))) 0 (by decide) (List.mem_of_getElem? (i := 3) rfl) rfl rfl dX11_parts_73 ?_
          have hr73 := hC.p
          obtain ⟨cc76, cr76, ln76, hsx76⟩ := hP.c8
          obtain ⟨w76, lim76, pq76, R76, K76, hk76, hR76⟩ := hP.c1
          refine z_callr hW (va_runV (C := RX6) (As := [.ref (o + 289 + 3 + 2 * a.toNat), .ref (o + 289 + 3 + 2 * b.toNat), .int (zI (M.1 0 3))]) (rest := [.int (zI (z44 + z51))]) CX.fix (c_common l (o + 615) (o + 1) (M.1 24) cc76 cr76 ln76 (o + 289 + 3 + 2 * a.toNat) (o + 289 + 3 + 2 * a.toNat + 1) (M.2.1 a.toNat) (o + 289 + 3 + 2 * b.toNat) (o + 289 + 3 + 2 * b.toNat + 1) (M.2.1 b.toNat) w76 lim76 pq76 R76 K76 (M.1 0 3) hsx76 (hP.poly (k := a.toNat) (by omega)).1 (hP.poly (k := a.toNat) (by omega)).2 (hC.poly (k := a) (by omega) (by omega)) (by omega) (by omega) (hP.poly (k := b.toNat) (by omega)).1 (hP.poly (k := b.toNat) (by omega)).2 (hC.poly (k := b) (by omega) (by omega)) (by omega) (by omega) (by omega) (by omega) hk76 hR76 (by omega) (by omega) (by omega) (by omega)) (cwV 3 CX.fix.2.2.2.2 gX11_parts_X6_find rfl rfl rfl (by decide +kernel) ⟨Nat.le_of_ble_eq_true rfl, Nat.le_of_ble_eq_true rfl⟩) (z_preV CX hW (r := (RX6, TX6, 5)) hP.shob rfl) rfl rfl hl.1 rfl (lv_room (Nat.le_of_ble_eq_true rfl)) dX11_parts_76 ⟨Nat.zero_le _, Nat.zero_le _⟩) (fun z76 g76 H locs hok hW => ?_)
          obtain ⟨hz, hs0, hx⟩ := hok
          have hz : va_rf z76 = .ref (o + 615 + 1) := by rw [hz]; rfl
          rw [hz]
          obtain ⟨M76, em76⟩ : ∃ Mq, zw_common M (M.2.1 a.toNat) (M.2.1 b.toNat) (M.1 0 3) = Mq := ⟨_, rfl⟩
          have hP76 : zCP cI cP cS cZ cM o M76 g76 := by rw [← em76]; exact zr_common hP hs0 hx
          have hC76 : zCI M76 := by rw [← em76]; exact zi_common hC (by omega)
          have hV76 : zVE M76 M := zVE.tr (by rw [← em76]; exact zv_common) zVE.rf
          have tv76_3 : M76.1 0 3 = M.1 0 3 := hV76.2 0 3 (by omega) (by omega)
          have tv76_4 : M76.1 0 4 = M.1 0 4 := hV76.2 0 4 (by omega) (by omega)
          have hF76 : zFr f g76 o (o + 681) := zFr.trans zFr.refl (fun q hq => hs0 q (by omega))
          refine z_calli hW (va_runV (C := RX2) (As := []) (rest := [.int (zI (z44 + z51))]) CX.fix (c_top l (o + 615 + 1) (o + 615 + 2) (M76.1 24) hP76.part.1 hP76.part.2 hC76.pt) (cwV 0 CX.fix.2.2.2.2 gX11_parts_X2_top rfl rfl rfl (by decide +kernel) ⟨Nat.le_of_ble_eq_true rfl, Nat.le_of_ble_eq_true rfl⟩) (z_preV CX hW (r := (RX2, TX2, 1)) hP76.part.1 rfl) rfl rfl hl.1 rfl (lv_room (Nat.le_of_ble_eq_true rfl)) dX11_parts_79 ⟨Nat.zero_le _, Nat.zero_le _⟩) (fun z79 g79 H locs hok hW => ?_)
          obtain ⟨hz, hg⟩ := hok
          have e79 : ztop (M76.1 24) = z79 := hz.symm
          have htp79 := ztop_rng (M76.1 24)
          rw [e79] at htp79
          rw [hg] at hW
          clear hg
          refine z_isub (z := (z44 + z51) - z79) CX dX11_parts_82 rfl ?_
          refine lv_istore (lv' := [(8, .int (zI ((z44 + z51) - z79))), (7, .int (zI z51)), (6, .int (zI z44)), (5, .ref (o + 289 + 3 + 2 * b.toNat)), (4, .ref (o + 289 + 3 + 2 * a.toNat)), (0, .ref o), (1, .int (zI a)), (2, .int (zI b)), (3, .int (zI d))]) hX0 hB0 dX11_parts_83 hl (by decide) rfl (fun ls hl => ?_)
          refine lv_iload_n hX0 hB0 dX11_parts_85 rfl (lv_at hl 8 rfl) ?_
          refine z_calli hW (va_runS (As := [.int (zI d)]) (rest := []) CX.fix (zd_forms l (f := g76) d (by constructor <;> omega)) (va_cwS 1 CX.fix.2.2.2.2 gX11_parts_X11_forms rfl rfl rfl (by decide +kernel) ⟨Nat.le_of_ble_eq_true rfl, Nat.le_of_ble_eq_true rfl⟩) (z_preS CX hW) rfl rfl hl.1 rfl (lv_room (Nat.le_of_ble_eq_true rfl)) dX11_parts_86 ⟨Nat.zero_le _, Nat.zero_le _⟩) (fun z86 g86 H locs hok hW => ?_)
          obtain ⟨hz86, hg, hq86⟩ := hok
          rw [hg] at hW
          clear hg
          have e86 : zc_forms d = z86 := hz86.symm
          refine lv_iload_n hX0 hB0 dX11_parts_89 rfl (lv_at hl 8 rfl) ?_
          refine lv_iload hX0 hB0 dX11_parts_90 (lv_at hl 2 rfl) ?_
          refine z_isub (z := d - z44) CX dX11_parts_92 rfl ?_
          refine z_calli hW (va_runS (As := [.int (zI (d - z44))]) (rest := [.int (zI z86)]) CX.fix (zd_forms l (f := g76) (d - z44) (by constructor <;> omega)) (va_cwS 1 CX.fix.2.2.2.2 gX11_parts_X11_forms rfl rfl rfl (by decide +kernel) ⟨Nat.le_of_ble_eq_true rfl, Nat.le_of_ble_eq_true rfl⟩) (z_preS CX hW) rfl rfl hl.1 rfl (lv_room (Nat.le_of_ble_eq_true rfl)) dX11_parts_93 ⟨Nat.zero_le _, Nat.zero_le _⟩) (fun z93 g93 H locs hok hW => ?_)
          obtain ⟨hz93, hg, hq93⟩ := hok
          rw [hg] at hW
          clear hg
          have e93 : zc_forms (d - z44) = z93 := hz93.symm
          refine z_isub (z := z86 - z93) CX dX11_parts_96 rfl ?_
          refine lv_iload_n hX0 hB0 dX11_parts_97 rfl (lv_at hl 8 rfl) ?_
          refine lv_iload hX0 hB0 dX11_parts_98 (lv_at hl 1 rfl) ?_
          refine z_isub (z := d - z51) CX dX11_parts_100 rfl ?_
          refine z_calli hW (va_runS (As := [.int (zI (d - z51))]) (rest := [.int (zI (z86 - z93))]) CX.fix (zd_forms l (f := g76) (d - z51) (by constructor <;> omega)) (va_cwS 1 CX.fix.2.2.2.2 gX11_parts_X11_forms rfl rfl rfl (by decide +kernel) ⟨Nat.le_of_ble_eq_true rfl, Nat.le_of_ble_eq_true rfl⟩) (z_preS CX hW) rfl rfl hl.1 rfl (lv_room (Nat.le_of_ble_eq_true rfl)) dX11_parts_101 ⟨Nat.zero_le _, Nat.zero_le _⟩) (fun z101 g101 H locs hok hW => ?_)
          obtain ⟨hz101, hg, hq101⟩ := hok
          rw [hg] at hW
          clear hg
          have e101 : zc_forms (d - z51) = z101 := hz101.symm
          refine z_isub (z := (z86 - z93) - z101) CX dX11_parts_104 rfl ?_
          refine lv_iload_n hX0 hB0 dX11_parts_105 rfl (lv_at hl 8 rfl) ?_
          refine lv_iload hX0 hB0 dX11_parts_106 (lv_at hl 0 rfl) ?_
          refine z_isub (z := d - ((z44 + z51) - z79)) CX dX11_parts_108 rfl ?_
          refine z_calli hW (va_runS (As := [.int (zI (d - ((z44 + z51) - z79)))]) (rest := [.int (zI ((z86 - z93) - z101))]) CX.fix (zd_forms l (f := g76) (d - ((z44 + z51) - z79)) (by constructor <;> omega)) (va_cwS 1 CX.fix.2.2.2.2 gX11_parts_X11_forms rfl rfl rfl (by decide +kernel) ⟨Nat.le_of_ble_eq_true rfl, Nat.le_of_ble_eq_true rfl⟩) (z_preS CX hW) rfl rfl hl.1 rfl (lv_room (Nat.le_of_ble_eq_true rfl)) dX11_parts_109 ⟨Nat.zero_le _, Nat.zero_le _⟩) (fun z109 g109 H locs hok hW => ?_)
          obtain ⟨hz109, hg, hq109⟩ := hok
          rw [hg] at hW
          clear hg
          have e109 : zc_forms (d - ((z44 + z51) - z79)) = z109 := hz109.symm
          refine z_iadd (z := ((z86 - z93) - z101) + z109) CX dX11_parts_112 rfl ?_
          have hE : zc_parts M a b d = (((z86 - z93) - z101) + z109, M76) := by unfold zc_parts; exact zif_t cf_a_8 (zif_t cf_b_18 (zif_f d_31 (zif_t c_37 (zlet_e e44 (zlet_e e51 (zlet_e em76 (zlet_e e79 (zlet_e e86 (zlet_e e93 (zlet_e e101 (zlet_e e109 rfl)))))))))))
          rw [← hQ]
          exact z_iret (z := ((z86 - z93) - z101) + z109) CX hW (by rw [hE]; exact ⟨rfl, hP76, hC76, hF76, hV76, trivial⟩) rfl dX11_parts_113
        ·
          have d_37 : ¬ d ≤ 24 := by omega
          refine lv_iconst (v := zI (-1)) hX0 hB0 dX11_parts_40 rfl ?_
          have hE : zc_parts M a b d = (-1, M) := by unfold zc_parts; exact zif_t cf_a_8 (zif_t cf_b_18 (zif_f d_31 (zif_f d_37 rfl)))
          rw [← hQ]
          exact z_iret (z := -1) CX hW (by rw [hE]; exact ⟨rfl, hP, hC, zFr.refl, zVE.rf, trivial⟩) rfl dX11_parts_41
    ·
      have hzf := zfind_n (a := o + 289) cf_b_18
      rw [hzf]
      clear hzf
      refine lv_astoreN (lv' := [(5, .null), (4, .ref (o + 289 + 3 + 2 * a.toNat)), (0, .ref o), (1, .int (zI a)), (2, .int (zI b)), (3, .int (zI d))]) hX0 hB0 dX11_parts_18 hl (by decide) rfl (fun ls hl => ?_)
      refine lv_aload hX0 hB0 dX11_parts_20 (lv_at hl 1 rfl) ?_
      refine lv_ifnull hX0 hB0 dX11_parts_22 ?_
      refine lv_aloadN hX0 hB0 dX11_parts_25 (lv_at hl 0 rfl) ?_
      refine lv_ifnullN (tgt := 40) hX0 hB0 dX11_parts_27 (by decide) ?_
      refine lv_iconst (v := zI (-1)) hX0 hB0 dX11_parts_40 rfl ?_
      have hE : zc_parts M a b d = (-1, M) := by unfold zc_parts; exact zif_t cf_a_8 (zif_f cf_b_18 rfl)
      rw [← hQ]
      exact z_iret (z := -1) CX hW (by rw [hE]; exact ⟨rfl, hP, hC, zFr.refl, zVE.rf, trivial⟩) rfl dX11_parts_41
  ·
    have hzf := zfind_n (a := o + 289) cf_a_8
    rw [hzf]
    clear hzf
    refine lv_astoreN (lv' := [(4, .null), (0, .ref o), (1, .int (zI a)), (2, .int (zI b)), (3, .int (zI d))]) hX0 hB0 dX11_parts_8 hl (by decide) rfl (fun ls hl => ?_)
    refine lv_aload_n hX0 hB0 dX11_parts_10 rfl (lv_at hl 1 rfl) ?_
    refine z_get (Cn := RX11) (T := TX11) (N := 13) CX hW (v := .ref (o + 289)) (show f o = _ from hP.c0) rfl (fun w h => List.mem_cons_of_mem _ (List.mem_append_left _ (List.mem_append_left _ (List.mem_append_left _ (List.mem_append_left _ (List.mem_append_right _ h)))))) 1 (by decide) (List.mem_of_getElem? (i := 1) rfl) rfl rfl dX11_parts_11 ?_
    refine lv_iload_n hX0 hB0 dX11_parts_14 rfl (lv_at hl 3 rfl) ?_
    refine z_callr hW (va_runV (C := RX7) (As := [.int (zI b)]) (rest := []) CX.fix (c_find l (o + 289) (M.1 0 3) (M.1 0 4) M.2.1 (M.1 3) b hP.c3 (by omega) (by constructor <;> omega)) (cwV 1 CX.fix.2.2.2.2 gX11_parts_X7_find rfl rfl rfl (by decide +kernel) ⟨Nat.le_of_ble_eq_true rfl, Nat.le_of_ble_eq_true rfl⟩) (z_preV CX hW (r := (RX7, TX7, 4)) hP.c3.1 rfl) rfl rfl hl.1 rfl (lv_room (Nat.le_of_ble_eq_true rfl)) dX11_parts_15 ⟨Nat.zero_le _, Nat.zero_le _⟩) (fun z15 g15 H locs hok hW => ?_)
    obtain ⟨hz, hg⟩ := hok
    rw [hz]
    rw [hg] at hW
    clear hg
    by_cases cf_b_18 : 0 ≤ b ∧ b < M.1 0 4 ∧ b < 6
    ·
      have hzf := zfind_p (a := o + 289) cf_b_18
      rw [hzf]
      clear hzf
      refine lv_astore (lv' := [(5, .ref (o + 289 + 3 + 2 * b.toNat)), (4, .null), (0, .ref o), (1, .int (zI a)), (2, .int (zI b)), (3, .int (zI d))]) hX0 hB0 dX11_parts_18 hl (by decide) rfl (fun ls hl => ?_)
      refine lv_aloadN hX0 hB0 dX11_parts_20 (lv_at hl 1 rfl) ?_
      refine lv_ifnullN (tgt := 40) hX0 hB0 dX11_parts_22 (by decide) ?_
      refine lv_iconst (v := zI (-1)) hX0 hB0 dX11_parts_40 rfl ?_
      have hE : zc_parts M a b d = (-1, M) := by unfold zc_parts; exact zif_f cf_a_8 (zif_t cf_b_18 rfl)
      rw [← hQ]
      exact z_iret (z := -1) CX hW (by rw [hE]; exact ⟨rfl, hP, hC, zFr.refl, zVE.rf, trivial⟩) rfl dX11_parts_41
    ·
      have hzf := zfind_n (a := o + 289) cf_b_18
      rw [hzf]
      clear hzf
      refine lv_astoreN (lv' := [(5, .null), (4, .null), (0, .ref o), (1, .int (zI a)), (2, .int (zI b)), (3, .int (zI d))]) hX0 hB0 dX11_parts_18 hl (by decide) rfl (fun ls hl => ?_)
      refine lv_aloadN hX0 hB0 dX11_parts_20 (lv_at hl 1 rfl) ?_
      refine lv_ifnullN (tgt := 40) hX0 hB0 dX11_parts_22 (by decide) ?_
      refine lv_iconst (v := zI (-1)) hX0 hB0 dX11_parts_40 rfl ?_
      have hE : zc_parts M a b d = (-1, M) := by unfold zc_parts; exact zif_f cf_a_8 (zif_f cf_b_18 rfl)
      rw [← hQ]
      exact z_iret (z := -1) CX hW (by rw [hE]; exact ⟨rfl, hP, hC, zFr.refl, zVE.rf, trivial⟩) rfl dX11_parts_41
noncomputable def zc_total (M : zCt) (a : Int) (b : Int) (what : Int) : Int × zCt := (if 0 ≤ a ∧ a < M.1 0 4 ∧ a < 6 then (if 0 ≤ b ∧ b < M.1 0 4 ∧ b < 6 then zlet (zw_common M (M.2.1 a.toNat) (M.2.1 b.toNat) (M.1 0 3)) (fun M45 => zlet (ztop (M45.1 24)) (fun z48 => (if z48 ≤ 0 then zlet (ztop (M45.2.1 a.toNat)) (fun z58 => zlet (ztop (M45.2.1 b.toNat)) (fun z63 => (if what = 0 then (z58 * z63, M45) else (if what = 1 then zlet (znrP (M45.2.1 a.toNat) (M45.2.1 b.toNat) (M45.1 0 3)) (fun z138 => (z138, M45)) else (if what = 2 then zlet (znrP (M45.2.1 a.toNat) (M45.2.1 b.toNat) (M45.1 0 3)) (fun z159 => ((z58 * z63) - z159, M45)) else (if what = 3 then zlet (zc_timesBetween M45 a b 0 ((M45.1 0 3) * (M45.1 0 3))) (fun q172 => (fun (z172 : Int) (M172 : zCt) => (z172, M172)) q172.1 q172.2) else (if what = 4 then zlet (zmany (M45.1 0 3)) (fun z190 => zlet (zc_timesBetween M45 a b ((M45.1 0 3) * (M45.1 0 3)) z190) (fun q193 => (fun (z193 : Int) (M193 : zCt) => (z193, M193)) q193.1 q193.2)) else (-1, M45)))))))) else (-1, M45)))) else (-1, M)) else (if 0 ≤ b ∧ b < M.1 0 4 ∧ b < 6 then (-1, M) else (-1, M)))
set_option maxRecDepth 100000 in
set_option maxHeartbeats 4000000 in
theorem zd_total (l : Launch) {D : va_G} {cI cJ cZ cP cS cM : ClassId} {L : List Nat} {sz : Nat} {f : Nat → va_E} (o : Nat) (M : zCt) (a : Int) (b : Int) (what : Int) (hP : zCP cI cP cS cZ cM o M f) (hC : zCI M) (ha : -2147483648 ≤ a ∧ a ≤ 2147483647) (hb : -2147483648 ≤ b ∧ b ≤ 2147483647) (hwhat : -2147483648 ≤ what ∧ what ≤ 2147483647) (hT : ∀ j : Nat, (j : Int) < M.1 0 4 → 0 ≤ ztop (M.2.1 j)) : zMi l yX11_total wsX11_total 7 173 D (zT cI cJ cZ cP cS cM) L sz f [.ref o, .int (zI a), .int (zI b), .int (zI what)] (fun zv gv => zv = (zc_total M a b what).1 ∧ zCP cI cP cS cZ cM o (zc_total M a b what).2 gv ∧ zCI (zc_total M a b what).2 ∧ zFr f gv o (o + 681) ∧ zVE (zc_total M a b what).2 M ∧ True) := by
  refine zWalk.met (nL := 8) (ret := (some .int)) (cc := cX11_total) (by decide) rfl (Nat.le_of_ble_eq_true rfl) ?_
  intro pg en st mi ag bl mt cd ls CX hW hl
  have CX : zC pg st mi ag mt cd cX11_total 8 (some .int) RX11 wsX11_total := CX
  generalize hQ : MQ bl _ ag st 0 0 _ = Q
  have hX0 := CX.1
  have hB0 := CX.2.1
  have hl : lv_has ls 8 [(0, .ref o), (1, .int (zI a)), (2, .int (zI b)), (3, .int (zI what))] := hl
  obtain ⟨H, eH⟩ : ∃ H, H = st.heap := ⟨_, rfl⟩
  obtain ⟨locs, eL⟩ : ∃ L : List Loc, L = [] := ⟨_, rfl⟩
  have hW : zW D (zT cI cJ cZ cP cS cM) L (zQ L sz) st f st.heap H locs := by rw [eH, eL]; exact hW
  suffices hgo : W pg l en ({ frames := 7, cells := 0, slots := 0, locals := 173 } : Room) st mi ag bl mt cd H locs 0 0 Q (F0 mi 0 ls []) by rw [eH, eL] at hgo; exact hgo
  clear eH eL
  have hpb := hC.p
  have hnb := hC.cn
  refine lv_aload_n hX0 hB0 dX11_total_0 rfl (lv_at hl 0 rfl) ?_
  refine z_get (Cn := RX11) (T := TX11) (N := 13) CX hW (v := .ref (o + 289)) (show f o = _ from hP.c0) rfl (fun w h => List.mem_cons_of_mem _ (List.mem_append_left _ (List.mem_append_left _ (List.mem_append_left _ (List.mem_append_left _ (List.mem_append_left _ (List.mem_append_left _ (List.mem_append_left _ (List.mem_append_left _ (List.mem_append_right _ h)))))))))) 1 (by decide) (List.mem_of_getElem? (i := 1) rfl) rfl rfl dX11_total_1 ?_
  refine lv_iload_n hX0 hB0 dX11_total_4 rfl (lv_at hl 1 rfl) ?_
  refine z_callr hW (va_runV (C := RX7) (As := [.int (zI a)]) (rest := []) CX.fix (c_find l (o + 289) (M.1 0 3) (M.1 0 4) M.2.1 (M.1 3) a hP.c3 (by omega) (by constructor <;> omega)) (cwV 1 CX.fix.2.2.2.2 gX11_total_X7_find rfl rfl rfl (by decide +kernel) ⟨Nat.le_of_ble_eq_true rfl, Nat.le_of_ble_eq_true rfl⟩) (z_preV CX hW (r := (RX7, TX7, 4)) hP.c3.1 rfl) rfl rfl hl.1 rfl (lv_room (Nat.le_of_ble_eq_true rfl)) dX11_total_5 ⟨Nat.zero_le _, Nat.zero_le _⟩) (fun z5 g5 H locs hok hW => ?_)
  obtain ⟨hz, hg⟩ := hok
  rw [hz]
  rw [hg] at hW
  clear hg
  by_cases cf_a_8 : 0 ≤ a ∧ a < M.1 0 4 ∧ a < 6
  ·
    have hzf := zfind_p (a := o + 289) cf_a_8
    rw [hzf]
    clear hzf
    refine lv_astore (lv' := [(4, .ref (o + 289 + 3 + 2 * a.toNat)), (0, .ref o), (1, .int (zI a)), (2, .int (zI b)), (3, .int (zI what))]) hX0 hB0 dX11_total_8 hl (by decide) rfl (fun ls hl => ?_)
    refine lv_aload_n hX0 hB0 dX11_total_10 rfl (lv_at hl 1 rfl) ?_
    refine z_get (Cn := RX11) (T := TX11) (N := 13) CX hW (v := .ref (o + 289)) (show f o = _ from hP.c0) rfl (fun w h => List.mem_cons_of_mem _ (List.mem_append_left _ (List.mem_append_left _ (List.mem_append_left _ (List.mem_append_left _ (List.mem_append_left _ (List.mem_append_left _ (List.mem_append_left _ (List.mem_append_left _ (List.mem_append_right _ h)))))))))) 1 (by decide) (List.mem_of_getElem? (i := 1) rfl) rfl rfl dX11_total_11 ?_
    refine lv_iload_n hX0 hB0 dX11_total_14 rfl (lv_at hl 3 rfl) ?_
    refine z_callr hW (va_runV (C := RX7) (As := [.int (zI b)]) (rest := []) CX.fix (c_find l (o + 289) (M.1 0 3) (M.1 0 4) M.2.1 (M.1 3) b hP.c3 (by omega) (by constructor <;> omega)) (cwV 1 CX.fix.2.2.2.2 gX11_total_X7_find rfl rfl rfl (by decide +kernel) ⟨Nat.le_of_ble_eq_true rfl, Nat.le_of_ble_eq_true rfl⟩) (z_preV CX hW (r := (RX7, TX7, 4)) hP.c3.1 rfl) rfl rfl hl.1 rfl (lv_room (Nat.le_of_ble_eq_true rfl)) dX11_total_15 ⟨Nat.zero_le _, Nat.zero_le _⟩) (fun z15 g15 H locs hok hW => ?_)
    obtain ⟨hz, hg⟩ := hok
    rw [hz]
    rw [hg] at hW
    clear hg
    by_cases cf_b_18 : 0 ≤ b ∧ b < M.1 0 4 ∧ b < 6
    ·
      have hzf := zfind_p (a := o + 289) cf_b_18
      rw [hzf]
      clear hzf
      refine lv_astore (lv' := [(5, .ref (o + 289 + 3 + 2 * b.toNat)), (4, .ref (o + 289 + 3 + 2 * a.toNat)), (0, .ref o), (1, .int (zI a)), (2, .int (zI b)), (3, .int (zI what))]) hX0 hB0 dX11_total_18 hl (by decide) rfl (fun ls hl => ?_)
      refine lv_aload hX0 hB0 dX11_total_20 (lv_at hl 1 rfl) ?_
      refine lv_ifnull hX0 hB0 dX11_total_22 ?_
      refine lv_aload hX0 hB0 dX11_total_25 (lv_at hl 0 rfl) ?_
      refine lv_ifnull hX0 hB0 dX11_total_27 ?_
      refine lv_aload_n hX0 hB0 dX11_total_30 rfl (lv_at hl 2 rfl) ?_
      refine z_get (Cn := RX11) (T := TX11) (N := 13) CX hW (v := .ref (o + 615)) (show f o = _ from hP.c0) rfl (fun w h => List.mem_cons_of_mem _ (List.mem_append_left _ (List.mem_append_left _ (List.mem_append_left _ (List.mem_append_left _ (List.mem_append_left _ (List.mem_append_left _ (List.mem_append_left _ (List.mem_append_left _ (List.mem_append_right _ h)))))))))) 6 (by decide) (List.mem_of_getElem? (i := 2) rfl) rfl rfl dX11_total_31 ?_
      refine lv_aload hX0 hB0 dX11_total_34 (lv_at hl 1 rfl) ?_
      refine lv_aload hX0 hB0 dX11_total_36 (lv_at hl 0 rfl) ?_
      refine lv_aload_n hX0 hB0 dX11_total_38 rfl (lv_at hl 2 rfl) ?_
      refine z_get (Cn := RX11) (T := TX11) (N := 13) CX hW (v := .ref (o + 289)) (show f o = _ from hP.c0) rfl (fun w h => List.mem_cons_of_mem _ (List.mem_append_left _ (List.mem_append_left _ (List.mem_append_left _ (List.mem_append_left _ (List.mem_append_left _ (List.mem_append_left _ (List.mem_append_left _ (List.mem_append_left _ (List.mem_append_right _ h)))))))))) 1 (by decide) (List.mem_of_getElem? (i := 1) rfl) rfl rfl dX11_total_39 ?_
      refine z_get (Cn := RX7) (T := TX7) (N := 4) CX hW (v := .int (zI (M.1 0 3))) hP.c3.1 rfl (fun w h => List.mem_cons_of_mem _ (List.mem_append_left _ (List.mem_append_left _ (List.mem_append_left _ (List.mem_append_left _ (List.mem_append_left _ (List.mem_append_left _ (List.mem_append_left _ (List.mem_append_right _ h))))))))) 0 (by decide) (List.mem_of_getElem? (i := 3) rfl) rfl rfl dX11_total_42 ?_
      have hr42 := hC.p
      obtain ⟨cc45, cr45, ln45, hsx45⟩ := hP.c8
      obtain ⟨w45, lim45, pq45, R45, K45, hk45, hR45⟩ := hP.c1
      refine z_callr hW (va_runV (C := RX6) (As := [.ref (o + 289 + 3 + 2 * a.toNat), .ref (o + 289 + 3 + 2 * b.toNat), .int (zI (M.1 0 3))]) (rest := []) CX.fix (c_common l (o + 615) (o + 1) (M.1 24) cc45 cr45 ln45 (o + 289 + 3 + 2 * a.toNat) (o + 289 + 3 + 2 * a.toNat + 1) (M.2.1 a.toNat) (o + 289 + 3 + 2 * b.toNat) (o + 289 + 3 + 2 * b.toNat + 1) (M.2.1 b.toNat) w45 lim45 pq45 R45 K45 (M.1 0 3) hsx45 (hP.poly (k := a.toNat) (by omega)).1 (hP.poly (k := a.toNat) (by omega)).2 (hC.poly (k := a) (by omega) (by omega)) (by omega) (by omega) (hP.poly (k := b.toNat) (by omega)).1 (hP.poly (k := b.toNat) (by omega)).2 (hC.poly (k := b) (by omega) (by omega)) (by omega) (by omega) (by omega) (by omega) hk45 hR45 (by omega) (by omega) (by omega) (by omega)) (cwV 3 CX.fix.2.2.2.2 gX11_total_X6_find rfl rfl rfl (by decide +kernel) ⟨Nat.le_of_ble_eq_true rfl, Nat.le_of_ble_eq_true rfl⟩) (z_preV CX hW (r := (RX6, TX6, 5)) hP.shob rfl) rfl rfl hl.1 rfl (lv_room (Nat.le_of_ble_eq_true rfl)) dX11_total_45 ⟨Nat.zero_le _, Nat.zero_le _⟩) (fun z45 g45 H locs hok hW => ?_)
      obtain ⟨hz, hs0, hx⟩ := hok
      have hz : va_rf z45 = .ref (o + 615 + 1) := by rw [hz]; rfl
      rw [hz]
      obtain ⟨M45, em45⟩ : ∃ Mq, zw_common M (M.2.1 a.toNat) (M.2.1 b.toNat) (M.1 0 3) = Mq := ⟨_, rfl⟩
      have hP45 : zCP cI cP cS cZ cM o M45 g45 := by rw [← em45]; exact zr_common hP hs0 hx
      have hC45 : zCI M45 := by rw [← em45]; exact zi_common hC (by omega)
      have hV45 : zVE M45 M := zVE.tr (by rw [← em45]; exact zv_common) zVE.rf
      have tv45_3 : M45.1 0 3 = M.1 0 3 := hV45.2 0 3 (by omega) (by omega)
      have tv45_4 : M45.1 0 4 = M.1 0 4 := hV45.2 0 4 (by omega) (by omega)
      have hF45 : zFr f g45 o (o + 681) := zFr.trans zFr.refl (fun q hq => hs0 q (by omega))
      refine z_calli hW (va_runV (C := RX2) (As := []) (rest := []) CX.fix (c_top l (o + 615 + 1) (o + 615 + 2) (M45.1 24) hP45.part.1 hP45.part.2 hC45.pt) (cwV 0 CX.fix.2.2.2.2 gX11_total_X2_top rfl rfl rfl (by decide +kernel) ⟨Nat.le_of_ble_eq_true rfl, Nat.le_of_ble_eq_true rfl⟩) (z_preV CX hW (r := (RX2, TX2, 1)) hP45.part.1 rfl) rfl rfl hl.1 rfl (lv_room (Nat.le_of_ble_eq_true rfl)) dX11_total_48 ⟨Nat.zero_le _, Nat.zero_le _⟩) (fun z48 g48 H locs hok hW => ?_)
      obtain ⟨hz, hg⟩ := hok
      have e48 : ztop (M45.1 24) = z48 := hz.symm
      have htp48 := ztop_rng (M45.1 24)
      rw [e48] at htp48
      rw [hg] at hW
      clear hg
      refine z_if_le (tgt := 56) CX dX11_total_51 (by decide) (by constructor <;> omega) (fun c_51 => ?_) (fun c_51 => ?_)
      ·
        refine lv_aload hX0 hB0 dX11_total_56 (lv_at hl 1 rfl) ?_
        refine z_calli hW (va_runV (C := RX2) (As := []) (rest := []) CX.fix (c_top l (o + 289 + 3 + 2 * a.toNat) (o + 289 + 3 + 2 * a.toNat + 1) (M45.2.1 a.toNat) (hP45.poly (k := a.toNat) (by omega)).1 (hP45.poly (k := a.toNat) (by omega)).2 (hC45.poly31 (k := a) (by omega) (by omega))) (cwV 0 CX.fix.2.2.2.2 gX11_total_X2_top rfl rfl rfl (by decide +kernel) ⟨Nat.le_of_ble_eq_true rfl, Nat.le_of_ble_eq_true rfl⟩) (z_preV CX hW (r := (RX2, TX2, 1)) (hP45.poly (k := a.toNat) (by omega)).1 rfl) rfl rfl hl.1 rfl (lv_room (Nat.le_of_ble_eq_true rfl)) dX11_total_58 ⟨Nat.zero_le _, Nat.zero_le _⟩) (fun z58 g58 H locs hok hW => ?_)
        obtain ⟨hz, hg⟩ := hok
        have e58 : ztop (M45.2.1 a.toNat) = z58 := hz.symm
        have htp58 := ztop_rng (M45.2.1 a.toNat)
        rw [e58] at htp58
        rw [hg] at hW
        clear hg
        refine lv_aload hX0 hB0 dX11_total_61 (lv_at hl 0 rfl) ?_
        refine z_calli hW (va_runV (C := RX2) (As := []) (rest := [.int (zI z58)]) CX.fix (c_top l (o + 289 + 3 + 2 * b.toNat) (o + 289 + 3 + 2 * b.toNat + 1) (M45.2.1 b.toNat) (hP45.poly (k := b.toNat) (by omega)).1 (hP45.poly (k := b.toNat) (by omega)).2 (hC45.poly31 (k := b) (by omega) (by omega))) (cwV 0 CX.fix.2.2.2.2 gX11_total_X2_top rfl rfl rfl (by decide +kernel) ⟨Nat.le_of_ble_eq_true rfl, Nat.le_of_ble_eq_true rfl⟩) (z_preV CX hW (r := (RX2, TX2, 1)) (hP45.poly (k := b.toNat) (by omega)).1 rfl) rfl rfl hl.1 rfl (lv_room (Nat.le_of_ble_eq_true rfl)) dX11_total_63 ⟨Nat.zero_le _, Nat.zero_le _⟩) (fun z63 g63 H locs hok hW => ?_)
        obtain ⟨hz, hg⟩ := hok
        have e63 : ztop (M45.2.1 b.toNat) = z63 := hz.symm
        have htp63 := ztop_rng (M45.2.1 b.toNat)
        rw [e63] at htp63
        rw [hg] at hW
        clear hg
        refine z_imul (z := z58 * z63) CX dX11_total_66 rfl ?_
        have hm66 := zbox_mul (a := z58) (b := z63) (A := 8) (B := 8) (by constructor <;> omega) (by constructor <;> omega) (C := 64) (by decide)
        refine lv_istore (lv' := [(6, .int (zI (z58 * z63))), (5, .ref (o + 289 + 3 + 2 * b.toNat)), (4, .ref (o + 289 + 3 + 2 * a.toNat)), (0, .ref o), (1, .int (zI a)), (2, .int (zI b)), (3, .int (zI what))]) hX0 hB0 dX11_total_67 hl (by decide) rfl (fun ls hl => ?_)
        refine lv_aload_n hX0 hB0 dX11_total_69 rfl (lv_at hl 3 rfl) ?_
        refine z_get (Cn := RX11) (T := TX11) (N := 13) CX hW (v := .ref (o + 289)) (show g45 o = _ from hP45.c0) rfl (fun w h => List.mem_cons_of_mem _ (List.mem_append_left _ (List.mem_append_left _ (List.mem_append_left _ (List.mem_append_left _ (List.mem_append_left _ (List.mem_append_left _ (List.mem_append_left _ (List.mem_append_left _ (List.mem_append_right _ h)))))))))) 1 (by decide) (List.mem_of_getElem? (i := 1) rfl) rfl rfl dX11_total_70 ?_
        refine z_get (Cn := RX7) (T := TX7) (N := 4) CX hW (v := .int (zI (M45.1 0 3))) hP45.c3.1 rfl (fun w h => List.mem_cons_of_mem _ (List.mem_append_left _ (List.mem_append_left _ (List.mem_append_left _ (List.mem_append_left _ (List.mem_append_left _ (List.mem_append_left _ (List.mem_append_left _ (List.mem_append_right _ h))))))))) 0 (by decide) (List.mem_of_getElem? (i := 3) rfl) rfl rfl dX11_total_73 ?_
        have hr73 := hC45.p
        refine lv_aload_n hX0 hB0 dX11_total_76 rfl (lv_at hl 3 rfl) ?_
        refine z_get (Cn := RX11) (T := TX11) (N := 13) CX hW (v := .ref (o + 289)) (show g45 o = _ from hP45.c0) rfl (fun w h => List.mem_cons_of_mem _ (List.mem_append_left _ (List.mem_append_left _ (List.mem_append_left _ (List.mem_append_left _ (List.mem_append_left _ (List.mem_append_left _ (List.mem_append_left _ (List.mem_append_left _ (List.mem_append_right _ h)))))))))) 1 (by decide) (List.mem_of_getElem? (i := 1) rfl) rfl rfl dX11_total_77 ?_
        refine z_get (Cn := RX7) (T := TX7) (N := 4) CX hW (v := .int (zI (M45.1 0 3))) hP45.c3.1 rfl (fun w h => List.mem_cons_of_mem _ (List.mem_append_left _ (List.mem_append_left _ (List.mem_append_left _ (List.mem_append_left _ (List.mem_append_left _ (List.mem_append_left _ (List.mem_append_left _ (List.mem_append_right _ h))))))))) 0 (by decide) (List.mem_of_getElem? (i := 3) rfl) rfl rfl dX11_total_80 ?_
        have hr80 := hC45.p
        refine z_imul (z := (M45.1 0 3) * (M45.1 0 3)) CX dX11_total_83 rfl ?_
        have hm83 := zbox_mul0 (a := M45.1 0 3) (b := M45.1 0 3) (A := 31) (B := 31) (by constructor <;> omega) (by constructor <;> omega) (C := 961) (by decide)
        refine lv_istore (lv' := [(7, .int (zI ((M45.1 0 3) * (M45.1 0 3)))), (6, .int (zI (z58 * z63))), (5, .ref (o + 289 + 3 + 2 * b.toNat)), (4, .ref (o + 289 + 3 + 2 * a.toNat)), (0, .ref o), (1, .int (zI a)), (2, .int (zI b)), (3, .int (zI what))]) hX0 hB0 dX11_total_84 hl (by decide) rfl (fun ls hl => ?_)
        refine lv_iload_n hX0 hB0 dX11_total_86 rfl (lv_at hl 7 rfl) ?_
        by_cases c_87_0 : what = 0
        ·
          refine z_tin (K := 0) (off := 33) (tgt := 120) CX dX11_total_87 (by constructor <;> omega) c_87_0 (by decide) (by decide) rfl (by decide) ?_
          refine lv_iload hX0 hB0 dX11_total_120 (lv_at hl 1 rfl) ?_
          have hE : zc_total M a b what = (z58 * z63, M45) := by unfold zc_total; exact zif_t cf_a_8 (zif_t cf_b_18 (zlet_e em45 (zlet_e e48 (zif_t c_51 (zlet_e e58 (zlet_e e63 (zif_t c_87_0 rfl)))))))
          rw [← hQ]
          exact z_iret (z := z58 * z63) CX hW (by rw [hE]; exact ⟨rfl, hP45, hC45, hF45, hV45, trivial⟩) rfl dX11_total_122
        by_cases c_87_1 : what = 1
        ·
          refine z_tin (K := 1) (off := 36) (tgt := 123) CX dX11_total_87 (by constructor <;> omega) c_87_1 (by decide) (by decide) rfl (by decide) ?_
          refine lv_aload_n hX0 hB0 dX11_total_123 rfl (lv_at hl 4 rfl) ?_
          refine z_get (Cn := RX11) (T := TX11) (N := 13) CX hW (v := .ref (o + 628)) (show g45 o = _ from hP45.c0) rfl (fun w h => List.mem_cons_of_mem _ (List.mem_append_left _ (List.mem_append_left _ (List.mem_append_left _ (List.mem_append_left _ (List.mem_append_left _ (List.mem_append_left _ (List.mem_append_left _ (List.mem_append_left _ (List.mem_append_right _ h)))))))))) 8 (by decide) (List.mem_of_getElem? (i := 4) rfl) rfl rfl dX11_total_124 ?_
          refine lv_aload hX0 hB0 dX11_total_127 (lv_at hl 3 rfl) ?_
          refine lv_aload hX0 hB0 dX11_total_129 (lv_at hl 2 rfl) ?_
          refine lv_aload_n hX0 hB0 dX11_total_131 rfl (lv_at hl 4 rfl) ?_
          refine z_get (Cn := RX11) (T := TX11) (N := 13) CX hW (v := .ref (o + 289)) (show g45 o = _ from hP45.c0) rfl (fun w h => List.mem_cons_of_mem _ (List.mem_append_left _ (List.mem_append_left _ (List.mem_append_left _ (List.mem_append_left _ (List.mem_append_left _ (List.mem_append_left _ (List.mem_append_left _ (List.mem_append_left _ (List.mem_append_right _ h)))))))))) 1 (by decide) (List.mem_of_getElem? (i := 1) rfl) rfl rfl dX11_total_132 ?_
          refine z_get (Cn := RX7) (T := TX7) (N := 4) CX hW (v := .int (zI (M45.1 0 3))) hP45.c3.1 rfl (fun w h => List.mem_cons_of_mem _ (List.mem_append_left _ (List.mem_append_left _ (List.mem_append_left _ (List.mem_append_left _ (List.mem_append_left _ (List.mem_append_left _ (List.mem_append_left _ (List.mem_append_right _ h))))))))) 0 (by decide) (List.mem_of_getElem? (i := 3) rfl) rfl rfl dX11_total_135 ?_
          have hr135 := hC45.p
          obtain ⟨w138, lim138, pq138, R138, K138, hk138, hR138⟩ := hP45.c1
          obtain ⟨v138, pq138q, top138, lc138, lx138, ly138, wd138, row138, col138, ln138, hrg138, hcl138⟩ := hP45.c10
          have hrgo138 := hrg138.1
          refine z_calli hW (va_runV (C := RX5) (As := [.ref (o + 289 + 3 + 2 * a.toNat), .ref (o + 289 + 3 + 2 * b.toNat), .int (zI (M45.1 0 3))]) (rest := []) CX.fix (c_nearOf l (o + 628) (o + 1) v138 pq138q top138 lc138 lx138 ly138 wd138 row138 col138 ln138 (o + 289 + 3 + 2 * a.toNat) (o + 289 + 3 + 2 * a.toNat + 1) (M45.2.1 a.toNat) (o + 289 + 3 + 2 * b.toNat) (o + 289 + 3 + 2 * b.toNat + 1) (M45.2.1 b.toNat) w138 lim138 pq138 R138 K138 (M45.1 0 3) hrg138 (hP45.poly (k := a.toNat) (by omega)).1 (hP45.poly (k := a.toNat) (by omega)).2 (hC45.poly31 (k := a) (by omega) (by omega)) (by omega) (by omega) (hP45.poly (k := b.toNat) (by omega)).1 (hP45.poly (k := b.toNat) (by omega)).2 (hC45.poly31 (k := b) (by omega) (by omega)) (by omega) (by omega) hk138 hR138 (by omega) (by omega) hcl138 (by omega) (by omega) (by omega) (by omega) (by rw [hV45.1]; exact hT _ (by omega))) (cwV 3 CX.fix.2.2.2.2 gX11_total_X5_nearOf rfl rfl rfl (by decide +kernel) ⟨Nat.le_of_ble_eq_true rfl, Nat.le_of_ble_eq_true rfl⟩) (z_preV CX hW (r := (RX5, TX5, 11)) hrgo138 rfl) rfl rfl hl.1 rfl (lv_room (Nat.le_of_ble_eq_true rfl)) dX11_total_138 ⟨Nat.zero_le _, Nat.zero_le _⟩) (fun z138 g138 H locs hok hW => ?_)
          obtain ⟨hz, hs0, hx⟩ := hok
          have e138 : znrP (M45.2.1 a.toNat) (M45.2.1 b.toNat) (M45.1 0 3) = z138 := (znear_ind (M45.2.1 a.toNat) (M45.2.1 b.toNat) (by rw [hV45.1]; exact hT _ (by omega)) (M45.1 0 3) R138 col138 ln138 row138).symm.trans hz.symm
          have hP138 : zCP cI cP cS cZ cM o M45 g138 := zr_ring hP45 hs0 hx
          have hF138 : zFr f g138 o (o + 681) := zFr.trans hF45 (fun q hq => hs0 q (by omega))
          have hE : zc_total M a b what = (z138, M45) := by unfold zc_total; exact zif_t cf_a_8 (zif_t cf_b_18 (zlet_e em45 (zlet_e e48 (zif_t c_51 (zlet_e e58 (zlet_e e63 (zif_f c_87_0 (zif_t c_87_1 (zlet_e e138 rfl)))))))))
          rw [← hQ]
          exact z_iret (z := z138) CX hW (by rw [hE]; exact ⟨rfl, hP138, hC45, hF138, hV45, trivial⟩) rfl dX11_total_141
        by_cases c_87_2 : what = 2
        ·
          refine z_tin (K := 2) (off := 55) (tgt := 142) CX dX11_total_87 (by constructor <;> omega) c_87_2 (by decide) (by decide) rfl (by decide) ?_
          refine lv_iload hX0 hB0 dX11_total_142 (lv_at hl 1 rfl) ?_
          refine lv_aload_n hX0 hB0 dX11_total_144 rfl (lv_at hl 4 rfl) ?_
          refine z_get (Cn := RX11) (T := TX11) (N := 13) CX hW (v := .ref (o + 628)) (show g45 o = _ from hP45.c0) rfl (fun w h => List.mem_cons_of_mem _ (List.mem_append_left _ (List.mem_append_left _ (List.mem_append_left _ (List.mem_append_left _ (List.mem_append_left _ (List.mem_append_left _ (List.mem_append_left _ (List.mem_append_left _ (List.mem_append_right _ h)))))))))) 8 (by decide) (List.mem_of_getElem? (i := 4) rfl) rfl rfl dX11_total_145 ?_
          refine lv_aload hX0 hB0 dX11_total_148 (lv_at hl 3 rfl) ?_
          refine lv_aload hX0 hB0 dX11_total_150 (lv_at hl 2 rfl) ?_
          refine lv_aload_n hX0 hB0 dX11_total_152 rfl (lv_at hl 4 rfl) ?_
          refine z_get (Cn := RX11) (T := TX11) (N := 13) CX hW (v := .ref (o + 289)) (show g45 o = _ from hP45.c0) rfl (fun w h => List.mem_cons_of_mem _ (List.mem_append_left _ (List.mem_append_left _ (List.mem_append_left _ (List.mem_append_left _ (List.mem_append_left _ (List.mem_append_left _ (List.mem_append_left _ (List.mem_append_left _ (List.mem_append_right _ h)))))))))) 1 (by decide) (List.mem_of_getElem? (i := 1) rfl) rfl rfl dX11_total_153 ?_
          refine z_get (Cn := RX7) (T := TX7) (N := 4) CX hW (v := .int (zI (M45.1 0 3))) hP45.c3.1 rfl (fun w h => List.mem_cons_of_mem _ (List.mem_append_left _ (List.mem_append_left _ (List.mem_append_left _ (List.mem_append_left _ (List.mem_append_left _ (List.mem_append_left _ (List.mem_append_left _ (List.mem_append_right _ h))))))))) 0 (by decide) (List.mem_of_getElem? (i := 3) rfl) rfl rfl dX11_total_156 ?_
          have hr156 := hC45.p
          obtain ⟨w159, lim159, pq159, R159, K159, hk159, hR159⟩ := hP45.c1
          obtain ⟨v159, pq159q, top159, lc159, lx159, ly159, wd159, row159, col159, ln159, hrg159, hcl159⟩ := hP45.c10
          have hrgo159 := hrg159.1
          refine z_calli hW (va_runV (C := RX5) (As := [.ref (o + 289 + 3 + 2 * a.toNat), .ref (o + 289 + 3 + 2 * b.toNat), .int (zI (M45.1 0 3))]) (rest := [.int (zI (z58 * z63))]) CX.fix (c_nearOf l (o + 628) (o + 1) v159 pq159q top159 lc159 lx159 ly159 wd159 row159 col159 ln159 (o + 289 + 3 + 2 * a.toNat) (o + 289 + 3 + 2 * a.toNat + 1) (M45.2.1 a.toNat) (o + 289 + 3 + 2 * b.toNat) (o + 289 + 3 + 2 * b.toNat + 1) (M45.2.1 b.toNat) w159 lim159 pq159 R159 K159 (M45.1 0 3) hrg159 (hP45.poly (k := a.toNat) (by omega)).1 (hP45.poly (k := a.toNat) (by omega)).2 (hC45.poly31 (k := a) (by omega) (by omega)) (by omega) (by omega) (hP45.poly (k := b.toNat) (by omega)).1 (hP45.poly (k := b.toNat) (by omega)).2 (hC45.poly31 (k := b) (by omega) (by omega)) (by omega) (by omega) hk159 hR159 (by omega) (by omega) hcl159 (by omega) (by omega) (by omega) (by omega) (by rw [hV45.1]; exact hT _ (by omega))) (cwV 3 CX.fix.2.2.2.2 gX11_total_X5_nearOf rfl rfl rfl (by decide +kernel) ⟨Nat.le_of_ble_eq_true rfl, Nat.le_of_ble_eq_true rfl⟩) (z_preV CX hW (r := (RX5, TX5, 11)) hrgo159 rfl) rfl rfl hl.1 rfl (lv_room (Nat.le_of_ble_eq_true rfl)) dX11_total_159 ⟨Nat.zero_le _, Nat.zero_le _⟩) (fun z159 g159 H locs hok hW => ?_)
          obtain ⟨hz, hs0, hx⟩ := hok
          have e159 : znrP (M45.2.1 a.toNat) (M45.2.1 b.toNat) (M45.1 0 3) = z159 := (znear_ind (M45.2.1 a.toNat) (M45.2.1 b.toNat) (by rw [hV45.1]; exact hT _ (by omega)) (M45.1 0 3) R159 col159 ln159 row159).symm.trans hz.symm
          have hP159 : zCP cI cP cS cZ cM o M45 g159 := zr_ring hP45 hs0 hx
          have hF159 : zFr f g159 o (o + 681) := zFr.trans hF45 (fun q hq => hs0 q (by omega))
          refine z_isub (z := (z58 * z63) - z159) CX dX11_total_162 rfl ?_
          have hE : zc_total M a b what = ((z58 * z63) - z159, M45) := by unfold zc_total; exact zif_t cf_a_8 (zif_t cf_b_18 (zlet_e em45 (zlet_e e48 (zif_t c_51 (zlet_e e58 (zlet_e e63 (zif_f c_87_0 (zif_f c_87_1 (zif_t c_87_2 (zlet_e e159 rfl))))))))))
          rw [← hQ]
          exact z_iret (z := (z58 * z63) - z159) CX hW (by rw [hE]; exact ⟨rfl, hP159, hC45, hF159, hV45, trivial⟩) rfl dX11_total_163
        by_cases c_87_3 : what = 3
        ·
          refine z_tin (K := 3) (off := 77) (tgt := 164) CX dX11_total_87 (by constructor <;> omega) c_87_3 (by decide) (by decide) rfl (by decide) ?_
          refine lv_aload_n hX0 hB0 dX11_total_164 rfl (lv_at hl 4 rfl) ?_
          refine lv_aload hX0 hB0 dX11_total_165 (lv_at hl 3 rfl) ?_
          refine lv_aload hX0 hB0 dX11_total_167 (lv_at hl 2 rfl) ?_
          refine lv_iconst (v := zI 0) hX0 hB0 dX11_total_169 rfl ?_
          refine lv_iload hX0 hB0 dX11_total_170 (lv_at hl 0 rfl) ?_
          refine z_calli hW (va_runV (C := RX11) (As := [.ref (o + 289 + 3 + 2 * a.toNat), .ref (o + 289 + 3 + 2 * b.toNat), .int (zI 0), .int (zI ((M45.1 0 3) * (M45.1 0 3)))]) (rest := []) CX.fix (zd_timesBetween l o M45 a b 0 ((M45.1 0 3) * (M45.1 0 3)) hP45 hC45 (by constructor <;> omega) (by constructor <;> omega) (by constructor <;> omega) (by constructor <;> omega)) (cwV 4 CX.fix.2.2.2.2 gX11_total_X11_timesBetween rfl rfl rfl (by decide +kernel) ⟨Nat.le_of_ble_eq_true rfl, Nat.le_of_ble_eq_true rfl⟩) (z_preV CX hW (r := (RX11, TX11, 13)) (show g45 o = _ from hP45.c0) rfl) rfl rfl hl.1 rfl (lv_room (Nat.le_of_ble_eq_true rfl)) dX11_total_172 ⟨Nat.zero_le _, Nat.zero_le _⟩) (fun z172 g172 H locs hok hW => ?_)
          obtain ⟨hz172, hp, hc, hfr, hv, hq172⟩ := hok
          obtain ⟨M172, hS172⟩ : ∃ Mq, Mq = (zc_timesBetween M45 a b 0 ((M45.1 0 3) * (M45.1 0 3))).2 := ⟨_, rfl⟩
          rw [← hS172] at hp hc hv
          try rw [← hS172] at hq172
          have e172 : zc_timesBetween M45 a b 0 ((M45.1 0 3) * (M45.1 0 3)) = (z172, M172) := Prod.ext hz172.symm hS172.symm
          clear hz172 hS172
          have hP172 := hp
          have hC172 := hc
          have hF172 : zFr f g172 o (o + 681) := zFr.trans hF45 hfr
          clear hp hc hfr
          have hV172 : zVE M172 M := zVE.tr hv hV45
          have tv172_3 : M172.1 0 3 = M.1 0 3 := hV172.2 0 3 (by omega) (by omega)
          have tv172_4 : M172.1 0 4 = M.1 0 4 := hV172.2 0 4 (by omega) (by omega)
          clear hv
          have hE : zc_total M a b what = (z172, M172) := by unfold zc_total; exact zif_t cf_a_8 (zif_t cf_b_18 (zlet_e em45 (zlet_e e48 (zif_t c_51 (zlet_e e58 (zlet_e e63 (zif_f c_87_0 (zif_f c_87_1 (zif_f c_87_2 (zif_t c_87_3 (zlet_e e172 rfl)))))))))))
          rw [← hQ]
          exact z_iret (z := z172) CX hW (by rw [hE]; exact ⟨rfl, hP172, hC172, hF172, hV172, trivial⟩) rfl dX11_total_175
        by_cases c_87_4 : what = 4
        ·
          refine z_tin (K := 4) (off := 89) (tgt := 176) CX dX11_total_87 (by constructor <;> omega) c_87_4 (by decide) (by decide) rfl (by decide) ?_
          refine lv_aload_n hX0 hB0 dX11_total_176 rfl (lv_at hl 4 rfl) ?_
          refine lv_aload hX0 hB0 dX11_total_177 (lv_at hl 3 rfl) ?_
          refine lv_aload hX0 hB0 dX11_total_179 (lv_at hl 2 rfl) ?_
          refine lv_iload hX0 hB0 dX11_total_181 (lv_at hl 0 rfl) ?_
          refine lv_aload_n hX0 hB0 dX11_total_183 rfl (lv_at hl 4 rfl) ?_
          refine z_get (Cn := RX11) (T := TX11) (N := 13) CX hW (v := .ref (o + 289)) (show g45 o = _ from hP45.c0) rfl (fun w h => List.mem_cons_of_mem _ (List.mem_append_left _ (List.mem_append_left _ (List.mem_append_left _ (List.mem_append_left _ (List.mem_append_left _ (List.mem_append_left _ (List.mem_append_left _ (List.mem_append_left _ (List.mem_append_right _ h)))))))))) 1 (by decide) (List.mem_of_getElem? (i := 1) rfl) rfl rfl dX11_total_184 ?_
          refine z_get (Cn := RX7) (T := TX7) (N := 4) CX hW (v := .int (zI (M45.1 0 3))) hP45.c3.1 rfl (fun w h => List.mem_cons_of_mem _ (List.mem_append_left _ (List.mem_append_left _ (List.mem_append_left _ (List.mem_append_left _ (List.mem_append_left _ (List.mem_append_left _ (List.mem_append_left _ (List.mem_append_right _ h))))))))) 0 (by decide) (List.mem_of_getElem? (i := 3) rfl) rfl rfl dX11_total_187 ?_
          have hr187 := hC45.p
          refine z_calli hW (va_runS (As := [.int (zI (M45.1 0 3))]) (rest := [.int (zI ((M45.1 0 3) * (M45.1 0 3))), .ref (o + 289 + 3 + 2 * b.toNat), .ref (o + 289 + 3 + 2 * a.toNat), .ref o]) CX.fix (c_howMany l (f := g45) (M45.1 0 3)) (va_cwS 1 CX.fix.2.2.2.2 gX11_total_X9_howMany rfl rfl rfl (by decide +kernel) ⟨Nat.le_of_ble_eq_true rfl, Nat.le_of_ble_eq_true rfl⟩) (z_preS CX hW) rfl rfl hl.1 rfl (lv_room (Nat.le_of_ble_eq_true rfl)) dX11_total_190 ⟨Nat.zero_le _, Nat.zero_le _⟩) (fun z190 g190 H locs hok hW => ?_)
          obtain ⟨hz, hg⟩ := hok
          have e190 : zmany (M45.1 0 3) = z190 := hz.symm
          have hmy190 := zmany_rng (p := (M45.1 0 3)) (by omega)
          rw [e190] at hmy190
          rw [hg] at hW
          clear hg
          refine z_calli hW (va_runV (C := RX11) (As := [.ref (o + 289 + 3 + 2 * a.toNat), .ref (o + 289 + 3 + 2 * b.toNat), .int (zI ((M45.1 0 3) * (M45.1 0 3))), .int (zI z190)]) (rest := []) CX.fix (zd_timesBetween l o M45 a b ((M45.1 0 3) * (M45.1 0 3)) z190 hP45 hC45 (by constructor <;> omega) (by constructor <;> omega) (by constructor <;> omega) (by constructor <;> omega)) (cwV 4 CX.fix.2.2.2.2 gX11_total_X11_timesBetween rfl rfl rfl (by decide +kernel) ⟨Nat.le_of_ble_eq_true rfl, Nat.le_of_ble_eq_true rfl⟩) (z_preV CX hW (r := (RX11, TX11, 13)) (show g45 o = _ from hP45.c0) rfl) rfl rfl hl.1 rfl (lv_room (Nat.le_of_ble_eq_true rfl)) dX11_total_193 ⟨Nat.zero_le _, Nat.zero_le _⟩) (fun z193 g193 H locs hok hW => ?_)
          obtain ⟨hz193, hp, hc, hfr, hv, hq193⟩ := hok
          obtain ⟨M193, hS193⟩ : ∃ Mq, Mq = (zc_timesBetween M45 a b ((M45.1 0 3) * (M45.1 0 3)) z190).2 := ⟨_, rfl⟩
          rw [← hS193] at hp hc hv
          try rw [← hS193] at hq193
          have e193 : zc_timesBetween M45 a b ((M45.1 0 3) * (M45.1 0 3)) z190 = (z193, M193) := Prod.ext hz193.symm hS193.symm
          clear hz193 hS193
          have hP193 := hp
          have hC193 := hc
          have hF193 : zFr f g193 o (o + 681) := zFr.trans hF45 hfr
          clear hp hc hfr
          have hV193 : zVE M193 M := zVE.tr hv hV45
          have tv193_3 : M193.1 0 3 = M.1 0 3 := hV193.2 0 3 (by omega) (by omega)
          have tv193_4 : M193.1 0 4 = M.1 0 4 := hV193.2 0 4 (by omega) (by omega)
          clear hv
          have hE : zc_total M a b what = (z193, M193) := by unfold zc_total; exact zif_t cf_a_8 (zif_t cf_b_18 (zlet_e em45 (zlet_e e48 (zif_t c_51 (zlet_e e58 (zlet_e e63 (zif_f c_87_0 (zif_f c_87_1 (zif_f c_87_2 (zif_f c_87_3 (zif_t c_87_4 (zlet_e e190 (zlet_e e193 rfl)))))))))))))
          rw [← hQ]
          exact z_iret (z := z193) CX hW (by rw [hE]; exact ⟨rfl, hP193, hC193, hF193, hV193, trivial⟩) rfl dX11_total_196
        refine z_tout (tgt := 197) CX dX11_total_87 (by constructor <;> omega) (by omega) (by decide) ?_
        refine lv_iconst (v := zI (-1)) hX0 hB0 dX11_total_197 rfl ?_
        have hE : zc_total M a b what = (-1, M45) := by unfold zc_total; exact zif_t cf_a_8 (zif_t cf_b_18 (zlet_e em45 (zlet_e e48 (zif_t c_51 (zlet_e e58 (zlet_e e63 (zif_f c_87_0 (zif_f c_87_1 (zif_f c_87_2 (zif_f c_87_3 (zif_f c_87_4 rfl)))))))))))
        rw [← hQ]
        exact z_iret (z := -1) CX hW (by rw [hE]; exact ⟨rfl, hP45, hC45, hF45, hV45, trivial⟩) rfl dX11_total_198
      ·
        have d_51 : ¬ z48 ≤ 0 := by omega
        refine lv_iconst (v := zI (-1)) hX0 hB0 dX11_total_54 rfl ?_
        have hE : zc_total M a b what = (-1, M45) := by unfold zc_total; exact zif_t cf_a_8 (zif_t cf_b_18 (zlet_e em45 (zlet_e e48 (zif_f d_51 rfl))))
        rw [← hQ]
        exact z_iret (z := -1) CX hW (by rw [hE]; exact ⟨rfl, hP45, hC45, hF45, hV45, trivial⟩) rfl dX11_total_55
    ·
      have hzf := zfind_n (a := o + 289) cf_b_18
      rw [hzf]
      clear hzf
      refine lv_astoreN (lv' := [(5, .null), (4, .ref (o + 289 + 3 + 2 * a.toNat)), (0, .ref o), (1, .int (zI a)), (2, .int (zI b)), (3, .int (zI what))]) hX0 hB0 dX11_total_18 hl (by decide) rfl (fun ls hl => ?_)
      refine lv_aload hX0 hB0 dX11_total_20 (lv_at hl 1 rfl) ?_
      refine lv_ifnull hX0 hB0 dX11_total_22 ?_
      refine lv_aloadN hX0 hB0 dX11_total_25 (lv_at hl 0 rfl) ?_
      refine lv_ifnullN (tgt := 54) hX0 hB0 dX11_total_27 (by decide) ?_
      refine lv_iconst (v := zI (-1)) hX0 hB0 dX11_total_54 rfl ?_
      have hE : zc_total M a b what = (-1, M) := by unfold zc_total; exact zif_t cf_a_8 (zif_f cf_b_18 rfl)
      rw [← hQ]
      exact z_iret (z := -1) CX hW (by rw [hE]; exact ⟨rfl, hP, hC, zFr.refl, zVE.rf, trivial⟩) rfl dX11_total_55
  ·
    have hzf := zfind_n (a := o + 289) cf_a_8
    rw [hzf]
    clear hzf
    refine lv_astoreN (lv' := [(4, .null), (0, .ref o), (1, .int (zI a)), (2, .int (zI b)), (3, .int (zI what))]) hX0 hB0 dX11_total_8 hl (by decide) rfl (fun ls hl => ?_)
    refine lv_aload_n hX0 hB0 dX11_total_10 rfl (lv_at hl 1 rfl) ?_
    refine z_get (Cn := RX11) (T := TX11) (N := 13) CX hW (v := .ref (o + 289)) (show f o = _ from hP.c0) rfl (fun w h => List.mem_cons_of_mem _ (List.mem_append_left _ (List.mem_append_left _ (List.mem_append_left _ (List.mem_append_left _ (List.mem_append_left _ (List.mem_append_left _ (List.mem_append_left _ (List.mem_append_left _ (List.mem_append_right _ h)))))))))) 1 (by decide) (List.mem_of_getElem? (i := 1) rfl) rfl rfl dX11_total_11 ?_
    refine lv_iload_n hX0 hB0 dX11_total_14 rfl (lv_at hl 3 rfl) ?_
    refine z_callr hW (va_runV (C := RX7) (As := [.int (zI b)]) (rest := []) CX.fix (c_find l (o + 289) (M.1 0 3) (M.1 0 4) M.2.1 (M.1 3) b hP.c3 (by omega) (by constructor <;> omega)) (cwV 1 CX.fix.2.2.2.2 gX11_total_X7_find rfl rfl rfl (by decide +kernel) ⟨Nat.le_of_ble_eq_true rfl, Nat.le_of_ble_eq_true rfl⟩) (z_preV CX hW (r := (RX7, TX7, 4)) hP.c3.1 rfl) rfl rfl hl.1 rfl (lv_room (Nat.le_of_ble_eq_true rfl)) dX11_total_15 ⟨Nat.zero_le _, Nat.zero_le _⟩) (fun z15 g15 H locs hok hW => ?_)
    obtain ⟨hz, hg⟩ := hok
    rw [hz]
    rw [hg] at hW
    clear hg
    by_cases cf_b_18 : 0 ≤ b ∧ b < M.1 0 4 ∧ b < 6
    ·
      have hzf := zfind_p (a := o + 289) cf_b_18
      rw [hzf]
      clear hzf
      refine lv_astore (lv' := [(5, .ref (o + 289 + 3 + 2 * b.toNat)), (4, .null), (0, .ref o), (1, .int (zI a)), (2, .int (zI b)), (3, .int (zI what))]) hX0 hB0 dX11_total_18 hl (by decide) rfl (fun ls hl => ?_)
      refine lv_aloadN hX0 hB0 dX11_total_20 (lv_at hl 1 rfl) ?_
      refine lv_ifnullN (tgt := 54) hX0 hB0 dX11_total_22 (by decide) ?_
      refine lv_iconst (v := zI (-1)) hX0 hB0 dX11_total_54 rfl ?_
      have hE : zc_total M a b what = (-1, M) := by unfold zc_total; exact zif_f cf_a_8 (zif_t cf_b_18 rfl)
      rw [← hQ]
      exact z_iret (z := -1) CX hW (by rw [hE]; exact ⟨rfl, hP, hC, zFr.refl, zVE.rf, trivial⟩) rfl dX11_total_55
    ·
      have hzf := zfind_n (a := o + 289) cf_b_18
      rw [hzf]
      clear hzf
      refine lv_astoreN (lv' := [(5, .null), (4, .null), (0, .ref o), (1, .int (zI a)), (2, .int (zI b)), (3, .int (zI what))]) hX0 hB0 dX11_total_18 hl (by decide) rfl (fun ls hl => ?_)
      refine lv_aloadN hX0 hB0 dX11_total_20 (lv_at hl 1 rfl) ?_
      refine lv_ifnullN (tgt := 54) hX0 hB0 dX11_total_22 (by decide) ?_
      refine lv_iconst (v := zI (-1)) hX0 hB0 dX11_total_54 rfl ?_
      have hE : zc_total M a b what = (-1, M) := by unfold zc_total; exact zif_f cf_a_8 (zif_f cf_b_18 rfl)
      rw [← hQ]
      exact z_iret (z := -1) CX hW (by rw [hE]; exact ⟨rfl, hP, hC, zFr.refl, zVE.rf, trivial⟩) rfl dX11_total_55
noncomputable def zc_countOn_W4 (pt : Int) : Nat → Int → Int → zCt → Int × Int × zCt
  | 0, n4, k4, M4 => (n4, k4, M4)
  | fu4 + 1, n4, k4, M4 => (if M4.1 0 4 ≤ k4 then (n4, k4, M4) else zlet (zc_value M4 k4 pt) (fun q18 => (fun (z18 : Int) (M18 : zCt) => (if z18 = 0 then zc_countOn_W4 pt fu4 (n4 + 1) (k4 + 1) M18 else zc_countOn_W4 pt fu4 n4 (k4 + 1) M18)) q18.1 q18.2))
noncomputable def zc_countOn (M : zCt) (pt : Int) : Int × zCt := zlet (zc_countOn_W4 pt ((8 : Nat)) 0 0 M) (fun q4 => (fun (n4 : Int) (k4 : Int) (M4 : zCt) => (n4, M4)) q4.1 q4.2.1 q4.2.2)
noncomputable def zc_coupleTimes_W20 (pt : Int) (a4 : Int) : Nat → Int → Int → zCt → (Int × zCt) ⊕ (Int × Int × zCt)
  | 0, s20, b20, M20 => .inr (s20, b20, M20)
  | fu20 + 1, s20, b20, M20 => (if M20.1 0 4 ≤ b20 then .inr (s20, b20, M20) else (if 0 ≤ a4 ∧ a4 < M20.1 0 4 ∧ a4 < 6 then (if 0 ≤ b20 ∧ b20 < M20.1 0 4 ∧ b20 < 6 then zlet (zc_areBothOn M20 a4 b20 pt) (fun q69 => (fun (z69 : Int) (M69 : zCt) => (if z69 = 0 then zc_coupleTimes_W20 pt a4 fu20 s20 (b20 + 1) M69 else zlet (zw_common M69 (M69.2.1 a4.toNat) (M69.2.1 b20.toNat) (M69.1 0 3)) (fun M93 => zlet (zc_timesAt M93 a4 b20 pt) (fun q103 => (fun (z103 : Int) (M103 : zCt) => (if z103 = -2 then .inl ((-2, M103)) else zc_coupleTimes_W20 pt a4 fu20 (s20 + z103) (b20 + 1) M103)) q103.1 q103.2)))) q69.1 q69.2) else zc_coupleTimes_W20 pt a4 fu20 s20 (b20 + 1) M20) else (if 0 ≤ b20 ∧ b20 < M20.1 0 4 ∧ b20 < 6 then zc_coupleTimes_W20 pt a4 fu20 s20 (b20 + 1) M20 else zc_coupleTimes_W20 pt a4 fu20 s20 (b20 + 1) M20)))
noncomputable def zc_coupleTimes_W4 (pt : Int) : Nat → Int → Int → zCt → (Int × zCt) ⊕ (Int × Int × zCt)
  | 0, s4, a4, M4 => .inr (s4, a4, M4)
  | fu4 + 1, s4, a4, M4 => (if M4.1 0 4 ≤ a4 then .inr (s4, a4, M4) else zsum (zc_coupleTimes_W20 pt a4 ((8 : Nat)) s4 (a4 + 1) M4) (fun r20 => .inl r20) (fun q20 => (fun (s20 : Int) (b20 : Int) (M20 : zCt) => zc_coupleTimes_W4 pt fu4 s20 (a4 + 1) M20) q20.1 q20.2.1 q20.2.2))
noncomputable def zc_coupleTimes (M : zCt) (pt : Int) : Int × zCt := zsum (zc_coupleTimes_W4 pt ((8 : Nat)) 0 0 M) (fun r4 => r4) (fun q4 => (fun (s4 : Int) (a4 : Int) (M4 : zCt) => (s4, M4)) q4.1 q4.2.1 q4.2.2)
noncomputable def zc_knot (M : zCt) (pt : Int) (what : Int) : Int × zCt := (if what < 0 then (-1, M) else (if 1 < what then (-1, M) else zlet (bI (zpt pt (M.1 0 3))) (fun z17 => (if z17 = 0 then (-1, M) else (if what = 0 then zlet (zc_countOn M pt) (fun q31 => (fun (z31 : Int) (M31 : zCt) => (z31, M31)) q31.1 q31.2) else zlet (zc_coupleTimes M pt) (fun q39 => (fun (z39 : Int) (M39 : zCt) => (z39, M39)) q39.1 q39.2))))))
noncomputable def zc_most_W81 (a : Int) (b : Int) (what : Int) (z73 : Int) : Nat → Int → Int → Int → zCt → (Int × zCt) ⊕ (Int × Int × Int × zCt)
  | 0, y81, x81, q81, M81 => .inr (y81, x81, q81, M81)
  | fu81 + 1, y81, x81, q81, M81 => (if z73 ≤ q81 then .inr (y81, x81, q81, M81) else zlet (zc_areBothOn M81 a b q81) (fun q95 => (fun (z95 : Int) (M95 : zCt) => (if z95 = 0 then (if 0 ≤ y81 then zc_most_W81 a b what z73 fu81 y81 x81 (q81 + 1) M95 else zc_most_W81 a b what z73 fu81 0 q81 (q81 + 1) M95) else zlet (zc_timesAt M95 a b q81) (fun q108 => (fun (z108 : Int) (M108 : zCt) => (if z108 = -2 then (if what = 0 then .inl ((-2, M108)) else .inl ((q81, M108))) else (if z108 ≤ y81 then zc_most_W81 a b what z73 fu81 y81 x81 (q81 + 1) M108 else zc_most_W81 a b what z73 fu81 z108 q81 (q81 + 1) M108))) q108.1 q108.2))) q95.1 q95.2))
noncomputable def zc_most (M : zCt) (a : Int) (b : Int) (what : Int) : Int × zCt := (if 0 ≤ a ∧ a < M.1 0 4 ∧ a < 6 then (if 0 ≤ b ∧ b < M.1 0 4 ∧ b < 6 then (if what < 0 then (-1, M) else (if what ≤ 1 then zlet (zw_common M (M.2.1 a.toNat) (M.2.1 b.toNat) (M.1 0 3)) (fun M56 => zlet (zmany (M56.1 0 3)) (fun z73 => zsum (zc_most_W81 a b what z73 ((995 : Nat)) 0 (-1) 0 M56) (fun r81 => r81) (fun q81 => (fun (y81 : Int) (x81 : Int) (q81 : Int) (M81 : zCt) => (if what = 0 then (y81, M81) else (x81, M81))) q81.1 q81.2.1 q81.2.2.1 q81.2.2.2))) else (-1, M))) else (-1, M)) else (if 0 ≤ b ∧ b < M.1 0 4 ∧ b < 6 then (-1, M) else (-1, M)))
set_option maxRecDepth 100000 in
set_option maxHeartbeats 4000000 in
theorem zd_most (l : Launch) {D : va_G} {cI cJ cZ cP cS cM : ClassId} {L : List Nat} {sz : Nat} {f : Nat → va_E} (o : Nat) (M : zCt) (a : Int) (b : Int) (what : Int) (hP : zCP cI cP cS cZ cM o M f) (hC : zCI M) (ha : -2147483648 ≤ a ∧ a ≤ 2147483647) (hb : -2147483648 ≤ b ∧ b ≤ 2147483647) (hwhat : -2147483648 ≤ what ∧ what ≤ 2147483647) : zMi l yX11_most wsX11_most 6 146 D (zT cI cJ cZ cP cS cM) L sz f [.ref o, .int (zI a), .int (zI b), .int (zI what)] (fun zv gv => zv = (zc_most M a b what).1 ∧ zCP cI cP cS cZ cM o (zc_most M a b what).2 gv ∧ zCI (zc_most M a b what).2 ∧ zFr f gv o (o + 681) ∧ zVE (zc_most M a b what).2 M ∧ True) := by
  refine zWalk.met (nL := 11) (ret := (some .int)) (cc := cX11_most) (by decide) rfl (Nat.le_of_ble_eq_true rfl) ?_
  intro pg en st mi ag bl mt cd ls CX hW hl
  have CX : zC pg st mi ag mt cd cX11_most 11 (some .int) RX11 wsX11_most := CX
  generalize hQ : MQ bl _ ag st 0 0 _ = Q
  have hX0 := CX.1
  have hB0 := CX.2.1
  have hl : lv_has ls 11 [(0, .ref o), (1, .int (zI a)), (2, .int (zI b)), (3, .int (zI what))] := hl
  obtain ⟨H, eH⟩ : ∃ H, H = st.heap := ⟨_, rfl⟩
  obtain ⟨locs, eL⟩ : ∃ L : List Loc, L = [] := ⟨_, rfl⟩
  have hW : zW D (zT cI cJ cZ cP cS cM) L (zQ L sz) st f st.heap H locs := by rw [eH, eL]; exact hW
  suffices hgo : W pg l en ({ frames := 6, cells := 0, slots := 0, locals := 146 } : Room) st mi ag bl mt cd H locs 0 0 Q (F0 mi 0 ls []) by rw [eH, eL] at hgo; exact hgo
  clear eH eL
  have hpb := hC.p
  have hnb := hC.cn
  refine lv_aload_n hX0 hB0 dX11_most_0 rfl (lv_at hl 0 rfl) ?_
  refine z_get (Cn := RX11) (T := TX11) (N := 13) CX hW (v := .ref (o + 289)) (show f o = _ from hP.c0) rfl (fun w h => List.mem_cons_of_mem _ (List.mem_append_left _ (List.mem_append_left _ (List.mem_append_left _ (List.mem_append_left _ (List.mem_append_left _ (List.mem_append_left _ (List.mem_append_left _ (List.mem_append_right _ h))))))))) 1 (by decide) (List.mem_of_getElem? (i := 1) rfl) rfl rfl dX11_most_1 ?_
  refine lv_iload_n hX0 hB0 dX11_most_4 rfl (lv_at hl 1 rfl) ?_
  refine z_callr hW (va_runV (C := RX7) (As := [.int (zI a)]) (rest := []) CX.fix (c_find l (o + 289) (M.1 0 3) (M.1 0 4) M.2.1 (M.1 3) a hP.c3 (by omega) (by constructor <;> omega)) (cwV 1 CX.fix.2.2.2.2 gX11_most_X7_find rfl rfl rfl (by decide +kernel) ⟨Nat.le_of_ble_eq_true rfl, Nat.le_of_ble_eq_true rfl⟩) (z_preV CX hW (r := (RX7, TX7, 4)) hP.c3.1 rfl) rfl rfl hl.1 rfl (lv_room (Nat.le_of_ble_eq_true rfl)) dX11_most_5 ⟨Nat.zero_le _, Nat.zero_le _⟩) (fun z5 g5 H locs hok hW => ?_)
  obtain ⟨hz, hg⟩ := hok
  rw [hz]
  rw [hg] at hW
  clear hg
  by_cases cf_a_8 : 0 ≤ a ∧ a < M.1 0 4 ∧ a < 6
  ·
    have hzf := zfind_p (a := o + 289) cf_a_8
    rw [hzf]
    clear hzf
    refine lv_astore (lv' := [(4, .ref (o + 289 + 3 + 2 * a.toNat)), (0, .ref o), (1, .int (zI a)), (2, .int (zI b)), (3, .int (zI what))]) hX0 hB0 dX11_most_8 hl (by decide) rfl (fun ls hl => ?_)
    refine lv_aload_n hX0 hB0 dX11_most_10 rfl (lv_at hl 1 rfl) ?_
    refine z_get (Cn := RX11) (T := TX11) (N := 13) CX hW (v := .ref (o + 289)) (show f o = _ from hP.c0) rfl (fun w h => List.mem_cons_of_mem _ (List.mem_append_left _ (List.mem_append_left _ (List.mem_append_left _ (List.mem_append_left _ (List.mem_append_left _ (List.mem_append_left _ (List.mem_append_left _ (List.mem_append_right _ h))))))))) 1 (by decide) (List.mem_of_getElem? (i := 1) rfl) rfl rfl dX11_most_11 ?_
    refine lv_iload_n hX0 hB0 dX11_most_14 rfl (lv_at hl 3 rfl) ?_
    refine z_callr hW (va_runV (C := RX7) (As := [.int (zI b)]) (rest := []) CX.fix (c_find l (o + 289) (M.1 0 3) (M.1 0 4) M.2.1 (M.1 3) b hP.c3 (by omega) (by constructor <;> omega)) (cwV 1 CX.fix.2.2.2.2 gX11_most_X7_find rfl rfl rfl (by decide +kernel) ⟨Nat.le_of_ble_eq_true rfl, Nat.le_of_ble_eq_true rfl⟩) (z_preV CX hW (r := (RX7, TX7, 4)) hP.c3.1 rfl) rfl rfl hl.1 rfl (lv_room (Nat.le_of_ble_eq_true rfl)) dX11_most_15 ⟨Nat.zero_le _, Nat.zero_le _⟩) (fun z15 g15 H locs hok hW => ?_)
    obtain ⟨hz, hg⟩ := hok
    rw [hz]
    rw [hg] at hW
    clear hg
    by_cases cf_b_18 : 0 ≤ b ∧ b < M.1 0 4 ∧ b < 6
    ·
      have hzf := zfind_p (a := o + 289) cf_b_18
      rw [hzf]
      clear hzf
      refine lv_astore (lv' := [(5, .ref (o + 289 + 3 + 2 * b.toNat)), (4, .ref (o + 289 + 3 + 2 * a.toNat)), (0, .ref o), (1, .int (zI a)), (2, .int (zI b)), (3, .int (zI what))]) hX0 hB0 dX11_most_18 hl (by decide) rfl (fun ls hl => ?_)
      refine lv_aload hX0 hB0 dX11_most_20 (lv_at hl 1 rfl) ?_
      refine lv_ifnull hX0 hB0 dX11_most_22 ?_
      refine lv_aload hX0 hB0 dX11_most_25 (lv_at hl 0 rfl) ?_
      refine lv_ifnull hX0 hB0 dX11_most_27 ?_
      refine lv_iload_n hX0 hB0 dX11_most_30 rfl (lv_at hl 5 rfl) ?_
      refine z_if_lt (tgt := 39) CX dX11_most_31 (by decide) (by constructor <;> omega) (fun c_31 => ?_) (fun c_31 => ?_)
      ·
        refine lv_iconst (v := zI (-1)) hX0 hB0 dX11_most_39 rfl ?_
        have hE : zc_most M a b what = (-1, M) := by unfold zc_most; exact zif_t cf_a_8 (zif_t cf_b_18 (zif_t c_31 rfl))
        rw [← hQ]
        exact z_iret (z := -1) CX hW (by rw [hE]; exact ⟨rfl, hP, hC, zFr.refl, zVE.rf, trivial⟩) rfl dX11_most_40
      ·
        have d_31 : ¬ what < 0 := by omega
        refine lv_iload_n hX0 hB0 dX11_most_34 rfl (lv_at hl 5 rfl) ?_
        refine lv_iconst (v := zI 1) hX0 hB0 dX11_most_35 rfl ?_
        refine z_icmp_le (tgt := 41) CX dX11_most_36 (by decide) (by constructor <;> omega) (by constructor <;> omega) (fun c_36 => ?_) (fun c_36 => ?_)
        ·
          refine lv_aload_n hX0 hB0 dX11_most_41 rfl (lv_at hl 2 rfl) ?_
          refine z_get (Cn := RX11) (T := TX11) (N := 13) CX hW (v := .ref (o + 615)) (show f o = _ from hP.c0) rfl (fun w h => List.mem_cons_of_mem _ (List.mem_append_left _ (List.mem_append_left _ (List.mem_append_left _ (List.mem_append_left _ (List.mem_append_left _ (List.mem_append_left _ (List.mem_append_left _ (List.mem_append_right _ h))))))))) 6 (by decide) (List.mem_of_getElem? (i := 2) rfl) rfl rfl dX11_most_42 ?_
          refine lv_aload hX0 hB0 dX11_most_45 (lv_at hl 1 rfl) ?_
          refine lv_aload hX0 hB0 dX11_most_47 (lv_at hl 0 rfl) ?_
          refine lv_aload_n hX0 hB0 dX11_most_49 rfl (lv_at hl 2 rfl) ?_
          refine z_get (Cn := RX11) (T := TX11) (N := 13) CX hW (v := .ref (o + 289)) (show f o = _ from hP.c0) rfl (fun w h => List.mem_cons_of_mem _ (List.mem_append_left _ (List.mem_append_left _ (List.mem_append_left _ (List.mem_append_left _ (List.mem_append_left _ (List.mem_append_left _ (List.mem_append_left _ (List.mem_append_right _ h))))))))) 1 (by decide) (List.mem_of_getElem? (i := 1) rfl) rfl rfl dX11_most_50 ?_
          refine z_get (Cn := RX7) (T := TX7) (N := 4) CX hW (v := .int (zI (M.1 0 3))) hP.c3.1 rfl (fun w h => List.mem_cons_of_mem _ (List.mem_append_left _ (List.mem_append_left _ (List.mem_append_left _ (List.mem_append_left _ (List.mem_append_left _ (List.mem_append_left _ (List.mem_append_right _ h)))))))) 0 (by decide) (List.mem_of_getElem? (i := 3) rfl) rfl rfl dX11_most_53 ?_
          have hr53 := hC.p
          obtain ⟨cc56, cr56, ln56, hsx56⟩ := hP.c8
          obtain ⟨w56, lim56, pq56, R56, K56, hk56, hR56⟩ := hP.c1
          refine z_callr hW (va_runV (C := RX6) (As := [.ref (o + 289 + 3 + 2 * a.toNat), .ref (o + 289 + 3 + 2 * b.toNat), .int (zI (M.1 0 3))]) (rest := []) CX.fix (c_common l (o + 615) (o + 1) (M.1 24) cc56 cr56 ln56 (o + 289 + 3 + 2 * a.toNat) (o + 289 + 3 + 2 * a.toNat + 1) (M.2.1 a.toNat) (o + 289 + 3 + 2 * b.toNat) (o + 289 + 3 + 2 * b.toNat + 1) (M.2.1 b.toNat) w56 lim56 pq56 R56 K56 (M.1 0 3) hsx56 (hP.poly (k := a.toNat) (by omega)).1 (hP.poly (k := a.toNat) (by omega)).2 (hC.poly (k := a) (by omega) (by omega)) (by omega) (by omega) (hP.poly (k := b.toNat) (by omega)).1 (hP.poly (k := b.toNat) (by omega)).2 (hC.poly (k := b) (by omega) (by omega)) (by omega) (by omega) (by omega) (by omega) hk56 hR56 (by omega) (by omega) (by omega) (by omega)) (cwV 3 CX.fix.2.2.2.2 gX11_most_X6_find rfl rfl rfl (by decide +kernel) ⟨Nat.le_of_ble_eq_true rfl, Nat.le_of_ble_eq_true rfl⟩) (z_preV CX hW (r := (RX6, TX6, 5)) hP.shob rfl) rfl rfl hl.1 rfl (lv_room (Nat.le_of_ble_eq_true rfl)) dX11_most_56 ⟨Nat.zero_le _, Nat.zero_le _⟩) (fun z56 g56 H locs hok hW => ?_)
          obtain ⟨hz, hs0, hx⟩ := hok
          have hz : va_rf z56 = .ref (o + 615 + 1) := by rw [hz]; rfl
          rw [hz]
          obtain ⟨M56, em56⟩ : ∃ Mq, zw_common M (M.2.1 a.toNat) (M.2.1 b.toNat) (M.1 0 3) = Mq := ⟨_, rfl⟩
          have hP56 : zCP cI cP cS cZ cM o M56 g56 := by rw [← em56]; exact zr_common hP hs0 hx
          have hC56 : zCI M56 := by rw [← em56]; exact zi_common hC (by omega)
          have hV56 : zVE M56 M := zVE.tr (by rw [← em56]; exact zv_common) zVE.rf
          have tv56_3 : M56.1 0 3 = M.1 0 3 := hV56.2 0 3 (by omega) (by omega)
          have tv56_4 : M56.1 0 4 = M.1 0 4 := hV56.2 0 4 (by omega) (by omega)
          have hF56 : zFr f g56 o (o + 681) := zFr.trans zFr.refl (fun q hq => hs0 q (by omega))
          refine lv_pop hX0 hB0 dX11_most_59 rfl ?_
          refine lv_iconst (v := zI 0) hX0 hB0 dX11_most_60 rfl ?_
          refine lv_istore (lv' := [(6, .int (zI 0)), (5, .ref (o + 289 + 3 + 2 * b.toNat)), (4, .ref (o + 289 + 3 + 2 * a.toNat)), (0, .ref o), (1, .int (zI a)), (2, .int (zI b)), (3, .int (zI what))]) hX0 hB0 dX11_most_61 hl (by decide) rfl (fun ls hl => ?_)
          refine lv_iconst (v := zI (-1)) hX0 hB0 dX11_most_63 rfl ?_
          refine lv_istore (lv' := [(7, .int (zI (-1))), (6, .int (zI 0)), (5, .ref (o + 289 + 3 + 2 * b.toNat)), (4, .ref (o + 289 + 3 + 2 * a.toNat)), (0, .ref o), (1, .int (zI a)), (2, .int (zI b)), (3, .int (zI what))]) hX0 hB0 dX11_most_64 hl (by decide) rfl (fun ls hl => ?_)
          refine lv_aload_n hX0 hB0 dX11_most_66 rfl (lv_at hl 4 rfl) ?_
          refine z_get (Cn := RX11) (T := TX11) (N := 13) CX hW (v := .ref (o + 289)) (show g56 o = _ from hP56.c0) rfl (fun w h => List.mem_cons_of_mem _ (List.mem_append_left _ (List.mem_append_left _ (List.mem_append_left _ (List.mem_append_left _ (List.mem_append_left _ (List.mem_append_left _ (List.mem_append_left _ (List.mem_append_right _ h))))))))) 1 (by decide) (List.mem_of_getElem? (i := 1) rfl) rfl rfl dX11_most_67 ?_
          refine z_get (Cn := RX7) (T := TX7) (N := 4) CX hW (v := .int (zI (M56.1 0 3))) hP56.c3.1 rfl (fun w h => List.mem_cons_of_mem _ (List.mem_append_left _ (List.mem_append_left _ (List.mem_append_left _ (List.mem_append_left _ (List.mem_append_left _ (List.mem_append_left _ (List.mem_append_right _ h)))))))) 0 (by decide) (List.mem_of_getElem? (i := 3) rfl) rfl rfl dX11_most_70 ?_
          have hr70 := hC56.p
          refine z_calli hW (va_runS (As := [.int (zI (M56.1 0 3))]) (rest := []) CX.fix (c_howMany l (f := g56) (M56.1 0 3)) (va_cwS 1 CX.fix.2.2.2.2 gX11_most_X9_howMany rfl rfl rfl (by decide +kernel) ⟨Nat.le_of_ble_eq_true rfl, Nat.le_of_ble_eq_true rfl⟩) (z_preS CX hW) rfl rfl hl.1 rfl (lv_room (Nat.le_of_ble_eq_true rfl)) dX11_most_73 ⟨Nat.zero_le _, Nat.zero_le _⟩) (fun z73 g73 H locs hok hW => ?_)
          obtain ⟨hz, hg⟩ := hok
          have e73 : zmany (M56.1 0 3) = z73 := hz.symm
          have hmy73 := zmany_rng (p := (M56.1 0 3)) (by omega)
          rw [e73] at hmy73
          rw [hg] at hW
          clear hg
          refine lv_istore (lv' := [(8, .int (zI z73)), (7, .int (zI (-1))), (6, .int (zI 0)), (5, .ref (o + 289 + 3 + 2 * b.toNat)), (4, .ref (o + 289 + 3 + 2 * a.toNat)), (0, .ref o), (1, .int (zI a)), (2, .int (zI b)), (3, .int (zI what))]) hX0 hB0 dX11_most_76 hl (by decide) rfl (fun ls hl => ?_)
          refine lv_iconst (v := zI 0) hX0 hB0 dX11_most_78 rfl ?_
          refine lv_istore (lv' := [(9, .int (zI 0)), (8, .int (zI z73)), (7, .int (zI (-1))), (6, .int (zI 0)), (5, .ref (o + 289 + 3 + 2 * b.toNat)), (4, .ref (o + 289 + 3 + 2 * a.toNat)), (0, .ref o), (1, .int (zI a)), (2, .int (zI b)), (3, .int (zI what))]) hX0 hB0 dX11_most_79 hl (by decide) rfl (fun ls hl => ?_)
          have hXt81 : ∀ (y81 : Int) (x81 : Int) (q81 : Int) (M81 : zCt) (g81 : Nat → va_E), (zc_most_W81 a b what z73 ((995 : Nat)) 0 (-1) 0 M56 = .inr (y81, x81, q81, M81) ∧ zCP cI cP cS cZ cM o M81 g81 ∧ zCI M81 ∧ zFr f g81 o (o + 681) ∧ zVE M81 M ∧ 0 ≤ y81 ∧ y81 ≤ 32768 ∧ 0 ≤ q81 ∧ q81 ≤ 993) → ∀ (H : Heap) (locs : List Loc) (ls : Array Slot), zW D (zT cI cJ cZ cP cS cM) L (zQ L sz) st g81 st.heap H locs → lv_has ls 11 [(6, .int (zI y81)), (7, .int (zI x81)), (9, .int (zI q81)), (8, .int (zI z73)), (5, .ref (o + 289 + 3 + 2 * b.toNat)), (4, .ref (o + 289 + 3 + 2 * a.toNat)), (0, .ref o), (1, .int (zI a)), (2, .int (zI b)), (3, .int (zI what))] → W pg l en ({ frames := 6, cells := 0, slots := 0, locals := 146 } : Room) st mi ag bl mt cd H locs 0 0 Q (F0 mi 157 ls []) := by
            intro y81 x81 q81 M81 g81 hinv H locs ls hW hl
            obtain ⟨e81, hP81, hC81, hF81, hV81, hay81, hby81, haq81, hbq81⟩ := hinv
            have hp81 := hC81.p
            have hn81 := hC81.cn
            have tv81_3 : M81.1 0 3 = M.1 0 3 := hV81.2 0 3 (by omega) (by omega)
            have tv81_4 : M81.1 0 4 = M.1 0 4 := hV81.2 0 4 (by omega) (by omega)
            refine lv_iload_n hX0 hB0 dX11_most_157 rfl (lv_at hl 9 rfl) ?_
            refine z_if_ne (tgt := 166) CX dX11_most_158 (by decide) (by constructor <;> omega) (fun c_158 => ?_) (fun c_158 => ?_)
            ·
              refine lv_iload hX0 hB0 dX11_most_166 (lv_at hl 1 rfl) ?_
              have hE : zc_most M a b what = (x81, M81) := by unfold zc_most; exact zif_t cf_a_8 (zif_t cf_b_18 (zif_f d_31 (zif_t c_36 (zlet_e em56 (zlet_e e73 (zsum_r e81 (zif_f c_158 rfl)))))))
              rw [← hQ]
              exact z_iret (z := x81) CX hW (by rw [hE]; exact ⟨rfl, hP81, hC81, hF81, hV81, trivial⟩) rfl dX11_most_168
            ·
              refine lv_iload hX0 hB0 dX11_most_161 (lv_at hl 0 rfl) ?_
              refine lv_goto (tgt := 168) hX0 hB0 dX11_most_163 (by decide) ?_
              have hE : zc_most M a b what = (y81, M81) := by unfold zc_most; exact zif_t cf_a_8 (zif_t cf_b_18 (zif_f d_31 (zif_t c_36 (zlet_e em56 (zlet_e e73 (zsum_r e81 (zif_t c_158 rfl)))))))
              rw [← hQ]
              exact z_iret (z := y81) CX hW (by rw [hE]; exact ⟨rfl, hP81, hC81, hF81, hV81, trivial⟩) rfl dX11_most_168
          have hL81 : ∀ (fu : Nat) (y81 : Int) (x81 : Int) (q81 : Int) (M81 : zCt) (g81 : Nat → va_E), (zc_most_W81 a b what z73 ((995 : Nat)) 0 (-1) 0 M56 = zc_most_W81 a b what z73 fu y81 x81 q81 M81 ∧ zCP cI cP cS cZ cM o M81 g81 ∧ zCI M81 ∧ zFr f g81 o (o + 681) ∧ zVE M81 M ∧ 0 ≤ y81 ∧ y81 ≤ 32768 ∧ 0 ≤ q81 ∧ q81 ≤ 993) → (994 - q81).toNat < fu → ∀ (H : Heap) (locs : List Loc) (ls : Array Slot), zW D (zT cI cJ cZ cP cS cM) L (zQ L sz) st g81 st.heap H locs → lv_has ls 11 [(6, .int (zI y81)), (7, .int (zI x81)), (9, .int (zI q81)), (8, .int (zI z73)), (5, .ref (o + 289 + 3 + 2 * b.toNat)), (4, .ref (o + 289 + 3 + 2 * a.toNat)), (0, .ref o), (1, .int (zI a)), (2, .int (zI b)), (3, .int (zI what))] → W pg l en ({ frames := 6, cells := 0, slots := 0, locals := 146 } : Room) st mi ag bl mt cd H locs 0 0 Q (F0 mi 81 ls []) := by
            intro fu
            induction fu with
            | zero => intro y81 x81 q81 M81 g81 _ hfu; exact absurd hfu (Nat.not_lt_zero _)
            | succ fu ih81 =>
              intro y81 x81 q81 M81 g81 hinv hfu81 H locs ls hW hl
              obtain ⟨hz81, hP81, hC81, hF81, hV81, hay81, hby81, haq81, hbq81⟩ := hinv
              have hp81 := hC81.p
              have hn81 := hC81.cn
              have tv81_3 : M81.1 0 3 = M.1 0 3 := hV81.2 0 3 (by omega) (by omega)
              have tv81_4 : M81.1 0 4 = M.1 0 4 := hV81.2 0 4 (by omega) (by omega)
              refine lv_iload hX0 hB0 dX11_most_81 (lv_at hl 2 rfl) ?_
              refine lv_iload hX0 hB0 dX11_most_83 (lv_at hl 3 rfl) ?_
              refine z_icmp_ge (tgt := 157) CX dX11_most_85 (by decide) (by constructor <;> omega) (by constructor <;> omega) (fun c_85 => ?_) (fun c_85 => ?_)
              ·
                exact hXt81 y81 x81 q81 M81 g81 ⟨hz81.trans (by rw [zc_most_W81]; exact zif_t c_85 rfl), hP81, hC81, hF81, hV81, by omega, by omega, by omega, by omega⟩ H locs ls hW (lv_sub hl [0, 1, 2, 3, 4, 5, 6, 7, 8, 9] rfl)
              ·
                have d_85 : ¬ z73 ≤ q81 := by omega
                refine lv_aload_n hX0 hB0 dX11_most_88 rfl (lv_at hl 6 rfl) ?_
                refine lv_aload hX0 hB0 dX11_most_89 (lv_at hl 5 rfl) ?_
                refine lv_aload hX0 hB0 dX11_most_91 (lv_at hl 4 rfl) ?_
                refine lv_iload hX0 hB0 dX11_most_93 (lv_at hl 2 rfl) ?_
                refine z_calli hW (va_runV (C := RX11) (As := [.ref (o + 289 + 3 + 2 * a.toNat), .ref (o + 289 + 3 + 2 * b.toNat), .int (zI q81)]) (rest := []) CX.fix (zd_areBothOn l o M81 a b q81 hP81 hC81 (by constructor <;> omega) (by constructor <;> omega) (by constructor <;> omega)) (cwV 3 CX.fix.2.2.2.2 gX11_most_X11_areBothOn rfl rfl rfl (by decide +kernel) ⟨Nat.le_of_ble_eq_true rfl, Nat.le_of_ble_eq_true rfl⟩) (z_preV CX hW (r := (RX11, TX11, 13)) (show g81 o = _ from hP81.c0) rfl) rfl rfl hl.1 rfl (lv_room (Nat.le_of_ble_eq_true rfl)) dX11_most_95 ⟨Nat.zero_le _, Nat.zero_le _⟩) (fun z95 g95 H locs hok hW => ?_)
                obtain ⟨hz95, hp, hc, hfr, hv, hq95⟩ := hok
                obtain ⟨M95, hS95⟩ : ∃ Mq, Mq = (zc_areBothOn M81 a b q81).2 := ⟨_, rfl⟩
                rw [← hS95] at hp hc hv
                try rw [← hS95] at hq95
                have e95 : zc_areBothOn M81 a b q81 = (z95, M95) := Prod.ext hz95.symm hS95.symm
                clear hz95 hS95
                have hP95 := hp
                have hC95 := hc
                have hF95 : zFr f g95 o (o + 681) := zFr.trans hF81 hfr
                clear hp hc hfr
                have hV95 : zVE M95 M := zVE.tr hv hV81
                have tv95_3 : M95.1 0 3 = M.1 0 3 := hV95.2 0 3 (by omega) (by omega)
                have tv95_4 : M95.1 0 4 = M.1 0 4 := hV95.2 0 4 (by omega) (by omega)
                clear hv
                refine z_if_eq (tgt := 114) CX dX11_most_98 (by decide) (by constructor <;> omega) (fun c_98 => ?_) (fun c_98 => ?_)
                ·
                  refine lv_iconst (v := zI 0) hX0 hB0 dX11_most_114 rfl ?_
                  refine lv_istore (lv' := [(10, .int (zI 0)), (6, .int (zI y81)), (7, .int (zI x81)), (9, .int (zI q81)), (8, .int (zI z73)), (5, .ref (o + 289 + 3 + 2 * b.toNat)), (4, .ref (o + 289 + 3 + 2 * a.toNat)), (0, .ref o), (1, .int (zI a)), (2, .int (zI b)), (3, .int (zI what))]) hX0 hB0 dX11_most_115 hl (by decide) rfl (fun ls hl => ?_)
                  refine lv_iload hX0 hB0 dX11_most_117 (lv_at hl 0 rfl) ?_
                  refine lv_bipush (v := zI (-2)) hX0 hB0 dX11_most_119 (by decide) ?_
                  refine z_icmp_ne (tgt := 136) CX dX11_most_121 (by decide) (by constructor <;> omega) (by constructor <;> omega) (fun c_121 => ?_) (fun c_121 => ?_)
                  ·
                    refine lv_iload hX0 hB0 dX11_most_136 (lv_at hl 0 rfl) ?_
                    refine lv_iload hX0 hB0 dX11_most_138 (lv_at hl 1 rfl) ?_
                    refine z_icmp_le (tgt := 151) CX dX11_most_140 (by decide) (by constructor <;> omega) (by constructor <;> omega) (fun c_140 => ?_) (fun c_140 => ?_)
                    ·
                      refine lv_iinc (v := zI (q81 + 1)) (lv' := [(9, .int (zI (q81 + 1))), (10, .int (zI 0)), (6, .int (zI y81)), (7, .int (zI x81)), (8, .int (zI z73)), (5, .ref (o + 289 + 3 + 2 * b.toNat)), (4, .ref (o + 289 + 3 + 2 * a.toNat)), (0, .ref o), (1, .int (zI a)), (2, .int (zI b)), (3, .int (zI what))]) hX0 hB0 dX11_most_151 hl (k := 3) rfl (zI_add _ _) (by decide) rfl (fun ls hl => ?_)
                      refine lv_goto (tgt := 81) hX0 hB0 dX11_most_154 (by decide) ?_
                      exact ih81 y81 x81 (q81 + 1) M95 g95 ⟨hz81.trans (by rw [zc_most_W81]; exact zif_f d_85 (zlet_e e95 (zif_t c_98 (zif_t c_140 rfl)))), hP95, hC95, hF95, hV95, by omega, by omega, by omega, by omega⟩ (by omega) H locs ls hW (lv_sub hl [2, 3, 0, 4, 5, 6, 7, 8, 9, 10] rfl)
                    ·
                      have d_140 : ¬ 0 ≤ y81 := by omega
                      refine lv_iload hX0 hB0 dX11_most_143 (lv_at hl 0 rfl) ?_
                      refine lv_istore (lv' := [(6, .int (zI 0)), (10, .int (zI 0)), (7, .int (zI x81)), (9, .int (zI q81)), (8, .int (zI z73)), (5, .ref (o + 289 + 3 + 2 * b.toNat)), (4, .ref (o + 289 + 3 + 2 * a.toNat)), (0, .ref o), (1, .int (zI a)), (2, .int (zI b)), (3, .int (zI what))]) hX0 hB0 dX11_most_145 hl (by decide) rfl (fun ls hl => ?_)
                      refine lv_iload hX0 hB0 dX11_most_147 (lv_at hl 3 rfl) ?_
                      refine lv_istore (lv' := [(7, .int (zI q81)), (6, .int (zI 0)), (10, .int (zI 0)), (9, .int (zI q81)), (8, .int (zI z73)), (5, .ref (o + 289 + 3 + 2 * b.toNat)), (4, .ref (o + 289 + 3 + 2 * a.toNat)), (0, .ref o), (1, .int (zI a)), (2, .int (zI b)), (3, .int (zI what))]) hX0 hB0 dX11_most_149 hl (by decide) rfl (fun ls hl => ?_)
                      refine lv_iinc (v := zI (q81 + 1)) (lv' := [(9, .int (zI (q81 + 1))), (7, .int (zI q81)), (6, .int (zI 0)), (10, .int (zI 0)), (8, .int (zI z73)), (5, .ref (o + 289 + 3 + 2 * b.toNat)), (4, .ref (o + 289 + 3 + 2 * a.toNat)), (0, .ref o), (1, .int (zI a)), (2, .int (zI b)), (3, .int (zI what))]) hX0 hB0 dX11_most_151 hl (k := 3) rfl (zI_add _ _) (by decide) rfl (fun ls hl => ?_)
                      refine lv_goto (tgt := 81) hX0 hB0 dX11_most_154 (by decide) ?_
                      exact ih81 0 q81 (q81 + 1) M95 g95 ⟨hz81.trans (by rw [zc_most_W81]; exact zif_f d_85 (zlet_e e95 (zif_t c_98 (zif_f d_140 rfl)))), hP95, hC95, hF95, hV95, by omega, by omega, by omega, by omega⟩ (by omega) H locs ls hW (lv_sub hl [2, 1, 0, 4, 5, 6, 7, 8, 9, 10] rfl)
                  ·
                    omega
                ·
                  refine lv_aload_n hX0 hB0 dX11_most_101 rfl (lv_at hl 6 rfl) ?_
                  refine lv_aload hX0 hB0 dX11_most_102 (lv_at hl 5 rfl) ?_
                  refine lv_aload hX0 hB0 dX11_most_104 (lv_at hl 4 rfl) ?_
                  refine lv_iload hX0 hB0 dX11_most_106 (lv_at hl 2 rfl) ?_
                  refine z_calli hW (va_runV (C := RX11) (As := [.ref (o + 289 + 3 + 2 * a.toNat), .ref (o + 289 + 3 + 2 * b.toNat), .int (zI q81)]) (rest := []) CX.fix (zd_timesAt l o M95 a b q81 hP95 hC95 (by constructor <;> omega) (by constructor <;> omega) (by constructor <;> omega)) (cwV 3 CX.fix.2.2.2.2 gX11_most_X11_timesAt rfl rfl rfl (by decide +kernel) ⟨Nat.le_of_ble_eq_true rfl, Nat.le_of_ble_eq_true rfl⟩) (z_preV CX hW (r := (RX11, TX11, 13)) (show g95 o = _ from hP95.c0) rfl) rfl rfl hl.1 rfl (lv_room (Nat.le_of_ble_eq_true rfl)) dX11_most_108 ⟨Nat.zero_le _, Nat.zero_le _⟩) (fun z108 g108 H locs hok hW => ?_)
                  obtain ⟨hz108, hp, hc, hfr, hv, hq108⟩ := hok
                  obtain ⟨M108, hS108⟩ : ∃ Mq, Mq = (zc_timesAt M95 a b q81).2 := ⟨_, rfl⟩
                  rw [← hS108] at hp hc hv
                  try rw [← hS108] at hq108
                  have e108 : zc_timesAt M95 a b q81 = (z108, M108) := Prod.ext hz108.symm hS108.symm
                  clear hz108 hS108
                  have hP108 := hp
                  have hC108 := hc
                  have hF108 : zFr f g108 o (o + 681) := zFr.trans hF95 hfr
                  clear hp hc hfr
                  have hV108 : zVE M108 M := zVE.tr hv hV95
                  have tv108_3 : M108.1 0 3 = M.1 0 3 := hV108.2 0 3 (by omega) (by omega)
                  have tv108_4 : M108.1 0 4 = M.1 0 4 := hV108.2 0 4 (by omega) (by omega)
                  clear hv
                  refine lv_goto (tgt := 115) hX0 hB0 dX11_most_111 (by decide) ?_
                  refine lv_istore (lv' := [(10, .int (zI z108)), (6, .int (zI y81)), (7, .int (zI x81)), (9, .int (zI q81)), (8, .int (zI z73)), (5, .ref (o + 289 + 3 + 2 * b.toNat)), (4, .ref (o + 289 + 3 + 2 * a.toNat)), (0, .ref o), (1, .int (zI a)), (2, .int (zI b)), (3, .int (zI what))]) hX0 hB0 dX11_most_115 hl (by decide) rfl (fun ls hl => ?_)
                  refine lv_iload hX0 hB0 dX11_most_117 (lv_at hl 0 rfl) ?_
                  refine lv_bipush (v := zI (-2)) hX0 hB0 dX11_most_119 (by decide) ?_
                  refine z_icmp_ne (tgt := 136) CX dX11_most_121 (by decide) (by constructor <;> omega) (by constructor <;> omega) (fun c_121 => ?_) (fun c_121 => ?_)
                  ·
                    refine lv_iload hX0 hB0 dX11_most_136 (lv_at hl 0 rfl) ?_
                    refine lv_iload hX0 hB0 dX11_most_138 (lv_at hl 1 rfl) ?_
                    refine z_icmp_le (tgt := 151) CX dX11_most_140 (by decide) (by constructor <;> omega) (by constructor <;> omega) (fun c_140 => ?_) (fun c_140 => ?_)
                    ·
                      refine lv_iinc (v := zI (q81 + 1)) (lv' := [(9, .int (zI (q81 + 1))), (10, .int (zI z108)), (6, .int (zI y81)), (7, .int (zI x81)), (8, .int (zI z73)), (5, .ref (o + 289 + 3 + 2 * b.toNat)), (4, .ref (o + 289 + 3 + 2 * a.toNat)), (0, .ref o), (1, .int (zI a)), (2, .int (zI b)), (3, .int (zI what))]) hX0 hB0 dX11_most_151 hl (k := 3) rfl (zI_add _ _) (by decide) rfl (fun ls hl => ?_)
                      refine lv_goto (tgt := 81) hX0 hB0 dX11_most_154 (by decide) ?_
                      exact ih81 y81 x81 (q81 + 1) M108 g108 ⟨hz81.trans (by rw [zc_most_W81]; exact zif_f d_85 (zlet_e e95 (zif_f c_98 (zlet_e e108 (zif_f c_121 (zif_t c_140 rfl)))))), hP108, hC108, hF108, hV108, by omega, by omega, by omega, by omega⟩ (by omega) H locs ls hW (lv_sub hl [2, 3, 0, 4, 5, 6, 7, 8, 9, 10] rfl)
                    ·
                      have d_140 : ¬ z108 ≤ y81 := by omega
                      refine lv_iload hX0 hB0 dX11_most_143 (lv_at hl 0 rfl) ?_
                      refine lv_istore (lv' := [(6, .int (zI z108)), (10, .int (zI z108)), (7, .int (zI x81)), (9, .int (zI q81)), (8, .int (zI z73)), (5, .ref (o + 289 + 3 + 2 * b.toNat)), (4, .ref (o + 289 + 3 + 2 * a.toNat)), (0, .ref o), (1, .int (zI a)), (2, .int (zI b)), (3, .int (zI what))]) hX0 hB0 dX11_most_145 hl (by decide) rfl (fun ls hl => ?_)
                      refine lv_iload hX0 hB0 dX11_most_147 (lv_at hl 3 rfl) ?_
                      refine lv_istore (lv' := [(7, .int (zI q81)), (6, .int (zI z108)), (10, .int (zI z108)), (9, .int (zI q81)), (8, .int (zI z73)), (5, .ref (o + 289 + 3 + 2 * b.toNat)), (4, .ref (o + 289 + 3 + 2 * a.toNat)), (0, .ref o), (1, .int (zI a)), (2, .int (zI b)), (3, .int (zI what))]) hX0 hB0 dX11_most_149 hl (by decide) rfl (fun ls hl => ?_)
                      refine lv_iinc (v := zI (q81 + 1)) (lv' := [(9, .int (zI (q81 + 1))), (7, .int (zI q81)), (6, .int (zI z108)), (10, .int (zI z108)), (8, .int (zI z73)), (5, .ref (o + 289 + 3 + 2 * b.toNat)), (4, .ref (o + 289 + 3 + 2 * a.toNat)), (0, .ref o), (1, .int (zI a)), (2, .int (zI b)), (3, .int (zI what))]) hX0 hB0 dX11_most_151 hl (k := 3) rfl (zI_add _ _) (by decide) rfl (fun ls hl => ?_)
                      refine lv_goto (tgt := 81) hX0 hB0 dX11_most_154 (by decide) ?_
                      exact ih81 z108 q81 (q81 + 1) M108 g108 ⟨hz81.trans (by rw [zc_most_W81]; exact zif_f d_85 (zlet_e e95 (zif_f c_98 (zlet_e e108 (zif_f c_121 (zif_f d_140 rfl)))))), hP108, hC108, hF108, hV108, by omega, by omega, by omega, by omega⟩ (by omega) H locs ls hW (lv_sub hl [2, 1, 0, 4, 5, 6, 7, 8, 9, 10] rfl)
                  ·
                    refine lv_iload_n hX0 hB0 dX11_most_124 rfl (lv_at hl 10 rfl) ?_
                    refine z_if_ne (tgt := 133) CX dX11_most_125 (by decide) (by constructor <;> omega) (fun c_125 => ?_) (fun c_125 => ?_)
                    ·
                      refine lv_iload hX0 hB0 dX11_most_133 (lv_at hl 3 rfl) ?_
                      have hE : zc_most M a b what = (q81, M108) := by unfold zc_most; exact zif_t cf_a_8 (zif_t cf_b_18 (zif_f d_31 (zif_t c_36 (zlet_e em56 (zlet_e e73 (zsum_l (hz81.trans (by rw [zc_most_W81]; exact zif_f d_85 (zlet_e e95 (zif_f c_98 (zlet_e e108 (zif_t c_121 (zif_f c_125 rfl))))))) rfl))))))
                      rw [← hQ]
                      exact z_iret (z := q81) CX hW (by rw [hE]; exact ⟨rfl, hP108, hC108, hF108, hV108, trivial⟩) rfl dX11_most_135
                    ·
                      refine lv_bipush (v := zI (-2)) hX0 hB0 dX11_most_128 (by decide) ?_
                      refine lv_goto (tgt := 135) hX0 hB0 dX11_most_130 (by decide) ?_
                      have hE : zc_most M a b what = (-2, M108) := by unfold zc_most; exact zif_t cf_a_8 (zif_t cf_b_18 (zif_f d_31 (zif_t c_36 (zlet_e em56 (zlet_e e73 (zsum_l (hz81.trans (by rw [zc_most_W81]; exact zif_f d_85 (zlet_e e95 (zif_f c_98 (zlet_e e108 (zif_t c_121 (zif_t c_125 rfl))))))) rfl))))))
                      rw [← hQ]
                      exact z_iret (z := -2) CX hW (by rw [hE]; exact ⟨rfl, hP108, hC108, hF108, hV108, trivial⟩) rfl dX11_most_135
          exact hL81 _ 0 (-1) 0 M56 g56 ⟨rfl, hP56, hC56, hF56, hV56, by omega, by omega, by omega, by omega⟩ (by omega) H locs ls hW (lv_sub hl [3, 2, 0, 1, 4, 5, 6, 7, 8, 9] rfl)
        ·
          have d_36 : ¬ what ≤ 1 := by omega
          refine lv_iconst (v := zI (-1)) hX0 hB0 dX11_most_39 rfl ?_
          have hE : zc_most M a b what = (-1, M) := by unfold zc_most; exact zif_t cf_a_8 (zif_t cf_b_18 (zif_f d_31 (zif_f d_36 rfl)))
          rw [← hQ]
          exact z_iret (z := -1) CX hW (by rw [hE]; exact ⟨rfl, hP, hC, zFr.refl, zVE.rf, trivial⟩) rfl dX11_most_40
    ·
      have hzf := zfind_n (a := o + 289) cf_b_18
      rw [hzf]
      clear hzf
      refine lv_astoreN (lv' := [(5, .null), (4, .ref (o + 289 + 3 + 2 * a.toNat)), (0, .ref o), (1, .int (zI a)), (2, .int (zI b)), (3, .int (zI what))]) hX0 hB0 dX11_most_18 hl (by decide) rfl (fun ls hl => ?_)
      refine lv_aload hX0 hB0 dX11_most_20 (lv_at hl 1 rfl) ?_
      refine lv_ifnull hX0 hB0 dX11_most_22 ?_
      refine lv_aloadN hX0 hB0 dX11_most_25 (lv_at hl 0 rfl) ?_
      refine lv_ifnullN (tgt := 39) hX0 hB0 dX11_most_27 (by decide) ?_
      refine lv_iconst (v := zI (-1)) hX0 hB0 dX11_most_39 rfl ?_
      have hE : zc_most M a b what = (-1, M) := by unfold zc_most; exact zif_t cf_a_8 (zif_f cf_b_18 rfl)
      rw [← hQ]
      exact z_iret (z := -1) CX hW (by rw [hE]; exact ⟨rfl, hP, hC, zFr.refl, zVE.rf, trivial⟩) rfl dX11_most_40
  ·
    have hzf := zfind_n (a := o + 289) cf_a_8
    rw [hzf]
    clear hzf
    refine lv_astoreN (lv' := [(4, .null), (0, .ref o), (1, .int (zI a)), (2, .int (zI b)), (3, .int (zI what))]) hX0 hB0 dX11_most_8 hl (by decide) rfl (fun ls hl => ?_)
    refine lv_aload_n hX0 hB0 dX11_most_10 rfl (lv_at hl 1 rfl) ?_
    refine z_get (Cn := RX11) (T := TX11) (N := 13) CX hW (v := .ref (o + 289)) (show f o = _ from hP.c0) rfl (fun w h => List.mem_cons_of_mem _ (List.mem_append_left _ (List.mem_append_left _ (List.mem_append_left _ (List.mem_append_left _ (List.mem_append_left _ (List.mem_append_left _ (List.mem_append_left _ (List.mem_append_right _ h))))))))) 1 (by decide) (List.mem_of_getElem? (i := 1) rfl) rfl rfl dX11_most_11 ?_
    refine lv_iload_n hX0 hB0 dX11_most_14 rfl (lv_at hl 3 rfl) ?_
    refine z_callr hW (va_runV (C := RX7) (As := [.int (zI b)]) (rest := []) CX.fix (c_find l (o + 289) (M.1 0 3) (M.1 0 4) M.2.1 (M.1 3) b hP.c3 (by omega) (by constructor <;> omega)) (cwV 1 CX.fix.2.2.2.2 gX11_most_X7_find rfl rfl rfl (by decide +kernel) ⟨Nat.le_of_ble_eq_true rfl, Nat.le_of_ble_eq_true rfl⟩) (z_preV CX hW (r := (RX7, TX7, 4)) hP.c3.1 rfl) rfl rfl hl.1 rfl (lv_room (Nat.le_of_ble_eq_true rfl)) dX11_most_15 ⟨Nat.zero_le _, Nat.zero_le _⟩) (fun z15 g15 H locs hok hW => ?_)
    obtain ⟨hz, hg⟩ := hok
    rw [hz]
    rw [hg] at hW
    clear hg
    by_cases cf_b_18 : 0 ≤ b ∧ b < M.1 0 4 ∧ b < 6
    ·
      have hzf := zfind_p (a := o + 289) cf_b_18
      rw [hzf]
      clear hzf
      refine lv_astore (lv' := [(5, .ref (o + 289 + 3 + 2 * b.toNat)), (4, .null), (0, .ref o), (1, .int (zI a)), (2, .int (zI b)), (3, .int (zI what))]) hX0 hB0 dX11_most_18 hl (by decide) rfl (fun ls hl => ?_)
      refine lv_aloadN hX0 hB0 dX11_most_20 (lv_at hl 1 rfl) ?_
      refine lv_ifnullN (tgt := 39) hX0 hB0 dX11_most_22 (by decide) ?_
      refine lv_iconst (v := zI (-1)) hX0 hB0 dX11_most_39 rfl ?_
      have hE : zc_most M a b what = (-1, M) := by unfold zc_most; exact zif_f cf_a_8 (zif_t cf_b_18 rfl)
      rw [← hQ]
      exact z_iret (z := -1) CX hW (by rw [hE]; exact ⟨rfl, hP, hC, zFr.refl, zVE.rf, trivial⟩) rfl dX11_most_40
    ·
      have hzf := zfind_n (a := o + 289) cf_b_18
      rw [hzf]
      clear hzf
      refine lv_astoreN (lv' := [(5, .null), (4, .null), (0, .ref o), (1, .int (zI a)), (2, .int (zI b)), (3, .int (zI what))]) hX0 hB0 dX11_most_18 hl (by decide) rfl (fun ls hl => ?_)
      refine lv_aloadN hX0 hB0 dX11_most_20 (lv_at hl 1 rfl) ?_
      refine lv_ifnullN (tgt := 39) hX0 hB0 dX11_most_22 (by decide) ?_
      refine lv_iconst (v := zI (-1)) hX0 hB0 dX11_most_39 rfl ?_
      have hE : zc_most M a b what = (-1, M) := by unfold zc_most; exact zif_f cf_a_8 (zif_f cf_b_18 rfl)
      rw [← hQ]
      exact z_iret (z := -1) CX hW (by rw [hE]; exact ⟨rfl, hP, hC, zFr.refl, zVE.rf, trivial⟩) rfl dX11_most_40
end ZCj
