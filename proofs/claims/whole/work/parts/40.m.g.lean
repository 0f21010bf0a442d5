section ZMk
def zm_isCurve (S : zS2) (cv : Int) : Int := zlet (zm_isIn cv 0 ((S 0 13) - 1)) (fun z8 => z8)
set_option maxRecDepth 100000 in
set_option maxHeartbeats 4000000 in
theorem zk_isCurve (l : Launch) {D : va_G} {cI cJ cZ cP cS cM : ClassId} {L : List Nat} {sz : Nat} {f : Nat → va_E} (o : Nat) (S : zS2) (cv : Int) (hI : mI S) (hcv : -2147483648 ≤ cv ∧ cv ≤ 2147483647) : zMi l yX12_isCurve wsX12_isCurve 1 22 D (zT cI cJ cZ cP cS cM) L sz (zMO cI cJ o S f) [.ref o, .int (zI cv)] (fun zv gv => zv = zm_isCurve S cv ∧ gv = zMO cI cJ o S f ∧ 0 ≤ zv ∧ zv ≤ 1 ∧ (zv ≠ 0 → 0 ≤ cv ∧ cv < S 0 13 ∧ cv ≤ 5)) := by
  refine zWalk.met (nL := 2) (ret := (some .boolean)) (cc := cX12_isCurve) (by decide) rfl (Nat.le_of_ble_eq_true rfl) ?_
  intro pg en st mi ag bl mt cd ls CX hW hl
  have CX : zC pg st mi ag mt cd cX12_isCurve 2 (some .boolean) RX12 wsX12_isCurve := CX
  generalize hQ : MQ bl _ ag st 0 0 _ = Q
  have hX0 := CX.1
  have hB0 := CX.2.1
  have hl : lv_has ls 2 [(0, .ref o), (1, .int (zI cv))] := hl
  obtain ⟨H, eH⟩ : ∃ H, H = st.heap := ⟨_, rfl⟩
  obtain ⟨locs, eL⟩ : ∃ L : List Loc, L = [] := ⟨_, rfl⟩
  have hW : zW D (zT cI cJ cZ cP cS cM) L (zQ L sz) st (zMO cI cJ o S f) st.heap H locs := by rw [eH, eL]; exact hW
  suffices hgo : W pg l en ({ frames := 1, cells := 0, slots := 0, locals := 22 } : Room) st mi ag bl mt cd H locs 0 0 Q (F0 mi 0 ls []) by rw [eH, eL] at hgo; exact hgo
  clear eH eL
  have hpb := hI.s10
  refine lv_iload_n hX0 hB0 dX12_isCurve_0 rfl (lv_at hl 1 rfl) ?_
  refine lv_iconst (v := zI 0) hX0 hB0 dX12_isCurve_1 rfl ?_
  refine lv_aload_n hX0 hB0 dX12_isCurve_2 rfl (lv_at hl 0 rfl) ?_
  refine z_get (Cn := RX12) (T := TX12) (N := 37) CX hW (v := .int (zI (S 0 13))) zMO_0 rfl (fun w h => List.mem_cons_of_mem _ (List.mem_append_right _ h)) 13 (by decide) (List.mem_of_getElem? (i := 1) rfl) rfl rfl dX12_isCurve_3 ?_
  have hr3 := hI.s13
  refine lv_iconst (v := zI 1) hX0 hB0 dX12_isCurve_6 rfl ?_
  refine z_isub (z := (S 0 13) - 1) CX dX12_isCurve_7 rfl ?_
  refine z_calli hW (va_runS (As := [.int (zI cv), .int (zI 0), .int (zI ((S 0 13) - 1))]) (rest := []) CX.fix (zk_isIn l (f := zMO cI cJ o S f) cv 0 ((S 0 13) - 1) (by constructor <;> omega) (by constructor <;> omega) (by constructor <;> omega)) (va_cwS 3 CX.fix.2.2.2.2 gX12_isCurve_X12_isIn rfl rfl rfl (by decide +kernel) ⟨Nat.le_of_ble_eq_true rfl, Nat.le_of_ble_eq_true rfl⟩) (z_preS CX hW) rfl rfl hl.1 rfl (lv_room (Nat.le_of_ble_eq_true rfl)) dX12_isCurve_8 ⟨Nat.zero_le _, Nat.zero_le _⟩) (fun z8 gn H locs hok hW => ?_)
  obtain ⟨hz8, hg, hq8⟩ := hok
  rw [hg] at hW
  clear hg
  have e8 : zm_isIn cv 0 ((S 0 13) - 1) = z8 := hz8.symm
  clear hz8
  have hE : zm_isCurve S cv = z8 := by unfold zm_isCurve; exact zlet_e e8 rfl
  rw [← hQ]
  exact z_iret (z := z8) CX hW (by rw [hE]; exact ⟨rfl, rfl, (show 0 ≤ z8 ∧ z8 ≤ 1 ∧ (z8 ≠ 0 → 0 ≤ cv ∧ cv < S 0 13 ∧ cv ≤ 5) from by omega)⟩) (zI_bool (by omega)) dX12_isCurve_11
def zm_points (S : zS2)  : Int := (((S 0 10) * (S 0 10)) + (S 0 10)) + 1
set_option maxRecDepth 100000 in
set_option maxHeartbeats 4000000 in
theorem zk_points (l : Launch) {D : va_G} {cI cJ cZ cP cS cM : ClassId} {L : List Nat} {sz : Nat} {f : Nat → va_E} (o : Nat) (S : zS2)  (hI : mI S)  : zMi l yX12_points wsX12_points 0 0 D (zT cI cJ cZ cP cS cM) L sz (zMO cI cJ o S f) [.ref o] (fun zv gv => zv = zm_points S ∧ gv = zMO cI cJ o S f ∧ 7 ≤ zv ∧ zv ≤ 993 ∧ zv = S 0 10 * S 0 10 + S 0 10 + 1) := by
  refine zWalk.met (nL := 1) (ret := (some .int)) (cc := cX12_points) (by decide) rfl (Nat.le_of_ble_eq_true rfl) ?_
  intro pg en st mi ag bl mt cd ls CX hW hl
  have CX : zC pg st mi ag mt cd cX12_points 1 (some .int) RX12 wsX12_points := CX
  generalize hQ : MQ bl _ ag st 0 0 _ = Q
  have hX0 := CX.1
  have hB0 := CX.2.1
  have hl : lv_has ls 1 [(0, .ref o)] := hl
  obtain ⟨H, eH⟩ : ∃ H, H = st.heap := ⟨_, rfl⟩
  obtain ⟨locs, eL⟩ : ∃ L : List Loc, L = [] := ⟨_, rfl⟩
  have hW : zW D (zT cI cJ cZ cP cS cM) L (zQ L sz) st (zMO cI cJ o S f) st.heap H locs := by rw [eH, eL]; exact hW
  suffices hgo : W pg l en ({ frames := 0, cells := 0, slots := 0, locals := 0 } : Room) st mi ag bl mt cd H locs 0 0 Q (F0 mi 0 ls []) by rw [eH, eL] at hgo; exact hgo
  clear eH eL
  have hpb := hI.s10
  refine lv_aload_n hX0 hB0 dX12_points_0 rfl (lv_at hl 0 rfl) ?_
  refine z_get (Cn := RX12) (T := TX12) (N := 37) CX hW (v := .int (zI (S 0 10))) zMO_0 rfl (fun w h => List.mem_cons_of_mem _ (List.mem_append_right _ h)) 10 (by decide) (List.mem_of_getElem? (i := 1) rfl) rfl rfl dX12_points_1 ?_
  have hr1 := hI.s10
  refine lv_aload_n hX0 hB0 dX12_points_4 rfl (lv_at hl 0 rfl) ?_
  refine z_get (Cn := RX12) (T := TX12) (N := 37) CX hW (v := .int (zI (S 0 10))) zMO_0 rfl (fun w h => List.mem_cons_of_mem _ (List.mem_append_right _ h)) 10 (by decide) (List.mem_of_getElem? (i := 1) rfl) rfl rfl dX12_points_5 ?_
  have hr5 := hI.s10
  refine z_imul (z := (S 0 10) * (S 0 10)) CX dX12_points_8 rfl ?_
  have hm8 := zbox_mul0 (a := S 0 10) (b := S 0 10) (A := 31) (B := 31) (by constructor <;> omega) (by constructor <;> omega) (C := 961) (by decide)
  refine lv_aload_n hX0 hB0 dX12_points_9 rfl (lv_at hl 0 rfl) ?_
  refine z_get (Cn := RX12) (T := TX12) (N := 37) CX hW (v := .int (zI (S 0 10))) zMO_0 rfl (fun w h => List.mem_cons_of_mem _ (List.mem_append_right _ h)) 10 (by decide) (List.mem_of_getElem? (i := 1) rfl) rfl rfl dX12_points_10 ?_
  have hr10 := hI.s10
  refine z_iadd (z := ((S 0 10) * (S 0 10)) + (S 0 10)) CX dX12_points_13 rfl ?_
  refine lv_iconst (v := zI 1) hX0 hB0 dX12_points_14 rfl ?_
  refine z_iadd (z := (((S 0 10) * (S 0 10)) + (S 0 10)) + 1) CX dX12_points_15 rfl ?_
  have hE : zm_points S = (((S 0 10) * (S 0 10)) + (S 0 10)) + 1 := by unfold zm_points; exact rfl
  rw [← hQ]
  exact z_iret (z := (((S 0 10) * (S 0 10)) + (S 0 10)) + 1) CX hW (by rw [hE]; exact ⟨rfl, rfl, (show 7 ≤ ((((S 0 10) * (S 0 10)) + (S 0 10)) + 1) ∧ ((((S 0 10) * (S 0 10)) + (S 0 10)) + 1) ≤ 993 ∧ ((((S 0 10) * (S 0 10)) + (S 0 10)) + 1) = S 0 10 * S 0 10 + S 0 10 + 1 from by (have hmy := zmany_rng hpb; omega))⟩) rfl dX12_points_16
def zm_isPoint (S : zS2) (pt : Int) : Int := zlet (zm_points S) (fun z3 => zlet (zm_isIn pt 0 (z3 - 1)) (fun z8 => z8))
set_option maxRecDepth 100000 in
set_option maxHeartbeats 4000000 in
theorem zk_isPoint (l : Launch) {D : va_G} {cI cJ cZ cP cS cM : ClassId} {L : List Nat} {sz : Nat} {f : Nat → va_E} (o : Nat) (S : zS2) (pt : Int) (hI : mI S) (hpt : -2147483648 ≤ pt ∧ pt ≤ 2147483647) : zMi l yX12_isPoint wsX12_isPoint 1 22 D (zT cI cJ cZ cP cS cM) L sz (zMO cI cJ o S f) [.ref o, .int (zI pt)] (fun zv gv => zv = zm_isPoint S pt ∧ gv = zMO cI cJ o S f ∧ 0 ≤ zv ∧ zv ≤ 1 ∧ (zv ≠ 0 → 0 ≤ pt ∧ pt ≤ 992 ∧ pt < S 0 10 * S 0 10 + S 0 10 + 1)) := by
  refine zWalk.met (nL := 2) (ret := (some .boolean)) (cc := cX12_isPoint) (by decide) rfl (Nat.le_of_ble_eq_true rfl) ?_
  intro pg en st mi ag bl mt cd ls CX hW hl
  have CX : zC pg st mi ag mt cd cX12_isPoint 2 (some .boolean) RX12 wsX12_isPoint := CX
  generalize hQ : MQ bl _ ag st 0 0 _ = Q
  have hX0 := CX.1
  have hB0 := CX.2.1
  have hl : lv_has ls 2 [(0, .ref o), (1, .int (zI pt))] := hl
  obtain ⟨H, eH⟩ : ∃ H, H = st.heap := ⟨_, rfl⟩
  obtain ⟨locs, eL⟩ : ∃ L : List Loc, L = [] := ⟨_, rfl⟩
  have hW : zW D (zT cI cJ cZ cP cS cM) L (zQ L sz) st (zMO cI cJ o S f) st.heap H locs := by rw [eH, eL]; exact hW
  suffices hgo : W pg l en ({ frames := 1, cells := 0, slots := 0, locals := 22 } : Room) st mi ag bl mt cd H locs 0 0 Q (F0 mi 0 ls []) by rw [eH, eL] at hgo; exact hgo
  clear eH eL
  have hpb := hI.s10
  refine lv_iload_n hX0 hB0 dX12_isPoint_0 rfl (lv_at hl 1 rfl) ?_
  refine lv_iconst (v := zI 0) hX0 hB0 dX12_isPoint_1 rfl ?_
  refine lv_aload_n hX0 hB0 dX12_isPoint_2 rfl (lv_at hl 0 rfl) ?_
  refine z_calli hW (va_runV (C := RX12) (As := []) (rest := [.int (zI 0), .int (zI pt)]) CX.fix (zk_points l o S  hI ) (cwV 0 CX.fix.2.2.2.2 gX12_isPoint_X12_points rfl rfl rfl (by decide +kernel) ⟨Nat.le_of_ble_eq_true rfl, Nat.le_of_ble_eq_true rfl⟩) (z_preV CX hW (r := (RX12, TX12, 37)) zMO_0 rfl) rfl rfl hl.1 rfl (lv_room (Nat.le_of_ble_eq_true rfl)) dX12_isPoint_3 ⟨Nat.zero_le _, Nat.zero_le _⟩) (fun z3 gn H locs hok hW => ?_)
  obtain ⟨hz3, hg, hq3⟩ := hok
  rw [hg] at hW
  clear hg
  have e3 : zm_points S = z3 := hz3.symm
  clear hz3
  refine lv_iconst (v := zI 1) hX0 hB0 dX12_isPoint_6 rfl ?_
  refine z_isub (z := z3 - 1) CX dX12_isPoint_7 rfl ?_
  refine z_calli hW (va_runS (As := [.int (zI pt), .int (zI 0), .int (zI (z3 - 1))]) (rest := []) CX.fix (zk_isIn l (f := zMO cI cJ o S f) pt 0 (z3 - 1) (by constructor <;> omega) (by constructor <;> omega) (by constructor <;> omega)) (va_cwS 3 CX.fix.2.2.2.2 gX12_isPoint_X12_isIn rfl rfl rfl (by decide +kernel) ⟨Nat.le_of_ble_eq_true rfl, Nat.le_of_ble_eq_true rfl⟩) (z_preS CX hW) rfl rfl hl.1 rfl (lv_room (Nat.le_of_ble_eq_true rfl)) dX12_isPoint_8 ⟨Nat.zero_le _, Nat.zero_le _⟩) (fun z8 gn H locs hok hW => ?_)
  obtain ⟨hz8, hg, hq8⟩ := hok
  rw [hg] at hW
  clear hg
  have e8 : zm_isIn pt 0 (z3 - 1) = z8 := hz8.symm
  clear hz8
  have hE : zm_isPoint S pt = z8 := by unfold zm_isPoint; exact zlet_e e3 (zlet_e e8 rfl)
  rw [← hQ]
  exact z_iret (z := z8) CX hW (by rw [hE]; exact ⟨rfl, rfl, (show 0 ≤ z8 ∧ z8 ≤ 1 ∧ (z8 ≠ 0 → 0 ≤ pt ∧ pt ≤ 992 ∧ pt < S 0 10 * S 0 10 + S 0 10 + 1) from by omega)⟩) (zI_bool (by omega)) dX12_isPoint_11
def zm_isNear (S : zS2) (pt : Int) : Int := (if (S 0 10) * (S 0 10) ≤ pt then 0 else 1)
set_option maxRecDepth 100000 in
set_option maxHeartbeats 4000000 in
theorem zk_isNear (l : Launch) {D : va_G} {cI cJ cZ cP cS cM : ClassId} {L : List Nat} {sz : Nat} {f : Nat → va_E} (o : Nat) (S : zS2) (pt : Int) (hI : mI S) (hpt : -2147483648 ≤ pt ∧ pt ≤ 2147483647) : zMi l yX12_isNear wsX12_isNear 0 0 D (zT cI cJ cZ cP cS cM) L sz (zMO cI cJ o S f) [.ref o, .int (zI pt)] (fun zv gv => zv = zm_isNear S pt ∧ gv = zMO cI cJ o S f ∧ 0 ≤ zv ∧ zv ≤ 1 ∧ (zv ≠ 0 → pt < S 0 10 * S 0 10) ∧ (zv = 0 → S 0 10 * S 0 10 ≤ pt)) := by
  refine zWalk.met (nL := 2) (ret := (some .boolean)) (cc := cX12_isNear) (by decide) rfl (Nat.le_of_ble_eq_true rfl) ?_
  intro pg en st mi ag bl mt cd ls CX hW hl
  have CX : zC pg st mi ag mt cd cX12_isNear 2 (some .boolean) RX12 wsX12_isNear := CX
  generalize hQ : MQ bl _ ag st 0 0 _ = Q
  have hX0 := CX.1
  have hB0 := CX.2.1
  have hl : lv_has ls 2 [(0, .ref o), (1, .int (zI pt))] := hl
  obtain ⟨H, eH⟩ : ∃ H, H = st.heap := ⟨_, rfl⟩
  obtain ⟨locs, eL⟩ : ∃ L : List Loc, L = [] := ⟨_, rfl⟩
  have hW : zW D (zT cI cJ cZ cP cS cM) L (zQ L sz) st (zMO cI cJ o S f) st.heap H locs := by rw [eH, eL]; exact hW
  suffices hgo : W pg l en ({ frames := 0, cells := 0, slots := 0, locals := 0 } : Room) st mi ag bl mt cd H locs 0 0 Q (F0 mi 0 ls []) by rw [eH, eL] at hgo; exact hgo
  clear eH eL
  have hpb := hI.s10
  refine lv_iload_n hX0 hB0 dX12_isNear_0 rfl (lv_at hl 1 rfl) ?_
  refine lv_aload_n hX0 hB0 dX12_isNear_1 rfl (lv_at hl 0 rfl) ?_
  refine z_get (Cn := RX12) (T := TX12) (N := 37) CX hW (v := .int (zI (S 0 10))) zMO_0 rfl (fun w h => List.mem_cons_of_mem _ (List.mem_append_right _ h)) 10 (by decide) (List.mem_of_getElem? (i := 1) rfl) rfl rfl dX12_isNear_2 ?_
  have hr2 := hI.s10
  refine lv_aload_n hX0 hB0 dX12_isNear_5 rfl (lv_at hl 0 rfl) ?_
  refine z_get (Cn := RX12) (T := TX12) (N := 37) CX hW (v := .int (zI (S 0 10))) zMO_0 rfl (fun w h => List.mem_cons_of_mem _ (List.mem_append_right _ h)) 10 (by decide) (List.mem_of_getElem? (i := 1) rfl) rfl rfl dX12_isNear_6 ?_
  have hr6 := hI.s10
  refine z_imul (z := (S 0 10) * (S 0 10)) CX dX12_isNear_9 rfl ?_
  have hm9 := zbox_mul0 (a := S 0 10) (b := S 0 10) (A := 31) (B := 31) (by constructor <;> omega) (by constructor <;> omega) (C := 961) (by decide)
  refine z_icmp_ge (tgt := 17) CX dX12_isNear_10 (by decide) (by constructor <;> omega) (by constructor <;> omega) (fun c_10 => ?_) (fun c_10 => ?_)
  ·
    refine lv_iconst (v := zI 0) hX0 hB0 dX12_isNear_17 rfl ?_
    have hE : zm_isNear S pt = 0 := by unfold zm_isNear; exact zif_t c_10 rfl
    rw [← hQ]
    exact z_iret (z := 0) CX hW (by rw [hE]; exact ⟨rfl, rfl, (show 0 ≤ (0 : Int) ∧ (0 : Int) ≤ 1 ∧ ((0 : Int) ≠ 0 → pt < S 0 10 * S 0 10) ∧ ((0 : Int) = 0 → S 0 10 * S 0 10 ≤ pt) from by omega)⟩) rfl dX12_isNear_18
  ·
    have d_10 : ¬ (S 0 10) * (S 0 10) ≤ pt := by omega
    refine lv_iconst (v := zI 1) hX0 hB0 dX12_isNear_13 rfl ?_
    refine lv_goto (tgt := 18) hX0 hB0 dX12_isNear_14 (by decide) ?_
    have hE : zm_isNear S pt = 1 := by unfold zm_isNear; exact zif_f d_10 rfl
    rw [← hQ]
    exact z_iret (z := 1) CX hW (by rw [hE]; exact ⟨rfl, rfl, (show 0 ≤ (1 : Int) ∧ (1 : Int) ≤ 1 ∧ ((1 : Int) ≠ 0 → pt < S 0 10 * S 0 10) ∧ ((1 : Int) = 0 → S 0 10 * S 0 10 ≤ pt) from by omega)⟩) rfl dX12_isNear_18
def zm_xOf (S : zS2) (pt : Int) : Int := zlet (zm_isNear S pt) (fun z2 => (if z2 = 0 then zlet (zm_points S) (fun z19 => (if pt = z19 - 1 then 0 else 1)) else Int.tdiv pt (S 0 10)))
set_option maxRecDepth 100000 in
set_option maxHeartbeats 4000000 in
theorem zk_xOf (l : Launch) {D : va_G} {cI cJ cZ cP cS cM : ClassId} {L : List Nat} {sz : Nat} {f : Nat → va_E} (o : Nat) (S : zS2) (pt : Int) (hI : mI S) (hpt : 0 ≤ pt ∧ pt ≤ 992) : zMi l yX12_xOf wsX12_xOf 1 21 D (zT cI cJ cZ cP cS cM) L sz (zMO cI cJ o S f) [.ref o, .int (zI pt)] (fun zv gv => zv = zm_xOf S pt ∧ gv = zMO cI cJ o S f ∧ 0 ≤ zv ∧ zv ≤ 992) := by
  refine zWalk.met (nL := 2) (ret := (some .int)) (cc := cX12_xOf) (by decide) rfl (Nat.le_of_ble_eq_true rfl) ?_
  intro pg en st mi ag bl mt cd ls CX hW hl
  have CX : zC pg st mi ag mt cd cX12_xOf 2 (some .int) RX12 wsX12_xOf := CX
  generalize hQ : MQ bl _ ag st 0 0 _ = Q
  have hX0 := CX.1
  have hB0 := CX.2.1
  have hl : lv_has ls 2 [(0, .ref o), (1, .int (zI pt))] := hl
  obtain ⟨H, eH⟩ : ∃ H, H = st.heap := ⟨_, rfl⟩
  obtain ⟨locs, eL⟩ : ∃ L : List Loc, L = [] := ⟨_, rfl⟩
  have hW : zW D (zT cI cJ cZ cP cS cM) L (zQ L sz) st (zMO cI cJ o S f) st.heap H locs := by rw [eH, eL]; exact hW
  suffices hgo : W pg l en ({ frames := 1, cells := 0, slots := 0, locals := 21 } : Room) st mi ag bl mt cd H locs 0 0 Q (F0 mi 0 ls []) by rw [eH, eL] at hgo; exact hgo
  clear eH eL
  have hpb := hI.s10
  refine lv_aload_n hX0 hB0 dX12_xOf_0 rfl (lv_at hl 0 rfl) ?_
  refine lv_iload_n hX0 hB0 dX12_xOf_1 rfl (lv_at hl 1 rfl) ?_
  refine z_calli hW (va_runV (C := RX12) (As := [.int (zI pt)]) (rest := []) CX.fix (zk_isNear l o S pt hI (by constructor <;> omega)) (cwV 1 CX.fix.2.2.2.2 gX12_xOf_X12_isNear rfl rfl rfl (by decide +kernel) ⟨Nat.le_of_ble_eq_true rfl, Nat.le_of_ble_eq_true rfl⟩) (z_preV CX hW (r := (RX12, TX12, 37)) zMO_0 rfl) rfl rfl hl.1 rfl (lv_room (Nat.le_of_ble_eq_true rfl)) dX12_xOf_2 ⟨Nat.zero_le _, Nat.zero_le _⟩) (fun z2 gn H locs hok hW => ?_)
  obtain ⟨hz2, hg, hq2⟩ := hok
  rw [hg] at hW
  clear hg
  have e2 : zm_isNear S pt = z2 := hz2.symm
  clear hz2
  refine z_if_eq (tgt := 17) CX dX12_xOf_5 (by decide) (by constructor <;> omega) (fun c_5 => ?_) (fun c_5 => ?_)
  ·
    refine lv_iload_n hX0 hB0 dX12_xOf_17 rfl (lv_at hl 1 rfl) ?_
    refine lv_aload_n hX0 hB0 dX12_xOf_18 rfl (lv_at hl 0 rfl) ?_
    refine z_calli hW (va_runV (C := RX12) (As := []) (rest := [.int (zI pt)]) CX.fix (zk_points l o S  hI ) (cwV 0 CX.fix.2.2.2.2 gX12_xOf_X12_points rfl rfl rfl (by decide +kernel) ⟨Nat.le_of_ble_eq_true rfl, Nat.le_of_ble_eq_true rfl⟩) (z_preV CX hW (r := (RX12, TX12, 37)) zMO_0 rfl) rfl rfl hl.1 rfl (lv_room (Nat.le_of_ble_eq_true rfl)) dX12_xOf_19 ⟨Nat.zero_le _, Nat.zero_le _⟩) (fun z19 gn H locs hok hW => ?_)
    obtain ⟨hz19, hg, hq19⟩ := hok
    rw [hg] at hW
    clear hg
    have e19 : zm_points S = z19 := hz19.symm
    clear hz19
    refine lv_iconst (v := zI 1) hX0 hB0 dX12_xOf_22 rfl ?_
    refine z_isub (z := z19 - 1) CX dX12_xOf_23 rfl ?_
    refine z_icmp_ne (tgt := 31) CX dX12_xOf_24 (by decide) (by constructor <;> omega) (by constructor <;> omega) (fun c_24 => ?_) (fun c_24 => ?_)
    ·
      refine lv_iconst (v := zI 1) hX0 hB0 dX12_xOf_31 rfl ?_
      have hE : zm_xOf S pt = 1 := by unfold zm_xOf; exact zlet_e e2 (zif_t c_5 (zlet_e e19 (zif_f c_24 rfl)))
      rw [← hQ]
      exact z_iret (z := 1) CX hW (by rw [hE]; exact ⟨rfl, rfl, (show 0 ≤ (1 : Int) ∧ (1 : Int) ≤ 992 from by omega)⟩) rfl dX12_xOf_32
    ·
      refine lv_iconst (v := zI 0) hX0 hB0 dX12_xOf_27 rfl ?_
      refine lv_goto (tgt := 32) hX0 hB0 dX12_xOf_28 (by decide) ?_
      have hE : zm_xOf S pt = 0 := by unfold zm_xOf; exact zlet_e e2 (zif_t c_5 (zlet_e e19 (zif_t c_24 rfl)))
      rw [← hQ]
      exact z_iret (z := 0) CX hW (by rw [hE]; exact ⟨rfl, rfl, (show 0 ≤ (0 : Int) ∧ (0 : Int) ≤ 992 from by omega)⟩) rfl dX12_xOf_32
  ·
    refine lv_iload_n hX0 hB0 dX12_xOf_8 rfl (lv_at hl 1 rfl) ?_
    refine lv_aload_n hX0 hB0 dX12_xOf_9 rfl (lv_at hl 0 rfl) ?_
    refine z_get (Cn := RX12) (T := TX12) (N := 37) CX hW (v := .int (zI (S 0 10))) zMO_0 rfl (fun w h => List.mem_cons_of_mem _ (List.mem_append_right _ h)) 10 (by decide) (List.mem_of_getElem? (i := 1) rfl) rfl rfl dX12_xOf_10 ?_
    have hr10 := hI.s10
    refine z_idiv (z := Int.tdiv pt (S 0 10)) CX dX12_xOf_13 (by constructor <;> omega) (by constructor <;> omega) rfl ?_
    have ht13 := ztd0 (n := pt) (p := S 0 10) (by omega) (by omega)
    refine lv_goto (tgt := 32) hX0 hB0 dX12_xOf_14 (by decide) ?_
    have hE : zm_xOf S pt = Int.tdiv pt (S 0 10) := by unfold zm_xOf; exact zlet_e e2 (zif_f c_5 rfl)
    rw [← hQ]
    exact z_iret (z := Int.tdiv pt (S 0 10)) CX hW (by rw [hE]; exact ⟨rfl, rfl, (show 0 ≤ (Int.tdiv pt (S 0 10)) ∧ (Int.tdiv pt (S 0 10)) ≤ 992 from by omega)⟩) rfl dX12_xOf_32
def zm_yOf (S : zS2) (pt : Int) : Int := zlet (zm_isNear S pt) (fun z2 => (if z2 = 0 then zlet (zm_points S) (fun z19 => (if pt = z19 - 1 then 1 else pt - ((S 0 10) * (S 0 10)))) else Int.tmod pt (S 0 10)))
set_option maxRecDepth 100000 in
set_option maxHeartbeats 4000000 in
theorem zk_yOf (l : Launch) {D : va_G} {cI cJ cZ cP cS cM : ClassId} {L : List Nat} {sz : Nat} {f : Nat → va_E} (o : Nat) (S : zS2) (pt : Int) (hI : mI S) (hpt : 0 ≤ pt ∧ pt ≤ 992) : zMi l yX12_yOf wsX12_yOf 1 21 D (zT cI cJ cZ cP cS cM) L sz (zMO cI cJ o S f) [.ref o, .int (zI pt)] (fun zv gv => zv = zm_yOf S pt ∧ gv = zMO cI cJ o S f ∧ 0 ≤ zv ∧ zv ≤ 992) := by
  refine zWalk.met (nL := 2) (ret := (some .int)) (cc := cX12_yOf) (by decide) rfl (Nat.le_of_ble_eq_true rfl) ?_
  intro pg en st mi ag bl mt cd ls CX hW hl
  have CX : zC pg st mi ag mt cd cX12_yOf 2 (some .int) RX12 wsX12_yOf := CX
  generalize hQ : MQ bl _ ag st 0 0 _ = Q
  have hX0 := CX.1
  have hB0 := CX.2.1
  have hl : lv_has ls 2 [(0, .ref o), (1, .int (zI pt))] := hl
  obtain ⟨H, eH⟩ : ∃ H, H = st.heap := ⟨_, rfl⟩
  obtain ⟨locs, eL⟩ : ∃ L : List Loc, L = [] := ⟨_, rfl⟩
  have hW : zW D (zT cI cJ cZ cP cS cM) L (zQ L sz) st (zMO cI cJ o S f) st.heap H locs := by rw [eH, eL]; exact hW
  suffices hgo : W pg l en ({ frames := 1, cells := 0, slots := 0, locals := 21 } : Room) st mi ag bl mt cd H locs 0 0 Q (F0 mi 0 ls []) by rw [eH, eL] at hgo; exact hgo
  clear eH eL
  have hpb := hI.s10
  refine lv_aload_n hX0 hB0 dX12_yOf_0 rfl (lv_at hl 0 rfl) ?_
  refine lv_iload_n hX0 hB0 dX12_yOf_1 rfl (lv_at hl 1 rfl) ?_
  refine z_calli hW (va_runV (C := RX12) (As := [.int (zI pt)]) (rest := []) CX.fix (zk_isNear l o S pt hI (by constructor <;> omega)) (cwV 1 CX.fix.2.2.2.2 gX12_yOf_X12_isNear rfl rfl rfl (by decide +kernel) ⟨Nat.le_of_ble_eq_true rfl, Nat.le_of_ble_eq_true rfl⟩) (z_preV CX hW (r := (RX12, TX12, 37)) zMO_0 rfl) rfl rfl hl.1 rfl (lv_room (Nat.le_of_ble_eq_true rfl)) dX12_yOf_2 ⟨Nat.zero_le _, Nat.zero_le _⟩) (fun z2 gn H locs hok hW => ?_)
  obtain ⟨hz2, hg, hq2⟩ := hok
  rw [hg] at hW
  clear hg
  have e2 : zm_isNear S pt = z2 := hz2.symm
  clear hz2
  refine z_if_eq (tgt := 17) CX dX12_yOf_5 (by decide) (by constructor <;> omega) (fun c_5 => ?_) (fun c_5 => ?_)
  ·
    refine lv_iload_n hX0 hB0 dX12_yOf_17 rfl (lv_at hl 1 rfl) ?_
    refine lv_aload_n hX0 hB0 dX12_yOf_18 rfl (lv_at hl 0 rfl) ?_
    refine z_calli hW (va_runV (C := RX12) (As := []) (rest := [.int (zI pt)]) CX.fix (zk_points l o S  hI ) (cwV 0 CX.fix.2.2.2.2 gX12_yOf_X12_points rfl rfl rfl (by decide +kernel) ⟨Nat.le_of_ble_eq_true rfl, Nat.le_of_ble_eq_true rfl⟩) (z_preV CX hW (r := (RX12, TX12, 37)) zMO_0 rfl) rfl rfl hl.1 rfl (lv_room (Nat.le_of_ble_eq_true rfl)) dX12_yOf_19 ⟨Nat.zero_le _, Nat.zero_le _⟩) (fun z19 gn H locs hok hW => ?_)
    obtain ⟨hz19, hg, hq19⟩ := hok
    rw [hg] at hW
    clear hg
    have e19 : zm_points S = z19 := hz19.symm
    clear hz19
    refine lv_iconst (v := zI 1) hX0 hB0 dX12_yOf_22 rfl ?_
    refine z_isub (z := z19 - 1) CX dX12_yOf_23 rfl ?_
    refine z_icmp_ne (tgt := 31) CX dX12_yOf_24 (by decide) (by constructor <;> omega) (by constructor <;> omega) (fun c_24 => ?_) (fun c_24 => ?_)
    ·
      refine lv_iload_n hX0 hB0 dX12_yOf_31 rfl (lv_at hl 1 rfl) ?_
      refine lv_aload_n hX0 hB0 dX12_yOf_32 rfl (lv_at hl 0 rfl) ?_
      refine z_get (Cn := RX12) (T := TX12) (N := 37) CX hW (v := .int (zI (S 0 10))) zMO_0 rfl (fun w h => List.mem_cons_of_mem _ (List.mem_append_right _ h)) 10 (by decide) (List.mem_of_getElem? (i := 1) rfl) rfl rfl dX12_yOf_33 ?_
      have hr33 := hI.s10
      refine lv_aload_n hX0 hB0 dX12_yOf_36 rfl (lv_at hl 0 rfl) ?_
      refine z_get (Cn := RX12) (T := TX12) (N := 37) CX hW (v := .int (zI (S 0 10))) zMO_0 rfl (fun w h => List.mem_cons_of_mem _ (List.mem_append_right _ h)) 10 (by decide) (List.mem_of_getElem? (i := 1) rfl) rfl rfl dX12_yOf_37 ?_
      have hr37 := hI.s10
      refine z_imul (z := (S 0 10) * (S 0 10)) CX dX12_yOf_40 rfl ?_
      have hm40 := zbox_mul0 (a := S 0 10) (b := S 0 10) (A := 31) (B := 31) (by constructor <;> omega) (by constructor <;> omega) (C := 961) (by decide)
      refine z_isub (z := pt - ((S 0 10) * (S 0 10))) CX dX12_yOf_41 rfl ?_
      have hE : zm_yOf S pt = pt - ((S 0 10) * (S 0 10)) := by unfold zm_yOf; exact zlet_e e2 (zif_t c_5 (zlet_e e19 (zif_f c_24 rfl)))
      rw [← hQ]
      exact z_iret (z := pt - ((S 0 10) * (S 0 10))) CX hW (by rw [hE]; exact ⟨rfl, rfl, (show 0 ≤ (pt - ((S 0 10) * (S 0 10))) ∧ (pt - ((S 0 10) * (S 0 10))) ≤ 992 from by omega)⟩) rfl dX12_yOf_42
    ·
      refine lv_iconst (v := zI 1) hX0 hB0 dX12_yOf_27 rfl ?_
      refine lv_goto (tgt := 42) hX0 hB0 dX12_yOf_28 (by decide) ?_
      have hE : zm_yOf S pt = 1 := by unfold zm_yOf; exact zlet_e e2 (zif_t c_5 (zlet_e e19 (zif_t c_24 rfl)))
      rw [← hQ]
      exact z_iret (z := 1) CX hW (by rw [hE]; exact ⟨rfl, rfl, (show 0 ≤ (1 : Int) ∧ (1 : Int) ≤ 992 from by omega)⟩) rfl dX12_yOf_42
  ·
    refine lv_iload_n hX0 hB0 dX12_yOf_8 rfl (lv_at hl 1 rfl) ?_
    refine lv_aload_n hX0 hB0 dX12_yOf_9 rfl (lv_at hl 0 rfl) ?_
    refine z_get (Cn := RX12) (T := TX12) (N := 37) CX hW (v := .int (zI (S 0 10))) zMO_0 rfl (fun w h => List.mem_cons_of_mem _ (List.mem_append_right _ h)) 10 (by decide) (List.mem_of_getElem? (i := 1) rfl) rfl rfl dX12_yOf_10 ?_
    have hr10 := hI.s10
    refine z_irem (z := Int.tmod pt (S 0 10)) CX dX12_yOf_13 (by constructor <;> omega) (by constructor <;> omega) rfl ?_
    have ht13 := ztm0 (n := pt) (p := S 0 10) (by omega) (by omega)
    refine lv_goto (tgt := 42) hX0 hB0 dX12_yOf_14 (by decide) ?_
    have hE : zm_yOf S pt = Int.tmod pt (S 0 10) := by unfold zm_yOf; exact zlet_e e2 (zif_f c_5 rfl)
    rw [← hQ]
    exact z_iret (z := Int.tmod pt (S 0 10)) CX hW (by rw [hE]; exact ⟨rfl, rfl, (show 0 ≤ (Int.tmod pt (S 0 10)) ∧ (Int.tmod pt (S 0 10)) ≤ 992 from by omega)⟩) rfl dX12_yOf_42
def zm_valueOf_J5 (z2 : Int) : Int := (if z2 = 0 then 0 else 1)
def zm_valueOf_L30 (S : zS2) (g : Int) (dg : Int) (pt : Int) (z5j : Int) (i21 : Int) : Int → Int → Int := fun i30 s30 => (fun (s30 : Int) => zlet (zm_cell S g i21 i30) (fun z47 => zlet (zm_xOf S pt) (fun z54 => zlet (zm_power S z54 i21) (fun z59 => zlet (zm_yOf S pt) (fun z73 => zlet (zm_power S z73 i30) (fun z78 => zlet (zm_power S z5j ((dg - i21) - i30)) (fun z99 => (s30 + ((Int.tmod ((Int.tmod (z47 * z59) (S 0 10)) * z78) (S 0 10)) * z99))))))))) s30
def zm_valueOf_L21 (S : zS2) (g : Int) (dg : Int) (pt : Int) (z5j : Int) : Int → Int → Int := fun i21 s21 => (fun (s21 : Int) => zlet (zfor (zm_valueOf_L30 S g dg pt z5j i21) 0 s21 ((dg - i21) + 1 - 0).toNat) (fun s30 => s30)) s21
def zm_valueOf (S : zS2) (g : Int) (dg : Int) (pt : Int) : Int := zlet (zm_isNear S pt) (fun z2 => zlet (zm_valueOf_J5 z2) (fun z5j => zlet (zfor (zm_valueOf_L21 S g dg pt z5j) 0 0 (dg + 1 - 0).toNat) (fun s21 => zlet (zm_modulo S s21) (fun z122 => z122))))
set_option maxRecDepth 100000 in
set_option maxHeartbeats 4000000 in
theorem zk_valueOf (l : Launch) {D : va_G} {cI cJ cZ cP cS cM : ClassId} {L : List Nat} {sz : Nat} {f : Nat → va_E} (o : Nat) (S : zS2) (g : Int) (dg : Int) (pt : Int) (hI : mI S) (hg : 0 ≤ g ∧ g ≤ 238) (hdg : -1 ≤ dg ∧ dg ≤ 4) (hpt : 0 ≤ pt ∧ pt ≤ 992) : zMi l yX12_valueOf wsX12_valueOf 2 49 D (zT cI cJ cZ cP cS cM) L sz (zMO cI cJ o S f) [.ref o, .int (zI g), .int (zI dg), .int (zI pt)] (fun zv gv => zv = zm_valueOf S g dg pt ∧ gv = zMO cI cJ o S f ∧ 0 ≤ zv ∧ zv < S 0 10) := by
  refine zWalk.met (nL := 9) (ret := (some .int)) (cc := cX12_valueOf) (by decide) rfl (Nat.le_of_ble_eq_true rfl) ?_
  intro pg en st mi ag bl mt cd ls CX hW hl
  have CX : zC pg st mi ag mt cd cX12_valueOf 9 (some .int) RX12 wsX12_valueOf := CX
  generalize hQ : MQ bl _ ag st 0 0 _ = Q
  have hX0 := CX.1
  have hB0 := CX.2.1
  have hl : lv_has ls 9 [(0, .ref o), (1, .int (zI g)), (2, .int (zI dg)), (3, .int (zI pt))] := hl
  obtain ⟨H, eH⟩ : ∃ H, H = st.heap := ⟨_, rfl⟩
  obtain ⟨locs, eL⟩ : ∃ L : List Loc, L = [] := ⟨_, rfl⟩
  have hW : zW D (zT cI cJ cZ cP cS cM) L (zQ L sz) st (zMO cI cJ o S f) st.heap H locs := by rw [eH, eL]; exact hW
  suffices hgo : W pg l en ({ frames := 2, cells := 0, slots := 0, locals := 49 } : Room) st mi ag bl mt cd H locs 0 0 Q (F0 mi 0 ls []) by rw [eH, eL] at hgo; exact hgo
  clear eH eL
  have hpb := hI.s10
  refine lv_aload_n hX0 hB0 dX12_valueOf_0 rfl (lv_at hl 0 rfl) ?_
  refine lv_iload_n hX0 hB0 dX12_valueOf_1 rfl (lv_at hl 3 rfl) ?_
  refine z_calli hW (va_runV (C := RX12) (As := [.int (zI pt)]) (rest := []) CX.fix (zk_isNear l o S pt hI (by constructor <;> omega)) (cwV 1 CX.fix.2.2.2.2 gX12_valueOf_X12_isNear rfl rfl rfl (by decide +kernel) ⟨Nat.le_of_ble_eq_true rfl, Nat.le_of_ble_eq_true rfl⟩) (z_preV CX hW (r := (RX12, TX12, 37)) zMO_0 rfl) rfl rfl hl.1 rfl (lv_room (Nat.le_of_ble_eq_true rfl)) dX12_valueOf_2 ⟨Nat.zero_le _, Nat.zero_le _⟩) (fun z2 gn H locs hok hW => ?_)
  obtain ⟨hz2, hg, hq2⟩ := hok
  rw [hg] at hW
  clear hg
  have e2 : zm_isNear S pt = z2 := hz2.symm
  clear hz2
  have hJ5 : ∀ (z5j : Int), (zm_valueOf_J5 z2 = z5j ∧ 0 ≤ z5j ∧ z5j ≤ 1) → ∀ (H : Heap) (locs : List Loc) (ls : Array Slot), zW D (zT cI cJ cZ cP cS cM) L (zQ L sz) st (zMO cI cJ o S f) st.heap H locs → lv_has ls 9 [(0, .ref o), (1, .int (zI g)), (2, .int (zI dg)), (3, .int (zI pt))] → W pg l en ({ frames := 2, cells := 0, slots := 0, locals := 49 } : Room) st mi ag bl mt cd H locs 0 0 Q (F0 mi 13 ls [.int (zI z5j)]) := by
    intro z5j hinv H locs ls hW hl
    obtain ⟨e5j, haz5j, hbz5j⟩ := hinv
    refine lv_istore (lv' := [(4, .int (zI z5j)), (0, .ref o), (1, .int (zI g)), (2, .int (zI dg)), (3, .int (zI pt))]) hX0 hB0 dX12_valueOf_13 hl (by decide) rfl (fun ls hl => ?_)
    refine lv_lconst (v := zL 0) hX0 hB0 dX12_valueOf_15 rfl ?_
    refine lv_lstore (lv' := [(5, .long (zL 0)), (4, .int (zI z5j)), (0, .ref o), (1, .int (zI g)), (2, .int (zI dg)), (3, .int (zI pt))]) hX0 hB0 dX12_valueOf_16 hl (by decide) rfl (fun ls hl => ?_)
    refine lv_iconst (v := zI 0) hX0 hB0 dX12_valueOf_18 rfl ?_
    refine lv_istore (lv' := [(7, .int (zI 0)), (5, .long (zL 0)), (4, .int (zI z5j)), (0, .ref o), (1, .int (zI g)), (2, .int (zI dg)), (3, .int (zI pt))]) hX0 hB0 dX12_valueOf_19 hl (by decide) rfl (fun ls hl => ?_)
    have hL21 : ∀ (fu : Nat) (i21 : Int) (s21 : Int), ((0 ≤ i21 ∧ i21 ≤ dg + 1) ∧ zfor (zm_valueOf_L21 S g dg pt z5j) 0 0 (i21 - 0).toNat = s21 ∧ (0 ≤ s21 ∧ s21 ≤ 4500 * i21)) → (dg + 1 - i21).toNat < fu → ∀ (H : Heap) (locs : List Loc) (ls : Array Slot), zW D (zT cI cJ cZ cP cS cM) L (zQ L sz) st (zMO cI cJ o S f) st.heap H locs → lv_has ls 9 [(7, .int (zI i21)), (5, .long (zL s21)), (4, .int (zI z5j)), (0, .ref o), (1, .int (zI g)), (2, .int (zI dg)), (3, .int (zI pt))] → W pg l en ({ frames := 2, cells := 0, slots := 0, locals := 49 } : Room) st mi ag bl mt cd H locs 0 0 Q (F0 mi 21 ls []) := by
      intro fu
      induction fu with
      | zero => intro i21 s21 _ hfu; exact absurd hfu (Nat.not_lt_zero _)
      | succ fu ih21 =>
        intro i21 s21 hinv hfu21 H locs ls hW hl
        obtain ⟨⟨hlo21, hhi21⟩, hz21, hv21⟩ := hinv
        refine lv_iload hX0 hB0 dX12_valueOf_21 (lv_at hl 0 rfl) ?_
        refine lv_iload_n hX0 hB0 dX12_valueOf_23 rfl (lv_at hl 5 rfl) ?_
        refine z_icmp_gt (tgt := 119) CX dX12_valueOf_24 (by decide) (by constructor <;> omega) (by constructor <;> omega) (fun c_24 => ?_) (fun c_24 => ?_)
        ·
          have e21 : zfor (zm_valueOf_L21 S g dg pt z5j) 0 0 (dg + 1 - 0).toNat = s21 := by rw [show (dg + 1 - 0).toNat = (i21 - 0).toNat by omega]; exact hz21
          refine lv_aload_n hX0 hB0 dX12_valueOf_119 rfl (lv_at hl 3 rfl) ?_
          refine lv_lload hX0 hB0 dX12_valueOf_120 (lv_at hl 1 rfl) ?_
          refine z_calli hW (va_runV (C := RX12) (As := [.long (zL s21)]) (rest := []) CX.fix (zk_modulo l o S s21 hI (by constructor <;> omega)) (cwV 1 CX.fix.2.2.2.2 gX12_valueOf_X12_modulo rfl rfl rfl (by decide +kernel) ⟨Nat.le_of_ble_eq_true rfl, Nat.le_of_ble_eq_true rfl⟩) (z_preV CX hW (r := (RX12, TX12, 37)) zMO_0 rfl) rfl rfl hl.1 rfl (lv_room (Nat.le_of_ble_eq_true rfl)) dX12_valueOf_122 ⟨Nat.zero_le _, Nat.zero_le _⟩) (fun z122 gn H locs hok hW => ?_)
          obtain ⟨hz122, hg, hq122⟩ := hok
          rw [hg] at hW
          clear hg
          have e122 : zm_modulo S s21 = z122 := hz122.symm
          clear hz122
          have hE : zm_valueOf S g dg pt = z122 := by unfold zm_valueOf; exact zlet_e e2 (zlet_e e5j (zlet_e e21 (zlet_e e122 rfl)))
          rw [← hQ]
          exact z_iret (z := z122) CX hW (by rw [hE]; exact ⟨rfl, rfl, (show 0 ≤ z122 ∧ z122 < S 0 10 from by omega)⟩) rfl dX12_valueOf_125
        ·
          refine lv_iconst (v := zI 0) hX0 hB0 dX12_valueOf_27 rfl ?_
          refine lv_istore (lv' := [(8, .int (zI 0)), (7, .int (zI i21)), (5, .long (zL s21)), (4, .int (zI z5j)), (0, .ref o), (1, .int (zI g)), (2, .int (zI dg)), (3, .int (zI pt))]) hX0 hB0 dX12_valueOf_28 hl (by decide) rfl (fun ls hl => ?_)
          have hL30 : ∀ (fu : Nat) (i30 : Int) (s30 : Int), ((0 ≤ i30 ∧ i30 ≤ dg - i21 + 1) ∧ zfor (zm_valueOf_L30 S g dg pt z5j i21) 0 s21 (i30 - 0).toNat = s30 ∧ (0 ≤ s30 ∧ s30 ≤ 4500 * i21 + 900 * i30)) → ((dg - i21) + 1 - i30).toNat < fu → ∀ (H : Heap) (locs : List Loc) (ls : Array Slot), zW D (zT cI cJ cZ cP cS cM) L (zQ L sz) st (zMO cI cJ o S f) st.heap H locs → lv_has ls 9 [(8, .int (zI i30)), (5, .long (zL s30)), (7, .int (zI i21)), (4, .int (zI z5j)), (0, .ref o), (1, .int (zI g)), (2, .int (zI dg)), (3, .int (zI pt))] → W pg l en ({ frames := 2, cells := 0, slots := 0, locals := 49 } : Room) st mi ag bl mt cd H locs 0 0 Q (F0 mi 30 ls []) := by
            intro fu
            induction fu with
            | zero => intro i30 s30 _ hfu; exact absurd hfu (Nat.not_lt_zero _)
            | succ fu ih30 =>
              intro i30 s30 hinv hfu30 H locs ls hW hl
              obtain ⟨⟨hlo30, hhi30⟩, hz30, hv30⟩ := hinv
              refine lv_iload hX0 hB0 dX12_valueOf_30 (lv_at hl 2 rfl) ?_
              refine lv_iload hX0 hB0 dX12_valueOf_32 (lv_at hl 0 rfl) ?_
              refine z_iadd (z := i21 + i30) CX dX12_valueOf_34 rfl ?_
              refine lv_iload_n hX0 hB0 dX12_valueOf_35 rfl (lv_at hl 6 rfl) ?_
              refine z_icmp_gt (tgt := 113) CX dX12_valueOf_36 (by decide) (by constructor <;> omega) (by constructor <;> omega) (fun c_36 => ?_) (fun c_36 => ?_)
              ·
                have e30 : zfor (zm_valueOf_L30 S g dg pt z5j i21) 0 s21 ((dg - i21) + 1 - 0).toNat = s30 := by rw [show ((dg - i21) + 1 - 0).toNat = (i30 - 0).toNat by omega]; exact hz30
                refine lv_iinc (v := zI (i21 + 1)) (lv' := [(7, .int (zI (i21 + 1))), (8, .int (zI i30)), (5, .long (zL s30)), (4, .int (zI z5j)), (0, .ref o), (1, .int (zI g)), (2, .int (zI dg)), (3, .int (zI pt))]) hX0 hB0 dX12_valueOf_113 hl (k := 2) rfl (zI_add _ _) (by decide) rfl (fun ls hl => ?_)
                refine lv_goto (tgt := 21) hX0 hB0 dX12_valueOf_116 (by decide) ?_
                exact ih21 (i21 + 1) s30 ⟨⟨by omega, by omega⟩, (zfor_s _ _ _ (by omega)).trans ((congrArg (zm_valueOf_L21 S g dg pt z5j i21) hz21).trans (by unfold zm_valueOf_L21; exact zlet_e e30 rfl)), by omega⟩ (by omega) H locs ls hW (lv_sub hl [0, 2, 3, 4, 5, 6, 7] rfl)
              ·
                refine lv_lload hX0 hB0 dX12_valueOf_39 (lv_at hl 1 rfl) ?_
                refine lv_aload_n hX0 hB0 dX12_valueOf_41 rfl (lv_at hl 4 rfl) ?_
                refine lv_iload_n hX0 hB0 dX12_valueOf_42 rfl (lv_at hl 5 rfl) ?_
                refine lv_iload hX0 hB0 dX12_valueOf_43 (lv_at hl 2 rfl) ?_
                refine lv_iload hX0 hB0 dX12_valueOf_45 (lv_at hl 0 rfl) ?_
                refine z_calli hW (va_runV (C := RX12) (As := [.int (zI g), .int (zI i21), .int (zI i30)]) (rest := [.long (zL s30)]) CX.fix (zk_cell l o S g i21 i30 hI (by constructor <;> omega) (by constructor <;> omega) (by constructor <;> omega)) (cwV 3 CX.fix.2.2.2.2 gX12_valueOf_X12_cell rfl rfl rfl (by decide +kernel) ⟨Nat.le_of_ble_eq_true rfl, Nat.le_of_ble_eq_true rfl⟩) (z_preV CX hW (r := (RX12, TX12, 37)) zMO_0 rfl) rfl rfl hl.1 rfl (lv_room (Nat.le_of_ble_eq_true rfl)) dX12_valueOf_47 ⟨Nat.zero_le _, Nat.zero_le _⟩) (fun z47 gn H locs hok hW => ?_)
                obtain ⟨hz47, hg, hq47⟩ := hok
                rw [hg] at hW
                clear hg
                have e47 : zm_cell S g i21 i30 = z47 := hz47.symm
                clear hz47
                refine z_i2l CX dX12_valueOf_50 (by constructor <;> omega) ?_
                refine lv_aload_n hX0 hB0 dX12_valueOf_51 rfl (lv_at hl 4 rfl) ?_
                refine lv_aload_n hX0 hB0 dX12_valueOf_52 rfl (lv_at hl 4 rfl) ?_
                refine lv_iload_n hX0 hB0 dX12_valueOf_53 rfl (lv_at hl 7 rfl) ?_
                refine z_calli hW (va_runV (C := RX12) (As := [.int (zI pt)]) (rest := [.ref o, .long (zL z47), .long (zL s30)]) CX.fix (zk_xOf l o S pt hI (by constructor <;> omega)) (cwV 1 CX.fix.2.2.2.2 gX12_valueOf_X12_xOf rfl rfl rfl (by decide +kernel) ⟨Nat.le_of_ble_eq_true rfl, Nat.le_of_ble_eq_true rfl⟩) (z_preV CX hW (r := (RX12, TX12, 37)) zMO_0 rfl) rfl rfl hl.1 rfl (lv_room (Nat.le_of_ble_eq_true rfl)) dX12_valueOf_54 ⟨Nat.zero_le _, Nat.zero_le _⟩) (fun z54 gn H locs hok hW => ?_)
                obtain ⟨hz54, hg, hq54⟩ := hok
                rw [hg] at hW
                clear hg
                have e54 : zm_xOf S pt = z54 := hz54.symm
                clear hz54
                refine lv_iload hX0 hB0 dX12_valueOf_57 (lv_at hl 2 rfl) ?_
                refine z_calli hW (va_runV (C := RX12) (As := [.int (zI z54), .int (zI i21)]) (rest := [.long (zL z47), .long (zL s30)]) CX.fix (zk_power l o S z54 i21 hI (by constructor <;> omega) (by constructor <;> omega)) (cwV 2 CX.fix.2.2.2.2 gX12_valueOf_X12_power rfl rfl rfl (by decide +kernel) ⟨Nat.le_of_ble_eq_true rfl, Nat.le_of_ble_eq_true rfl⟩) (z_preV CX hW (r := (RX12, TX12, 37)) zMO_0 rfl) rfl rfl hl.1 rfl (lv_room (Nat.le_of_ble_eq_true rfl)) dX12_valueOf_59 ⟨Nat.zero_le _, Nat.zero_le _⟩) (fun z59 gn H locs hok hW => ?_)
                obtain ⟨hz59, hg, hq59⟩ := hok
                rw [hg] at hW
                clear hg
                have e59 : zm_power S z54 i21 = z59 := hz59.symm
                clear hz59
                refine z_i2l CX dX12_valueOf_62 (by constructor <;> omega) ?_
                refine z_lmul (z := z47 * z59) CX dX12_valueOf_63 rfl ?_
                have hm63 := zbox_mul0 (a := z47) (b := z59) (A := 30) (B := 30) (by constructor <;> omega) (by constructor <;> omega) (C := 900) (by decide)
                refine lv_aload_n hX0 hB0 dX12_valueOf_64 rfl (lv_at hl 4 rfl) ?_
                refine z_get (Cn := RX12) (T := TX12) (N := 37) CX hW (v := .int (zI (S 0 10))) zMO_0 rfl (fun w h => List.mem_cons_of_mem _ (List.mem_append_right _ h)) 10 (by decide) (List.mem_of_getElem? (i := 1) rfl) rfl rfl dX12_valueOf_65 ?_
                have hr65 := hI.s10
                refine z_i2l CX dX12_valueOf_68 (by constructor <;> omega) ?_
                refine z_lrem (z := Int.tmod (z47 * z59) (S 0 10)) CX dX12_valueOf_69 (by constructor <;> omega) (by constructor <;> omega) rfl ?_
                have ht69 := ztm0 (n := z47 * z59) (p := S 0 10) (by omega) (by omega)
                refine lv_aload_n hX0 hB0 dX12_valueOf_70 rfl (lv_at hl 4 rfl) ?_
                refine lv_aload_n hX0 hB0 dX12_valueOf_71 rfl (lv_at hl 4 rfl) ?_
                refine lv_iload_n hX0 hB0 dX12_valueOf_72 rfl (lv_at hl 7 rfl) ?_
                refine z_calli hW (va_runV (C := RX12) (As := [.int (zI pt)]) (rest := [.ref o, .long (zL (Int.tmod (z47 * z59) (S 0 10))), .long (zL s30)]) CX.fix (zk_yOf l o S pt hI (by constructor <;> omega)) (cwV 1 CX.fix.2.2.2.2 gX12_valueOf_X12_yOf rfl rfl rfl (by decide +kernel) ⟨Nat.le_of_ble_eq_true rfl, Nat.le_of_ble_eq_true rfl⟩) (z_preV CX hW (r := (RX12, TX12, 37)) zMO_0 rfl) rfl rfl hl.1 rfl (lv_room (Nat.le_of_ble_eq_true rfl)) dX12_valueOf_73 ⟨Nat.zero_le _, Nat.zero_le _⟩) (fun z73 gn H locs hok hW => ?_)
                obtain ⟨hz73, hg, hq73⟩ := hok
                rw [hg] at hW
                clear hg
                have e73 : zm_yOf S pt = z73 := hz73.symm
                clear hz73
                refine lv_iload hX0 hB0 dX12_valueOf_76 (lv_at hl 0 rfl) ?_
                refine z_calli hW (va_runV (C := RX12) (As := [.int (zI z73), .int (zI i30)]) (rest := [.long (zL (Int.tmod (z47 * z59) (S 0 10))), .long (zL s30)]) CX.fix (zk_power l o S z73 i30 hI (by constructor <;> omega) (by constructor <;> omega)) (cwV 2 CX.fix.2.2.2.2 gX12_valueOf_X12_power rfl rfl rfl (by decide +kernel) ⟨Nat.le_of_ble_eq_true rfl, Nat.le_of_ble_eq_true rfl⟩) (z_preV CX hW (r := (RX12, TX12, 37)) zMO_0 rfl) rfl rfl hl.1 rfl (lv_room (Nat.le_of_ble_eq_true rfl)) dX12_valueOf_78 ⟨Nat.zero_le _, Nat.zero_le _⟩) (fun z78 gn H locs hok hW => ?_)
                obtain ⟨hz78, hg, hq78⟩ := hok
                rw [hg] at hW
                clear hg
                have e78 : zm_power S z73 i30 = z78 := hz78.symm
                clear hz78
                refine z_i2l CX dX12_valueOf_81 (by constructor <;> omega) ?_
                refine z_lmul (z := (Int.tmod (z47 * z59) (S 0 10)) * z78) CX dX12_valueOf_82 rfl ?_
                have hm82 := zbox_mul0 (a := Int.tmod (z47 * z59) (S 0 10)) (b := z78) (A := 30) (B := 30) (by constructor <;> omega) (by constructor <;> omega) (C := 900) (by decide)
                refine lv_aload_n hX0 hB0 dX12_valueOf_83 rfl (lv_at hl 4 rfl) ?_
                refine z_get (Cn := RX12) (T := TX12) (N := 37) CX hW (v := .int (zI (S 0 10))) zMO_0 rfl (fun w h => List.mem_cons_of_mem _ (List.mem_append_right _ h)) 10 (by decide) (List.mem_of_getElem? (i := 1) rfl) rfl rfl dX12_valueOf_84 ?_
                have hr84 := hI.s10
                refine z_i2l CX dX12_valueOf_87 (by constructor <;> omega) ?_
                refine z_lrem (z := Int.tmod ((Int.tmod (z47 * z59) (S 0 10)) * z78) (S 0 10)) CX dX12_valueOf_88 (by constructor <;> omega) (by constructor <;> omega) rfl ?_
                have ht88 := ztm0 (n := (Int.tmod (z47 * z59) (S 0 10)) * z78) (p := S 0 10) (by omega) (by omega)
                refine lv_aload_n hX0 hB0 dX12_valueOf_89 rfl (lv_at hl 4 rfl) ?_
                refine lv_iload hX0 hB0 dX12_valueOf_90 (lv_at hl 3 rfl) ?_
                refine lv_iload_n hX0 hB0 dX12_valueOf_92 rfl (lv_at hl 6 rfl) ?_
                refine lv_iload hX0 hB0 dX12_valueOf_93 (lv_at hl 2 rfl) ?_
                refine z_isub (z := dg - i21) CX dX12_valueOf_95 rfl ?_
                refine lv_iload hX0 hB0 dX12_valueOf_96 (lv_at hl 0 rfl) ?_
                refine z_isub (z := (dg - i21) - i30) CX dX12_valueOf_98 rfl ?_
                refine z_calli hW (va_runV (C := RX12) (As := [.int (zI z5j), .int (zI ((dg - i21) - i30))]) (rest := [.long (zL (Int.tmod ((Int.tmod (z47 * z59) (S 0 10)) * z78) (S 0 10))), .long (zL s30)]) CX.fix (zk_power l o S z5j ((dg - i21) - i30) hI (by constructor <;> omega) (by constructor <;> omega)) (cwV 2 CX.fix.2.2.2.2 gX12_valueOf_X12_power rfl rfl rfl (by decide +kernel) ⟨Nat.le_of_ble_eq_true rfl, Nat.le_of_ble_eq_true rfl⟩) (z_preV CX hW (r := (RX12, TX12, 37)) zMO_0 rfl) rfl rfl hl.1 rfl (lv_room (Nat.le_of_ble_eq_true rfl)) dX12_valueOf_99 ⟨Nat.zero_le _, Nat.zero_le _⟩) (fun z99 gn H locs hok hW => ?_)
                obtain ⟨hz99, hg, hq99⟩ := hok
                rw [hg] at hW
                clear hg
                have e99 : zm_power S z5j ((dg - i21) - i30) = z99 := hz99.symm
                clear hz99
                refine z_i2l CX dX12_valueOf_102 (by constructor <;> omega) ?_
                refine z_lmul (z := (Int.tmod ((Int.tmod (z47 * z59) (S 0 10)) * z78) (S 0 10)) * z99) CX dX12_valueOf_103 rfl ?_
                have hm103 := zbox_mul0 (a := Int.tmod ((Int.tmod (z47 * z59) (S 0 10)) * z78) (S 0 10)) (b := z99) (A := 30) (B := 30) (by constructor <;> omega) (by constructor <;> omega) (C := 900) (by decide)
                refine z_ladd (z := s30 + ((Int.tmod ((Int.tmod (z47 * z59) (S 0 10)) * z78) (S 0 10)) * z99)) CX dX12_valueOf_104 rfl ?_
                refine lv_lstore (lv' := [(5, .long (zL (s30 + ((Int.tmod ((Int.tmod (z47 * z59) (S 0 10)) * z78) (S 0 10)) * z99)))), (8, .int (zI i30)), (7, .int (zI i21)), (4, .int (zI z5j)), (0, .ref o), (1, .int (zI g)), (2, .int (zI dg)), (3, .int (zI pt))]) hX0 hB0 dX12_valueOf_105 hl (by decide) rfl (fun ls hl => ?_)
                refine lv_iinc (v := zI (i30 + 1)) (lv' := [(8, .int (zI (i30 + 1))), (5, .long (zL (s30 + ((Int.tmod ((Int.tmod (z47 * z59) (S 0 10)) * z78) (S 0 10)) * z99)))), (7, .int (zI i21)), (4, .int (zI z5j)), (0, .ref o), (1, .int (zI g)), (2, .int (zI dg)), (3, .int (zI pt))]) hX0 hB0 dX12_valueOf_107 hl (k := 1) rfl (zI_add _ _) (by decide) rfl (fun ls hl => ?_)
                refine lv_goto (tgt := 30) hX0 hB0 dX12_valueOf_110 (by decide) ?_
                exact ih30 (i30 + 1) (s30 + ((Int.tmod ((Int.tmod (z47 * z59) (S 0 10)) * z78) (S 0 10)) * z99)) ⟨⟨by omega, by omega⟩, (zfor_s _ _ _ (by omega)).trans ((congrArg (zm_valueOf_L30 S g dg pt z5j i21 i30) hz30).trans (by unfold zm_valueOf_L30; exact zlet_e e47 (zlet_e e54 (zlet_e e59 (zlet_e e73 (zlet_e e78 (zlet_e e99 rfl))))))), by omega⟩ (by omega) H locs ls hW (lv_sub hl [0, 1, 2, 3, 4, 5, 6, 7] rfl)
          exact hL30 _ 0 s21 ⟨⟨by omega, by omega⟩, zfor_0 _ _ _, by omega⟩ (Nat.lt_succ_self _) H locs ls hW (lv_sub hl [0, 2, 1, 3, 4, 5, 6, 7] rfl)
    exact hL21 _ 0 0 ⟨⟨by omega, by omega⟩, zfor_0 _ _ _, by omega⟩ (Nat.lt_succ_self _) H locs ls hW (lv_sub hl [0, 1, 2, 3, 4, 5, 6] rfl)
  refine z_if_eq (tgt := 12) CX dX12_valueOf_5 (by decide) (by constructor <;> omega) (fun c_5 => ?_) (fun c_5 => ?_)
  ·
    refine lv_iconst (v := zI 0) hX0 hB0 dX12_valueOf_12 rfl ?_
    exact hJ5 0 ⟨(by unfold zm_valueOf_J5; exact zif_t c_5 rfl), by omega, by omega⟩ H locs ls hW (lv_sub hl [0, 1, 2, 3] rfl)
  ·
    refine lv_iconst (v := zI 1) hX0 hB0 dX12_valueOf_8 rfl ?_
    refine lv_goto (tgt := 13) hX0 hB0 dX12_valueOf_9 (by decide) ?_
    exact hJ5 1 ⟨(by unfold zm_valueOf_J5; exact zif_f c_5 rfl), by omega, by omega⟩ H locs ls hW (lv_sub hl [0, 1, 2, 3] rfl)
def zm_has (S : zS2) (what : Int) : Int := (if what = 0 then S 0 10 else (if what = 1 then S 0 13 else (if what = 2 then zlet (zm_points S) (fun z43 => z43) else (if what = 3 then S 0 35 else -1))))
set_option maxRecDepth 100000 in
set_option maxHeartbeats 4000000 in
theorem zk_has (l : Launch) {D : va_G} {cI cJ cZ cP cS cM : ClassId} {L : List Nat} {sz : Nat} {f : Nat → va_E} (o : Nat) (S : zS2) (what : Int) (hI : mI S) (hwhat : -2147483648 ≤ what ∧ what ≤ 2147483647) : zMi l yX12_has wsX12_has 1 20 D (zT cI cJ cZ cP cS cM) L sz (zMO cI cJ o S f) [.ref o, .int (zI what)] (fun zv gv => zv = zm_has S what ∧ gv = zMO cI cJ o S f ∧ True) := by
  refine zWalk.met (nL := 2) (ret := (some .int)) (cc := cX12_has) (by decide) rfl (Nat.le_of_ble_eq_true rfl) ?_
  intro pg en st mi ag bl mt cd ls CX hW hl
  have CX : zC pg st mi ag mt cd cX12_has 2 (some .int) RX12 wsX12_has := CX
  generalize hQ : MQ bl _ ag st 0 0 _ = Q
  have hX0 := CX.1
  have hB0 := CX.2.1
  have hl : lv_has ls 2 [(0, .ref o), (1, .int (zI what))] := hl
  obtain ⟨H, eH⟩ : ∃ H, H = st.heap := ⟨_, rfl⟩
  obtain ⟨locs, eL⟩ : ∃ L : List Loc, L = [] := ⟨_, rfl⟩
  have hW : zW D (zT cI cJ cZ cP cS cM) L (zQ L sz) st (zMO cI cJ o S f) st.heap H locs := by rw [eH, eL]; exact hW
  suffices hgo : W pg l en ({ frames := 1, cells := 0, slots := 0, locals := 20 } : Room) st mi ag bl mt cd H locs 0 0 Q (F0 mi 0 ls []) by rw [eH, eL] at hgo; exact hgo
  clear eH eL
  have hpb := hI.s10
  refine lv_iload_n hX0 hB0 dX12_has_0 rfl (lv_at hl 1 rfl) ?_
  by_cases c_1_0 : what = 0
  ·
    refine z_tin (K := 0) (off := 31) (tgt := 32) CX dX12_has_1 (by constructor <;> omega) c_1_0 (by decide) (by decide) rfl (by decide) ?_
    refine lv_aload_n hX0 hB0 dX12_has_32 rfl (lv_at hl 0 rfl) ?_
    refine z_get (Cn := RX12) (T := TX12) (N := 37) CX hW (v := .int (zI (S 0 10))) zMO_0 rfl (fun w h => List.mem_cons_of_mem _ (List.mem_append_right _ h)) 10 (by decide) (List.mem_of_getElem? (i := 1) rfl) rfl rfl dX12_has_33 ?_
    have hr33 := hI.s10
    have hE : zm_has S what = S 0 10 := by unfold zm_has; exact zif_t c_1_0 rfl
    rw [← hQ]
    exact z_iret (z := S 0 10) CX hW (by rw [hE]; exact ⟨rfl, rfl, trivial⟩) rfl dX12_has_36
  by_cases c_1_1 : what = 1
  ·
    refine z_tin (K := 1) (off := 36) (tgt := 37) CX dX12_has_1 (by constructor <;> omega) c_1_1 (by decide) (by decide) rfl (by decide) ?_
    refine lv_aload_n hX0 hB0 dX12_has_37 rfl (lv_at hl 0 rfl) ?_
    refine z_get (Cn := RX12) (T := TX12) (N := 37) CX hW (v := .int (zI (S 0 13))) zMO_0 rfl (fun w h => List.mem_cons_of_mem _ (List.mem_append_right _ h)) 13 (by decide) (List.mem_of_getElem? (i := 2) rfl) rfl rfl dX12_has_38 ?_
    have hr38 := hI.s13
    have hE : zm_has S what = S 0 13 := by unfold zm_has; exact zif_f c_1_0 (zif_t c_1_1 rfl)
    rw [← hQ]
    exact z_iret (z := S 0 13) CX hW (by rw [hE]; exact ⟨rfl, rfl, trivial⟩) rfl dX12_has_41
  by_cases c_1_2 : what = 2
  ·
    refine z_tin (K := 2) (off := 41) (tgt := 42) CX dX12_has_1 (by constructor <;> omega) c_1_2 (by decide) (by decide) rfl (by decide) ?_
    refine lv_aload_n hX0 hB0 dX12_has_42 rfl (lv_at hl 0 rfl) ?_
    refine z_calli hW (va_runV (C := RX12) (As := []) (rest := []) CX.fix (zk_points l o S  hI ) (cwV 0 CX.fix.2.2.2.2 gX12_has_X12_points rfl rfl rfl (by decide +kernel) ⟨Nat.le_of_ble_eq_true rfl, Nat.le_of_ble_eq_true rfl⟩) (z_preV CX hW (r := (RX12, TX12, 37)) zMO_0 rfl) rfl rfl hl.1 rfl (lv_room (Nat.le_of_ble_eq_true rfl)) dX12_has_43 ⟨Nat.zero_le _, Nat.zero_le _⟩) (fun z43 gn H locs hok hW => ?_)
    obtain ⟨hz43, hg, hq43⟩ := hok
    rw [hg] at hW
    clear hg
    have e43 : zm_points S = z43 := hz43.symm
    clear hz43
    have hE : zm_has S what = z43 := by unfold zm_has; exact zif_f c_1_0 (zif_f c_1_1 (zif_t c_1_2 (zlet_e e43 rfl)))
    rw [← hQ]
    exact z_iret (z := z43) CX hW (by rw [hE]; exact ⟨rfl, rfl, trivial⟩) rfl dX12_has_46
  by_cases c_1_3 : what = 3
  ·
    refine z_tin (K := 3) (off := 46) (tgt := 47) CX dX12_has_1 (by constructor <;> omega) c_1_3 (by decide) (by decide) rfl (by decide) ?_
    refine lv_aload_n hX0 hB0 dX12_has_47 rfl (lv_at hl 0 rfl) ?_
    refine z_get (Cn := RX12) (T := TX12) (N := 37) CX hW (v := .int (zI (S 0 35))) zMO_0 rfl (fun w h => List.mem_cons_of_mem _ (List.mem_append_right _ h)) 35 (by decide) (List.mem_of_getElem? (i := 3) rfl) rfl rfl dX12_has_48 ?_
    have hr48 := hI.s35
    have hE : zm_has S what = S 0 35 := by unfold zm_has; exact zif_f c_1_0 (zif_f c_1_1 (zif_f c_1_2 (zif_t c_1_3 rfl)))
    rw [← hQ]
    exact z_iret (z := S 0 35) CX hW (by rw [hE]; exact ⟨rfl, rfl, trivial⟩) rfl dX12_has_51
  refine z_tout (tgt := 52) CX dX12_has_1 (by constructor <;> omega) (by omega) (by decide) ?_
  refine lv_iconst (v := zI (-1)) hX0 hB0 dX12_has_52 rfl ?_
  have hE : zm_has S what = -1 := by unfold zm_has; exact zif_f c_1_0 (zif_f c_1_1 (zif_f c_1_2 (zif_f c_1_3 rfl)))
  rw [← hQ]
  exact z_iret (z := -1) CX hW (by rw [hE]; exact ⟨rfl, rfl, trivial⟩) rfl dX12_has_53
def zm_letter (S : zS2) (cv : Int) (i : Int) : Int := zlet (zm_isCurve S cv) (fun z2 => (if z2 = 0 then -1 else zlet (zm_isIn i 0 5) (fun z11 => (if z11 = 0 then -1 else zlt5 (S 5 cv.toNat) (5 * i)))))
set_option maxRecDepth 100000 in
set_option maxHeartbeats 4000000 in
theorem zk_letter (l : Launch) {D : va_G} {cI cJ cZ cP cS cM : ClassId} {L : List Nat} {sz : Nat} {f : Nat → va_E} (o : Nat) (S : zS2) (cv : Int) (i : Int) (hI : mI S) (hcv : -2147483648 ≤ cv ∧ cv ≤ 2147483647) (hi : -2147483648 ≤ i ∧ i ≤ 2147483647) : zMi l yX12_letter wsX12_letter 2 43 D (zT cI cJ cZ cP cS cM) L sz (zMO cI cJ o S f) [.ref o, .int (zI cv), .int (zI i)] (fun zv gv => zv = zm_letter S cv i ∧ gv = zMO cI cJ o S f ∧ True) := by
  refine zWalk.met (nL := 3) (ret := (some .int)) (cc := cX12_letter) (by decide) rfl (Nat.le_of_ble_eq_true rfl) ?_
  intro pg en st mi ag bl mt cd ls CX hW hl
  have CX : zC pg st mi ag mt cd cX12_letter 3 (some .int) RX12 wsX12_letter := CX
  generalize hQ : MQ bl _ ag st 0 0 _ = Q
  have hX0 := CX.1
  have hB0 := CX.2.1
  have hl : lv_has ls 3 [(0, .ref o), (1, .int (zI cv)), (2, .int (zI i))] := hl
  obtain ⟨H, eH⟩ : ∃ H, H = st.heap := ⟨_, rfl⟩
  obtain ⟨locs, eL⟩ : ∃ L : List Loc, L = [] := ⟨_, rfl⟩
  have hW : zW D (zT cI cJ cZ cP cS cM) L (zQ L sz) st (zMO cI cJ o S f) st.heap H locs := by rw [eH, eL]; exact hW
  suffices hgo : W pg l en ({ frames := 2, cells := 0, slots := 0, locals := 43 } : Room) st mi ag bl mt cd H locs 0 0 Q (F0 mi 0 ls []) by rw [eH, eL] at hgo; exact hgo
  clear eH eL
  have hpb := hI.s10
  refine lv_aload_n hX0 hB0 dX12_letter_0 rfl (lv_at hl 0 rfl) ?_
  refine lv_iload_n hX0 hB0 dX12_letter_1 rfl (lv_at hl 1 rfl) ?_
  refine z_calli hW (va_runV (C := RX12) (As := [.int (zI cv)]) (rest := []) CX.fix (zk_isCurve l o S cv hI (by constructor <;> omega)) (cwV 1 CX.fix.2.2.2.2 gX12_letter_X12_isCurve rfl rfl rfl (by decide +kernel) ⟨Nat.le_of_ble_eq_true rfl, Nat.le_of_ble_eq_true rfl⟩) (z_preV CX hW (r := (RX12, TX12, 37)) zMO_0 rfl) rfl rfl hl.1 rfl (lv_room (Nat.le_of_ble_eq_true rfl)) dX12_letter_2 ⟨Nat.zero_le _, Nat.zero_le _⟩) (fun z2 gn H locs hok hW => ?_)
  obtain ⟨hz2, hg, hq2⟩ := hok
  rw [hg] at hW
  clear hg
  have e2 : zm_isCurve S cv = z2 := hz2.symm
  clear hz2
  refine z_if_eq (tgt := 33) CX dX12_letter_5 (by decide) (by constructor <;> omega) (fun c_5 => ?_) (fun c_5 => ?_)
  ·
    refine lv_iconst (v := zI (-1)) hX0 hB0 dX12_letter_33 rfl ?_
    have hE : zm_letter S cv i = -1 := by unfold zm_letter; exact zlet_e e2 (zif_t c_5 rfl)
    rw [← hQ]
    exact z_iret (z := -1) CX hW (by rw [hE]; exact ⟨rfl, rfl, trivial⟩) rfl dX12_letter_34
  ·
    refine lv_iload_n hX0 hB0 dX12_letter_8 rfl (lv_at hl 2 rfl) ?_
    refine lv_iconst (v := zI 0) hX0 hB0 dX12_letter_9 rfl ?_
    refine lv_iconst (v := zI 5) hX0 hB0 dX12_letter_10 rfl ?_
    refine z_calli hW (va_runS (As := [.int (zI i), .int (zI 0), .int (zI 5)]) (rest := []) CX.fix (zk_isIn l (f := zMO cI cJ o S f) i 0 5 (by constructor <;> omega) (by constructor <;> omega) (by constructor <;> omega)) (va_cwS 3 CX.fix.2.2.2.2 gX12_letter_X12_isIn rfl rfl rfl (by decide +kernel) ⟨Nat.le_of_ble_eq_true rfl, Nat.le_of_ble_eq_true rfl⟩) (z_preS CX hW) rfl rfl hl.1 rfl (lv_room (Nat.le_of_ble_eq_true rfl)) dX12_letter_11 ⟨Nat.zero_le _, Nat.zero_le _⟩) (fun z11 gn H locs hok hW => ?_)
    obtain ⟨hz11, hg, hq11⟩ := hok
    rw [hg] at hW
    clear hg
    have e11 : zm_isIn i 0 5 = z11 := hz11.symm
    clear hz11
    refine z_if_eq (tgt := 33) CX dX12_letter_14 (by decide) (by constructor <;> omega) (fun c_14 => ?_) (fun c_14 => ?_)
    ·
      refine lv_iconst (v := zI (-1)) hX0 hB0 dX12_letter_33 rfl ?_
      have hE : zm_letter S cv i = -1 := by unfold zm_letter; exact zlet_e e2 (zif_f c_5 (zlet_e e11 (zif_t c_14 rfl)))
      rw [← hQ]
      exact z_iret (z := -1) CX hW (by rw [hE]; exact ⟨rfl, rfl, trivial⟩) rfl dX12_letter_34
    ·
      have hci := hq2.2.2 (by omega)
      have hii := hq11.2.2.1 (by omega)
      refine lv_aload_n hX0 hB0 dX12_letter_17 rfl (lv_at hl 0 rfl) ?_
      refine z_get (Cn := RX12) (T := TX12) (N := 37) CX hW (v := .ref (o + 5)) zMO_0 rfl (fun w h => List.mem_cons_of_mem _ (List.mem_append_right _ h)) 14 (by decide) (List.mem_of_getElem? (i := 1) rfl) rfl rfl dX12_letter_18 ?_
      refine lv_iload_n hX0 hB0 dX12_letter_21 rfl (lv_at hl 1 rfl) ?_
      refine z_iald (z := S 5 cv.toNat) CX hW zMO_5 0 rfl (by refine ⟨?_, ?_, ?_⟩ <;> omega) rfl dX12_letter_22 ?_
      have hr22 := hI.r5 cv.toNat
      refine lv_iconst (v := zI 5) hX0 hB0 dX12_letter_23 rfl ?_
      refine lv_iload_n hX0 hB0 dX12_letter_24 rfl (lv_at hl 2 rfl) ?_
      refine z_imul (z := 5 * i) CX dX12_letter_25 rfl ?_
      refine lv_ishr hX0 hB0 dX12_letter_26 ?_
      refine lv_bipush (v := zI 31) hX0 hB0 dX12_letter_27 (by decide) ?_
      refine lv_iand hX0 hB0 dX12_letter_29 ?_
      rw [zshr5 (by omega) (by omega)]
      refine lv_goto (tgt := 34) hX0 hB0 dX12_letter_30 (by decide) ?_
      have hE : zm_letter S cv i = zlt5 (S 5 cv.toNat) (5 * i) := by unfold zm_letter; exact zlet_e e2 (zif_f c_5 (zlet_e e11 (zif_f c_14 rfl)))
      rw [← hQ]
      exact z_iret (z := zlt5 (S 5 cv.toNat) (5 * i)) CX hW (by rw [hE]; exact ⟨rfl, rfl, trivial⟩) rfl dX12_letter_34
def zm_isTerm (i : Int) (j : Int) : Int := (if i < 0 then 0 else (if j < 0 then 0 else (if 4 < i then 0 else (if 4 - i < j then 0 else 1))))
set_option maxRecDepth 100000 in
set_option maxHeartbeats 4000000 in
theorem zk_isTerm (l : Launch) {D : va_G} {cI cJ cZ cP cS cM : ClassId} {L : List Nat} {sz : Nat} {f : Nat → va_E} (i : Int) (j : Int) (hi : -2147483648 ≤ i ∧ i ≤ 2147483647) (hj : -2147483648 ≤ j ∧ j ≤ 2147483647) : zMi l yX12_isTerm wsX12_isTerm 0 0 D (zT cI cJ cZ cP cS cM) L sz f [.int (zI i), .int (zI j)] (fun zv gv => zv = zm_isTerm i j ∧ gv = f ∧ 0 ≤ zv ∧ zv ≤ 1 ∧ (zv ≠ 0 → 0 ≤ i ∧ 0 ≤ j ∧ i ≤ 4 ∧ j ≤ 4 - i)) := by
  refine zWalk.met (nL := 2) (ret := (some .boolean)) (cc := cX12_isTerm) (by decide) rfl (Nat.le_of_ble_eq_true rfl) ?_
  intro pg en st mi ag bl mt cd ls CX hW hl
  have CX : zC pg st mi ag mt cd cX12_isTerm 2 (some .boolean) RX12 wsX12_isTerm := CX
  generalize hQ : MQ bl _ ag st 0 0 _ = Q
  have hX0 := CX.1
  have hB0 := CX.2.1
  have hl : lv_has ls 2 [(0, .int (zI i)), (1, .int (zI j))] := hl
  obtain ⟨H, eH⟩ : ∃ H, H = st.heap := ⟨_, rfl⟩
  obtain ⟨locs, eL⟩ : ∃ L : List Loc, L = [] := ⟨_, rfl⟩
  have hW : zW D (zT cI cJ cZ cP cS cM) L (zQ L sz) st f st.heap H locs := by rw [eH, eL]; exact hW
  suffices hgo : W pg l en ({ frames := 0, cells := 0, slots := 0, locals := 0 } : Room) st mi ag bl mt cd H locs 0 0 Q (F0 mi 0 ls []) by rw [eH, eL] at hgo; exact hgo
  clear eH eL
  refine lv_iload_n hX0 hB0 dX12_isTerm_0 rfl (lv_at hl 0 rfl) ?_
  refine z_if_lt (tgt := 24) CX dX12_isTerm_1 (by decide) (by constructor <;> omega) (fun c_1 => ?_) (fun c_1 => ?_)
  ·
    refine lv_iconst (v := zI 0) hX0 hB0 dX12_isTerm_24 rfl ?_
    have hE : zm_isTerm i j = 0 := by unfold zm_isTerm; exact zif_t c_1 rfl
    rw [← hQ]
    exact z_iret (z := 0) CX hW (by rw [hE]; exact ⟨rfl, rfl, (show 0 ≤ (0 : Int) ∧ (0 : Int) ≤ 1 ∧ ((0 : Int) ≠ 0 → 0 ≤ i ∧ 0 ≤ j ∧ i ≤ 4 ∧ j ≤ 4 - i) from by omega)⟩) rfl dX12_isTerm_25
  ·
    have d_1 : ¬ i < 0 := by omega
    refine lv_iload_n hX0 hB0 dX12_isTerm_4 rfl (lv_at hl 1 rfl) ?_
    refine z_if_lt (tgt := 24) CX dX12_isTerm_5 (by decide) (by constructor <;> omega) (fun c_5 => ?_) (fun c_5 => ?_)
    ·
      refine lv_iconst (v := zI 0) hX0 hB0 dX12_isTerm_24 rfl ?_
      have hE : zm_isTerm i j = 0 := by unfold zm_isTerm; exact zif_f d_1 (zif_t c_5 rfl)
      rw [← hQ]
      exact z_iret (z := 0) CX hW (by rw [hE]; exact ⟨rfl, rfl, (show 0 ≤ (0 : Int) ∧ (0 : Int) ≤ 1 ∧ ((0 : Int) ≠ 0 → 0 ≤ i ∧ 0 ≤ j ∧ i ≤ 4 ∧ j ≤ 4 - i) from by omega)⟩) rfl dX12_isTerm_25
    ·
      have d_5 : ¬ j < 0 := by omega
      refine lv_iload_n hX0 hB0 dX12_isTerm_8 rfl (lv_at hl 0 rfl) ?_
      refine lv_iconst (v := zI 4) hX0 hB0 dX12_isTerm_9 rfl ?_
      refine z_icmp_gt (tgt := 24) CX dX12_isTerm_10 (by decide) (by constructor <;> omega) (by constructor <;> omega) (fun c_10 => ?_) (fun c_10 => ?_)
      ·
        refine lv_iconst (v := zI 0) hX0 hB0 dX12_isTerm_24 rfl ?_
        have hE : zm_isTerm i j = 0 := by unfold zm_isTerm; exact zif_f d_1 (zif_f d_5 (zif_t c_10 rfl))
        rw [← hQ]
        exact z_iret (z := 0) CX hW (by rw [hE]; exact ⟨rfl, rfl, (show 0 ≤ (0 : Int) ∧ (0 : Int) ≤ 1 ∧ ((0 : Int) ≠ 0 → 0 ≤ i ∧ 0 ≤ j ∧ i ≤ 4 ∧ j ≤ 4 - i) from by omega)⟩) rfl dX12_isTerm_25
      ·
        have d_10 : ¬ 4 < i := by omega
        refine lv_iload_n hX0 hB0 dX12_isTerm_13 rfl (lv_at hl 1 rfl) ?_
        refine lv_iconst (v := zI 4) hX0 hB0 dX12_isTerm_14 rfl ?_
        refine lv_iload_n hX0 hB0 dX12_isTerm_15 rfl (lv_at hl 0 rfl) ?_
        refine z_isub (z := 4 - i) CX dX12_isTerm_16 rfl ?_
        refine z_icmp_gt (tgt := 24) CX dX12_isTerm_17 (by decide) (by constructor <;> omega) (by constructor <;> omega) (fun c_17 => ?_) (fun c_17 => ?_)
        ·
          refine lv_iconst (v := zI 0) hX0 hB0 dX12_isTerm_24 rfl ?_
          have hE : zm_isTerm i j = 0 := by unfold zm_isTerm; exact zif_f d_1 (zif_f d_5 (zif_f d_10 (zif_t c_17 rfl)))
          rw [← hQ]
          exact z_iret (z := 0) CX hW (by rw [hE]; exact ⟨rfl, rfl, (show 0 ≤ (0 : Int) ∧ (0 : Int) ≤ 1 ∧ ((0 : Int) ≠ 0 → 0 ≤ i ∧ 0 ≤ j ∧ i ≤ 4 ∧ j ≤ 4 - i) from by omega)⟩) rfl dX12_isTerm_25
        ·
          have d_17 : ¬ 4 - i < j := by omega
          refine lv_iconst (v := zI 1) hX0 hB0 dX12_isTerm_20 rfl ?_
          refine lv_goto (tgt := 25) hX0 hB0 dX12_isTerm_21 (by decide) ?_
          have hE : zm_isTerm i j = 1 := by unfold zm_isTerm; exact zif_f d_1 (zif_f d_5 (zif_f d_10 (zif_f d_17 rfl)))
          rw [← hQ]
          exact z_iret (z := 1) CX hW (by rw [hE]; exact ⟨rfl, rfl, (show 0 ≤ (1 : Int) ∧ (1 : Int) ≤ 1 ∧ ((1 : Int) ≠ 0 → 0 ≤ i ∧ 0 ≤ j ∧ i ≤ 4 ∧ j ≤ 4 - i) from by omega)⟩) rfl dX12_isTerm_25
def zm_term (S : zS2) (cv : Int) (i : Int) (j : Int) : Int := zlet (zm_isCurve S cv) (fun z2 => (if z2 = 0 then -1 else zlet (zm_isTerm i j) (fun z10 => (if z10 = 0 then -1 else zlet (zm_cell S cv i j) (fun z20 => z20)))))
set_option maxRecDepth 100000 in
set_option maxHeartbeats 4000000 in
theorem zk_term (l : Launch) {D : va_G} {cI cJ cZ cP cS cM : ClassId} {L : List Nat} {sz : Nat} {f : Nat → va_E} (o : Nat) (S : zS2) (cv : Int) (i : Int) (j : Int) (hI : mI S) (hcv : -2147483648 ≤ cv ∧ cv ≤ 2147483647) (hi : -2147483648 ≤ i ∧ i ≤ 2147483647) (hj : -2147483648 ≤ j ∧ j ≤ 2147483647) : zMi l yX12_term wsX12_term 2 43 D (zT cI cJ cZ cP cS cM) L sz (zMO cI cJ o S f) [.ref o, .int (zI cv), .int (zI i), .int (zI j)] (fun zv gv => zv = zm_term S cv i j ∧ gv = zMO cI cJ o S f ∧ True) := by
  refine zWalk.met (nL := 4) (ret := (some .int)) (cc := cX12_term) (by decide) rfl (Nat.le_of_ble_eq_true rfl) ?_
  intro pg en st mi ag bl mt cd ls CX hW hl
  have CX : zC pg st mi ag mt cd cX12_term 4 (some .int) RX12 wsX12_term := CX
  generalize hQ : MQ bl _ ag st 0 0 _ = Q
  have hX0 := CX.1
  have hB0 := CX.2.1
  have hl : lv_has ls 4 [(0, .ref o), (1, .int (zI cv)), (2, .int (zI i)), (3, .int (zI j))] := hl
  obtain ⟨H, eH⟩ : ∃ H, H = st.heap := ⟨_, rfl⟩
  obtain ⟨locs, eL⟩ : ∃ L : List Loc, L = [] := ⟨_, rfl⟩
  have hW : zW D (zT cI cJ cZ cP cS cM) L (zQ L sz) st (zMO cI cJ o S f) st.heap H locs := by rw [eH, eL]; exact hW
  suffices hgo : W pg l en ({ frames := 2, cells := 0, slots := 0, locals := 43 } : Room) st mi ag bl mt cd H locs 0 0 Q (F0 mi 0 ls []) by rw [eH, eL] at hgo; exact hgo
  clear eH eL
  have hpb := hI.s10
  refine lv_aload_n hX0 hB0 dX12_term_0 rfl (lv_at hl 0 rfl) ?_
  refine lv_iload_n hX0 hB0 dX12_term_1 rfl (lv_at hl 1 rfl) ?_
  refine z_calli hW (va_runV (C := RX12) (As := [.int (zI cv)]) (rest := []) CX.fix (zk_isCurve l o S cv hI (by constructor <;> omega)) (cwV 1 CX.fix.2.2.2.2 gX12_term_X12_isCurve rfl rfl rfl (by decide +kernel) ⟨Nat.le_of_ble_eq_true rfl, Nat.le_of_ble_eq_true rfl⟩) (z_preV CX hW (r := (RX12, TX12, 37)) zMO_0 rfl) rfl rfl hl.1 rfl (lv_room (Nat.le_of_ble_eq_true rfl)) dX12_term_2 ⟨Nat.zero_le _, Nat.zero_le _⟩) (fun z2 gn H locs hok hW => ?_)
  obtain ⟨hz2, hg, hq2⟩ := hok
  rw [hg] at hW
  clear hg
  have e2 : zm_isCurve S cv = z2 := hz2.symm
  clear hz2
  refine z_if_eq (tgt := 26) CX dX12_term_5 (by decide) (by constructor <;> omega) (fun c_5 => ?_) (fun c_5 => ?_)
  ·
    refine lv_iconst (v := zI (-1)) hX0 hB0 dX12_term_26 rfl ?_
    have hE : zm_term S cv i j = -1 := by unfold zm_term; exact zlet_e e2 (zif_t c_5 rfl)
    rw [← hQ]
    exact z_iret (z := -1) CX hW (by rw [hE]; exact ⟨rfl, rfl, trivial⟩) rfl dX12_term_27
  ·
    refine lv_iload_n hX0 hB0 dX12_term_8 rfl (lv_at hl 2 rfl) ?_
    refine lv_iload_n hX0 hB0 dX12_term_9 rfl (lv_at hl 3 rfl) ?_
    refine z_calli hW (va_runS (As := [.int (zI i), .int (zI j)]) (rest := []) CX.fix (zk_isTerm l (f := zMO cI cJ o S f) i j (by constructor <;> omega) (by constructor <;> omega)) (va_cwS 2 CX.fix.2.2.2.2 gX12_term_X12_isTerm rfl rfl rfl (by decide +kernel) ⟨Nat.le_of_ble_eq_true rfl, Nat.le_of_ble_eq_true rfl⟩) (z_preS CX hW) rfl rfl hl.1 rfl (lv_room (Nat.le_of_ble_eq_true rfl)) dX12_term_10 ⟨Nat.zero_le _, Nat.zero_le _⟩) (fun z10 gn H locs hok hW => ?_)
    obtain ⟨hz10, hg, hq10⟩ := hok
    rw [hg] at hW
    clear hg
    have e10 : zm_isTerm i j = z10 := hz10.symm
    clear hz10
    refine z_if_eq (tgt := 26) CX dX12_term_13 (by decide) (by constructor <;> omega) (fun c_13 => ?_) (fun c_13 => ?_)
    ·
      refine lv_iconst (v := zI (-1)) hX0 hB0 dX12_term_26 rfl ?_
      have hE : zm_term S cv i j = -1 := by unfold zm_term; exact zlet_e e2 (zif_f c_5 (zlet_e e10 (zif_t c_13 rfl)))
      rw [← hQ]
      exact z_iret (z := -1) CX hW (by rw [hE]; exact ⟨rfl, rfl, trivial⟩) rfl dX12_term_27
    ·
      refine lv_aload_n hX0 hB0 dX12_term_16 rfl (lv_at hl 0 rfl) ?_
      refine lv_iload_n hX0 hB0 dX12_term_17 rfl (lv_at hl 1 rfl) ?_
      refine lv_iload_n hX0 hB0 dX12_term_18 rfl (lv_at hl 2 rfl) ?_
      refine lv_iload_n hX0 hB0 dX12_term_19 rfl (lv_at hl 3 rfl) ?_
      refine z_calli hW (va_runV (C := RX12) (As := [.int (zI cv), .int (zI i), .int (zI j)]) (rest := []) CX.fix (zk_cell l o S cv i j hI (by constructor <;> omega) (by constructor <;> omega) (by constructor <;> omega)) (cwV 3 CX.fix.2.2.2.2 gX12_term_X12_cell rfl rfl rfl (by decide +kernel) ⟨Nat.le_of_ble_eq_true rfl, Nat.le_of_ble_eq_true rfl⟩) (z_preV CX hW (r := (RX12, TX12, 37)) zMO_0 rfl) rfl rfl hl.1 rfl (lv_room (Nat.le_of_ble_eq_true rfl)) dX12_term_20 ⟨Nat.zero_le _, Nat.zero_le _⟩) (fun z20 gn H locs hok hW => ?_)
      obtain ⟨hz20, hg, hq20⟩ := hok
      rw [hg] at hW
      clear hg
      have e20 : zm_cell S cv i j = z20 := hz20.symm
      clear hz20
      refine lv_goto (tgt := 27) hX0 hB0 dX12_term_23 (by decide) ?_
      have hE : zm_term S cv i j = z20 := by unfold zm_term; exact zlet_e e2 (zif_f c_5 (zlet_e e10 (zif_f c_13 (zlet_e e20 rfl))))
      rw [← hQ]
      exact z_iret (z := z20) CX hW (by rw [hE]; exact ⟨rfl, rfl, trivial⟩) rfl dX12_term_27
def zm_degree (S : zS2) (cv : Int) : Int := zlet (zm_isCurve S cv) (fun z2 => (if z2 = 0 then -1 else zlet (zm_degreeOf S cv) (fun z10 => z10)))
set_option maxRecDepth 100000 in
set_option maxHeartbeats 4000000 in
theorem zk_degree (l : Launch) {D : va_G} {cI cJ cZ cP cS cM : ClassId} {L : List Nat} {sz : Nat} {f : Nat → va_E} (o : Nat) (S : zS2) (cv : Int) (hI : mI S) (hcv : -2147483648 ≤ cv ∧ cv ≤ 2147483647) : zMi l yX12_degree wsX12_degree 2 47 D (zT cI cJ cZ cP cS cM) L sz (zMO cI cJ o S f) [.ref o, .int (zI cv)] (fun zv gv => zv = zm_degree S cv ∧ gv = zMO cI cJ o S f ∧ True) := by
  refine zWalk.met (nL := 2) (ret := (some .int)) (cc := cX12_degree) (by decide) rfl (Nat.le_of_ble_eq_true rfl) ?_
  intro pg en st mi ag bl mt cd ls CX hW hl
  have CX : zC pg st mi ag mt cd cX12_degree 2 (some .int) RX12 wsX12_degree := CX
  generalize hQ : MQ bl _ ag st 0 0 _ = Q
  have hX0 := CX.1
  have hB0 := CX.2.1
  have hl : lv_has ls 2 [(0, .ref o), (1, .int (zI cv))] := hl
  obtain ⟨H, eH⟩ : ∃ H, H = st.heap := ⟨_, rfl⟩
  obtain ⟨locs, eL⟩ : ∃ L : List Loc, L = [] := ⟨_, rfl⟩
  have hW : zW D (zT cI cJ cZ cP cS cM) L (zQ L sz) st (zMO cI cJ o S f) st.heap H locs := by rw [eH, eL]; exact hW
  suffices hgo : W pg l en ({ frames := 2, cells := 0, slots := 0, locals := 47 } : Room) st mi ag bl mt cd H locs 0 0 Q (F0 mi 0 ls []) by rw [eH, eL] at hgo; exact hgo
  clear eH eL
  have hpb := hI.s10
  refine lv_aload_n hX0 hB0 dX12_degree_0 rfl (lv_at hl 0 rfl) ?_
  refine lv_iload_n hX0 hB0 dX12_degree_1 rfl (lv_at hl 1 rfl) ?_
  refine z_calli hW (va_runV (C := RX12) (As := [.int (zI cv)]) (rest := []) CX.fix (zk_isCurve l o S cv hI (by constructor <;> omega)) (cwV 1 CX.fix.2.2.2.2 gX12_degree_X12_isCurve rfl rfl rfl (by decide +kernel) ⟨Nat.le_of_ble_eq_true rfl, Nat.le_of_ble_eq_true rfl⟩) (z_preV CX hW (r := (RX12, TX12, 37)) zMO_0 rfl) rfl rfl hl.1 rfl (lv_room (Nat.le_of_ble_eq_true rfl)) dX12_degree_2 ⟨Nat.zero_le _, Nat.zero_le _⟩) (fun z2 gn H locs hok hW => ?_)
  obtain ⟨hz2, hg, hq2⟩ := hok
  rw [hg] at hW
  clear hg
  have e2 : zm_isCurve S cv = z2 := hz2.symm
  clear hz2
  refine z_if_eq (tgt := 16) CX dX12_degree_5 (by decide) (by constructor <;> omega) (fun c_5 => ?_) (fun c_5 => ?_)
  ·
    refine lv_iconst (v := zI (-1)) hX0 hB0 dX12_degree_16 rfl ?_
    have hE : zm_degree S cv = -1 := by unfold zm_degree; exact zlet_e e2 (zif_t c_5 rfl)
    rw [← hQ]
    exact z_iret (z := -1) CX hW (by rw [hE]; exact ⟨rfl, rfl, trivial⟩) rfl dX12_degree_17
  ·
    refine lv_aload_n hX0 hB0 dX12_degree_8 rfl (lv_at hl 0 rfl) ?_
    refine lv_iload_n hX0 hB0 dX12_degree_9 rfl (lv_at hl 1 rfl) ?_
    refine z_calli hW (va_runV (C := RX12) (As := [.int (zI cv)]) (rest := []) CX.fix (zk_degreeOf l o S cv hI (by constructor <;> omega)) (cwV 1 CX.fix.2.2.2.2 gX12_degree_X12_degreeOf rfl rfl rfl (by decide +kernel) ⟨Nat.le_of_ble_eq_true rfl, Nat.le_of_ble_eq_true rfl⟩) (z_preV CX hW (r := (RX12, TX12, 37)) zMO_0 rfl) rfl rfl hl.1 rfl (lv_room (Nat.le_of_ble_eq_true rfl)) dX12_degree_10 ⟨Nat.zero_le _, Nat.zero_le _⟩) (fun z10 gn H locs hok hW => ?_)
    obtain ⟨hz10, hg, hq10⟩ := hok
    rw [hg] at hW
    clear hg
    have e10 : zm_degreeOf S cv = z10 := hz10.symm
    clear hz10
    refine lv_goto (tgt := 17) hX0 hB0 dX12_degree_13 (by decide) ?_
    have hE : zm_degree S cv = z10 := by unfold zm_degree; exact zlet_e e2 (zif_f c_5 (zlet_e e10 rfl))
    rw [← hQ]
    exact z_iret (z := z10) CX hW (by rw [hE]; exact ⟨rfl, rfl, trivial⟩) rfl dX12_degree_17
def zm_valueAt (S : zS2) (cv : Int) (pt : Int) : Int := zlet (zm_degreeOf S cv) (fun z4 => zlet (zm_valueOf S cv z4 pt) (fun z8 => z8))
set_option maxRecDepth 100000 in
set_option maxHeartbeats 4000000 in
theorem zk_valueAt (l : Launch) {D : va_G} {cI cJ cZ cP cS cM : ClassId} {L : List Nat} {sz : Nat} {f : Nat → va_E} (o : Nat) (S : zS2) (cv : Int) (pt : Int) (hI : mI S) (hcv : 0 ≤ cv ∧ cv ≤ 144) (hpt : 0 ≤ pt ∧ pt ≤ 992) : zMi l yX12_valueAt wsX12_valueAt 3 77 D (zT cI cJ cZ cP cS cM) L sz (zMO cI cJ o S f) [.ref o, .int (zI cv), .int (zI pt)] (fun zv gv => zv = zm_valueAt S cv pt ∧ gv = zMO cI cJ o S f ∧ 0 ≤ zv ∧ zv < S 0 10) := by
  refine zWalk.met (nL := 3) (ret := (some .int)) (cc := cX12_valueAt) (by decide) rfl (Nat.le_of_ble_eq_true rfl) ?_
  intro pg en st mi ag bl mt cd ls CX hW hl
  have CX : zC pg st mi ag mt cd cX12_valueAt 3 (some .int) RX12 wsX12_valueAt := CX
  generalize hQ : MQ bl _ ag st 0 0 _ = Q
  have hX0 := CX.1
  have hB0 := CX.2.1
  have hl : lv_has ls 3 [(0, .ref o), (1, .int (zI cv)), (2, .int (zI pt))] := hl
  obtain ⟨H, eH⟩ : ∃ H, H = st.heap := ⟨_, rfl⟩
  obtain ⟨locs, eL⟩ : ∃ L : List Loc, L = [] := ⟨_, rfl⟩
  have hW : zW D (zT cI cJ cZ cP cS cM) L (zQ L sz) st (zMO cI cJ o S f) st.heap H locs := by rw [eH, eL]; exact hW
  suffices hgo : W pg l en ({ frames := 3, cells := 0, slots := 0, locals := 77 } : Room) st mi ag bl mt cd H locs 0 0 Q (F0 mi 0 ls []) by rw [eH, eL] at hgo; exact hgo
  clear eH eL
  have hpb := hI.s10
  refine lv_aload_n hX0 hB0 dX12_valueAt_0 rfl (lv_at hl 0 rfl) ?_
  refine lv_iload_n hX0 hB0 dX12_valueAt_1 rfl (lv_at hl 1 rfl) ?_
  refine lv_aload_n hX0 hB0 dX12_valueAt_2 rfl (lv_at hl 0 rfl) ?_
  refine lv_iload_n hX0 hB0 dX12_valueAt_3 rfl (lv_at hl 1 rfl) ?_
  refine z_calli hW (va_runV (C := RX12) (As := [.int (zI cv)]) (rest := [.int (zI cv), .ref o]) CX.fix (zk_degreeOf l o S cv hI (by constructor <;> omega)) (cwV 1 CX.fix.2.2.2.2 gX12_valueAt_X12_degreeOf rfl rfl rfl (by decide +kernel) ⟨Nat.le_of_ble_eq_true rfl, Nat.le_of_ble_eq_true rfl⟩) (z_preV CX hW (r := (RX12, TX12, 37)) zMO_0 rfl) rfl rfl hl.1 rfl (lv_room (Nat.le_of_ble_eq_true rfl)) dX12_valueAt_4 ⟨Nat.zero_le _, Nat.zero_le _⟩) (fun z4 gn H locs hok hW => ?_)
  obtain ⟨hz4, hg, hq4⟩ := hok
  rw [hg] at hW
  clear hg
  have e4 : zm_degreeOf S cv = z4 := hz4.symm
  clear hz4
  refine lv_iload_n hX0 hB0 dX12_valueAt_7 rfl (lv_at hl 2 rfl) ?_
  refine z_calli hW (va_runV (C := RX12) (As := [.int (zI cv), .int (zI z4), .int (zI pt)]) (rest := []) CX.fix (zk_valueOf l o S cv z4 pt hI (by constructor <;> omega) (by constructor <;> omega) (by constructor <;> omega)) (cwV 3 CX.fix.2.2.2.2 gX12_valueAt_X12_valueOf rfl rfl rfl (by decide +kernel) ⟨Nat.le_of_ble_eq_true rfl, Nat.le_of_ble_eq_true rfl⟩) (z_preV CX hW (r := (RX12, TX12, 37)) zMO_0 rfl) rfl rfl hl.1 rfl (lv_room (Nat.le_of_ble_eq_true rfl)) dX12_valueAt_8 ⟨Nat.zero_le _, Nat.zero_le _⟩) (fun z8 gn H locs hok hW => ?_)
  obtain ⟨hz8, hg, hq8⟩ := hok
  rw [hg] at hW
  clear hg
  have e8 : zm_valueOf S cv z4 pt = z8 := hz8.symm
  clear hz8
  have hE : zm_valueAt S cv pt = z8 := by unfold zm_valueAt; exact zlet_e e4 (zlet_e e8 rfl)
  rw [← hQ]
  exact z_iret (z := z8) CX hW (by rw [hE]; exact ⟨rfl, rfl, (show 0 ≤ z8 ∧ z8 < S 0 10 from by omega)⟩) rfl dX12_valueAt_11
def zm_value (S : zS2) (cv : Int) (pt : Int) : Int := zlet (zm_isCurve S cv) (fun z2 => (if z2 = 0 then -1 else zlet (zm_isPoint S pt) (fun z10 => (if z10 = 0 then -1 else zlet (zm_valueAt S cv pt) (fun z19 => z19)))))
set_option maxRecDepth 100000 in
set_option maxHeartbeats 4000000 in
theorem zk_value (l : Launch) {D : va_G} {cI cJ cZ cP cS cM : ClassId} {L : List Nat} {sz : Nat} {f : Nat → va_E} (o : Nat) (S : zS2) (cv : Int) (pt : Int) (hI : mI S) (hcv : -2147483648 ≤ cv ∧ cv ≤ 2147483647) (hpt : -2147483648 ≤ pt ∧ pt ≤ 2147483647) : zMi l yX12_value wsX12_value 4 99 D (zT cI cJ cZ cP cS cM) L sz (zMO cI cJ o S f) [.ref o, .int (zI cv), .int (zI pt)] (fun zv gv => zv = zm_value S cv pt ∧ gv = zMO cI cJ o S f ∧ True) := by
  refine zWalk.met (nL := 3) (ret := (some .int)) (cc := cX12_value) (by decide) rfl (Nat.le_of_ble_eq_true rfl) ?_
  intro pg en st mi ag bl mt cd ls CX hW hl
  have CX : zC pg st mi ag mt cd cX12_value 3 (some .int) RX12 wsX12_value := CX
  generalize hQ : MQ bl _ ag st 0 0 _ = Q
  have hX0 := CX.1
  have hB0 := CX.2.1
  have hl : lv_has ls 3 [(0, .ref o), (1, .int (zI cv)), (2, .int (zI pt))] := hl
  obtain ⟨H, eH⟩ : ∃ H, H = st.heap := ⟨_, rfl⟩
  obtain ⟨locs, eL⟩ : ∃ L : List Loc, L = [] := ⟨_, rfl⟩
  have hW : zW D (zT cI cJ cZ cP cS cM) L (zQ L sz) st (zMO cI cJ o S f) st.heap H locs := by rw [eH, eL]; exact hW
  suffices hgo : W pg l en ({ frames := 4, cells := 0, slots := 0, locals := 99 } : Room) st mi ag bl mt cd H locs 0 0 Q (F0 mi 0 ls []) by rw [eH, eL] at hgo; exact hgo
  clear eH eL
  have hpb := hI.s10
  refine lv_aload_n hX0 hB0 dX12_value_0 rfl (lv_at hl 0 rfl) ?_
  refine lv_iload_n hX0 hB0 dX12_value_1 rfl (lv_at hl 1 rfl) ?_
  refine z_calli hW (va_runV (C := RX12) (As := [.int (zI cv)]) (rest := []) CX.fix (zk_isCurve l o S cv hI (by constructor <;> omega)) (cwV 1 CX.fix.2.2.2.2 gX12_value_X12_isCurve rfl rfl rfl (by decide +kernel) ⟨Nat.le_of_ble_eq_true rfl, Nat.le_of_ble_eq_true rfl⟩) (z_preV CX hW (r := (RX12, TX12, 37)) zMO_0 rfl) rfl rfl hl.1 rfl (lv_room (Nat.le_of_ble_eq_true rfl)) dX12_value_2 ⟨Nat.zero_le _, Nat.zero_le _⟩) (fun z2 gn H locs hok hW => ?_)
  obtain ⟨hz2, hg, hq2⟩ := hok
  rw [hg] at hW
  clear hg
  have e2 : zm_isCurve S cv = z2 := hz2.symm
  clear hz2
  refine z_if_eq (tgt := 25) CX dX12_value_5 (by decide) (by constructor <;> omega) (fun c_5 => ?_) (fun c_5 => ?_)
  ·
    refine lv_iconst (v := zI (-1)) hX0 hB0 dX12_value_25 rfl ?_
    have hE : zm_value S cv pt = -1 := by unfold zm_value; exact zlet_e e2 (zif_t c_5 rfl)
    rw [← hQ]
    exact z_iret (z := -1) CX hW (by rw [hE]; exact ⟨rfl, rfl, trivial⟩) rfl dX12_value_26
  ·
    refine lv_aload_n hX0 hB0 dX12_value_8 rfl (lv_at hl 0 rfl) ?_
    refine lv_iload_n hX0 hB0 dX12_value_9 rfl (lv_at hl 2 rfl) ?_
    refine z_calli hW (va_runV (C := RX12) (As := [.int (zI pt)]) (rest := []) CX.fix (zk_isPoint l o S pt hI (by constructor <;> omega)) (cwV 1 CX.fix.2.2.2.2 gX12_value_X12_isPoint rfl rfl rfl (by decide +kernel) ⟨Nat.le_of_ble_eq_true rfl, Nat.le_of_ble_eq_true rfl⟩) (z_preV CX hW (r := (RX12, TX12, 37)) zMO_0 rfl) rfl rfl hl.1 rfl (lv_room (Nat.le_of_ble_eq_true rfl)) dX12_value_10 ⟨Nat.zero_le _, Nat.zero_le _⟩) (fun z10 gn H locs hok hW => ?_)
    obtain ⟨hz10, hg, hq10⟩ := hok
    rw [hg] at hW
    clear hg
    have e10 : zm_isPoint S pt = z10 := hz10.symm
    clear hz10
    refine z_if_eq (tgt := 25) CX dX12_value_13 (by decide) (by constructor <;> omega) (fun c_13 => ?_) (fun c_13 => ?_)
    ·
      refine lv_iconst (v := zI (-1)) hX0 hB0 dX12_value_25 rfl ?_
      have hE : zm_value S cv pt = -1 := by unfold zm_value; exact zlet_e e2 (zif_f c_5 (zlet_e e10 (zif_t c_13 rfl)))
      rw [← hQ]
      exact z_iret (z := -1) CX hW (by rw [hE]; exact ⟨rfl, rfl, trivial⟩) rfl dX12_value_26
    ·
      refine lv_aload_n hX0 hB0 dX12_value_16 rfl (lv_at hl 0 rfl) ?_
      refine lv_iload_n hX0 hB0 dX12_value_17 rfl (lv_at hl 1 rfl) ?_
      refine lv_iload_n hX0 hB0 dX12_value_18 rfl (lv_at hl 2 rfl) ?_
      refine z_calli hW (va_runV (C := RX12) (As := [.int (zI cv), .int (zI pt)]) (rest := []) CX.fix (zk_valueAt l o S cv pt hI (by constructor <;> omega) (by constructor <;> omega)) (cwV 2 CX.fix.2.2.2.2 gX12_value_X12_valueAt rfl rfl rfl (by decide +kernel) ⟨Nat.le_of_ble_eq_true rfl, Nat.le_of_ble_eq_true rfl⟩) (z_preV CX hW (r := (RX12, TX12, 37)) zMO_0 rfl) rfl rfl hl.1 rfl (lv_room (Nat.le_of_ble_eq_true rfl)) dX12_value_19 ⟨Nat.zero_le _, Nat.zero_le _⟩) (fun z19 gn H locs hok hW => ?_)
      obtain ⟨hz19, hg, hq19⟩ := hok
      rw [hg] at hW
      clear hg
      have e19 : zm_valueAt S cv pt = z19 := hz19.symm
      clear hz19
      refine lv_goto (tgt := 26) hX0 hB0 dX12_value_22 (by decide) ?_
      have hE : zm_value S cv pt = z19 := by unfold zm_value; exact zlet_e e2 (zif_f c_5 (zlet_e e10 (zif_f c_13 (zlet_e e19 rfl))))
      rw [← hQ]
      exact z_iret (z := z19) CX hW (by rw [hE]; exact ⟨rfl, rfl, trivial⟩) rfl dX12_value_26
def zm_point_W20 (S : zS2) (cv : Int) (k : Int) : Nat → Int → Int → (Int) ⊕ (Int × Int)
  | 0, n20, p20 => .inr (n20, p20)
  | fu20 + 1, n20, p20 => zlet (zm_points S) (fun z23 => (if z23 ≤ p20 then .inr (n20, p20) else zlet (zm_valueAt S cv p20) (fun z33 => (if z33 = 0 then (if n20 = k then .inl (p20) else zm_point_W20 S cv k fu20 (n20 + 1) (p20 + 1)) else zm_point_W20 S cv k fu20 n20 (p20 + 1)))))
def zm_point (S : zS2) (cv : Int) (k : Int) : Int := zlet (zm_isCurve S cv) (fun z2 => (if z2 = 0 then -1 else (if -1 ≤ k then zsum (zm_point_W20 S cv k ((995 : Nat)) 0 0) (fun r20 => r20) (fun q20 => (fun (n20 : Int) (p20 : Int) => (if k = -1 then n20 else -1)) q20.1 q20.2) else -1)))
set_option maxRecDepth 100000 in
set_option maxHeartbeats 4000000 in
theorem zk_point (l : Launch) {D : va_G} {cI cJ cZ cP cS cM : ClassId} {L : List Nat} {sz : Nat} {f : Nat → va_E} (o : Nat) (S : zS2) (cv : Int) (k : Int) (hI : mI S) (hcv : -2147483648 ≤ cv ∧ cv ≤ 2147483647) (hk : -2147483648 ≤ k ∧ k ≤ 2147483647) : zMi l yX12_point wsX12_point 4 99 D (zT cI cJ cZ cP cS cM) L sz (zMO cI cJ o S f) [.ref o, .int (zI cv), .int (zI k)] (fun zv gv => zv = zm_point S cv k ∧ gv = zMO cI cJ o S f ∧ True) := by
  refine zWalk.met (nL := 5) (ret := (some .int)) (cc := cX12_point) (by decide) rfl (Nat.le_of_ble_eq_true rfl) ?_
  intro pg en st mi ag bl mt cd ls CX hW hl
  have CX : zC pg st mi ag mt cd cX12_point 5 (some .int) RX12 wsX12_point := CX
  generalize hQ : MQ bl _ ag st 0 0 _ = Q
  have hX0 := CX.1
  have hB0 := CX.2.1
  have hl : lv_has ls 5 [(0, .ref o), (1, .int (zI cv)), (2, .int (zI k))] := hl
  obtain ⟨H, eH⟩ : ∃ H, H = st.heap := ⟨_, rfl⟩
  obtain ⟨locs, eL⟩ : ∃ L : List Loc, L = [] := ⟨_, rfl⟩
  have hW : zW D (zT cI cJ cZ cP cS cM) L (zQ L sz) st (zMO cI cJ o S f) st.heap H locs := by rw [eH, eL]; exact hW
  suffices hgo : W pg l en ({ frames := 4, cells := 0, slots := 0, locals := 99 } : Room) st mi ag bl mt cd H locs 0 0 Q (F0 mi 0 ls []) by rw [eH, eL] at hgo; exact hgo
  clear eH eL
  have hpb := hI.s10
  refine lv_aload_n hX0 hB0 dX12_point_0 rfl (lv_at hl 0 rfl) ?_
  refine lv_iload_n hX0 hB0 dX12_point_1 rfl (lv_at hl 1 rfl) ?_
  refine z_calli hW (va_runV (C := RX12) (As := [.int (zI cv)]) (rest := []) CX.fix (zk_isCurve l o S cv hI (by constructor <;> omega)) (cwV 1 CX.fix.2.2.2.2 gX12_point_X12_isCurve rfl rfl rfl (by decide +kernel) ⟨Nat.le_of_ble_eq_true rfl, Nat.le_of_ble_eq_true rfl⟩) (z_preV CX hW (r := (RX12, TX12, 37)) zMO_0 rfl) rfl rfl hl.1 rfl (lv_room (Nat.le_of_ble_eq_true rfl)) dX12_point_2 ⟨Nat.zero_le _, Nat.zero_le _⟩) (fun z2 gn H locs hok hW => ?_)
  obtain ⟨hz2, hg, hq2⟩ := hok
  rw [hg] at hW
  clear hg
  have e2 : zm_isCurve S cv = z2 := hz2.symm
  clear hz2
  refine z_if_eq (tgt := 13) CX dX12_point_5 (by decide) (by constructor <;> omega) (fun c_5 => ?_) (fun c_5 => ?_)
  ·
    refine lv_iconst (v := zI (-1)) hX0 hB0 dX12_point_13 rfl ?_
    have hE : zm_point S cv k = -1 := by unfold zm_point; exact zlet_e e2 (zif_t c_5 rfl)
    rw [← hQ]
    exact z_iret (z := -1) CX hW (by rw [hE]; exact ⟨rfl, rfl, trivial⟩) rfl dX12_point_14
  ·
    refine lv_iload_n hX0 hB0 dX12_point_8 rfl (lv_at hl 2 rfl) ?_
    refine lv_iconst (v := zI (-1)) hX0 hB0 dX12_point_9 rfl ?_
    refine z_icmp_ge (tgt := 15) CX dX12_point_10 (by decide) (by constructor <;> omega) (by constructor <;> omega) (fun c_10 => ?_) (fun c_10 => ?_)
    ·
      refine lv_iconst (v := zI 0) hX0 hB0 dX12_point_15 rfl ?_
      refine lv_istore_n (lv' := [(3, .int (zI 0)), (0, .ref o), (1, .int (zI cv)), (2, .int (zI k))]) hX0 hB0 dX12_point_16 rfl hl (by decide) rfl (fun ls hl => ?_)
      refine lv_iconst (v := zI 0) hX0 hB0 dX12_point_17 rfl ?_
      refine lv_istore (lv' := [(4, .int (zI 0)), (3, .int (zI 0)), (0, .ref o), (1, .int (zI cv)), (2, .int (zI k))]) hX0 hB0 dX12_point_18 hl (by decide) rfl (fun ls hl => ?_)
      have hXt20 : ∀ (n20 : Int) (p20 : Int), (zm_point_W20 S cv k ((995 : Nat)) 0 0 = .inr (n20, p20) ∧ 0 ≤ n20 ∧ n20 ≤ 1000 ∧ 0 ≤ p20 ∧ p20 ≤ 993 ∧ (n20 ≤ p20)) → ∀ (H : Heap) (locs : List Loc) (ls : Array Slot), zW D (zT cI cJ cZ cP cS cM) L (zQ L sz) st (zMO cI cJ o S f) st.heap H locs → lv_has ls 5 [(3, .int (zI n20)), (4, .int (zI p20)), (0, .ref o), (1, .int (zI cv)), (2, .int (zI k))] → W pg l en ({ frames := 4, cells := 0, slots := 0, locals := 99 } : Room) st mi ag bl mt cd H locs 0 0 Q (F0 mi 59 ls []) := by
        intro n20 p20 hinv H locs ls hW hl
        obtain ⟨e20, han20, hbn20, hap20, hbp20, hv20⟩ := hinv
        refine lv_iload_n hX0 hB0 dX12_point_59 rfl (lv_at hl 4 rfl) ?_
        refine lv_iconst (v := zI (-1)) hX0 hB0 dX12_point_60 rfl ?_
        refine z_icmp_ne (tgt := 68) CX dX12_point_61 (by decide) (by constructor <;> omega) (by constructor <;> omega) (fun c_61 => ?_) (fun c_61 => ?_)
        ·
          refine lv_iconst (v := zI (-1)) hX0 hB0 dX12_point_68 rfl ?_
          have hE : zm_point S cv k = -1 := by unfold zm_point; exact zlet_e e2 (zif_f c_5 (zif_t c_10 (zsum_r e20 (zif_f c_61 rfl))))
          rw [← hQ]
          exact z_iret (z := -1) CX hW (by rw [hE]; exact ⟨rfl, rfl, trivial⟩) rfl dX12_point_69
        ·
          refine lv_iload_n hX0 hB0 dX12_point_64 rfl (lv_at hl 0 rfl) ?_
          refine lv_goto (tgt := 69) hX0 hB0 dX12_point_65 (by decide) ?_
          have hE : zm_point S cv k = n20 := by unfold zm_point; exact zlet_e e2 (zif_f c_5 (zif_t c_10 (zsum_r e20 (zif_t c_61 rfl))))
          rw [← hQ]
          exact z_iret (z := n20) CX hW (by rw [hE]; exact ⟨rfl, rfl, trivial⟩) rfl dX12_point_69
      have hL20 : ∀ (fu : Nat) (n20 : Int) (p20 : Int), (zm_point_W20 S cv k ((995 : Nat)) 0 0 = zm_point_W20 S cv k fu n20 p20 ∧ 0 ≤ n20 ∧ n20 ≤ 1000 ∧ 0 ≤ p20 ∧ p20 ≤ 993 ∧ (n20 ≤ p20)) → (994 - p20).toNat < fu → ∀ (H : Heap) (locs : List Loc) (ls : Array Slot), zW D (zT cI cJ cZ cP cS cM) L (zQ L sz) st (zMO cI cJ o S f) st.heap H locs → lv_has ls 5 [(3, .int (zI n20)), (4, .int (zI p20)), (0, .ref o), (1, .int (zI cv)), (2, .int (zI k))] → W pg l en ({ frames := 4, cells := 0, slots := 0, locals := 99 } : Room) st mi ag bl mt cd H locs 0 0 Q (F0 mi 20 ls []) := by
        intro fu
        induction fu with
        | zero => intro n20 p20 _ hfu; exact absurd hfu (Nat.not_lt_zero _)
        | succ fu ih20 =>
          intro n20 p20 hinv hfu20 H locs ls hW hl
          obtain ⟨hz20, han20, hbn20, hap20, hbp20, hv20⟩ := hinv
          refine lv_iload hX0 hB0 dX12_point_20 (lv_at hl 1 rfl) ?_
          refine lv_aload_n hX0 hB0 dX12_point_22 rfl (lv_at hl 2 rfl) ?_
          refine z_calli hW (va_runV (C := RX12) (As := []) (rest := [.int (zI p20)]) CX.fix (zk_points l o S  hI ) (cwV 0 CX.fix.2.2.2.2 gX12_point_X12_points rfl rfl rfl (by decide +kernel) ⟨Nat.le_of_ble_eq_true rfl, Nat.le_of_ble_eq_true rfl⟩) (z_preV CX hW (r := (RX12, TX12, 37)) zMO_0 rfl) rfl rfl hl.1 rfl (lv_room (Nat.le_of_ble_eq_true rfl)) dX12_point_23 ⟨Nat.zero_le _, Nat.zero_le _⟩) (fun z23 gn H locs hok hW => ?_)
          obtain ⟨hz23, hg, hq23⟩ := hok
          rw [hg] at hW
          clear hg
          have e23 : zm_points S = z23 := hz23.symm
          clear hz23
          refine z_icmp_ge (tgt := 59) CX dX12_point_26 (by decide) (by constructor <;> omega) (by constructor <;> omega) (fun c_26 => ?_) (fun c_26 => ?_)
          ·
            exact hXt20 n20 p20 ⟨hz20.trans (by rw [zm_point_W20]; exact zlet_e e23 (zif_t c_26 rfl)), by omega, by omega, by omega, by omega, by omega⟩ H locs ls hW (lv_sub hl [0, 1, 2, 3, 4] rfl)
          ·
            have d_26 : ¬ z23 ≤ p20 := by omega
            refine lv_aload_n hX0 hB0 dX12_point_29 rfl (lv_at hl 2 rfl) ?_
            refine lv_iload_n hX0 hB0 dX12_point_30 rfl (lv_at hl 3 rfl) ?_
            refine lv_iload hX0 hB0 dX12_point_31 (lv_at hl 1 rfl) ?_
            refine z_calli hW (va_runV (C := RX12) (As := [.int (zI cv), .int (zI p20)]) (rest := []) CX.fix (zk_valueAt l o S cv p20 hI (by constructor <;> omega) (by constructor <;> omega)) (cwV 2 CX.fix.2.2.2.2 gX12_point_X12_valueAt rfl rfl rfl (by decide +kernel) ⟨Nat.le_of_ble_eq_true rfl, Nat.le_of_ble_eq_true rfl⟩) (z_preV CX hW (r := (RX12, TX12, 37)) zMO_0 rfl) rfl rfl hl.1 rfl (lv_room (Nat.le_of_ble_eq_true rfl)) dX12_point_33 ⟨Nat.zero_le _, Nat.zero_le _⟩) (fun z33 gn H locs hok hW => ?_)
            obtain ⟨hz33, hg, hq33⟩ := hok
            rw [hg] at hW
            clear hg
            have e33 : zm_valueAt S cv p20 = z33 := hz33.symm
            clear hz33
            refine z_if_eq (tgt := 42) CX dX12_point_36 (by decide) (by constructor <;> omega) (fun c_36 => ?_) (fun c_36 => ?_)
            ·
              refine lv_iload_n hX0 hB0 dX12_point_42 rfl (lv_at hl 0 rfl) ?_
              refine lv_iload_n hX0 hB0 dX12_point_43 rfl (lv_at hl 4 rfl) ?_
              refine z_icmp_ne (tgt := 50) CX dX12_point_44 (by decide) (by constructor <;> omega) (by constructor <;> omega) (fun c_44 => ?_) (fun c_44 => ?_)
              ·
                refine lv_iinc (v := zI (n20 + 1)) (lv' := [(3, .int (zI (n20 + 1))), (4, .int (zI p20)), (0, .ref o), (1, .int (zI cv)), (2, .int (zI k))]) hX0 hB0 dX12_point_50 hl (k := 0) rfl (zI_add _ _) (by decide) rfl (fun ls hl => ?_)
                refine lv_iinc (v := zI (p20 + 1)) (lv' := [(4, .int (zI (p20 + 1))), (3, .int (zI (n20 + 1))), (0, .ref o), (1, .int (zI cv)), (2, .int (zI k))]) hX0 hB0 dX12_point_53 hl (k := 1) rfl (zI_add _ _) (by decide) rfl (fun ls hl => ?_)
                refine lv_goto (tgt := 20) hX0 hB0 dX12_point_56 (by decide) ?_
                exact ih20 (n20 + 1) (p20 + 1) ⟨hz20.trans (by rw [zm_point_W20]; exact zlet_e e23 (zif_f d_26 (zlet_e e33 (zif_t c_36 (zif_f c_44 rfl))))), by omega, by omega, by omega, by omega, by omega⟩ (by omega) H locs ls hW (lv_sub hl [1, 0, 2, 3, 4] rfl)
              ·
                refine lv_iload hX0 hB0 dX12_point_47 (lv_at hl 1 rfl) ?_
                have hE : zm_point S cv k = p20 := by unfold zm_point; exact zlet_e e2 (zif_f c_5 (zif_t c_10 (zsum_l (hz20.trans (by rw [zm_point_W20]; exact zlet_e e23 (zif_f d_26 (zlet_e e33 (zif_t c_36 (zif_t c_44 rfl)))))) rfl)))
                rw [← hQ]
                exact z_iret (z := p20) CX hW (by rw [hE]; exact ⟨rfl, rfl, trivial⟩) rfl dX12_point_49
            ·
              refine lv_goto (tgt := 53) hX0 hB0 dX12_point_39 (by decide) ?_
              refine lv_iinc (v := zI (p20 + 1)) (lv' := [(4, .int (zI (p20 + 1))), (3, .int (zI n20)), (0, .ref o), (1, .int (zI cv)), (2, .int (zI k))]) hX0 hB0 dX12_point_53 hl (k := 1) rfl (zI_add _ _) (by decide) rfl (fun ls hl => ?_)
              refine lv_goto (tgt := 20) hX0 hB0 dX12_point_56 (by decide) ?_
              exact ih20 n20 (p20 + 1) ⟨hz20.trans (by rw [zm_point_W20]; exact zlet_e e23 (zif_f d_26 (zlet_e e33 (zif_f c_36 rfl)))), by omega, by omega, by omega, by omega, by omega⟩ (by omega) H locs ls hW (lv_sub hl [1, 0, 2, 3, 4] rfl)
      exact hL20 _ 0 0 ⟨rfl, by omega, by omega, by omega, by omega, by omega⟩ (by omega) H locs ls hW (lv_sub hl [1, 0, 2, 3, 4] rfl)
    ·
      have d_10 : ¬ -1 ≤ k := by omega
      refine lv_iconst (v := zI (-1)) hX0 hB0 dX12_point_13 rfl ?_
      have hE : zm_point S cv k = -1 := by unfold zm_point; exact zlet_e e2 (zif_f c_5 (zif_f d_10 rfl))
      rw [← hQ]
      exact z_iret (z := -1) CX hW (by rw [hE]; exact ⟨rfl, rfl, trivial⟩) rfl dX12_point_14
theorem zch_s : ∀ n : Nat, n < 5 → ∀ k : Nat, k < n → Int.tdiv (zCH (n * 5 + k) * ((n : Int) - k)) ((k : Int) + 1) = zCH (n * 5 + k + 1) := by decide +kernel
theorem zch_0 : ∀ n : Nat, n < 5 → zCH (n * 5) = 1 := by decide +kernel
theorem zch_i {n k : Int} (hn : 0 ≤ n ∧ n ≤ 4) (hk : 0 ≤ k ∧ k < n) : Int.tdiv (zCH (n * 5 + k).toNat * (n - k)) (k + 1) = zCH (n * 5 + (k + 1)).toNat := by
  have h := zch_s n.toNat (by omega) k.toNat (by omega)
  rw [Int.toNat_of_nonneg hn.1, Int.toNat_of_nonneg hk.1] at h
  rw [show (n * 5 + k).toNat = n.toNat * 5 + k.toNat by omega, show (n * 5 + (k + 1)).toNat = n.toNat * 5 + k.toNat + 1 by omega]
  exact h
def zm_sets1_L4 (n : Int) : Int → Int → Int := fun i4 s4 => (fun (v4 : Int) => (Int.tdiv (v4 * (n - i4)) (i4 + 1))) s4
def zm_sets1 (n : Int) (many : Int) : Int := zlet (zfor (zm_sets1_L4 n) 0 1 ((many - 1) + 1 - 0).toNat) (fun v4 => v4)
set_option maxRecDepth 100000 in
set_option maxHeartbeats 4000000 in
theorem zk_sets1 (l : Launch) {D : va_G} {cI cJ cZ cP cS cM : ClassId} {L : List Nat} {sz : Nat} {f : Nat → va_E} (n : Int) (many : Int) (hn : 0 ≤ n ∧ n ≤ 4) (hmany : 0 ≤ many ∧ many ≤ 4) (hmn : many ≤ n) : zMi l yX12_sets1 wsX12_sets1 0 0 D (zT cI cJ cZ cP cS cM) L sz f [.int (zI n), .int (zI many)] (fun zv gv => zv = zm_sets1 n many ∧ gv = f ∧ zv = zCH (n * 5 + many).toNat ∧ 0 ≤ zv ∧ zv ≤ 6) := by
  refine zWalk.met (nL := 4) (ret := (some .int)) (cc := cX12_sets1) (by decide) rfl (Nat.le_of_ble_eq_true rfl) ?_
  intro pg en st mi ag bl mt cd ls CX hW hl
  have CX : zC pg st mi ag mt cd cX12_sets1 4 (some .int) RX12 wsX12_sets1 := CX
  generalize hQ : MQ bl _ ag st 0 0 _ = Q
  have hX0 := CX.1
  have hB0 := CX.2.1
  have hl : lv_has ls 4 [(0, .int (zI n)), (1, .int (zI many))] := hl
  obtain ⟨H, eH⟩ : ∃ H, H = st.heap := ⟨_, rfl⟩
  obtain ⟨locs, eL⟩ : ∃ L : List Loc, L = [] := ⟨_, rfl⟩
  have hW : zW D (zT cI cJ cZ cP cS cM) L (zQ L sz) st f st.heap H locs := by rw [eH, eL]; exact hW
  suffices hgo : W pg l en ({ frames := 0, cells := 0, slots := 0, locals := 0 } : Room) st mi ag bl mt cd H locs 0 0 Q (F0 mi 0 ls []) by rw [eH, eL] at hgo; exact hgo
  clear eH eL
  refine lv_iconst (v := zI 1) hX0 hB0 dX12_sets1_0 rfl ?_
  refine lv_istore_n (lv' := [(2, .int (zI 1)), (0, .int (zI n)), (1, .int (zI many))]) hX0 hB0 dX12_sets1_1 rfl hl (by decide) rfl (fun ls hl => ?_)
  refine lv_iconst (v := zI 0) hX0 hB0 dX12_sets1_2 rfl ?_
  refine lv_istore_n (lv' := [(3, .int (zI 0)), (2, .int (zI 1)), (0, .int (zI n)), (1, .int (zI many))]) hX0 hB0 dX12_sets1_3 rfl hl (by decide) rfl (fun ls hl => ?_)
  have hL4 : ∀ (fu : Nat) (i4 : Int) (v4 : Int), ((0 ≤ i4 ∧ i4 ≤ many - 1 + 1) ∧ zfor (zm_sets1_L4 n) 0 1 (i4 - 0).toNat = v4 ∧ 0 ≤ v4 ∧ v4 ≤ 6 ∧ (v4 = zCH (n * 5 + i4).toNat)) → ((many - 1) + 1 - i4).toNat < fu → ∀ (H : Heap) (locs : List Loc) (ls : Array Slot), zW D (zT cI cJ cZ cP cS cM) L (zQ L sz) st f st.heap H locs → lv_has ls 4 [(3, .int (zI i4)), (2, .int (zI v4)), (0, .int (zI n)), (1, .int (zI many))] → W pg l en ({ frames := 0, cells := 0, slots := 0, locals := 0 } : Room) st mi ag bl mt cd H locs 0 0 Q (F0 mi 4 ls []) := by
    intro fu
    induction fu with
    | zero => intro i4 v4 _ hfu; exact absurd hfu (Nat.not_lt_zero _)
    | succ fu ih4 =>
      intro i4 v4 hinv hfu4 H locs ls hW hl
      obtain ⟨⟨hlo4, hhi4⟩, hz4, hav4, hbv4, hv4⟩ := hinv
      refine lv_iload_n hX0 hB0 dX12_sets1_4 rfl (lv_at hl 0 rfl) ?_
      refine lv_iload_n hX0 hB0 dX12_sets1_5 rfl (lv_at hl 3 rfl) ?_
      refine z_icmp_ge (tgt := 25) CX dX12_sets1_6 (by decide) (by constructor <;> omega) (by constructor <;> omega) (fun c_6 => ?_) (fun c_6 => ?_)
      ·
        have e4 : zfor (zm_sets1_L4 n) 0 1 ((many - 1) + 1 - 0).toNat = v4 := by rw [show ((many - 1) + 1 - 0).toNat = (i4 - 0).toNat by omega]; exact hz4
        refine lv_iload_n hX0 hB0 dX12_sets1_25 rfl (lv_at hl 1 rfl) ?_
        have hE : zm_sets1 n many = v4 := by unfold zm_sets1; exact zlet_e e4 rfl
        rw [← hQ]
        exact z_iret (z := v4) CX hW (by rw [hE]; exact ⟨rfl, rfl, (show v4 = zCH (n * 5 + many).toNat ∧ 0 ≤ v4 ∧ v4 ≤ 6 from by (rw [show many = i4 by omega]; have hdr := zCH_rng (n * 5 + i4).toNat; exact ⟨hv4, by omega, by omega⟩))⟩) rfl dX12_sets1_26
      ·
        refine lv_iload_n hX0 hB0 dX12_sets1_9 rfl (lv_at hl 1 rfl) ?_
        refine lv_iload_n hX0 hB0 dX12_sets1_10 rfl (lv_at hl 2 rfl) ?_
        refine lv_iload_n hX0 hB0 dX12_sets1_11 rfl (lv_at hl 0 rfl) ?_
        refine z_isub (z := n - i4) CX dX12_sets1_12 rfl ?_
        refine z_imul (z := v4 * (n - i4)) CX dX12_sets1_13 rfl ?_
        have hm13 := zbox_mul (a := v4) (b := n - i4) (A := 6) (B := 5) (by constructor <;> omega) (by constructor <;> omega) (C := 30) (by decide)
        refine lv_iload_n hX0 hB0 dX12_sets1_14 rfl (lv_at hl 0 rfl) ?_
        refine lv_iconst (v := zI 1) hX0 hB0 dX12_sets1_15 rfl ?_
        refine z_iadd (z := i4 + 1) CX dX12_sets1_16 rfl ?_
        have hdv : Int.tdiv (v4 * (n - i4)) (i4 + 1) = zCH (n * 5 + (i4 + 1)).toNat := by rw [hv4]; exact zch_i (by omega) (by omega)
        have hdr := zCH_rng (n * 5 + (i4 + 1)).toNat
        refine z_idiv (z := Int.tdiv (v4 * (n - i4)) (i4 + 1)) CX dX12_sets1_17 (by constructor <;> omega) (by constructor <;> omega) rfl ?_
        refine lv_istore_n (lv' := [(2, .int (zI (Int.tdiv (v4 * (n - i4)) (i4 + 1)))), (3, .int (zI i4)), (0, .int (zI n)), (1, .int (zI many))]) hX0 hB0 dX12_sets1_18 rfl hl (by decide) rfl (fun ls hl => ?_)
        refine lv_iinc (v := zI (i4 + 1)) (lv' := [(3, .int (zI (i4 + 1))), (2, .int (zI (Int.tdiv (v4 * (n - i4)) (i4 + 1)))), (0, .int (zI n)), (1, .int (zI many))]) hX0 hB0 dX12_sets1_19 hl (k := 1) rfl (zI_add _ _) (by decide) rfl (fun ls hl => ?_)
        refine lv_goto (tgt := 4) hX0 hB0 dX12_sets1_22 (by decide) ?_
        exact ih4 (i4 + 1) (Int.tdiv (v4 * (n - i4)) (i4 + 1)) ⟨⟨by omega, by omega⟩, (zfor_s _ _ _ (by omega)).trans ((congrArg (zm_sets1_L4 n i4) hz4).trans (by unfold zm_sets1_L4; exact rfl)), by omega, by omega, by rw [hv4]; exact zch_i (by omega) (by omega)⟩ (by omega) H locs ls hW (lv_sub hl [0, 1, 2, 3] rfl)
  exact hL4 _ 0 1 ⟨⟨by omega, by omega⟩, zfor_0 _ _ _, by omega, by omega, by rw [show (n * 5 + 0).toNat = n.toNat * 5 by omega, zch_0 _ (by omega)]⟩ (Nat.lt_succ_self _) H locs ls hW (lv_sub hl [0, 1, 2, 3] rfl)
def zm_addsPowers_L3 (to : Int) (by_ : Int) (a : Int) (i : Int) (j : Int) : Int → zS2 → zS2 := fun i3 s3 => (fun (S3 : zS2) => zlet (zm_cell S3 to i3 j) (fun z22 => zlet (zm_sets1 i i3) (fun z31 => zlet (zm_power S3 a (i - i3)) (fun z50 => zlet (zm_sets S3 to i3 j (z22 + (Int.tmod ((Int.tmod (by_ * z31) (S3 0 10)) * z50) (S3 0 10)))) (fun S62 => S62))))) s3
def zm_addsPowers (S : zS2) (to : Int) (by_ : Int) (a : Int) (i : Int) (j : Int) : zS2 := zlet (zfor (zm_addsPowers_L3 to by_ a i j) 0 S (i + 1 - 0).toNat) (fun S3 => S3)
set_option maxRecDepth 100000 in
set_option maxHeartbeats 4000000 in
theorem zk_addsPowers (l : Launch) {D : va_G} {cI cJ cZ cP cS cM : ClassId} {L : List Nat} {sz : Nat} {f : Nat → va_E} (o : Nat) (S : zS2) (to : Int) (by_ : Int) (a : Int) (i : Int) (j : Int) (hI : mI S) (hto : 0 ≤ to ∧ to ≤ 238) (hby_ : -1000 ≤ by_ ∧ by_ ≤ 1000) (ha : 0 ≤ a ∧ a ≤ 1000) (hi : 0 ≤ i ∧ i ≤ 4) (hj : 0 ≤ j ∧ j ≤ 4) : zMv l yX12_addsPowers wsX12_addsPowers 2 49 D (zT cI cJ cZ cP cS cM) L sz (zMO cI cJ o S f) [.ref o, .int (zI to), .long (zL by_), .int (zI a), .int (zI i), .int (zI j)] (fun gv => gv = zMO cI cJ o (zm_addsPowers S to by_ a i j) f ∧ mI (zm_addsPowers S to by_ a i j) ∧ (∀ kk ii : Nat, ¬ (kk = 3 ∧ 25 * to ≤ (ii : Int)) → (zm_addsPowers S to by_ a i j) kk ii = S kk ii) ∧ True) := by
  refine zWalk.met (nL := 8) (ret := none) (cc := cX12_addsPowers) (by decide) rfl (Nat.le_of_ble_eq_true rfl) ?_
  intro pg en st mi ag bl mt cd ls CX hW hl
  have CX : zC pg st mi ag mt cd cX12_addsPowers 8 none RX12 wsX12_addsPowers := CX
  generalize hQ : MQ bl _ ag st 0 0 _ = Q
  have hX0 := CX.1
  have hB0 := CX.2.1
  have hl : lv_has ls 8 [(0, .ref o), (1, .int (zI to)), (2, .long (zL by_)), (4, .int (zI a)), (5, .int (zI i)), (6, .int (zI j))] := hl
  obtain ⟨H, eH⟩ : ∃ H, H = st.heap := ⟨_, rfl⟩
  obtain ⟨locs, eL⟩ : ∃ L : List Loc, L = [] := ⟨_, rfl⟩
  have hW : zW D (zT cI cJ cZ cP cS cM) L (zQ L sz) st (zMO cI cJ o S f) st.heap H locs := by rw [eH, eL]; exact hW
  suffices hgo : W pg l en ({ frames := 2, cells := 0, slots := 0, locals := 49 } : Room) st mi ag bl mt cd H locs 0 0 Q (F0 mi 0 ls []) by rw [eH, eL] at hgo; exact hgo
  clear eH eL
  have hpb := hI.s10
  refine lv_iconst (v := zI 0) hX0 hB0 dX12_addsPowers_0 rfl ?_
  refine lv_istore (lv' := [(7, .int (zI 0)), (0, .ref o), (1, .int (zI to)), (2, .long (zL by_)), (4, .int (zI a)), (5, .int (zI i)), (6, .int (zI j))]) hX0 hB0 dX12_addsPowers_1 hl (by decide) rfl (fun ls hl => ?_)
  have hL3 : ∀ (fu : Nat) (i3 : Int) (S3 : zS2), ((0 ≤ i3 ∧ i3 ≤ i + 1) ∧ zfor (zm_addsPowers_L3 to by_ a i j) 0 S (i3 - 0).toNat = S3 ∧ mI S3 ∧ (∀ kk ii : Nat, ¬ (kk = 3 ∧ 25 * to ≤ (ii : Int)) → S3 kk ii = S kk ii)) → (i + 1 - i3).toNat < fu → ∀ (H : Heap) (locs : List Loc) (ls : Array Slot), zW D (zT cI cJ cZ cP cS cM) L (zQ L sz) st (zMO cI cJ o S3 f) st.heap H locs → lv_has ls 8 [(7, .int (zI i3)), (0, .ref o), (1, .int (zI to)), (2, .long (zL by_)), (4, .int (zI a)), (5, .int (zI i)), (6, .int (zI j))] → W pg l en ({ frames := 2, cells := 0, slots := 0, locals := 49 } : Room) st mi ag bl mt cd H locs 0 0 Q (F0 mi 3 ls []) := by
    intro fu
    induction fu with
    | zero => intro i3 S3 _ hfu; exact absurd hfu (Nat.not_lt_zero _)
    | succ fu ih3 =>
      intro i3 S3 hinv hfu3 H locs ls hW hl
      obtain ⟨⟨hlo3, hhi3⟩, hz3, hI3, hf3⟩ := hinv
      have hp3 := hI3.s10
      refine lv_iload hX0 hB0 dX12_addsPowers_3 (lv_at hl 0 rfl) ?_
      refine lv_iload hX0 hB0 dX12_addsPowers_5 (lv_at hl 5 rfl) ?_
      refine z_icmp_gt (tgt := 71) CX dX12_addsPowers_7 (by decide) (by constructor <;> omega) (by constructor <;> omega) (fun c_7 => ?_) (fun c_7 => ?_)
      ·
        have e3 : zfor (zm_addsPowers_L3 to by_ a i j) 0 S (i + 1 - 0).toNat = S3 := by rw [show (i + 1 - 0).toNat = (i3 - 0).toNat by omega]; exact hz3
        have hE : zm_addsPowers S to by_ a i j = S3 := by unfold zm_addsPowers; exact zlet_e e3 rfl
        have hFr : ∀ kk ii : Nat, ¬ (kk = 3 ∧ 25 * to ≤ (ii : Int)) → S3 kk ii = S kk ii := fun kk ii hk => (hf3 kk ii (by omega))
        rw [← hQ]
        exact z_vret CX hW (by rw [hE]; exact ⟨rfl, hI3, hFr, trivial⟩) dX12_addsPowers_71
      ·
        refine lv_aload_n hX0 hB0 dX12_addsPowers_10 rfl (lv_at hl 1 rfl) ?_
        refine lv_iload_n hX0 hB0 dX12_addsPowers_11 rfl (lv_at hl 2 rfl) ?_
        refine lv_iload hX0 hB0 dX12_addsPowers_12 (lv_at hl 0 rfl) ?_
        refine lv_iload hX0 hB0 dX12_addsPowers_14 (lv_at hl 6 rfl) ?_
        refine lv_aload_n hX0 hB0 dX12_addsPowers_16 rfl (lv_at hl 1 rfl) ?_
        refine lv_iload_n hX0 hB0 dX12_addsPowers_17 rfl (lv_at hl 2 rfl) ?_
        refine lv_iload hX0 hB0 dX12_addsPowers_18 (lv_at hl 0 rfl) ?_
        refine lv_iload hX0 hB0 dX12_addsPowers_20 (lv_at hl 6 rfl) ?_
        refine z_calli hW (va_runV (C := RX12) (As := [.int (zI to), .int (zI i3), .int (zI j)]) (rest := [.int (zI j), .int (zI i3), .int (zI to), .ref o]) CX.fix (zk_cell l o S3 to i3 j hI3 (by constructor <;> omega) (by constructor <;> omega) (by constructor <;> omega)) (cwV 3 CX.fix.2.2.2.2 gX12_addsPowers_X12_cell rfl rfl rfl (by decide +kernel) ⟨Nat.le_of_ble_eq_true rfl, Nat.le_of_ble_eq_true rfl⟩) (z_preV CX hW (r := (RX12, TX12, 37)) zMO_0 rfl) rfl rfl hl.1 rfl (lv_room (Nat.le_of_ble_eq_true rfl)) dX12_addsPowers_22 ⟨Nat.zero_le _, Nat.zero_le _⟩) (fun z22 gn H locs hok hW => ?_)
        obtain ⟨hz22, hg, hq22⟩ := hok
        rw [hg] at hW
        clear hg
        have e22 : zm_cell S3 to i3 j = z22 := hz22.symm
        clear hz22
        refine z_i2l CX dX12_addsPowers_25 (by constructor <;> omega) ?_
        refine lv_lload_n hX0 hB0 dX12_addsPowers_26 rfl (lv_at hl 3 rfl) ?_
        refine lv_iload hX0 hB0 dX12_addsPowers_27 (lv_at hl 5 rfl) ?_
        refine lv_iload hX0 hB0 dX12_addsPowers_29 (lv_at hl 0 rfl) ?_
        refine z_calli hW (va_runS (As := [.int (zI i), .int (zI i3)]) (rest := [.long (zL by_), .long (zL z22), .int (zI j), .int (zI i3), .int (zI to), .ref o]) CX.fix (zk_sets1 l (f := zMO cI cJ o S3 f) i i3 (by constructor <;> omega) (by constructor <;> omega) (by omega)) (va_cwS 2 CX.fix.2.2.2.2 gX12_addsPowers_X12_sets1 rfl rfl rfl (by decide +kernel) ⟨Nat.le_of_ble_eq_true rfl, Nat.le_of_ble_eq_true rfl⟩) (z_preS CX hW) rfl rfl hl.1 rfl (lv_room (Nat.le_of_ble_eq_true rfl)) dX12_addsPowers_31 ⟨Nat.zero_le _, Nat.zero_le _⟩) (fun z31 gn H locs hok hW => ?_)
        obtain ⟨hz31, hg, hq31⟩ := hok
        rw [hg] at hW
        clear hg
        have e31 : zm_sets1 i i3 = z31 := hz31.symm
        clear hz31
        refine z_i2l CX dX12_addsPowers_34 (by constructor <;> omega) ?_
        refine z_lmul (z := by_ * z31) CX dX12_addsPowers_35 rfl ?_
        have hm35 := zbox_mul (a := by_) (b := z31) (A := 1000) (B := 6) (by constructor <;> omega) (by constructor <;> omega) (C := 6000) (by decide)
        refine lv_aload_n hX0 hB0 dX12_addsPowers_36 rfl (lv_at hl 1 rfl) ?_
        refine z_get (Cn := RX12) (T := TX12) (N := 37) CX hW (v := .int (zI (S3 0 10))) zMO_0 rfl (fun w h => List.mem_cons_of_mem _ (List.mem_append_right _ h)) 10 (by decide) (List.mem_of_getElem? (i := 1) rfl) rfl rfl dX12_addsPowers_37 ?_
        have hr37 := hI3.s10
        refine z_i2l CX dX12_addsPowers_40 (by constructor <;> omega) ?_
        refine z_lrem (z := Int.tmod (by_ * z31) (S3 0 10)) CX dX12_addsPowers_41 (by constructor <;> omega) (by constructor <;> omega) rfl ?_
        have ht41 := ztm (n := by_ * z31) (p := S3 0 10) (by omega)
        refine lv_aload_n hX0 hB0 dX12_addsPowers_42 rfl (lv_at hl 1 rfl) ?_
        refine lv_iload hX0 hB0 dX12_addsPowers_43 (lv_at hl 4 rfl) ?_
        refine lv_iload hX0 hB0 dX12_addsPowers_45 (lv_at hl 5 rfl) ?_
        refine lv_iload hX0 hB0 dX12_addsPowers_47 (lv_at hl 0 rfl) ?_
        refine z_isub (z := i - i3) CX dX12_addsPowers_49 rfl ?_
        refine z_calli hW (va_runV (C := RX12) (As := [.int (zI a), .int (zI (i - i3))]) (rest := [.long (zL (Int.tmod (by_ * z31) (S3 0 10))), .long (zL z22), .int (zI j), .int (zI i3), .int (zI to), .ref o]) CX.fix (zk_power l o S3 a (i - i3) hI3 (by constructor <;> omega) (by constructor <;> omega)) (cwV 2 CX.fix.2.2.2.2 gX12_addsPowers_X12_power rfl rfl rfl (by decide +kernel) ⟨Nat.le_of_ble_eq_true rfl, Nat.le_of_ble_eq_true rfl⟩) (z_preV CX hW (r := (RX12, TX12, 37)) zMO_0 rfl) rfl rfl hl.1 rfl (lv_room (Nat.le_of_ble_eq_true rfl)) dX12_addsPowers_50 ⟨Nat.zero_le _, Nat.zero_le _⟩) (fun z50 gn H locs hok hW => ?_)
        obtain ⟨hz50, hg, hq50⟩ := hok
        rw [hg] at hW
        clear hg
        have e50 : zm_power S3 a (i - i3) = z50 := hz50.symm
        clear hz50
        refine z_i2l CX dX12_addsPowers_53 (by constructor <;> omega) ?_
        refine z_lmul (z := (Int.tmod (by_ * z31) (S3 0 10)) * z50) CX dX12_addsPowers_54 rfl ?_
        have hm54 := zbox_mul (a := Int.tmod (by_ * z31) (S3 0 10)) (b := z50) (A := 30) (B := 30) (by constructor <;> omega) (by constructor <;> omega) (C := 900) (by decide)
        refine lv_aload_n hX0 hB0 dX12_addsPowers_55 rfl (lv_at hl 1 rfl) ?_
        refine z_get (Cn := RX12) (T := TX12) (N := 37) CX hW (v := .int (zI (S3 0 10))) zMO_0 rfl (fun w h => List.mem_cons_of_mem _ (List.mem_append_right _ h)) 10 (by decide) (List.mem_of_getElem? (i := 1) rfl) rfl rfl dX12_addsPowers_56 ?_
        have hr56 := hI3.s10
        refine z_i2l CX dX12_addsPowers_59 (by constructor <;> omega) ?_
        refine z_lrem (z := Int.tmod ((Int.tmod (by_ * z31) (S3 0 10)) * z50) (S3 0 10)) CX dX12_addsPowers_60 (by constructor <;> omega) (by constructor <;> omega) rfl ?_
        have ht60 := ztm (n := (Int.tmod (by_ * z31) (S3 0 10)) * z50) (p := S3 0 10) (by omega)
        refine z_ladd (z := z22 + (Int.tmod ((Int.tmod (by_ * z31) (S3 0 10)) * z50) (S3 0 10))) CX dX12_addsPowers_61 rfl ?_
        refine z_callv hW (va_runV (C := RX12) (As := [.int (zI to), .int (zI i3), .int (zI j), .long (zL (z22 + (Int.tmod ((Int.tmod (by_ * z31) (S3 0 10)) * z50) (S3 0 10))))]) (rest := []) CX.fix (zk_sets l o S3 to i3 j (z22 + (Int.tmod ((Int.tmod (by_ * z31) (S3 0 10)) * z50) (S3 0 10))) hI3 (by constructor <;> omega) (by constructor <;> omega) (by constructor <;> omega) (by constructor <;> omega)) (cwV 4 CX.fix.2.2.2.2 gX12_addsPowers_X12_sets rfl rfl rfl (by decide +kernel) ⟨Nat.le_of_ble_eq_true rfl, Nat.le_of_ble_eq_true rfl⟩) (z_preV CX hW (r := (RX12, TX12, 37)) zMO_0 rfl) rfl rfl hl.1 rfl (lv_room (Nat.le_of_ble_eq_true rfl)) dX12_addsPowers_62 ⟨Nat.zero_le _, Nat.zero_le _⟩) (fun gn H locs hok hW => ?_)
        obtain ⟨hg, hI62, hf62, hq62⟩ := hok
        obtain ⟨S62, e62⟩ : ∃ q, zm_sets S3 to i3 j (z22 + (Int.tmod ((Int.tmod (by_ * z31) (S3 0 10)) * z50) (S3 0 10))) = q := ⟨_, rfl⟩
        rw [e62] at hg hI62 hf62
        skip
        try rw [e62] at hq62
        rw [hg] at hW
        clear hg
        refine lv_iinc (v := zI (i3 + 1)) (lv' := [(7, .int (zI (i3 + 1))), (0, .ref o), (1, .int (zI to)), (2, .long (zL by_)), (4, .int (zI a)), (5, .int (zI i)), (6, .int (zI j))]) hX0 hB0 dX12_addsPowers_65 hl (k := 0) rfl (zI_add _ _) (by decide) rfl (fun ls hl => ?_)
        refine lv_goto (tgt := 3) hX0 hB0 dX12_addsPowers_68 (by decide) ?_
        exact ih3 (i3 + 1) S62 ⟨⟨by omega, by omega⟩, (zfor_s _ _ _ (by omega)).trans ((congrArg (zm_addsPowers_L3 to by_ a i j i3) hz3).trans (by unfold zm_addsPowers_L3; exact zlet_e e22 (zlet_e e31 (zlet_e e50 (zlet_e e62 rfl))))), hI62, fun kk ii hk => ((hf62 kk ii (by omega))).trans (hf3 kk ii (by omega))⟩ (by omega) H locs ls hW (lv_sub hl [0, 1, 2, 3, 4, 5, 6] rfl)
  exact hL3 _ 0 S ⟨⟨by omega, by omega⟩, zfor_0 _ _ _, hI, fun kk ii hk => rfl⟩ (Nat.lt_succ_self _) H locs ls hW (lv_sub hl [0, 1, 2, 3, 4, 5, 6] rfl)
def zm_laysLocal_L75 (g : Int) (pt : Int) (i15 : Int) (i25 : Int) (z41 : Int) : Int → zS2 → zS2 := fun i75 s75 => (fun (S75 : zS2) => zlet (zm_sets1 i25 i75) (fun z91 => zlet (zm_yOf S75 pt) (fun z105 => zlet (zm_power S75 z105 (i25 - i75)) (fun z113 => zlet (zm_xOf S75 pt) (fun z120 => zlet (zm_addsPowers S75 g ((Int.tmod (z41 * z91) (S75 0 10)) * z113) z120 i15 i75) (fun S127 => S127)))))) s75
def zm_laysLocal_L25 (g : Int) (cv : Int) (pt : Int) (z2 : Int) (i15 : Int) : Int → zS2 → zS2 := fun i25 s25 => (fun (S25 : zS2) => zlet (zm_cell S25 cv i15 i25) (fun z41 => (if z41 = 0 then S25 else zlet (zm_isNear S25 pt) (fun z66 => (if z66 = 0 then zlet (zm_points S25) (fun z141 => (if z141 - 1 ≤ pt then zlet (zm_cell S25 g i15 ((z2 - i15) - i25)) (fun z181 => zlet (zm_sets S25 g i15 ((z2 - i15) - i25) (z181 + z41)) (fun S188 => S188)) else zlet (zm_yOf S25 pt) (fun z156 => zlet (zm_addsPowers S25 g z41 z156 i25 ((z2 - i15) - i25)) (fun S163 => S163)))) else zlet (zfor (zm_laysLocal_L75 g pt i15 i25 z41) 0 S25 (i25 + 1 - 0).toNat) (fun S75 => S75)))))) s25
def zm_laysLocal_L15 (g : Int) (cv : Int) (pt : Int) (z2 : Int) : Int → zS2 → zS2 := fun i15 s15 => (fun (S15 : zS2) => zlet (zfor (zm_laysLocal_L25 g cv pt z2 i15) 0 S15 ((z2 - i15) + 1 - 0).toNat) (fun S25 => S25)) s15
def zm_laysLocal (S : zS2) (g : Int) (cv : Int) (pt : Int) : zS2 := zlet (zm_degreeOf S cv) (fun z2 => zlet (zm_empties S g) (fun S9 => zlet (zfor (zm_laysLocal_L15 g cv pt z2) 0 S9 (z2 + 1 - 0).toNat) (fun S15 => S15)))
set_option maxRecDepth 100000 in
set_option maxHeartbeats 4000000 in
theorem zk_laysLocal (l : Launch) {D : va_G} {cI cJ cZ cP cS cM : ClassId} {L : List Nat} {sz : Nat} {f : Nat → va_E} (o : Nat) (S : zS2) (g : Int) (cv : Int) (pt : Int) (hI : mI S) (hg : 0 ≤ g ∧ g ≤ 238) (hcv : 0 ≤ cv ∧ cv ≤ 238) (hpt : 0 ≤ pt ∧ pt ≤ 992) : zMv l yX12_laysLocal wsX12_laysLocal 3 76 D (zT cI cJ cZ cP cS cM) L sz (zMO cI cJ o S f) [.ref o, .int (zI g), .int (zI cv), .int (zI pt)] (fun gv => gv = zMO cI cJ o (zm_laysLocal S g cv pt) f ∧ mI (zm_laysLocal S g cv pt) ∧ (∀ kk ii : Nat, ¬ (kk = 3 ∧ 25 * g ≤ (ii : Int)) → (zm_laysLocal S g cv pt) kk ii = S kk ii) ∧ True) := by
  refine zWalk.met (nL := 10) (ret := none) (cc := cX12_laysLocal) (by decide) rfl (Nat.le_of_ble_eq_true rfl) ?_
  intro pg en st mi ag bl mt cd ls CX hW hl
  have CX : zC pg st mi ag mt cd cX12_laysLocal 10 none RX12 wsX12_laysLocal := CX
  generalize hQ : MQ bl _ ag st 0 0 _ = Q
  have hX0 := CX.1
  have hB0 := CX.2.1
  have hl : lv_has ls 10 [(0, .ref o), (1, .int (zI g)), (2, .int (zI cv)), (3, .int (zI pt))] := hl
  obtain ⟨H, eH⟩ : ∃ H, H = st.heap := ⟨_, rfl⟩
  obtain ⟨locs, eL⟩ : ∃ L : List Loc, L = [] := ⟨_, rfl⟩
  have hW : zW D (zT cI cJ cZ cP cS cM) L (zQ L sz) st (zMO cI cJ o S f) st.heap H locs := by rw [eH, eL]; exact hW
  suffices hgo : W pg l en ({ frames := 3, cells := 0, slots := 0, locals := 76 } : Room) st mi ag bl mt cd H locs 0 0 Q (F0 mi 0 ls []) by rw [eH, eL] at hgo; exact hgo
  clear eH eL
  have hpb := hI.s10
  refine lv_aload_n hX0 hB0 dX12_laysLocal_0 rfl (lv_at hl 0 rfl) ?_
  refine lv_iload_n hX0 hB0 dX12_laysLocal_1 rfl (lv_at hl 2 rfl) ?_
  refine z_calli hW (va_runV (C := RX12) (As := [.int (zI cv)]) (rest := []) CX.fix (zk_degreeOf l o S cv hI (by constructor <;> omega)) (cwV 1 CX.fix.2.2.2.2 gX12_laysLocal_X12_degreeOf rfl rfl rfl (by decide +kernel) ⟨Nat.le_of_ble_eq_true rfl, Nat.le_of_ble_eq_true rfl⟩) (z_preV CX hW (r := (RX12, TX12, 37)) zMO_0 rfl) rfl rfl hl.1 rfl (lv_room (Nat.le_of_ble_eq_true rfl)) dX12_laysLocal_2 ⟨Nat.zero_le _, Nat.zero_le _⟩) (fun z2 gn H locs hok hW => ?_)
  obtain ⟨hz2, hg, hq2⟩ := hok
  rw [hg] at hW
  clear hg
  have e2 : zm_degreeOf S cv = z2 := hz2.symm
  clear hz2
  refine lv_istore (lv' := [(4, .int (zI z2)), (0, .ref o), (1, .int (zI g)), (2, .int (zI cv)), (3, .int (zI pt))]) hX0 hB0 dX12_laysLocal_5 hl (by decide) rfl (fun ls hl => ?_)
  refine lv_aload_n hX0 hB0 dX12_laysLocal_7 rfl (lv_at hl 1 rfl) ?_
  refine lv_iload_n hX0 hB0 dX12_laysLocal_8 rfl (lv_at hl 2 rfl) ?_
  refine z_callv hW (va_runV (C := RX12) (As := [.int (zI g)]) (rest := []) CX.fix (zk_empties l o S g hI (by constructor <;> omega)) (cwV 1 CX.fix.2.2.2.2 gX12_laysLocal_X12_empties rfl rfl rfl (by decide +kernel) ⟨Nat.le_of_ble_eq_true rfl, Nat.le_of_ble_eq_true rfl⟩) (z_preV CX hW (r := (RX12, TX12, 37)) zMO_0 rfl) rfl rfl hl.1 rfl (lv_room (Nat.le_of_ble_eq_true rfl)) dX12_laysLocal_9 ⟨Nat.zero_le _, Nat.zero_le _⟩) (fun gn H locs hok hW => ?_)
  obtain ⟨hg, hI9, hf9, hq9⟩ := hok
  obtain ⟨S9, e9⟩ : ∃ q, zm_empties S g = q := ⟨_, rfl⟩
  rw [e9] at hg hI9 hf9
  skip
  try rw [e9] at hq9
  rw [hg] at hW
  clear hg
  refine lv_iconst (v := zI 0) hX0 hB0 dX12_laysLocal_12 rfl ?_
  refine lv_istore (lv' := [(5, .int (zI 0)), (4, .int (zI z2)), (0, .ref o), (1, .int (zI g)), (2, .int (zI cv)), (3, .int (zI pt))]) hX0 hB0 dX12_laysLocal_13 hl (by decide) rfl (fun ls hl => ?_)
  have hL15 : ∀ (fu : Nat) (i15 : Int) (S15 : zS2), ((0 ≤ i15 ∧ i15 ≤ z2 + 1) ∧ zfor (zm_laysLocal_L15 g cv pt z2) 0 S9 (i15 - 0).toNat = S15 ∧ mI S15 ∧ (∀ kk ii : Nat, ¬ (kk = 3 ∧ 25 * g ≤ (ii : Int)) → S15 kk ii = S9 kk ii)) → (z2 + 1 - i15).toNat < fu → ∀ (H : Heap) (locs : List Loc) (ls : Array Slot), zW D (zT cI cJ cZ cP cS cM) L (zQ L sz) st (zMO cI cJ o S15 f) st.heap H locs → lv_has ls 10 [(5, .int (zI i15)), (4, .int (zI z2)), (0, .ref o), (1, .int (zI g)), (2, .int (zI cv)), (3, .int (zI pt))] → W pg l en ({ frames := 3, cells := 0, slots := 0, locals := 76 } : Room) st mi ag bl mt cd H locs 0 0 Q (F0 mi 15 ls []) := by
    intro fu
    induction fu with
    | zero => intro i15 S15 _ hfu; exact absurd hfu (Nat.not_lt_zero _)
    | succ fu ih15 =>
      intro i15 S15 hinv hfu15 H locs ls hW hl
      obtain ⟨⟨hlo15, hhi15⟩, hz15, hI15, hf15⟩ := hinv
      have hp15 := hI15.s10
      refine lv_iload hX0 hB0 dX12_laysLocal_15 (lv_at hl 0 rfl) ?_
      refine lv_iload hX0 hB0 dX12_laysLocal_17 (lv_at hl 1 rfl) ?_
      refine z_icmp_gt (tgt := 203) CX dX12_laysLocal_19 (by decide) (by constructor <;> omega) (by constructor <;> omega) (fun c_19 => ?_) (fun c_19 => ?_)
      ·
        have e15 : zfor (zm_laysLocal_L15 g cv pt z2) 0 S9 (z2 + 1 - 0).toNat = S15 := by rw [show (z2 + 1 - 0).toNat = (i15 - 0).toNat by omega]; exact hz15
        have hE : zm_laysLocal S g cv pt = S15 := by unfold zm_laysLocal; exact zlet_e e2 (zlet_e e9 (zlet_e e15 rfl))
        have hFr : ∀ kk ii : Nat, ¬ (kk = 3 ∧ 25 * g ≤ (ii : Int)) → S15 kk ii = S kk ii := fun kk ii hk => ((hf15 kk ii (by omega))).trans (hf9 kk ii (by omega))
        rw [← hQ]
        exact z_vret CX hW (by rw [hE]; exact ⟨rfl, hI15, hFr, trivial⟩) dX12_laysLocal_203
      ·
        refine lv_iconst (v := zI 0) hX0 hB0 dX12_laysLocal_22 rfl ?_
        refine lv_istore (lv' := [(6, .int (zI 0)), (5, .int (zI i15)), (4, .int (zI z2)), (0, .ref o), (1, .int (zI g)), (2, .int (zI cv)), (3, .int (zI pt))]) hX0 hB0 dX12_laysLocal_23 hl (by decide) rfl (fun ls hl => ?_)
        have hL25 : ∀ (fu : Nat) (i25 : Int) (S25 : zS2), ((0 ≤ i25 ∧ i25 ≤ z2 - i15 + 1) ∧ zfor (zm_laysLocal_L25 g cv pt z2 i15) 0 S15 (i25 - 0).toNat = S25 ∧ mI S25 ∧ (∀ kk ii : Nat, ¬ (kk = 3 ∧ 25 * g ≤ (ii : Int)) → S25 kk ii = S15 kk ii)) → ((z2 - i15) + 1 - i25).toNat < fu → ∀ (H : Heap) (locs : List Loc) (ls : Array Slot), zW D (zT cI cJ cZ cP cS cM) L (zQ L sz) st (zMO cI cJ o S25 f) st.heap H locs → lv_has ls 10 [(6, .int (zI i25)), (5, .int (zI i15)), (4, .int (zI z2)), (0, .ref o), (1, .int (zI g)), (2, .int (zI cv)), (3, .int (zI pt))] → W pg l en ({ frames := 3, cells := 0, slots := 0, locals := 76 } : Room) st mi ag bl mt cd H locs 0 0 Q (F0 mi 25 ls []) := by
          intro fu
          induction fu with
          | zero => intro i25 S25 _ hfu; exact absurd hfu (Nat.not_lt_zero _)
          | succ fu ih25 =>
            intro i25 S25 hinv hfu25 H locs ls hW hl
            obtain ⟨⟨hlo25, hhi25⟩, hz25, hI25, hf25⟩ := hinv
            have hp25 := hI25.s10
            refine lv_iload hX0 hB0 dX12_laysLocal_25 (lv_at hl 1 rfl) ?_
            refine lv_iload hX0 hB0 dX12_laysLocal_27 (lv_at hl 0 rfl) ?_
            refine z_iadd (z := i15 + i25) CX dX12_laysLocal_29 rfl ?_
            refine lv_iload hX0 hB0 dX12_laysLocal_30 (lv_at hl 2 rfl) ?_
            refine z_icmp_gt (tgt := 197) CX dX12_laysLocal_32 (by decide) (by constructor <;> omega) (by constructor <;> omega) (fun c_32 => ?_) (fun c_32 => ?_)
            ·
              have e25 : zfor (zm_laysLocal_L25 g cv pt z2 i15) 0 S15 ((z2 - i15) + 1 - 0).toNat = S25 := by rw [show ((z2 - i15) + 1 - 0).toNat = (i25 - 0).toNat by omega]; exact hz25
              refine lv_iinc (v := zI (i15 + 1)) (lv' := [(5, .int (zI (i15 + 1))), (6, .int (zI i25)), (4, .int (zI z2)), (0, .ref o), (1, .int (zI g)), (2, .int (zI cv)), (3, .int (zI pt))]) hX0 hB0 dX12_laysLocal_197 hl (k := 1) rfl (zI_add _ _) (by decide) rfl (fun ls hl => ?_)
              refine lv_goto (tgt := 15) hX0 hB0 dX12_laysLocal_200 (by decide) ?_
              exact ih15 (i15 + 1) S25 ⟨⟨by omega, by omega⟩, (zfor_s _ _ _ (by omega)).trans ((congrArg (zm_laysLocal_L15 g cv pt z2 i15) hz15).trans (by unfold zm_laysLocal_L15; exact zlet_e e25 rfl)), hI25, fun kk ii hk => ((hf25 kk ii (by omega))).trans (hf15 kk ii (by omega))⟩ (by omega) H locs ls hW (lv_sub hl [0, 2, 3, 4, 5, 6] rfl)
            ·
              refine lv_aload_n hX0 hB0 dX12_laysLocal_35 rfl (lv_at hl 3 rfl) ?_
              refine lv_iload_n hX0 hB0 dX12_laysLocal_36 rfl (lv_at hl 5 rfl) ?_
              refine lv_iload hX0 hB0 dX12_laysLocal_37 (lv_at hl 1 rfl) ?_
              refine lv_iload hX0 hB0 dX12_laysLocal_39 (lv_at hl 0 rfl) ?_
              refine z_calli hW (va_runV (C := RX12) (As := [.int (zI cv), .int (zI i15), .int (zI i25)]) (rest := []) CX.fix (zk_cell l o S25 cv i15 i25 hI25 (by constructor <;> omega) (by constructor <;> omega) (by constructor <;> omega)) (cwV 3 CX.fix.2.2.2.2 gX12_laysLocal_X12_cell rfl rfl rfl (by decide +kernel) ⟨Nat.le_of_ble_eq_true rfl, Nat.le_of_ble_eq_true rfl⟩) (z_preV CX hW (r := (RX12, TX12, 37)) zMO_0 rfl) rfl rfl hl.1 rfl (lv_room (Nat.le_of_ble_eq_true rfl)) dX12_laysLocal_41 ⟨Nat.zero_le _, Nat.zero_le _⟩) (fun z41 gn H locs hok hW => ?_)
              obtain ⟨hz41, hg, hq41⟩ := hok
              rw [hg] at hW
              clear hg
              have e41 : zm_cell S25 cv i15 i25 = z41 := hz41.symm
              clear hz41
              refine lv_istore (lv' := [(7, .int (zI z41)), (6, .int (zI i25)), (5, .int (zI i15)), (4, .int (zI z2)), (0, .ref o), (1, .int (zI g)), (2, .int (zI cv)), (3, .int (zI pt))]) hX0 hB0 dX12_laysLocal_44 hl (by decide) rfl (fun ls hl => ?_)
              refine lv_iload hX0 hB0 dX12_laysLocal_46 (lv_at hl 0 rfl) ?_
              refine z_if_ne (tgt := 54) CX dX12_laysLocal_48 (by decide) (by constructor <;> omega) (fun c_48 => ?_) (fun c_48 => ?_)
              ·
                refine lv_iload hX0 hB0 dX12_laysLocal_54 (lv_at hl 3 rfl) ?_
                refine lv_iload hX0 hB0 dX12_laysLocal_56 (lv_at hl 2 rfl) ?_
                refine z_isub (z := z2 - i15) CX dX12_laysLocal_58 rfl ?_
                refine lv_iload hX0 hB0 dX12_laysLocal_59 (lv_at hl 1 rfl) ?_
                refine z_isub (z := (z2 - i15) - i25) CX dX12_laysLocal_61 rfl ?_
                refine lv_istore (lv' := [(8, .int (zI ((z2 - i15) - i25))), (7, .int (zI z41)), (6, .int (zI i25)), (5, .int (zI i15)), (4, .int (zI z2)), (0, .ref o), (1, .int (zI g)), (2, .int (zI cv)), (3, .int (zI pt))]) hX0 hB0 dX12_laysLocal_62 hl (by decide) rfl (fun ls hl => ?_)
                refine lv_aload_n hX0 hB0 dX12_laysLocal_64 rfl (lv_at hl 5 rfl) ?_
                refine lv_iload_n hX0 hB0 dX12_laysLocal_65 rfl (lv_at hl 8 rfl) ?_
                refine z_calli hW (va_runV (C := RX12) (As := [.int (zI pt)]) (rest := []) CX.fix (zk_isNear l o S25 pt hI25 (by constructor <;> omega)) (cwV 1 CX.fix.2.2.2.2 gX12_laysLocal_X12_isNear rfl rfl rfl (by decide +kernel) ⟨Nat.le_of_ble_eq_true rfl, Nat.le_of_ble_eq_true rfl⟩) (z_preV CX hW (r := (RX12, TX12, 37)) zMO_0 rfl) rfl rfl hl.1 rfl (lv_room (Nat.le_of_ble_eq_true rfl)) dX12_laysLocal_66 ⟨Nat.zero_le _, Nat.zero_le _⟩) (fun z66 gn H locs hok hW => ?_)
                obtain ⟨hz66, hg, hq66⟩ := hok
                rw [hg] at hW
                clear hg
                have e66 : zm_isNear S25 pt = z66 := hz66.symm
                clear hz66
                refine z_if_eq (tgt := 139) CX dX12_laysLocal_69 (by decide) (by constructor <;> omega) (fun c_69 => ?_) (fun c_69 => ?_)
                ·
                  refine lv_iload_n hX0 hB0 dX12_laysLocal_139 rfl (lv_at hl 8 rfl) ?_
                  refine lv_aload_n hX0 hB0 dX12_laysLocal_140 rfl (lv_at hl 5 rfl) ?_
                  refine z_calli hW (va_runV (C := RX12) (As := []) (rest := [.int (zI pt)]) CX.fix (zk_points l o S25  hI25 ) (cwV 0 CX.fix.2.2.2.2 gX12_laysLocal_X12_points rfl rfl rfl (by decide +kernel) ⟨Nat.le_of_ble_eq_true rfl, Nat.le_of_ble_eq_true rfl⟩) (z_preV CX hW (r := (RX12, TX12, 37)) zMO_0 rfl) rfl rfl hl.1 rfl (lv_room (Nat.le_of_ble_eq_true rfl)) dX12_laysLocal_141 ⟨Nat.zero_le _, Nat.zero_le _⟩) (fun z141 gn H locs hok hW => ?_)
                  obtain ⟨hz141, hg, hq141⟩ := hok
                  rw [hg] at hW
                  clear hg
                  have e141 : zm_points S25 = z141 := hz141.symm
                  clear hz141
                  refine lv_iconst (v := zI 1) hX0 hB0 dX12_laysLocal_144 rfl ?_
                  refine z_isub (z := z141 - 1) CX dX12_laysLocal_145 rfl ?_
                  refine z_icmp_ge (tgt := 169) CX dX12_laysLocal_146 (by decide) (by constructor <;> omega) (by constructor <;> omega) (fun c_146 => ?_) (fun c_146 => ?_)
                  ·
                    refine lv_aload_n hX0 hB0 dX12_laysLocal_169 rfl (lv_at hl 5 rfl) ?_
                    refine lv_iload_n hX0 hB0 dX12_laysLocal_170 rfl (lv_at hl 6 rfl) ?_
                    refine lv_iload hX0 hB0 dX12_laysLocal_171 (lv_at hl 3 rfl) ?_
                    refine lv_iload hX0 hB0 dX12_laysLocal_173 (lv_at hl 0 rfl) ?_
                    refine lv_aload_n hX0 hB0 dX12_laysLocal_175 rfl (lv_at hl 5 rfl) ?_
                    refine lv_iload_n hX0 hB0 dX12_laysLocal_176 rfl (lv_at hl 6 rfl) ?_
                    refine lv_iload hX0 hB0 dX12_laysLocal_177 (lv_at hl 3 rfl) ?_
                    refine lv_iload hX0 hB0 dX12_laysLocal_179 (lv_at hl 0 rfl) ?_
                    refine z_calli hW (va_runV (C := RX12) (As := [.int (zI g), .int (zI i15), .int (zI ((z2 - i15) - i25))]) (rest := [.int (zI ((z2 - i15) - i25)), .int (zI i15), .int (zI g), .ref o]) CX.fix (zk_cell l o S25 g i15 ((z2 - i15) - i25) hI25 (by constructor <;> omega) (by constructor <;> omega) (by constructor <;> omega)) (cwV 3 CX.fix.2.2.2.2 gX12_laysLocal_X12_cell rfl rfl rfl (by decide +kernel) ⟨Nat.le_of_ble_eq_true rfl, Nat.le_of_ble_eq_true rfl⟩) (z_preV CX hW (r := (RX12, TX12, 37)) zMO_0 rfl) rfl rfl hl.1 rfl (lv_room (Nat.le_of_ble_eq_true rfl)) dX12_laysLocal_181 ⟨Nat.zero_le _, Nat.zero_le _⟩) (fun z181 gn H locs hok hW => ?_)
                    obtain ⟨hz181, hg, hq181⟩ := hok
                    rw [hg] at hW
                    clear hg
                    have e181 : zm_cell S25 g i15 ((z2 - i15) - i25) = z181 := hz181.symm
                    clear hz181
                    refine lv_iload hX0 hB0 dX12_laysLocal_184 (lv_at hl 1 rfl) ?_
                    refine z_iadd (z := z181 + z41) CX dX12_laysLocal_186 rfl ?_
                    refine z_i2l CX dX12_laysLocal_187 (by constructor <;> omega) ?_
                    refine z_callv hW (va_runV (C := RX12) (As := [.int (zI g), .int (zI i15), .int (zI ((z2 - i15) - i25)), .long (zL (z181 + z41))]) (rest := []) CX.fix (zk_sets l o S25 g i15 ((z2 - i15) - i25) (z181 + z41) hI25 (by constructor <;> omega) (by constructor <;> omega) (by constructor <;> omega) (by constructor <;> omega)) (cwV 4 CX.fix.2.2.2.2 gX12_laysLocal_X12_sets rfl rfl rfl (by decide +kernel) ⟨Nat.le_of_ble_eq_true rfl, Nat.le_of_ble_eq_true rfl⟩) (z_preV CX hW (r := (RX12, TX12, 37)) zMO_0 rfl) rfl rfl hl.1 rfl (lv_room (Nat.le_of_ble_eq_true rfl)) dX12_laysLocal_188 ⟨Nat.zero_le _, Nat.zero_le _⟩) (fun gn H locs hok hW => ?_)
                    obtain ⟨hg, hI188, hf188, hq188⟩ := hok
                    obtain ⟨S188, e188⟩ : ∃ q, zm_sets S25 g i15 ((z2 - i15) - i25) (z181 + z41) = q := ⟨_, rfl⟩
                    rw [e188] at hg hI188 hf188
                    skip
                    try rw [e188] at hq188
                    rw [hg] at hW
                    clear hg
                    refine lv_iinc (v := zI (i25 + 1)) (lv' := [(6, .int (zI (i25 + 1))), (8, .int (zI ((z2 - i15) - i25))), (7, .int (zI z41)), (5, .int (zI i15)), (4, .int (zI z2)), (0, .ref o), (1, .int (zI g)), (2, .int (zI cv)), (3, .int (zI pt))]) hX0 hB0 dX12_laysLocal_191 hl (k := 2) rfl (zI_add _ _) (by decide) rfl (fun ls hl => ?_)
                    refine lv_goto (tgt := 25) hX0 hB0 dX12_laysLocal_194 (by decide) ?_
                    exact ih25 (i25 + 1) S188 ⟨⟨by omega, by omega⟩, (zfor_s _ _ _ (by omega)).trans ((congrArg (zm_laysLocal_L25 g cv pt z2 i15 i25) hz25).trans (by unfold zm_laysLocal_L25; exact zlet_e e41 (zif_f c_48 (zlet_e e66 (zif_t c_69 (zlet_e e141 (zif_t c_146 (zlet_e e181 (zlet_e e188 rfl))))))))), hI188, fun kk ii hk => ((hf188 kk ii (by omega))).trans (hf25 kk ii (by omega))⟩ (by omega) H locs ls hW (lv_sub hl [0, 3, 4, 5, 6, 7, 8] rfl)
                  ·
                    have d_146 : ¬ z141 - 1 ≤ pt := by omega
                    refine lv_aload_n hX0 hB0 dX12_laysLocal_149 rfl (lv_at hl 5 rfl) ?_
                    refine lv_iload_n hX0 hB0 dX12_laysLocal_150 rfl (lv_at hl 6 rfl) ?_
                    refine lv_iload hX0 hB0 dX12_laysLocal_151 (lv_at hl 1 rfl) ?_
                    refine z_i2l CX dX12_laysLocal_153 (by constructor <;> omega) ?_
                    refine lv_aload_n hX0 hB0 dX12_laysLocal_154 rfl (lv_at hl 5 rfl) ?_
                    refine lv_iload_n hX0 hB0 dX12_laysLocal_155 rfl (lv_at hl 8 rfl) ?_
                    refine z_calli hW (va_runV (C := RX12) (As := [.int (zI pt)]) (rest := [.long (zL z41), .int (zI g), .ref o]) CX.fix (zk_yOf l o S25 pt hI25 (by constructor <;> omega)) (cwV 1 CX.fix.2.2.2.2 gX12_laysLocal_X12_yOf rfl rfl rfl (by decide +kernel) ⟨Nat.le_of_ble_eq_true rfl, Nat.le_of_ble_eq_true rfl⟩) (z_preV CX hW (r := (RX12, TX12, 37)) zMO_0 rfl) rfl rfl hl.1 rfl (lv_room (Nat.le_of_ble_eq_true rfl)) dX12_laysLocal_156 ⟨Nat.zero_le _, Nat.zero_le _⟩) (fun z156 gn H locs hok hW => ?_)
                    obtain ⟨hz156, hg, hq156⟩ := hok
                    rw [hg] at hW
                    clear hg
                    have e156 : zm_yOf S25 pt = z156 := hz156.symm
                    clear hz156
                    refine lv_iload hX0 hB0 dX12_laysLocal_159 (lv_at hl 2 rfl) ?_
                    refine lv_iload hX0 hB0 dX12_laysLocal_161 (lv_at hl 0 rfl) ?_
                    refine z_callv hW (va_runV (C := RX12) (As := [.int (zI g), .long (zL z41), .int (zI z156), .int (zI i25), .int (zI ((z2 - i15) - i25))]) (rest := []) CX.fix (zk_addsPowers l o S25 g z41 z156 i25 ((z2 - i15) - i25) hI25 (by constructor <;> omega) (by constructor <;> omega) (by constructor <;> omega) (by constructor <;> omega) (by constructor <;> omega)) (cwV 5 CX.fix.2.2.2.2 gX12_laysLocal_X12_addsPowers rfl rfl rfl (by decide +kernel) ⟨Nat.le_of_ble_eq_true rfl, Nat.le_of_ble_eq_true rfl⟩) (z_preV CX hW (r := (RX12, TX12, 37)) zMO_0 rfl) rfl rfl hl.1 rfl (lv_room (Nat.le_of_ble_eq_true rfl)) dX12_laysLocal_163 ⟨Nat.zero_le _, Nat.zero_le _⟩) (fun gn H locs hok hW => ?_)
                    obtain ⟨hg, hI163, hf163, hq163⟩ := hok
                    obtain ⟨S163, e163⟩ : ∃ q, zm_addsPowers S25 g z41 z156 i25 ((z2 - i15) - i25) = q := ⟨_, rfl⟩
                    rw [e163] at hg hI163 hf163
                    skip
                    try rw [e163] at hq163
                    rw [hg] at hW
                    clear hg
                    refine lv_goto (tgt := 191) hX0 hB0 dX12_laysLocal_166 (by decide) ?_
                    refine lv_iinc (v := zI (i25 + 1)) (lv' := [(6, .int (zI (i25 + 1))), (8, .int (zI ((z2 - i15) - i25))), (7, .int (zI z41)), (5, .int (zI i15)), (4, .int (zI z2)), (0, .ref o), (1, .int (zI g)), (2, .int (zI cv)), (3, .int (zI pt))]) hX0 hB0 dX12_laysLocal_191 hl (k := 2) rfl (zI_add _ _) (by decide) rfl (fun ls hl => ?_)
                    refine lv_goto (tgt := 25) hX0 hB0 dX12_laysLocal_194 (by decide) ?_
                    exact ih25 (i25 + 1) S163 ⟨⟨by omega, by omega⟩, (zfor_s _ _ _ (by omega)).trans ((congrArg (zm_laysLocal_L25 g cv pt z2 i15 i25) hz25).trans (by unfold zm_laysLocal_L25; exact zlet_e e41 (zif_f c_48 (zlet_e e66 (zif_t c_69 (zlet_e e141 (zif_f d_146 (zlet_e e156 (zlet_e e163 rfl))))))))), hI163, fun kk ii hk => ((hf163 kk ii (by omega))).trans (hf25 kk ii (by omega))⟩ (by omega) H locs ls hW (lv_sub hl [0, 3, 4, 5, 6, 7, 8] rfl)
                ·
                  refine lv_iconst (v := zI 0) hX0 hB0 dX12_laysLocal_72 rfl ?_
                  refine lv_istore (lv' := [(9, .int (zI 0)), (8, .int (zI ((z2 - i15) - i25))), (7, .int (zI z41)), (6, .int (zI i25)), (5, .int (zI i15)), (4, .int (zI z2)), (0, .ref o), (1, .int (zI g)), (2, .int (zI cv)), (3, .int (zI pt))]) hX0 hB0 dX12_laysLocal_73 hl (by decide) rfl (fun ls hl => ?_)
                  have hL75 : ∀ (fu : Nat) (i75 : Int) (S75 : zS2), ((0 ≤ i75 ∧ i75 ≤ i25 + 1) ∧ zfor (zm_laysLocal_L75 g pt i15 i25 z41) 0 S25 (i75 - 0).toNat = S75 ∧ mI S75 ∧ (∀ kk ii : Nat, ¬ (kk = 3 ∧ 25 * g ≤ (ii : Int)) → S75 kk ii = S25 kk ii)) → (i25 + 1 - i75).toNat < fu → ∀ (H : Heap) (locs : List Loc) (ls : Array Slot), zW D (zT cI cJ cZ cP cS cM) L (zQ L sz) st (zMO cI cJ o S75 f) st.heap H locs → lv_has ls 10 [(9, .int (zI i75)), (8, .int (zI ((z2 - i15) - i25))), (7, .int (zI z41)), (6, .int (zI i25)), (5, .int (zI i15)), (4, .int (zI z2)), (0, .ref o), (1, .int (zI g)), (2, .int (zI cv)), (3, .int (zI pt))] → W pg l en ({ frames := 3, cells := 0, slots := 0, locals := 76 } : Room) st mi ag bl mt cd H locs 0 0 Q (F0 mi 75 ls []) := by
                    intro fu
                    induction fu with
                    | zero => intro i75 S75 _ hfu; exact absurd hfu (Nat.not_lt_zero _)
                    | succ fu ih75 =>
                      intro i75 S75 hinv hfu75 H locs ls hW hl
                      obtain ⟨⟨hlo75, hhi75⟩, hz75, hI75, hf75⟩ := hinv
                      have hp75 := hI75.s10
                      refine lv_iload hX0 hB0 dX12_laysLocal_75 (lv_at hl 0 rfl) ?_
                      refine lv_iload hX0 hB0 dX12_laysLocal_77 (lv_at hl 3 rfl) ?_
                      refine z_icmp_gt (tgt := 136) CX dX12_laysLocal_79 (by decide) (by constructor <;> omega) (by constructor <;> omega) (fun c_79 => ?_) (fun c_79 => ?_)
                      ·
                        have e75 : zfor (zm_laysLocal_L75 g pt i15 i25 z41) 0 S25 (i25 + 1 - 0).toNat = S75 := by rw [show (i25 + 1 - 0).toNat = (i75 - 0).toNat by omega]; exact hz75
                        refine lv_goto (tgt := 191) hX0 hB0 dX12_laysLocal_136 (by decide) ?_
                        refine lv_iinc (v := zI (i25 + 1)) (lv' := [(6, .int (zI (i25 + 1))), (9, .int (zI i75)), (8, .int (zI ((z2 - i15) - i25))), (7, .int (zI z41)), (5, .int (zI i15)), (4, .int (zI z2)), (0, .ref o), (1, .int (zI g)), (2, .int (zI cv)), (3, .int (zI pt))]) hX0 hB0 dX12_laysLocal_191 hl (k := 3) rfl (zI_add _ _) (by decide) rfl (fun ls hl => ?_)
                        refine lv_goto (tgt := 25) hX0 hB0 dX12_laysLocal_194 (by decide) ?_
                        exact ih25 (i25 + 1) S75 ⟨⟨by omega, by omega⟩, (zfor_s _ _ _ (by omega)).trans ((congrArg (zm_laysLocal_L25 g cv pt z2 i15 i25) hz25).trans (by unfold zm_laysLocal_L25; exact zlet_e e41 (zif_f c_48 (zlet_e e66 (zif_f c_69 (zlet_e e75 rfl)))))), hI75, fun kk ii hk => ((hf75 kk ii (by omega))).trans (hf25 kk ii (by omega))⟩ (by omega) H locs ls hW (lv_sub hl [0, 4, 5, 6, 7, 8, 9] rfl)
                      ·
                        refine lv_aload_n hX0 hB0 dX12_laysLocal_82 rfl (lv_at hl 6 rfl) ?_
                        refine lv_iload_n hX0 hB0 dX12_laysLocal_83 rfl (lv_at hl 7 rfl) ?_
                        refine lv_iload hX0 hB0 dX12_laysLocal_84 (lv_at hl 2 rfl) ?_
                        refine z_i2l CX dX12_laysLocal_86 (by constructor <;> omega) ?_
                        refine lv_iload hX0 hB0 dX12_laysLocal_87 (lv_at hl 3 rfl) ?_
                        refine lv_iload hX0 hB0 dX12_laysLocal_89 (lv_at hl 0 rfl) ?_
                        refine z_calli hW (va_runS (As := [.int (zI i25), .int (zI i75)]) (rest := [.long (zL z41), .int (zI g), .ref o]) CX.fix (zk_sets1 l (f := zMO cI cJ o S75 f) i25 i75 (by constructor <;> omega) (by constructor <;> omega) (by omega)) (va_cwS 2 CX.fix.2.2.2.2 gX12_laysLocal_X12_sets1 rfl rfl rfl (by decide +kernel) ⟨Nat.le_of_ble_eq_true rfl, Nat.le_of_ble_eq_true rfl⟩) (z_preS CX hW) rfl rfl hl.1 rfl (lv_room (Nat.le_of_ble_eq_true rfl)) dX12_laysLocal_91 ⟨Nat.zero_le _, Nat.zero_le _⟩) (fun z91 gn H locs hok hW => ?_)
                        obtain ⟨hz91, hg, hq91⟩ := hok
                        rw [hg] at hW
                        clear hg
                        have e91 : zm_sets1 i25 i75 = z91 := hz91.symm
                        clear hz91
                        refine z_i2l CX dX12_laysLocal_94 (by constructor <;> omega) ?_
                        refine z_lmul (z := z41 * z91) CX dX12_laysLocal_95 rfl ?_
                        have hm95 := zbox_mul0 (a := z41) (b := z91) (A := 30) (B := 6) (by constructor <;> omega) (by constructor <;> omega) (C := 180) (by decide)
                        refine lv_aload_n hX0 hB0 dX12_laysLocal_96 rfl (lv_at hl 6 rfl) ?_
                        refine z_get (Cn := RX12) (T := TX12) (N := 37) CX hW (v := .int (zI (S75 0 10))) zMO_0 rfl (fun w h => List.mem_cons_of_mem _ (List.mem_append_right _ h)) 10 (by decide) (List.mem_of_getElem? (i := 1) rfl) rfl rfl dX12_laysLocal_97 ?_
                        have hr97 := hI75.s10
                        refine z_i2l CX dX12_laysLocal_100 (by constructor <;> omega) ?_
                        refine z_lrem (z := Int.tmod (z41 * z91) (S75 0 10)) CX dX12_laysLocal_101 (by constructor <;> omega) (by constructor <;> omega) rfl ?_
                        have ht101 := ztm0 (n := z41 * z91) (p := S75 0 10) (by omega) (by omega)
                        refine lv_aload_n hX0 hB0 dX12_laysLocal_102 rfl (lv_at hl 6 rfl) ?_
                        refine lv_aload_n hX0 hB0 dX12_laysLocal_103 rfl (lv_at hl 6 rfl) ?_
                        refine lv_iload_n hX0 hB0 dX12_laysLocal_104 rfl (lv_at hl 9 rfl) ?_
                        refine z_calli hW (va_runV (C := RX12) (As := [.int (zI pt)]) (rest := [.ref o, .long (zL (Int.tmod (z41 * z91) (S75 0 10))), .int (zI g), .ref o]) CX.fix (zk_yOf l o S75 pt hI75 (by constructor <;> omega)) (cwV 1 CX.fix.2.2.2.2 gX12_laysLocal_X12_yOf rfl rfl rfl (by decide +kernel) ⟨Nat.le_of_ble_eq_true rfl, Nat.le_of_ble_eq_true rfl⟩) (z_preV CX hW (r := (RX12, TX12, 37)) zMO_0 rfl) rfl rfl hl.1 rfl (lv_room (Nat.le_of_ble_eq_true rfl)) dX12_laysLocal_105 ⟨Nat.zero_le _, Nat.zero_le _⟩) (fun z105 gn H locs hok hW => ?_)
                        obtain ⟨hz105, hg, hq105⟩ := hok
                        rw [hg] at hW
                        clear hg
                        have e105 : zm_yOf S75 pt = z105 := hz105.symm
                        clear hz105
                        refine lv_iload hX0 hB0 dX12_laysLocal_108 (lv_at hl 3 rfl) ?_
                        refine lv_iload hX0 hB0 dX12_laysLocal_110 (lv_at hl 0 rfl) ?_
                        refine z_isub (z := i25 - i75) CX dX12_laysLocal_112 rfl ?_
                        refine z_calli hW (va_runV (C := RX12) (As := [.int (zI z105), .int (zI (i25 - i75))]) (rest := [.long (zL (Int.tmod (z41 * z91) (S75 0 10))), .int (zI g), .ref o]) CX.fix (zk_power l o S75 z105 (i25 - i75) hI75 (by constructor <;> omega) (by constructor <;> omega)) (cwV 2 CX.fix.2.2.2.2 gX12_laysLocal_X12_power rfl rfl rfl (by decide +kernel) ⟨Nat.le_of_ble_eq_true rfl, Nat.le_of_ble_eq_true rfl⟩) (z_preV CX hW (r := (RX12, TX12, 37)) zMO_0 rfl) rfl rfl hl.1 rfl (lv_room (Nat.le_of_ble_eq_true rfl)) dX12_laysLocal_113 ⟨Nat.zero_le _, Nat.zero_le _⟩) (fun z113 gn H locs hok hW => ?_)
                        obtain ⟨hz113, hg, hq113⟩ := hok
                        rw [hg] at hW
                        clear hg
                        have e113 : zm_power S75 z105 (i25 - i75) = z113 := hz113.symm
                        clear hz113
                        refine z_i2l CX dX12_laysLocal_116 (by constructor <;> omega) ?_
                        refine z_lmul (z := (Int.tmod (z41 * z91) (S75 0 10)) * z113) CX dX12_laysLocal_117 rfl ?_
                        have hm117 := zbox_mul0 (a := Int.tmod (z41 * z91) (S75 0 10)) (b := z113) (A := 30) (B := 30) (by constructor <;> omega) (by constructor <;> omega) (C := 900) (by decide)
                        refine lv_aload_n hX0 hB0 dX12_laysLocal_118 rfl (lv_at hl 6 rfl) ?_
                        refine lv_iload_n hX0 hB0 dX12_laysLocal_119 rfl (lv_at hl 9 rfl) ?_
                        refine z_calli hW (va_runV (C := RX12) (As := [.int (zI pt)]) (rest := [.long (zL ((Int.tmod (z41 * z91) (S75 0 10)) * z113)), .int (zI g), .ref o]) CX.fix (zk_xOf l o S75 pt hI75 (by constructor <;> omega)) (cwV 1 CX.fix.2.2.2.2 gX12_laysLocal_X12_xOf rfl rfl rfl (by decide +kernel) ⟨Nat.le_of_ble_eq_true rfl, Nat.le_of_ble_eq_true rfl⟩) (z_preV CX hW (r := (RX12, TX12, 37)) zMO_0 rfl) rfl rfl hl.1 rfl (lv_room (Nat.le_of_ble_eq_true rfl)) dX12_laysLocal_120 ⟨Nat.zero_le _, Nat.zero_le _⟩) (fun z120 gn H locs hok hW => ?_)
                        obtain ⟨hz120, hg, hq120⟩ := hok
                        rw [hg] at hW
                        clear hg
                        have e120 : zm_xOf S75 pt = z120 := hz120.symm
                        clear hz120
                        refine lv_iload hX0 hB0 dX12_laysLocal_123 (lv_at hl 4 rfl) ?_
                        refine lv_iload hX0 hB0 dX12_laysLocal_125 (lv_at hl 0 rfl) ?_
                        refine z_callv hW (va_runV (C := RX12) (As := [.int (zI g), .long (zL ((Int.tmod (z41 * z91) (S75 0 10)) * z113)), .int (zI z120), .int (zI i15), .int (zI i75)]) (rest := []) CX.fix (zk_addsPowers l o S75 g ((Int.tmod (z41 * z91) (S75 0 10)) * z113) z120 i15 i75 hI75 (by constructor <;> omega) (by constructor <;> omega) (by constructor <;> omega) (by constructor <;> omega) (by constructor <;> omega)) (cwV 5 CX.fix.2.2.2.2 gX12_laysLocal_X12_addsPowers rfl rfl rfl (by decide +kernel) ⟨Nat.le_of_ble_eq_true rfl, Nat.le_of_ble_eq_true rfl⟩) (z_preV CX hW (r := (RX12, TX12, 37)) zMO_0 rfl) rfl rfl hl.1 rfl (lv_room (Nat.le_of_ble_eq_true rfl)) dX12_laysLocal_127 ⟨Nat.zero_le _, Nat.zero_le _⟩) (fun gn H locs hok hW => ?_)
                        obtain ⟨hg, hI127, hf127, hq127⟩ := hok
                        obtain ⟨S127, e127⟩ : ∃ q, zm_addsPowers S75 g ((Int.tmod (z41 * z91) (S75 0 10)) * z113) z120 i15 i75 = q := ⟨_, rfl⟩
                        rw [e127] at hg hI127 hf127
                        skip
                        try rw [e127] at hq127
                        rw [hg] at hW
                        clear hg
                        refine lv_iinc (v := zI (i75 + 1)) (lv' := [(9, .int (zI (i75 + 1))), (8, .int (zI ((z2 - i15) - i25))), (7, .int (zI z41)), (6, .int (zI i25)), (5, .int (zI i15)), (4, .int (zI z2)), (0, .ref o), (1, .int (zI g)), (2, .int (zI cv)), (3, .int (zI pt))]) hX0 hB0 dX12_laysLocal_130 hl (k := 0) rfl (zI_add _ _) (by decide) rfl (fun ls hl => ?_)
                        refine lv_goto (tgt := 75) hX0 hB0 dX12_laysLocal_133 (by decide) ?_
                        exact ih75 (i75 + 1) S127 ⟨⟨by omega, by omega⟩, (zfor_s _ _ _ (by omega)).trans ((congrArg (zm_laysLocal_L75 g pt i15 i25 z41 i75) hz75).trans (by unfold zm_laysLocal_L75; exact zlet_e e91 (zlet_e e105 (zlet_e e113 (zlet_e e120 (zlet_e e127 rfl)))))), hI127, fun kk ii hk => ((hf127 kk ii (by omega))).trans (hf75 kk ii (by omega))⟩ (by omega) H locs ls hW (lv_sub hl [0, 1, 2, 3, 4, 5, 6, 7, 8, 9] rfl)
                  exact hL75 _ 0 S25 ⟨⟨by omega, by omega⟩, zfor_0 _ _ _, hI25, fun kk ii hk => rfl⟩ (Nat.lt_succ_self _) H locs ls hW (lv_sub hl [0, 1, 2, 3, 4, 5, 6, 7, 8, 9] rfl)
              ·
                refine lv_goto (tgt := 191) hX0 hB0 dX12_laysLocal_51 (by decide) ?_
                refine lv_iinc (v := zI (i25 + 1)) (lv' := [(6, .int (zI (i25 + 1))), (7, .int (zI z41)), (5, .int (zI i15)), (4, .int (zI z2)), (0, .ref o), (1, .int (zI g)), (2, .int (zI cv)), (3, .int (zI pt))]) hX0 hB0 dX12_laysLocal_191 hl (k := 1) rfl (zI_add _ _) (by decide) rfl (fun ls hl => ?_)
                refine lv_goto (tgt := 25) hX0 hB0 dX12_laysLocal_194 (by decide) ?_
                exact ih25 (i25 + 1) S25 ⟨⟨by omega, by omega⟩, (zfor_s _ _ _ (by omega)).trans ((congrArg (zm_laysLocal_L25 g cv pt z2 i15 i25) hz25).trans (by unfold zm_laysLocal_L25; exact zlet_e e41 (zif_t c_48 rfl))), hI25, fun kk ii hk => (hf25 kk ii (by omega))⟩ (by omega) H locs ls hW (lv_sub hl [0, 2, 3, 4, 5, 6, 7] rfl)
        exact hL25 _ 0 S15 ⟨⟨by omega, by omega⟩, zfor_0 _ _ _, hI15, fun kk ii hk => rfl⟩ (Nat.lt_succ_self _) H locs ls hW (lv_sub hl [0, 1, 2, 3, 4, 5, 6] rfl)
  exact hL15 _ 0 S9 ⟨⟨by omega, by omega⟩, zfor_0 _ _ _, hI9, fun kk ii hk => rfl⟩ (Nat.lt_succ_self _) H locs ls hW (lv_sub hl [0, 1, 2, 3, 4, 5] rfl)
end ZMk
