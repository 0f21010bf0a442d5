section ZCo
set_option maxRecDepth 100000 in
set_option maxHeartbeats 4000000 in
/-- View() -/
theorem c_View_init (l : Launch) {D : va_G} {cI cJ cZ cP cS cM : ClassId} {L : List Nat} {f : Nat → va_E} (a : Nat) (hf0 : f a = .inr (10, [.null, .null, .int (zI 0)])) : zMn l yX10_init wsX10_init 2 32 3 31 D (zT cI cJ cZ cP cS cM) L (a + 1) f [.ref a] (fun g => zFr f g a (a + 4) ∧ g a = .inr (10, [.ref (a + 1), .ref (a + 3), .int (zI 7)]) ∧ zPoly cI g (a + 1) (zone 0) ∧ g (a + 3) = zA cI 5 (zone 0)) := by
  refine zNew.met (nL := 1) (ret := none) (cc := cX10_init) (by decide) rfl (Nat.le_of_ble_eq_true rfl) ?_
  intro pg en st mi ag bl mt cd ls CX hin hN hl
  have CX : zC pg st mi ag mt cd cX10_init 1 none RX10 wsX10_init := CX
  generalize hQ : MQ bl _ ag st 3 31 _ = Q
  have hX0 := CX.1
  have hB0 := CX.2.1
  have hl : lv_has ls 1 [(0, .ref a)] := hl
  obtain ⟨H, eH⟩ : ∃ H, H = st.heap := ⟨_, rfl⟩
  obtain ⟨locs, eL⟩ : ∃ L : List Loc, L = [] := ⟨_, rfl⟩
  have hN : zN D (zT cI cJ cZ cP cS cM) L (zQ L (a + 1)) st f st.heap H locs (a + 1) 0 := by rw [eH, eL]; exact hN
  have hW := hN.1
  suffices hgo : W pg l en ({ frames := 2, cells := 3, slots := 31, locals := 32 } : Room) st mi ag bl mt cd H locs 0 0 Q (F0 mi 0 ls []) by rw [eH, eL] at hgo; exact hgo
  clear eH eL
  refine lv_aload_n hX0 hB0 dX10_init_0 rfl (lv_at hl 0 rfl) ?_
  refine W.objInit hX0 hB0 CX.2.2.2.1 (CX.at (List.mem_of_getElem? (i := 1) rfl)) (CX.at (List.mem_of_getElem? (i := 2) rfl)) (CX.at (List.mem_of_getElem? (i := 3) rfl)) rfl (by rw [CX.2.2.1]; exact hl.1) rfl dX10_init_1 (Nat.le_of_ble_eq_true rfl) (Nat.le_of_ble_eq_true rfl) ?_
  refine W.eq (g2 := F0 mi 4 ls []) rfl ?_
  refine lv_aload_n hX0 hB0 dX10_init_4 rfl (lv_at hl 0 rfl) ?_
  refine zn_new (ci := 2) (fs := [.null]) CX hN (fun w h => List.mem_cons_of_mem _ (List.mem_append_left _ (List.mem_append_right _ h))) tyX2 tyX2_ok (List.mem_of_getElem? (i := 4) rfl) (List.mem_of_getElem? (i := 5) rfl) (List.mem_of_getElem? (i := 6) rfl) rfl (fun j hj => by rcases (show j = 0 by omega) with rfl <;> rfl) (by show _ ≤ 3; omega) (by show _ ≤ 31; omega) dX10_init_5 (fun H hN => ?_)
  have hN : zN D (zT cI cJ cZ cP cS cM) L (zQ L (a + 1)) st (va_up f (a + 1) (.inr (2, [.null]))) st.heap H locs (a + 1) 1 := by have q := hN; first | exact q | (rw [show 0 + 1 = 1 by omega] at q; exact q)
  have hW := hN.1
  refine W.widen (k := 1) (n := 1) (by omega) (by omega) ?_
  refine lv_dup hX0 hB0 dX10_init_8 rfl ?_
  refine zn_callv hN (va_runIN (As := []) (rest := [.ref (a + 1), .ref a]) CX.fix (c_Poly_init l (f := va_up f (a + 1) (.inr (2, [.null]))) (a + 1) (va_up_self _ _ _)) ⟨va_cnB (own := RX10) (host := "CurveMeets") (index := 11) 0 CX.fix.2.2.2.2 ggX10_init_X2_init rfl rfl rfl (CX.2.2.2.2.2.2.2.1 _ (by decide +kernel)) (CX.at (List.mem_of_getElem? (i := 6) rfl)) (by decide +kernel) ⟨Nat.le_of_ble_eq_true rfl, Nat.le_of_ble_eq_true rfl⟩, rfl, CX.at (List.mem_of_getElem? (i := 11) rfl)⟩ (hN.2 ▸ (z_preS CX hW (As := [.ref (a + 1)]))) rfl rfl hl.1 rfl (lv_room (Nat.le_of_ble_eq_true rfl)) dX10_init_9 ⟨by show _ ≤ 3; omega, by show _ ≤ 31; omega⟩) (fun gn H locs hok9 hN => ?_)
  obtain ⟨g9, eg9⟩ : ∃ q, q = gn := ⟨_, rfl⟩
  rw [← eg9] at hN hok9
  clear eg9
  obtain ⟨hfr9, hp9⟩ := hok9
  have hN : zN D (zT cI cJ cZ cP cS cM) L (zQ L (a + 1)) st g9 st.heap H locs (a + 1) 2 := by have q := hN; first | exact q | (rw [show 1 + 1 = 2 by omega] at q; exact q)
  have hW := hN.1
  refine W.widen (k := 2) (n := 26) (by omega) (by omega) ?_
  refine zn_putF (Cn := RX10) (T := TX10) (N := 3) CX hN (v := .ref (a + 1)) ((hfr9 _ (by omega)).trans ((va_up_ne _ _ (by omega)).trans hf0)) rfl (fun w h => List.mem_cons_of_mem _ (List.mem_append_right _ h)) tyX10 tyX10_ok nmX10 0 (by decide) (List.mem_of_getElem? (i := 7) rfl) rfl rfl hin rfl rfl rfl (Nat.le_of_ble_eq_true rfl) (g := va_up g9 a (.inr (10, [.ref (a + 1), .null, .int (zI 0)]))) rfl dX10_init_12 (fun H locs hN => ?_)
  have hW := hN.1
  refine lv_aload_n hX0 hB0 dX10_init_15 rfl (lv_at hl 0 rfl) ?_
  refine lv_iconst (v := zI 5) hX0 hB0 dX10_init_16 rfl ?_
  refine zn_newa (atype := .int) (ty := .int) (cy := cI) (N' := 5) (a0 := (5, .inl (fun k => zI (zone 0 k)))) CX hN rfl (List.mem_of_getElem? (i := 8) rfl) 0 rfl zn_haI (by omega) rfl (by decide) (by omega) (by show _ ≤ 3; omega) (by show _ ≤ 31; omega) dX10_init_17 (fun H hN => ?_)
  have hN : zN D (zT cI cJ cZ cP cS cM) L (zQ L (a + 1)) st (va_up (va_up g9 a (.inr (10, [.ref (a + 1), .null, .int (zI 0)]))) (a + 3) (zA cI 5 (zone 0))) st.heap H locs (a + 1) 3 := by have q := hN; first | exact q | (rw [show 2 + 1 = 3 by omega] at q; exact q)
  have hW := hN.1
  refine W.widen (k := 3) (n := 31) (by omega) (by omega) ?_
  refine zn_putF (Cn := RX10) (T := TX10) (N := 3) CX hN (v := .ref (a + 3)) ((va_up_ne _ _ (by omega)).trans (va_up_self _ _ _)) rfl (fun w h => List.mem_cons_of_mem _ (List.mem_append_right _ h)) tyX10 tyX10_ok nmX10 1 (by decide) (List.mem_of_getElem? (i := 9) rfl) rfl rfl hin rfl rfl rfl (Nat.le_of_ble_eq_true rfl) (g := va_up (va_up g9 a (.inr (10, [.ref (a + 1), .ref (a + 3), .int (zI 0)]))) (a + 3) (zA cI 5 (zone 0))) (by rw [va_up_comm (a := (a + 3)) (b := a) (by omega), va_up_up]; try rfl) dX10_init_19 (fun H locs hN => ?_)
  have hW := hN.1
  refine lv_aload_n hX0 hB0 dX10_init_22 rfl (lv_at hl 0 rfl) ?_
  refine lv_bipush (v := zI 7) hX0 hB0 dX10_init_23 (by decide) ?_
  refine zn_put (Cn := RX10) (T := TX10) (N := 3) CX hN (v := .int (zI 7)) ((va_up_ne _ _ (by omega)).trans (va_up_self _ _ _)) rfl (fun w h => List.mem_cons_of_mem _ (List.mem_append_right _ h)) tyX10 tyX10_ok nmX10 2 (by decide) (List.mem_of_getElem? (i := 10) rfl) rfl rfl rfl rfl (Nat.le_of_ble_eq_true rfl) (g := va_up (va_up g9 a (.inr (10, [.ref (a + 1), .ref (a + 3), .int (zI 7)]))) (a + 3) (zA cI 5 (zone 0))) (by rw [va_up_comm (a := (a + 3)) (b := a) (by omega), va_up_up]; try rfl) dX10_init_25 (fun H locs hN => ?_)
  have hW := hN.1
  rw [← hQ]
  have hN := hN
  refine W.widen (k := 3) (n := 31) (by omega) (by omega) ?_
  exact zn_vret CX hN (by exact ⟨((((zFr.refl.up (a := a + 1) (x := .inr (2, [.null])) (lo := a) (hi := a + 4) (by omega)).trans (hfr9.wide (by omega) (by omega))).up (by omega)).up (by omega)), ((va_up_ne _ _ (by omega)).trans (va_up_self _ _ _)), ⟨((va_up_ne _ _ (by omega)).trans ((va_up_ne _ _ (by omega)).trans hp9.1)), ((va_up_ne _ _ (by omega)).trans ((va_up_ne _ _ (by omega)).trans hp9.2))⟩, (va_up_self _ _ _)⟩) dX10_init_28
set_option maxRecDepth 100000 in
set_option maxHeartbeats 4000000 in
/-- Reduction() -/
theorem c_Reduction_init (l : Launch) {D : va_G} {cI cJ cZ cP cS cM : ClassId} {L : List Nat} {f : Nat → va_E} (a : Nat) (hf0 : f a = .inr (4, [.null, .null, .int (zI 0), .null, .null, .int (zI 0)])) : zMn l yX4_init wsX4_init 1 12 4 2630 D (zT cI cJ cZ cP cS cM) L (a + 1) f [.ref a] (fun g => zFr f g a (a + 5) ∧ g a = .inr (4, [.ref (a + 1), .ref (a + 2), .int (zI 0), .ref (a + 3), .ref (a + 4), .int (zI 7)]) ∧ g (a + 1) = zA cI 4 (zone 0) ∧ g (a + 2) = zA cI 2048 (zone 0) ∧ g (a + 3) = zA cI 289 (zone 0) ∧ g (a + 4) = zA cI 289 (zone 0)) := by
  refine zNew.met (nL := 1) (ret := none) (cc := cX4_init) (by decide) rfl (Nat.le_of_ble_eq_true rfl) ?_
  intro pg en st mi ag bl mt cd ls CX hin hN hl
  have CX : zC pg st mi ag mt cd cX4_init 1 none RX4 wsX4_init := CX
  generalize hQ : MQ bl _ ag st 4 2630 _ = Q
  have hX0 := CX.1
  have hB0 := CX.2.1
  have hl : lv_has ls 1 [(0, .ref a)] := hl
  obtain ⟨H, eH⟩ : ∃ H, H = st.heap := ⟨_, rfl⟩
  obtain ⟨locs, eL⟩ : ∃ L : List Loc, L = [] := ⟨_, rfl⟩
  have hN : zN D (zT cI cJ cZ cP cS cM) L (zQ L (a + 1)) st f st.heap H locs (a + 1) 0 := by rw [eH, eL]; exact hN
  have hW := hN.1
  suffices hgo : W pg l en ({ frames := 1, cells := 4, slots := 2630, locals := 12 } : Room) st mi ag bl mt cd H locs 0 0 Q (F0 mi 0 ls []) by rw [eH, eL] at hgo; exact hgo
  clear eH eL
  refine lv_aload_n hX0 hB0 dX4_init_0 rfl (lv_at hl 0 rfl) ?_
  refine W.objInit hX0 hB0 CX.2.2.2.1 (CX.at (List.mem_of_getElem? (i := 1) rfl)) (CX.at (List.mem_of_getElem? (i := 2) rfl)) (CX.at (List.mem_of_getElem? (i := 3) rfl)) rfl (by rw [CX.2.2.1]; exact hl.1) rfl dX4_init_1 (Nat.le_of_ble_eq_true rfl) (Nat.le_of_ble_eq_true rfl) ?_
  refine W.eq (g2 := F0 mi 4 ls []) rfl ?_
  refine lv_aload_n hX0 hB0 dX4_init_4 rfl (lv_at hl 0 rfl) ?_
  refine lv_iconst (v := zI 4) hX0 hB0 dX4_init_5 rfl ?_
  refine zn_newa (atype := .int) (ty := .int) (cy := cI) (N' := 4) (a0 := (4, .inl (fun k => zI (zone 0 k)))) CX hN rfl (List.mem_of_getElem? (i := 4) rfl) 0 rfl zn_haI (by omega) rfl (by decide) (by omega) (by show _ ≤ 4; omega) (by show _ ≤ 2630; omega) dX4_init_6 (fun H hN => ?_)
  have hN : zN D (zT cI cJ cZ cP cS cM) L (zQ L (a + 1)) st (va_up f (a + 1) (zA cI 4 (zone 0))) st.heap H locs (a + 1) 1 := by have q := hN; first | exact q | (rw [show 0 + 1 = 1 by omega] at q; exact q)
  have hW := hN.1
  refine W.widen (k := 1) (n := 4) (by omega) (by omega) ?_
  refine zn_putF (Cn := RX4) (T := TX4) (N := 6) CX hN (v := .ref (a + 1)) ((va_up_ne _ _ (by omega)).trans hf0) rfl (fun w h => List.mem_cons_of_mem _ (List.mem_append_right _ h)) tyX4 tyX4_ok nmX4 0 (by decide) (List.mem_of_getElem? (i := 5) rfl) rfl rfl hin rfl rfl rfl (Nat.le_of_ble_eq_true rfl) (g := va_up (va_up f (a + 1) (zA cI 4 (zone 0))) a (.inr (4, [.ref (a + 1), .null, .int (zI 0), .null, .null, .int (zI 0)]))) rfl dX4_init_8 (fun H locs hN => ?_)
  have hW := hN.1
  refine lv_aload_n hX0 hB0 dX4_init_11 rfl (lv_at hl 0 rfl) ?_
  refine lv_sipush (v := zI 2048) hX0 hB0 dX4_init_12 (by decide) ?_
  refine zn_newa (atype := .int) (ty := .int) (cy := cI) (N' := 2048) (a0 := (2048, .inl (fun k => zI (zone 0 k)))) CX hN rfl (List.mem_of_getElem? (i := 4) rfl) 0 rfl zn_haI (by omega) rfl (by decide) (by omega) (by show _ ≤ 4; omega) (by show _ ≤ 2630; omega) dX4_init_15 (fun H hN => ?_)
  have hN : zN D (zT cI cJ cZ cP cS cM) L (zQ L (a + 1)) st (va_up (va_up (va_up f (a + 1) (zA cI 4 (zone 0))) a (.inr (4, [.ref (a + 1), .null, .int (zI 0), .null, .null, .int (zI 0)]))) (a + 2) (zA cI 2048 (zone 0))) st.heap H locs (a + 1) 2 := by have q := hN; first | exact q | (rw [show 1 + 1 = 2 by omega] at q; exact q)
  have hW := hN.1
  refine W.widen (k := 2) (n := 2052) (by omega) (by omega) ?_
  refine zn_putF (Cn := RX4) (T := TX4) (N := 6) CX hN (v := .ref (a + 2)) ((va_up_ne _ _ (by omega)).trans (va_up_self _ _ _)) rfl (fun w h => List.mem_cons_of_mem _ (List.mem_append_right _ h)) tyX4 tyX4_ok nmX4 1 (by decide) (List.mem_of_getElem? (i := 6) rfl) rfl rfl hin rfl rfl rfl (Nat.le_of_ble_eq_true rfl) (g := va_up (va_up (va_up f (a + 1) (zA cI 4 (zone 0))) a (.inr (4, [.ref (a + 1), .ref (a + 2), .int (zI 0), .null, .null, .int (zI 0)]))) (a + 2) (zA cI 2048 (zone 0))) (by rw [va_up_comm (a := (a + 2)) (b := a) (by omega), va_up_up]; try rfl) dX4_init_17 (fun H locs hN => ?_)
  have hW := hN.1
  refine lv_aload_n hX0 hB0 dX4_init_20 rfl (lv_at hl 0 rfl) ?_
  refine lv_iconst (v := zI 0) hX0 hB0 dX4_init_21 rfl ?_
  refine zn_put (Cn := RX4) (T := TX4) (N := 6) CX hN (v := .int (zI 0)) ((va_up_ne _ _ (by omega)).trans (va_up_self _ _ _)) rfl (fun w h => List.mem_cons_of_mem _ (List.mem_append_right _ h)) tyX4 tyX4_ok nmX4 2 (by decide) (List.mem_of_getElem? (i := 7) rfl) rfl rfl rfl rfl (Nat.le_of_ble_eq_true rfl) (g := va_up (va_up (va_up f (a + 1) (zA cI 4 (zone 0))) a (.inr (4, [.ref (a + 1), .ref (a + 2), .int (zI 0), .null, .null, .int (zI 0)]))) (a + 2) (zA cI 2048 (zone 0))) (by rw [va_up_comm (a := (a + 2)) (b := a) (by omega), va_up_up]; try rfl) dX4_init_22 (fun H locs hN => ?_)
  have hW := hN.1
  refine lv_aload_n hX0 hB0 dX4_init_25 rfl (lv_at hl 0 rfl) ?_
  refine lv_sipush (v := zI 289) hX0 hB0 dX4_init_26 (by decide) ?_
  refine zn_newa (atype := .int) (ty := .int) (cy := cI) (N' := 289) (a0 := (289, .inl (fun k => zI (zone 0 k)))) CX hN rfl (List.mem_of_getElem? (i := 4) rfl) 0 rfl zn_haI (by omega) rfl (by decide) (by omega) (by show _ ≤ 4; omega) (by show _ ≤ 2630; omega) dX4_init_29 (fun H hN => ?_)
  have hN : zN D (zT cI cJ cZ cP cS cM) L (zQ L (a + 1)) st (va_up (va_up (va_up (va_up f (a + 1) (zA cI 4 (zone 0))) a (.inr (4, [.ref (a + 1), .ref (a + 2), .int (zI 0), .null, .null, .int (zI 0)]))) (a + 2) (zA cI 2048 (zone 0))) (a + 3) (zA cI 289 (zone 0))) st.heap H locs (a + 1) 3 := by have q := hN; first | exact q | (rw [show 2 + 1 = 3 by omega] at q; exact q)
  have hW := hN.1
  refine W.widen (k := 3) (n := 2341) (by omega) (by omega) ?_
  refine zn_put (Cn := RX4) (T := TX4) (N := 6) CX hN (v := .ref (a + 3)) ((va_up_ne _ _ (by omega)).trans ((va_up_ne _ _ (by omega)).trans (va_up_self _ _ _))) rfl (fun w h => List.mem_cons_of_mem _ (List.mem_append_right _ h)) tyX4 tyX4_ok nmX4 3 (by decide) (List.mem_of_getElem? (i := 8) rfl) rfl rfl rfl rfl (Nat.le_of_ble_eq_true rfl) (g := va_up (va_up (va_up (va_up f (a + 1) (zA cI 4 (zone 0))) a (.inr (4, [.ref (a + 1), .ref (a + 2), .int (zI 0), .ref (a + 3), .null, .int (zI 0)]))) (a + 2) (zA cI 2048 (zone 0))) (a + 3) (zA cI 289 (zone 0))) (by rw [va_up_comm (a := (a + 3)) (b := a) (by omega), va_up_comm (a := (a + 2)) (b := a) (by omega), va_up_up]; try rfl) dX4_init_31 (fun H locs hN => ?_)
  have hW := hN.1
  refine lv_aload_n hX0 hB0 dX4_init_34 rfl (lv_at hl 0 rfl) ?_
  refine lv_sipush (v := zI 289) hX0 hB0 dX4_init_35 (by decide) ?_
  refine zn_newa (atype := .int) (ty := .int) (cy := cI) (N' := 289) (a0 := (289, .inl (fun k => zI (zone 0 k)))) CX hN rfl (List.mem_of_getElem? (i := 4) rfl) 0 rfl zn_haI (by omega) rfl (by decide) (by omega) (by show _ ≤ 4; omega) (by show _ ≤ 2630; omega) dX4_init_38 (fun H hN => ?_)
  have hN : zN D (zT cI cJ cZ cP cS cM) L (zQ L (a + 1)) st (va_up (va_up (va_up (va_up (va_up f (a + 1) (zA cI 4 (zone 0))) a (.inr (4, [.ref (a + 1), .ref (a + 2), .int (zI 0), .ref (a + 3), .null, .int (zI 0)]))) (a + 2) (zA cI 2048 (zone 0))) (a + 3) (zA cI 289 (zone 0))) (a + 4) (zA cI 289 (zone 0))) st.heap H locs (a + 1) 4 := by have q := hN; first | exact q | (rw [show 3 + 1 = 4 by omega] at q; exact q)
  have hW := hN.1
  refine W.widen (k := 4) (n := 2630) (by omega) (by omega) ?_
  refine zn_put (Cn := RX4) (T := TX4) (N := 6) CX hN (v := .ref (a + 4)) ((va_up_ne _ _ (by omega)).trans ((va_up_ne _ _ (by omega)).trans ((va_up_ne _ _ (by omega)).trans (va_up_self _ _ _)))) rfl (fun w h => List.mem_cons_of_mem _ (List.mem_append_right _ h)) tyX4 tyX4_ok nmX4 4 (by decide) (List.mem_of_getElem? (i := 9) rfl) rfl rfl rfl rfl (Nat.le_of_ble_eq_true rfl) (g := va_up (va_up (va_up (va_up (va_up f (a + 1) (zA cI 4 (zone 0))) a (.inr (4, [.ref (a + 1), .ref (a + 2), .int (zI 0), .ref (a + 3), .ref (a + 4), .int (zI 0)]))) (a + 2) (zA cI 2048 (zone 0))) (a + 3) (zA cI 289 (zone 0))) (a + 4) (zA cI 289 (zone 0))) (by rw [va_up_comm (a := (a + 4)) (b := a) (by omega), va_up_comm (a := (a + 3)) (b := a) (by omega), va_up_comm (a := (a + 2)) (b := a) (by omega), va_up_up]; try rfl) dX4_init_40 (fun H locs hN => ?_)
  have hW := hN.1
  refine lv_aload_n hX0 hB0 dX4_init_43 rfl (lv_at hl 0 rfl) ?_
  refine lv_bipush (v := zI 7) hX0 hB0 dX4_init_44 (by decide) ?_
  refine zn_put (Cn := RX4) (T := TX4) (N := 6) CX hN (v := .int (zI 7)) ((va_up_ne _ _ (by omega)).trans ((va_up_ne _ _ (by omega)).trans ((va_up_ne _ _ (by omega)).trans (va_up_self _ _ _)))) rfl (fun w h => List.mem_cons_of_mem _ (List.mem_append_right _ h)) tyX4 tyX4_ok nmX4 5 (by decide) (List.mem_of_getElem? (i := 10) rfl) rfl rfl rfl rfl (Nat.le_of_ble_eq_true rfl) (g := va_up (va_up (va_up (va_up (va_up f (a + 1) (zA cI 4 (zone 0))) a (.inr (4, [.ref (a + 1), .ref (a + 2), .int (zI 0), .ref (a + 3), .ref (a + 4), .int (zI 7)]))) (a + 2) (zA cI 2048 (zone 0))) (a + 3) (zA cI 289 (zone 0))) (a + 4) (zA cI 289 (zone 0))) (by rw [va_up_comm (a := (a + 4)) (b := a) (by omega), va_up_comm (a := (a + 3)) (b := a) (by omega), va_up_comm (a := (a + 2)) (b := a) (by omega), va_up_up]; try rfl) dX4_init_46 (fun H locs hN => ?_)
  have hW := hN.1
  rw [← hQ]
  have hN := hN
  refine W.widen (k := 4) (n := 2630) (by omega) (by omega) ?_
  exact zn_vret CX hN (by exact ⟨(((((zFr.refl.up (by omega)).up (by omega)).up (by omega)).up (by omega)).up (by omega)), ((va_up_ne _ _ (by omega)).trans ((va_up_ne _ _ (by omega)).trans ((va_up_ne _ _ (by omega)).trans (va_up_self _ _ _)))), ((va_up_ne _ _ (by omega)).trans ((va_up_ne _ _ (by omega)).trans ((va_up_ne _ _ (by omega)).trans ((va_up_ne _ _ (by omega)).trans (va_up_self _ _ _))))), ((va_up_ne _ _ (by omega)).trans ((va_up_ne _ _ (by omega)).trans (va_up_self _ _ _))), ((va_up_ne _ _ (by omega)).trans (va_up_self _ _ _)), (va_up_self _ _ _)⟩) dX4_init_49
set_option maxRecDepth 100000 in
set_option maxHeartbeats 4000000 in
/-- Sharing(space) -/
theorem c_Sharing_init (l : Launch) {D : va_G} {cI cJ cZ cP cS cM : ClassId} {L : List Nat} {f : Nat → va_E} (a : Nat) (b : Nat) (hf0 : f a = .inr (6, [.null, .null, .null, .null, .null])) : zMn l yX6_init wsX6_init 2 32 7 172 D (zT cI cJ cZ cP cS cM) L (a + 1) f [.ref a, .ref b] (fun g => zFr f g a (a + 8) ∧ g a = .inr (6, [.ref (a + 1), .ref (a + 3), .ref (a + 5), .ref (a + 7), .ref b]) ∧ zPoly cI g (a + 1) (zone 0) ∧ zPoly cI g (a + 3) (zone 0) ∧ zPoly cI g (a + 5) (zone 0) ∧ g (a + 7) = zA cI 94 (zone 0)) := by
  refine zNew.met (nL := 2) (ret := none) (cc := cX6_init) (by decide) rfl (Nat.le_of_ble_eq_true rfl) ?_
  intro pg en st mi ag bl mt cd ls CX hin hN hl
  have CX : zC pg st mi ag mt cd cX6_init 2 none RX6 wsX6_init := CX
  generalize hQ : MQ bl _ ag st 7 172 _ = Q
  have hX0 := CX.1
  have hB0 := CX.2.1
  have hl : lv_has ls 2 [(0, .ref a), (1, .ref b)] := hl
  obtain ⟨H, eH⟩ : ∃ H, H = st.heap := ⟨_, rfl⟩
  obtain ⟨locs, eL⟩ : ∃ L : List Loc, L = [] := ⟨_, rfl⟩
  have hN : zN D (zT cI cJ cZ cP cS cM) L (zQ L (a + 1)) st f st.heap H locs (a + 1) 0 := by rw [eH, eL]; exact hN
  have hW := hN.1
  suffices hgo : W pg l en ({ frames := 2, cells := 7, slots := 172, locals := 32 } : Room) st mi ag bl mt cd H locs 0 0 Q (F0 mi 0 ls []) by rw [eH, eL] at hgo; exact hgo
  clear eH eL
  refine lv_aload_n hX0 hB0 dX6_init_0 rfl (lv_at hl 0 rfl) ?_
  refine W.objInit hX0 hB0 CX.2.2.2.1 (CX.at (List.mem_of_getElem? (i := 1) rfl)) (CX.at (List.mem_of_getElem? (i := 2) rfl)) (CX.at (List.mem_of_getElem? (i := 3) rfl)) rfl (by rw [CX.2.2.1]; exact hl.1) rfl dX6_init_1 (Nat.le_of_ble_eq_true rfl) (Nat.le_of_ble_eq_true rfl) ?_
  refine W.eq (g2 := F0 mi 4 ls []) rfl ?_
  refine lv_aload_n hX0 hB0 dX6_init_4 rfl (lv_at hl 0 rfl) ?_
  refine zn_new (ci := 2) (fs := [.null]) CX hN (fun w h => List.mem_cons_of_mem _ (List.mem_append_left _ (List.mem_append_right _ h))) tyX2 tyX2_ok (List.mem_of_getElem? (i := 4) rfl) (List.mem_of_getElem? (i := 5) rfl) (List.mem_of_getElem? (i := 6) rfl) rfl (fun j hj => by rcases (show j = 0 by omega) with rfl <;> rfl) (by show _ ≤ 7; omega) (by show _ ≤ 172; omega) dX6_init_5 (fun H hN => ?_)
  have hN : zN D (zT cI cJ cZ cP cS cM) L (zQ L (a + 1)) st (va_up f (a + 1) (.inr (2, [.null]))) st.heap H locs (a + 1) 1 := by have q := hN; first | exact q | (rw [show 0 + 1 = 1 by omega] at q; exact q)
  have hW := hN.1
  refine W.widen (k := 1) (n := 1) (by omega) (by omega) ?_
  refine lv_dup hX0 hB0 dX6_init_8 rfl ?_
  refine zn_callv hN (va_runIN (As := []) (rest := [.ref (a + 1), .ref a]) CX.fix (c_Poly_init l (f := va_up f (a + 1) (.inr (2, [.null]))) (a + 1) (va_up_self _ _ _)) ⟨va_cnB (own := RX6) (host := "CurveMeets") (index := 11) 0 CX.fix.2.2.2.2 ggX6_init_X2_init rfl rfl rfl (CX.2.2.2.2.2.2.2.1 _ (by decide +kernel)) (CX.at (List.mem_of_getElem? (i := 6) rfl)) (by decide +kernel) ⟨Nat.le_of_ble_eq_true rfl, Nat.le_of_ble_eq_true rfl⟩, rfl, CX.at (List.mem_of_getElem? (i := 13) rfl)⟩ (hN.2 ▸ (z_preS CX hW (As := [.ref (a + 1)]))) rfl rfl hl.1 rfl (lv_room (Nat.le_of_ble_eq_true rfl)) dX6_init_9 ⟨by show _ ≤ 7; omega, by show _ ≤ 172; omega⟩) (fun gn H locs hok9 hN => ?_)
  obtain ⟨g9, eg9⟩ : ∃ q, q = gn := ⟨_, rfl⟩
  rw [← eg9] at hN hok9
  clear eg9
  obtain ⟨hfr9, hp9⟩ := hok9
  have hN : zN D (zT cI cJ cZ cP cS cM) L (zQ L (a + 1)) st g9 st.heap H locs (a + 1) 2 := by have q := hN; first | exact q | (rw [show 1 + 1 = 2 by omega] at q; exact q)
  have hW := hN.1
  refine W.widen (k := 2) (n := 26) (by omega) (by omega) ?_
  refine zn_putF (Cn := RX6) (T := TX6) (N := 5) CX hN (v := .ref (a + 1)) ((hfr9 _ (by omega)).trans ((va_up_ne _ _ (by omega)).trans hf0)) rfl (fun w h => List.mem_cons_of_mem _ (List.mem_append_right _ h)) tyX6 tyX6_ok nmX6 0 (by decide) (List.mem_of_getElem? (i := 7) rfl) rfl rfl hin rfl rfl rfl (Nat.le_of_ble_eq_true rfl) (g := va_up g9 a (.inr (6, [.ref (a + 1), .null, .null, .null, .null]))) rfl dX6_init_12 (fun H locs hN => ?_)
  have hW := hN.1
  refine lv_aload_n hX0 hB0 dX6_init_15 rfl (lv_at hl 0 rfl) ?_
  refine zn_new (ci := 2) (fs := [.null]) CX hN (fun w h => List.mem_cons_of_mem _ (List.mem_append_left _ (List.mem_append_right _ h))) tyX2 tyX2_ok (List.mem_of_getElem? (i := 4) rfl) (List.mem_of_getElem? (i := 5) rfl) (List.mem_of_getElem? (i := 6) rfl) rfl (fun j hj => by rcases (show j = 0 by omega) with rfl <;> rfl) (by show _ ≤ 7; omega) (by show _ ≤ 172; omega) dX6_init_16 (fun H hN => ?_)
  have hN : zN D (zT cI cJ cZ cP cS cM) L (zQ L (a + 1)) st (va_up (va_up g9 a (.inr (6, [.ref (a + 1), .null, .null, .null, .null]))) (a + 3) (.inr (2, [.null]))) st.heap H locs (a + 1) 3 := by have q := hN; first | exact q | (rw [show 2 + 1 = 3 by omega] at q; exact q)
  have hW := hN.1
  refine W.widen (k := 3) (n := 27) (by omega) (by omega) ?_
  refine lv_dup hX0 hB0 dX6_init_19 rfl ?_
  refine zn_callv hN (va_runIN (As := []) (rest := [.ref (a + 3), .ref a]) CX.fix (c_Poly_init l (f := va_up (va_up g9 a (.inr (6, [.ref (a + 1), .null, .null, .null, .null]))) (a + 3) (.inr (2, [.null]))) (a + 3) (va_up_self _ _ _)) ⟨va_cnB (own := RX6) (host := "CurveMeets") (index := 11) 0 CX.fix.2.2.2.2 ggX6_init_X2_init rfl rfl rfl (CX.2.2.2.2.2.2.2.1 _ (by decide +kernel)) (CX.at (List.mem_of_getElem? (i := 6) rfl)) (by decide +kernel) ⟨Nat.le_of_ble_eq_true rfl, Nat.le_of_ble_eq_true rfl⟩, rfl, CX.at (List.mem_of_getElem? (i := 13) rfl)⟩ (hN.2 ▸ (z_preS CX hW (As := [.ref (a + 3)]))) rfl rfl hl.1 rfl (lv_room (Nat.le_of_ble_eq_true rfl)) dX6_init_20 ⟨by show _ ≤ 7; omega, by show _ ≤ 172; omega⟩) (fun gn H locs hok20 hN => ?_)
  obtain ⟨g20, eg20⟩ : ∃ q, q = gn := ⟨_, rfl⟩
  rw [← eg20] at hN hok20
  clear eg20
  obtain ⟨hfr20, hp20⟩ := hok20
  have hN : zN D (zT cI cJ cZ cP cS cM) L (zQ L (a + 1)) st g20 st.heap H locs (a + 1) 4 := by have q := hN; first | exact q | (rw [show 3 + 1 = 4 by omega] at q; exact q)
  have hW := hN.1
  refine W.widen (k := 4) (n := 52) (by omega) (by omega) ?_
  refine zn_putF (Cn := RX6) (T := TX6) (N := 5) CX hN (v := .ref (a + 3)) ((hfr20 _ (by omega)).trans ((va_up_ne _ _ (by omega)).trans (va_up_self _ _ _))) rfl (fun w h => List.mem_cons_of_mem _ (List.mem_append_right _ h)) tyX6 tyX6_ok nmX6 1 (by decide) (List.mem_of_getElem? (i := 8) rfl) rfl rfl hin rfl rfl rfl (Nat.le_of_ble_eq_true rfl) (g := va_up g20 a (.inr (6, [.ref (a + 1), .ref (a + 3), .null, .null, .null]))) rfl dX6_init_23 (fun H locs hN => ?_)
  have hW := hN.1
  refine lv_aload_n hX0 hB0 dX6_init_26 rfl (lv_at hl 0 rfl) ?_
  refine zn_new (ci := 2) (fs := [.null]) CX hN (fun w h => List.mem_cons_of_mem _ (List.mem_append_left _ (List.mem_append_right _ h))) tyX2 tyX2_ok (List.mem_of_getElem? (i := 4) rfl) (List.mem_of_getElem? (i := 5) rfl) (List.mem_of_getElem? (i := 6) rfl) rfl (fun j hj => by rcases (show j = 0 by omega) with rfl <;> rfl) (by show _ ≤ 7; omega) (by show _ ≤ 172; omega) dX6_init_27 (fun H hN => ?_)
  have hN : zN D (zT cI cJ cZ cP cS cM) L (zQ L (a + 1)) st (va_up (va_up g20 a (.inr (6, [.ref (a + 1), .ref (a + 3), .null, .null, .null]))) (a + 5) (.inr (2, [.null]))) st.heap H locs (a + 1) 5 := by have q := hN; first | exact q | (rw [show 4 + 1 = 5 by omega] at q; exact q)
  have hW := hN.1
  refine W.widen (k := 5) (n := 53) (by omega) (by omega) ?_
  refine lv_dup hX0 hB0 dX6_init_30 rfl ?_
  refine zn_callv hN (va_runIN (As := []) (rest := [.ref (a + 5), .ref a]) CX.fix (c_Poly_init l (f := va_up (va_up g20 a (.inr (6, [.ref (a + 1), .ref (a + 3), .null, .null, .null]))) (a + 5) (.inr (2, [.null]))) (a + 5) (va_up_self _ _ _)) ⟨va_cnB (own := RX6) (host := "CurveMeets") (index := 11) 0 CX.fix.2.2.2.2 ggX6_init_X2_init rfl rfl rfl (CX.2.2.2.2.2.2.2.1 _ (by decide +kernel)) (CX.at (List.mem_of_getElem? (i := 6) rfl)) (by decide +kernel) ⟨Nat.le_of_ble_eq_true rfl, Nat.le_of_ble_eq_true rfl⟩, rfl, CX.at (List.mem_of_getElem? (i := 13) rfl)⟩ (hN.2 ▸ (z_preS CX hW (As := [.ref (a + 5)]))) rfl rfl hl.1 rfl (lv_room (Nat.le_of_ble_eq_true rfl)) dX6_init_31 ⟨by show _ ≤ 7; omega, by show _ ≤ 172; omega⟩) (fun gn H locs hok31 hN => ?_)
  obtain ⟨g31, eg31⟩ : ∃ q, q = gn := ⟨_, rfl⟩
  rw [← eg31] at hN hok31
  clear eg31
  obtain ⟨hfr31, hp31⟩ := hok31
  have hN : zN D (zT cI cJ cZ cP cS cM) L (zQ L (a + 1)) st g31 st.heap H locs (a + 1) 6 := by have q := hN; first | exact q | (rw [show 5 + 1 = 6 by omega] at q; exact q)
  have hW := hN.1
  refine W.widen (k := 6) (n := 78) (by omega) (by omega) ?_
  refine zn_putF (Cn := RX6) (T := TX6) (N := 5) CX hN (v := .ref (a + 5)) ((hfr31 _ (by omega)).trans ((va_up_ne _ _ (by omega)).trans (va_up_self _ _ _))) rfl (fun w h => List.mem_cons_of_mem _ (List.mem_append_right _ h)) tyX6 tyX6_ok nmX6 2 (by decide) (List.mem_of_getElem? (i := 9) rfl) rfl rfl hin rfl rfl rfl (Nat.le_of_ble_eq_true rfl) (g := va_up g31 a (.inr (6, [.ref (a + 1), .ref (a + 3), .ref (a + 5), .null, .null]))) rfl dX6_init_34 (fun H locs hN => ?_)
  have hW := hN.1
  refine lv_aload_n hX0 hB0 dX6_init_37 rfl (lv_at hl 0 rfl) ?_
  refine lv_bipush (v := zI 94) hX0 hB0 dX6_init_38 (by decide) ?_
  refine zn_newa (atype := .int) (ty := .int) (cy := cI) (N' := 94) (a0 := (94, .inl (fun k => zI (zone 0 k)))) CX hN rfl (List.mem_of_getElem? (i := 10) rfl) 0 rfl zn_haI (by omega) rfl (by decide) (by omega) (by show _ ≤ 7; omega) (by show _ ≤ 172; omega) dX6_init_40 (fun H hN => ?_)
  have hN : zN D (zT cI cJ cZ cP cS cM) L (zQ L (a + 1)) st (va_up (va_up g31 a (.inr (6, [.ref (a + 1), .ref (a + 3), .ref (a + 5), .null, .null]))) (a + 7) (zA cI 94 (zone 0))) st.heap H locs (a + 1) 7 := by have q := hN; first | exact q | (rw [show 6 + 1 = 7 by omega] at q; exact q)
  have hW := hN.1
  refine W.widen (k := 7) (n := 172) (by omega) (by omega) ?_
  refine zn_putF (Cn := RX6) (T := TX6) (N := 5) CX hN (v := .ref (a + 7)) ((va_up_ne _ _ (by omega)).trans (va_up_self _ _ _)) rfl (fun w h => List.mem_cons_of_mem _ (List.mem_append_right _ h)) tyX6 tyX6_ok nmX6 3 (by decide) (List.mem_of_getElem? (i := 11) rfl) rfl rfl hin rfl rfl rfl (Nat.le_of_ble_eq_true rfl) (g := va_up (va_up g31 a (.inr (6, [.ref (a + 1), .ref (a + 3), .ref (a + 5), .ref (a + 7), .null]))) (a + 7) (zA cI 94 (zone 0))) (by rw [va_up_comm (a := (a + 7)) (b := a) (by omega), va_up_up]; try rfl) dX6_init_42 (fun H locs hN => ?_)
  have hW := hN.1
  refine lv_aload_n hX0 hB0 dX6_init_45 rfl (lv_at hl 0 rfl) ?_
  refine lv_aload_n hX0 hB0 dX6_init_46 rfl (lv_at hl 1 rfl) ?_
  refine zn_putF (Cn := RX6) (T := TX6) (N := 5) CX hN (v := .ref b) ((va_up_ne _ _ (by omega)).trans (va_up_self _ _ _)) rfl (fun w h => List.mem_cons_of_mem _ (List.mem_append_right _ h)) tyX6 tyX6_ok nmX6 4 (by decide) (List.mem_of_getElem? (i := 12) rfl) rfl rfl hin rfl rfl rfl (Nat.le_of_ble_eq_true rfl) (g := va_up (va_up g31 a (.inr (6, [.ref (a + 1), .ref (a + 3), .ref (a + 5), .ref (a + 7), .ref b]))) (a + 7) (zA cI 94 (zone 0))) (by rw [va_up_comm (a := (a + 7)) (b := a) (by omega), va_up_up]; try rfl) dX6_init_47 (fun H locs hN => ?_)
  have hW := hN.1
  rw [← hQ]
  have hN := hN
  refine W.widen (k := 7) (n := 172) (by omega) (by omega) ?_
  exact zn_vret CX hN (by exact ⟨(((((((((((zFr.refl (lo := a) (hi := a + 8)).up (a := a + 1) (x := .inr (2, [.null])) (by omega)).trans (hfr9.wide (by omega) (by omega))).up (by omega)).up (a := a + 3) (x := .inr (2, [.null])) (by omega)).trans (hfr20.wide (by omega) (by omega))).up (by omega)).up (a := a + 5) (x := .inr (2, [.null])) (by omega)).trans (hfr31.wide (by omega) (by omega))).up (by omega)).up (by omega)), ((va_up_ne _ _ (by omega)).trans (va_up_self _ _ _)), ⟨((va_up_ne _ _ (by omega)).trans ((va_up_ne _ _ (by omega)).trans ((hfr31 _ (by omega)).trans ((va_up_ne _ _ (by omega)).trans ((va_up_ne _ _ (by omega)).trans ((hfr20 _ (by omega)).trans ((va_up_ne _ _ (by omega)).trans ((va_up_ne _ _ (by omega)).trans hp9.1)))))))), ((va_up_ne _ _ (by omega)).trans ((va_up_ne _ _ (by omega)).trans ((hfr31 _ (by omega)).trans ((va_up_ne _ _ (by omega)).trans ((va_up_ne _ _ (by omega)).trans ((hfr20 _ (by omega)).trans ((va_up_ne _ _ (by omega)).trans ((va_up_ne _ _ (by omega)).trans hp9.2))))))))⟩, ⟨((va_up_ne _ _ (by omega)).trans ((va_up_ne _ _ (by omega)).trans ((hfr31 _ (by omega)).trans ((va_up_ne _ _ (by omega)).trans ((va_up_ne _ _ (by omega)).trans hp20.1))))), ((va_up_ne _ _ (by omega)).trans ((va_up_ne _ _ (by omega)).trans ((hfr31 _ (by omega)).trans ((va_up_ne _ _ (by omega)).trans ((va_up_ne _ _ (by omega)).trans hp20.2)))))⟩, ⟨((va_up_ne _ _ (by omega)).trans ((va_up_ne _ _ (by omega)).trans hp31.1)), ((va_up_ne _ _ (by omega)).trans ((va_up_ne _ _ (by omega)).trans hp31.2))⟩, (va_up_self _ _ _)⟩) dX6_init_50
set_option maxRecDepth 100000 in
set_option maxHeartbeats 4000000 in
/-- Ring(space) -/
theorem c_Ring_init (l : Launch) {D : va_G} {cI cJ cZ cP cS cM : ClassId} {L : List Nat} {f : Nat → va_E} (a : Nat) (b : Nat) (hf0 : f a = .inr (5, [.null, .null, .null, .null, .null, .int (zI 0), .int (zI 0), .int (zI 0), .int (zI 0), .int (zI 0), .int (zI 0)])) : zMn l yX5_init wsX5_init 2 32 5 1370 D (zT cI cJ cZ cP cS cM) L (a + 1) f [.ref a, .ref b] (fun g => zFr f g a (a + 6) ∧ g a = .inr (5, [.ref b, .ref (a + 1), .ref (a + 2), .ref (a + 3), .ref (a + 4), .int (zI 7), .int (zI 24), .int (zI 0), .int (zI 0), .int (zI 0), .int (zI 0)]) ∧ g (a + 1) = zA cI 625 (zone 0) ∧ g (a + 2) = zA cI 625 (zone 0) ∧ g (a + 3) = zA cI 94 (zone 0) ∧ zPoly cI g (a + 4) (zone 0)) := by
  refine zNew.met (nL := 2) (ret := none) (cc := cX5_init) (by decide) rfl (Nat.le_of_ble_eq_true rfl) ?_
  intro pg en st mi ag bl mt cd ls CX hin hN hl
  have CX : zC pg st mi ag mt cd cX5_init 2 none RX5 wsX5_init := CX
  generalize hQ : MQ bl _ ag st 5 1370 _ = Q
  have hX0 := CX.1
  have hB0 := CX.2.1
  have hl : lv_has ls 2 [(0, .ref a), (1, .ref b)] := hl
  obtain ⟨H, eH⟩ : ∃ H, H = st.heap := ⟨_, rfl⟩
  obtain ⟨locs, eL⟩ : ∃ L : List Loc, L = [] := ⟨_, rfl⟩
  have hN : zN D (zT cI cJ cZ cP cS cM) L (zQ L (a + 1)) st f st.heap H locs (a + 1) 0 := by rw [eH, eL]; exact hN
  have hW := hN.1
  suffices hgo : W pg l en ({ frames := 2, cells := 5, slots := 1370, locals := 32 } : Room) st mi ag bl mt cd H locs 0 0 Q (F0 mi 0 ls []) by rw [eH, eL] at hgo; exact hgo
  clear eH eL
  refine lv_aload_n hX0 hB0 dX5_init_0 rfl (lv_at hl 0 rfl) ?_
  refine W.objInit hX0 hB0 CX.2.2.2.1 (CX.at (List.mem_of_getElem? (i := 1) rfl)) (CX.at (List.mem_of_getElem? (i := 2) rfl)) (CX.at (List.mem_of_getElem? (i := 3) rfl)) rfl (by rw [CX.2.2.1]; exact hl.1) rfl dX5_init_1 (Nat.le_of_ble_eq_true rfl) (Nat.le_of_ble_eq_true rfl) ?_
  refine W.eq (g2 := F0 mi 4 ls []) rfl ?_
  refine lv_aload_n hX0 hB0 dX5_init_4 rfl (lv_at hl 0 rfl) ?_
  refine lv_sipush (v := zI 625) hX0 hB0 dX5_init_5 (by decide) ?_
  refine zn_newa (atype := .int) (ty := .int) (cy := cI) (N' := 625) (a0 := (625, .inl (fun k => zI (zone 0 k)))) CX hN rfl (List.mem_of_getElem? (i := 4) rfl) 0 rfl zn_haI (by omega) rfl (by decide) (by omega) (by show _ ≤ 5; omega) (by show _ ≤ 1370; omega) dX5_init_8 (fun H hN => ?_)
  have hN : zN D (zT cI cJ cZ cP cS cM) L (zQ L (a + 1)) st (va_up f (a + 1) (zA cI 625 (zone 0))) st.heap H locs (a + 1) 1 := by have q := hN; first | exact q | (rw [show 0 + 1 = 1 by omega] at q; exact q)
  have hW := hN.1
  refine W.widen (k := 1) (n := 625) (by omega) (by omega) ?_
  refine zn_putF (Cn := RX5) (T := TX5) (N := 11) CX hN (v := .ref (a + 1)) ((va_up_ne _ _ (by omega)).trans hf0) rfl (fun w h => List.mem_cons_of_mem _ (List.mem_append_left _ (List.mem_append_right _ h))) tyX5 tyX5_ok nmX5 1 (by decide) (List.mem_of_getElem? (i := 5) rfl) rfl rfl hin rfl rfl rfl (Nat.le_of_ble_eq_true rfl) (g := va_up (va_up f (a + 1) (zA cI 625 (zone 0))) a (.inr (5, [.null, .ref (a + 1), .null, .null, .null, .int (zI 0), .int (zI 0), .int (zI 0), .int (zI 0), .int (zI 0), .int (zI 0)]))) rfl dX5_init_10 (fun H locs hN => ?_)
  have hW := hN.1
  refine lv_aload_n hX0 hB0 dX5_init_13 rfl (lv_at hl 0 rfl) ?_
  refine lv_sipush (v := zI 625) hX0 hB0 dX5_init_14 (by decide) ?_
  refine zn_newa (atype := .int) (ty := .int) (cy := cI) (N' := 625) (a0 := (625, .inl (fun k => zI (zone 0 k)))) CX hN rfl (List.mem_of_getElem? (i := 4) rfl) 0 rfl zn_haI (by omega) rfl (by decide) (by omega) (by show _ ≤ 5; omega) (by show _ ≤ 1370; omega) dX5_init_17 (fun H hN => ?_)
  have hN : zN D (zT cI cJ cZ cP cS cM) L (zQ L (a + 1)) st (va_up (va_up (va_up f (a + 1) (zA cI 625 (zone 0))) a (.inr (5, [.null, .ref (a + 1), .null, .null, .null, .int (zI 0), .int (zI 0), .int (zI 0), .int (zI 0), .int (zI 0), .int (zI 0)]))) (a + 2) (zA cI 625 (zone 0))) st.heap H locs (a + 1) 2 := by have q := hN; first | exact q | (rw [show 1 + 1 = 2 by omega] at q; exact q)
  have hW := hN.1
  refine W.widen (k := 2) (n := 1250) (by omega) (by omega) ?_
  refine zn_putF (Cn := RX5) (T := TX5) (N := 11) CX hN (v := .ref (a + 2)) ((va_up_ne _ _ (by omega)).trans (va_up_self _ _ _)) rfl (fun w h => List.mem_cons_of_mem _ (List.mem_append_left _ (List.mem_append_right _ h))) tyX5 tyX5_ok nmX5 2 (by decide) (List.mem_of_getElem? (i := 6) rfl) rfl rfl hin rfl rfl rfl (Nat.le_of_ble_eq_true rfl) (g := va_up (va_up (va_up f (a + 1) (zA cI 625 (zone 0))) a (.inr (5, [.null, .ref (a + 1), .ref (a + 2), .null, .null, .int (zI 0), .int (zI 0), .int (zI 0), .int (zI 0), .int (zI 0), .int (zI 0)]))) (a + 2) (zA cI 625 (zone 0))) (by rw [va_up_comm (a := (a + 2)) (b := a) (by omega), va_up_up]; try rfl) dX5_init_19 (fun H locs hN => ?_)
  have hW := hN.1
  refine lv_aload_n hX0 hB0 dX5_init_22 rfl (lv_at hl 0 rfl) ?_
  refine lv_bipush (v := zI 94) hX0 hB0 dX5_init_23 (by decide) ?_
  refine zn_newa (atype := .int) (ty := .int) (cy := cI) (N' := 94) (a0 := (94, .inl (fun k => zI (zone 0 k)))) CX hN rfl (List.mem_of_getElem? (i := 4) rfl) 0 rfl zn_haI (by omega) rfl (by decide) (by omega) (by show _ ≤ 5; omega) (by show _ ≤ 1370; omega) dX5_init_25 (fun H hN => ?_)
  have hN : zN D (zT cI cJ cZ cP cS cM) L (zQ L (a + 1)) st (va_up (va_up (va_up (va_up f (a + 1) (zA cI 625 (zone 0))) a (.inr (5, [.null, .ref (a + 1), .ref (a + 2), .null, .null, .int (zI 0), .int (zI 0), .int (zI 0), .int (zI 0), .int (zI 0), .int (zI 0)]))) (a + 2) (zA cI 625 (zone 0))) (a + 3) (zA cI 94 (zone 0))) st.heap H locs (a + 1) 3 := by have q := hN; first | exact q | (rw [show 2 + 1 = 3 by omega] at q; exact q)
  have hW := hN.1
  refine W.widen (k := 3) (n := 1344) (by omega) (by omega) ?_
  refine zn_putF (Cn := RX5) (T := TX5) (N := 11) CX hN (v := .ref (a + 3)) ((va_up_ne _ _ (by omega)).trans ((va_up_ne _ _ (by omega)).trans (va_up_self _ _ _))) rfl (fun w h => List.mem_cons_of_mem _ (List.mem_append_left _ (List.mem_append_right _ h))) tyX5 tyX5_ok nmX5 3 (by decide) (List.mem_of_getElem? (i := 7) rfl) rfl rfl hin rfl rfl rfl (Nat.le_of_ble_eq_true rfl) (g := va_up (va_up (va_up (va_up f (a + 1) (zA cI 625 (zone 0))) a (.inr (5, [.null, .ref (a + 1), .ref (a + 2), .ref (a + 3), .null, .int (zI 0), .int (zI 0), .int (zI 0), .int (zI 0), .int (zI 0), .int (zI 0)]))) (a + 2) (zA cI 625 (zone 0))) (a + 3) (zA cI 94 (zone 0))) (by rw [va_up_comm (a := (a + 3)) (b := a) (by omega), va_up_comm (a := (a + 2)) (b := a) (by omega), va_up_up]; try rfl) dX5_init_27 (fun H locs hN => ?_)
  have hW := hN.1
  refine lv_aload_n hX0 hB0 dX5_init_30 rfl (lv_at hl 0 rfl) ?_
  refine zn_new (ci := 2) (fs := [.null]) CX hN (fun w h => List.mem_cons_of_mem _ (List.mem_append_right _ h)) tyX2 tyX2_ok (List.mem_of_getElem? (i := 8) rfl) (List.mem_of_getElem? (i := 9) rfl) (List.mem_of_getElem? (i := 10) rfl) rfl (fun j hj => by rcases (show j = 0 by omega) with rfl <;> rfl) (by show _ ≤ 5; omega) (by show _ ≤ 1370; omega) dX5_init_31 (fun H hN => ?_)
  have hN : zN D (zT cI cJ cZ cP cS cM) L (zQ L (a + 1)) st (va_up (va_up (va_up (va_up (va_up f (a + 1) (zA cI 625 (zone 0))) a (.inr (5, [.null, .ref (a + 1), .ref (a + 2), .ref (a + 3), .null, .int (zI 0), .int (zI 0), .int (zI 0), .int (zI 0), .int (zI 0), .int (zI 0)]))) (a + 2) (zA cI 625 (zone 0))) (a + 3) (zA cI 94 (zone 0))) (a + 4) (.inr (2, [.null]))) st.heap H locs (a + 1) 4 := by have q := hN; first | exact q | (rw [show 3 + 1 = 4 by omega] at q; exact q)
  have hW := hN.1
  refine W.widen (k := 4) (n := 1345) (by omega) (by omega) ?_
  refine lv_dup hX0 hB0 dX5_init_34 rfl ?_
  refine zn_callv hN (va_runIN (As := []) (rest := [.ref (a + 4), .ref a]) CX.fix (c_Poly_init l (f := va_up (va_up (va_up (va_up (va_up f (a + 1) (zA cI 625 (zone 0))) a (.inr (5, [.null, .ref (a + 1), .ref (a + 2), .ref (a + 3), .null, .int (zI 0), .int (zI 0), .int (zI 0), .int (zI 0), .int (zI 0), .int (zI 0)]))) (a + 2) (zA cI 625 (zone 0))) (a + 3) (zA cI 94 (zone 0))) (a + 4) (.inr (2, [.null]))) (a + 4) (va_up_self _ _ _)) ⟨va_cnB (own := RX5) (host := "CurveMeets") (index := 25) 0 CX.fix.2.2.2.2 ggX5_init_X2_init rfl rfl rfl (CX.2.2.2.2.2.2.2.1 _ (by decide +kernel)) (CX.at (List.mem_of_getElem? (i := 10) rfl)) (by decide +kernel) ⟨Nat.le_of_ble_eq_true rfl, Nat.le_of_ble_eq_true rfl⟩, rfl, CX.at (List.mem_of_getElem? (i := 19) rfl)⟩ (hN.2 ▸ (z_preS CX hW (As := [.ref (a + 4)]))) rfl rfl hl.1 rfl (lv_room (Nat.le_of_ble_eq_true rfl)) dX5_init_35 ⟨by show _ ≤ 5; omega, by show _ ≤ 1370; omega⟩) (fun gn H locs hok35 hN => ?_)
  obtain ⟨g35, eg35⟩ : ∃ q, q = gn := ⟨_, rfl⟩
  rw [← eg35] at hN hok35
  clear eg35
  obtain ⟨hfr35, hp35⟩ := hok35
  have hN : zN D (zT cI cJ cZ cP cS cM) L (zQ L (a + 1)) st g35 st.heap H locs (a + 1) 5 := by have q := hN; first | exact q | (rw [show 4 + 1 = 5 by omega] at q; exact q)
  have hW := hN.1
  refine W.widen (k := 5) (n := 1370) (by omega) (by omega) ?_
  refine zn_put (Cn := RX5) (T := TX5) (N := 11) CX hN (v := .ref (a + 4)) ((hfr35 _ (by omega)).trans ((va_up_ne _ _ (by omega)).trans ((va_up_ne _ _ (by omega)).trans ((va_up_ne _ _ (by omega)).trans (va_up_self _ _ _))))) rfl (fun w h => List.mem_cons_of_mem _ (List.mem_append_left _ (List.mem_append_right _ h))) tyX5 tyX5_ok nmX5 4 (by decide) (List.mem_of_getElem? (i := 11) rfl) rfl rfl rfl rfl (Nat.le_of_ble_eq_true rfl) (g := va_up g35 a (.inr (5, [.null, .ref (a + 1), .ref (a + 2), .ref (a + 3), .ref (a + 4), .int (zI 0), .int (zI 0), .int (zI 0), .int (zI 0), .int (zI 0), .int (zI 0)]))) rfl dX5_init_38 (fun H locs hN => ?_)
  have hW := hN.1
  refine lv_aload_n hX0 hB0 dX5_init_41 rfl (lv_at hl 0 rfl) ?_
  refine lv_bipush (v := zI 7) hX0 hB0 dX5_init_42 (by decide) ?_
  refine zn_put (Cn := RX5) (T := TX5) (N := 11) CX hN (v := .int (zI 7)) (va_up_self _ _ _) rfl (fun w h => List.mem_cons_of_mem _ (List.mem_append_left _ (List.mem_append_right _ h))) tyX5 tyX5_ok nmX5 5 (by decide) (List.mem_of_getElem? (i := 12) rfl) rfl rfl rfl rfl (Nat.le_of_ble_eq_true rfl) (g := va_up g35 a (.inr (5, [.null, .ref (a + 1), .ref (a + 2), .ref (a + 3), .ref (a + 4), .int (zI 7), .int (zI 0), .int (zI 0), .int (zI 0), .int (zI 0), .int (zI 0)]))) va_up_up dX5_init_44 (fun H locs hN => ?_)
  have hW := hN.1
  refine lv_aload_n hX0 hB0 dX5_init_47 rfl (lv_at hl 0 rfl) ?_
  refine lv_bipush (v := zI 24) hX0 hB0 dX5_init_48 (by decide) ?_
  refine zn_put (Cn := RX5) (T := TX5) (N := 11) CX hN (v := .int (zI 24)) (va_up_self _ _ _) rfl (fun w h => List.mem_cons_of_mem _ (List.mem_append_left _ (List.mem_append_right _ h))) tyX5 tyX5_ok nmX5 6 (by decide) (List.mem_of_getElem? (i := 13) rfl) rfl rfl rfl rfl (Nat.le_of_ble_eq_true rfl) (g := va_up g35 a (.inr (5, [.null, .ref (a + 1), .ref (a + 2), .ref (a + 3), .ref (a + 4), .int (zI 7), .int (zI 24), .int (zI 0), .int (zI 0), .int (zI 0), .int (zI 0)]))) va_up_up dX5_init_50 (fun H locs hN => ?_)
  have hW := hN.1
  refine lv_aload_n hX0 hB0 dX5_init_53 rfl (lv_at hl 0 rfl) ?_
  refine lv_iconst (v := zI 0) hX0 hB0 dX5_init_54 rfl ?_
  refine zn_put (Cn := RX5) (T := TX5) (N := 11) CX hN (v := .int (zI 0)) (va_up_self _ _ _) rfl (fun w h => List.mem_cons_of_mem _ (List.mem_append_left _ (List.mem_append_right _ h))) tyX5 tyX5_ok nmX5 7 (by decide) (List.mem_of_getElem? (i := 14) rfl) rfl rfl rfl rfl (Nat.le_of_ble_eq_true rfl) (g := va_up g35 a (.inr (5, [.null, .ref (a + 1), .ref (a + 2), .ref (a + 3), .ref (a + 4), .int (zI 7), .int (zI 24), .int (zI 0), .int (zI 0), .int (zI 0), .int (zI 0)]))) va_up_up dX5_init_55 (fun H locs hN => ?_)
  have hW := hN.1
  refine lv_aload_n hX0 hB0 dX5_init_58 rfl (lv_at hl 0 rfl) ?_
  refine lv_iconst (v := zI 0) hX0 hB0 dX5_init_59 rfl ?_
  refine zn_put (Cn := RX5) (T := TX5) (N := 11) CX hN (v := .int (zI 0)) (va_up_self _ _ _) rfl (fun w h => List.mem_cons_of_mem _ (List.mem_append_left _ (List.mem_append_right _ h))) tyX5 tyX5_ok nmX5 8 (by decide) (List.mem_of_getElem? (i := 15) rfl) rfl rfl rfl rfl (Nat.le_of_ble_eq_true rfl) (g := va_up g35 a (.inr (5, [.null, .ref (a + 1), .ref (a + 2), .ref (a + 3), .ref (a + 4), .int (zI 7), .int (zI 24), .int (zI 0), .int (zI 0), .int (zI 0), .int (zI 0)]))) va_up_up dX5_init_60 (fun H locs hN => ?_)
  have hW := hN.1
  refine lv_aload_n hX0 hB0 dX5_init_63 rfl (lv_at hl 0 rfl) ?_
  refine lv_iconst (v := zI 0) hX0 hB0 dX5_init_64 rfl ?_
  refine zn_put (Cn := RX5) (T := TX5) (N := 11) CX hN (v := .int (zI 0)) (va_up_self _ _ _) rfl (fun w h => List.mem_cons_of_mem _ (List.mem_append_left _ (List.mem_append_right _ h))) tyX5 tyX5_ok nmX5 9 (by decide) (List.mem_of_getElem? (i := 16) rfl) rfl rfl rfl rfl (Nat.le_of_ble_eq_true rfl) (g := va_up g35 a (.inr (5, [.null, .ref (a + 1), .ref (a + 2), .ref (a + 3), .ref (a + 4), .int (zI 7), .int (zI 24), .int (zI 0), .int (zI 0), .int (zI 0), .int (zI 0)]))) va_up_up dX5_init_65 (fun H locs hN => ?_)
  have hW := hN.1
  refine lv_aload_n hX0 hB0 dX5_init_68 rfl (lv_at hl 0 rfl) ?_
  refine lv_iconst (v := zI 0) hX0 hB0 dX5_init_69 rfl ?_
  refine zn_put (Cn := RX5) (T := TX5) (N := 11) CX hN (v := .int (zI 0)) (va_up_self _ _ _) rfl (fun w h => List.mem_cons_of_mem _ (List.mem_append_left _ (List.mem_append_right _ h))) tyX5 tyX5_ok nmX5 10 (by decide) (List.mem_of_getElem? (i := 17) rfl) rfl rfl rfl rfl (Nat.le_of_ble_eq_true rfl) (g := va_up g35 a (.inr (5, [.null, .ref (a + 1), .ref (a + 2), .ref (a + 3), .ref (a + 4), .int (zI 7), .int (zI 24), .int (zI 0), .int (zI 0), .int (zI 0), .int (zI 0)]))) va_up_up dX5_init_70 (fun H locs hN => ?_)
  have hW := hN.1
  refine lv_aload_n hX0 hB0 dX5_init_73 rfl (lv_at hl 0 rfl) ?_
  refine lv_aload_n hX0 hB0 dX5_init_74 rfl (lv_at hl 1 rfl) ?_
  refine zn_putF (Cn := RX5) (T := TX5) (N := 11) CX hN (v := .ref b) (va_up_self _ _ _) rfl (fun w h => List.mem_cons_of_mem _ (List.mem_append_left _ (List.mem_append_right _ h))) tyX5 tyX5_ok nmX5 0 (by decide) (List.mem_of_getElem? (i := 18) rfl) rfl rfl hin rfl rfl rfl (Nat.le_of_ble_eq_true rfl) (g := va_up g35 a (.inr (5, [.ref b, .ref (a + 1), .ref (a + 2), .ref (a + 3), .ref (a + 4), .int (zI 7), .int (zI 24), .int (zI 0), .int (zI 0), .int (zI 0), .int (zI 0)]))) va_up_up dX5_init_75 (fun H locs hN => ?_)
  have hW := hN.1
  rw [← hQ]
  have hN := hN
  refine W.widen (k := 5) (n := 1370) (by omega) (by omega) ?_
  exact zn_vret CX hN (by exact ⟨((((((((zFr.refl (lo := a) (hi := a + 6)).up (by omega)).up (by omega)).up (by omega)).up (by omega)).up (a := a + 4) (x := .inr (2, [.null])) (by omega)).trans (hfr35.wide (by omega) (by omega))).up (by omega)), (va_up_self _ _ _), ((va_up_ne _ _ (by omega)).trans ((hfr35 _ (by omega)).trans ((va_up_ne _ _ (by omega)).trans ((va_up_ne _ _ (by omega)).trans ((va_up_ne _ _ (by omega)).trans ((va_up_ne _ _ (by omega)).trans (va_up_self _ _ _))))))), ((va_up_ne _ _ (by omega)).trans ((hfr35 _ (by omega)).trans ((va_up_ne _ _ (by omega)).trans ((va_up_ne _ _ (by omega)).trans (va_up_self _ _ _))))), ((va_up_ne _ _ (by omega)).trans ((hfr35 _ (by omega)).trans ((va_up_ne _ _ (by omega)).trans (va_up_self _ _ _)))), ⟨((va_up_ne _ _ (by omega)).trans hp35.1), ((va_up_ne _ _ (by omega)).trans hp35.2)⟩⟩) dX5_init_78
theorem zrk15 {b : Nat} {k : Int} (hk : 0 ≤ k) {x : Nat} (hx : x = b + 15 * k.toNat) : va_up (fun j => if j < k.toNat then some (b + 15 * j) else none) k.toNat (some x) = (fun j => if j < (k + 1).toNat then some (b + 15 * j) else none) := by
  funext j
  unfold va_up
  by_cases e : j = k.toNat
  · rw [if_pos e, if_pos (by omega), hx, e]
  · rw [if_neg e]
    show (if j < k.toNat then some (b + 15 * j) else none) = _
    by_cases h : j < k.toNat
    · rw [if_pos h, if_pos (by omega)]
    · rw [if_neg h, if_neg (by omega)]
set_option maxRecDepth 100000 in
set_option maxHeartbeats 4000000 in
/-- Past() -/
theorem c_Past_init (l : Launch) {D : va_G} {cI cJ cZ cP cS cM : ClassId} {L : List Nat} {f : Nat → va_E} (a : Nat) (hf0 : f a = .inr (1, [.int (zI 0), .int (zI 0), .null])) : zMn l yX1_init wsX1_init 3 53 301 4060 D (zT cI cJ cZ cP cS cM) L (a + 1) f [.ref a] (fun g => zFr f g a (a + 302) ∧ g a = .inr (1, [.int (zI 0), .int (zI 0), .ref (a + 1)]) ∧ g (a + 1) = zAR cS 20 (fun k => some (a + 2 + 15 * k)) ∧ ∀ k, k < 20 → zShelf cI cP g (a + 2 + 15 * k) 7 0 (fun _ => zone 0) (zone 0)) := by
  refine zNew.met (nL := 2) (ret := none) (cc := cX1_init) (by decide) rfl (Nat.le_of_ble_eq_true rfl) ?_
  intro pg en st mi ag bl mt cd ls CX hin hN hl
  have CX : zC pg st mi ag mt cd cX1_init 2 none RX1 wsX1_init := CX
  generalize hQ : MQ bl _ ag st 301 4060 _ = Q
  have hX0 := CX.1
  have hB0 := CX.2.1
  have hl : lv_has ls 2 [(0, .ref a)] := hl
  obtain ⟨H, eH⟩ : ∃ H, H = st.heap := ⟨_, rfl⟩
  obtain ⟨locs, eL⟩ : ∃ L : List Loc, L = [] := ⟨_, rfl⟩
  have hN : zN D (zT cI cJ cZ cP cS cM) L (zQ L (a + 1)) st f st.heap H locs (a + 1) 0 := by rw [eH, eL]; exact hN
  have hW := hN.1
  suffices hgo : W pg l en ({ frames := 3, cells := 301, slots := 4060, locals := 53 } : Room) st mi ag bl mt cd H locs 0 0 Q (F0 mi 0 ls []) by rw [eH, eL] at hgo; exact hgo
  clear eH eL
  refine lv_aload_n hX0 hB0 dX1_init_0 rfl (lv_at hl 0 rfl) ?_
  refine W.objInit hX0 hB0 CX.2.2.2.1 (CX.at (List.mem_of_getElem? (i := 1) rfl)) (CX.at (List.mem_of_getElem? (i := 2) rfl)) (CX.at (List.mem_of_getElem? (i := 3) rfl)) rfl (by rw [CX.2.2.1]; exact hl.1) rfl dX1_init_1 (Nat.le_of_ble_eq_true rfl) (Nat.le_of_ble_eq_true rfl) ?_
  refine W.eq (g2 := F0 mi 4 ls []) rfl ?_
  refine lv_aload_n hX0 hB0 dX1_init_4 rfl (lv_at hl 0 rfl) ?_
  refine lv_iconst (v := zI 0) hX0 hB0 dX1_init_5 rfl ?_
  refine zn_put (Cn := RX1) (T := TX1) (N := 3) CX hN (v := .int (zI 0)) hf0 rfl (fun w h => List.mem_cons_of_mem _ (List.mem_append_left _ (List.mem_append_left _ (List.mem_append_right _ h)))) tyX1 tyX1_ok nmX1 0 (by decide) (List.mem_of_getElem? (i := 4) rfl) rfl rfl rfl rfl (Nat.le_of_ble_eq_true rfl) (g := va_up f a (.inr (1, [.int (zI 0), .int (zI 0), .null]))) rfl dX1_init_6 (fun H locs hN => ?_)
  have hW := hN.1
  refine lv_aload_n hX0 hB0 dX1_init_9 rfl (lv_at hl 0 rfl) ?_
  refine lv_iconst (v := zI 0) hX0 hB0 dX1_init_10 rfl ?_
  refine zn_put (Cn := RX1) (T := TX1) (N := 3) CX hN (v := .int (zI 0)) (va_up_self _ _ _) rfl (fun w h => List.mem_cons_of_mem _ (List.mem_append_left _ (List.mem_append_left _ (List.mem_append_right _ h)))) tyX1 tyX1_ok nmX1 1 (by decide) (List.mem_of_getElem? (i := 5) rfl) rfl rfl rfl rfl (Nat.le_of_ble_eq_true rfl) (g := va_up f a (.inr (1, [.int (zI 0), .int (zI 0), .null]))) va_up_up dX1_init_11 (fun H locs hN => ?_)
  have hW := hN.1
  refine lv_aload_n hX0 hB0 dX1_init_14 rfl (lv_at hl 0 rfl) ?_
  refine lv_bipush (v := zI 20) hX0 hB0 dX1_init_15 (by decide) ?_
  refine zn_newq (cy := cS) (N' := 20) CX hN (List.mem_of_getElem? (i := 6) rfl) CX.2.2.2.2.2.2.2.2.2.1 4 rfl (by omega) rfl (by decide) (by show _ ≤ 301; omega) (by show _ ≤ 4060; omega) dX1_init_17 (fun H hN => ?_)
  have hN : zN D (zT cI cJ cZ cP cS cM) L (zQ L (a + 1)) st (va_up (va_up f a (.inr (1, [.int (zI 0), .int (zI 0), .null]))) (a + 1) (zAR cS 20 ((fun _ => none)))) st.heap H locs (a + 1) 1 := by have q := hN; first | exact q | (rw [show 0 + 1 = 1 by omega] at q; exact q)
  have hW := hN.1
  refine W.widen (k := 1) (n := 20) (by omega) (by omega) ?_
  refine zn_putF (Cn := RX1) (T := TX1) (N := 3) CX hN (v := .ref (a + 1)) ((va_up_ne _ _ (by omega)).trans (va_up_self _ _ _)) rfl (fun w h => List.mem_cons_of_mem _ (List.mem_append_left _ (List.mem_append_left _ (List.mem_append_right _ h)))) tyX1 tyX1_ok nmX1 2 (by decide) (List.mem_of_getElem? (i := 7) rfl) rfl rfl hin rfl rfl rfl (Nat.le_of_ble_eq_true rfl) (g := va_up (va_up f a (.inr (1, [.int (zI 0), .int (zI 0), .ref (a + 1)]))) (a + 1) (zAR cS 20 ((fun _ => none)))) (by rw [va_up_comm (a := (a + 1)) (b := a) (by omega), va_up_up]; try rfl) dX1_init_20 (fun H locs hN => ?_)
  have hW := hN.1
  refine lv_iconst (v := zI 0) hX0 hB0 dX1_init_23 rfl ?_
  refine lv_istore_n (lv' := [(1, .int (zI 0)), (0, .ref a)]) hX0 hB0 dX1_init_24 rfl hl (by decide) rfl (fun ls hl => ?_)
  have hL25 : ∀ (fu : Nat) (k : Int) (g : Nat → va_E), (0 ≤ k ∧ k ≤ 20 ∧ zFr f g a (a + 302) ∧ g a = .inr (1, [.int (zI 0), .int (zI 0), .ref (a + 1)]) ∧ g (a + 1) = zAR cS 20 (fun j => if j < k.toNat then some (a + 2 + 15 * j) else none) ∧ ∀ j : Nat, (j : Int) < k → zShelf cI cP g (a + 2 + 15 * j) 7 0 (fun _ => zone 0) (zone 0)) → (20 - k).toNat < fu → ∀ (H : Heap) (locs : List Loc) (ls : Array Slot), zN D (zT cI cJ cZ cP cS cM) L (zQ L (a + 1)) st g st.heap H locs (a + 1) (15 * k.toNat + 1) → lv_has ls 2 [(1, .int (zI k)), (0, .ref a)] → W pg l en ({ frames := 3, cells := 301, slots := 4060, locals := 53 } : Room) st mi ag bl mt cd H locs (15 * k.toNat + 1) (202 * k.toNat + 20) Q (F0 mi 25 ls []) := by
    intro fu
    induction fu with
    | zero => intro k g _ hfu; exact absurd hfu (Nat.not_lt_zero _)
    | succ fu ih25 =>
      intro k g hinv25 hfu25 H locs ls hN hl
      have hW := hN.1
      obtain ⟨hk0, hk1, hfr, hg0, hg1, hgp⟩ := hinv25
      refine lv_iload_n hX0 hB0 dX1_init_25 rfl (lv_at hl 0 rfl) ?_
      refine lv_bipush (v := zI 20) hX0 hB0 dX1_init_26 (by decide) ?_
      refine z_icmp_ge (tgt := 50) CX dX1_init_28 (by decide) (by constructor <;> omega) (by constructor <;> omega) (fun c_28 => ?_) (fun c_28 => ?_)
      ·
        have hN : zN D (zT cI cJ cZ cP cS cM) L (zQ L (a + 1)) st (va_up g (a + 1) (zAR cS 20 (fun j => some (a + 2 + 15 * j)))) st.heap H locs (a + 1) (15 * k.toNat + 1) := ⟨hN.1.re hg1 (zcell_q (fun j hj => if_pos (by omega))), hN.2⟩
        rw [← hQ]
        have hN := hN
        rw [show 15 * k.toNat + 1 = 301 by omega] at hN
        refine W.widen (k := 301) (n := 4060) (by omega) (by omega) ?_
        exact zn_vret CX hN (by exact ⟨hfr.up (by omega), (va_up_ne _ _ (by omega)).trans hg0, va_up_self _ _ _, fun j hj => (hgp j (by omega)).fr (zFr.refl.up (lo := a + 1) (hi := a + 2) (by omega)) (by omega)⟩) dX1_init_50
      ·
        refine lv_aload_n hX0 hB0 dX1_init_31 rfl (lv_at hl 1 rfl) ?_
        refine z_get (Cn := RX1) (T := TX1) (N := 3) CX hW (v := .ref (a + 1)) hg0 rfl (fun w h => List.mem_cons_of_mem _ (List.mem_append_left _ (List.mem_append_left _ (List.mem_append_right _ h)))) 2 (by decide) (List.mem_of_getElem? (i := 7) rfl) rfl rfl dX1_init_32 ?_
        refine lv_iload_n hX0 hB0 dX1_init_35 rfl (lv_at hl 0 rfl) ?_
        refine zn_new (ci := 7) (fs := [.int (zI 0), .int (zI 0), .null, .null]) CX hN (fun w h => List.mem_cons_of_mem _ (List.mem_append_left _ (List.mem_append_right _ h))) tyX7 tyX7_ok (List.mem_of_getElem? (i := 6) rfl) (List.mem_of_getElem? (i := 8) rfl) (List.mem_of_getElem? (i := 9) rfl) rfl (fun j hj => by rcases (show j = 0 ∨ j = 1 ∨ j = 2 ∨ j = 3 by omega) with rfl | rfl | rfl | rfl <;> rfl) (by show _ ≤ 301; omega) (by show _ ≤ 4060; omega) dX1_init_36 (fun H hN => ?_)
        have hN : zN D (zT cI cJ cZ cP cS cM) L (zQ L (a + 1)) st (va_up g (a + 1 + (15 * k.toNat + 1)) (.inr (7, [.int (zI 0), .int (zI 0), .null, .null]))) st.heap H locs (a + 1) (15 * k.toNat + 2) := by have q := hN; first | exact q | (rw [show (15 * k.toNat + 1) + 1 = 15 * k.toNat + 2 by omega] at q; exact q)
        have hW := hN.1
        refine W.widen (k := 15 * k.toNat + 2) (n := 202 * k.toNat + 24) (by omega) (by omega) ?_
        refine lv_dup hX0 hB0 dX1_init_39 rfl ?_
        refine zn_callv hN (va_runI (As := []) (rest := [.ref (a + 1 + (15 * k.toNat + 1)), .int (zI k), .ref (a + 1)]) CX.fix (c_Shelf_init l (f := va_up g (a + 1 + (15 * k.toNat + 1)) (.inr (7, [.int (zI 0), .int (zI 0), .null, .null]))) (a + 1 + (15 * k.toNat + 1)) (va_up_self _ _ _)) (cwI 0 CX.fix.2.2.2.2 ggX1_init_X7_init rfl rfl rfl (CX.at (List.mem_of_getElem? (i := 9) rfl)) (CX.at (List.mem_of_getElem? (i := 10) rfl)) (CX.at (List.mem_of_getElem? (i := 11) rfl)) rfl (by decide +kernel) ⟨Nat.le_of_ble_eq_true rfl, Nat.le_of_ble_eq_true rfl⟩) (hN.2 ▸ (z_preS CX hW (As := [.ref (a + 1 + (15 * k.toNat + 1))]))) rfl rfl hl.1 rfl (lv_room (Nat.le_of_ble_eq_true rfl)) dX1_init_40 ⟨by show _ ≤ 301; omega, by show _ ≤ 4060; omega⟩) (fun gn H locs hok40 hN => ?_)
        obtain ⟨g40, eg40⟩ : ∃ q, q = gn := ⟨_, rfl⟩
        rw [← eg40] at hN hok40
        clear eg40
        obtain ⟨hfr40, hp40⟩ := hok40
        have hN : zN D (zT cI cJ cZ cP cS cM) L (zQ L (a + 1)) st g40 st.heap H locs (a + 1) (15 * k.toNat + 16) := by have q := hN; first | exact q | (rw [show (15 * k.toNat + 2) + 14 = 15 * k.toNat + 16 by omega] at q; exact q)
        have hW := hN.1
        refine W.widen (k := 15 * k.toNat + 16) (n := 202 * k.toNat + 222) (by omega) (by omega) ?_
        refine zn_aast (r := (RX7, TX7, 4)) CX hN ((hfr40 _ (by omega)).trans ((va_up_ne _ _ (by omega)).trans hg1)) 4 rfl hp40.1 rfl (by refine ⟨?_, ?_, ?_⟩ <;> omega) (g := va_up g40 (a + 1) (zAR cS 20 (va_up ((fun j => if j < k.toNat then some (a + 2 + 15 * j) else none)) k.toNat (some (a + 1 + (15 * k.toNat + 1)))))) rfl dX1_init_43 (fun H locs hN => ?_)
        have hW := hN.1
        refine lv_iinc (v := zI (k + 1)) (lv' := [(1, .int (zI (k + 1))), (0, .ref a)]) hX0 hB0 dX1_init_44 hl (k := 0) rfl (zI_add _ _) (by decide) rfl (fun ls hl => ?_)
        refine lv_goto (tgt := 25) hX0 hB0 dX1_init_47 (by decide) ?_
        refine W.widen (k := 15 * (k + 1).toNat + 1) (n := 202 * (k + 1).toNat + 20) (by omega) (by omega) ?_
        have hN := hN
        rw [show 15 * k.toNat + 16 = 15 * (k + 1).toNat + 1 by omega] at hN
        exact ih25 (k + 1) (va_up g40 (a + 1) (zAR cS 20 (va_up ((fun j => if j < k.toNat then some (a + 2 + 15 * j) else none)) k.toNat (some (a + 1 + (15 * k.toNat + 1)))))) ⟨by omega, by omega, ((hfr.up (x := .inr (7, [.int (zI 0), .int (zI 0), .null, .null])) (a := a + 1 + (15 * k.toNat + 1)) (by omega)).trans (hfr40.wide (by omega) (by omega))).up (by omega), ((va_up_ne _ _ (by omega)).trans ((hfr40 _ (by omega)).trans ((va_up_ne _ _ (by omega)).trans hg0))), (by rw [(va_up_self _ _ _), zrk15 hk0 (by omega)]), fun j hj => by
          by_cases e : j = k.toNat
          · rw [e, show a + 2 + 15 * k.toNat = a + 1 + (15 * k.toNat + 1) by omega]; exact hp40.fr (zFr.refl.up (lo := a + 1) (hi := a + 2) (by omega)) (by omega)
          · exact ((((hgp j (by omega)).fr (zFr.refl.up (lo := a + 1 + (15 * k.toNat + 1)) (hi := a + 1 + (15 * k.toNat + 1) + 1) (x := .inr (7, [.int (zI 0), .int (zI 0), .null, .null])) (by omega)) (by omega)).fr hfr40 (by omega)).fr (zFr.refl.up (lo := a + 1) (hi := a + 2) (by omega)) (by omega))⟩ (by omega) H locs ls hN (lv_sub hl [0, 1] rfl)
  refine W.widen (k := 15 * (0 : Int).toNat + 1) (n := 202 * (0 : Int).toNat + 20) (by omega) (by omega) ?_
  have hN := hN
  rw [show 1 = 15 * (0 : Int).toNat + 1 by omega] at hN
  exact hL25 _ 0 (va_up (va_up f a (.inr (1, [.int (zI 0), .int (zI 0), .ref (a + 1)]))) (a + 1) (zAR cS 20 ((fun _ => none)))) ⟨by omega, by omega, (zFr.refl.up (by omega)).up (by omega), ((va_up_ne _ _ (by omega)).trans (va_up_self _ _ _)), (by rw [(va_up_self _ _ _)]; congr 6), fun j hj => by omega⟩ (Nat.lt_succ_self _) H locs ls hN (lv_sub hl [0, 1] rfl)
end ZCo
