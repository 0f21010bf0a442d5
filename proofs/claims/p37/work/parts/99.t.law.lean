section ZLu
set_option maxRecDepth 100000 in
set_option maxHeartbeats 8000000 in
theorem zlaw_go (hPar : zParse) (l : Launch) {pg : Program} {en : Env} {st : State} {mi : MethodId} {ag : Array Value} {bl : List Frame} {mt : Method} {cd : Code} {Q : State → Prop} {D : va_G} {cI cJ cZ cP cS cM : ClassId} {L Lx : List Nat} {sz : Nat} {f : Nat → va_E} {H : Heap} {locs : List Loc} {ls : Array Slot} (o : Nat) (p : Int) (CX : zC pg st mi ag mt cd cL_law 6 ret RL wsL_law)
  (hend : ∀ (pc : Nat) (f : Nat → va_E) (Lx : List Nat) (H : Heap) (locs : List Loc) (ls : Array Slot), decode cL_law pc = .ok (.ireturn, 1) → zW D (zT cI cJ cZ cP cS cM) Lx (zQ L sz) st f st.heap H locs → W pg l en ({ frames := 16, cells := 600000, slots := 7302250, locals := 624 } : Room) st mi ag bl mt cd H locs 600000 7302250 Q (F0 mi pc ls [.int (zI 1)]))
  (hL : D.2 95 0 ≤ 260) (hp4 : p = 2 ∨ p = 3 ∨ p = 5 ∨ p = 7) (hP0 : zCP cI cP cS cZ cM o zM0 f) (hob : zOb o f) (hW : zW D (zT cI cJ cZ cP cS cM) Lx (zQ L sz) st f st.heap H locs) (hl : lv_has ls 6 [(2, .ref o), (1, .int (zI p)), (0, .ref (D.2 96 3))]) :
  W pg l en ({ frames := 16, cells := 600000, slots := 7302250, locals := 624 } : Room) st mi ag bl mt cd H locs 681 21718 Q (F0 mi 19 ls []) := by
  have hX0 := CX.1
  have hB0 := CX.2.1
  have hpr := zPr_4 hp4
  have hmr := zmany_rng (zPr_2 hpr)
  have hz0p : zpt 0 p := ⟨by omega, by omega⟩
  refine lv_aload_n hX0 hB0 dL_law_19 rfl (lv_at hl 2 rfl) ?_
  refine lv_iconst (v := zI 3) hX0 hB0 dL_law_20 rfl ?_
  refine lv_iconst (v := zI 1) hX0 hB0 dL_law_21 rfl ?_
  refine lv_aload_n hX0 hB0 dL_law_22 rfl (lv_at hl 2 rfl) ?_
  refine lv_iconst (v := zI 1) hX0 hB0 dL_law_23 rfl ?_
  refine lv_iconst (v := zI 4) hX0 hB0 dL_law_24 rfl ?_
  refine z_calli hW (va_runS (As := [.ref (D.2 96 3), .int (zI 1), .int (zI 4)]) (rest := [.int (zI 1), .int (zI 3), .ref (D.2 96 3)]) CX.fix (c_pick l (f := f) 1 4 hL (by omega) (by omega)) (va_cwS 3 CX.fix.2.2.2.2 gL_law_L_pick rfl rfl rfl (by decide +kernel) ⟨Nat.le_of_ble_eq_true rfl, Nat.le_of_ble_eq_true rfl⟩) (z_preS CX hW) rfl rfl hl.1 rfl (lv_room (Nat.le_of_ble_eq_true rfl)) dL_law_25 ⟨by show _ ≤ 600000; omega, by show _ ≤ 7302250; omega⟩) (fun zv gn H locs hok25 hW => ?_)
  obtain ⟨hpk1, eg⟩ := hok25
  rw [eg] at hW
  clear eg
  obtain ⟨pk1, epk1⟩ : ∃ q, q = zv := ⟨_, rfl⟩
  rw [← epk1] at hpk1 ⊢
  clear epk1
  refine z_iadd (z := 1 + pk1) CX dL_law_28 rfl ?_
  refine lv_iload_n hX0 hB0 dL_law_29 rfl (lv_at hl 1 rfl) ?_
  refine zy_callr hW (va_runS (As := [.ref (D.2 96 3), .int (zI 3), .int (zI (1 + pk1)), .int (zI p)]) (rest := []) CX.fix (c_drawn l (f := f) 3 (1 + pk1) p hL (by omega) (by omega) (by omega)) (va_cwS 4 CX.fix.2.2.2.2 gL_law_L_drawn rfl rfl rfl (by decide +kernel) ⟨Nat.le_of_ble_eq_true rfl, Nat.le_of_ble_eq_true rfl⟩) (z_preS CX hW) rfl rfl hl.1 rfl (lv_room (Nat.le_of_ble_eq_true rfl)) dL_law_30 ⟨by show _ ≤ 600000; omega, by show _ ≤ 7302250; omega⟩) (fun zv Lx gn H locs hok30 hW => ?_)
  obtain ⟨q2, ez, hfq2, hkp2, d2, hmq2, hbd2, hzd2, hhs2⟩ := hok30
  rw [ez]
  clear ez
  obtain ⟨g2, eg2⟩ : ∃ q, q = gn := ⟨_, rfl⟩
  rw [← eg2] at hW hkp2 hmq2
  clear eg2
  have hb72 : ∀ a b : Nat, 0 ≤ d2 a b ∧ d2 a b < 7 := fun a b => ⟨(hbd2 a b).1, by have := (hbd2 a b).2; omega⟩
  have hz42 : ∀ a b : Nat, (4 : Int) < (a : Int) + b → d2 a b = 0 := fun a b h => hzd2 a b (by omega)
  have hla : (zts d2 25).length ≤ 151 := zts_len4 hz42 (Nat.le_refl _)
  have hk1 := hkp2
  refine W.widen (k := 687) (n := 21748) (by omega) (by omega) ?_
  refine lv_astore_n (lv' := [(3, .ref q2), (2, .ref o), (1, .int (zI p)), (0, .ref (D.2 96 3))]) hX0 hB0 dL_law_33 rfl hl (by decide) rfl (fun ls hl => ?_)
  refine lv_aload_n hX0 hB0 dL_law_34 rfl (lv_at hl 3 rfl) ?_
  refine lv_bipush (v := zI 20) hX0 hB0 dL_law_35 (by decide) ?_
  refine lv_iconst (v := zI 1) hX0 hB0 dL_law_37 rfl ?_
  refine lv_aload_n hX0 hB0 dL_law_38 rfl (lv_at hl 3 rfl) ?_
  refine lv_iconst (v := zI 2) hX0 hB0 dL_law_39 rfl ?_
  refine lv_iconst (v := zI 3) hX0 hB0 dL_law_40 rfl ?_
  refine z_calli hW (va_runS (As := [.ref (D.2 96 3), .int (zI 2), .int (zI 3)]) (rest := [.int (zI 1), .int (zI 20), .ref (D.2 96 3)]) CX.fix (c_pick l (f := g2) 2 3 hL (by omega) (by omega)) (va_cwS 3 CX.fix.2.2.2.2 gL_law_L_pick rfl rfl rfl (by decide +kernel) ⟨Nat.le_of_ble_eq_true rfl, Nat.le_of_ble_eq_true rfl⟩) (z_preS CX hW) rfl rfl hl.1 rfl (lv_room (Nat.le_of_ble_eq_true rfl)) dL_law_41 ⟨by show _ ≤ 600000; omega, by show _ ≤ 7302250; omega⟩) (fun zv gn H locs hok41 hW => ?_)
  obtain ⟨hpk3, eg⟩ := hok41
  rw [eg] at hW
  clear eg
  obtain ⟨pk3, epk3⟩ : ∃ q, q = zv := ⟨_, rfl⟩
  rw [← epk3] at hpk3 ⊢
  clear epk3
  refine z_iadd (z := 1 + pk3) CX dL_law_44 rfl ?_
  refine lv_iload_n hX0 hB0 dL_law_45 rfl (lv_at hl 2 rfl) ?_
  refine zy_callr hW (va_runS (As := [.ref (D.2 96 3), .int (zI 20), .int (zI (1 + pk3)), .int (zI p)]) (rest := []) CX.fix (c_drawn l (f := g2) 20 (1 + pk3) p hL (by omega) (by omega) (by omega)) (va_cwS 4 CX.fix.2.2.2.2 gL_law_L_drawn rfl rfl rfl (by decide +kernel) ⟨Nat.le_of_ble_eq_true rfl, Nat.le_of_ble_eq_true rfl⟩) (z_preS CX hW) rfl rfl hl.1 rfl (lv_room (Nat.le_of_ble_eq_true rfl)) dL_law_46 ⟨by show _ ≤ 600000; omega, by show _ ≤ 7302250; omega⟩) (fun zv Lx gn H locs hok46 hW => ?_)
  obtain ⟨q4, ez, hfq4, hkp4, d4, hmq4, hbd4, hzd4, hhs4⟩ := hok46
  rw [ez]
  clear ez
  obtain ⟨g4, eg4⟩ : ∃ q, q = gn := ⟨_, rfl⟩
  rw [← eg4] at hW hkp4 hmq4
  clear eg4
  have hb74 : ∀ a b : Nat, 0 ≤ d4 a b ∧ d4 a b < 7 := fun a b => ⟨(hbd4 a b).1, by have := (hbd4 a b).2; omega⟩
  have hz44 : ∀ a b : Nat, (4 : Int) < (a : Int) + b → d4 a b = 0 := fun a b h => hzd4 a b (by omega)
  have hlb : (zts d4 25).length ≤ 101 := zts_len3 (fun a b h => hzd4 a b (by omega)) (Nat.le_refl _)
  have hkf := zKp2.tr hk1 hkp4
  refine W.widen (k := 693) (n := 21778) (by omega) (by omega) ?_
  refine lv_astore (lv' := [(4, .ref q4), (3, .ref q2), (2, .ref o), (1, .int (zI p)), (0, .ref (D.2 96 3))]) hX0 hB0 dL_law_49 hl (by decide) rfl (fun ls hl => ?_)
  refine zy_new (ci := 13) (fs := [.null, .int (zI 0), .int (zI 0), .int (zI 0)]) CX hW (fun w h => List.mem_flatten.mpr ⟨wsJ40, List.mem_of_getElem? (i := 39) rfl, h⟩) tyJ4 tyJ4_ok (zws_at 0 4 (by rfl)) (zws_at 0 5 (by rfl)) (zws_at 0 6 (by rfl)) rfl (fun j hj => by rcases (show j = 0 ∨ j = 1 ∨ j = 2 ∨ j = 3 by omega) with rfl | rfl | rfl | rfl <;> rfl) (by show _ ≤ 600000; omega) (by show _ ≤ 7302250; omega) dL_law_51 (fun q5 Lx H hfq5 hW => ?_)
  have hzq5 := hfq5
  refine W.widen (k := 694) (n := 21782) (by omega) (by omega) ?_
  refine lv_dup hX0 hB0 dL_law_54 rfl ?_
  refine zy_callv hW (va_runI (As := []) (rest := [.ref q5]) CX.fix (c_sbInit4 l (f := va_up g4 q5 (.inr (13, [.null, .int (zI 0), .int (zI 0), .int (zI 0)]))) (f0 := g4) q5 rfl hfq5) (cwI 0 CX.fix.2.2.2.2 ggL_law_J4_init_da8c8 rfl rfl rfl (CX.at (zws_at 0 6 (by rfl))) (CX.at (zws_at 7 16 (by rfl))) (CX.at (zws_at 7 17 (by rfl))) rfl (by decide +kernel) ⟨Nat.le_of_ble_eq_true rfl, Nat.le_of_ble_eq_true rfl⟩) (z_preS CX hW (As := [.ref q5])) rfl rfl hl.1 rfl (lv_room (Nat.le_of_ble_eq_true rfl)) dL_law_55 ⟨by show _ ≤ 600000; omega, by show _ ≤ 7302250; omega⟩) (fun Lx gn H locs hok55 hW => ?_)
  obtain ⟨g6, eg6⟩ : ∃ q, q = gn := ⟨_, rfl⟩
  rw [← eg6] at hW hok55
  clear eg6
  have hs6 : zSL cJ g4 g6 q5 [] := hok55
  refine W.widen (k := 695) (n := 21798) (by omega) (by omega) ?_
  refine z_ldcsL CX hW 8 (by decide) (by decide) rfl dL_law_58 ?_
  refine zy_callr hW (va_runV (C := RJ4) (As := [.ref (D.2 98 8)]) (rest := []) CX.fix (c_app4 l (f := g6) q5 (List.length (α := Int) ([])) (D.2 98 8) (List.length (α := Int) ([102, 105, 101, 108, 100, 32])) (zof ([])) (zof ([102, 105, 101, 108, 100, 32])) hs6 (zTx_c 8 (by decide)) (by simp only [List.length_append, List.length_cons, List.length_nil]; omega)) (cwV 1 CX.fix.2.2.2.2 gL_law_J4_append_15ec4 rfl rfl rfl (by decide +kernel) ⟨Nat.le_of_ble_eq_true rfl, Nat.le_of_ble_eq_true rfl⟩) (z_preSB CX hW hs6) rfl rfl hl.1 rfl (lv_room (Nat.le_of_ble_eq_true rfl)) dL_law_60 ⟨by show _ ≤ 600000; omega, by show _ ≤ 7302250; omega⟩) (fun zv Lx gn H locs hok60 hW => ?_)
  obtain ⟨ez, hy7⟩ := hok60
  rw [ez]
  clear ez
  obtain ⟨g7, eg7⟩ : ∃ q, q = gn := ⟨_, rfl⟩
  rw [← eg7] at hW hy7
  clear eg7
  have hs7 : zSL cJ g4 g7 q5 ([] ++ [102, 105, 101, 108, 100, 32]) := zSL.app hy7
  refine W.widen (k := 696) (n := 22498) (by omega) (by omega) ?_
  refine lv_iload_n hX0 hB0 dL_law_63 rfl (lv_at hl 3 rfl) ?_
  refine zy_callr hW (va_runV (C := RJ4) (As := [.int (zI p)]) (rest := []) CX.fix (c_appI4 l (f := g7) q5 (List.length (α := Int) ([] ++ [102, 105, 101, 108, 100, 32])) (zof ([] ++ [102, 105, 101, 108, 100, 32])) p hs7 (by omega) (by simp only [List.length_append, List.length_cons, List.length_nil]; omega)) (cwV 1 CX.fix.2.2.2.2 gL_law_J4_append_bf812 rfl rfl rfl (by decide +kernel) ⟨Nat.le_of_ble_eq_true rfl, Nat.le_of_ble_eq_true rfl⟩) (z_preSB CX hW hs7) rfl rfl hl.1 rfl (lv_room (Nat.le_of_ble_eq_true rfl)) dL_law_64 ⟨by show _ ≤ 600000; omega, by show _ ≤ 7302250; omega⟩) (fun zv Lx gn H locs hok64 hW => ?_)
  obtain ⟨ez, hy8⟩ := hok64
  rw [ez]
  clear ez
  obtain ⟨g8, eg8⟩ : ∃ q, q = gn := ⟨_, rfl⟩
  rw [← eg8] at hW hy8
  clear eg8
  have hs8 : zSL cJ g4 g8 q5 ([] ++ [102, 105, 101, 108, 100, 32] ++ [48 + p]) := zSL.app1 hy8
  refine W.widen (k := 697) (n := 23198) (by omega) (by omega) ?_
  refine z_ldcsL CX hW 9 (by decide) (by decide) rfl dL_law_67 ?_
  refine zy_callr hW (va_runV (C := RJ4) (As := [.ref (D.2 98 9)]) (rest := []) CX.fix (c_app4 l (f := g8) q5 (List.length (α := Int) ([] ++ [102, 105, 101, 108, 100, 32] ++ [48 + p])) (D.2 98 9) (List.length (α := Int) ([59, 99, 117, 114, 118, 101, 32, 97, 32, 61, 32])) (zof ([] ++ [102, 105, 101, 108, 100, 32] ++ [48 + p])) (zof ([59, 99, 117, 114, 118, 101, 32, 97, 32, 61, 32])) hs8 (zTx_c 9 (by decide)) (by simp only [List.length_append, List.length_cons, List.length_nil]; omega)) (cwV 1 CX.fix.2.2.2.2 gL_law_J4_append_15ec4 rfl rfl rfl (by decide +kernel) ⟨Nat.le_of_ble_eq_true rfl, Nat.le_of_ble_eq_true rfl⟩) (z_preSB CX hW hs8) rfl rfl hl.1 rfl (lv_room (Nat.le_of_ble_eq_true rfl)) dL_law_69 ⟨by show _ ≤ 600000; omega, by show _ ≤ 7302250; omega⟩) (fun zv Lx gn H locs hok69 hW => ?_)
  obtain ⟨ez, hy9⟩ := hok69
  rw [ez]
  clear ez
  obtain ⟨g9, eg9⟩ : ∃ q, q = gn := ⟨_, rfl⟩
  rw [← eg9] at hW hy9
  clear eg9
  have hs9 : zSL cJ g4 g9 q5 ([] ++ [102, 105, 101, 108, 100, 32] ++ [48 + p] ++ [59, 99, 117, 114, 118, 101, 32, 97, 32, 61, 32]) := zSL.app hy9
  refine W.widen (k := 698) (n := 23898) (by omega) (by omega) ?_
  refine lv_aload_n hX0 hB0 dL_law_72 rfl (lv_at hl 1 rfl) ?_
  refine zy_callr hW (va_runS (As := [.ref q2]) (rest := [.ref q5]) CX.fix (c_text l (f := g9) q2 d2 ((hmq2.kp hkp4).kp hs9.2.2) hb72 hz42) (va_cwS 1 CX.fix.2.2.2.2 gL_law_L_text rfl rfl rfl (by decide +kernel) ⟨Nat.le_of_ble_eq_true rfl, Nat.le_of_ble_eq_true rfl⟩) (z_preS CX hW) rfl rfl hl.1 rfl (lv_room (Nat.le_of_ble_eq_true rfl)) dL_law_73 ⟨by show _ ≤ 600000; omega, by show _ ≤ 7302250; omega⟩) (fun zv Lx gn H locs hok73 hW => ?_)
  obtain ⟨h10, ez, hfh10, htm10, hk10⟩ := hok73
  rw [ez]
  clear ez
  obtain ⟨g10, eg10⟩ : ∃ q, q = gn := ⟨_, rfl⟩
  rw [← eg10] at hW htm10 hk10
  clear eg10
  have hs10 : zSL cJ g4 g10 q5 ([] ++ [102, 105, 101, 108, 100, 32] ++ [48 + p] ++ [59, 99, 117, 114, 118, 101, 32, 97, 32, 61, 32]) := zSB.kp hs9 hk10
  refine W.widen (k := 858) (n := 130898) (by omega) (by omega) ?_
  refine zy_callr hW (va_runV (C := RJ4) (As := [.ref h10]) (rest := []) CX.fix (c_app4 l (f := g10) q5 (List.length (α := Int) ([] ++ [102, 105, 101, 108, 100, 32] ++ [48 + p] ++ [59, 99, 117, 114, 118, 101, 32, 97, 32, 61, 32])) (h10) (List.length (α := Int) ((zts d2 25))) (zof ([] ++ [102, 105, 101, 108, 100, 32] ++ [48 + p] ++ [59, 99, 117, 114, 118, 101, 32, 97, 32, 61, 32])) (zof ((zts d2 25))) hs10 (zTm.x htm10) (by simp only [List.length_append, List.length_cons, List.length_nil]; omega)) (cwV 1 CX.fix.2.2.2.2 gL_law_J4_append_15ec4 rfl rfl rfl (by decide +kernel) ⟨Nat.le_of_ble_eq_true rfl, Nat.le_of_ble_eq_true rfl⟩) (z_preSB CX hW hs10) rfl rfl hl.1 rfl (lv_room (Nat.le_of_ble_eq_true rfl)) dL_law_76 ⟨by show _ ≤ 600000; omega, by show _ ≤ 7302250; omega⟩) (fun zv Lx gn H locs hok76 hW => ?_)
  obtain ⟨ez, hy11⟩ := hok76
  rw [ez]
  clear ez
  obtain ⟨g11, eg11⟩ : ∃ q, q = gn := ⟨_, rfl⟩
  rw [← eg11] at hW hy11
  clear eg11
  have hs11 : zSL cJ g4 g11 q5 ([] ++ [102, 105, 101, 108, 100, 32] ++ [48 + p] ++ [59, 99, 117, 114, 118, 101, 32, 97, 32, 61, 32] ++ (zts d2 25)) := zSL.app hy11
  refine W.widen (k := 859) (n := 131598) (by omega) (by omega) ?_
  refine z_ldcsL CX hW 10 (by decide) (by decide) rfl dL_law_79 ?_
  refine zy_callr hW (va_runV (C := RJ4) (As := [.ref (D.2 98 10)]) (rest := []) CX.fix (c_app4 l (f := g11) q5 (List.length (α := Int) ([] ++ [102, 105, 101, 108, 100, 32] ++ [48 + p] ++ [59, 99, 117, 114, 118, 101, 32, 97, 32, 61, 32] ++ (zts d2 25))) (D.2 98 10) (List.length (α := Int) ([59, 99, 117, 114, 118, 101, 32, 98, 32, 61, 32])) (zof ([] ++ [102, 105, 101, 108, 100, 32] ++ [48 + p] ++ [59, 99, 117, 114, 118, 101, 32, 97, 32, 61, 32] ++ (zts d2 25))) (zof ([59, 99, 117, 114, 118, 101, 32, 98, 32, 61, 32])) hs11 (zTx_c 10 (by decide)) (by simp only [List.length_append, List.length_cons, List.length_nil]; omega)) (cwV 1 CX.fix.2.2.2.2 gL_law_J4_append_15ec4 rfl rfl rfl (by decide +kernel) ⟨Nat.le_of_ble_eq_true rfl, Nat.le_of_ble_eq_true rfl⟩) (z_preSB CX hW hs11) rfl rfl hl.1 rfl (lv_room (Nat.le_of_ble_eq_true rfl)) dL_law_81 ⟨by show _ ≤ 600000; omega, by show _ ≤ 7302250; omega⟩) (fun zv Lx gn H locs hok81 hW => ?_)
  obtain ⟨ez, hy12⟩ := hok81
  rw [ez]
  clear ez
  obtain ⟨g12, eg12⟩ : ∃ q, q = gn := ⟨_, rfl⟩
  rw [← eg12] at hW hy12
  clear eg12
  have hs12 : zSL cJ g4 g12 q5 ([] ++ [102, 105, 101, 108, 100, 32] ++ [48 + p] ++ [59, 99, 117, 114, 118, 101, 32, 97, 32, 61, 32] ++ (zts d2 25) ++ [59, 99, 117, 114, 118, 101, 32, 98, 32, 61, 32]) := zSL.app hy12
  refine W.widen (k := 860) (n := 132298) (by omega) (by omega) ?_
  refine lv_aload hX0 hB0 dL_law_84 (lv_at hl 0 rfl) ?_
  refine zy_callr hW (va_runS (As := [.ref q4]) (rest := [.ref q5]) CX.fix (c_text l (f := g12) q4 d4 (hmq4.kp hs12.2.2) hb74 hz44) (va_cwS 1 CX.fix.2.2.2.2 gL_law_L_text rfl rfl rfl (by decide +kernel) ⟨Nat.le_of_ble_eq_true rfl, Nat.le_of_ble_eq_true rfl⟩) (z_preS CX hW) rfl rfl hl.1 rfl (lv_room (Nat.le_of_ble_eq_true rfl)) dL_law_86 ⟨by show _ ≤ 600000; omega, by show _ ≤ 7302250; omega⟩) (fun zv Lx gn H locs hok86 hW => ?_)
  obtain ⟨h13, ez, hfh13, htm13, hk13⟩ := hok86
  rw [ez]
  clear ez
  obtain ⟨g13, eg13⟩ : ∃ q, q = gn := ⟨_, rfl⟩
  rw [← eg13] at hW htm13 hk13
  clear eg13
  have hs13 : zSL cJ g4 g13 q5 ([] ++ [102, 105, 101, 108, 100, 32] ++ [48 + p] ++ [59, 99, 117, 114, 118, 101, 32, 97, 32, 61, 32] ++ (zts d2 25) ++ [59, 99, 117, 114, 118, 101, 32, 98, 32, 61, 32]) := zSB.kp hs12 hk13
  refine W.widen (k := 1020) (n := 239298) (by omega) (by omega) ?_
  refine zy_callr hW (va_runV (C := RJ4) (As := [.ref h13]) (rest := []) CX.fix (c_app4 l (f := g13) q5 (List.length (α := Int) ([] ++ [102, 105, 101, 108, 100, 32] ++ [48 + p] ++ [59, 99, 117, 114, 118, 101, 32, 97, 32, 61, 32] ++ (zts d2 25) ++ [59, 99, 117, 114, 118, 101, 32, 98, 32, 61, 32])) (h13) (List.length (α := Int) ((zts d4 25))) (zof ([] ++ [102, 105, 101, 108, 100, 32] ++ [48 + p] ++ [59, 99, 117, 114, 118, 101, 32, 97, 32, 61, 32] ++ (zts d2 25) ++ [59, 99, 117, 114, 118, 101, 32, 98, 32, 61, 32])) (zof ((zts d4 25))) hs13 (zTm.x htm13) (by simp only [List.length_append, List.length_cons, List.length_nil]; omega)) (cwV 1 CX.fix.2.2.2.2 gL_law_J4_append_15ec4 rfl rfl rfl (by decide +kernel) ⟨Nat.le_of_ble_eq_true rfl, Nat.le_of_ble_eq_true rfl⟩) (z_preSB CX hW hs13) rfl rfl hl.1 rfl (lv_room (Nat.le_of_ble_eq_true rfl)) dL_law_89 ⟨by show _ ≤ 600000; omega, by show _ ≤ 7302250; omega⟩) (fun zv Lx gn H locs hok89 hW => ?_)
  obtain ⟨ez, hy14⟩ := hok89
  rw [ez]
  clear ez
  obtain ⟨g14, eg14⟩ : ∃ q, q = gn := ⟨_, rfl⟩
  rw [← eg14] at hW hy14
  clear eg14
  have hs14 : zSL cJ g4 g14 q5 ([] ++ [102, 105, 101, 108, 100, 32] ++ [48 + p] ++ [59, 99, 117, 114, 118, 101, 32, 97, 32, 61, 32] ++ (zts d2 25) ++ [59, 99, 117, 114, 118, 101, 32, 98, 32, 61, 32] ++ (zts d4 25)) := zSL.app hy14
  refine W.widen (k := 1021) (n := 239998) (by omega) (by omega) ?_
  refine z_ldcsL CX hW 11 (by decide) (by decide) rfl dL_law_92 ?_
  refine zy_callr hW (va_runV (C := RJ4) (As := [.ref (D.2 98 11)]) (rest := []) CX.fix (c_app4 l (f := g14) q5 (List.length (α := Int) ([] ++ [102, 105, 101, 108, 100, 32] ++ [48 + p] ++ [59, 99, 117, 114, 118, 101, 32, 97, 32, 61, 32] ++ (zts d2 25) ++ [59, 99, 117, 114, 118, 101, 32, 98, 32, 61, 32] ++ (zts d4 25))) (D.2 98 11) (List.length (α := Int) ([59])) (zof ([] ++ [102, 105, 101, 108, 100, 32] ++ [48 + p] ++ [59, 99, 117, 114, 118, 101, 32, 97, 32, 61, 32] ++ (zts d2 25) ++ [59, 99, 117, 114, 118, 101, 32, 98, 32, 61, 32] ++ (zts d4 25))) (zof ([59])) hs14 (zTx_c 11 (by decide)) (by simp only [List.length_append, List.length_cons, List.length_nil]; omega)) (cwV 1 CX.fix.2.2.2.2 gL_law_J4_append_15ec4 rfl rfl rfl (by decide +kernel) ⟨Nat.le_of_ble_eq_true rfl, Nat.le_of_ble_eq_true rfl⟩) (z_preSB CX hW hs14) rfl rfl hl.1 rfl (lv_room (Nat.le_of_ble_eq_true rfl)) dL_law_94 ⟨by show _ ≤ 600000; omega, by show _ ≤ 7302250; omega⟩) (fun zv Lx gn H locs hok94 hW => ?_)
  obtain ⟨ez, hy15⟩ := hok94
  rw [ez]
  clear ez
  obtain ⟨g15, eg15⟩ : ∃ q, q = gn := ⟨_, rfl⟩
  rw [← eg15] at hW hy15
  clear eg15
  have hs15 : zSL cJ g4 g15 q5 ([] ++ [102, 105, 101, 108, 100, 32] ++ [48 + p] ++ [59, 99, 117, 114, 118, 101, 32, 97, 32, 61, 32] ++ (zts d2 25) ++ [59, 99, 117, 114, 118, 101, 32, 98, 32, 61, 32] ++ (zts d4 25) ++ [59]) := zSL.app hy15
  refine W.widen (k := 1022) (n := 240698) (by omega) (by omega) ?_
  refine zy_callr hW (va_runV (C := RJ4) (As := []) (rest := []) CX.fix (c_toString l (f := g15) q5 (List.length (α := Int) ([] ++ [102, 105, 101, 108, 100, 32] ++ [48 + p] ++ [59, 99, 117, 114, 118, 101, 32, 97, 32, 61, 32] ++ (zts d2 25) ++ [59, 99, 117, 114, 118, 101, 32, 98, 32, 61, 32] ++ (zts d4 25) ++ [59])) (zof ([] ++ [102, 105, 101, 108, 100, 32] ++ [48 + p] ++ [59, 99, 117, 114, 118, 101, 32, 97, 32, 61, 32] ++ (zts d2 25) ++ [59, 99, 117, 114, 118, 101, 32, 98, 32, 61, 32] ++ (zts d4 25) ++ [59])) hs15) (cwV 0 CX.fix.2.2.2.2 gL_law_J4_toString_0e30d rfl rfl rfl (by decide +kernel) ⟨Nat.le_of_ble_eq_true rfl, Nat.le_of_ble_eq_true rfl⟩) (z_preSB CX hW hs15) rfl rfl hl.1 rfl (lv_room (Nat.le_of_ble_eq_true rfl)) dL_law_97 ⟨by show _ ≤ 600000; omega, by show _ ≤ 7302250; omega⟩) (fun zv Lx gn H locs hok97 hW => ?_)
  obtain ⟨h9, ez, hfh, htn, hk9⟩ := hok97
  rw [ez]
  clear ez
  obtain ⟨g16, eg16⟩ : ∃ q, q = gn := ⟨_, rfl⟩
  rw [← eg16] at hW htn hk9
  clear eg16
  have hks := zKp2.tr hkf hs15.2.2
  have hP9 := hP0.kp hob (hks.tr hk9)
  have hxo := zTo.of htn hfh (hob.kp hks)
  have hln : ([] ++ [102, 105, 101, 108, 100, 32] ++ [48 + p] ++ [59, 99, 117, 114, 118, 101, 32, 97, 32, 61, 32] ++ (zts d2 25) ++ [59, 99, 117, 114, 118, 101, 32, 98, 32, 61, 32] ++ (zts d4 25) ++ [59]).length ≤ 282 := by simp only [List.length_append, List.length_cons, List.length_nil]; omega
  have hlt := zof_l (zlw_l (p := p) (d := d2) (e := d4) (by omega) hb72 hb74)
  obtain ⟨LST, eLST⟩ : ∃ z, z = zlw p d2 d4 := ⟨_, rfl⟩
  have hxo : zTo cJ g16 h9 LST.length (zof LST) o := by rw [eLST]; exact hxo
  have hln : LST.length ≤ 282 := by rw [eLST]; exact hln
  rw [← eLST] at hlt
  refine W.widen (k := 1024) (n := 241402) (by omega) (by omega) ?_
  refine lv_astore (lv' := [(5, .ref h9), (4, .ref q4), (3, .ref q2), (2, .ref o), (1, .int (zI p)), (0, .ref (D.2 96 3))]) hX0 hB0 dL_law_100 hl (by decide) rfl (fun ls hl => ?_)
  refine lv_aload hX0 hB0 dL_law_102 (lv_at hl 0 rfl) ?_
  refine z_calli hW (va_runV (C := RJ0) (As := []) (rest := []) CX.fix (c_lengthX l (f := g16) (zTm.x (zTo.x hxo))) (cwV 0 CX.fix.2.2.2.2 gL_law_J0_length_8abf5 rfl rfl rfl (by decide +kernel) ⟨Nat.le_of_ble_eq_true rfl, Nat.le_of_ble_eq_true rfl⟩) (z_preX CX hW (zTm.x (zTo.x hxo))) rfl rfl hl.1 rfl (lv_room (Nat.le_of_ble_eq_true rfl)) dL_law_104 ⟨by show _ ≤ 600000; omega, by show _ ≤ 7302250; omega⟩) (fun zv gn H locs hok104 hW => ?_)
  obtain ⟨ez, eg⟩ := hok104
  have eg : gn = g16 := eg
  rw [eg] at hW
  clear eg
  have ez : zv = ((LST.length : Nat) : Int) := ez
  rw [ez]
  clear ez
  refine lv_sipush (v := zI 980) hX0 hB0 dL_law_107 (by decide) ?_
  refine z_icmp_le (tgt := 115) CX dL_law_110 (by decide) (by constructor <;> omega) (by constructor <;> omega) (fun c_110 => ?_) (fun c_110 => ?_)
  ·
    refine lv_aload_n hX0 hB0 dL_law_115 rfl (lv_at hl 3 rfl) ?_
    refine lv_aload hX0 hB0 dL_law_116 (lv_at hl 0 rfl) ?_
    refine zy_calli hW (va_runS (As := [.ref o, .ref h9]) (rest := []) CX.fix (c_feed l (f := g16) o h9 LST.length (zof LST) zM0 hP9 zCI0 hxo (by omega) hlt rfl) (va_cwS 2 CX.fix.2.2.2.2 gL_law_L_feed rfl rfl rfl (by decide +kernel) ⟨Nat.le_of_ble_eq_true rfl, Nat.le_of_ble_eq_true rfl⟩) (z_preS CX hW) rfl rfl hl.1 rfl (lv_room (Nat.le_of_ble_eq_true rfl)) dL_law_118 ⟨by show _ ≤ 600000; omega, by show _ ≤ 7302250; omega⟩) (fun zv Lx gn H locs hok118 hW => ?_)
    obtain ⟨ez, N17, hP17, hC17, hF17, hV17, hn17, hT17⟩ := hok118
    rw [ez]
    clear ez
    obtain ⟨g17, eg17⟩ : ∃ q, q = gn := ⟨_, rfl⟩
    rw [← eg17] at hW hP17
    clear eg17
    refine W.widen (k := 1024) (n := 241402) (by omega) (by omega) ?_
    refine z_if_eq (tgt := 165) CX dL_law_121 (by decide) (by constructor <;> omega) (fun c_121 => ?_) (fun c_121 => ?_)
    ·
      omega
    ·
      refine lv_aload_n hX0 hB0 dL_law_124 rfl (lv_at hl 3 rfl) ?_
      refine z_calli hW (va_runV (C := RX11) (As := []) (rest := []) CX.fix (zd_curves l (f := g17) o N17 hP17 hC17) (cwV 0 CX.fix.2.2.2.2 gL_law_X11_curves rfl rfl rfl (by decide +kernel) ⟨Nat.le_of_ble_eq_true rfl, Nat.le_of_ble_eq_true rfl⟩) (z_preV CX hW (r := (RX11, TX11, 13)) (show g17 o = _ from hP17.c0) rfl) rfl rfl hl.1 rfl (lv_room (Nat.le_of_ble_eq_true rfl)) dL_law_125 ⟨by show _ ≤ 600000; omega, by show _ ≤ 7302250; omega⟩) (fun zv gn H locs hok125 hW => ?_)
      obtain ⟨ez, hP18, hC18, hF18, _⟩ := hok125
      obtain ⟨ev, a, b, hz18, ha, hb, hfa, hfb, ta, tb⟩ := hPar p (1 + pk1) (1 + pk3) d2 d4 N17 hp4 (by omega) (by omega) hbd2 hzd2 hhs2 hbd4 hzd4 hhs4 hC17 hV17 (by rw [← eLST]; exact hn17) (by rw [← eLST]; exact hT17)
      rw [ez, ev]
      clear ez ev
      obtain ⟨N18, eN18⟩ : ∃ Z9, Z9 = (zc_curves N17).2 := ⟨_, rfl⟩
      rw [← eN18] at hP18 hC18 hz18
      clear eN18
      obtain ⟨g18, eg18⟩ : ∃ q, q = gn := ⟨_, rfl⟩
      rw [← eg18] at hW hP18
      clear eg18
      refine lv_iconst (v := zI 2) hX0 hB0 dL_law_128 rfl ?_
      refine z_icmp_ne (tgt := 165) CX dL_law_129 (by decide) (by constructor <;> omega) (by constructor <;> omega) (fun c_129 => ?_) (fun c_129 => ?_)
      ·
        omega
      ·
        refine lv_aload_n hX0 hB0 dL_law_132 rfl (lv_at hl 3 rfl) ?_
        refine lv_iconst (v := zI 0) hX0 hB0 dL_law_133 rfl ?_
        refine z_calli hW (va_runV (C := RX11) (As := [.int (zI 0)]) (rest := []) CX.fix (zd_has l (f := g18) o N18 0 hP18 hC18 (by omega)) (cwV 1 CX.fix.2.2.2.2 gL_law_X11_has rfl rfl rfl (by decide +kernel) ⟨Nat.le_of_ble_eq_true rfl, Nat.le_of_ble_eq_true rfl⟩) (z_preV CX hW (r := (RX11, TX11, 13)) (show g18 o = _ from hP18.c0) rfl) rfl rfl hl.1 rfl (lv_room (Nat.le_of_ble_eq_true rfl)) dL_law_134 ⟨by show _ ≤ 600000; omega, by show _ ≤ 7302250; omega⟩) (fun zv gn H locs hok134 hW => ?_)
        obtain ⟨ez, hP19, hC19, hF19, hV19, hR19⟩ := hok134
        have ev19 : (zc_has N18 0).1 = p := (nA_has hz18).1
        rw [ez, ev19]
        clear ez ev19
        obtain ⟨N19, eN19⟩ : ∃ Z9, Z9 = (zc_has N18 0).2 := ⟨_, rfl⟩
        rw [← eN19] at hP19 hC19 hV19
        clear eN19
        obtain ⟨g19, eg19⟩ : ∃ q, q = gn := ⟨_, rfl⟩
        rw [← eg19] at hW hP19 hF19
        clear eg19
        have hz19 : zP2 N19 p a b := hz18.ve hV19
        have hG19 : zFr g18 g19 o (o + 681) := zFr.tr2 zFr.refl hF19
        refine lv_iload_n hX0 hB0 dL_law_137 rfl (lv_at hl 4 rfl) ?_
        refine z_icmp_ne (tgt := 165) CX dL_law_138 (by decide) (by constructor <;> omega) (by constructor <;> omega) (fun c_138 => ?_) (fun c_138 => ?_)
        ·
          omega
        ·
          refine lv_aload_n hX0 hB0 dL_law_141 rfl (lv_at hl 3 rfl) ?_
          refine lv_iconst (v := zI 1) hX0 hB0 dL_law_142 rfl ?_
          refine z_calli hW (va_runV (C := RX11) (As := [.int (zI 1)]) (rest := []) CX.fix (zd_has l (f := g19) o N19 1 hP19 hC19 (by omega)) (cwV 1 CX.fix.2.2.2.2 gL_law_X11_has rfl rfl rfl (by decide +kernel) ⟨Nat.le_of_ble_eq_true rfl, Nat.le_of_ble_eq_true rfl⟩) (z_preV CX hW (r := (RX11, TX11, 13)) (show g19 o = _ from hP19.c0) rfl) rfl rfl hl.1 rfl (lv_room (Nat.le_of_ble_eq_true rfl)) dL_law_143 ⟨by show _ ≤ 600000; omega, by show _ ≤ 7302250; omega⟩) (fun zv gn H locs hok143 hW => ?_)
          obtain ⟨ez, hP20, hC20, hF20, hV20, hR20⟩ := hok143
          have ev20 : (zc_has N19 1).1 = 2 := (nA_has hz19).2.1
          rw [ez, ev20]
          clear ez ev20
          obtain ⟨N20, eN20⟩ : ∃ Z9, Z9 = (zc_has N19 1).2 := ⟨_, rfl⟩
          rw [← eN20] at hP20 hC20 hV20
          clear eN20
          obtain ⟨g20, eg20⟩ : ∃ q, q = gn := ⟨_, rfl⟩
          rw [← eg20] at hW hP20 hF20
          clear eg20
          have hz20 : zP2 N20 p a b := hz19.ve hV20
          have hG20 : zFr g18 g20 o (o + 681) := zFr.tr2 hG19 hF20
          refine lv_iconst (v := zI 2) hX0 hB0 dL_law_146 rfl ?_
          refine z_icmp_ne (tgt := 165) CX dL_law_147 (by decide) (by constructor <;> omega) (by constructor <;> omega) (fun c_147 => ?_) (fun c_147 => ?_)
          ·
            omega
          ·
            refine lv_aload_n hX0 hB0 dL_law_150 rfl (lv_at hl 3 rfl) ?_
            refine lv_iconst (v := zI 2) hX0 hB0 dL_law_151 rfl ?_
            refine z_calli hW (va_runV (C := RX11) (As := [.int (zI 2)]) (rest := []) CX.fix (zd_has l (f := g20) o N20 2 hP20 hC20 (by omega)) (cwV 1 CX.fix.2.2.2.2 gL_law_X11_has rfl rfl rfl (by decide +kernel) ⟨Nat.le_of_ble_eq_true rfl, Nat.le_of_ble_eq_true rfl⟩) (z_preV CX hW (r := (RX11, TX11, 13)) (show g20 o = _ from hP20.c0) rfl) rfl rfl hl.1 rfl (lv_room (Nat.le_of_ble_eq_true rfl)) dL_law_152 ⟨by show _ ≤ 600000; omega, by show _ ≤ 7302250; omega⟩) (fun zv gn H locs hok152 hW => ?_)
            obtain ⟨ez, hP21, hC21, hF21, hV21, hR21⟩ := hok152
            have ev21 : (zc_has N20 2).1 = zmany p := (nA_has hz20).2.2
            rw [ez, ev21]
            clear ez ev21
            obtain ⟨N21, eN21⟩ : ∃ Z9, Z9 = (zc_has N20 2).2 := ⟨_, rfl⟩
            rw [← eN21] at hP21 hC21 hV21
            clear eN21
            obtain ⟨g21, eg21⟩ : ∃ q, q = gn := ⟨_, rfl⟩
            rw [← eg21] at hW hP21 hF21
            clear eg21
            have hz21 : zP2 N21 p a b := hz20.ve hV21
            have hG21 : zFr g18 g21 o (o + 681) := zFr.tr2 hG20 hF21
            refine lv_iload_n hX0 hB0 dL_law_155 rfl (lv_at hl 4 rfl) ?_
            refine lv_iload_n hX0 hB0 dL_law_156 rfl (lv_at hl 4 rfl) ?_
            refine z_imul (z := p * p) CX dL_law_157 rfl ?_
            refine lv_iload_n hX0 hB0 dL_law_158 rfl (lv_at hl 4 rfl) ?_
            refine z_iadd (z := (p * p) + p) CX dL_law_159 rfl ?_
            refine lv_iconst (v := zI 1) hX0 hB0 dL_law_160 rfl ?_
            refine z_iadd (z := ((p * p) + p) + 1) CX dL_law_161 rfl ?_
            refine z_icmp_eq (tgt := 167) CX dL_law_162 (by decide) (by constructor <;> omega) (by constructor <;> omega) (fun c_162 => ?_) (fun c_162 => ?_)
            ·
              refine lv_aload_n hX0 hB0 dL_law_167 rfl (lv_at hl 3 rfl) ?_
              refine lv_iload_n hX0 hB0 dL_law_168 rfl (lv_at hl 4 rfl) ?_
              refine lv_iconst (v := zI 0) hX0 hB0 dL_law_169 rfl ?_
              refine lv_iconst (v := zI 1) hX0 hB0 dL_law_170 rfl ?_
              refine zy_calli hW (va_runS (As := [.ref o, .int (zI p), .int (zI 0), .int (zI 1)]) (rest := []) CX.fix (c_balances l (f := g21) o N21 p a b hP21 hC21 hz21 hpr (by omega) ha hb hfa hfb ta tb) (va_cwS 4 CX.fix.2.2.2.2 gL_law_L_balances rfl rfl rfl (by decide +kernel) ⟨Nat.le_of_ble_eq_true rfl, Nat.le_of_ble_eq_true rfl⟩) (z_preS CX hW) rfl rfl hl.1 rfl (lv_room (Nat.le_of_ble_eq_true rfl)) dL_law_171 ⟨by show _ ≤ 600000; omega, by show _ ≤ 7302250; omega⟩) (fun zv Lx gn H locs hok171 hW => ?_)
              obtain ⟨ez, N22, hP22, hC22, hz22, hF22⟩ := hok171
              rw [ez]
              clear ez
              obtain ⟨g22, eg22⟩ : ∃ q, q = gn := ⟨_, rfl⟩
              rw [← eg22] at hW hP22
              clear eg22
              refine W.widen (k := 1024) (n := 241402) (by omega) (by omega) ?_
              refine z_if_eq (tgt := 246) CX dL_law_174 (by decide) (by constructor <;> omega) (fun c_174 => ?_) (fun c_174 => ?_)
              ·
                omega
              ·
                refine lv_aload_n hX0 hB0 dL_law_177 rfl (lv_at hl 3 rfl) ?_
                refine lv_iconst (v := zI 0) hX0 hB0 dL_law_178 rfl ?_
                refine lv_iconst (v := zI 0) hX0 hB0 dL_law_179 rfl ?_
                refine lv_iconst (v := zI 0) hX0 hB0 dL_law_180 rfl ?_
                refine z_calli hW (va_runV (C := RX11) (As := [.int (zI 0), .int (zI 0), .int (zI 0)]) (rest := []) CX.fix (zd_times l (f := g22) o N22 0 0 0 hP22 hC22 (by omega) (by omega) (by omega)) (cwV 3 CX.fix.2.2.2.2 gL_law_X11_times rfl rfl rfl (by decide +kernel) ⟨Nat.le_of_ble_eq_true rfl, Nat.le_of_ble_eq_true rfl⟩) (z_preV CX hW (r := (RX11, TX11, 13)) (show g22 o = _ from hP22.c0) rfl) rfl rfl hl.1 rfl (lv_room (Nat.le_of_ble_eq_true rfl)) dL_law_181 ⟨by show _ ≤ 600000; omega, by show _ ≤ 7302250; omega⟩) (fun zv gn H locs hok181 hW => ?_)
                obtain ⟨ez, hP23, hC23, hF23, hV23, hR23⟩ := hok181
                have ev23 : (zc_times N22 0 0 0).1 = zTV (zval a (zpx 0 p) (zpy 0 p) (zpz 0 p) p) := nA_self hz22 hpr ha hfa ta.1 hz0p
                rw [ez, ev23] at hR23
                rw [ez, ev23]
                clear ez ev23
                obtain ⟨N23, eN23⟩ : ∃ Z9, Z9 = (zc_times N22 0 0 0).2 := ⟨_, rfl⟩
                rw [← eN23] at hP23 hC23 hV23
                clear eN23
                obtain ⟨g23, eg23⟩ : ∃ q, q = gn := ⟨_, rfl⟩
                rw [← eg23] at hW hP23 hF23
                clear eg23
                have hz23 : zP2 N23 p a b := hz22.ve hV23
                have hG23 : zFr g22 g23 o (o + 681) := zFr.tr2 zFr.refl hF23
                refine lv_aload_n hX0 hB0 dL_law_184 rfl (lv_at hl 3 rfl) ?_
                refine lv_iconst (v := zI 0) hX0 hB0 dL_law_185 rfl ?_
                refine lv_iconst (v := zI 0) hX0 hB0 dL_law_186 rfl ?_
                refine z_calli hW (va_runV (C := RX11) (As := [.int (zI 0), .int (zI 0)]) (rest := [.int (zI (zTV (zval a (zpx 0 p) (zpy 0 p) (zpz 0 p) p)))]) CX.fix (zd_value l (f := g23) o N23 0 0 hP23 hC23 (by omega) (by omega)) (cwV 2 CX.fix.2.2.2.2 gL_law_X11_value rfl rfl rfl (by decide +kernel) ⟨Nat.le_of_ble_eq_true rfl, Nat.le_of_ble_eq_true rfl⟩) (z_preV CX hW (r := (RX11, TX11, 13)) (show g23 o = _ from hP23.c0) rfl) rfl rfl hl.1 rfl (lv_room (Nat.le_of_ble_eq_true rfl)) dL_law_187 ⟨by show _ ≤ 600000; omega, by show _ ≤ 7302250; omega⟩) (fun zv gn H locs hok187 hW => ?_)
                obtain ⟨ez, hP24, hC24, hF24, hV24, hR24⟩ := hok187
                have ev24 : (zc_value N23 0 0).1 = zval a (zpx 0 p) (zpy 0 p) (zpz 0 p) p := nA_value hz23 (zPr_2 hpr) (Or.inl rfl) hz0p
                rw [ez, ev24] at hR24
                rw [ez, ev24]
                clear ez ev24
                obtain ⟨N24, eN24⟩ : ∃ Z9, Z9 = (zc_value N23 0 0).2 := ⟨_, rfl⟩
                rw [← eN24] at hP24 hC24 hV24
                clear eN24
                obtain ⟨g24, eg24⟩ : ∃ q, q = gn := ⟨_, rfl⟩
                rw [← eg24] at hW hP24 hF24
                clear eg24
                have hz24 : zP2 N24 p a b := hz23.ve hV24
                have hG24 : zFr g22 g24 o (o + 681) := zFr.tr2 hG23 hF24
                have htv := zTV_s (zval a (zpx 0 p) (zpy 0 p) (zpz 0 p) p)
                refine z_if_ne (tgt := 198) CX dL_law_190 (by decide) (by constructor <;> omega) (fun c_190 => ?_) (fun c_190 => ?_)
                ·
                  refine lv_iconst (v := zI 0) hX0 hB0 dL_law_198 rfl ?_
                  refine z_icmp_ne (tgt := 246) CX dL_law_199 (by decide) (by constructor <;> omega) (by constructor <;> omega) (fun c_199 => ?_) (fun c_199 => ?_)
                  ·
                    omega
                  ·
                    refine lv_aload_n hX0 hB0 dL_law_202 rfl (lv_at hl 3 rfl) ?_
                    refine lv_iconst (v := zI 0) hX0 hB0 dL_law_203 rfl ?_
                    refine lv_iconst (v := zI 2) hX0 hB0 dL_law_204 rfl ?_
                    refine lv_iconst (v := zI 0) hX0 hB0 dL_law_205 rfl ?_
                    refine z_calli hW (va_runV (C := RX11) (As := [.int (zI 0), .int (zI 2), .int (zI 0)]) (rest := []) CX.fix (zd_times l (f := g24) o N24 0 2 0 hP24 hC24 (by omega) (by omega) (by omega)) (cwV 3 CX.fix.2.2.2.2 gL_law_X11_times rfl rfl rfl (by decide +kernel) ⟨Nat.le_of_ble_eq_true rfl, Nat.le_of_ble_eq_true rfl⟩) (z_preV CX hW (r := (RX11, TX11, 13)) (show g24 o = _ from hP24.c0) rfl) rfl rfl hl.1 rfl (lv_room (Nat.le_of_ble_eq_true rfl)) dL_law_206 ⟨by show _ ≤ 600000; omega, by show _ ≤ 7302250; omega⟩) (fun zv gn H locs hok206 hW => ?_)
                    obtain ⟨ez, hP25, hC25, hF25, hV25, hR25⟩ := hok206
                    have ev25 : (zc_times N24 0 2 0).1 = -1 := (nA_none hz24).1
                    rw [ez, ev25] at hR25
                    rw [ez, ev25]
                    clear ez ev25
                    obtain ⟨N25, eN25⟩ : ∃ Z9, Z9 = (zc_times N24 0 2 0).2 := ⟨_, rfl⟩
                    rw [← eN25] at hP25 hC25 hV25
                    clear eN25
                    obtain ⟨g25, eg25⟩ : ∃ q, q = gn := ⟨_, rfl⟩
                    rw [← eg25] at hW hP25 hF25
                    clear eg25
                    have hz25 : zP2 N25 p a b := hz24.ve hV25
                    have hG25 : zFr g22 g25 o (o + 681) := zFr.tr2 hG24 hF25
                    refine lv_iconst (v := zI (-1)) hX0 hB0 dL_law_209 rfl ?_
                    refine z_icmp_ne (tgt := 246) CX dL_law_210 (by decide) (by constructor <;> omega) (by constructor <;> omega) (fun c_210 => ?_) (fun c_210 => ?_)
                    ·
                      omega
                    ·
                      refine lv_aload_n hX0 hB0 dL_law_213 rfl (lv_at hl 3 rfl) ?_
                      refine lv_iconst (v := zI 0) hX0 hB0 dL_law_214 rfl ?_
                      refine lv_iconst (v := zI 1) hX0 hB0 dL_law_215 rfl ?_
                      refine lv_iload_n hX0 hB0 dL_law_216 rfl (lv_at hl 4 rfl) ?_
                      refine lv_iload_n hX0 hB0 dL_law_217 rfl (lv_at hl 4 rfl) ?_
                      refine z_imul (z := p * p) CX dL_law_218 rfl ?_
                      refine lv_iload_n hX0 hB0 dL_law_219 rfl (lv_at hl 4 rfl) ?_
                      refine z_iadd (z := (p * p) + p) CX dL_law_220 rfl ?_
                      refine lv_iconst (v := zI 1) hX0 hB0 dL_law_221 rfl ?_
                      refine z_iadd (z := ((p * p) + p) + 1) CX dL_law_222 rfl ?_
                      refine z_calli hW (va_runV (C := RX11) (As := [.int (zI 0), .int (zI 1), .int (zI (((p * p) + p) + 1))]) (rest := []) CX.fix (zd_size l (f := g25) o N25 0 1 (((p * p) + p) + 1) hP25 hC25 (by omega) (by omega) (by omega)) (cwV 3 CX.fix.2.2.2.2 gL_law_X11_size rfl rfl rfl (by decide +kernel) ⟨Nat.le_of_ble_eq_true rfl, Nat.le_of_ble_eq_true rfl⟩) (z_preV CX hW (r := (RX11, TX11, 13)) (show g25 o = _ from hP25.c0) rfl) rfl rfl hl.1 rfl (lv_room (Nat.le_of_ble_eq_true rfl)) dL_law_223 ⟨by show _ ≤ 600000; omega, by show _ ≤ 7302250; omega⟩) (fun zv gn H locs hok223 hW => ?_)
                      obtain ⟨ez, hP26, hC26, hF26, hV26, hR26⟩ := hok223
                      have ev26 : (zc_size N25 0 1 (((p * p) + p) + 1)).1 = -1 := (by rw [show ((p * p) + p) + 1 = zmany p from by unfold zmany; omega]; exact (nA_none hz25).2.1)
                      rw [ez, ev26]
                      clear ez ev26
                      obtain ⟨N26, eN26⟩ : ∃ Z9, Z9 = (zc_size N25 0 1 (((p * p) + p) + 1)).2 := ⟨_, rfl⟩
                      rw [← eN26] at hP26 hC26 hV26
                      clear eN26
                      obtain ⟨g26, eg26⟩ : ∃ q, q = gn := ⟨_, rfl⟩
                      rw [← eg26] at hW hP26 hF26
                      clear eg26
                      have hz26 : zP2 N26 p a b := hz25.ve hV26
                      have hG26 : zFr g22 g26 o (o + 681) := zFr.tr2 hG25 hF26
                      refine lv_iconst (v := zI (-1)) hX0 hB0 dL_law_226 rfl ?_
                      refine z_icmp_ne (tgt := 246) CX dL_law_227 (by decide) (by constructor <;> omega) (by constructor <;> omega) (fun c_227 => ?_) (fun c_227 => ?_)
                      ·
                        omega
                      ·
                        refine lv_aload_n hX0 hB0 dL_law_230 rfl (lv_at hl 3 rfl) ?_
                        refine lv_iconst (v := zI 0) hX0 hB0 dL_law_231 rfl ?_
                        refine lv_iconst (v := zI 1) hX0 hB0 dL_law_232 rfl ?_
                        refine lv_bipush (v := zI 25) hX0 hB0 dL_law_233 (by decide) ?_
                        refine z_calli hW (va_runV (C := RX11) (As := [.int (zI 0), .int (zI 1), .int (zI 25)]) (rest := []) CX.fix (zd_parts l (f := g26) o N26 0 1 25 hP26 hC26 (by omega) (by omega) (by omega)) (cwV 3 CX.fix.2.2.2.2 gL_law_X11_parts rfl rfl rfl (by decide +kernel) ⟨Nat.le_of_ble_eq_true rfl, Nat.le_of_ble_eq_true rfl⟩) (z_preV CX hW (r := (RX11, TX11, 13)) (show g26 o = _ from hP26.c0) rfl) rfl rfl hl.1 rfl (lv_room (Nat.le_of_ble_eq_true rfl)) dL_law_235 ⟨by show _ ≤ 600000; omega, by show _ ≤ 7302250; omega⟩) (fun zv gn H locs hok235 hW => ?_)
                        obtain ⟨ez, hP27, hC27, hF27, hV27, hR27⟩ := hok235
                        have ev27 : (zc_parts N26 0 1 25).1 = -1 := (nA_none hz26).2.2
                        rw [ez, ev27]
                        clear ez ev27
                        obtain ⟨N27, eN27⟩ : ∃ Z9, Z9 = (zc_parts N26 0 1 25).2 := ⟨_, rfl⟩
                        rw [← eN27] at hP27 hC27 hV27
                        clear eN27
                        obtain ⟨g27, eg27⟩ : ∃ q, q = gn := ⟨_, rfl⟩
                        rw [← eg27] at hW hP27 hF27
                        clear eg27
                        have hz27 : zP2 N27 p a b := hz26.ve hV27
                        have hG27 : zFr g22 g27 o (o + 681) := zFr.tr2 hG26 hF27
                        refine lv_iconst (v := zI (-1)) hX0 hB0 dL_law_238 rfl ?_
                        refine z_icmp_ne (tgt := 246) CX dL_law_239 (by decide) (by constructor <;> omega) (by constructor <;> omega) (fun c_239 => ?_) (fun c_239 => ?_)
                        ·
                          omega
                        ·
                          refine lv_iconst (v := zI 1) hX0 hB0 dL_law_242 rfl ?_
                          refine lv_goto (tgt := 247) hX0 hB0 dL_law_243 (by decide) ?_
                          refine W.widen (k := 600000) (n := 7302250) (by omega) (by omega) ?_
                          exact hend _ _ _ _ _ _ dL_law_247 hW
                ·
                  refine lv_bipush (v := zI (-2)) hX0 hB0 dL_law_193 (by decide) ?_
                  refine lv_goto (tgt := 199) hX0 hB0 dL_law_195 (by decide) ?_
                  refine z_icmp_ne (tgt := 246) CX dL_law_199 (by decide) (by constructor <;> omega) (by constructor <;> omega) (fun c_199 => ?_) (fun c_199 => ?_)
                  ·
                    omega
                  ·
                    refine lv_aload_n hX0 hB0 dL_law_202 rfl (lv_at hl 3 rfl) ?_
                    refine lv_iconst (v := zI 0) hX0 hB0 dL_law_203 rfl ?_
                    refine lv_iconst (v := zI 2) hX0 hB0 dL_law_204 rfl ?_
                    refine lv_iconst (v := zI 0) hX0 hB0 dL_law_205 rfl ?_
                    refine z_calli hW (va_runV (C := RX11) (As := [.int (zI 0), .int (zI 2), .int (zI 0)]) (rest := []) CX.fix (zd_times l (f := g24) o N24 0 2 0 hP24 hC24 (by omega) (by omega) (by omega)) (cwV 3 CX.fix.2.2.2.2 gL_law_X11_times rfl rfl rfl (by decide +kernel) ⟨Nat.le_of_ble_eq_true rfl, Nat.le_of_ble_eq_true rfl⟩) (z_preV CX hW (r := (RX11, TX11, 13)) (show g24 o = _ from hP24.c0) rfl) rfl rfl hl.1 rfl (lv_room (Nat.le_of_ble_eq_true rfl)) dL_law_206 ⟨by show _ ≤ 600000; omega, by show _ ≤ 7302250; omega⟩) (fun zv gn H locs hok206 hW => ?_)
                    obtain ⟨ez, hP28, hC28, hF28, hV28, hR28⟩ := hok206
                    have ev28 : (zc_times N24 0 2 0).1 = -1 := (nA_none hz24).1
                    rw [ez, ev28] at hR28
                    rw [ez, ev28]
                    clear ez ev28
                    obtain ⟨N28, eN28⟩ : ∃ Z9, Z9 = (zc_times N24 0 2 0).2 := ⟨_, rfl⟩
                    rw [← eN28] at hP28 hC28 hV28
                    clear eN28
                    obtain ⟨g28, eg28⟩ : ∃ q, q = gn := ⟨_, rfl⟩
                    rw [← eg28] at hW hP28 hF28
                    clear eg28
                    have hz28 : zP2 N28 p a b := hz24.ve hV28
                    have hG28 : zFr g22 g28 o (o + 681) := zFr.tr2 hG24 hF28
                    refine lv_iconst (v := zI (-1)) hX0 hB0 dL_law_209 rfl ?_
                    refine z_icmp_ne (tgt := 246) CX dL_law_210 (by decide) (by constructor <;> omega) (by constructor <;> omega) (fun c_210 => ?_) (fun c_210 => ?_)
                    ·
                      omega
                    ·
                      refine lv_aload_n hX0 hB0 dL_law_213 rfl (lv_at hl 3 rfl) ?_
                      refine lv_iconst (v := zI 0) hX0 hB0 dL_law_214 rfl ?_
                      refine lv_iconst (v := zI 1) hX0 hB0 dL_law_215 rfl ?_
                      refine lv_iload_n hX0 hB0 dL_law_216 rfl (lv_at hl 4 rfl) ?_
                      refine lv_iload_n hX0 hB0 dL_law_217 rfl (lv_at hl 4 rfl) ?_
                      refine z_imul (z := p * p) CX dL_law_218 rfl ?_
                      refine lv_iload_n hX0 hB0 dL_law_219 rfl (lv_at hl 4 rfl) ?_
                      refine z_iadd (z := (p * p) + p) CX dL_law_220 rfl ?_
                      refine lv_iconst (v := zI 1) hX0 hB0 dL_law_221 rfl ?_
                      refine z_iadd (z := ((p * p) + p) + 1) CX dL_law_222 rfl ?_
                      refine z_calli hW (va_runV (C := RX11) (As := [.int (zI 0), .int (zI 1), .int (zI (((p * p) + p) + 1))]) (rest := []) CX.fix (zd_size l (f := g28) o N28 0 1 (((p * p) + p) + 1) hP28 hC28 (by omega) (by omega) (by omega)) (cwV 3 CX.fix.2.2.2.2 gL_law_X11_size rfl rfl rfl (by decide +kernel) ⟨Nat.le_of_ble_eq_true rfl, Nat.le_of_ble_eq_true rfl⟩) (z_preV CX hW (r := (RX11, TX11, 13)) (show g28 o = _ from hP28.c0) rfl) rfl rfl hl.1 rfl (lv_room (Nat.le_of_ble_eq_true rfl)) dL_law_223 ⟨by show _ ≤ 600000; omega, by show _ ≤ 7302250; omega⟩) (fun zv gn H locs hok223 hW => ?_)
                      obtain ⟨ez, hP29, hC29, hF29, hV29, hR29⟩ := hok223
                      have ev29 : (zc_size N28 0 1 (((p * p) + p) + 1)).1 = -1 := (by rw [show ((p * p) + p) + 1 = zmany p from by unfold zmany; omega]; exact (nA_none hz28).2.1)
                      rw [ez, ev29]
                      clear ez ev29
                      obtain ⟨N29, eN29⟩ : ∃ Z9, Z9 = (zc_size N28 0 1 (((p * p) + p) + 1)).2 := ⟨_, rfl⟩
                      rw [← eN29] at hP29 hC29 hV29
                      clear eN29
                      obtain ⟨g29, eg29⟩ : ∃ q, q = gn := ⟨_, rfl⟩
                      rw [← eg29] at hW hP29 hF29
                      clear eg29
                      have hz29 : zP2 N29 p a b := hz28.ve hV29
                      have hG29 : zFr g22 g29 o (o + 681) := zFr.tr2 hG28 hF29
                      refine lv_iconst (v := zI (-1)) hX0 hB0 dL_law_226 rfl ?_
                      refine z_icmp_ne (tgt := 246) CX dL_law_227 (by decide) (by constructor <;> omega) (by constructor <;> omega) (fun c_227 => ?_) (fun c_227 => ?_)
                      ·
                        omega
                      ·
                        refine lv_aload_n hX0 hB0 dL_law_230 rfl (lv_at hl 3 rfl) ?_
                        refine lv_iconst (v := zI 0) hX0 hB0 dL_law_231 rfl ?_
                        refine lv_iconst (v := zI 1) hX0 hB0 dL_law_232 rfl ?_
                        refine lv_bipush (v := zI 25) hX0 hB0 dL_law_233 (by decide) ?_
                        refine z_calli hW (va_runV (C := RX11) (As := [.int (zI 0), .int (zI 1), .int (zI 25)]) (rest := []) CX.fix (zd_parts l (f := g29) o N29 0 1 25 hP29 hC29 (by omega) (by omega) (by omega)) (cwV 3 CX.fix.2.2.2.2 gL_law_X11_parts rfl rfl rfl (by decide +kernel) ⟨Nat.le_of_ble_eq_true rfl, Nat.le_of_ble_eq_true rfl⟩) (z_preV CX hW (r := (RX11, TX11, 13)) (show g29 o = _ from hP29.c0) rfl) rfl rfl hl.1 rfl (lv_room (Nat.le_of_ble_eq_true rfl)) dL_law_235 ⟨by show _ ≤ 600000; omega, by show _ ≤ 7302250; omega⟩) (fun zv gn H locs hok235 hW => ?_)
                        obtain ⟨ez, hP30, hC30, hF30, hV30, hR30⟩ := hok235
                        have ev30 : (zc_parts N29 0 1 25).1 = -1 := (nA_none hz29).2.2
                        rw [ez, ev30]
                        clear ez ev30
                        obtain ⟨N30, eN30⟩ : ∃ Z9, Z9 = (zc_parts N29 0 1 25).2 := ⟨_, rfl⟩
                        rw [← eN30] at hP30 hC30 hV30
                        clear eN30
                        obtain ⟨g30, eg30⟩ : ∃ q, q = gn := ⟨_, rfl⟩
                        rw [← eg30] at hW hP30 hF30
                        clear eg30
                        have hz30 : zP2 N30 p a b := hz29.ve hV30
                        have hG30 : zFr g22 g30 o (o + 681) := zFr.tr2 hG29 hF30
                        refine lv_iconst (v := zI (-1)) hX0 hB0 dL_law_238 rfl ?_
                        refine z_icmp_ne (tgt := 246) CX dL_law_239 (by decide) (by constructor <;> omega) (by constructor <;> omega) (fun c_239 => ?_) (fun c_239 => ?_)
                        ·
                          omega
                        ·
                          refine lv_iconst (v := zI 1) hX0 hB0 dL_law_242 rfl ?_
                          refine lv_goto (tgt := 247) hX0 hB0 dL_law_243 (by decide) ?_
                          refine W.widen (k := 600000) (n := 7302250) (by omega) (by omega) ?_
                          exact hend _ _ _ _ _ _ dL_law_247 hW
            ·
              omega
  ·
    omega
end ZLu
