section ZJd
/-- a made text -/
def zTm (cJ : ClassId) (f : Nat → va_E) (h n : Nat) (t : Nat → Int) : Prop := ∃ (b : Nat) (d : Nat → Int) (x y : Int), f h = .inr (12, [.ref b, .int (zI 0), .int (zI x), .int (zI y)]) ∧ f b = zA cJ n d ∧ zbt d ∧ ∀ k, k < n → t k = d k
/-- made just now -/
def zTn (cJ : ClassId) (f g : Nat → va_E) (h n : Nat) (t : Nat → Int) : Prop := ∃ (b : Nat) (d : Nat → Int) (x y : Int), (g h = .inr (12, [.ref b, .int (zI 0), .int (zI x), .int (zI y)]) ∧ g b = zA cJ n d ∧ zbt d ∧ ∀ k, k < n → t k = d k) ∧ f b = zJ
theorem zTn.m {cJ : ClassId} {f g : Nat → va_E} {h n : Nat} {t : Nat → Int} (hx : zTn cJ f g h n t) : zTm cJ g h n t := by
  obtain ⟨b, d, x, y, h1, _⟩ := hx
  exact ⟨b, d, x, y, h1⟩
theorem zTn.old {cJ : ClassId} {f0 f g : Nat → va_E} {h n : Nat} {t : Nat → Int} (hx : zTn cJ f g h n t) (hk : ∀ b, f0 b ≠ zJ → f b = f0 b) : zTn cJ f0 g h n t := by
  obtain ⟨b, d, x, y, h1, h2⟩ := hx
  exact ⟨b, d, x, y, h1, Classical.byContradiction fun z => z (by rw [← hk b z]; exact h2)⟩
theorem zTm.x {D : va_G} {cJ : ClassId} {f : Nat → va_E} {h n : Nat} {t : Nat → Int} (hx : zTm cJ f h n t) : zTx D cJ f h n t := Or.inr hx
theorem zTm.kp {cJ : ClassId} {f g : Nat → va_E} {h n : Nat} {t : Nat → Int} (hx : zTm cJ f h n t) (hg : zKp2 f g) : zTm cJ g h n t := by
  obtain ⟨b, d, x, y, h1, h2, h3, h4⟩ := hx
  refine ⟨b, d, x, y, ?_, ?_, h3, h4⟩
  · rw [hg h (by rw [h1]; exact zJo (ci := 12) rfl), h1]
  · rw [hg b (by rw [h2]; exact zJi), h2]
set_option maxRecDepth 100000 in
set_option maxHeartbeats 4000000 in
/-- AbstractStringBuilder(int) -/
theorem c_sbInit5 (l : Launch) {D : va_G} {cI cJ cZ cP cS cM : ClassId} {L : List Nat} {sz : Nat} {f : Nat → va_E} {f0 : Nat → va_E} (q : Nat) (hf : f = va_up f0 q (.inr (13, [.null, .int (zI 0), .int (zI 0), .int (zI 0)]))) (hjq : f0 q = zJ) : zXv l yJ5_init_d00df wsJ5_init_d00df 1 54 1 16 D (zT cI cJ cZ cP cS cM) L sz f [.ref q, .int (zI 16)] (fun g => zSB cJ f0 g q 0 (fun _ => 0)) := by
  have hq : f q = .inr (13, [.null, .int (zI 0), .int (zI 0), .int (zI 0)]) := by rw [hf]; exact va_up_self _ _ _
  refine zyWalk.met (nL := 2) (ret := none) (cc := cJ5_init_d00df) (by decide) rfl (Nat.le_of_ble_eq_true rfl) ?_
  intro pg en st mi ag bl mt cd ls CX hin hW hl
  have CX : zC pg st mi ag mt cd cJ5_init_d00df 2 none RJ5 wsJ5_init_d00df := CX
  generalize hQ : MQ bl _ ag st 1 16 _ = Q
  have hX0 := CX.1
  have hB0 := CX.2.1
  have hl : lv_has ls 2 [(0, .ref q), (1, .int (zI 16))] := hl
  obtain ⟨H, eH⟩ : ∃ H, H = st.heap := ⟨_, rfl⟩
  obtain ⟨locs, eL⟩ : ∃ L : List Loc, L = [] := ⟨_, rfl⟩
  have hW : zW D (zT cI cJ cZ cP cS cM) L (zQ L sz) st f st.heap H locs := by rw [eH, eL]; exact hW
  suffices hgo : W pg l en ({ frames := 1, cells := 1, slots := 16, locals := 54 } : Room) st mi ag bl mt cd H locs 0 0 Q (F0 mi 0 ls []) by rw [eH, eL] at hgo; exact hgo
  clear eH eL
  refine lv_aload_n hX0 hB0 dJ5_init_d00df_0 rfl (lv_at hl 0 rfl) ?_
  refine W.objInit hX0 hB0 CX.2.2.2.1 (CX.at (List.mem_of_getElem? (i := 1) rfl)) (CX.at (List.mem_of_getElem? (i := 2) rfl)) (CX.at (List.mem_of_getElem? (i := 3) rfl)) rfl (by rw [CX.2.2.1]; exact hl.1) rfl dJ5_init_d00df_1 (Nat.le_of_ble_eq_true rfl) (Nat.le_of_ble_eq_true rfl) ?_
  refine W.eq (g2 := F0 mi 4 ls []) rfl ?_
  refine z_gets (v := .int (zI 1)) CX hW hW.2.2.2.2.2.2.2.2.1 (List.mem_of_getElem? (i := 4) rfl) rfl dJ5_init_d00df_4 ?_
  refine z_if_eq (tgt := 25) CX dJ5_init_d00df_7 (by decide) (by constructor <;> omega) (fun c_7 => ?_) (fun c_7 => ?_)
  ·
    omega
  ·
    refine lv_aload_n hX0 hB0 dJ5_init_d00df_10 rfl (lv_at hl 0 rfl) ?_
    refine lv_iload_n hX0 hB0 dJ5_init_d00df_11 rfl (lv_at hl 1 rfl) ?_
    refine zy_newa (atype := .byte) (ty := .byte) (cy := cJ) (N' := 16) (a0 := (16, .inl (fun k => zI (zone 0 k)))) CX hW rfl (List.mem_of_getElem? (i := 5) rfl) 1 rfl zn_haB (by omega) (by omega) (by show _ * 1 ≤ _; omega) (by omega) (by show _ ≤ 1; omega) (by show _ ≤ 16; omega) dJ5_init_d00df_12 (fun q1 Lx H hfq1 hW => ?_)
    have hne2 : q ≠ q1 := zfr_ne (zkO hq (ci := 13) rfl) hfq1
    have hzq1 := hfq1
    refine W.widen (k := 1) (n := 16) (by omega) (by omega) ?_
    refine z_put (Cn := RJ4) (T := TJ4) (N := 4) CX hW (v := .ref q1) ((va_up_ne _ _ hne2).trans hq) rfl (fun w h => List.mem_cons_of_mem _ (List.mem_append_right _ h)) tyJ4 tyJ4_ok nmJ4 0 (by decide) (List.mem_of_getElem? (i := 6) rfl) rfl rfl rfl rfl (Nat.le_of_ble_eq_true rfl) (g := va_up (va_up f q1 (zA cJ 16 (zone 0))) q (.inr (13, [.ref q1, .int (zI 0), .int (zI 0), .int (zI 0)]))) rfl dJ5_init_d00df_14 (fun H locs hW => ?_)
    refine lv_aload_n hX0 hB0 dJ5_init_d00df_17 rfl (lv_at hl 0 rfl) ?_
    refine lv_iconst (v := zI 0) hX0 hB0 dJ5_init_d00df_18 rfl ?_
    refine z_put (Cn := RJ4) (T := TJ4) (N := 4) CX hW (v := .int (zI 0)) (va_up_self _ _ _) rfl (fun w h => List.mem_cons_of_mem _ (List.mem_append_right _ h)) tyJ4 tyJ4_ok nmJ4 1 (by decide) (List.mem_of_getElem? (i := 7) rfl) rfl rfl rfl rfl (Nat.le_of_ble_eq_true rfl) (g := va_up (va_up f q1 (zA cJ 16 (zone 0))) q (.inr (13, [.ref q1, .int (zI 0), .int (zI 0), .int (zI 0)]))) va_up_up dJ5_init_d00df_19 (fun H locs hW => ?_)
    refine lv_goto (tgt := 38) hX0 hB0 dJ5_init_d00df_22 (by decide) ?_
    rw [← hQ]
    refine W.widen (k := 1) (n := 16) (by omega) (by omega) ?_
    refine zy_vret CX hW ?_ dJ5_init_d00df_38
    have hj1 : f0 q1 = zJ := by
      have z := hzq1
      rw [hf, va_up_ne _ _ (Ne.symm hne2)] at z
      exact z
    exact ⟨⟨q1, 16, zone 0, 0, (va_up_self _ _ _), ((va_up_ne _ _ (Ne.symm hne2)).trans (va_up_self _ _ _)), zbt_0, fun k hk => absurd hk (Nat.not_lt_zero _), Nat.zero_le _, by omega, hj1⟩, hjq, fun b hb => by
      have nq : b ≠ q := fun z => hb (by rw [z]; exact hjq)
      have n1 : b ≠ q1 := fun z => hb (by rw [z]; exact hj1)
      rw [va_up_ne _ _ nq, va_up_ne _ _ n1, hf, va_up_ne _ _ nq]⟩
set_option maxRecDepth 100000 in
set_option maxHeartbeats 4000000 in
/-- StringBuilder() -/
theorem c_sbInit4 (l : Launch) {D : va_G} {cI cJ cZ cP cS cM : ClassId} {L : List Nat} {sz : Nat} {f : Nat → va_E} {f0 : Nat → va_E} (q : Nat) (hf : f = va_up f0 q (.inr (13, [.null, .int (zI 0), .int (zI 0), .int (zI 0)]))) (hjq : f0 q = zJ) : zXv l yJ4_init_da8c8 wsJ4_init_da8c8 2 75 1 16 D (zT cI cJ cZ cP cS cM) L sz f [.ref q] (fun g => zSB cJ f0 g q 0 (fun _ => 0)) := by
  have hq : f q = .inr (13, [.null, .int (zI 0), .int (zI 0), .int (zI 0)]) := by rw [hf]; exact va_up_self _ _ _
  refine zyWalk.met (nL := 1) (ret := none) (cc := cJ4_init_da8c8) (by decide) rfl (Nat.le_of_ble_eq_true rfl) ?_
  intro pg en st mi ag bl mt cd ls CX hin hW hl
  have CX : zC pg st mi ag mt cd cJ4_init_da8c8 1 none RJ4 wsJ4_init_da8c8 := CX
  generalize hQ : MQ bl _ ag st 1 16 _ = Q
  have hX0 := CX.1
  have hB0 := CX.2.1
  have hl : lv_has ls 1 [(0, .ref q)] := hl
  obtain ⟨H, eH⟩ : ∃ H, H = st.heap := ⟨_, rfl⟩
  obtain ⟨locs, eL⟩ : ∃ L : List Loc, L = [] := ⟨_, rfl⟩
  have hW : zW D (zT cI cJ cZ cP cS cM) L (zQ L sz) st f st.heap H locs := by rw [eH, eL]; exact hW
  suffices hgo : W pg l en ({ frames := 2, cells := 1, slots := 16, locals := 75 } : Room) st mi ag bl mt cd H locs 0 0 Q (F0 mi 0 ls []) by rw [eH, eL] at hgo; exact hgo
  clear eH eL
  refine lv_aload_n hX0 hB0 dJ4_init_da8c8_0 rfl (lv_at hl 0 rfl) ?_
  refine lv_bipush (v := zI 16) hX0 hB0 dJ4_init_da8c8_1 (by decide) ?_
  refine zy_callv hW (va_runI (As := [.int (zI 16)]) (rest := []) CX.fix (c_sbInit5 l (f := f) q hf hjq) (cwI 1 CX.fix.2.2.2.2 ggJ4_init_da8c8_J5_init_d00df rfl rfl rfl (CX.at (List.mem_of_getElem? (i := 3) rfl)) (CX.at (List.mem_of_getElem? (i := 1) rfl)) (CX.at (List.mem_of_getElem? (i := 2) rfl)) rfl (by decide +kernel) ⟨Nat.le_of_ble_eq_true rfl, Nat.le_of_ble_eq_true rfl⟩) (z_preS CX hW (As := [.ref q, .int (zI 16)])) rfl rfl hl.1 rfl (lv_room (Nat.le_of_ble_eq_true rfl)) dJ4_init_da8c8_3 ⟨by show _ ≤ 1; omega, by show _ ≤ 16; omega⟩) (fun Lx gn H locs hok3 hW => ?_)
  obtain ⟨g3_2, eg3⟩ : ∃ q, q = gn := ⟨_, rfl⟩
  rw [← eg3] at hW hok3
  clear eg3
  have hs1 := hok3
  refine W.widen (k := 1) (n := 16) (by omega) (by omega) ?_
  rw [← hQ]
  refine W.widen (k := 1) (n := 16) (by omega) (by omega) ?_
  refine zy_vret CX hW ?_ dJ4_init_da8c8_6
  exact hs1
set_option maxRecDepth 100000 in
set_option maxHeartbeats 4000000 in
/-- AbstractStringBuilder(String) -/
theorem c_sbInitS5 (l : Launch) {D : va_G} {cI cJ cZ cP cS cM : ClassId} {L : List Nat} {sz : Nat} {f : Nat → va_E} {f0 : Nat → va_E} (q h w : Nat) (s : Nat → Int) (hf : f = va_up f0 q (.inr (13, [.null, .int (zI 0), .int (zI 0), .int (zI 0)]))) (hjq : f0 q = zJ) (hx : zTx D cJ f h w s) (hw : w ≤ 300) : zXv l yJ5_init_a7421 wsJ5_init_a7421 7 188 2 1100 D (zT cI cJ cZ cP cS cM) L sz f [.ref q, .ref h] (fun g => zSB cJ f0 g q w s) := by
  have hq : f q = .inr (13, [.null, .int (zI 0), .int (zI 0), .int (zI 0)]) := by rw [hf]; exact va_up_self _ _ _
  refine zyWalk.met (nL := 5) (ret := none) (cc := cJ5_init_a7421) (by decide) rfl (Nat.le_of_ble_eq_true rfl) ?_
  intro pg en st mi ag bl mt cd ls CX hin hW hl
  have CX : zC pg st mi ag mt cd cJ5_init_a7421 5 none RJ5 wsJ5_init_a7421 := CX
  generalize hQ : MQ bl _ ag st 2 1100 _ = Q
  have hX0 := CX.1
  have hB0 := CX.2.1
  have hl : lv_has ls 5 [(0, .ref q), (1, .ref h)] := hl
  obtain ⟨H, eH⟩ : ∃ H, H = st.heap := ⟨_, rfl⟩
  obtain ⟨locs, eL⟩ : ∃ L : List Loc, L = [] := ⟨_, rfl⟩
  have hW : zW D (zT cI cJ cZ cP cS cM) L (zQ L sz) st f st.heap H locs := by rw [eH, eL]; exact hW
  suffices hgo : W pg l en ({ frames := 7, cells := 2, slots := 1100, locals := 188 } : Room) st mi ag bl mt cd H locs 0 0 Q (F0 mi 0 ls []) by rw [eH, eL] at hgo; exact hgo
  clear eH eL
  refine lv_aload_n hX0 hB0 dJ5_init_a7421_0 rfl (lv_at hl 0 rfl) ?_
  refine W.objInit hX0 hB0 CX.2.2.2.1 (CX.at (List.mem_of_getElem? (i := 1) rfl)) (CX.at (List.mem_of_getElem? (i := 2) rfl)) (CX.at (List.mem_of_getElem? (i := 3) rfl)) rfl (by rw [CX.2.2.1]; exact hl.1) rfl dJ5_init_a7421_1 (Nat.le_of_ble_eq_true rfl) (Nat.le_of_ble_eq_true rfl) ?_
  refine W.eq (g2 := F0 mi 4 ls []) rfl ?_
  refine lv_aload_n hX0 hB0 dJ5_init_a7421_4 rfl (lv_at hl 1 rfl) ?_
  refine z_calli hW (va_runV (C := RJ0) (As := []) (rest := []) CX.fix (c_lengthX l (f := f) hx) (cwV 0 CX.fix.2.2.2.2 gJ5_init_a7421_J0_length_8abf5 rfl rfl rfl (by decide +kernel) ⟨Nat.le_of_ble_eq_true rfl, Nat.le_of_ble_eq_true rfl⟩) (z_preX CX hW hx) rfl rfl hl.1 rfl (lv_room (Nat.le_of_ble_eq_true rfl)) dJ5_init_a7421_5 ⟨by show _ ≤ 2; omega, by show _ ≤ 1100; omega⟩) (fun zv gn H locs hok5 hW => ?_)
  obtain ⟨ez, eg⟩ := hok5
  have eg : gn = f := eg
  rw [eg] at hW
  clear eg
  have ez : zv = (w : Int) := ez
  rw [ez]
  clear ez
  refine lv_istore_n (lv' := [(2, .int (zI ((w : Int)))), (0, .ref q), (1, .ref h)]) hX0 hB0 dJ5_init_a7421_8 rfl hl (by decide) rfl (fun ls hl => ?_)
  refine lv_iload_n hX0 hB0 dJ5_init_a7421_9 rfl (lv_at hl 0 rfl) ?_
  refine lv_ldc (v := zI 2147483631) hX0 hB0 CX.2.2.2.1 (CX.at (List.mem_of_getElem? (i := 4) rfl)) dJ5_init_a7421_10 ?_
  refine z_icmp_ge (tgt := 22) CX dJ5_init_a7421_12 (by decide) (by constructor <;> omega) (by constructor <;> omega) (fun c_12 => ?_) (fun c_12 => ?_)
  ·
    omega
  ·
    refine lv_iload_n hX0 hB0 dJ5_init_a7421_15 rfl (lv_at hl 0 rfl) ?_
    refine lv_bipush (v := zI 16) hX0 hB0 dJ5_init_a7421_16 (by decide) ?_
    refine z_iadd (z := ((w : Int)) + 16) CX dJ5_init_a7421_18 rfl ?_
    refine lv_goto (tgt := 24) hX0 hB0 dJ5_init_a7421_19 (by decide) ?_
    refine lv_istore_n (lv' := [(3, .int (zI (((w : Int)) + 16))), (2, .int (zI ((w : Int)))), (0, .ref q), (1, .ref h)]) hX0 hB0 dJ5_init_a7421_24 rfl hl (by decide) rfl (fun ls hl => ?_)
    refine lv_aload_n hX0 hB0 dJ5_init_a7421_25 rfl (lv_at hl 3 rfl) ?_
    refine z_calli hW (va_runV (C := RJ0) (As := []) (rest := []) CX.fix (c_coderX l (f := f) hx) (cwV 0 CX.fix.2.2.2.2 gJ5_init_a7421_J0_coder_7d493 rfl rfl rfl (by decide +kernel) ⟨Nat.le_of_ble_eq_true rfl, Nat.le_of_ble_eq_true rfl⟩) (z_preX CX hW hx) rfl rfl hl.1 rfl (lv_room (Nat.le_of_ble_eq_true rfl)) dJ5_init_a7421_26 ⟨by show _ ≤ 2; omega, by show _ ≤ 1100; omega⟩) (fun zv gn H locs hok26 hW => ?_)
    obtain ⟨ez, eg⟩ := hok26
    have eg : gn = f := eg
    rw [eg] at hW
    clear eg
    have ez : zv = 0 := ez
    rw [ez]
    clear ez
    refine lv_istore (lv' := [(4, .int (zI 0)), (3, .int (zI (((w : Int)) + 16))), (2, .int (zI ((w : Int)))), (0, .ref q), (1, .ref h)]) hX0 hB0 dJ5_init_a7421_29 hl (by decide) rfl (fun ls hl => ?_)
    refine lv_aload_n hX0 hB0 dJ5_init_a7421_31 rfl (lv_at hl 3 rfl) ?_
    refine lv_iload hX0 hB0 dJ5_init_a7421_32 (lv_at hl 0 rfl) ?_
    refine z_put (Cn := RJ4) (T := TJ4) (N := 4) CX hW (v := .int (zI 0)) hq rfl (fun w h => List.mem_cons_of_mem _ (List.mem_append_left _ (List.mem_append_right _ h))) tyJ4 tyJ4_ok nmJ4 1 (by decide) (List.mem_of_getElem? (i := 6) rfl) rfl rfl rfl rfl (Nat.le_of_ble_eq_true rfl) (g := va_up f q (.inr (13, [.null, .int (zI 0), .int (zI 0), .int (zI 0)]))) rfl dJ5_init_a7421_34 (fun H locs hW => ?_)
    refine lv_aload_n hX0 hB0 dJ5_init_a7421_37 rfl (lv_at hl 3 rfl) ?_
    refine lv_iload hX0 hB0 dJ5_init_a7421_38 (lv_at hl 0 rfl) ?_
    refine z_if_ne (tgt := 49) CX dJ5_init_a7421_40 (by decide) (by constructor <;> omega) (fun c_40 => ?_) (fun c_40 => ?_)
    ·
      omega
    ·
      refine lv_iload_n hX0 hB0 dJ5_init_a7421_43 rfl (lv_at hl 1 rfl) ?_
      refine zy_newa (atype := .byte) (ty := .byte) (cy := cJ) (N' := (w + 16)) (a0 := ((w + 16), .inl (fun k => zI (zone 0 k)))) CX hW rfl (List.mem_of_getElem? (i := 7) rfl) 1 rfl zn_haB (by omega) (by omega) (by show _ * 1 ≤ _; omega) (by omega) (by show _ ≤ 2; omega) (by show _ ≤ 1100; omega) dJ5_init_a7421_44 (fun q1 Lx H hfq1 hW => ?_)
      have hne2 : q ≠ q1 := zfr_ne (zkO (va_up_self _ _ _) (ci := 13) rfl) hfq1
      have hzq1 : f q1 = zJ := by have y := hfq1; rw [va_up_ne _ _ (Ne.symm hne2)] at y; exact y
      refine W.widen (k := 1) (n := 400) (by omega) (by omega) ?_
      refine lv_goto (tgt := 53) hX0 hB0 dJ5_init_a7421_46 (by decide) ?_
      refine z_put (Cn := RJ4) (T := TJ4) (N := 4) CX hW (v := .ref q1) ((va_up_ne _ _ hne2).trans (va_up_self _ _ _)) rfl (fun w h => List.mem_cons_of_mem _ (List.mem_append_left _ (List.mem_append_right _ h))) tyJ4 tyJ4_ok nmJ4 0 (by decide) (List.mem_of_getElem? (i := 8) rfl) rfl rfl rfl rfl (Nat.le_of_ble_eq_true rfl) (g := va_up (va_up f q (.inr (13, [.ref q1, .int (zI 0), .int (zI 0), .int (zI 0)]))) q1 (zA cJ ((w + 16)) (zone 0))) (by rw [va_up_comm (a := q1) (b := q) (Ne.symm hne2), va_up_up]; try rfl) dJ5_init_a7421_53 (fun H locs hW => ?_)
      have hj1 : f0 q1 = zJ := by
        have z := hzq1
        rw [hf, va_up_ne _ _ (Ne.symm hne2)] at z
        exact z
      have hs0 : zSB cJ f0 (va_up (va_up f q (.inr (13, [.ref q1, .int (zI 0), .int (zI 0), .int (zI 0)]))) q1 (zA cJ ((w + 16)) (zone 0))) q 0 (fun _ => 0) := ⟨⟨q1, w + 16, zone 0, 0, ((va_up_ne _ _ hne2).trans (va_up_self _ _ _)), (va_up_self _ _ _), zbt_0, fun k hk => absurd hk (Nat.not_lt_zero _), Nat.zero_le _, by omega, hj1⟩, hjq, fun b hb => by
        have nq : b ≠ q := fun z => hb (by rw [z]; exact hjq)
        have n1 : b ≠ q1 := fun z => hb (by rw [z]; exact hj1)
        rw [va_up_ne _ _ n1, va_up_ne _ _ nq, hf, va_up_ne _ _ nq]⟩
      have hx0 : zTx D cJ (va_up (va_up f q (.inr (13, [.ref q1, .int (zI 0), .int (zI 0), .int (zI 0)]))) q1 (zA cJ ((w + 16)) (zone 0))) h w s := hx.kq hq (fun b hb nq => by
        have n1 : b ≠ q1 := fun z => hb (by rw [z]; exact hzq1)
        rw [va_up_ne _ _ n1, va_up_ne _ _ nq])
      obtain ⟨g56, eg56⟩ : ∃ G, G = va_up (va_up f q (.inr (13, [.ref q1, .int (zI 0), .int (zI 0), .int (zI 0)]))) q1 (zA cJ ((w + 16)) (zone 0)) := ⟨_, rfl⟩
      rw [← eg56] at hW hs0 hx0
      clear eg56
      refine lv_aload_n hX0 hB0 dJ5_init_a7421_56 rfl (lv_at hl 3 rfl) ?_
      refine lv_aload_n hX0 hB0 dJ5_init_a7421_57 rfl (lv_at hl 4 rfl) ?_
      refine zy_callr hW (va_runU (C := RJ4) (As := [.ref h]) (rest := []) CX.fix (c_appB l (f := g56) q 0 h w ((fun _ => 0)) s hs0 hx0 (by omega)) (va_cwO 1 CX.fix.2.2.2.2 gJ5_init_a7421_J4_append_cf1ce_u43J4 rfl rfl rfl (List.mem_of_getElem? (i := 45) rfl) (by decide +kernel) ⟨Nat.le_of_ble_eq_true rfl, Nat.le_of_ble_eq_true rfl⟩) (z_preSB CX hW hs0) rfl rfl hl.1 rfl (lv_room (Nat.le_of_ble_eq_true rfl)) dJ5_init_a7421_58 ⟨by show _ ≤ 2; omega, by show _ ≤ 1100; omega⟩) (fun zv Lx gn H locs hok58 hW => ?_)
      obtain ⟨g58_4, eg58⟩ : ∃ q, q = gn := ⟨_, rfl⟩
      rw [← eg58] at hW hok58
      clear eg58
      obtain ⟨hr3, hs3⟩ := hok58
      have ez : zv = some q := hr3
      rw [ez]
      clear ez
      refine W.widen (k := 2) (n := 1100) (by omega) (by omega) ?_
      refine lv_pop hX0 hB0 dJ5_init_a7421_61 rfl ?_
      rw [← hQ]
      refine W.widen (k := 2) (n := 1100) (by omega) (by omega) ?_
      refine zy_vret CX hW ?_ dJ5_init_a7421_62
      exact (hs3).congr (by omega) (fun k hk => by
        show (if k < 0 then _ else s (k - 0)) = s k
        rw [if_neg (Nat.not_lt_zero k), Nat.sub_zero])
set_option maxRecDepth 100000 in
set_option maxHeartbeats 4000000 in
/-- StringBuilder(String) -/
theorem c_sbInitS4 (l : Launch) {D : va_G} {cI cJ cZ cP cS cM : ClassId} {L : List Nat} {sz : Nat} {f : Nat → va_E} {f0 : Nat → va_E} (q h w : Nat) (s : Nat → Int) (hf : f = va_up f0 q (.inr (13, [.null, .int (zI 0), .int (zI 0), .int (zI 0)]))) (hjq : f0 q = zJ) (hx : zTx D cJ f h w s) (hw : w ≤ 300) : zXv l yJ4_init_a7421 wsJ4_init_a7421 8 212 2 1100 D (zT cI cJ cZ cP cS cM) L sz f [.ref q, .ref h] (fun g => zSB cJ f0 g q w s) := by
  have hq : f q = .inr (13, [.null, .int (zI 0), .int (zI 0), .int (zI 0)]) := by rw [hf]; exact va_up_self _ _ _
  refine zyWalk.met (nL := 2) (ret := none) (cc := cJ4_init_a7421) (by decide) rfl (Nat.le_of_ble_eq_true rfl) ?_
  intro pg en st mi ag bl mt cd ls CX hin hW hl
  have CX : zC pg st mi ag mt cd cJ4_init_a7421 2 none RJ4 wsJ4_init_a7421 := CX
  generalize hQ : MQ bl _ ag st 2 1100 _ = Q
  have hX0 := CX.1
  have hB0 := CX.2.1
  have hl : lv_has ls 2 [(0, .ref q), (1, .ref h)] := hl
  obtain ⟨H, eH⟩ : ∃ H, H = st.heap := ⟨_, rfl⟩
  obtain ⟨locs, eL⟩ : ∃ L : List Loc, L = [] := ⟨_, rfl⟩
  have hW : zW D (zT cI cJ cZ cP cS cM) L (zQ L sz) st f st.heap H locs := by rw [eH, eL]; exact hW
  suffices hgo : W pg l en ({ frames := 8, cells := 2, slots := 1100, locals := 212 } : Room) st mi ag bl mt cd H locs 0 0 Q (F0 mi 0 ls []) by rw [eH, eL] at hgo; exact hgo
  clear eH eL
  refine lv_aload_n hX0 hB0 dJ4_init_a7421_0 rfl (lv_at hl 0 rfl) ?_
  refine lv_aload_n hX0 hB0 dJ4_init_a7421_1 rfl (lv_at hl 1 rfl) ?_
  refine zy_callv hW (va_runI (As := [.ref h]) (rest := []) CX.fix (c_sbInitS5 l (f := f) q h w s hf hjq hx hw) (cwI 1 CX.fix.2.2.2.2 ggJ4_init_a7421_J5_init_a7421 rfl rfl rfl (CX.at (List.mem_of_getElem? (i := 3) rfl)) (CX.at (List.mem_of_getElem? (i := 1) rfl)) (CX.at (List.mem_of_getElem? (i := 2) rfl)) rfl (by decide +kernel) ⟨Nat.le_of_ble_eq_true rfl, Nat.le_of_ble_eq_true rfl⟩) (z_preS CX hW (As := [.ref q, .ref h])) rfl rfl hl.1 rfl (lv_room (Nat.le_of_ble_eq_true rfl)) dJ4_init_a7421_2 ⟨by show _ ≤ 2; omega, by show _ ≤ 1100; omega⟩) (fun Lx gn H locs hok2 hW => ?_)
  obtain ⟨g2_2, eg2⟩ : ∃ q, q = gn := ⟨_, rfl⟩
  rw [← eg2] at hW hok2
  clear eg2
  have hs1 := hok2
  refine W.widen (k := 2) (n := 1100) (by omega) (by omega) ?_
  rw [← hQ]
  refine W.widen (k := 2) (n := 1100) (by omega) (by omega) ?_
  refine zy_vret CX hW ?_ dJ4_init_a7421_5
  exact hs1
set_option maxRecDepth 100000 in
set_option maxHeartbeats 4000000 in
/-- Arrays.checkLength -/
theorem c_checkLength (l : Launch) {D : va_G} {cI cJ cZ cP cS cM : ClassId} {L : List Nat} {sz : Nat} {f : Nat → va_E} (x y : Int) (hx : 0 ≤ x ∧ x ≤ y) (hy : y ≤ 2000) : zMv l yJ7_checkLength_df160 wsJ7_checkLength_df160 0 0 D (zT cI cJ cZ cP cS cM) L sz f [.int (zI x), .int (zI y)] (fun g => g = f) := by
  refine zWalk.met (nL := 2) (ret := none) (cc := cJ7_checkLength_df160) (by decide) rfl (Nat.le_of_ble_eq_true rfl) ?_
  intro pg en st mi ag bl mt cd ls CX hW hl
  have CX : zC pg st mi ag mt cd cJ7_checkLength_df160 2 none RJ7 wsJ7_checkLength_df160 := CX
  generalize hQ : MQ bl _ ag st 0 0 _ = Q
  have hX0 := CX.1
  have hB0 := CX.2.1
  have hl : lv_has ls 2 [(0, .int (zI x)), (1, .int (zI y))] := hl
  obtain ⟨H, eH⟩ : ∃ H, H = st.heap := ⟨_, rfl⟩
  obtain ⟨locs, eL⟩ : ∃ L : List Loc, L = [] := ⟨_, rfl⟩
  have hW : zW D (zT cI cJ cZ cP cS cM) L (zQ L sz) st f st.heap H locs := by rw [eH, eL]; exact hW
  suffices hgo : W pg l en ({ frames := 0, cells := 0, slots := 0, locals := 0 } : Room) st mi ag bl mt cd H locs 0 0 Q (F0 mi 0 ls []) by rw [eH, eL] at hgo; exact hgo
  clear eH eL
  refine lv_iload_n hX0 hB0 dJ7_checkLength_df160_0 rfl (lv_at hl 1 rfl) ?_
  refine lv_iload_n hX0 hB0 dJ7_checkLength_df160_1 rfl (lv_at hl 0 rfl) ?_
  refine z_icmp_ge (tgt := 37) CX dJ7_checkLength_df160_2 (by decide) (by constructor <;> omega) (by constructor <;> omega) (fun c_2 => ?_) (fun c_2 => ?_)
  ·
    rw [← hQ]
    refine z_vret CX hW ?_ dJ7_checkLength_df160_37
    rfl
  ·
    omega
set_option maxRecDepth 100000 in
set_option maxHeartbeats 4000000 in
/-- Arrays.copyOfRangeByte, from the first on -/
theorem c_copyRangeB (l : Launch) {D : va_G} {cI cJ cZ cP cS cM : ClassId} {L : List Nat} {sz : Nat} {f : Nat → va_E} (a cap n : Nat) (d : Nat → Int) (ha : f a = zA cJ cap d) (hd : zbt d) (hn : n ≤ cap) (hc : cap ≤ 700) : zXr l yJ7_copyOfRangeByte_39247 wsJ7_copyOfRangeByte_39247 1 54 1 700 D (zT cI cJ cZ cP cS cM) L sz f [.ref a, .int (zI 0), .int (zI ((n : Int)))] (fun r g => ∃ q1, r = some q1 ∧ f q1 = zJ ∧ ∃ d1, g = va_up f q1 (zA cJ n d1) ∧ zbt d1 ∧ ∀ k, k < n → d1 k = d k) := by
  refine zyWalk.met (nL := 5) (ret := (some (.array .byte))) (cc := cJ7_copyOfRangeByte_39247) (by decide) rfl (Nat.le_of_ble_eq_true rfl) ?_
  intro pg en st mi ag bl mt cd ls CX hin hW hl
  have CX : zC pg st mi ag mt cd cJ7_copyOfRangeByte_39247 5 (some (.array .byte)) RJ7 wsJ7_copyOfRangeByte_39247 := CX
  generalize hQ : MQ bl _ ag st 1 700 _ = Q
  have hX0 := CX.1
  have hB0 := CX.2.1
  have hl : lv_has ls 5 [(0, .ref a), (1, .int (zI 0)), (2, .int (zI ((n : Int))))] := hl
  obtain ⟨H, eH⟩ : ∃ H, H = st.heap := ⟨_, rfl⟩
  obtain ⟨locs, eL⟩ : ∃ L : List Loc, L = [] := ⟨_, rfl⟩
  have hW : zW D (zT cI cJ cZ cP cS cM) L (zQ L sz) st f st.heap H locs := by rw [eH, eL]; exact hW
  suffices hgo : W pg l en ({ frames := 1, cells := 1, slots := 700, locals := 54 } : Room) st mi ag bl mt cd H locs 0 0 Q (F0 mi 0 ls []) by rw [eH, eL] at hgo; exact hgo
  clear eH eL
  refine lv_iload_n hX0 hB0 dJ7_copyOfRangeByte_39247_0 rfl (lv_at hl 1 rfl) ?_
  refine lv_iload_n hX0 hB0 dJ7_copyOfRangeByte_39247_1 rfl (lv_at hl 2 rfl) ?_
  refine z_callv hW (va_runS (As := [.int (zI 0), .int (zI ((n : Int)))]) (rest := []) CX.fix (c_checkLength l (f := f) 0 ((n : Int)) (by omega) (by omega)) (va_cwS 2 CX.fix.2.2.2.2 gJ7_copyOfRangeByte_39247_J7_checkLength_df160 rfl rfl rfl (by decide +kernel) ⟨Nat.le_of_ble_eq_true rfl, Nat.le_of_ble_eq_true rfl⟩) (z_preS CX hW) rfl rfl hl.1 rfl (lv_room (Nat.le_of_ble_eq_true rfl)) dJ7_copyOfRangeByte_39247_2 ⟨by show _ ≤ 1; omega, by show _ ≤ 700; omega⟩) (fun gn H locs hok2 hW => ?_)
  have eg : gn = f := hok2
  rw [eg] at hW
  clear eg
  refine lv_iload_n hX0 hB0 dJ7_copyOfRangeByte_39247_5 rfl (lv_at hl 2 rfl) ?_
  refine lv_iload_n hX0 hB0 dJ7_copyOfRangeByte_39247_6 rfl (lv_at hl 1 rfl) ?_
  refine z_isub (z := ((n : Int)) - 0) CX dJ7_copyOfRangeByte_39247_7 rfl ?_
  refine lv_istore_n (lv' := [(3, .int (zI (((n : Int)) - 0))), (0, .ref a), (1, .int (zI 0)), (2, .int (zI ((n : Int))))]) hX0 hB0 dJ7_copyOfRangeByte_39247_8 rfl hl (by decide) rfl (fun ls hl => ?_)
  refine lv_iload_n hX0 hB0 dJ7_copyOfRangeByte_39247_9 rfl (lv_at hl 0 rfl) ?_
  refine zy_newa (atype := .byte) (ty := .byte) (cy := cJ) (N' := n) (a0 := (n, .inl (fun k => zI (zone 0 k)))) CX hW rfl (List.mem_of_getElem? (i := 1) rfl) 1 rfl zn_haB (by omega) (by omega) (by show _ * 1 ≤ _; omega) (by omega) (by show _ ≤ 1; omega) (by show _ ≤ 700; omega) dJ7_copyOfRangeByte_39247_10 (fun q1 Lx H hfq1 hW => ?_)
  have hne2 : a ≠ q1 := zfr_ne (zkA ha) hfq1
  have hzq1 := hfq1
  refine W.widen (k := 1) (n := 700) (by omega) (by omega) ?_
  refine lv_astore (lv' := [(4, .ref q1), (3, .int (zI (((n : Int)) - 0))), (0, .ref a), (1, .int (zI 0)), (2, .int (zI ((n : Int))))]) hX0 hB0 dJ7_copyOfRangeByte_39247_12 hl (by decide) rfl (fun ls hl => ?_)
  refine lv_aload_n hX0 hB0 dJ7_copyOfRangeByte_39247_14 rfl (lv_at hl 2 rfl) ?_
  refine lv_iload_n hX0 hB0 dJ7_copyOfRangeByte_39247_15 rfl (lv_at hl 3 rfl) ?_
  refine lv_aload hX0 hB0 dJ7_copyOfRangeByte_39247_16 (lv_at hl 0 rfl) ?_
  refine lv_iconst (v := zI 0) hX0 hB0 dJ7_copyOfRangeByte_39247_18 rfl ?_
  refine lv_aload_n hX0 hB0 dJ7_copyOfRangeByte_39247_19 rfl (lv_at hl 2 rfl) ?_
  refine z_alen (n := ((cap : Nat) : Int)) CX hW ((va_up_ne _ _ hne2).trans ha) 1 rfl rfl dJ7_copyOfRangeByte_39247_20 ?_
  refine lv_iload_n hX0 hB0 dJ7_copyOfRangeByte_39247_21 rfl (lv_at hl 3 rfl) ?_
  refine z_isub (z := (((cap : Nat) : Int)) - 0) CX dJ7_copyOfRangeByte_39247_22 rfl ?_
  refine lv_iload_n hX0 hB0 dJ7_copyOfRangeByte_39247_23 rfl (lv_at hl 1 rfl) ?_
  refine z_mmin (z := min ((((cap : Nat) : Int)) - 0) (((n : Int)) - 0)) CX hW hl.1 (CX.at (List.mem_of_getElem? (i := 2) rfl)) (CX.at (List.mem_of_getElem? (i := 3) rfl)) (CX.at (List.mem_of_getElem? (i := 4) rfl)) (CX.at (List.mem_of_getElem? (i := 5) rfl)) (Nat.le_of_ble_eq_true rfl) (Nat.le_of_ble_eq_true rfl) (by show _ ≤ 1; omega) (by show _ ≤ 700; omega) (by constructor <;> omega) (by constructor <;> omega) rfl dJ7_copyOfRangeByte_39247_24 ?_
  refine z_copyb CX hW hl.1 (CX.at (List.mem_of_getElem? (i := 6) rfl)) (CX.at (List.mem_of_getElem? (i := 7) rfl)) (CX.at (List.mem_of_getElem? (i := 8) rfl)) (CX.at (List.mem_of_getElem? (i := 9) rfl)) ((va_up_ne _ _ hne2).trans ha) (va_up_self _ _ _) 1 rfl hd (by refine ⟨?_, ?_, ?_, ?_, ?_, ?_⟩ <;> omega) (g := va_up f q1 (zA cJ n (zcpy d (zone 0) ((0 : Int).toNat) ((0 : Int).toNat) ((min ((((cap : Nat) : Int)) - 0) (((n : Int)) - 0)).toNat)))) va_up_up (Nat.le_of_ble_eq_true rfl) (Nat.le_of_ble_eq_true rfl) dJ7_copyOfRangeByte_39247_27 (fun H locs hW => ?_)
  refine lv_aload hX0 hB0 dJ7_copyOfRangeByte_39247_30 (lv_at hl 0 rfl) ?_
  rw [← hQ]
  refine W.widen (k := 1) (n := 700) (by omega) (by omega) ?_
  refine zy_aret (r := some q1) (Or.inr ⟨_, rfl⟩) CX hW ?_ dJ7_copyOfRangeByte_39247_32
  exact ⟨_, rfl, hfq1, _, rfl, zbt_cpy hd zbt_0 _ _ _, fun k hk => (zcpy_in (by constructor <;> omega)).trans (congrArg d (by omega))⟩
set_option maxRecDepth 100000 in
set_option maxHeartbeats 4000000 in
/-- Arrays.copyOfRange, from the first on -/
theorem c_copyRange (l : Launch) {D : va_G} {cI cJ cZ cP cS cM : ClassId} {L : List Nat} {sz : Nat} {f : Nat → va_E} (a cap n : Nat) (d : Nat → Int) (ha : f a = zA cJ cap d) (hd : zbt d) (hn : n ≤ cap) (hc : cap ≤ 700) : zXr l yJ7_copyOfRange_39247 wsJ7_copyOfRange_39247 2 78 1 700 D (zT cI cJ cZ cP cS cM) L sz f [.ref a, .int (zI 0), .int (zI ((n : Int)))] (fun r g => ∃ q1, r = some q1 ∧ f q1 = zJ ∧ ∃ d1, g = va_up f q1 (zA cJ n d1) ∧ zbt d1 ∧ ∀ k, k < n → d1 k = d k) := by
  refine zyWalk.met (nL := 3) (ret := (some (.array .byte))) (cc := cJ7_copyOfRange_39247) (by decide) rfl (Nat.le_of_ble_eq_true rfl) ?_
  intro pg en st mi ag bl mt cd ls CX hin hW hl
  have CX : zC pg st mi ag mt cd cJ7_copyOfRange_39247 3 (some (.array .byte)) RJ7 wsJ7_copyOfRange_39247 := CX
  generalize hQ : MQ bl _ ag st 1 700 _ = Q
  have hX0 := CX.1
  have hB0 := CX.2.1
  have hl : lv_has ls 3 [(0, .ref a), (1, .int (zI 0)), (2, .int (zI ((n : Int))))] := hl
  obtain ⟨H, eH⟩ : ∃ H, H = st.heap := ⟨_, rfl⟩
  obtain ⟨locs, eL⟩ : ∃ L : List Loc, L = [] := ⟨_, rfl⟩
  have hW : zW D (zT cI cJ cZ cP cS cM) L (zQ L sz) st f st.heap H locs := by rw [eH, eL]; exact hW
  suffices hgo : W pg l en ({ frames := 2, cells := 1, slots := 700, locals := 78 } : Room) st mi ag bl mt cd H locs 0 0 Q (F0 mi 0 ls []) by rw [eH, eL] at hgo; exact hgo
  clear eH eL
  refine lv_iload_n hX0 hB0 dJ7_copyOfRange_39247_0 rfl (lv_at hl 1 rfl) ?_
  refine z_if_ne (tgt := 10) CX dJ7_copyOfRange_39247_1 (by decide) (by constructor <;> omega) (fun c_1 => ?_) (fun c_1 => ?_)
  ·
    omega
  ·
    refine lv_iload_n hX0 hB0 dJ7_copyOfRange_39247_4 rfl (lv_at hl 2 rfl) ?_
    refine lv_aload_n hX0 hB0 dJ7_copyOfRange_39247_5 rfl (lv_at hl 0 rfl) ?_
    refine z_alen (n := ((cap : Nat) : Int)) CX hW ha 1 rfl rfl dJ7_copyOfRange_39247_6 ?_
    refine z_icmp_eq (tgt := 17) CX dJ7_copyOfRange_39247_7 (by decide) (by constructor <;> omega) (by constructor <;> omega) (fun c_7 => ?_) (fun c_7 => ?_)
    ·
      refine lv_aload_n hX0 hB0 dJ7_copyOfRange_39247_17 rfl (lv_at hl 0 rfl) ?_
      refine zy_clone CX hW hl.1 (CX.at (List.mem_of_getElem? (i := 1) rfl)) (CX.at (List.mem_of_getElem? (i := 2) rfl)) (CX.at (List.mem_of_getElem? (i := 3) rfl)) (CX.at (List.mem_of_getElem? (i := 4) rfl)) (CX.at (List.mem_of_getElem? (i := 5) rfl)) ha 1 rfl hd (Nat.le_of_ble_eq_true rfl) (Nat.le_of_ble_eq_true rfl) (by show _ ≤ 1; omega) (by show _ ≤ 700; omega) dJ7_copyOfRange_39247_18 (fun q1 Lx H hfq1 hW => ?_)
      have hne2 : a ≠ q1 := zfr_ne (zkA ha) hfq1
      have hzq1 := hfq1
      refine W.widen (k := 1) (n := 700) (by omega) (by omega) ?_
      obtain ⟨kq21, hkq21⟩ := zpl_at (D := D) (f := va_up f q1 (zA cJ cap d)) (hW.mem (va_up_self _ _ _) zJi)
      rw [(va_up_self _ _ _)] at hkq21
      refine va_castA CX.1 CX.2.1 CX.2.2.2.1 (CX.at (List.mem_of_getElem? (i := 6) rfl)) hW.1 kq21 hkq21 (hW.2.2.2.1.2 1 _ rfl).2 dJ7_copyOfRange_39247_21 ?_
      rw [← hQ]
      refine W.widen (k := 1) (n := 700) (by omega) (by omega) ?_
      refine zy_aret (r := some q1) (Or.inr ⟨_, rfl⟩) CX hW ?_ dJ7_copyOfRange_39247_24
      have e9 : cap = n := by omega
      subst e9
      exact ⟨q1, rfl, hfq1, d, rfl, hd, fun _ _ => rfl⟩
    ·
      refine lv_aload_n hX0 hB0 dJ7_copyOfRange_39247_10 rfl (lv_at hl 0 rfl) ?_
      refine lv_iload_n hX0 hB0 dJ7_copyOfRange_39247_11 rfl (lv_at hl 1 rfl) ?_
      refine lv_iload_n hX0 hB0 dJ7_copyOfRange_39247_12 rfl (lv_at hl 2 rfl) ?_
      refine zy_callr hW (va_runS (As := [.ref a, .int (zI 0), .int (zI ((n : Int)))]) (rest := []) CX.fix (c_copyRangeB l (f := f) a cap n d ha hd hn hc) (va_cwS 3 CX.fix.2.2.2.2 gJ7_copyOfRange_39247_J7_copyOfRangeByte_39247 rfl rfl rfl (by decide +kernel) ⟨Nat.le_of_ble_eq_true rfl, Nat.le_of_ble_eq_true rfl⟩) (z_preS CX hW) rfl rfl hl.1 rfl (lv_room (Nat.le_of_ble_eq_true rfl)) dJ7_copyOfRange_39247_13 ⟨by show _ ≤ 1; omega, by show _ ≤ 700; omega⟩) (fun zv Lx gn H locs hok13 hW => ?_)
      obtain ⟨q3, ez, hfq3, d3, eg, hb3, hk3⟩ := hok13
      rw [eg] at hW
      rw [ez]
      clear ez
      have hne4 : a ≠ q3 := zfr_ne (zkA ha) hfq3
      have hzq3 := hfq3
      refine W.widen (k := 1) (n := 700) (by omega) (by omega) ?_
      rw [← hQ]
      refine W.widen (k := 1) (n := 700) (by omega) (by omega) ?_
      refine zy_aret (r := some q3) (Or.inr ⟨_, rfl⟩) CX hW ?_ dJ7_copyOfRange_39247_16
      exact ⟨q3, rfl, hfq3, d3, rfl, hb3, hk3⟩
set_option maxRecDepth 100000 in
set_option maxHeartbeats 4000000 in
/-- String(AbstractStringBuilder, Void) -/
theorem c_strInit5 (l : Launch) {D : va_G} {cI cJ cZ cP cS cM : ClassId} {L : List Nat} {sz : Nat} {f : Nat → va_E} {f0 : Nat → va_E} (h q n : Nat) (t : Nat → Int) (hs : zSB cJ f0 f q n t) (hh : f h = .inr (12, [.null, .int (zI 0), .int (zI 0), .int (zI 0)])) : zXv l yJ0_init_db425 wsJ0_init_db425 3 100 1 700 D (zT cI cJ cZ cP cS cM) L sz f [.ref h, .ref q, .null] (fun g => zTn cJ f g h n t ∧ ∀ b, f b ≠ zJ → b ≠ h → g b = f b) := by
  obtain ⟨⟨v, cap, d, ml, hq, hv, hd, hdt, hncap, hcap, hj⟩, hjq, hk0⟩ := hs
  refine zyWalk.met (nL := 5) (ret := none) (cc := cJ0_init_db425) (by decide) rfl (Nat.le_of_ble_eq_true rfl) ?_
  intro pg en st mi ag bl mt cd ls CX hin hW hl
  have CX : zC pg st mi ag mt cd cJ0_init_db425 5 none RJ0 wsJ0_init_db425 := CX
  generalize hQ : MQ bl _ ag st 1 700 _ = Q
  have hX0 := CX.1
  have hB0 := CX.2.1
  have hl : lv_has ls 5 [(0, .ref h), (1, .ref q), (2, .null)] := hl
  obtain ⟨H, eH⟩ : ∃ H, H = st.heap := ⟨_, rfl⟩
  obtain ⟨locs, eL⟩ : ∃ L : List Loc, L = [] := ⟨_, rfl⟩
  have hW : zW D (zT cI cJ cZ cP cS cM) L (zQ L sz) st f st.heap H locs := by rw [eH, eL]; exact hW
  suffices hgo : W pg l en ({ frames := 3, cells := 1, slots := 700, locals := 100 } : Room) st mi ag bl mt cd H locs 0 0 Q (F0 mi 0 ls []) by rw [eH, eL] at hgo; exact hgo
  clear eH eL
  refine lv_aload_n hX0 hB0 dJ0_init_db425_0 rfl (lv_at hl 0 rfl) ?_
  refine W.objInit hX0 hB0 CX.2.2.2.1 (CX.at (List.mem_of_getElem? (i := 1) rfl)) (CX.at (List.mem_of_getElem? (i := 2) rfl)) (CX.at (List.mem_of_getElem? (i := 3) rfl)) rfl (by rw [CX.2.2.1]; exact hl.1) rfl dJ0_init_db425_1 (Nat.le_of_ble_eq_true rfl) (Nat.le_of_ble_eq_true rfl) ?_
  refine W.eq (g2 := F0 mi 4 ls []) rfl ?_
  refine lv_aload_n hX0 hB0 dJ0_init_db425_4 rfl (lv_at hl 1 rfl) ?_
  refine z_callr hW (va_runU (C := RJ4) (As := []) (rest := []) CX.fix (c_sbValue l (f := f) q v cap n d ml hq) (va_cwU 0 CX.fix.2.2.2.2 gJ0_init_db425_J5_getValue_6d5f1_u552J4 rfl rfl rfl rfl (by decide +kernel) ⟨Nat.le_of_ble_eq_true rfl, Nat.le_of_ble_eq_true rfl⟩) (z_preV CX hW (r := (RJ4, TJ4, 4)) hq rfl) rfl rfl hl.1 rfl (lv_room (Nat.le_of_ble_eq_true rfl)) dJ0_init_db425_5 ⟨by show _ ≤ 1; omega, by show _ ≤ 700; omega⟩) (fun zv gn H locs hok5 hW => ?_)
  obtain ⟨ez, eg⟩ := hok5
  have eg : gn = f := eg
  rw [eg] at hW
  clear eg
  have ez : zv = some v := ez
  rw [ez]
  clear ez
  refine lv_astore_n (lv' := [(3, .ref v), (0, .ref h), (1, .ref q), (2, .null)]) hX0 hB0 dJ0_init_db425_8 rfl hl (by decide) rfl (fun ls hl => ?_)
  refine lv_aload_n hX0 hB0 dJ0_init_db425_9 rfl (lv_at hl 2 rfl) ?_
  refine z_calli hW (va_runU (C := RJ4) (As := []) (rest := []) CX.fix (c_sbLen4 l (f := f) q v cap n d ml hq) (va_cwO 0 CX.fix.2.2.2.2 gJ0_init_db425_J4_length_8abf5_u549J4 rfl rfl rfl (List.mem_of_getElem? (i := 25) rfl) (by decide +kernel) ⟨Nat.le_of_ble_eq_true rfl, Nat.le_of_ble_eq_true rfl⟩) (z_preV CX hW (r := (RJ4, TJ4, 4)) hq rfl) rfl rfl hl.1 rfl (lv_room (Nat.le_of_ble_eq_true rfl)) dJ0_init_db425_10 ⟨by show _ ≤ 1; omega, by show _ ≤ 700; omega⟩) (fun zv gn H locs hok10 hW => ?_)
  obtain ⟨ez, eg⟩ := hok10
  have eg : gn = f := eg
  rw [eg] at hW
  clear eg
  have ez : zv = (n : Int) := ez
  rw [ez]
  clear ez
  refine lv_istore (lv' := [(4, .int (zI ((n : Int)))), (3, .ref v), (0, .ref h), (1, .ref q), (2, .null)]) hX0 hB0 dJ0_init_db425_13 hl (by decide) rfl (fun ls hl => ?_)
  refine lv_aload_n hX0 hB0 dJ0_init_db425_15 rfl (lv_at hl 3 rfl) ?_
  refine z_calli hW (va_runU (C := RJ4) (As := []) (rest := []) CX.fix (c_sbLatin l (f := f) q v cap n d ml hq) (va_cwU 0 CX.fix.2.2.2.2 gJ0_init_db425_J5_isLatin1_aae02_u1047J4 rfl rfl rfl rfl (by decide +kernel) ⟨Nat.le_of_ble_eq_true rfl, Nat.le_of_ble_eq_true rfl⟩) (z_preV CX hW (r := (RJ4, TJ4, 4)) hq rfl) rfl rfl hl.1 rfl (lv_room (Nat.le_of_ble_eq_true rfl)) dJ0_init_db425_16 ⟨by show _ ≤ 1; omega, by show _ ≤ 700; omega⟩) (fun zv gn H locs hok16 hW => ?_)
  obtain ⟨ez, eg⟩ := hok16
  have eg : gn = f := eg
  rw [eg] at hW
  clear eg
  have ez : zv = 1 := ez
  rw [ez]
  clear ez
  refine z_if_eq (tgt := 41) CX dJ0_init_db425_19 (by decide) (by constructor <;> omega) (fun c_19 => ?_) (fun c_19 => ?_)
  ·
    omega
  ·
    refine lv_aload_n hX0 hB0 dJ0_init_db425_22 rfl (lv_at hl 2 rfl) ?_
    refine lv_iconst (v := zI 0) hX0 hB0 dJ0_init_db425_23 rfl ?_
    refine z_putF (Cn := RJ0) (T := TJ0) (N := 4) CX hW (v := .int (zI 0)) hh rfl (fun w h => List.mem_cons_of_mem _ (List.mem_append_left _ (List.mem_append_right _ h))) tyJ0 tyJ0_ok nmJ0 1 (by decide) (List.mem_of_getElem? (i := 4) rfl) rfl rfl hin rfl rfl rfl (Nat.le_of_ble_eq_true rfl) (g := va_up f h (.inr (12, [.null, .int (zI 0), .int (zI 0), .int (zI 0)]))) rfl dJ0_init_db425_24 (fun H locs hW => ?_)
    refine lv_aload_n hX0 hB0 dJ0_init_db425_27 rfl (lv_at hl 2 rfl) ?_
    refine lv_aload_n hX0 hB0 dJ0_init_db425_28 rfl (lv_at hl 1 rfl) ?_
    refine lv_iconst (v := zI 0) hX0 hB0 dJ0_init_db425_29 rfl ?_
    refine lv_iload hX0 hB0 dJ0_init_db425_30 (lv_at hl 0 rfl) ?_
    refine zy_callr hW (va_runS (As := [.ref v, .int (zI 0), .int (zI ((n : Int)))]) (rest := [.ref h]) CX.fix (c_copyRange l (f := va_up f h (.inr (12, [.null, .int (zI 0), .int (zI 0), .int (zI 0)]))) v cap n d ((va_up_ne _ _ (zne hv hh zio)).trans hv) hd hncap hcap) (va_cwS 3 CX.fix.2.2.2.2 gJ0_init_db425_J7_copyOfRange_39247 rfl rfl rfl (by decide +kernel) ⟨Nat.le_of_ble_eq_true rfl, Nat.le_of_ble_eq_true rfl⟩) (z_preS CX hW) rfl rfl hl.1 rfl (lv_room (Nat.le_of_ble_eq_true rfl)) dJ0_init_db425_32 ⟨by show _ ≤ 1; omega, by show _ ≤ 700; omega⟩) (fun zv Lx gn H locs hok32 hW => ?_)
    obtain ⟨q1, ez, hfq1, d1, eg, hb1, hk1⟩ := hok32
    rw [eg] at hW
    rw [ez]
    clear ez
    have hne2 : q ≠ q1 := zfr_ne (zkO ((va_up_ne _ _ (zne hq hh (zoo (by decide)))).trans hq) (ci := 13) rfl) hfq1
    have hne3 : v ≠ q1 := zfr_ne (zkA ((va_up_ne _ _ (zne hv hh zio)).trans hv)) hfq1
    have hne4 : h ≠ q1 := zfr_ne (zkO (va_up_self _ _ _) (ci := 12) rfl) hfq1
    have hzq1 : f q1 = zJ := by have y := hfq1; rw [va_up_ne _ _ (Ne.symm hne4)] at y; exact y
    refine W.widen (k := 1) (n := 700) (by omega) (by omega) ?_
    refine z_putF (Cn := RJ0) (T := TJ0) (N := 4) CX hW (v := .ref q1) ((va_up_ne _ _ hne4).trans (va_up_self _ _ _)) rfl (fun w h => List.mem_cons_of_mem _ (List.mem_append_left _ (List.mem_append_right _ h))) tyJ0 tyJ0_ok nmJ0 0 (by decide) (List.mem_of_getElem? (i := 5) rfl) rfl rfl hin rfl rfl rfl (Nat.le_of_ble_eq_true rfl) (g := va_up (va_up f h (.inr (12, [.ref q1, .int (zI 0), .int (zI 0), .int (zI 0)]))) q1 (zA cJ n d1)) (by rw [va_up_comm (a := q1) (b := h) (Ne.symm hne4), va_up_up]; try rfl) dJ0_init_db425_35 (fun H locs hW => ?_)
    refine lv_goto (tgt := 97) hX0 hB0 dJ0_init_db425_38 (by decide) ?_
    rw [← hQ]
    refine W.widen (k := 1) (n := 700) (by omega) (by omega) ?_
    refine zy_vret CX hW ?_ dJ0_init_db425_97
    refine ⟨⟨q1, d1, 0, 0, ⟨((va_up_ne _ _ hne4).trans (va_up_self _ _ _)), (va_up_self _ _ _), hb1, fun k hk => ?_⟩, hzq1⟩, fun b hb nh => by rw [va_up_ne _ _ (fun z => hb (by rw [z]; exact hzq1)), va_up_ne _ _ nh]⟩
    rw [hk1 k hk, hdt k hk]
set_option maxRecDepth 100000 in
set_option maxHeartbeats 4000000 in
/-- String(StringBuilder) -/
theorem c_strInit0 (l : Launch) {D : va_G} {cI cJ cZ cP cS cM : ClassId} {L : List Nat} {sz : Nat} {f : Nat → va_E} {f0 : Nat → va_E} (h q n : Nat) (t : Nat → Int) (hs : zSB cJ f0 f q n t) (hh : f h = .inr (12, [.null, .int (zI 0), .int (zI 0), .int (zI 0)])) : zXv l yJ0_init_81219 wsJ0_init_81219 4 124 1 700 D (zT cI cJ cZ cP cS cM) L sz f [.ref h, .ref q] (fun g => zTn cJ f g h n t ∧ ∀ b, f b ≠ zJ → b ≠ h → g b = f b) := by
  refine zyWalk.met (nL := 2) (ret := none) (cc := cJ0_init_81219) (by decide) rfl (Nat.le_of_ble_eq_true rfl) ?_
  intro pg en st mi ag bl mt cd ls CX hin hW hl
  have CX : zC pg st mi ag mt cd cJ0_init_81219 2 none RJ0 wsJ0_init_81219 := CX
  generalize hQ : MQ bl _ ag st 1 700 _ = Q
  have hX0 := CX.1
  have hB0 := CX.2.1
  have hl : lv_has ls 2 [(0, .ref h), (1, .ref q)] := hl
  obtain ⟨H, eH⟩ : ∃ H, H = st.heap := ⟨_, rfl⟩
  obtain ⟨locs, eL⟩ : ∃ L : List Loc, L = [] := ⟨_, rfl⟩
  have hW : zW D (zT cI cJ cZ cP cS cM) L (zQ L sz) st f st.heap H locs := by rw [eH, eL]; exact hW
  suffices hgo : W pg l en ({ frames := 4, cells := 1, slots := 700, locals := 124 } : Room) st mi ag bl mt cd H locs 0 0 Q (F0 mi 0 ls []) by rw [eH, eL] at hgo; exact hgo
  clear eH eL
  refine lv_aload_n hX0 hB0 dJ0_init_81219_0 rfl (lv_at hl 0 rfl) ?_
  refine lv_aload_n hX0 hB0 dJ0_init_81219_1 rfl (lv_at hl 1 rfl) ?_
  refine lv_null hX0 hB0 dJ0_init_81219_2 ?_
  refine zy_callv hW (va_runI (As := [.ref q, .null]) (rest := []) CX.fix (c_strInit5 l (f := f) h q n t hs hh) (cwI 2 CX.fix.2.2.2.2 ggJ0_init_81219_J0_init_db425 rfl rfl rfl (CX.at (List.mem_of_getElem? (i := 3) rfl)) (CX.at (List.mem_of_getElem? (i := 1) rfl)) (CX.at (List.mem_of_getElem? (i := 2) rfl)) rfl (by decide +kernel) ⟨Nat.le_of_ble_eq_true rfl, Nat.le_of_ble_eq_true rfl⟩) (z_preS CX hW (As := [.ref h, .ref q, .null])) rfl rfl hl.1 rfl (lv_room (Nat.le_of_ble_eq_true rfl)) dJ0_init_81219_3 ⟨by show _ ≤ 1; omega, by show _ ≤ 700; omega⟩) (fun Lx gn H locs hok3 hW => ?_)
  obtain ⟨g3_2, eg3⟩ : ∃ q, q = gn := ⟨_, rfl⟩
  rw [← eg3] at hW hok3
  clear eg3
  obtain ⟨hx1, hg1⟩ := hok3
  refine W.widen (k := 1) (n := 700) (by omega) (by omega) ?_
  have hkg := hg1
  have hxg := hx1
  rw [← hQ]
  refine W.widen (k := 1) (n := 700) (by omega) (by omega) ?_
  refine zy_vret CX hW ?_ dJ0_init_81219_6
  exact ⟨hxg, hkg⟩
theorem zSB.new {cJ : ClassId} {f0 f : Nat → va_E} {q n h : Nat} {t : Nat → Int} {x : va_E} (hs : zSB cJ f0 f q n t) (hh : f h = zJ) : zSB cJ f0 (va_up f h x) q n t := hs.kp (fun b hb => va_up_ne _ _ (fun e => hb (by rw [e]; exact hh)))
end ZJd
