section ZMi
def zm_sumOf (open_ : Int) : Int := 12 + (3 * open_)
set_option maxRecDepth 100000 in
set_option maxHeartbeats 4000000 in
theorem zk_sumOf (l : Launch) {D : va_G} {cI cJ cZ cP cS cM : ClassId} {L : List Nat} {sz : Nat} {f : Nat → va_E} (open_ : Int) (hopen_ : 0 ≤ open_ ∧ open_ ≤ 40) : zMi l yX12_sumOf wsX12_sumOf 0 0 D (zT cI cJ cZ cP cS cM) L sz f [.int (zI open_)] (fun zv gv => zv = zm_sumOf open_ ∧ gv = f ∧ zv = 12 + 3 * open_) := by
  refine zWalk.met (nL := 1) (ret := (some .int)) (cc := cX12_sumOf) (by decide) rfl (Nat.le_of_ble_eq_true rfl) ?_
  intro pg en st mi ag bl mt cd ls CX hW hl
  have CX : zC pg st mi ag mt cd cX12_sumOf 1 (some .int) RX12 wsX12_sumOf := CX
  generalize hQ : MQ bl _ ag st 0 0 _ = Q
  have hX0 := CX.1
  have hB0 := CX.2.1
  have hl : lv_has ls 1 [(0, .int (zI open_))] := hl
  obtain ⟨H, eH⟩ : ∃ H, H = st.heap := ⟨_, rfl⟩
  obtain ⟨locs, eL⟩ : ∃ L : List Loc, L = [] := ⟨_, rfl⟩
  have hW : zW D (zT cI cJ cZ cP cS cM) L (zQ L sz) st f st.heap H locs := by rw [eH, eL]; exact hW
  suffices hgo : W pg l en ({ frames := 0, cells := 0, slots := 0, locals := 0 } : Room) st mi ag bl mt cd H locs 0 0 Q (F0 mi 0 ls []) by rw [eH, eL] at hgo; exact hgo
  clear eH eL
  refine lv_bipush (v := zI 12) hX0 hB0 dX12_sumOf_0 (by decide) ?_
  refine lv_iconst (v := zI 3) hX0 hB0 dX12_sumOf_2 rfl ?_
  refine lv_iload_n hX0 hB0 dX12_sumOf_3 rfl (lv_at hl 0 rfl) ?_
  refine z_imul (z := 3 * open_) CX dX12_sumOf_4 rfl ?_
  refine z_iadd (z := 12 + (3 * open_)) CX dX12_sumOf_5 rfl ?_
  have hE : zm_sumOf open_ = 12 + (3 * open_) := by unfold zm_sumOf; exact rfl
  rw [← hQ]
  exact z_iret (z := 12 + (3 * open_)) CX hW (by rw [hE]; exact ⟨rfl, rfl, (show (12 + (3 * open_)) = 12 + 3 * open_ from by omega)⟩) rfl dX12_sumOf_6
def zm_productOf (open_ : Int) : Int := (12 + (3 * open_)) + 1
set_option maxRecDepth 100000 in
set_option maxHeartbeats 4000000 in
theorem zk_productOf (l : Launch) {D : va_G} {cI cJ cZ cP cS cM : ClassId} {L : List Nat} {sz : Nat} {f : Nat → va_E} (open_ : Int) (hopen_ : 0 ≤ open_ ∧ open_ ≤ 40) : zMi l yX12_productOf wsX12_productOf 0 0 D (zT cI cJ cZ cP cS cM) L sz f [.int (zI open_)] (fun zv gv => zv = zm_productOf open_ ∧ gv = f ∧ zv = 13 + 3 * open_) := by
  refine zWalk.met (nL := 1) (ret := (some .int)) (cc := cX12_productOf) (by decide) rfl (Nat.le_of_ble_eq_true rfl) ?_
  intro pg en st mi ag bl mt cd ls CX hW hl
  have CX : zC pg st mi ag mt cd cX12_productOf 1 (some .int) RX12 wsX12_productOf := CX
  generalize hQ : MQ bl _ ag st 0 0 _ = Q
  have hX0 := CX.1
  have hB0 := CX.2.1
  have hl : lv_has ls 1 [(0, .int (zI open_))] := hl
  obtain ⟨H, eH⟩ : ∃ H, H = st.heap := ⟨_, rfl⟩
  obtain ⟨locs, eL⟩ : ∃ L : List Loc, L = [] := ⟨_, rfl⟩
  have hW : zW D (zT cI cJ cZ cP cS cM) L (zQ L sz) st f st.heap H locs := by rw [eH, eL]; exact hW
  suffices hgo : W pg l en ({ frames := 0, cells := 0, slots := 0, locals := 0 } : Room) st mi ag bl mt cd H locs 0 0 Q (F0 mi 0 ls []) by rw [eH, eL] at hgo; exact hgo
  clear eH eL
  refine lv_bipush (v := zI 12) hX0 hB0 dX12_productOf_0 (by decide) ?_
  refine lv_iconst (v := zI 3) hX0 hB0 dX12_productOf_2 rfl ?_
  refine lv_iload_n hX0 hB0 dX12_productOf_3 rfl (lv_at hl 0 rfl) ?_
  refine z_imul (z := 3 * open_) CX dX12_productOf_4 rfl ?_
  refine z_iadd (z := 12 + (3 * open_)) CX dX12_productOf_5 rfl ?_
  refine lv_iconst (v := zI 1) hX0 hB0 dX12_productOf_6 rfl ?_
  refine z_iadd (z := (12 + (3 * open_)) + 1) CX dX12_productOf_7 rfl ?_
  have hE : zm_productOf open_ = (12 + (3 * open_)) + 1 := by unfold zm_productOf; exact rfl
  rw [← hQ]
  exact z_iret (z := (12 + (3 * open_)) + 1) CX hW (by rw [hE]; exact ⟨rfl, rfl, (show ((12 + (3 * open_)) + 1) = 13 + 3 * open_ from by omega)⟩) rfl dX12_productOf_8
def zm_atomOf (open_ : Int) : Int := (12 + (3 * open_)) + 2
set_option maxRecDepth 100000 in
set_option maxHeartbeats 4000000 in
theorem zk_atomOf (l : Launch) {D : va_G} {cI cJ cZ cP cS cM : ClassId} {L : List Nat} {sz : Nat} {f : Nat → va_E} (open_ : Int) (hopen_ : 0 ≤ open_ ∧ open_ ≤ 40) : zMi l yX12_atomOf wsX12_atomOf 0 0 D (zT cI cJ cZ cP cS cM) L sz f [.int (zI open_)] (fun zv gv => zv = zm_atomOf open_ ∧ gv = f ∧ zv = 14 + 3 * open_) := by
  refine zWalk.met (nL := 1) (ret := (some .int)) (cc := cX12_atomOf) (by decide) rfl (Nat.le_of_ble_eq_true rfl) ?_
  intro pg en st mi ag bl mt cd ls CX hW hl
  have CX : zC pg st mi ag mt cd cX12_atomOf 1 (some .int) RX12 wsX12_atomOf := CX
  generalize hQ : MQ bl _ ag st 0 0 _ = Q
  have hX0 := CX.1
  have hB0 := CX.2.1
  have hl : lv_has ls 1 [(0, .int (zI open_))] := hl
  obtain ⟨H, eH⟩ : ∃ H, H = st.heap := ⟨_, rfl⟩
  obtain ⟨locs, eL⟩ : ∃ L : List Loc, L = [] := ⟨_, rfl⟩
  have hW : zW D (zT cI cJ cZ cP cS cM) L (zQ L sz) st f st.heap H locs := by rw [eH, eL]; exact hW
  suffices hgo : W pg l en ({ frames := 0, cells := 0, slots := 0, locals := 0 } : Room) st mi ag bl mt cd H locs 0 0 Q (F0 mi 0 ls []) by rw [eH, eL] at hgo; exact hgo
  clear eH eL
  refine lv_bipush (v := zI 12) hX0 hB0 dX12_atomOf_0 (by decide) ?_
  refine lv_iconst (v := zI 3) hX0 hB0 dX12_atomOf_2 rfl ?_
  refine lv_iload_n hX0 hB0 dX12_atomOf_3 rfl (lv_at hl 0 rfl) ?_
  refine z_imul (z := 3 * open_) CX dX12_atomOf_4 rfl ?_
  refine z_iadd (z := 12 + (3 * open_)) CX dX12_atomOf_5 rfl ?_
  refine lv_iconst (v := zI 2) hX0 hB0 dX12_atomOf_6 rfl ?_
  refine z_iadd (z := (12 + (3 * open_)) + 2) CX dX12_atomOf_7 rfl ?_
  have hE : zm_atomOf open_ = (12 + (3 * open_)) + 2 := by unfold zm_atomOf; exact rfl
  rw [← hQ]
  exact z_iret (z := (12 + (3 * open_)) + 2) CX hW (by rw [hE]; exact ⟨rfl, rfl, (show ((12 + (3 * open_)) + 2) = 14 + 3 * open_ from by omega)⟩) rfl dX12_atomOf_8
def zm_beginsTerm (S : zS2)  : zS2 := zlet (zm_productOf (S 0 19)) (fun z5 => zlet (zm_empties S z5) (fun S8 => zlet (zm_productOf (S8 0 19)) (fun z16 => zlet (zm_sets S8 z16 0 0 1) (fun S22 => S22))))
set_option maxRecDepth 100000 in
set_option maxHeartbeats 4000000 in
theorem zk_beginsTerm (l : Launch) {D : va_G} {cI cJ cZ cP cS cM : ClassId} {L : List Nat} {sz : Nat} {f : Nat → va_E} (o : Nat) (S : zS2)  (hI : mI S)  : zMv l yX12_beginsTerm wsX12_beginsTerm 2 49 D (zT cI cJ cZ cP cS cM) L sz (zMO cI cJ o S f) [.ref o] (fun gv => gv = zMO cI cJ o (zm_beginsTerm S) f ∧ mI (zm_beginsTerm S) ∧ (∀ kk ii : Nat, ¬ (kk = 3 ∧ 300 ≤ (ii : Int)) → (zm_beginsTerm S) kk ii = S kk ii) ∧ True) := by
  refine zWalk.met (nL := 1) (ret := none) (cc := cX12_beginsTerm) (by decide) rfl (Nat.le_of_ble_eq_true rfl) ?_
  intro pg en st mi ag bl mt cd ls CX hW hl
  have CX : zC pg st mi ag mt cd cX12_beginsTerm 1 none RX12 wsX12_beginsTerm := CX
  generalize hQ : MQ bl _ ag st 0 0 _ = Q
  have hX0 := CX.1
  have hB0 := CX.2.1
  have hl : lv_has ls 1 [(0, .ref o)] := hl
  obtain ⟨H, eH⟩ : ∃ H, H = st.heap := ⟨_, rfl⟩
  obtain ⟨locs, eL⟩ : ∃ L : List Loc, L = [] := ⟨_, rfl⟩
  have hW : zW D (zT cI cJ cZ cP cS cM) L (zQ L sz) st (zMO cI cJ o S f) st.heap H locs := by rw [eH, eL]; exact hW
  suffices hgo : W pg l en ({ frames := 2, cells := 0, slots := 0, locals := 49 } : Room) st mi ag bl mt cd H locs 0 0 Q (F0 mi 0 ls []) by rw [eH, eL] at hgo; exact hgo
  clear eH eL
  have hpb := hI.s10
  have hbs := hI.s5
  have hba := hI.s6
  have hbb := hI.s7
  have hbo := hI.s19
  have hbt := hI.s15
  refine lv_aload_n hX0 hB0 dX12_beginsTerm_0 rfl (lv_at hl 0 rfl) ?_
  refine lv_aload_n hX0 hB0 dX12_beginsTerm_1 rfl (lv_at hl 0 rfl) ?_
  refine z_get (Cn := RX12) (T := TX12) (N := 37) CX hW (v := .int (zI (S 0 19))) zMO_0 rfl (fun w h => List.mem_cons_of_mem _ (List.mem_append_right _ h)) 19 (by decide) (List.mem_of_getElem? (i := 1) rfl) rfl rfl dX12_beginsTerm_2 ?_
  have hr2 := hI.s19
  refine z_calli hW (va_runS (As := [.int (zI (S 0 19))]) (rest := [.ref o]) CX.fix (zk_productOf l (f := zMO cI cJ o S f) (S 0 19) (by constructor <;> omega)) (va_cwS 1 CX.fix.2.2.2.2 gX12_beginsTerm_X12_productOf rfl rfl rfl (by decide +kernel) ⟨Nat.le_of_ble_eq_true rfl, Nat.le_of_ble_eq_true rfl⟩) (z_preS CX hW) rfl rfl hl.1 rfl (lv_room (Nat.le_of_ble_eq_true rfl)) dX12_beginsTerm_5 ⟨Nat.zero_le _, Nat.zero_le _⟩) (fun z5 gn H locs hok hW => ?_)
  obtain ⟨hz5, hg, hq5⟩ := hok
  rw [hg] at hW
  clear hg
  have e5 : zm_productOf (S 0 19) = z5 := hz5.symm
  clear hz5
  refine z_callv hW (va_runV (C := RX12) (As := [.int (zI z5)]) (rest := []) CX.fix (zk_empties l o S z5 hI (by constructor <;> omega)) (cwV 1 CX.fix.2.2.2.2 gX12_beginsTerm_X12_empties rfl rfl rfl (by decide +kernel) ⟨Nat.le_of_ble_eq_true rfl, Nat.le_of_ble_eq_true rfl⟩) (z_preV CX hW (r := (RX12, TX12, 37)) zMO_0 rfl) rfl rfl hl.1 rfl (lv_room (Nat.le_of_ble_eq_true rfl)) dX12_beginsTerm_8 ⟨Nat.zero_le _, Nat.zero_le _⟩) (fun gn H locs hok hW => ?_)
  obtain ⟨hg, hI8, hf8, hq8⟩ := hok
  obtain ⟨S8, e8⟩ : ∃ q, zm_empties S z5 = q := ⟨_, rfl⟩
  rw [e8] at hg hI8 hf8
  have t8_5 : S8 0 5 = S 0 5 := hf8 0 5 (by omega)
  have t8_6 : S8 0 6 = S 0 6 := hf8 0 6 (by omega)
  have t8_7 : S8 0 7 = S 0 7 := hf8 0 7 (by omega)
  have t8_8 : S8 0 8 = S 0 8 := hf8 0 8 (by omega)
  have t8_15 : S8 0 15 = S 0 15 := hf8 0 15 (by omega)
  have t8_19 : S8 0 19 = S 0 19 := hf8 0 19 (by omega)
  skip
  try rw [e8] at hq8
  rw [hg] at hW
  clear hg
  refine lv_aload_n hX0 hB0 dX12_beginsTerm_11 rfl (lv_at hl 0 rfl) ?_
  refine lv_aload_n hX0 hB0 dX12_beginsTerm_12 rfl (lv_at hl 0 rfl) ?_
  refine z_get (Cn := RX12) (T := TX12) (N := 37) CX hW (v := .int (zI (S8 0 19))) zMO_0 rfl (fun w h => List.mem_cons_of_mem _ (List.mem_append_right _ h)) 19 (by decide) (List.mem_of_getElem? (i := 1) rfl) rfl rfl dX12_beginsTerm_13 ?_
  have hr13 := hI8.s19
  refine z_calli hW (va_runS (As := [.int (zI (S8 0 19))]) (rest := [.ref o]) CX.fix (zk_productOf l (f := zMO cI cJ o S8 f) (S8 0 19) (by constructor <;> omega)) (va_cwS 1 CX.fix.2.2.2.2 gX12_beginsTerm_X12_productOf rfl rfl rfl (by decide +kernel) ⟨Nat.le_of_ble_eq_true rfl, Nat.le_of_ble_eq_true rfl⟩) (z_preS CX hW) rfl rfl hl.1 rfl (lv_room (Nat.le_of_ble_eq_true rfl)) dX12_beginsTerm_16 ⟨Nat.zero_le _, Nat.zero_le _⟩) (fun z16 gn H locs hok hW => ?_)
  obtain ⟨hz16, hg, hq16⟩ := hok
  rw [hg] at hW
  clear hg
  have e16 : zm_productOf (S8 0 19) = z16 := hz16.symm
  clear hz16
  refine lv_iconst (v := zI 0) hX0 hB0 dX12_beginsTerm_19 rfl ?_
  refine lv_iconst (v := zI 0) hX0 hB0 dX12_beginsTerm_20 rfl ?_
  refine lv_lconst (v := zL 1) hX0 hB0 dX12_beginsTerm_21 rfl ?_
  refine z_callv hW (va_runV (C := RX12) (As := [.int (zI z16), .int (zI 0), .int (zI 0), .long (zL 1)]) (rest := []) CX.fix (zk_sets l o S8 z16 0 0 1 hI8 (by constructor <;> omega) (by constructor <;> omega) (by constructor <;> omega) (by constructor <;> omega)) (cwV 4 CX.fix.2.2.2.2 gX12_beginsTerm_X12_sets rfl rfl rfl (by decide +kernel) ⟨Nat.le_of_ble_eq_true rfl, Nat.le_of_ble_eq_true rfl⟩) (z_preV CX hW (r := (RX12, TX12, 37)) zMO_0 rfl) rfl rfl hl.1 rfl (lv_room (Nat.le_of_ble_eq_true rfl)) dX12_beginsTerm_22 ⟨Nat.zero_le _, Nat.zero_le _⟩) (fun gn H locs hok hW => ?_)
  obtain ⟨hg, hI22, hf22, hq22⟩ := hok
  obtain ⟨S22, e22⟩ : ∃ q, zm_sets S8 z16 0 0 1 = q := ⟨_, rfl⟩
  rw [e22] at hg hI22 hf22
  have t22_5 : S22 0 5 = S8 0 5 := hf22 0 5 (by omega)
  have t22_6 : S22 0 6 = S8 0 6 := hf22 0 6 (by omega)
  have t22_7 : S22 0 7 = S8 0 7 := hf22 0 7 (by omega)
  have t22_8 : S22 0 8 = S8 0 8 := hf22 0 8 (by omega)
  have t22_15 : S22 0 15 = S8 0 15 := hf22 0 15 (by omega)
  have t22_19 : S22 0 19 = S8 0 19 := hf22 0 19 (by omega)
  skip
  try rw [e22] at hq22
  rw [hg] at hW
  clear hg
  have hE : zm_beginsTerm S = S22 := by unfold zm_beginsTerm; exact zlet_e e5 (zlet_e e8 (zlet_e e16 (zlet_e e22 rfl)))
  have hFr : ∀ kk ii : Nat, ¬ (kk = 3 ∧ 300 ≤ (ii : Int)) → S22 kk ii = S kk ii := fun kk ii hk => ((hf22 kk ii (by omega))).trans (hf8 kk ii (by omega))
  rw [← hQ]
  exact z_vret CX hW (by rw [hE]; exact ⟨rfl, hI22, hFr, trivial⟩) dX12_beginsTerm_25
def zm_beginsSum (S : zS2)  : zS2 := zlet (zm_sumOf (S 0 19)) (fun z5 => zlet (zm_empties S z5) (fun S8 => zlet (za S8 7 ((S8 0 19).toNat) 1) (fun S20 => zlet (zm_isMark S20 45) (fun q24 => (fun (z24 : Int) (S24 : zS2) => (if z24 = 0 then zlet (zm_beginsTerm S24) (fun S51 => S51) else zlet (za S24 0 6 ((S24 0 6) + 1)) (fun S37 => zlet (za S37 7 ((S37 0 19).toNat) (-1)) (fun S49 => zlet (zm_beginsTerm S49) (fun S51 => S51))))) q24.1 q24.2))))
set_option maxRecDepth 100000 in
set_option maxHeartbeats 4000000 in
theorem zk_beginsSum (l : Launch) {D : va_G} {cI cJ cZ cP cS cM : ClassId} {L : List Nat} {sz : Nat} {f : Nat → va_E} (o : Nat) (S : zS2)  (hI : mI S)  : zMv l yX12_beginsSum wsX12_beginsSum 3 69 D (zT cI cJ cZ cP cS cM) L sz (zMO cI cJ o S f) [.ref o] (fun gv => gv = zMO cI cJ o (zm_beginsSum S) f ∧ mI (zm_beginsSum S) ∧ (∀ kk ii : Nat, ¬ (kk = 0 ∧ ii = 6) ∧ ¬ (kk = 3 ∧ 300 ≤ (ii : Int)) ∧ ¬ kk = 7 → (zm_beginsSum S) kk ii = S kk ii) ∧ (S 0 6 ≤ (zm_beginsSum S) 0 6 ∧ (S 0 6 ≤ S 0 5 → (zm_beginsSum S) 0 6 ≤ S 0 5)) ∧ (S 0 8 ≠ 0 → (zm_beginsSum S) 0 8 ≠ 0)) := by
  refine zWalk.met (nL := 1) (ret := none) (cc := cX12_beginsSum) (by decide) rfl (Nat.le_of_ble_eq_true rfl) ?_
  intro pg en st mi ag bl mt cd ls CX hW hl
  have CX : zC pg st mi ag mt cd cX12_beginsSum 1 none RX12 wsX12_beginsSum := CX
  generalize hQ : MQ bl _ ag st 0 0 _ = Q
  have hX0 := CX.1
  have hB0 := CX.2.1
  have hl : lv_has ls 1 [(0, .ref o)] := hl
  obtain ⟨H, eH⟩ : ∃ H, H = st.heap := ⟨_, rfl⟩
  obtain ⟨locs, eL⟩ : ∃ L : List Loc, L = [] := ⟨_, rfl⟩
  have hW : zW D (zT cI cJ cZ cP cS cM) L (zQ L sz) st (zMO cI cJ o S f) st.heap H locs := by rw [eH, eL]; exact hW
  suffices hgo : W pg l en ({ frames := 3, cells := 0, slots := 0, locals := 69 } : Room) st mi ag bl mt cd H locs 0 0 Q (F0 mi 0 ls []) by rw [eH, eL] at hgo; exact hgo
  clear eH eL
  have hpb := hI.s10
  have hbs := hI.s5
  have hba := hI.s6
  have hbb := hI.s7
  have hbo := hI.s19
  have hbt := hI.s15
  refine lv_aload_n hX0 hB0 dX12_beginsSum_0 rfl (lv_at hl 0 rfl) ?_
  refine lv_aload_n hX0 hB0 dX12_beginsSum_1 rfl (lv_at hl 0 rfl) ?_
  refine z_get (Cn := RX12) (T := TX12) (N := 37) CX hW (v := .int (zI (S 0 19))) zMO_0 rfl (fun w h => List.mem_cons_of_mem _ (List.mem_append_right _ h)) 19 (by decide) (List.mem_of_getElem? (i := 1) rfl) rfl rfl dX12_beginsSum_2 ?_
  have hr2 := hI.s19
  refine z_calli hW (va_runS (As := [.int (zI (S 0 19))]) (rest := [.ref o]) CX.fix (zk_sumOf l (f := zMO cI cJ o S f) (S 0 19) (by constructor <;> omega)) (va_cwS 1 CX.fix.2.2.2.2 gX12_beginsSum_X12_sumOf rfl rfl rfl (by decide +kernel) ⟨Nat.le_of_ble_eq_true rfl, Nat.le_of_ble_eq_true rfl⟩) (z_preS CX hW) rfl rfl hl.1 rfl (lv_room (Nat.le_of_ble_eq_true rfl)) dX12_beginsSum_5 ⟨Nat.zero_le _, Nat.zero_le _⟩) (fun z5 gn H locs hok hW => ?_)
  obtain ⟨hz5, hg, hq5⟩ := hok
  rw [hg] at hW
  clear hg
  have e5 : zm_sumOf (S 0 19) = z5 := hz5.symm
  clear hz5
  refine z_callv hW (va_runV (C := RX12) (As := [.int (zI z5)]) (rest := []) CX.fix (zk_empties l o S z5 hI (by constructor <;> omega)) (cwV 1 CX.fix.2.2.2.2 gX12_beginsSum_X12_empties rfl rfl rfl (by decide +kernel) ⟨Nat.le_of_ble_eq_true rfl, Nat.le_of_ble_eq_true rfl⟩) (z_preV CX hW (r := (RX12, TX12, 37)) zMO_0 rfl) rfl rfl hl.1 rfl (lv_room (Nat.le_of_ble_eq_true rfl)) dX12_beginsSum_8 ⟨Nat.zero_le _, Nat.zero_le _⟩) (fun gn H locs hok hW => ?_)
  obtain ⟨hg, hI8, hf8, hq8⟩ := hok
  obtain ⟨S8, e8⟩ : ∃ q, zm_empties S z5 = q := ⟨_, rfl⟩
  rw [e8] at hg hI8 hf8
  have t8_5 : S8 0 5 = S 0 5 := hf8 0 5 (by omega)
  have t8_6 : S8 0 6 = S 0 6 := hf8 0 6 (by omega)
  have t8_7 : S8 0 7 = S 0 7 := hf8 0 7 (by omega)
  have t8_8 : S8 0 8 = S 0 8 := hf8 0 8 (by omega)
  have t8_15 : S8 0 15 = S 0 15 := hf8 0 15 (by omega)
  have t8_19 : S8 0 19 = S 0 19 := hf8 0 19 (by omega)
  skip
  try rw [e8] at hq8
  rw [hg] at hW
  clear hg
  refine lv_aload_n hX0 hB0 dX12_beginsSum_11 rfl (lv_at hl 0 rfl) ?_
  refine z_get (Cn := RX12) (T := TX12) (N := 37) CX hW (v := .ref (o + 7)) zMO_0 rfl (fun w h => List.mem_cons_of_mem _ (List.mem_append_right _ h)) 17 (by decide) (List.mem_of_getElem? (i := 2) rfl) rfl rfl dX12_beginsSum_12 ?_
  refine lv_aload_n hX0 hB0 dX12_beginsSum_15 rfl (lv_at hl 0 rfl) ?_
  refine z_get (Cn := RX12) (T := TX12) (N := 37) CX hW (v := .int (zI (S8 0 19))) zMO_0 rfl (fun w h => List.mem_cons_of_mem _ (List.mem_append_right _ h)) 19 (by decide) (List.mem_of_getElem? (i := 1) rfl) rfl rfl dX12_beginsSum_16 ?_
  have hr16 := hI8.s19
  refine lv_iconst (v := zI 1) hX0 hB0 dX12_beginsSum_19 rfl ?_
  obtain ⟨S20, e20⟩ : ∃ q, za S8 7 ((S8 0 19).toNat) 1 = q := ⟨_, rfl⟩
  refine z_iast CX hW zMO_7 0 rfl (by refine ⟨?_, ?_, ?_⟩ <;> omega) (g := zMO cI cJ o S20 f) (zMO_w7.trans (by rw [← e20]; rfl)) dX12_beginsSum_20 (fun H locs hW => ?_)
  have hI20 : mI S20 := e20 ▸ hI8.w7 (by constructor <;> omega)
  have t20_5 : S20 0 5 = S8 0 5 := by rw [← e20]; exact za_ne (by omega)
  have t20_6 : S20 0 6 = S8 0 6 := by rw [← e20]; exact za_ne (by omega)
  have t20_7 : S20 0 7 = S8 0 7 := by rw [← e20]; exact za_ne (by omega)
  have t20_8 : S20 0 8 = S8 0 8 := by rw [← e20]; exact za_ne (by omega)
  have t20_15 : S20 0 15 = S8 0 15 := by rw [← e20]; exact za_ne (by omega)
  have t20_19 : S20 0 19 = S8 0 19 := by rw [← e20]; exact za_ne (by omega)
  refine lv_aload_n hX0 hB0 dX12_beginsSum_21 rfl (lv_at hl 0 rfl) ?_
  refine lv_bipush (v := zI 45) hX0 hB0 dX12_beginsSum_22 (by decide) ?_
  refine z_calli hW (va_runV (C := RX12) (As := [.int (zI 45)]) (rest := []) CX.fix (zk_isMark l o S20 45 hI20 (by constructor <;> omega)) (cwV 1 CX.fix.2.2.2.2 gX12_beginsSum_X12_isMark rfl rfl rfl (by decide +kernel) ⟨Nat.le_of_ble_eq_true rfl, Nat.le_of_ble_eq_true rfl⟩) (z_preV CX hW (r := (RX12, TX12, 37)) zMO_0 rfl) rfl rfl hl.1 rfl (lv_room (Nat.le_of_ble_eq_true rfl)) dX12_beginsSum_24 ⟨Nat.zero_le _, Nat.zero_le _⟩) (fun z24 gn H locs hok hW => ?_)
  obtain ⟨hz24, hg, hI24, hf24, hq24⟩ := hok
  obtain ⟨S24, hS24⟩ : ∃ q, q = (zm_isMark S20 45).2 := ⟨_, rfl⟩
  rw [← hS24] at hg hI24 hf24
  have t24_5 : S24 0 5 = S20 0 5 := hf24 0 5 (by omega)
  have t24_7 : S24 0 7 = S20 0 7 := hf24 0 7 (by omega)
  have t24_8 : S24 0 8 = S20 0 8 := hf24 0 8 (by omega)
  have t24_15 : S24 0 15 = S20 0 15 := hf24 0 15 (by omega)
  have t24_19 : S24 0 19 = S20 0 19 := hf24 0 19 (by omega)
  skip
  try rw [← hS24] at hq24
  rw [hg] at hW
  clear hg
  have e24 : zm_isMark S20 45 = (z24, S24) := Prod.ext hz24.symm hS24.symm
  clear hz24 hS24
  refine z_if_eq (tgt := 50) CX dX12_beginsSum_27 (by decide) (by constructor <;> omega) (fun c_27 => ?_) (fun c_27 => ?_)
  ·
    refine lv_aload_n hX0 hB0 dX12_beginsSum_50 rfl (lv_at hl 0 rfl) ?_
    refine z_callv hW (va_runV (C := RX12) (As := []) (rest := []) CX.fix (zk_beginsTerm l o S24  hI24 ) (cwV 0 CX.fix.2.2.2.2 gX12_beginsSum_X12_beginsTerm rfl rfl rfl (by decide +kernel) ⟨Nat.le_of_ble_eq_true rfl, Nat.le_of_ble_eq_true rfl⟩) (z_preV CX hW (r := (RX12, TX12, 37)) zMO_0 rfl) rfl rfl hl.1 rfl (lv_room (Nat.le_of_ble_eq_true rfl)) dX12_beginsSum_51 ⟨Nat.zero_le _, Nat.zero_le _⟩) (fun gn H locs hok hW => ?_)
    obtain ⟨hg, hI51, hf51, hq51⟩ := hok
    obtain ⟨S51, e51⟩ : ∃ q, zm_beginsTerm S24 = q := ⟨_, rfl⟩
    rw [e51] at hg hI51 hf51
    have t51_5 : S51 0 5 = S24 0 5 := hf51 0 5 (by omega)
    have t51_6 : S51 0 6 = S24 0 6 := hf51 0 6 (by omega)
    have t51_7 : S51 0 7 = S24 0 7 := hf51 0 7 (by omega)
    have t51_8 : S51 0 8 = S24 0 8 := hf51 0 8 (by omega)
    have t51_15 : S51 0 15 = S24 0 15 := hf51 0 15 (by omega)
    have t51_19 : S51 0 19 = S24 0 19 := hf51 0 19 (by omega)
    skip
    try rw [e51] at hq51
    rw [hg] at hW
    clear hg
    have hE : zm_beginsSum S = S51 := by unfold zm_beginsSum; exact zlet_e e5 (zlet_e e8 (zlet_e e20 (zlet_e e24 (zif_t c_27 (zlet_e e51 rfl)))))
    have hFr : ∀ kk ii : Nat, ¬ (kk = 0 ∧ ii = 6) ∧ ¬ (kk = 3 ∧ 300 ≤ (ii : Int)) ∧ ¬ kk = 7 → S51 kk ii = S kk ii := fun kk ii hk => ((((hf51 kk ii (by omega))).trans (hf24 kk ii (by omega))).trans (show S20 kk ii = S8 kk ii from by rw [← e20]; exact za_ne (by omega))).trans (hf8 kk ii (by omega))
    rw [← hQ]
    exact z_vret CX hW (by rw [hE]; exact ⟨rfl, hI51, hFr, (show (S 0 6 ≤ S51 0 6 ∧ (S 0 6 ≤ S 0 5 → S51 0 6 ≤ S 0 5)) ∧ (S 0 8 ≠ 0 → S51 0 8 ≠ 0) from by omega)⟩) dX12_beginsSum_54
  ·
    refine lv_aload_n hX0 hB0 dX12_beginsSum_30 rfl (lv_at hl 0 rfl) ?_
    refine lv_dup hX0 hB0 dX12_beginsSum_31 rfl ?_
    refine z_get (Cn := RX12) (T := TX12) (N := 37) CX hW (v := .int (zI (S24 0 6))) zMO_0 rfl (fun w h => List.mem_cons_of_mem _ (List.mem_append_right _ h)) 6 (by decide) (List.mem_of_getElem? (i := 3) rfl) rfl rfl dX12_beginsSum_32 ?_
    have hr32 := hI24.s6
    refine lv_iconst (v := zI 1) hX0 hB0 dX12_beginsSum_35 rfl ?_
    refine z_iadd (z := (S24 0 6) + 1) CX dX12_beginsSum_36 rfl ?_
    obtain ⟨S37, e37⟩ : ∃ q, za S24 0 6 ((S24 0 6) + 1) = q := ⟨_, rfl⟩
    refine z_put (Cn := RX12) (T := TX12) (N := 37) CX hW (v := .int (zI ((S24 0 6) + 1))) zMO_0 rfl (fun w h => List.mem_cons_of_mem _ (List.mem_append_right _ h)) tyX12 tyX12_ok nmX12 6 (by decide) (List.mem_of_getElem? (i := 3) rfl) rfl rfl rfl rfl (Nat.le_of_ble_eq_true rfl) (g := zMO cI cJ o S37 f) (zMO_s6.trans (by rw [e37])) dX12_beginsSum_37 (fun H locs hW => ?_)
    have hI37 : mI S37 := e37 ▸ hI24.v6 (by constructor <;> omega)
    have t37_5 : S37 0 5 = S24 0 5 := by rw [← e37]; exact za_ne (by omega)
    have t37_6 : S37 0 6 = (S24 0 6) + 1 := by rw [← e37]; exact za_same
    have t37_7 : S37 0 7 = S24 0 7 := by rw [← e37]; exact za_ne (by omega)
    have t37_8 : S37 0 8 = S24 0 8 := by rw [← e37]; exact za_ne (by omega)
    have t37_15 : S37 0 15 = S24 0 15 := by rw [← e37]; exact za_ne (by omega)
    have t37_19 : S37 0 19 = S24 0 19 := by rw [← e37]; exact za_ne (by omega)
    refine lv_aload_n hX0 hB0 dX12_beginsSum_40 rfl (lv_at hl 0 rfl) ?_
    refine z_get (Cn := RX12) (T := TX12) (N := 37) CX hW (v := .ref (o + 7)) zMO_0 rfl (fun w h => List.mem_cons_of_mem _ (List.mem_append_right _ h)) 17 (by decide) (List.mem_of_getElem? (i := 2) rfl) rfl rfl dX12_beginsSum_41 ?_
    refine lv_aload_n hX0 hB0 dX12_beginsSum_44 rfl (lv_at hl 0 rfl) ?_
    refine z_get (Cn := RX12) (T := TX12) (N := 37) CX hW (v := .int (zI (S37 0 19))) zMO_0 rfl (fun w h => List.mem_cons_of_mem _ (List.mem_append_right _ h)) 19 (by decide) (List.mem_of_getElem? (i := 1) rfl) rfl rfl dX12_beginsSum_45 ?_
    have hr45 := hI37.s19
    refine lv_iconst (v := zI (-1)) hX0 hB0 dX12_beginsSum_48 rfl ?_
    obtain ⟨S49, e49⟩ : ∃ q, za S37 7 ((S37 0 19).toNat) (-1) = q := ⟨_, rfl⟩
    refine z_iast CX hW zMO_7 0 rfl (by refine ⟨?_, ?_, ?_⟩ <;> omega) (g := zMO cI cJ o S49 f) (zMO_w7.trans (by rw [← e49]; rfl)) dX12_beginsSum_49 (fun H locs hW => ?_)
    have hI49 : mI S49 := e49 ▸ hI37.w7 (by constructor <;> omega)
    have t49_5 : S49 0 5 = S37 0 5 := by rw [← e49]; exact za_ne (by omega)
    have t49_6 : S49 0 6 = S37 0 6 := by rw [← e49]; exact za_ne (by omega)
    have t49_7 : S49 0 7 = S37 0 7 := by rw [← e49]; exact za_ne (by omega)
    have t49_8 : S49 0 8 = S37 0 8 := by rw [← e49]; exact za_ne (by omega)
    have t49_15 : S49 0 15 = S37 0 15 := by rw [← e49]; exact za_ne (by omega)
    have t49_19 : S49 0 19 = S37 0 19 := by rw [← e49]; exact za_ne (by omega)
    refine lv_aload_n hX0 hB0 dX12_beginsSum_50 rfl (lv_at hl 0 rfl) ?_
    refine z_callv hW (va_runV (C := RX12) (As := []) (rest := []) CX.fix (zk_beginsTerm l o S49  hI49 ) (cwV 0 CX.fix.2.2.2.2 gX12_beginsSum_X12_beginsTerm rfl rfl rfl (by decide +kernel) ⟨Nat.le_of_ble_eq_true rfl, Nat.le_of_ble_eq_true rfl⟩) (z_preV CX hW (r := (RX12, TX12, 37)) zMO_0 rfl) rfl rfl hl.1 rfl (lv_room (Nat.le_of_ble_eq_true rfl)) dX12_beginsSum_51 ⟨Nat.zero_le _, Nat.zero_le _⟩) (fun gn H locs hok hW => ?_)
    obtain ⟨hg, hI51, hf51, hq51⟩ := hok
    obtain ⟨S51, e51⟩ : ∃ q, zm_beginsTerm S49 = q := ⟨_, rfl⟩
    rw [e51] at hg hI51 hf51
    have t51_5 : S51 0 5 = S49 0 5 := hf51 0 5 (by omega)
    have t51_6 : S51 0 6 = S49 0 6 := hf51 0 6 (by omega)
    have t51_7 : S51 0 7 = S49 0 7 := hf51 0 7 (by omega)
    have t51_8 : S51 0 8 = S49 0 8 := hf51 0 8 (by omega)
    have t51_15 : S51 0 15 = S49 0 15 := hf51 0 15 (by omega)
    have t51_19 : S51 0 19 = S49 0 19 := hf51 0 19 (by omega)
    skip
    try rw [e51] at hq51
    rw [hg] at hW
    clear hg
    have hE : zm_beginsSum S = S51 := by unfold zm_beginsSum; exact zlet_e e5 (zlet_e e8 (zlet_e e20 (zlet_e e24 (zif_f c_27 (zlet_e e37 (zlet_e e49 (zlet_e e51 rfl)))))))
    have hFr : ∀ kk ii : Nat, ¬ (kk = 0 ∧ ii = 6) ∧ ¬ (kk = 3 ∧ 300 ≤ (ii : Int)) ∧ ¬ kk = 7 → S51 kk ii = S kk ii := fun kk ii hk => ((((((hf51 kk ii (by omega))).trans (show S49 kk ii = S37 kk ii from by rw [← e49]; exact za_ne (by omega))).trans (show S37 kk ii = S24 kk ii from by rw [← e37]; exact za_ne (by omega))).trans (hf24 kk ii (by omega))).trans (show S20 kk ii = S8 kk ii from by rw [← e20]; exact za_ne (by omega))).trans (hf8 kk ii (by omega))
    rw [← hQ]
    exact z_vret CX hW (by rw [hE]; exact ⟨rfl, hI51, hFr, (show (S 0 6 ≤ S51 0 6 ∧ (S 0 6 ≤ S 0 5 → S51 0 6 ≤ S 0 5)) ∧ (S 0 8 ≠ 0 → S51 0 8 ≠ 0) from by omega)⟩) dX12_beginsSum_54
def zm_endsTerm (S : zS2)  : zS2 := zlet (zm_sumOf (S 0 19)) (fun z5 => zlet (zm_productOf (S 0 19)) (fun z12 => zlet (zm_adds S z5 z12 (S 7 ((S 0 19).toNat))) (fun S25 => S25)))
set_option maxRecDepth 100000 in
set_option maxHeartbeats 4000000 in
theorem zk_endsTerm (l : Launch) {D : va_G} {cI cJ cZ cP cS cM : ClassId} {L : List Nat} {sz : Nat} {f : Nat → va_E} (o : Nat) (S : zS2)  (hI : mI S)  : zMv l yX12_endsTerm wsX12_endsTerm 3 75 D (zT cI cJ cZ cP cS cM) L sz (zMO cI cJ o S f) [.ref o] (fun gv => gv = zMO cI cJ o (zm_endsTerm S) f ∧ mI (zm_endsTerm S) ∧ (∀ kk ii : Nat, ¬ (kk = 3 ∧ 300 ≤ (ii : Int)) → (zm_endsTerm S) kk ii = S kk ii) ∧ True) := by
  refine zWalk.met (nL := 1) (ret := none) (cc := cX12_endsTerm) (by decide) rfl (Nat.le_of_ble_eq_true rfl) ?_
  intro pg en st mi ag bl mt cd ls CX hW hl
  have CX : zC pg st mi ag mt cd cX12_endsTerm 1 none RX12 wsX12_endsTerm := CX
  generalize hQ : MQ bl _ ag st 0 0 _ = Q
  have hX0 := CX.1
  have hB0 := CX.2.1
  have hl : lv_has ls 1 [(0, .ref o)] := hl
  obtain ⟨H, eH⟩ : ∃ H, H = st.heap := ⟨_, rfl⟩
  obtain ⟨locs, eL⟩ : ∃ L : List Loc, L = [] := ⟨_, rfl⟩
  have hW : zW D (zT cI cJ cZ cP cS cM) L (zQ L sz) st (zMO cI cJ o S f) st.heap H locs := by rw [eH, eL]; exact hW
  suffices hgo : W pg l en ({ frames := 3, cells := 0, slots := 0, locals := 75 } : Room) st mi ag bl mt cd H locs 0 0 Q (F0 mi 0 ls []) by rw [eH, eL] at hgo; exact hgo
  clear eH eL
  have hpb := hI.s10
  have hbs := hI.s5
  have hba := hI.s6
  have hbb := hI.s7
  have hbo := hI.s19
  have hbt := hI.s15
  refine lv_aload_n hX0 hB0 dX12_endsTerm_0 rfl (lv_at hl 0 rfl) ?_
  refine lv_aload_n hX0 hB0 dX12_endsTerm_1 rfl (lv_at hl 0 rfl) ?_
  refine z_get (Cn := RX12) (T := TX12) (N := 37) CX hW (v := .int (zI (S 0 19))) zMO_0 rfl (fun w h => List.mem_cons_of_mem _ (List.mem_append_right _ h)) 19 (by decide) (List.mem_of_getElem? (i := 1) rfl) rfl rfl dX12_endsTerm_2 ?_
  have hr2 := hI.s19
  refine z_calli hW (va_runS (As := [.int (zI (S 0 19))]) (rest := [.ref o]) CX.fix (zk_sumOf l (f := zMO cI cJ o S f) (S 0 19) (by constructor <;> omega)) (va_cwS 1 CX.fix.2.2.2.2 gX12_endsTerm_X12_sumOf rfl rfl rfl (by decide +kernel) ⟨Nat.le_of_ble_eq_true rfl, Nat.le_of_ble_eq_true rfl⟩) (z_preS CX hW) rfl rfl hl.1 rfl (lv_room (Nat.le_of_ble_eq_true rfl)) dX12_endsTerm_5 ⟨Nat.zero_le _, Nat.zero_le _⟩) (fun z5 gn H locs hok hW => ?_)
  obtain ⟨hz5, hg, hq5⟩ := hok
  rw [hg] at hW
  clear hg
  have e5 : zm_sumOf (S 0 19) = z5 := hz5.symm
  clear hz5
  refine lv_aload_n hX0 hB0 dX12_endsTerm_8 rfl (lv_at hl 0 rfl) ?_
  refine z_get (Cn := RX12) (T := TX12) (N := 37) CX hW (v := .int (zI (S 0 19))) zMO_0 rfl (fun w h => List.mem_cons_of_mem _ (List.mem_append_right _ h)) 19 (by decide) (List.mem_of_getElem? (i := 1) rfl) rfl rfl dX12_endsTerm_9 ?_
  have hr9 := hI.s19
  refine z_calli hW (va_runS (As := [.int (zI (S 0 19))]) (rest := [.int (zI z5), .ref o]) CX.fix (zk_productOf l (f := zMO cI cJ o S f) (S 0 19) (by constructor <;> omega)) (va_cwS 1 CX.fix.2.2.2.2 gX12_endsTerm_X12_productOf rfl rfl rfl (by decide +kernel) ⟨Nat.le_of_ble_eq_true rfl, Nat.le_of_ble_eq_true rfl⟩) (z_preS CX hW) rfl rfl hl.1 rfl (lv_room (Nat.le_of_ble_eq_true rfl)) dX12_endsTerm_12 ⟨Nat.zero_le _, Nat.zero_le _⟩) (fun z12 gn H locs hok hW => ?_)
  obtain ⟨hz12, hg, hq12⟩ := hok
  rw [hg] at hW
  clear hg
  have e12 : zm_productOf (S 0 19) = z12 := hz12.symm
  clear hz12
  refine lv_aload_n hX0 hB0 dX12_endsTerm_15 rfl (lv_at hl 0 rfl) ?_
  refine z_get (Cn := RX12) (T := TX12) (N := 37) CX hW (v := .ref (o + 7)) zMO_0 rfl (fun w h => List.mem_cons_of_mem _ (List.mem_append_right _ h)) 17 (by decide) (List.mem_of_getElem? (i := 2) rfl) rfl rfl dX12_endsTerm_16 ?_
  refine lv_aload_n hX0 hB0 dX12_endsTerm_19 rfl (lv_at hl 0 rfl) ?_
  refine z_get (Cn := RX12) (T := TX12) (N := 37) CX hW (v := .int (zI (S 0 19))) zMO_0 rfl (fun w h => List.mem_cons_of_mem _ (List.mem_append_right _ h)) 19 (by decide) (List.mem_of_getElem? (i := 1) rfl) rfl rfl dX12_endsTerm_20 ?_
  have hr20 := hI.s19
  refine z_iald (z := S 7 ((S 0 19).toNat)) CX hW zMO_7 0 rfl (by refine ⟨?_, ?_, ?_⟩ <;> omega) rfl dX12_endsTerm_23 ?_
  have hr23 := hI.r7 ((S 0 19).toNat)
  refine z_i2l CX dX12_endsTerm_24 (by constructor <;> omega) ?_
  refine z_callv hW (va_runV (C := RX12) (As := [.int (zI z5), .int (zI z12), .long (zL (S 7 ((S 0 19).toNat)))]) (rest := []) CX.fix (zk_adds l o S z5 z12 (S 7 ((S 0 19).toNat)) hI (by constructor <;> omega) (by constructor <;> omega) (by constructor <;> omega)) (cwV 3 CX.fix.2.2.2.2 gX12_endsTerm_X12_adds rfl rfl rfl (by decide +kernel) ⟨Nat.le_of_ble_eq_true rfl, Nat.le_of_ble_eq_true rfl⟩) (z_preV CX hW (r := (RX12, TX12, 37)) zMO_0 rfl) rfl rfl hl.1 rfl (lv_room (Nat.le_of_ble_eq_true rfl)) dX12_endsTerm_25 ⟨Nat.zero_le _, Nat.zero_le _⟩) (fun gn H locs hok hW => ?_)
  obtain ⟨hg, hI25, hf25, hq25⟩ := hok
  obtain ⟨S25, e25⟩ : ∃ q, zm_adds S z5 z12 (S 7 ((S 0 19).toNat)) = q := ⟨_, rfl⟩
  rw [e25] at hg hI25 hf25
  have t25_5 : S25 0 5 = S 0 5 := hf25 0 5 (by omega)
  have t25_6 : S25 0 6 = S 0 6 := hf25 0 6 (by omega)
  have t25_7 : S25 0 7 = S 0 7 := hf25 0 7 (by omega)
  have t25_8 : S25 0 8 = S 0 8 := hf25 0 8 (by omega)
  have t25_15 : S25 0 15 = S 0 15 := hf25 0 15 (by omega)
  have t25_19 : S25 0 19 = S 0 19 := hf25 0 19 (by omega)
  skip
  try rw [e25] at hq25
  rw [hg] at hW
  clear hg
  have hE : zm_endsTerm S = S25 := by unfold zm_endsTerm; exact zlet_e e5 (zlet_e e12 (zlet_e e25 rfl))
  have hFr : ∀ kk ii : Nat, ¬ (kk = 3 ∧ 300 ≤ (ii : Int)) → S25 kk ii = S kk ii := fun kk ii hk => (hf25 kk ii (by omega))
  rw [← hQ]
  exact z_vret CX hW (by rw [hE]; exact ⟨rfl, hI25, hFr, trivial⟩) dX12_endsTerm_28
def zm_takesAtom_J8 (z5 : Int) (S5 : zS2) : Int × zS2 := (if z5 = 0 then (1, S5) else zlet (za S5 0 6 ((S5 0 6) + 1)) (fun S18 => zlet (zm_number S18) (fun q22 => (fun (z22 : Int) (S22 : zS2) => zlet (zm_goesWell S22) (fun z27 => (if z27 = 0 then zlet (zm_goesWell S22) (fun z51 => (if z51 = 0 then (1, S22) else (z22, S22))) else (if z22 ≤ 4 then zlet (zm_goesWell S22) (fun z51 => (if z51 = 0 then (1, S22) else (z22, S22))) else zlet (zm_faults S22 2 (S22 0 7)) (fun S47 => zlet (zm_goesWell S47) (fun z51 => (if z51 = 0 then (1, S47) else (z22, S47)))))))) q22.1 q22.2)))
def zm_takesAtom_W91 (n8j : Int) : Nat → Int → zS2 → Int × zS2
  | 0, k91, S91 => (k91, S91)
  | fu91 + 1, k91, S91 => (if n8j ≤ k91 then (k91, S91) else zlet (zm_goesWell S91) (fun z97 => (if z97 = 0 then (k91, S91) else zlet (zm_atomOf (S91 0 19)) (fun z114 => zlet (zm_multiplies S91 140 140 z114) (fun q117 => (fun (z117 : Int) (S117 : zS2) => (if z117 = 0 then zlet (zm_faults S117 4 (S117 8 ((S117 0 19).toNat))) (fun S134 => zm_takesAtom_W91 n8j fu91 (k91 + 1) S134) else zm_takesAtom_W91 n8j fu91 (k91 + 1) S117)) q117.1 q117.2)))))
def zm_takesAtom (S : zS2)  : zS2 := zlet (zm_isMark S 94) (fun q5 => (fun (z5 : Int) (S5 : zS2) => zlet (zm_takesAtom_J8 z5 S5) (fun q8j => (fun (n8j : Int) (S8j : zS2) => zlet (zm_goesWell S8j) (fun z65 => (if z65 = 0 then S8j else zlet (zm_empties S8j 140) (fun S76 => zlet (zm_sets S76 140 0 0 1) (fun S86 => zlet (zm_takesAtom_W91 n8j ((6 : Nat)) 0 S86) (fun q91 => (fun (k91 : Int) (S91 : zS2) => zlet (zm_goesWell S91) (fun z144 => (if z144 = 0 then S91 else zlet (zm_productOf (S91 0 19)) (fun z155 => zlet (zm_productOf (S91 0 19)) (fun z162 => zlet (zm_multiplies S91 z155 z162 140) (fun q168 => (fun (z168 : Int) (S168 : zS2) => (if z168 = 0 then zlet (zm_faults S168 4 (S168 8 ((S168 0 19).toNat))) (fun S185 => S185) else S168)) q168.1 q168.2)))))) q91.1 q91.2)))))) q8j.1 q8j.2)) q5.1 q5.2)
set_option maxRecDepth 100000 in
set_option maxHeartbeats 4000000 in
theorem zk_takesAtom (l : Launch) {D : va_G} {cI cJ cZ cP cS cM : ClassId} {L : List Nat} {sz : Nat} {f : Nat → va_E} (o : Nat) (S : zS2)  (hI : mI S)  : zMv l yX12_takesAtom wsX12_takesAtom 3 76 D (zT cI cJ cZ cP cS cM) L sz (zMO cI cJ o S f) [.ref o] (fun gv => gv = zMO cI cJ o (zm_takesAtom S) f ∧ mI (zm_takesAtom S) ∧ (∀ kk ii : Nat, ¬ (kk = 0 ∧ ii = 6) ∧ ¬ (kk = 0 ∧ ii = 7) ∧ ¬ (kk = 0 ∧ ii = 8) ∧ ¬ (kk = 0 ∧ ii = 9) ∧ ¬ (kk = 3 ∧ 300 ≤ (ii : Int)) ∧ ¬ kk = 4 → (zm_takesAtom S) kk ii = S kk ii) ∧ (S 0 6 ≤ (zm_takesAtom S) 0 6 ∧ (S 0 6 ≤ S 0 5 → (zm_takesAtom S) 0 6 ≤ S 0 5)) ∧ (S 0 8 ≠ 0 → (zm_takesAtom S) 0 8 ≠ 0)) := by
  refine zWalk.met (nL := 4) (ret := none) (cc := cX12_takesAtom) (by decide) rfl (Nat.le_of_ble_eq_true rfl) ?_
  intro pg en st mi ag bl mt cd ls CX hW hl
  have CX : zC pg st mi ag mt cd cX12_takesAtom 4 none RX12 wsX12_takesAtom := CX
  generalize hQ : MQ bl _ ag st 0 0 _ = Q
  have hX0 := CX.1
  have hB0 := CX.2.1
  have hl : lv_has ls 4 [(0, .ref o)] := hl
  obtain ⟨H, eH⟩ : ∃ H, H = st.heap := ⟨_, rfl⟩
  obtain ⟨locs, eL⟩ : ∃ L : List Loc, L = [] := ⟨_, rfl⟩
  have hW : zW D (zT cI cJ cZ cP cS cM) L (zQ L sz) st (zMO cI cJ o S f) st.heap H locs := by rw [eH, eL]; exact hW
  suffices hgo : W pg l en ({ frames := 3, cells := 0, slots := 0, locals := 76 } : Room) st mi ag bl mt cd H locs 0 0 Q (F0 mi 0 ls []) by rw [eH, eL] at hgo; exact hgo
  clear eH eL
  have hpb := hI.s10
  have hbs := hI.s5
  have hba := hI.s6
  have hbb := hI.s7
  have hbo := hI.s19
  have hbt := hI.s15
  refine lv_iconst (v := zI 1) hX0 hB0 dX12_takesAtom_0 rfl ?_
  refine lv_istore_n (lv' := [(1, .int (zI 1)), (0, .ref o)]) hX0 hB0 dX12_takesAtom_1 rfl hl (by decide) rfl (fun ls hl => ?_)
  refine lv_aload_n hX0 hB0 dX12_takesAtom_2 rfl (lv_at hl 1 rfl) ?_
  refine lv_bipush (v := zI 94) hX0 hB0 dX12_takesAtom_3 (by decide) ?_
  refine z_calli hW (va_runV (C := RX12) (As := [.int (zI 94)]) (rest := []) CX.fix (zk_isMark l o S 94 hI (by constructor <;> omega)) (cwV 1 CX.fix.2.2.2.2 gX12_takesAtom_X12_isMark rfl rfl rfl (by decide +kernel) ⟨Nat.le_of_ble_eq_true rfl, Nat.le_of_ble_eq_true rfl⟩) (z_preV CX hW (r := (RX12, TX12, 37)) zMO_0 rfl) rfl rfl hl.1 rfl (lv_room (Nat.le_of_ble_eq_true rfl)) dX12_takesAtom_5 ⟨Nat.zero_le _, Nat.zero_le _⟩) (fun z5 gn H locs hok hW => ?_)
  obtain ⟨hz5, hg, hI5, hf5, hq5⟩ := hok
  obtain ⟨S5, hS5⟩ : ∃ q, q = (zm_isMark S 94).2 := ⟨_, rfl⟩
  rw [← hS5] at hg hI5 hf5
  have t5_5 : S5 0 5 = S 0 5 := hf5 0 5 (by omega)
  have t5_7 : S5 0 7 = S 0 7 := hf5 0 7 (by omega)
  have t5_8 : S5 0 8 = S 0 8 := hf5 0 8 (by omega)
  have t5_15 : S5 0 15 = S 0 15 := hf5 0 15 (by omega)
  have t5_19 : S5 0 19 = S 0 19 := hf5 0 19 (by omega)
  skip
  try rw [← hS5] at hq5
  rw [hg] at hW
  clear hg
  have e5 : zm_isMark S 94 = (z5, S5) := Prod.ext hz5.symm hS5.symm
  clear hz5 hS5
  have hJ8 : ∀ (n8j : Int) (S8j : zS2), (zm_takesAtom_J8 z5 S5 = (n8j, S8j) ∧ mI S8j ∧ (∀ kk ii : Nat, ¬ (kk = 0 ∧ ii = 6) ∧ ¬ (kk = 0 ∧ ii = 7) ∧ ¬ (kk = 0 ∧ ii = 8) ∧ ¬ (kk = 0 ∧ ii = 9) → S8j kk ii = S5 kk ii) ∧ 0 ≤ n8j ∧ n8j ≤ 4 ∧ (S5 0 6 ≤ S8j 0 6 ∧ (S5 0 6 ≤ S5 0 5 → S8j 0 6 ≤ S5 0 5) ∧ (S5 0 8 ≠ 0 → S8j 0 8 ≠ 0))) → ∀ (H : Heap) (locs : List Loc) (ls : Array Slot), zW D (zT cI cJ cZ cP cS cM) L (zQ L sz) st (zMO cI cJ o S8j f) st.heap H locs → lv_has ls 4 [(1, .int (zI n8j)), (0, .ref o)] → W pg l en ({ frames := 3, cells := 0, slots := 0, locals := 76 } : Room) st mi ag bl mt cd H locs 0 0 Q (F0 mi 64 ls []) := by
    intro n8j S8j hinv H locs ls hW hl
    obtain ⟨e8j, hI8j, hf8j, han8j, hbn8j, hv8j⟩ := hinv
    have hp8j := hI8j.s10
    have t8j_5 : S8j 0 5 = S5 0 5 := hf8j 0 5 (by omega)
    have t8j_15 : S8j 0 15 = S5 0 15 := hf8j 0 15 (by omega)
    have t8j_19 : S8j 0 19 = S5 0 19 := hf8j 0 19 (by omega)
    refine lv_aload_n hX0 hB0 dX12_takesAtom_64 rfl (lv_at hl 1 rfl) ?_
    refine z_calli hW (va_runV (C := RX12) (As := []) (rest := []) CX.fix (zk_goesWell l o S8j  hI8j ) (cwV 0 CX.fix.2.2.2.2 gX12_takesAtom_X12_goesWell rfl rfl rfl (by decide +kernel) ⟨Nat.le_of_ble_eq_true rfl, Nat.le_of_ble_eq_true rfl⟩) (z_preV CX hW (r := (RX12, TX12, 37)) zMO_0 rfl) rfl rfl hl.1 rfl (lv_room (Nat.le_of_ble_eq_true rfl)) dX12_takesAtom_65 ⟨Nat.zero_le _, Nat.zero_le _⟩) (fun z65 gn H locs hok hW => ?_)
    obtain ⟨hz65, hg, hq65⟩ := hok
    rw [hg] at hW
    clear hg
    have e65 : zm_goesWell S8j = z65 := hz65.symm
    clear hz65
    refine z_if_ne (tgt := 72) CX dX12_takesAtom_68 (by decide) (by constructor <;> omega) (fun c_68 => ?_) (fun c_68 => ?_)
    ·
      refine lv_aload_n hX0 hB0 dX12_takesAtom_72 rfl (lv_at hl 1 rfl) ?_
      refine lv_sipush (v := zI 140) hX0 hB0 dX12_takesAtom_73 (by decide) ?_
      refine z_callv hW (va_runV (C := RX12) (As := [.int (zI 140)]) (rest := []) CX.fix (zk_empties l o S8j 140 hI8j (by constructor <;> omega)) (cwV 1 CX.fix.2.2.2.2 gX12_takesAtom_X12_empties rfl rfl rfl (by decide +kernel) ⟨Nat.le_of_ble_eq_true rfl, Nat.le_of_ble_eq_true rfl⟩) (z_preV CX hW (r := (RX12, TX12, 37)) zMO_0 rfl) rfl rfl hl.1 rfl (lv_room (Nat.le_of_ble_eq_true rfl)) dX12_takesAtom_76 ⟨Nat.zero_le _, Nat.zero_le _⟩) (fun gn H locs hok hW => ?_)
      obtain ⟨hg, hI76, hf76, hq76⟩ := hok
      obtain ⟨S76, e76⟩ : ∃ q, zm_empties S8j 140 = q := ⟨_, rfl⟩
      rw [e76] at hg hI76 hf76
      have t76_5 : S76 0 5 = S8j 0 5 := hf76 0 5 (by omega)
      have t76_6 : S76 0 6 = S8j 0 6 := hf76 0 6 (by omega)
      have t76_7 : S76 0 7 = S8j 0 7 := hf76 0 7 (by omega)
      have t76_8 : S76 0 8 = S8j 0 8 := hf76 0 8 (by omega)
      have t76_15 : S76 0 15 = S8j 0 15 := hf76 0 15 (by omega)
      have t76_19 : S76 0 19 = S8j 0 19 := hf76 0 19 (by omega)
      skip
      try rw [e76] at hq76
      rw [hg] at hW
      clear hg
      refine lv_aload_n hX0 hB0 dX12_takesAtom_79 rfl (lv_at hl 1 rfl) ?_
      refine lv_sipush (v := zI 140) hX0 hB0 dX12_takesAtom_80 (by decide) ?_
      refine lv_iconst (v := zI 0) hX0 hB0 dX12_takesAtom_83 rfl ?_
      refine lv_iconst (v := zI 0) hX0 hB0 dX12_takesAtom_84 rfl ?_
      refine lv_lconst (v := zL 1) hX0 hB0 dX12_takesAtom_85 rfl ?_
      refine z_callv hW (va_runV (C := RX12) (As := [.int (zI 140), .int (zI 0), .int (zI 0), .long (zL 1)]) (rest := []) CX.fix (zk_sets l o S76 140 0 0 1 hI76 (by constructor <;> omega) (by constructor <;> omega) (by constructor <;> omega) (by constructor <;> omega)) (cwV 4 CX.fix.2.2.2.2 gX12_takesAtom_X12_sets rfl rfl rfl (by decide +kernel) ⟨Nat.le_of_ble_eq_true rfl, Nat.le_of_ble_eq_true rfl⟩) (z_preV CX hW (r := (RX12, TX12, 37)) zMO_0 rfl) rfl rfl hl.1 rfl (lv_room (Nat.le_of_ble_eq_true rfl)) dX12_takesAtom_86 ⟨Nat.zero_le _, Nat.zero_le _⟩) (fun gn H locs hok hW => ?_)
      obtain ⟨hg, hI86, hf86, hq86⟩ := hok
      obtain ⟨S86, e86⟩ : ∃ q, zm_sets S76 140 0 0 1 = q := ⟨_, rfl⟩
      rw [e86] at hg hI86 hf86
      have t86_5 : S86 0 5 = S76 0 5 := hf86 0 5 (by omega)
      have t86_6 : S86 0 6 = S76 0 6 := hf86 0 6 (by omega)
      have t86_7 : S86 0 7 = S76 0 7 := hf86 0 7 (by omega)
      have t86_8 : S86 0 8 = S76 0 8 := hf86 0 8 (by omega)
      have t86_15 : S86 0 15 = S76 0 15 := hf86 0 15 (by omega)
      have t86_19 : S86 0 19 = S76 0 19 := hf86 0 19 (by omega)
      skip
      try rw [e86] at hq86
      rw [hg] at hW
      clear hg
      refine lv_iconst (v := zI 0) hX0 hB0 dX12_takesAtom_89 rfl ?_
      refine lv_istore_n (lv' := [(2, .int (zI 0)), (1, .int (zI n8j)), (0, .ref o)]) hX0 hB0 dX12_takesAtom_90 rfl hl (by decide) rfl (fun ls hl => ?_)
      have hXt91 : ∀ (k91 : Int) (S91 : zS2), (zm_takesAtom_W91 n8j ((6 : Nat)) 0 S86 = (k91, S91) ∧ mI S91 ∧ (∀ kk ii : Nat, ¬ (kk = 0 ∧ ii = 8) ∧ ¬ (kk = 0 ∧ ii = 9) ∧ ¬ (kk = 3 ∧ 300 ≤ (ii : Int)) ∧ ¬ kk = 4 → S91 kk ii = S86 kk ii) ∧ 0 ≤ k91 ∧ k91 ≤ 4 ∧ (S86 0 6 ≤ S91 0 6 ∧ (S86 0 6 ≤ S86 0 5 → S91 0 6 ≤ S86 0 5) ∧ (S86 0 8 ≠ 0 → S91 0 8 ≠ 0))) → ∀ (H : Heap) (locs : List Loc) (ls : Array Slot), zW D (zT cI cJ cZ cP cS cM) L (zQ L sz) st (zMO cI cJ o S91 f) st.heap H locs → lv_has ls 4 [(2, .int (zI k91)), (1, .int (zI n8j)), (0, .ref o)] → W pg l en ({ frames := 3, cells := 0, slots := 0, locals := 76 } : Room) st mi ag bl mt cd H locs 0 0 Q (F0 mi 143 ls []) := by
        intro k91 S91 hinv H locs ls hW hl
        obtain ⟨e91, hI91, hf91, hak91, hbk91, hv91⟩ := hinv
        have hp91 := hI91.s10
        have t91_5 : S91 0 5 = S86 0 5 := hf91 0 5 (by omega)
        have t91_6 : S91 0 6 = S86 0 6 := hf91 0 6 (by omega)
        have t91_7 : S91 0 7 = S86 0 7 := hf91 0 7 (by omega)
        have t91_15 : S91 0 15 = S86 0 15 := hf91 0 15 (by omega)
        have t91_19 : S91 0 19 = S86 0 19 := hf91 0 19 (by omega)
        refine lv_aload_n hX0 hB0 dX12_takesAtom_143 rfl (lv_at hl 2 rfl) ?_
        refine z_calli hW (va_runV (C := RX12) (As := []) (rest := []) CX.fix (zk_goesWell l o S91  hI91 ) (cwV 0 CX.fix.2.2.2.2 gX12_takesAtom_X12_goesWell rfl rfl rfl (by decide +kernel) ⟨Nat.le_of_ble_eq_true rfl, Nat.le_of_ble_eq_true rfl⟩) (z_preV CX hW (r := (RX12, TX12, 37)) zMO_0 rfl) rfl rfl hl.1 rfl (lv_room (Nat.le_of_ble_eq_true rfl)) dX12_takesAtom_144 ⟨Nat.zero_le _, Nat.zero_le _⟩) (fun z144 gn H locs hok hW => ?_)
        obtain ⟨hz144, hg, hq144⟩ := hok
        rw [hg] at hW
        clear hg
        have e144 : zm_goesWell S91 = z144 := hz144.symm
        clear hz144
        refine z_if_eq (tgt := 188) CX dX12_takesAtom_147 (by decide) (by constructor <;> omega) (fun c_147 => ?_) (fun c_147 => ?_)
        ·
          have hE : zm_takesAtom S = S91 := by unfold zm_takesAtom; exact zlet_e e5 (zlet_e e8j (zlet_e e65 (zif_f c_68 (zlet_e e76 (zlet_e e86 (zlet_e e91 (zlet_e e144 (zif_t c_147 rfl))))))))
          have hFr : ∀ kk ii : Nat, ¬ (kk = 0 ∧ ii = 6) ∧ ¬ (kk = 0 ∧ ii = 7) ∧ ¬ (kk = 0 ∧ ii = 8) ∧ ¬ (kk = 0 ∧ ii = 9) ∧ ¬ (kk = 3 ∧ 300 ≤ (ii : Int)) ∧ ¬ kk = 4 → S91 kk ii = S kk ii := fun kk ii hk => (((((hf91 kk ii (by omega))).trans (hf86 kk ii (by omega))).trans (hf76 kk ii (by omega))).trans (hf8j kk ii (by omega))).trans (hf5 kk ii (by omega))
          rw [← hQ]
          exact z_vret CX hW (by rw [hE]; exact ⟨rfl, hI91, hFr, (show (S 0 6 ≤ S91 0 6 ∧ (S 0 6 ≤ S 0 5 → S91 0 6 ≤ S 0 5)) ∧ (S 0 8 ≠ 0 → S91 0 8 ≠ 0) from by omega)⟩) dX12_takesAtom_188
        ·
          refine lv_aload_n hX0 hB0 dX12_takesAtom_150 rfl (lv_at hl 2 rfl) ?_
          refine lv_aload_n hX0 hB0 dX12_takesAtom_151 rfl (lv_at hl 2 rfl) ?_
          refine z_get (Cn := RX12) (T := TX12) (N := 37) CX hW (v := .int (zI (S91 0 19))) zMO_0 rfl (fun w h => List.mem_cons_of_mem _ (List.mem_append_right _ h)) 19 (by decide) (List.mem_of_getElem? (i := 4) rfl) rfl rfl dX12_takesAtom_152 ?_
          have hr152 := hI91.s19
          refine z_calli hW (va_runS (As := [.int (zI (S91 0 19))]) (rest := [.ref o]) CX.fix (zk_productOf l (f := zMO cI cJ o S91 f) (S91 0 19) (by constructor <;> omega)) (va_cwS 1 CX.fix.2.2.2.2 gX12_takesAtom_X12_productOf rfl rfl rfl (by decide +kernel) ⟨Nat.le_of_ble_eq_true rfl, Nat.le_of_ble_eq_true rfl⟩) (z_preS CX hW) rfl rfl hl.1 rfl (lv_room (Nat.le_of_ble_eq_true rfl)) dX12_takesAtom_155 ⟨Nat.zero_le _, Nat.zero_le _⟩) (fun z155 gn H locs hok hW => ?_)
          obtain ⟨hz155, hg, hq155⟩ := hok
          rw [hg] at hW
          clear hg
          have e155 : zm_productOf (S91 0 19) = z155 := hz155.symm
          clear hz155
          refine lv_aload_n hX0 hB0 dX12_takesAtom_158 rfl (lv_at hl 2 rfl) ?_
          refine z_get (Cn := RX12) (T := TX12) (N := 37) CX hW (v := .int (zI (S91 0 19))) zMO_0 rfl (fun w h => List.mem_cons_of_mem _ (List.mem_append_right _ h)) 19 (by decide) (List.mem_of_getElem? (i := 4) rfl) rfl rfl dX12_takesAtom_159 ?_
          have hr159 := hI91.s19
          refine z_calli hW (va_runS (As := [.int (zI (S91 0 19))]) (rest := [.int (zI z155), .ref o]) CX.fix (zk_productOf l (f := zMO cI cJ o S91 f) (S91 0 19) (by constructor <;> omega)) (va_cwS 1 CX.fix.2.2.2.2 gX12_takesAtom_X12_productOf rfl rfl rfl (by decide +kernel) ⟨Nat.le_of_ble_eq_true rfl, Nat.le_of_ble_eq_true rfl⟩) (z_preS CX hW) rfl rfl hl.1 rfl (lv_room (Nat.le_of_ble_eq_true rfl)) dX12_takesAtom_162 ⟨Nat.zero_le _, Nat.zero_le _⟩) (fun z162 gn H locs hok hW => ?_)
          obtain ⟨hz162, hg, hq162⟩ := hok
          rw [hg] at hW
          clear hg
          have e162 : zm_productOf (S91 0 19) = z162 := hz162.symm
          clear hz162
          refine lv_sipush (v := zI 140) hX0 hB0 dX12_takesAtom_165 (by decide) ?_
          refine z_calli hW (va_runV (C := RX12) (As := [.int (zI z155), .int (zI z162), .int (zI 140)]) (rest := []) CX.fix (zk_multiplies l o S91 z155 z162 140 hI91 (by constructor <;> omega) (by constructor <;> omega) (by constructor <;> omega)) (cwV 3 CX.fix.2.2.2.2 gX12_takesAtom_X12_multiplies rfl rfl rfl (by decide +kernel) ⟨Nat.le_of_ble_eq_true rfl, Nat.le_of_ble_eq_true rfl⟩) (z_preV CX hW (r := (RX12, TX12, 37)) zMO_0 rfl) rfl rfl hl.1 rfl (lv_room (Nat.le_of_ble_eq_true rfl)) dX12_takesAtom_168 ⟨Nat.zero_le _, Nat.zero_le _⟩) (fun z168 gn H locs hok hW => ?_)
          obtain ⟨hz168, hg, hI168, hf168, hq168⟩ := hok
          obtain ⟨S168, hS168⟩ : ∃ q, q = (zm_multiplies S91 z155 z162 140).2 := ⟨_, rfl⟩
          rw [← hS168] at hg hI168 hf168
          have t168_5 : S168 0 5 = S91 0 5 := hf168 0 5 (by omega)
          have t168_6 : S168 0 6 = S91 0 6 := hf168 0 6 (by omega)
          have t168_7 : S168 0 7 = S91 0 7 := hf168 0 7 (by omega)
          have t168_8 : S168 0 8 = S91 0 8 := hf168 0 8 (by omega)
          have t168_15 : S168 0 15 = S91 0 15 := hf168 0 15 (by omega)
          have t168_19 : S168 0 19 = S91 0 19 := hf168 0 19 (by omega)
          skip
          try rw [← hS168] at hq168
          rw [hg] at hW
          clear hg
          have e168 : zm_multiplies S91 z155 z162 140 = (z168, S168) := Prod.ext hz168.symm hS168.symm
          clear hz168 hS168
          refine z_if_ne (tgt := 188) CX dX12_takesAtom_171 (by decide) (by constructor <;> omega) (fun c_171 => ?_) (fun c_171 => ?_)
          ·
            have hE : zm_takesAtom S = S168 := by unfold zm_takesAtom; exact zlet_e e5 (zlet_e e8j (zlet_e e65 (zif_f c_68 (zlet_e e76 (zlet_e e86 (zlet_e e91 (zlet_e e144 (zif_f c_147 (zlet_e e155 (zlet_e e162 (zlet_e e168 (zif_f c_171 rfl))))))))))))
            have hFr : ∀ kk ii : Nat, ¬ (kk = 0 ∧ ii = 6) ∧ ¬ (kk = 0 ∧ ii = 7) ∧ ¬ (kk = 0 ∧ ii = 8) ∧ ¬ (kk = 0 ∧ ii = 9) ∧ ¬ (kk = 3 ∧ 300 ≤ (ii : Int)) ∧ ¬ kk = 4 → S168 kk ii = S kk ii := fun kk ii hk => ((((((hf168 kk ii (by omega))).trans (hf91 kk ii (by omega))).trans (hf86 kk ii (by omega))).trans (hf76 kk ii (by omega))).trans (hf8j kk ii (by omega))).trans (hf5 kk ii (by omega))
            rw [← hQ]
            exact z_vret CX hW (by rw [hE]; exact ⟨rfl, hI168, hFr, (show (S 0 6 ≤ S168 0 6 ∧ (S 0 6 ≤ S 0 5 → S168 0 6 ≤ S 0 5)) ∧ (S 0 8 ≠ 0 → S168 0 8 ≠ 0) from by omega)⟩) dX12_takesAtom_188
          ·
            refine lv_aload_n hX0 hB0 dX12_takesAtom_174 rfl (lv_at hl 2 rfl) ?_
            refine lv_iconst (v := zI 4) hX0 hB0 dX12_takesAtom_175 rfl ?_
            refine lv_aload_n hX0 hB0 dX12_takesAtom_176 rfl (lv_at hl 2 rfl) ?_
            refine z_get (Cn := RX12) (T := TX12) (N := 37) CX hW (v := .ref (o + 8)) zMO_0 rfl (fun w h => List.mem_cons_of_mem _ (List.mem_append_right _ h)) 18 (by decide) (List.mem_of_getElem? (i := 5) rfl) rfl rfl dX12_takesAtom_177 ?_
            refine lv_aload_n hX0 hB0 dX12_takesAtom_180 rfl (lv_at hl 2 rfl) ?_
            refine z_get (Cn := RX12) (T := TX12) (N := 37) CX hW (v := .int (zI (S168 0 19))) zMO_0 rfl (fun w h => List.mem_cons_of_mem _ (List.mem_append_right _ h)) 19 (by decide) (List.mem_of_getElem? (i := 4) rfl) rfl rfl dX12_takesAtom_181 ?_
            have hr181 := hI168.s19
            refine z_iald (z := S168 8 ((S168 0 19).toNat)) CX hW zMO_8 0 rfl (by refine ⟨?_, ?_, ?_⟩ <;> omega) rfl dX12_takesAtom_184 ?_
            have hr184 := hI168.r8 ((S168 0 19).toNat)
            refine z_callv hW (va_runV (C := RX12) (As := [.int (zI 4), .int (zI (S168 8 ((S168 0 19).toNat)))]) (rest := []) CX.fix (zk_faults l o S168 4 (S168 8 ((S168 0 19).toNat)) hI168 (by constructor <;> omega) (by constructor <;> omega)) (cwV 2 CX.fix.2.2.2.2 gX12_takesAtom_X12_faults rfl rfl rfl (by decide +kernel) ⟨Nat.le_of_ble_eq_true rfl, Nat.le_of_ble_eq_true rfl⟩) (z_preV CX hW (r := (RX12, TX12, 37)) zMO_0 rfl) rfl rfl hl.1 rfl (lv_room (Nat.le_of_ble_eq_true rfl)) dX12_takesAtom_185 ⟨Nat.zero_le _, Nat.zero_le _⟩) (fun gn H locs hok hW => ?_)
            obtain ⟨hg, hI185, hf185, hq185⟩ := hok
            obtain ⟨S185, e185⟩ : ∃ q, zm_faults S168 4 (S168 8 ((S168 0 19).toNat)) = q := ⟨_, rfl⟩
            rw [e185] at hg hI185 hf185
            have t185_5 : S185 0 5 = S168 0 5 := hf185 0 5 (by omega)
            have t185_6 : S185 0 6 = S168 0 6 := hf185 0 6 (by omega)
            have t185_7 : S185 0 7 = S168 0 7 := hf185 0 7 (by omega)
            have t185_15 : S185 0 15 = S168 0 15 := hf185 0 15 (by omega)
            have t185_19 : S185 0 19 = S168 0 19 := hf185 0 19 (by omega)
            skip
            try rw [e185] at hq185
            rw [hg] at hW
            clear hg
            have hE : zm_takesAtom S = S185 := by unfold zm_takesAtom; exact zlet_e e5 (zlet_e e8j (zlet_e e65 (zif_f c_68 (zlet_e e76 (zlet_e e86 (zlet_e e91 (zlet_e e144 (zif_f c_147 (zlet_e e155 (zlet_e e162 (zlet_e e168 (zif_t c_171 (zlet_e e185 rfl)))))))))))))
            have hFr : ∀ kk ii : Nat, ¬ (kk = 0 ∧ ii = 6) ∧ ¬ (kk = 0 ∧ ii = 7) ∧ ¬ (kk = 0 ∧ ii = 8) ∧ ¬ (kk = 0 ∧ ii = 9) ∧ ¬ (kk = 3 ∧ 300 ≤ (ii : Int)) ∧ ¬ kk = 4 → S185 kk ii = S kk ii := fun kk ii hk => (((((((hf185 kk ii (by omega))).trans (hf168 kk ii (by omega))).trans (hf91 kk ii (by omega))).trans (hf86 kk ii (by omega))).trans (hf76 kk ii (by omega))).trans (hf8j kk ii (by omega))).trans (hf5 kk ii (by omega))
            rw [← hQ]
            exact z_vret CX hW (by rw [hE]; exact ⟨rfl, hI185, hFr, (show (S 0 6 ≤ S185 0 6 ∧ (S 0 6 ≤ S 0 5 → S185 0 6 ≤ S 0 5)) ∧ (S 0 8 ≠ 0 → S185 0 8 ≠ 0) from by omega)⟩) dX12_takesAtom_188
      have hL91 : ∀ (fu : Nat) (k91 : Int) (S91 : zS2), (zm_takesAtom_W91 n8j ((6 : Nat)) 0 S86 = zm_takesAtom_W91 n8j fu k91 S91 ∧ mI S91 ∧ (∀ kk ii : Nat, ¬ (kk = 0 ∧ ii = 8) ∧ ¬ (kk = 0 ∧ ii = 9) ∧ ¬ (kk = 3 ∧ 300 ≤ (ii : Int)) ∧ ¬ kk = 4 → S91 kk ii = S86 kk ii) ∧ 0 ≤ k91 ∧ k91 ≤ 4 ∧ (S86 0 6 ≤ S91 0 6 ∧ (S86 0 6 ≤ S86 0 5 → S91 0 6 ≤ S86 0 5) ∧ (S86 0 8 ≠ 0 → S91 0 8 ≠ 0))) → (5 - k91).toNat < fu → ∀ (H : Heap) (locs : List Loc) (ls : Array Slot), zW D (zT cI cJ cZ cP cS cM) L (zQ L sz) st (zMO cI cJ o S91 f) st.heap H locs → lv_has ls 4 [(2, .int (zI k91)), (1, .int (zI n8j)), (0, .ref o)] → W pg l en ({ frames := 3, cells := 0, slots := 0, locals := 76 } : Room) st mi ag bl mt cd H locs 0 0 Q (F0 mi 91 ls []) := by
        intro fu
        induction fu with
        | zero => intro k91 S91 _ hfu; exact absurd hfu (Nat.not_lt_zero _)
        | succ fu ih91 =>
          intro k91 S91 hinv hfu91 H locs ls hW hl
          obtain ⟨hz91, hI91, hf91, hak91, hbk91, hv91⟩ := hinv
          have hp91 := hI91.s10
          have t91_5 : S91 0 5 = S86 0 5 := hf91 0 5 (by omega)
          have t91_6 : S91 0 6 = S86 0 6 := hf91 0 6 (by omega)
          have t91_7 : S91 0 7 = S86 0 7 := hf91 0 7 (by omega)
          have t91_15 : S91 0 15 = S86 0 15 := hf91 0 15 (by omega)
          have t91_19 : S91 0 19 = S86 0 19 := hf91 0 19 (by omega)
          refine lv_iload_n hX0 hB0 dX12_takesAtom_91 rfl (lv_at hl 0 rfl) ?_
          refine lv_iload_n hX0 hB0 dX12_takesAtom_92 rfl (lv_at hl 1 rfl) ?_
          refine z_icmp_ge (tgt := 143) CX dX12_takesAtom_93 (by decide) (by constructor <;> omega) (by constructor <;> omega) (fun c_93 => ?_) (fun c_93 => ?_)
          ·
            exact hXt91 k91 S91 ⟨hz91.trans (by rw [zm_takesAtom_W91]; exact zif_t c_93 rfl), hI91, fun kk ii hk => (hf91 kk ii (by omega)), by omega, by omega, ⟨by omega, by omega, by omega⟩⟩ H locs ls hW (lv_sub hl [0, 1, 2] rfl)
          ·
            have d_93 : ¬ n8j ≤ k91 := by omega
            refine lv_aload_n hX0 hB0 dX12_takesAtom_96 rfl (lv_at hl 2 rfl) ?_
            refine z_calli hW (va_runV (C := RX12) (As := []) (rest := []) CX.fix (zk_goesWell l o S91  hI91 ) (cwV 0 CX.fix.2.2.2.2 gX12_takesAtom_X12_goesWell rfl rfl rfl (by decide +kernel) ⟨Nat.le_of_ble_eq_true rfl, Nat.le_of_ble_eq_true rfl⟩) (z_preV CX hW (r := (RX12, TX12, 37)) zMO_0 rfl) rfl rfl hl.1 rfl (lv_room (Nat.le_of_ble_eq_true rfl)) dX12_takesAtom_97 ⟨Nat.zero_le _, Nat.zero_le _⟩) (fun z97 gn H locs hok hW => ?_)
            obtain ⟨hz97, hg, hq97⟩ := hok
            rw [hg] at hW
            clear hg
            have e97 : zm_goesWell S91 = z97 := hz97.symm
            clear hz97
            refine z_if_eq (tgt := 143) CX dX12_takesAtom_100 (by decide) (by constructor <;> omega) (fun c_100 => ?_) (fun c_100 => ?_)
            ·
              exact hXt91 k91 S91 ⟨hz91.trans (by rw [zm_takesAtom_W91]; exact zif_f d_93 (zlet_e e97 (zif_t c_100 rfl))), hI91, fun kk ii hk => (hf91 kk ii (by omega)), by omega, by omega, ⟨by omega, by omega, by omega⟩⟩ H locs ls hW (lv_sub hl [0, 1, 2] rfl)
            ·
              refine lv_aload_n hX0 hB0 dX12_takesAtom_103 rfl (lv_at hl 2 rfl) ?_
              refine lv_sipush (v := zI 140) hX0 hB0 dX12_takesAtom_104 (by decide) ?_
              refine lv_sipush (v := zI 140) hX0 hB0 dX12_takesAtom_107 (by decide) ?_
              refine lv_aload_n hX0 hB0 dX12_takesAtom_110 rfl (lv_at hl 2 rfl) ?_
              refine z_get (Cn := RX12) (T := TX12) (N := 37) CX hW (v := .int (zI (S91 0 19))) zMO_0 rfl (fun w h => List.mem_cons_of_mem _ (List.mem_append_right _ h)) 19 (by decide) (List.mem_of_getElem? (i := 4) rfl) rfl rfl dX12_takesAtom_111 ?_
              have hr111 := hI91.s19
              refine z_calli hW (va_runS (As := [.int (zI (S91 0 19))]) (rest := [.int (zI 140), .int (zI 140), .ref o]) CX.fix (zk_atomOf l (f := zMO cI cJ o S91 f) (S91 0 19) (by constructor <;> omega)) (va_cwS 1 CX.fix.2.2.2.2 gX12_takesAtom_X12_atomOf rfl rfl rfl (by decide +kernel) ⟨Nat.le_of_ble_eq_true rfl, Nat.le_of_ble_eq_true rfl⟩) (z_preS CX hW) rfl rfl hl.1 rfl (lv_room (Nat.le_of_ble_eq_true rfl)) dX12_takesAtom_114 ⟨Nat.zero_le _, Nat.zero_le _⟩) (fun z114 gn H locs hok hW => ?_)
              obtain ⟨hz114, hg, hq114⟩ := hok
              rw [hg] at hW
              clear hg
              have e114 : zm_atomOf (S91 0 19) = z114 := hz114.symm
              clear hz114
              refine z_calli hW (va_runV (C := RX12) (As := [.int (zI 140), .int (zI 140), .int (zI z114)]) (rest := []) CX.fix (zk_multiplies l o S91 140 140 z114 hI91 (by constructor <;> omega) (by constructor <;> omega) (by constructor <;> omega)) (cwV 3 CX.fix.2.2.2.2 gX12_takesAtom_X12_multiplies rfl rfl rfl (by decide +kernel) ⟨Nat.le_of_ble_eq_true rfl, Nat.le_of_ble_eq_true rfl⟩) (z_preV CX hW (r := (RX12, TX12, 37)) zMO_0 rfl) rfl rfl hl.1 rfl (lv_room (Nat.le_of_ble_eq_true rfl)) dX12_takesAtom_117 ⟨Nat.zero_le _, Nat.zero_le _⟩) (fun z117 gn H locs hok hW => ?_)
              obtain ⟨hz117, hg, hI117, hf117, hq117⟩ := hok
              obtain ⟨S117, hS117⟩ : ∃ q, q = (zm_multiplies S91 140 140 z114).2 := ⟨_, rfl⟩
              rw [← hS117] at hg hI117 hf117
              have t117_5 : S117 0 5 = S91 0 5 := hf117 0 5 (by omega)
              have t117_6 : S117 0 6 = S91 0 6 := hf117 0 6 (by omega)
              have t117_7 : S117 0 7 = S91 0 7 := hf117 0 7 (by omega)
              have t117_8 : S117 0 8 = S91 0 8 := hf117 0 8 (by omega)
              have t117_15 : S117 0 15 = S91 0 15 := hf117 0 15 (by omega)
              have t117_19 : S117 0 19 = S91 0 19 := hf117 0 19 (by omega)
              skip
              try rw [← hS117] at hq117
              rw [hg] at hW
              clear hg
              have e117 : zm_multiplies S91 140 140 z114 = (z117, S117) := Prod.ext hz117.symm hS117.symm
              clear hz117 hS117
              refine z_if_ne (tgt := 137) CX dX12_takesAtom_120 (by decide) (by constructor <;> omega) (fun c_120 => ?_) (fun c_120 => ?_)
              ·
                refine lv_iinc (v := zI (k91 + 1)) (lv' := [(2, .int (zI (k91 + 1))), (1, .int (zI n8j)), (0, .ref o)]) hX0 hB0 dX12_takesAtom_137 hl (k := 0) rfl (zI_add _ _) (by decide) rfl (fun ls hl => ?_)
                refine lv_goto (tgt := 91) hX0 hB0 dX12_takesAtom_140 (by decide) ?_
                exact ih91 (k91 + 1) S117 ⟨hz91.trans (by rw [zm_takesAtom_W91]; exact zif_f d_93 (zlet_e e97 (zif_f c_100 (zlet_e e114 (zlet_e e117 (zif_f c_120 rfl)))))), hI117, fun kk ii hk => ((hf117 kk ii (by omega))).trans (hf91 kk ii (by omega)), by omega, by omega, ⟨by omega, by omega, by omega⟩⟩ (by omega) H locs ls hW (lv_sub hl [0, 1, 2] rfl)
              ·
                refine lv_aload_n hX0 hB0 dX12_takesAtom_123 rfl (lv_at hl 2 rfl) ?_
                refine lv_iconst (v := zI 4) hX0 hB0 dX12_takesAtom_124 rfl ?_
                refine lv_aload_n hX0 hB0 dX12_takesAtom_125 rfl (lv_at hl 2 rfl) ?_
                refine z_get (Cn := RX12) (T := TX12) (N := 37) CX hW (v := .ref (o + 8)) zMO_0 rfl (fun w h => List.mem_cons_of_mem _ (List.mem_append_right _ h)) 18 (by decide) (List.mem_of_getElem? (i := 5) rfl) rfl rfl dX12_takesAtom_126 ?_
                refine lv_aload_n hX0 hB0 dX12_takesAtom_129 rfl (lv_at hl 2 rfl) ?_
                refine z_get (Cn := RX12) (T := TX12) (N := 37) CX hW (v := .int (zI (S117 0 19))) zMO_0 rfl (fun w h => List.mem_cons_of_mem _ (List.mem_append_right _ h)) 19 (by decide) (List.mem_of_getElem? (i := 4) rfl) rfl rfl dX12_takesAtom_130 ?_
                have hr130 := hI117.s19
                refine z_iald (z := S117 8 ((S117 0 19).toNat)) CX hW zMO_8 0 rfl (by refine ⟨?_, ?_, ?_⟩ <;> omega) rfl dX12_takesAtom_133 ?_
                have hr133 := hI117.r8 ((S117 0 19).toNat)
                refine z_callv hW (va_runV (C := RX12) (As := [.int (zI 4), .int (zI (S117 8 ((S117 0 19).toNat)))]) (rest := []) CX.fix (zk_faults l o S117 4 (S117 8 ((S117 0 19).toNat)) hI117 (by constructor <;> omega) (by constructor <;> omega)) (cwV 2 CX.fix.2.2.2.2 gX12_takesAtom_X12_faults rfl rfl rfl (by decide +kernel) ⟨Nat.le_of_ble_eq_true rfl, Nat.le_of_ble_eq_true rfl⟩) (z_preV CX hW (r := (RX12, TX12, 37)) zMO_0 rfl) rfl rfl hl.1 rfl (lv_room (Nat.le_of_ble_eq_true rfl)) dX12_takesAtom_134 ⟨Nat.zero_le _, Nat.zero_le _⟩) (fun gn H locs hok hW => ?_)
                obtain ⟨hg, hI134, hf134, hq134⟩ := hok
                obtain ⟨S134, e134⟩ : ∃ q, zm_faults S117 4 (S117 8 ((S117 0 19).toNat)) = q := ⟨_, rfl⟩
                rw [e134] at hg hI134 hf134
                have t134_5 : S134 0 5 = S117 0 5 := hf134 0 5 (by omega)
                have t134_6 : S134 0 6 = S117 0 6 := hf134 0 6 (by omega)
                have t134_7 : S134 0 7 = S117 0 7 := hf134 0 7 (by omega)
                have t134_15 : S134 0 15 = S117 0 15 := hf134 0 15 (by omega)
                have t134_19 : S134 0 19 = S117 0 19 := hf134 0 19 (by omega)
                skip
                try rw [e134] at hq134
                rw [hg] at hW
                clear hg
                refine lv_iinc (v := zI (k91 + 1)) (lv' := [(2, .int (zI (k91 + 1))), (1, .int (zI n8j)), (0, .ref o)]) hX0 hB0 dX12_takesAtom_137 hl (k := 0) rfl (zI_add _ _) (by decide) rfl (fun ls hl => ?_)
                refine lv_goto (tgt := 91) hX0 hB0 dX12_takesAtom_140 (by decide) ?_
                exact ih91 (k91 + 1) S134 ⟨hz91.trans (by rw [zm_takesAtom_W91]; exact zif_f d_93 (zlet_e e97 (zif_f c_100 (zlet_e e114 (zlet_e e117 (zif_t c_120 (zlet_e e134 rfl))))))), hI134, fun kk ii hk => (((hf134 kk ii (by omega))).trans (hf117 kk ii (by omega))).trans (hf91 kk ii (by omega)), by omega, by omega, ⟨by omega, by omega, by omega⟩⟩ (by omega) H locs ls hW (lv_sub hl [0, 1, 2] rfl)
      exact hL91 _ 0 S86 ⟨rfl, hI86, fun kk ii hk => rfl, by omega, by omega, ⟨by omega, by omega, by omega⟩⟩ (by omega) H locs ls hW (lv_sub hl [0, 1, 2] rfl)
    ·
      have hE : zm_takesAtom S = S8j := by unfold zm_takesAtom; exact zlet_e e5 (zlet_e e8j (zlet_e e65 (zif_t c_68 rfl)))
      have hFr : ∀ kk ii : Nat, ¬ (kk = 0 ∧ ii = 6) ∧ ¬ (kk = 0 ∧ ii = 7) ∧ ¬ (kk = 0 ∧ ii = 8) ∧ ¬ (kk = 0 ∧ ii = 9) ∧ ¬ (kk = 3 ∧ 300 ≤ (ii : Int)) ∧ ¬ kk = 4 → S8j kk ii = S kk ii := fun kk ii hk => ((hf8j kk ii (by omega))).trans (hf5 kk ii (by omega))
      rw [← hQ]
      exact z_vret CX hW (by rw [hE]; exact ⟨rfl, hI8j, hFr, (show (S 0 6 ≤ S8j 0 6 ∧ (S 0 6 ≤ S 0 5 → S8j 0 6 ≤ S 0 5)) ∧ (S 0 8 ≠ 0 → S8j 0 8 ≠ 0) from by omega)⟩) dX12_takesAtom_71
  refine z_if_eq (tgt := 64) CX dX12_takesAtom_8 (by decide) (by constructor <;> omega) (fun c_8 => ?_) (fun c_8 => ?_)
  ·
    exact hJ8 1 S5 ⟨(by unfold zm_takesAtom_J8; exact zif_t c_8 rfl), hI5, fun kk ii hk => rfl, by omega, by omega, ⟨by omega, by omega, by omega⟩⟩ H locs ls hW (lv_sub hl [0, 1] rfl)
  ·
    refine lv_aload_n hX0 hB0 dX12_takesAtom_11 rfl (lv_at hl 1 rfl) ?_
    refine lv_dup hX0 hB0 dX12_takesAtom_12 rfl ?_
    refine z_get (Cn := RX12) (T := TX12) (N := 37) CX hW (v := .int (zI (S5 0 6))) zMO_0 rfl (fun w h => List.mem_cons_of_mem _ (List.mem_append_right _ h)) 6 (by decide) (List.mem_of_getElem? (i := 1) rfl) rfl rfl dX12_takesAtom_13 ?_
    have hr13 := hI5.s6
    refine lv_iconst (v := zI 1) hX0 hB0 dX12_takesAtom_16 rfl ?_
    refine z_iadd (z := (S5 0 6) + 1) CX dX12_takesAtom_17 rfl ?_
    obtain ⟨S18, e18⟩ : ∃ q, za S5 0 6 ((S5 0 6) + 1) = q := ⟨_, rfl⟩
    refine z_put (Cn := RX12) (T := TX12) (N := 37) CX hW (v := .int (zI ((S5 0 6) + 1))) zMO_0 rfl (fun w h => List.mem_cons_of_mem _ (List.mem_append_right _ h)) tyX12 tyX12_ok nmX12 6 (by decide) (List.mem_of_getElem? (i := 1) rfl) rfl rfl rfl rfl (Nat.le_of_ble_eq_true rfl) (g := zMO cI cJ o S18 f) (zMO_s6.trans (by rw [e18])) dX12_takesAtom_18 (fun H locs hW => ?_)
    have hI18 : mI S18 := e18 ▸ hI5.v6 (by constructor <;> omega)
    have t18_5 : S18 0 5 = S5 0 5 := by rw [← e18]; exact za_ne (by omega)
    have t18_6 : S18 0 6 = (S5 0 6) + 1 := by rw [← e18]; exact za_same
    have t18_7 : S18 0 7 = S5 0 7 := by rw [← e18]; exact za_ne (by omega)
    have t18_8 : S18 0 8 = S5 0 8 := by rw [← e18]; exact za_ne (by omega)
    have t18_15 : S18 0 15 = S5 0 15 := by rw [← e18]; exact za_ne (by omega)
    have t18_19 : S18 0 19 = S5 0 19 := by rw [← e18]; exact za_ne (by omega)
    refine lv_aload_n hX0 hB0 dX12_takesAtom_21 rfl (lv_at hl 1 rfl) ?_
    refine z_calll hW (va_runV (C := RX12) (As := []) (rest := []) CX.fix (zk_number l o S18  hI18 ) (cwV 0 CX.fix.2.2.2.2 gX12_takesAtom_X12_number rfl rfl rfl (by decide +kernel) ⟨Nat.le_of_ble_eq_true rfl, Nat.le_of_ble_eq_true rfl⟩) (z_preV CX hW (r := (RX12, TX12, 37)) zMO_0 rfl) rfl rfl hl.1 rfl (lv_room (Nat.le_of_ble_eq_true rfl)) dX12_takesAtom_22 ⟨Nat.zero_le _, Nat.zero_le _⟩) (fun z22 gn H locs hok hW => ?_)
    obtain ⟨hz22, hg, hI22, hf22, hq22⟩ := hok
    obtain ⟨S22, hS22⟩ : ∃ q, q = (zm_number S18).2 := ⟨_, rfl⟩
    rw [← hS22] at hg hI22 hf22
    have t22_5 : S22 0 5 = S18 0 5 := hf22 0 5 (by omega)
    have t22_15 : S22 0 15 = S18 0 15 := hf22 0 15 (by omega)
    have t22_19 : S22 0 19 = S18 0 19 := hf22 0 19 (by omega)
    skip
    try rw [← hS22] at hq22
    rw [hg] at hW
    clear hg
    have e22 : zm_number S18 = (z22, S22) := Prod.ext hz22.symm hS22.symm
    clear hz22 hS22
    refine lv_lstore_n (lv' := [(2, .long (zL z22)), (1, .int (zI 1)), (0, .ref o)]) hX0 hB0 dX12_takesAtom_25 rfl hl (by decide) rfl (fun ls hl => ?_)
    refine lv_aload_n hX0 hB0 dX12_takesAtom_26 rfl (lv_at hl 2 rfl) ?_
    refine z_calli hW (va_runV (C := RX12) (As := []) (rest := []) CX.fix (zk_goesWell l o S22  hI22 ) (cwV 0 CX.fix.2.2.2.2 gX12_takesAtom_X12_goesWell rfl rfl rfl (by decide +kernel) ⟨Nat.le_of_ble_eq_true rfl, Nat.le_of_ble_eq_true rfl⟩) (z_preV CX hW (r := (RX12, TX12, 37)) zMO_0 rfl) rfl rfl hl.1 rfl (lv_room (Nat.le_of_ble_eq_true rfl)) dX12_takesAtom_27 ⟨Nat.zero_le _, Nat.zero_le _⟩) (fun z27 gn H locs hok hW => ?_)
    obtain ⟨hz27, hg, hq27⟩ := hok
    rw [hg] at hW
    clear hg
    have e27 : zm_goesWell S22 = z27 := hz27.symm
    clear hz27
    refine z_if_eq (tgt := 50) CX dX12_takesAtom_30 (by decide) (by constructor <;> omega) (fun c_30 => ?_) (fun c_30 => ?_)
    ·
      refine lv_aload_n hX0 hB0 dX12_takesAtom_50 rfl (lv_at hl 2 rfl) ?_
      refine z_calli hW (va_runV (C := RX12) (As := []) (rest := []) CX.fix (zk_goesWell l o S22  hI22 ) (cwV 0 CX.fix.2.2.2.2 gX12_takesAtom_X12_goesWell rfl rfl rfl (by decide +kernel) ⟨Nat.le_of_ble_eq_true rfl, Nat.le_of_ble_eq_true rfl⟩) (z_preV CX hW (r := (RX12, TX12, 37)) zMO_0 rfl) rfl rfl hl.1 rfl (lv_room (Nat.le_of_ble_eq_true rfl)) dX12_takesAtom_51 ⟨Nat.zero_le _, Nat.zero_le _⟩) (fun z51 gn H locs hok hW => ?_)
      obtain ⟨hz51, hg, hq51⟩ := hok
      rw [hg] at hW
      clear hg
      have e51 : zm_goesWell S22 = z51 := hz51.symm
      clear hz51
      refine z_if_eq (tgt := 62) CX dX12_takesAtom_54 (by decide) (by constructor <;> omega) (fun c_54 => ?_) (fun c_54 => ?_)
      ·
        refine lv_iconst (v := zI 1) hX0 hB0 dX12_takesAtom_62 rfl ?_
        refine lv_istore_n (lv' := [(1, .int (zI 1)), (2, .long (zL z22)), (0, .ref o)]) hX0 hB0 dX12_takesAtom_63 rfl hl (by decide) rfl (fun ls hl => ?_)
        exact hJ8 1 S22 ⟨(by unfold zm_takesAtom_J8; exact zif_f c_8 (zlet_e e18 (zlet_e e22 (zlet_e e27 (zif_t c_30 (zlet_e e51 (zif_t c_54 rfl))))))), hI22, fun kk ii hk => ((hf22 kk ii (by omega))).trans (show S18 kk ii = S5 kk ii from by rw [← e18]; exact za_ne (by omega)), by omega, by omega, ⟨by omega, by omega, by omega⟩⟩ H locs ls hW (lv_sub hl [0, 2] rfl)
      ·
        refine lv_lload_n hX0 hB0 dX12_takesAtom_57 rfl (lv_at hl 0 rfl) ?_
        refine z_l2i CX dX12_takesAtom_58 ?_
        refine lv_goto (tgt := 63) hX0 hB0 dX12_takesAtom_59 (by decide) ?_
        refine lv_istore_n (lv' := [(1, .int (zI z22)), (2, .long (zL z22)), (0, .ref o)]) hX0 hB0 dX12_takesAtom_63 rfl hl (by decide) rfl (fun ls hl => ?_)
        exact hJ8 z22 S22 ⟨(by unfold zm_takesAtom_J8; exact zif_f c_8 (zlet_e e18 (zlet_e e22 (zlet_e e27 (zif_t c_30 (zlet_e e51 (zif_f c_54 rfl))))))), hI22, fun kk ii hk => ((hf22 kk ii (by omega))).trans (show S18 kk ii = S5 kk ii from by rw [← e18]; exact za_ne (by omega)), by omega, by omega, ⟨by omega, by omega, by omega⟩⟩ H locs ls hW (lv_sub hl [0, 2] rfl)
    ·
      refine lv_lload_n hX0 hB0 dX12_takesAtom_33 rfl (lv_at hl 0 rfl) ?_
      refine lv_ldc2 (v := zL 4) hX0 hB0 CX.2.2.2.1 (CX.at (List.mem_of_getElem? (i := 2) rfl)) dX12_takesAtom_34 ?_
      refine z_lcmp CX dX12_takesAtom_37 (by constructor <;> omega) (by constructor <;> omega) ?_
      have hcm37 := zcmp_rng z22 4
      refine z_if_le (tgt := 50) CX dX12_takesAtom_38 (by decide) (by constructor <;> omega) (fun c_38 => ?_) (fun c_38 => ?_)
      ·
        simp only [zcmp_lt, zcmp_le, zcmp_gt, zcmp_ge, zcmp_eq] at c_38
        refine lv_aload_n hX0 hB0 dX12_takesAtom_50 rfl (lv_at hl 2 rfl) ?_
        refine z_calli hW (va_runV (C := RX12) (As := []) (rest := []) CX.fix (zk_goesWell l o S22  hI22 ) (cwV 0 CX.fix.2.2.2.2 gX12_takesAtom_X12_goesWell rfl rfl rfl (by decide +kernel) ⟨Nat.le_of_ble_eq_true rfl, Nat.le_of_ble_eq_true rfl⟩) (z_preV CX hW (r := (RX12, TX12, 37)) zMO_0 rfl) rfl rfl hl.1 rfl (lv_room (Nat.le_of_ble_eq_true rfl)) dX12_takesAtom_51 ⟨Nat.zero_le _, Nat.zero_le _⟩) (fun z51 gn H locs hok hW => ?_)
        obtain ⟨hz51, hg, hq51⟩ := hok
        rw [hg] at hW
        clear hg
        have e51 : zm_goesWell S22 = z51 := hz51.symm
        clear hz51
        refine z_if_eq (tgt := 62) CX dX12_takesAtom_54 (by decide) (by constructor <;> omega) (fun c_54 => ?_) (fun c_54 => ?_)
        ·
          refine lv_iconst (v := zI 1) hX0 hB0 dX12_takesAtom_62 rfl ?_
          refine lv_istore_n (lv' := [(1, .int (zI 1)), (2, .long (zL z22)), (0, .ref o)]) hX0 hB0 dX12_takesAtom_63 rfl hl (by decide) rfl (fun ls hl => ?_)
          exact hJ8 1 S22 ⟨(by unfold zm_takesAtom_J8; exact zif_f c_8 (zlet_e e18 (zlet_e e22 (zlet_e e27 (zif_f c_30 (zif_t c_38 (zlet_e e51 (zif_t c_54 rfl)))))))), hI22, fun kk ii hk => ((hf22 kk ii (by omega))).trans (show S18 kk ii = S5 kk ii from by rw [← e18]; exact za_ne (by omega)), by omega, by omega, ⟨by omega, by omega, by omega⟩⟩ H locs ls hW (lv_sub hl [0, 2] rfl)
        ·
          refine lv_lload_n hX0 hB0 dX12_takesAtom_57 rfl (lv_at hl 0 rfl) ?_
          refine z_l2i CX dX12_takesAtom_58 ?_
          refine lv_goto (tgt := 63) hX0 hB0 dX12_takesAtom_59 (by decide) ?_
          refine lv_istore_n (lv' := [(1, .int (zI z22)), (2, .long (zL z22)), (0, .ref o)]) hX0 hB0 dX12_takesAtom_63 rfl hl (by decide) rfl (fun ls hl => ?_)
          exact hJ8 z22 S22 ⟨(by unfold zm_takesAtom_J8; exact zif_f c_8 (zlet_e e18 (zlet_e e22 (zlet_e e27 (zif_f c_30 (zif_t c_38 (zlet_e e51 (zif_f c_54 rfl)))))))), hI22, fun kk ii hk => ((hf22 kk ii (by omega))).trans (show S18 kk ii = S5 kk ii from by rw [← e18]; exact za_ne (by omega)), by omega, by omega, ⟨by omega, by omega, by omega⟩⟩ H locs ls hW (lv_sub hl [0, 2] rfl)
      ·
        simp only [zcmp_lt, zcmp_le, zcmp_gt, zcmp_ge, zcmp_eq] at c_38
        have d_38 : ¬ z22 ≤ 4 := by omega
        refine lv_aload_n hX0 hB0 dX12_takesAtom_41 rfl (lv_at hl 2 rfl) ?_
        refine lv_iconst (v := zI 2) hX0 hB0 dX12_takesAtom_42 rfl ?_
        refine lv_aload_n hX0 hB0 dX12_takesAtom_43 rfl (lv_at hl 2 rfl) ?_
        refine z_get (Cn := RX12) (T := TX12) (N := 37) CX hW (v := .int (zI (S22 0 7))) zMO_0 rfl (fun w h => List.mem_cons_of_mem _ (List.mem_append_right _ h)) 7 (by decide) (List.mem_of_getElem? (i := 3) rfl) rfl rfl dX12_takesAtom_44 ?_
        have hr44 := hI22.s7
        refine z_callv hW (va_runV (C := RX12) (As := [.int (zI 2), .int (zI (S22 0 7))]) (rest := []) CX.fix (zk_faults l o S22 2 (S22 0 7) hI22 (by constructor <;> omega) (by constructor <;> omega)) (cwV 2 CX.fix.2.2.2.2 gX12_takesAtom_X12_faults rfl rfl rfl (by decide +kernel) ⟨Nat.le_of_ble_eq_true rfl, Nat.le_of_ble_eq_true rfl⟩) (z_preV CX hW (r := (RX12, TX12, 37)) zMO_0 rfl) rfl rfl hl.1 rfl (lv_room (Nat.le_of_ble_eq_true rfl)) dX12_takesAtom_47 ⟨Nat.zero_le _, Nat.zero_le _⟩) (fun gn H locs hok hW => ?_)
        obtain ⟨hg, hI47, hf47, hq47⟩ := hok
        obtain ⟨S47, e47⟩ : ∃ q, zm_faults S22 2 (S22 0 7) = q := ⟨_, rfl⟩
        rw [e47] at hg hI47 hf47
        have t47_5 : S47 0 5 = S22 0 5 := hf47 0 5 (by omega)
        have t47_6 : S47 0 6 = S22 0 6 := hf47 0 6 (by omega)
        have t47_7 : S47 0 7 = S22 0 7 := hf47 0 7 (by omega)
        have t47_15 : S47 0 15 = S22 0 15 := hf47 0 15 (by omega)
        have t47_19 : S47 0 19 = S22 0 19 := hf47 0 19 (by omega)
        skip
        try rw [e47] at hq47
        rw [hg] at hW
        clear hg
        refine lv_aload_n hX0 hB0 dX12_takesAtom_50 rfl (lv_at hl 2 rfl) ?_
        refine z_calli hW (va_runV (C := RX12) (As := []) (rest := []) CX.fix (zk_goesWell l o S47  hI47 ) (cwV 0 CX.fix.2.2.2.2 gX12_takesAtom_X12_goesWell rfl rfl rfl (by decide +kernel) ⟨Nat.le_of_ble_eq_true rfl, Nat.le_of_ble_eq_true rfl⟩) (z_preV CX hW (r := (RX12, TX12, 37)) zMO_0 rfl) rfl rfl hl.1 rfl (lv_room (Nat.le_of_ble_eq_true rfl)) dX12_takesAtom_51 ⟨Nat.zero_le _, Nat.zero_le _⟩) (fun z51 gn H locs hok hW => ?_)
        obtain ⟨hz51, hg, hq51⟩ := hok
        rw [hg] at hW
        clear hg
        have e51 : zm_goesWell S47 = z51 := hz51.symm
        clear hz51
        refine z_if_eq (tgt := 62) CX dX12_takesAtom_54 (by decide) (by constructor <;> omega) (fun c_54 => ?_) (fun c_54 => ?_)
        ·
          refine lv_iconst (v := zI 1) hX0 hB0 dX12_takesAtom_62 rfl ?_
          refine lv_istore_n (lv' := [(1, .int (zI 1)), (2, .long (zL z22)), (0, .ref o)]) hX0 hB0 dX12_takesAtom_63 rfl hl (by decide) rfl (fun ls hl => ?_)
          exact hJ8 1 S47 ⟨(by unfold zm_takesAtom_J8; exact zif_f c_8 (zlet_e e18 (zlet_e e22 (zlet_e e27 (zif_f c_30 (zif_f d_38 (zlet_e e47 (zlet_e e51 (zif_t c_54 rfl))))))))), hI47, fun kk ii hk => (((hf47 kk ii (by omega))).trans (hf22 kk ii (by omega))).trans (show S18 kk ii = S5 kk ii from by rw [← e18]; exact za_ne (by omega)), by omega, by omega, ⟨by omega, by omega, by omega⟩⟩ H locs ls hW (lv_sub hl [0, 2] rfl)
        ·
          refine lv_lload_n hX0 hB0 dX12_takesAtom_57 rfl (lv_at hl 0 rfl) ?_
          refine z_l2i CX dX12_takesAtom_58 ?_
          refine lv_goto (tgt := 63) hX0 hB0 dX12_takesAtom_59 (by decide) ?_
          refine lv_istore_n (lv' := [(1, .int (zI z22)), (2, .long (zL z22)), (0, .ref o)]) hX0 hB0 dX12_takesAtom_63 rfl hl (by decide) rfl (fun ls hl => ?_)
          exact hJ8 z22 S47 ⟨(by unfold zm_takesAtom_J8; exact zif_f c_8 (zlet_e e18 (zlet_e e22 (zlet_e e27 (zif_f c_30 (zif_f d_38 (zlet_e e47 (zlet_e e51 (zif_f c_54 rfl))))))))), hI47, fun kk ii hk => (((hf47 kk ii (by omega))).trans (hf22 kk ii (by omega))).trans (show S18 kk ii = S5 kk ii from by rw [← e18]; exact za_ne (by omega)), by omega, by omega, ⟨by omega, by omega, by omega⟩⟩ H locs ls hW (lv_sub hl [0, 2] rfl)
def zm_opensBracket_J128 (z122 : Int) (S122 : zS2) : zS2 := (if z122 = 3 then S122 else (if z122 = 4 then S122 else zlet (zm_faults S122 1 (S122 0 6)) (fun S142 => S142)))
def zm_opensBracket_J33 (S21 : zS2) : zS2 := (if S21 0 19 = 40 then zlet (zm_faults S21 4 (S21 0 6)) (fun S42 => S42) else S21)
def zm_opensBracket (S : zS2)  : Int × zS2 := zlet (zm_here S) (fun q1 => (fun (z1 : Int) (S1 : zS2) => zlet (za S1 8 ((S1 0 19).toNat) (S1 0 6)) (fun S17 => zlet (zm_isMark S17 40) (fun q21 => (fun (z21 : Int) (S21 : zS2) => (if z21 = 0 then zlet (zm_atomOf (S21 0 19)) (fun z85 => zlet (zm_empties S21 z85) (fun S88 => zlet (zm_isDigit S88 (S88 0 6)) (fun z96 => (if z96 = 0 then zlet (zm_comes S88) (fun q122 => (fun (z122 : Int) (S122 : zS2) => zlet (zm_opensBracket_J128 z122 S122) (fun S128j => zlet (zm_goesWell S128j) (fun z146 => (if z146 = 0 then (0, S128j) else zlet (zm_word S128j) (fun S155 => zlet (zm_atomOf (S155 0 19)) (fun z163 => (if z122 = 3 then (if z122 = 3 then zlet (zm_sets S155 z163 1 0 1) (fun S187 => (0, S187)) else zlet (zm_sets S155 z163 1 1 1) (fun S187 => (0, S187))) else (if z122 = 3 then zlet (zm_sets S155 z163 0 0 1) (fun S187 => (0, S187)) else zlet (zm_sets S155 z163 0 1 1) (fun S187 => (0, S187)))))))))) q122.1 q122.2) else zlet (zm_atomOf (S88 0 19)) (fun z107 => zlet (zm_number S88) (fun q113 => (fun (z113 : Int) (S113 : zS2) => zlet (zm_sets S113 z107 0 0 z113) (fun S116 => (0, S116))) q113.1 q113.2)))))) else zlet (zm_opensBracket_J33 S21) (fun S33j => zlet (zm_goesWell S33j) (fun z46 => (if z46 = 0 then (0, S33j) else zlet (za S33j 0 6 ((S33j 0 6) + 1)) (fun S61 => zlet (za S61 0 19 ((S61 0 19) + 1)) (fun S71 => zlet (zm_beginsSum S71) (fun S75 => (1, S75))))))))) q21.1 q21.2))) q1.1 q1.2)
set_option maxRecDepth 100000 in
set_option maxHeartbeats 4000000 in
theorem zk_opensBracket (l : Launch) {D : va_G} {cI cJ cZ cP cS cM : ClassId} {L : List Nat} {sz : Nat} {f : Nat → va_E} (o : Nat) (S : zS2)  (hI : mI S)  : zMi l yX12_opensBracket wsX12_opensBracket 5 104 D (zT cI cJ cZ cP cS cM) L sz (zMO cI cJ o S f) [.ref o] (fun zv gv => zv = (zm_opensBracket S).1 ∧ gv = zMO cI cJ o (zm_opensBracket S).2 f ∧ mI (zm_opensBracket S).2 ∧ (∀ kk ii : Nat, ¬ (kk = 0 ∧ ii = 19) ∧ ¬ (kk = 0 ∧ ii = 6) ∧ ¬ (kk = 0 ∧ ii = 7) ∧ ¬ (kk = 0 ∧ ii = 8) ∧ ¬ (kk = 0 ∧ ii = 9) ∧ ¬ (kk = 3 ∧ 300 ≤ (ii : Int)) ∧ ¬ kk = 7 ∧ ¬ kk = 8 → (zm_opensBracket S).2 kk ii = S kk ii) ∧ (S 0 6 ≤ ((zm_opensBracket S).2) 0 6 ∧ (S 0 6 ≤ S 0 5 → ((zm_opensBracket S).2) 0 6 ≤ S 0 5)) ∧ (S 0 8 ≠ 0 → ((zm_opensBracket S).2) 0 8 ≠ 0) ∧ 0 ≤ zv ∧ zv ≤ 1 ∧ (zv ≠ 0 → S 0 6 < ((zm_opensBracket S).2) 0 6)) := by
  refine zWalk.met (nL := 2) (ret := (some .boolean)) (cc := cX12_opensBracket) (by decide) rfl (Nat.le_of_ble_eq_true rfl) ?_
  intro pg en st mi ag bl mt cd ls CX hW hl
  have CX : zC pg st mi ag mt cd cX12_opensBracket 2 (some .boolean) RX12 wsX12_opensBracket := CX
  generalize hQ : MQ bl _ ag st 0 0 _ = Q
  have hX0 := CX.1
  have hB0 := CX.2.1
  have hl : lv_has ls 2 [(0, .ref o)] := hl
  obtain ⟨H, eH⟩ : ∃ H, H = st.heap := ⟨_, rfl⟩
  obtain ⟨locs, eL⟩ : ∃ L : List Loc, L = [] := ⟨_, rfl⟩
  have hW : zW D (zT cI cJ cZ cP cS cM) L (zQ L sz) st (zMO cI cJ o S f) st.heap H locs := by rw [eH, eL]; exact hW
  suffices hgo : W pg l en ({ frames := 5, cells := 0, slots := 0, locals := 104 } : Room) st mi ag bl mt cd H locs 0 0 Q (F0 mi 0 ls []) by rw [eH, eL] at hgo; exact hgo
  clear eH eL
  have hpb := hI.s10
  have hbs := hI.s5
  have hba := hI.s6
  have hbb := hI.s7
  have hbo := hI.s19
  have hbt := hI.s15
  refine lv_aload_n hX0 hB0 dX12_opensBracket_0 rfl (lv_at hl 0 rfl) ?_
  refine z_calli hW (va_runV (C := RX12) (As := []) (rest := []) CX.fix (zk_here l o S  hI ) (cwV 0 CX.fix.2.2.2.2 gX12_opensBracket_X12_here rfl rfl rfl (by decide +kernel) ⟨Nat.le_of_ble_eq_true rfl, Nat.le_of_ble_eq_true rfl⟩) (z_preV CX hW (r := (RX12, TX12, 37)) zMO_0 rfl) rfl rfl hl.1 rfl (lv_room (Nat.le_of_ble_eq_true rfl)) dX12_opensBracket_1 ⟨Nat.zero_le _, Nat.zero_le _⟩) (fun z1 gn H locs hok hW => ?_)
  obtain ⟨hz1, hg, hI1, hf1, hq1⟩ := hok
  obtain ⟨S1, hS1⟩ : ∃ q, q = (zm_here S).2 := ⟨_, rfl⟩
  rw [← hS1] at hg hI1 hf1
  have t1_5 : S1 0 5 = S 0 5 := hf1 0 5 (by omega)
  have t1_7 : S1 0 7 = S 0 7 := hf1 0 7 (by omega)
  have t1_8 : S1 0 8 = S 0 8 := hf1 0 8 (by omega)
  have t1_15 : S1 0 15 = S 0 15 := hf1 0 15 (by omega)
  have t1_19 : S1 0 19 = S 0 19 := hf1 0 19 (by omega)
  skip
  try rw [← hS1] at hq1
  rw [hg] at hW
  clear hg
  have e1 : zm_here S = (z1, S1) := Prod.ext hz1.symm hS1.symm
  clear hz1 hS1
  refine lv_pop hX0 hB0 dX12_opensBracket_4 rfl ?_
  refine lv_aload_n hX0 hB0 dX12_opensBracket_5 rfl (lv_at hl 0 rfl) ?_
  refine z_get (Cn := RX12) (T := TX12) (N := 37) CX hW (v := .ref (o + 8)) zMO_0 rfl (fun w h => List.mem_cons_of_mem _ (List.mem_append_right _ h)) 18 (by decide) (List.mem_of_getElem? (i := 1) rfl) rfl rfl dX12_opensBracket_6 ?_
  refine lv_aload_n hX0 hB0 dX12_opensBracket_9 rfl (lv_at hl 0 rfl) ?_
  refine z_get (Cn := RX12) (T := TX12) (N := 37) CX hW (v := .int (zI (S1 0 19))) zMO_0 rfl (fun w h => List.mem_cons_of_mem _ (List.mem_append_right _ h)) 19 (by decide) (List.mem_of_getElem? (i := 2) rfl) rfl rfl dX12_opensBracket_10 ?_
  have hr10 := hI1.s19
  refine lv_aload_n hX0 hB0 dX12_opensBracket_13 rfl (lv_at hl 0 rfl) ?_
  refine z_get (Cn := RX12) (T := TX12) (N := 37) CX hW (v := .int (zI (S1 0 6))) zMO_0 rfl (fun w h => List.mem_cons_of_mem _ (List.mem_append_right _ h)) 6 (by decide) (List.mem_of_getElem? (i := 3) rfl) rfl rfl dX12_opensBracket_14 ?_
  have hr14 := hI1.s6
  obtain ⟨S17, e17⟩ : ∃ q, za S1 8 ((S1 0 19).toNat) (S1 0 6) = q := ⟨_, rfl⟩
  refine z_iast CX hW zMO_8 0 rfl (by refine ⟨?_, ?_, ?_⟩ <;> omega) (g := zMO cI cJ o S17 f) (zMO_w8.trans (by rw [← e17]; rfl)) dX12_opensBracket_17 (fun H locs hW => ?_)
  have hI17 : mI S17 := e17 ▸ hI1.w8 (by constructor <;> omega)
  have t17_5 : S17 0 5 = S1 0 5 := by rw [← e17]; exact za_ne (by omega)
  have t17_6 : S17 0 6 = S1 0 6 := by rw [← e17]; exact za_ne (by omega)
  have t17_7 : S17 0 7 = S1 0 7 := by rw [← e17]; exact za_ne (by omega)
  have t17_8 : S17 0 8 = S1 0 8 := by rw [← e17]; exact za_ne (by omega)
  have t17_15 : S17 0 15 = S1 0 15 := by rw [← e17]; exact za_ne (by omega)
  have t17_19 : S17 0 19 = S1 0 19 := by rw [← e17]; exact za_ne (by omega)
  refine lv_aload_n hX0 hB0 dX12_opensBracket_18 rfl (lv_at hl 0 rfl) ?_
  refine lv_bipush (v := zI 40) hX0 hB0 dX12_opensBracket_19 (by decide) ?_
  refine z_calli hW (va_runV (C := RX12) (As := [.int (zI 40)]) (rest := []) CX.fix (zk_isMark l o S17 40 hI17 (by constructor <;> omega)) (cwV 1 CX.fix.2.2.2.2 gX12_opensBracket_X12_isMark rfl rfl rfl (by decide +kernel) ⟨Nat.le_of_ble_eq_true rfl, Nat.le_of_ble_eq_true rfl⟩) (z_preV CX hW (r := (RX12, TX12, 37)) zMO_0 rfl) rfl rfl hl.1 rfl (lv_room (Nat.le_of_ble_eq_true rfl)) dX12_opensBracket_21 ⟨Nat.zero_le _, Nat.zero_le _⟩) (fun z21 gn H locs hok hW => ?_)
  obtain ⟨hz21, hg, hI21, hf21, hq21⟩ := hok
  obtain ⟨S21, hS21⟩ : ∃ q, q = (zm_isMark S17 40).2 := ⟨_, rfl⟩
  rw [← hS21] at hg hI21 hf21
  have t21_5 : S21 0 5 = S17 0 5 := hf21 0 5 (by omega)
  have t21_7 : S21 0 7 = S17 0 7 := hf21 0 7 (by omega)
  have t21_8 : S21 0 8 = S17 0 8 := hf21 0 8 (by omega)
  have t21_15 : S21 0 15 = S17 0 15 := hf21 0 15 (by omega)
  have t21_19 : S21 0 19 = S17 0 19 := hf21 0 19 (by omega)
  skip
  try rw [← hS21] at hq21
  rw [hg] at hW
  clear hg
  have e21 : zm_isMark S17 40 = (z21, S21) := Prod.ext hz21.symm hS21.symm
  clear hz21 hS21
  refine z_if_eq (tgt := 80) CX dX12_opensBracket_24 (by decide) (by constructor <;> omega) (fun c_24 => ?_) (fun c_24 => ?_)
  ·
    refine lv_aload_n hX0 hB0 dX12_opensBracket_80 rfl (lv_at hl 0 rfl) ?_
    refine lv_aload_n hX0 hB0 dX12_opensBracket_81 rfl (lv_at hl 0 rfl) ?_
    refine z_get (Cn := RX12) (T := TX12) (N := 37) CX hW (v := .int (zI (S21 0 19))) zMO_0 rfl (fun w h => List.mem_cons_of_mem _ (List.mem_append_right _ h)) 19 (by decide) (List.mem_of_getElem? (i := 2) rfl) rfl rfl dX12_opensBracket_82 ?_
    have hr82 := hI21.s19
    refine z_calli hW (va_runS (As := [.int (zI (S21 0 19))]) (rest := [.ref o]) CX.fix (zk_atomOf l (f := zMO cI cJ o S21 f) (S21 0 19) (by constructor <;> omega)) (va_cwS 1 CX.fix.2.2.2.2 gX12_opensBracket_X12_atomOf rfl rfl rfl (by decide +kernel) ⟨Nat.le_of_ble_eq_true rfl, Nat.le_of_ble_eq_true rfl⟩) (z_preS CX hW) rfl rfl hl.1 rfl (lv_room (Nat.le_of_ble_eq_true rfl)) dX12_opensBracket_85 ⟨Nat.zero_le _, Nat.zero_le _⟩) (fun z85 gn H locs hok hW => ?_)
    obtain ⟨hz85, hg, hq85⟩ := hok
    rw [hg] at hW
    clear hg
    have e85 : zm_atomOf (S21 0 19) = z85 := hz85.symm
    clear hz85
    refine z_callv hW (va_runV (C := RX12) (As := [.int (zI z85)]) (rest := []) CX.fix (zk_empties l o S21 z85 hI21 (by constructor <;> omega)) (cwV 1 CX.fix.2.2.2.2 gX12_opensBracket_X12_empties rfl rfl rfl (by decide +kernel) ⟨Nat.le_of_ble_eq_true rfl, Nat.le_of_ble_eq_true rfl⟩) (z_preV CX hW (r := (RX12, TX12, 37)) zMO_0 rfl) rfl rfl hl.1 rfl (lv_room (Nat.le_of_ble_eq_true rfl)) dX12_opensBracket_88 ⟨Nat.zero_le _, Nat.zero_le _⟩) (fun gn H locs hok hW => ?_)
    obtain ⟨hg, hI88, hf88, hq88⟩ := hok
    obtain ⟨S88, e88⟩ : ∃ q, zm_empties S21 z85 = q := ⟨_, rfl⟩
    rw [e88] at hg hI88 hf88
    have t88_5 : S88 0 5 = S21 0 5 := hf88 0 5 (by omega)
    have t88_6 : S88 0 6 = S21 0 6 := hf88 0 6 (by omega)
    have t88_7 : S88 0 7 = S21 0 7 := hf88 0 7 (by omega)
    have t88_8 : S88 0 8 = S21 0 8 := hf88 0 8 (by omega)
    have t88_15 : S88 0 15 = S21 0 15 := hf88 0 15 (by omega)
    have t88_19 : S88 0 19 = S21 0 19 := hf88 0 19 (by omega)
    skip
    try rw [e88] at hq88
    rw [hg] at hW
    clear hg
    refine lv_aload_n hX0 hB0 dX12_opensBracket_91 rfl (lv_at hl 0 rfl) ?_
    refine lv_aload_n hX0 hB0 dX12_opensBracket_92 rfl (lv_at hl 0 rfl) ?_
    refine z_get (Cn := RX12) (T := TX12) (N := 37) CX hW (v := .int (zI (S88 0 6))) zMO_0 rfl (fun w h => List.mem_cons_of_mem _ (List.mem_append_right _ h)) 6 (by decide) (List.mem_of_getElem? (i := 3) rfl) rfl rfl dX12_opensBracket_93 ?_
    have hr93 := hI88.s6
    refine z_calli hW (va_runV (C := RX12) (As := [.int (zI (S88 0 6))]) (rest := []) CX.fix (zk_isDigit l o S88 (S88 0 6) hI88 (by constructor <;> omega)) (cwV 1 CX.fix.2.2.2.2 gX12_opensBracket_X12_isDigit rfl rfl rfl (by decide +kernel) ⟨Nat.le_of_ble_eq_true rfl, Nat.le_of_ble_eq_true rfl⟩) (z_preV CX hW (r := (RX12, TX12, 37)) zMO_0 rfl) rfl rfl hl.1 rfl (lv_room (Nat.le_of_ble_eq_true rfl)) dX12_opensBracket_96 ⟨Nat.zero_le _, Nat.zero_le _⟩) (fun z96 gn H locs hok hW => ?_)
    obtain ⟨hz96, hg, hq96⟩ := hok
    rw [hg] at hW
    clear hg
    have e96 : zm_isDigit S88 (S88 0 6) = z96 := hz96.symm
    clear hz96
    refine z_if_eq (tgt := 121) CX dX12_opensBracket_99 (by decide) (by constructor <;> omega) (fun c_99 => ?_) (fun c_99 => ?_)
    ·
      refine lv_aload_n hX0 hB0 dX12_opensBracket_121 rfl (lv_at hl 0 rfl) ?_
      refine z_calli hW (va_runV (C := RX12) (As := []) (rest := []) CX.fix (zk_comes l o S88  hI88 ) (cwV 0 CX.fix.2.2.2.2 gX12_opensBracket_X12_comes rfl rfl rfl (by decide +kernel) ⟨Nat.le_of_ble_eq_true rfl, Nat.le_of_ble_eq_true rfl⟩) (z_preV CX hW (r := (RX12, TX12, 37)) zMO_0 rfl) rfl rfl hl.1 rfl (lv_room (Nat.le_of_ble_eq_true rfl)) dX12_opensBracket_122 ⟨Nat.zero_le _, Nat.zero_le _⟩) (fun z122 gn H locs hok hW => ?_)
      obtain ⟨hz122, hg, hI122, hf122, hq122⟩ := hok
      obtain ⟨S122, hS122⟩ : ∃ q, q = (zm_comes S88).2 := ⟨_, rfl⟩
      rw [← hS122] at hg hI122 hf122
      have t122_5 : S122 0 5 = S88 0 5 := hf122 0 5 (by omega)
      have t122_15 : S122 0 15 = S88 0 15 := hf122 0 15 (by omega)
      have t122_19 : S122 0 19 = S88 0 19 := hf122 0 19 (by omega)
      skip
      try rw [← hS122] at hq122
      rw [hg] at hW
      clear hg
      have e122 : zm_comes S88 = (z122, S122) := Prod.ext hz122.symm hS122.symm
      clear hz122 hS122
      refine lv_istore_n (lv' := [(1, .int (zI z122)), (0, .ref o)]) hX0 hB0 dX12_opensBracket_125 rfl hl (by decide) rfl (fun ls hl => ?_)
      refine lv_iload_n hX0 hB0 dX12_opensBracket_126 rfl (lv_at hl 0 rfl) ?_
      refine lv_iconst (v := zI 3) hX0 hB0 dX12_opensBracket_127 rfl ?_
      have hJ128 : ∀ (S128j : zS2), (zm_opensBracket_J128 z122 S122 = S128j ∧ mI S128j ∧ (∀ kk ii : Nat, ¬ (kk = 0 ∧ ii = 8) ∧ ¬ (kk = 0 ∧ ii = 9) → S128j kk ii = S122 kk ii) ∧ (S122 0 6 ≤ S128j 0 6 ∧ (S122 0 6 ≤ S122 0 5 → S128j 0 6 ≤ S122 0 5) ∧ (S122 0 8 ≠ 0 → S128j 0 8 ≠ 0))) → ∀ (H : Heap) (locs : List Loc) (ls : Array Slot), zW D (zT cI cJ cZ cP cS cM) L (zQ L sz) st (zMO cI cJ o S128j f) st.heap H locs → lv_has ls 2 [(1, .int (zI z122)), (0, .ref o)] → W pg l en ({ frames := 5, cells := 0, slots := 0, locals := 104 } : Room) st mi ag bl mt cd H locs 0 0 Q (F0 mi 145 ls []) := by
        intro S128j hinv H locs ls hW hl
        obtain ⟨e128j, hI128j, hf128j, hv128j⟩ := hinv
        have hp128j := hI128j.s10
        have t128j_5 : S128j 0 5 = S122 0 5 := hf128j 0 5 (by omega)
        have t128j_6 : S128j 0 6 = S122 0 6 := hf128j 0 6 (by omega)
        have t128j_7 : S128j 0 7 = S122 0 7 := hf128j 0 7 (by omega)
        have t128j_15 : S128j 0 15 = S122 0 15 := hf128j 0 15 (by omega)
        have t128j_19 : S128j 0 19 = S122 0 19 := hf128j 0 19 (by omega)
        refine lv_aload_n hX0 hB0 dX12_opensBracket_145 rfl (lv_at hl 1 rfl) ?_
        refine z_calli hW (va_runV (C := RX12) (As := []) (rest := []) CX.fix (zk_goesWell l o S128j  hI128j ) (cwV 0 CX.fix.2.2.2.2 gX12_opensBracket_X12_goesWell rfl rfl rfl (by decide +kernel) ⟨Nat.le_of_ble_eq_true rfl, Nat.le_of_ble_eq_true rfl⟩) (z_preV CX hW (r := (RX12, TX12, 37)) zMO_0 rfl) rfl rfl hl.1 rfl (lv_room (Nat.le_of_ble_eq_true rfl)) dX12_opensBracket_146 ⟨Nat.zero_le _, Nat.zero_le _⟩) (fun z146 gn H locs hok hW => ?_)
        obtain ⟨hz146, hg, hq146⟩ := hok
        rw [hg] at hW
        clear hg
        have e146 : zm_goesWell S128j = z146 := hz146.symm
        clear hz146
        refine z_if_ne (tgt := 154) CX dX12_opensBracket_149 (by decide) (by constructor <;> omega) (fun c_149 => ?_) (fun c_149 => ?_)
        ·
          refine lv_aload_n hX0 hB0 dX12_opensBracket_154 rfl (lv_at hl 1 rfl) ?_
          refine z_callv hW (va_runV (C := RX12) (As := []) (rest := []) CX.fix (zk_word l o S128j  hI128j ) (cwV 0 CX.fix.2.2.2.2 gX12_opensBracket_X12_word rfl rfl rfl (by decide +kernel) ⟨Nat.le_of_ble_eq_true rfl, Nat.le_of_ble_eq_true rfl⟩) (z_preV CX hW (r := (RX12, TX12, 37)) zMO_0 rfl) rfl rfl hl.1 rfl (lv_room (Nat.le_of_ble_eq_true rfl)) dX12_opensBracket_155 ⟨Nat.zero_le _, Nat.zero_le _⟩) (fun gn H locs hok hW => ?_)
          obtain ⟨hg, hI155, hf155, hq155⟩ := hok
          obtain ⟨S155, e155⟩ : ∃ q, zm_word S128j = q := ⟨_, rfl⟩
          rw [e155] at hg hI155 hf155
          have t155_5 : S155 0 5 = S128j 0 5 := hf155 0 5 (by omega)
          have t155_15 : S155 0 15 = S128j 0 15 := hf155 0 15 (by omega)
          have t155_19 : S155 0 19 = S128j 0 19 := hf155 0 19 (by omega)
          skip
          try rw [e155] at hq155
          rw [hg] at hW
          clear hg
          refine lv_aload_n hX0 hB0 dX12_opensBracket_158 rfl (lv_at hl 1 rfl) ?_
          refine lv_aload_n hX0 hB0 dX12_opensBracket_159 rfl (lv_at hl 1 rfl) ?_
          refine z_get (Cn := RX12) (T := TX12) (N := 37) CX hW (v := .int (zI (S155 0 19))) zMO_0 rfl (fun w h => List.mem_cons_of_mem _ (List.mem_append_right _ h)) 19 (by decide) (List.mem_of_getElem? (i := 2) rfl) rfl rfl dX12_opensBracket_160 ?_
          have hr160 := hI155.s19
          refine z_calli hW (va_runS (As := [.int (zI (S155 0 19))]) (rest := [.ref o]) CX.fix (zk_atomOf l (f := zMO cI cJ o S155 f) (S155 0 19) (by constructor <;> omega)) (va_cwS 1 CX.fix.2.2.2.2 gX12_opensBracket_X12_atomOf rfl rfl rfl (by decide +kernel) ⟨Nat.le_of_ble_eq_true rfl, Nat.le_of_ble_eq_true rfl⟩) (z_preS CX hW) rfl rfl hl.1 rfl (lv_room (Nat.le_of_ble_eq_true rfl)) dX12_opensBracket_163 ⟨Nat.zero_le _, Nat.zero_le _⟩) (fun z163 gn H locs hok hW => ?_)
          obtain ⟨hz163, hg, hq163⟩ := hok
          rw [hg] at hW
          clear hg
          have e163 : zm_atomOf (S155 0 19) = z163 := hz163.symm
          clear hz163
          refine lv_iload_n hX0 hB0 dX12_opensBracket_166 rfl (lv_at hl 0 rfl) ?_
          refine lv_iconst (v := zI 3) hX0 hB0 dX12_opensBracket_167 rfl ?_
          refine z_icmp_ne (tgt := 175) CX dX12_opensBracket_168 (by decide) (by constructor <;> omega) (by constructor <;> omega) (fun c_168 => ?_) (fun c_168 => ?_)
          ·
            refine lv_iconst (v := zI 0) hX0 hB0 dX12_opensBracket_175 rfl ?_
            refine lv_iload_n hX0 hB0 dX12_opensBracket_176 rfl (lv_at hl 0 rfl) ?_
            refine lv_iconst (v := zI 3) hX0 hB0 dX12_opensBracket_177 rfl ?_
            refine z_icmp_ne (tgt := 185) CX dX12_opensBracket_178 (by decide) (by constructor <;> omega) (by constructor <;> omega) (fun c_178 => ?_) (fun c_178 => ?_)
            ·
              refine lv_iconst (v := zI 1) hX0 hB0 dX12_opensBracket_185 rfl ?_
              refine lv_lconst (v := zL 1) hX0 hB0 dX12_opensBracket_186 rfl ?_
              refine z_callv hW (va_runV (C := RX12) (As := [.int (zI z163), .int (zI 0), .int (zI 1), .long (zL 1)]) (rest := []) CX.fix (zk_sets l o S155 z163 0 1 1 hI155 (by constructor <;> omega) (by constructor <;> omega) (by constructor <;> omega) (by constructor <;> omega)) (cwV 4 CX.fix.2.2.2.2 gX12_opensBracket_X12_sets rfl rfl rfl (by decide +kernel) ⟨Nat.le_of_ble_eq_true rfl, Nat.le_of_ble_eq_true rfl⟩) (z_preV CX hW (r := (RX12, TX12, 37)) zMO_0 rfl) rfl rfl hl.1 rfl (lv_room (Nat.le_of_ble_eq_true rfl)) dX12_opensBracket_187 ⟨Nat.zero_le _, Nat.zero_le _⟩) (fun gn H locs hok hW => ?_)
              obtain ⟨hg, hI187, hf187, hq187⟩ := hok
              obtain ⟨S187, e187⟩ : ∃ q, zm_sets S155 z163 0 1 1 = q := ⟨_, rfl⟩
              rw [e187] at hg hI187 hf187
              have t187_5 : S187 0 5 = S155 0 5 := hf187 0 5 (by omega)
              have t187_6 : S187 0 6 = S155 0 6 := hf187 0 6 (by omega)
              have t187_7 : S187 0 7 = S155 0 7 := hf187 0 7 (by omega)
              have t187_8 : S187 0 8 = S155 0 8 := hf187 0 8 (by omega)
              have t187_15 : S187 0 15 = S155 0 15 := hf187 0 15 (by omega)
              have t187_19 : S187 0 19 = S155 0 19 := hf187 0 19 (by omega)
              skip
              try rw [e187] at hq187
              rw [hg] at hW
              clear hg
              refine lv_iconst (v := zI 0) hX0 hB0 dX12_opensBracket_190 rfl ?_
              have hE : zm_opensBracket S = (0, S187) := by unfold zm_opensBracket; exact zlet_e e1 (zlet_e e17 (zlet_e e21 (zif_t c_24 (zlet_e e85 (zlet_e e88 (zlet_e e96 (zif_t c_99 (zlet_e e122 (zlet_e e128j (zlet_e e146 (zif_f c_149 (zlet_e e155 (zlet_e e163 (zif_f c_168 (zif_f c_178 (zlet_e e187 rfl))))))))))))))))
              have hFr : ∀ kk ii : Nat, ¬ (kk = 0 ∧ ii = 19) ∧ ¬ (kk = 0 ∧ ii = 6) ∧ ¬ (kk = 0 ∧ ii = 7) ∧ ¬ (kk = 0 ∧ ii = 8) ∧ ¬ (kk = 0 ∧ ii = 9) ∧ ¬ (kk = 3 ∧ 300 ≤ (ii : Int)) ∧ ¬ kk = 7 ∧ ¬ kk = 8 → S187 kk ii = S kk ii := fun kk ii hk => ((((((((hf187 kk ii (by omega))).trans (hf155 kk ii (by omega))).trans (hf128j kk ii (by omega))).trans (hf122 kk ii (by omega))).trans (hf88 kk ii (by omega))).trans (hf21 kk ii (by omega))).trans (show S17 kk ii = S1 kk ii from by rw [← e17]; exact za_ne (by omega))).trans (hf1 kk ii (by omega))
              rw [← hQ]
              exact z_iret (z := 0) CX hW (by rw [hE]; exact ⟨rfl, rfl, hI187, hFr, (show (S 0 6 ≤ S187 0 6 ∧ (S 0 6 ≤ S 0 5 → S187 0 6 ≤ S 0 5)) ∧ (S 0 8 ≠ 0 → S187 0 8 ≠ 0) ∧ 0 ≤ (0 : Int) ∧ (0 : Int) ≤ 1 ∧ ((0 : Int) ≠ 0 → S 0 6 < S187 0 6) from by omega)⟩) rfl dX12_opensBracket_191
            ·
              refine lv_iconst (v := zI 0) hX0 hB0 dX12_opensBracket_181 rfl ?_
              refine lv_goto (tgt := 186) hX0 hB0 dX12_opensBracket_182 (by decide) ?_
              refine lv_lconst (v := zL 1) hX0 hB0 dX12_opensBracket_186 rfl ?_
              refine z_callv hW (va_runV (C := RX12) (As := [.int (zI z163), .int (zI 0), .int (zI 0), .long (zL 1)]) (rest := []) CX.fix (zk_sets l o S155 z163 0 0 1 hI155 (by constructor <;> omega) (by constructor <;> omega) (by constructor <;> omega) (by constructor <;> omega)) (cwV 4 CX.fix.2.2.2.2 gX12_opensBracket_X12_sets rfl rfl rfl (by decide +kernel) ⟨Nat.le_of_ble_eq_true rfl, Nat.le_of_ble_eq_true rfl⟩) (z_preV CX hW (r := (RX12, TX12, 37)) zMO_0 rfl) rfl rfl hl.1 rfl (lv_room (Nat.le_of_ble_eq_true rfl)) dX12_opensBracket_187 ⟨Nat.zero_le _, Nat.zero_le _⟩) (fun gn H locs hok hW => ?_)
              obtain ⟨hg, hI187, hf187, hq187⟩ := hok
              obtain ⟨S187, e187⟩ : ∃ q, zm_sets S155 z163 0 0 1 = q := ⟨_, rfl⟩
              rw [e187] at hg hI187 hf187
              have t187_5 : S187 0 5 = S155 0 5 := hf187 0 5 (by omega)
              have t187_6 : S187 0 6 = S155 0 6 := hf187 0 6 (by omega)
              have t187_7 : S187 0 7 = S155 0 7 := hf187 0 7 (by omega)
              have t187_8 : S187 0 8 = S155 0 8 := hf187 0 8 (by omega)
              have t187_15 : S187 0 15 = S155 0 15 := hf187 0 15 (by omega)
              have t187_19 : S187 0 19 = S155 0 19 := hf187 0 19 (by omega)
              skip
              try rw [e187] at hq187
              rw [hg] at hW
              clear hg
              refine lv_iconst (v := zI 0) hX0 hB0 dX12_opensBracket_190 rfl ?_
              have hE : zm_opensBracket S = (0, S187) := by unfold zm_opensBracket; exact zlet_e e1 (zlet_e e17 (zlet_e e21 (zif_t c_24 (zlet_e e85 (zlet_e e88 (zlet_e e96 (zif_t c_99 (zlet_e e122 (zlet_e e128j (zlet_e e146 (zif_f c_149 (zlet_e e155 (zlet_e e163 (zif_f c_168 (zif_t c_178 (zlet_e e187 rfl))))))))))))))))
              have hFr : ∀ kk ii : Nat, ¬ (kk = 0 ∧ ii = 19) ∧ ¬ (kk = 0 ∧ ii = 6) ∧ ¬ (kk = 0 ∧ ii = 7) ∧ ¬ (kk = 0 ∧ ii = 8) ∧ ¬ (kk = 0 ∧ ii = 9) ∧ ¬ (kk = 3 ∧ 300 ≤ (ii : Int)) ∧ ¬ kk = 7 ∧ ¬ kk = 8 → S187 kk ii = S kk ii := fun kk ii hk => ((((((((hf187 kk ii (by omega))).trans (hf155 kk ii (by omega))).trans (hf128j kk ii (by omega))).trans (hf122 kk ii (by omega))).trans (hf88 kk ii (by omega))).trans (hf21 kk ii (by omega))).trans (show S17 kk ii = S1 kk ii from by rw [← e17]; exact za_ne (by omega))).trans (hf1 kk ii (by omega))
              rw [← hQ]
              exact z_iret (z := 0) CX hW (by rw [hE]; exact ⟨rfl, rfl, hI187, hFr, (show (S 0 6 ≤ S187 0 6 ∧ (S 0 6 ≤ S 0 5 → S187 0 6 ≤ S 0 5)) ∧ (S 0 8 ≠ 0 → S187 0 8 ≠ 0) ∧ 0 ≤ (0 : Int) ∧ (0 : Int) ≤ 1 ∧ ((0 : Int) ≠ 0 → S 0 6 < S187 0 6) from by omega)⟩) rfl dX12_opensBracket_191
          ·
            refine lv_iconst (v := zI 1) hX0 hB0 dX12_opensBracket_171 rfl ?_
            refine lv_goto (tgt := 176) hX0 hB0 dX12_opensBracket_172 (by decide) ?_
            refine lv_iload_n hX0 hB0 dX12_opensBracket_176 rfl (lv_at hl 0 rfl) ?_
            refine lv_iconst (v := zI 3) hX0 hB0 dX12_opensBracket_177 rfl ?_
            refine z_icmp_ne (tgt := 185) CX dX12_opensBracket_178 (by decide) (by constructor <;> omega) (by constructor <;> omega) (fun c_178 => ?_) (fun c_178 => ?_)
            ·
              refine lv_iconst (v := zI 1) hX0 hB0 dX12_opensBracket_185 rfl ?_
              refine lv_lconst (v := zL 1) hX0 hB0 dX12_opensBracket_186 rfl ?_
              refine z_callv hW (va_runV (C := RX12) (As := [.int (zI z163), .int (zI 1), .int (zI 1), .long (zL 1)]) (rest := []) CX.fix (zk_sets l o S155 z163 1 1 1 hI155 (by constructor <;> omega) (by constructor <;> omega) (by constructor <;> omega) (by constructor <;> omega)) (cwV 4 CX.fix.2.2.2.2 gX12_opensBracket_X12_sets rfl rfl rfl (by decide +kernel) ⟨Nat.le_of_ble_eq_true rfl, Nat.le_of_ble_eq_true rfl⟩) (z_preV CX hW (r := (RX12, TX12, 37)) zMO_0 rfl) rfl rfl hl.1 rfl (lv_room (Nat.le_of_ble_eq_true rfl)) dX12_opensBracket_187 ⟨Nat.zero_le _, Nat.zero_le _⟩) (fun gn H locs hok hW => ?_)
              obtain ⟨hg, hI187, hf187, hq187⟩ := hok
              obtain ⟨S187, e187⟩ : ∃ q, zm_sets S155 z163 1 1 1 = q := ⟨_, rfl⟩
              rw [e187] at hg hI187 hf187
              have t187_5 : S187 0 5 = S155 0 5 := hf187 0 5 (by omega)
              have t187_6 : S187 0 6 = S155 0 6 := hf187 0 6 (by omega)
              have t187_7 : S187 0 7 = S155 0 7 := hf187 0 7 (by omega)
              have t187_8 : S187 0 8 = S155 0 8 := hf187 0 8 (by omega)
              have t187_15 : S187 0 15 = S155 0 15 := hf187 0 15 (by omega)
              have t187_19 : S187 0 19 = S155 0 19 := hf187 0 19 (by omega)
              skip
              try rw [e187] at hq187
              rw [hg] at hW
              clear hg
              refine lv_iconst (v := zI 0) hX0 hB0 dX12_opensBracket_190 rfl ?_
              have hE : zm_opensBracket S = (0, S187) := by unfold zm_opensBracket; exact zlet_e e1 (zlet_e e17 (zlet_e e21 (zif_t c_24 (zlet_e e85 (zlet_e e88 (zlet_e e96 (zif_t c_99 (zlet_e e122 (zlet_e e128j (zlet_e e146 (zif_f c_149 (zlet_e e155 (zlet_e e163 (zif_t c_168 (zif_f c_178 (zlet_e e187 rfl))))))))))))))))
              have hFr : ∀ kk ii : Nat, ¬ (kk = 0 ∧ ii = 19) ∧ ¬ (kk = 0 ∧ ii = 6) ∧ ¬ (kk = 0 ∧ ii = 7) ∧ ¬ (kk = 0 ∧ ii = 8) ∧ ¬ (kk = 0 ∧ ii = 9) ∧ ¬ (kk = 3 ∧ 300 ≤ (ii : Int)) ∧ ¬ kk = 7 ∧ ¬ kk = 8 → S187 kk ii = S kk ii := fun kk ii hk => ((((((((hf187 kk ii (by omega))).trans (hf155 kk ii (by omega))).trans (hf128j kk ii (by omega))).trans (hf122 kk ii (by omega))).trans (hf88 kk ii (by omega))).trans (hf21 kk ii (by omega))).trans (show S17 kk ii = S1 kk ii from by rw [← e17]; exact za_ne (by omega))).trans (hf1 kk ii (by omega))
              rw [← hQ]
              exact z_iret (z := 0) CX hW (by rw [hE]; exact ⟨rfl, rfl, hI187, hFr, (show (S 0 6 ≤ S187 0 6 ∧ (S 0 6 ≤ S 0 5 → S187 0 6 ≤ S 0 5)) ∧ (S 0 8 ≠ 0 → S187 0 8 ≠ 0) ∧ 0 ≤ (0 : Int) ∧ (0 : Int) ≤ 1 ∧ ((0 : Int) ≠ 0 → S 0 6 < S187 0 6) from by omega)⟩) rfl dX12_opensBracket_191
            ·
              refine lv_iconst (v := zI 0) hX0 hB0 dX12_opensBracket_181 rfl ?_
              refine lv_goto (tgt := 186) hX0 hB0 dX12_opensBracket_182 (by decide) ?_
              refine lv_lconst (v := zL 1) hX0 hB0 dX12_opensBracket_186 rfl ?_
              refine z_callv hW (va_runV (C := RX12) (As := [.int (zI z163), .int (zI 1), .int (zI 0), .long (zL 1)]) (rest := []) CX.fix (zk_sets l o S155 z163 1 0 1 hI155 (by constructor <;> omega) (by constructor <;> omega) (by constructor <;> omega) (by constructor <;> omega)) (cwV 4 CX.fix.2.2.2.2 gX12_opensBracket_X12_sets rfl rfl rfl (by decide +kernel) ⟨Nat.le_of_ble_eq_true rfl, Nat.le_of_ble_eq_true rfl⟩) (z_preV CX hW (r := (RX12, TX12, 37)) zMO_0 rfl) rfl rfl hl.1 rfl (lv_room (Nat.le_of_ble_eq_true rfl)) dX12_opensBracket_187 ⟨Nat.zero_le _, Nat.zero_le _⟩) (fun gn H locs hok hW => ?_)
              obtain ⟨hg, hI187, hf187, hq187⟩ := hok
              obtain ⟨S187, e187⟩ : ∃ q, zm_sets S155 z163 1 0 1 = q := ⟨_, rfl⟩
              rw [e187] at hg hI187 hf187
              have t187_5 : S187 0 5 = S155 0 5 := hf187 0 5 (by omega)
              have t187_6 : S187 0 6 = S155 0 6 := hf187 0 6 (by omega)
              have t187_7 : S187 0 7 = S155 0 7 := hf187 0 7 (by omega)
              have t187_8 : S187 0 8 = S155 0 8 := hf187 0 8 (by omega)
              have t187_15 : S187 0 15 = S155 0 15 := hf187 0 15 (by omega)
              have t187_19 : S187 0 19 = S155 0 19 := hf187 0 19 (by omega)
              skip
              try rw [e187] at hq187
              rw [hg] at hW
              clear hg
              refine lv_iconst (v := zI 0) hX0 hB0 dX12_opensBracket_190 rfl ?_
              have hE : zm_opensBracket S = (0, S187) := by unfold zm_opensBracket; exact zlet_e e1 (zlet_e e17 (zlet_e e21 (zif_t c_24 (zlet_e e85 (zlet_e e88 (zlet_e e96 (zif_t c_99 (zlet_e e122 (zlet_e e128j (zlet_e e146 (zif_f c_149 (zlet_e e155 (zlet_e e163 (zif_t c_168 (zif_t c_178 (zlet_e e187 rfl))))))))))))))))
              have hFr : ∀ kk ii : Nat, ¬ (kk = 0 ∧ ii = 19) ∧ ¬ (kk = 0 ∧ ii = 6) ∧ ¬ (kk = 0 ∧ ii = 7) ∧ ¬ (kk = 0 ∧ ii = 8) ∧ ¬ (kk = 0 ∧ ii = 9) ∧ ¬ (kk = 3 ∧ 300 ≤ (ii : Int)) ∧ ¬ kk = 7 ∧ ¬ kk = 8 → S187 kk ii = S kk ii := fun kk ii hk => ((((((((hf187 kk ii (by omega))).trans (hf155 kk ii (by omega))).trans (hf128j kk ii (by omega))).trans (hf122 kk ii (by omega))).trans (hf88 kk ii (by omega))).trans (hf21 kk ii (by omega))).trans (show S17 kk ii = S1 kk ii from by rw [← e17]; exact za_ne (by omega))).trans (hf1 kk ii (by omega))
              rw [← hQ]
              exact z_iret (z := 0) CX hW (by rw [hE]; exact ⟨rfl, rfl, hI187, hFr, (show (S 0 6 ≤ S187 0 6 ∧ (S 0 6 ≤ S 0 5 → S187 0 6 ≤ S 0 5)) ∧ (S 0 8 ≠ 0 → S187 0 8 ≠ 0) ∧ 0 ≤ (0 : Int) ∧ (0 : Int) ≤ 1 ∧ ((0 : Int) ≠ 0 → S 0 6 < S187 0 6) from by omega)⟩) rfl dX12_opensBracket_191
        ·
          refine lv_iconst (v := zI 0) hX0 hB0 dX12_opensBracket_152 rfl ?_
          have hE : zm_opensBracket S = (0, S128j) := by unfold zm_opensBracket; exact zlet_e e1 (zlet_e e17 (zlet_e e21 (zif_t c_24 (zlet_e e85 (zlet_e e88 (zlet_e e96 (zif_t c_99 (zlet_e e122 (zlet_e e128j (zlet_e e146 (zif_t c_149 rfl)))))))))))
          have hFr : ∀ kk ii : Nat, ¬ (kk = 0 ∧ ii = 19) ∧ ¬ (kk = 0 ∧ ii = 6) ∧ ¬ (kk = 0 ∧ ii = 7) ∧ ¬ (kk = 0 ∧ ii = 8) ∧ ¬ (kk = 0 ∧ ii = 9) ∧ ¬ (kk = 3 ∧ 300 ≤ (ii : Int)) ∧ ¬ kk = 7 ∧ ¬ kk = 8 → S128j kk ii = S kk ii := fun kk ii hk => ((((((hf128j kk ii (by omega))).trans (hf122 kk ii (by omega))).trans (hf88 kk ii (by omega))).trans (hf21 kk ii (by omega))).trans (show S17 kk ii = S1 kk ii from by rw [← e17]; exact za_ne (by omega))).trans (hf1 kk ii (by omega))
          rw [← hQ]
          exact z_iret (z := 0) CX hW (by rw [hE]; exact ⟨rfl, rfl, hI128j, hFr, (show (S 0 6 ≤ S128j 0 6 ∧ (S 0 6 ≤ S 0 5 → S128j 0 6 ≤ S 0 5)) ∧ (S 0 8 ≠ 0 → S128j 0 8 ≠ 0) ∧ 0 ≤ (0 : Int) ∧ (0 : Int) ≤ 1 ∧ ((0 : Int) ≠ 0 → S 0 6 < S128j 0 6) from by omega)⟩) rfl dX12_opensBracket_153
      refine z_icmp_eq (tgt := 145) CX dX12_opensBracket_128 (by decide) (by constructor <;> omega) (by constructor <;> omega) (fun c_128 => ?_) (fun c_128 => ?_)
      ·
        exact hJ128 S122 ⟨(by unfold zm_opensBracket_J128; exact zif_t c_128 rfl), hI122, fun kk ii hk => rfl, ⟨by omega, by omega, by omega⟩⟩ H locs ls hW (lv_sub hl [0, 1] rfl)
      ·
        refine lv_iload_n hX0 hB0 dX12_opensBracket_131 rfl (lv_at hl 0 rfl) ?_
        refine lv_iconst (v := zI 4) hX0 hB0 dX12_opensBracket_132 rfl ?_
        refine z_icmp_eq (tgt := 145) CX dX12_opensBracket_133 (by decide) (by constructor <;> omega) (by constructor <;> omega) (fun c_133 => ?_) (fun c_133 => ?_)
        ·
          exact hJ128 S122 ⟨(by unfold zm_opensBracket_J128; exact zif_f c_128 (zif_t c_133 rfl)), hI122, fun kk ii hk => rfl, ⟨by omega, by omega, by omega⟩⟩ H locs ls hW (lv_sub hl [0, 1] rfl)
        ·
          refine lv_aload_n hX0 hB0 dX12_opensBracket_136 rfl (lv_at hl 1 rfl) ?_
          refine lv_iconst (v := zI 1) hX0 hB0 dX12_opensBracket_137 rfl ?_
          refine lv_aload_n hX0 hB0 dX12_opensBracket_138 rfl (lv_at hl 1 rfl) ?_
          refine z_get (Cn := RX12) (T := TX12) (N := 37) CX hW (v := .int (zI (S122 0 6))) zMO_0 rfl (fun w h => List.mem_cons_of_mem _ (List.mem_append_right _ h)) 6 (by decide) (List.mem_of_getElem? (i := 3) rfl) rfl rfl dX12_opensBracket_139 ?_
          have hr139 := hI122.s6
          refine z_callv hW (va_runV (C := RX12) (As := [.int (zI 1), .int (zI (S122 0 6))]) (rest := []) CX.fix (zk_faults l o S122 1 (S122 0 6) hI122 (by constructor <;> omega) (by constructor <;> omega)) (cwV 2 CX.fix.2.2.2.2 gX12_opensBracket_X12_faults rfl rfl rfl (by decide +kernel) ⟨Nat.le_of_ble_eq_true rfl, Nat.le_of_ble_eq_true rfl⟩) (z_preV CX hW (r := (RX12, TX12, 37)) zMO_0 rfl) rfl rfl hl.1 rfl (lv_room (Nat.le_of_ble_eq_true rfl)) dX12_opensBracket_142 ⟨Nat.zero_le _, Nat.zero_le _⟩) (fun gn H locs hok hW => ?_)
          obtain ⟨hg, hI142, hf142, hq142⟩ := hok
          obtain ⟨S142, e142⟩ : ∃ q, zm_faults S122 1 (S122 0 6) = q := ⟨_, rfl⟩
          rw [e142] at hg hI142 hf142
          have t142_5 : S142 0 5 = S122 0 5 := hf142 0 5 (by omega)
          have t142_6 : S142 0 6 = S122 0 6 := hf142 0 6 (by omega)
          have t142_7 : S142 0 7 = S122 0 7 := hf142 0 7 (by omega)
          have t142_15 : S142 0 15 = S122 0 15 := hf142 0 15 (by omega)
          have t142_19 : S142 0 19 = S122 0 19 := hf142 0 19 (by omega)
          skip
          try rw [e142] at hq142
          rw [hg] at hW
          clear hg
          exact hJ128 S142 ⟨(by unfold zm_opensBracket_J128; exact zif_f c_128 (zif_f c_133 (zlet_e e142 rfl))), hI142, fun kk ii hk => (hf142 kk ii (by omega)), ⟨by omega, by omega, by omega⟩⟩ H locs ls hW (lv_sub hl [0, 1] rfl)
    ·
      refine lv_aload_n hX0 hB0 dX12_opensBracket_102 rfl (lv_at hl 0 rfl) ?_
      refine lv_aload_n hX0 hB0 dX12_opensBracket_103 rfl (lv_at hl 0 rfl) ?_
      refine z_get (Cn := RX12) (T := TX12) (N := 37) CX hW (v := .int (zI (S88 0 19))) zMO_0 rfl (fun w h => List.mem_cons_of_mem _ (List.mem_append_right _ h)) 19 (by decide) (List.mem_of_getElem? (i := 2) rfl) rfl rfl dX12_opensBracket_104 ?_
      have hr104 := hI88.s19
      refine z_calli hW (va_runS (As := [.int (zI (S88 0 19))]) (rest := [.ref o]) CX.fix (zk_atomOf l (f := zMO cI cJ o S88 f) (S88 0 19) (by constructor <;> omega)) (va_cwS 1 CX.fix.2.2.2.2 gX12_opensBracket_X12_atomOf rfl rfl rfl (by decide +kernel) ⟨Nat.le_of_ble_eq_true rfl, Nat.le_of_ble_eq_true rfl⟩) (z_preS CX hW) rfl rfl hl.1 rfl (lv_room (Nat.le_of_ble_eq_true rfl)) dX12_opensBracket_107 ⟨Nat.zero_le _, Nat.zero_le _⟩) (fun z107 gn H locs hok hW => ?_)
      obtain ⟨hz107, hg, hq107⟩ := hok
      rw [hg] at hW
      clear hg
      have e107 : zm_atomOf (S88 0 19) = z107 := hz107.symm
      clear hz107
      refine lv_iconst (v := zI 0) hX0 hB0 dX12_opensBracket_110 rfl ?_
      refine lv_iconst (v := zI 0) hX0 hB0 dX12_opensBracket_111 rfl ?_
      refine lv_aload_n hX0 hB0 dX12_opensBracket_112 rfl (lv_at hl 0 rfl) ?_
      refine z_calll hW (va_runV (C := RX12) (As := []) (rest := [.int (zI 0), .int (zI 0), .int (zI z107), .ref o]) CX.fix (zk_number l o S88  hI88 ) (cwV 0 CX.fix.2.2.2.2 gX12_opensBracket_X12_number rfl rfl rfl (by decide +kernel) ⟨Nat.le_of_ble_eq_true rfl, Nat.le_of_ble_eq_true rfl⟩) (z_preV CX hW (r := (RX12, TX12, 37)) zMO_0 rfl) rfl rfl hl.1 rfl (lv_room (Nat.le_of_ble_eq_true rfl)) dX12_opensBracket_113 ⟨Nat.zero_le _, Nat.zero_le _⟩) (fun z113 gn H locs hok hW => ?_)
      obtain ⟨hz113, hg, hI113, hf113, hq113⟩ := hok
      obtain ⟨S113, hS113⟩ : ∃ q, q = (zm_number S88).2 := ⟨_, rfl⟩
      rw [← hS113] at hg hI113 hf113
      have t113_5 : S113 0 5 = S88 0 5 := hf113 0 5 (by omega)
      have t113_15 : S113 0 15 = S88 0 15 := hf113 0 15 (by omega)
      have t113_19 : S113 0 19 = S88 0 19 := hf113 0 19 (by omega)
      skip
      try rw [← hS113] at hq113
      rw [hg] at hW
      clear hg
      have e113 : zm_number S88 = (z113, S113) := Prod.ext hz113.symm hS113.symm
      clear hz113 hS113
      refine z_callv hW (va_runV (C := RX12) (As := [.int (zI z107), .int (zI 0), .int (zI 0), .long (zL z113)]) (rest := []) CX.fix (zk_sets l o S113 z107 0 0 z113 hI113 (by constructor <;> omega) (by constructor <;> omega) (by constructor <;> omega) (by constructor <;> omega)) (cwV 4 CX.fix.2.2.2.2 gX12_opensBracket_X12_sets rfl rfl rfl (by decide +kernel) ⟨Nat.le_of_ble_eq_true rfl, Nat.le_of_ble_eq_true rfl⟩) (z_preV CX hW (r := (RX12, TX12, 37)) zMO_0 rfl) rfl rfl hl.1 rfl (lv_room (Nat.le_of_ble_eq_true rfl)) dX12_opensBracket_116 ⟨Nat.zero_le _, Nat.zero_le _⟩) (fun gn H locs hok hW => ?_)
      obtain ⟨hg, hI116, hf116, hq116⟩ := hok
      obtain ⟨S116, e116⟩ : ∃ q, zm_sets S113 z107 0 0 z113 = q := ⟨_, rfl⟩
      rw [e116] at hg hI116 hf116
      have t116_5 : S116 0 5 = S113 0 5 := hf116 0 5 (by omega)
      have t116_6 : S116 0 6 = S113 0 6 := hf116 0 6 (by omega)
      have t116_7 : S116 0 7 = S113 0 7 := hf116 0 7 (by omega)
      have t116_8 : S116 0 8 = S113 0 8 := hf116 0 8 (by omega)
      have t116_15 : S116 0 15 = S113 0 15 := hf116 0 15 (by omega)
      have t116_19 : S116 0 19 = S113 0 19 := hf116 0 19 (by omega)
      skip
      try rw [e116] at hq116
      rw [hg] at hW
      clear hg
      refine lv_iconst (v := zI 0) hX0 hB0 dX12_opensBracket_119 rfl ?_
      have hE : zm_opensBracket S = (0, S116) := by unfold zm_opensBracket; exact zlet_e e1 (zlet_e e17 (zlet_e e21 (zif_t c_24 (zlet_e e85 (zlet_e e88 (zlet_e e96 (zif_f c_99 (zlet_e e107 (zlet_e e113 (zlet_e e116 rfl))))))))))
      have hFr : ∀ kk ii : Nat, ¬ (kk = 0 ∧ ii = 19) ∧ ¬ (kk = 0 ∧ ii = 6) ∧ ¬ (kk = 0 ∧ ii = 7) ∧ ¬ (kk = 0 ∧ ii = 8) ∧ ¬ (kk = 0 ∧ ii = 9) ∧ ¬ (kk = 3 ∧ 300 ≤ (ii : Int)) ∧ ¬ kk = 7 ∧ ¬ kk = 8 → S116 kk ii = S kk ii := fun kk ii hk => ((((((hf116 kk ii (by omega))).trans (hf113 kk ii (by omega))).trans (hf88 kk ii (by omega))).trans (hf21 kk ii (by omega))).trans (show S17 kk ii = S1 kk ii from by rw [← e17]; exact za_ne (by omega))).trans (hf1 kk ii (by omega))
      rw [← hQ]
      exact z_iret (z := 0) CX hW (by rw [hE]; exact ⟨rfl, rfl, hI116, hFr, (show (S 0 6 ≤ S116 0 6 ∧ (S 0 6 ≤ S 0 5 → S116 0 6 ≤ S 0 5)) ∧ (S 0 8 ≠ 0 → S116 0 8 ≠ 0) ∧ 0 ≤ (0 : Int) ∧ (0 : Int) ≤ 1 ∧ ((0 : Int) ≠ 0 → S 0 6 < S116 0 6) from by omega)⟩) rfl dX12_opensBracket_120
  ·
    refine lv_aload_n hX0 hB0 dX12_opensBracket_27 rfl (lv_at hl 0 rfl) ?_
    refine z_get (Cn := RX12) (T := TX12) (N := 37) CX hW (v := .int (zI (S21 0 19))) zMO_0 rfl (fun w h => List.mem_cons_of_mem _ (List.mem_append_right _ h)) 19 (by decide) (List.mem_of_getElem? (i := 2) rfl) rfl rfl dX12_opensBracket_28 ?_
    have hr28 := hI21.s19
    refine lv_bipush (v := zI 40) hX0 hB0 dX12_opensBracket_31 (by decide) ?_
    have hJ33 : ∀ (S33j : zS2), (zm_opensBracket_J33 S21 = S33j ∧ mI S33j ∧ (∀ kk ii : Nat, ¬ (kk = 0 ∧ ii = 8) ∧ ¬ (kk = 0 ∧ ii = 9) → S33j kk ii = S21 kk ii) ∧ ((S33j 0 8 = 0 → S21 0 19 ≠ 40) ∧ S21 0 6 ≤ S33j 0 6 ∧ (S21 0 6 ≤ S21 0 5 → S33j 0 6 ≤ S21 0 5) ∧ (S21 0 8 ≠ 0 → S33j 0 8 ≠ 0))) → ∀ (H : Heap) (locs : List Loc) (ls : Array Slot), zW D (zT cI cJ cZ cP cS cM) L (zQ L sz) st (zMO cI cJ o S33j f) st.heap H locs → lv_has ls 2 [(0, .ref o)] → W pg l en ({ frames := 5, cells := 0, slots := 0, locals := 104 } : Room) st mi ag bl mt cd H locs 0 0 Q (F0 mi 45 ls []) := by
      intro S33j hinv H locs ls hW hl
      obtain ⟨e33j, hI33j, hf33j, hv33j⟩ := hinv
      have hp33j := hI33j.s10
      have t33j_5 : S33j 0 5 = S21 0 5 := hf33j 0 5 (by omega)
      have t33j_6 : S33j 0 6 = S21 0 6 := hf33j 0 6 (by omega)
      have t33j_7 : S33j 0 7 = S21 0 7 := hf33j 0 7 (by omega)
      have t33j_15 : S33j 0 15 = S21 0 15 := hf33j 0 15 (by omega)
      have t33j_19 : S33j 0 19 = S21 0 19 := hf33j 0 19 (by omega)
      refine lv_aload_n hX0 hB0 dX12_opensBracket_45 rfl (lv_at hl 0 rfl) ?_
      refine z_calli hW (va_runV (C := RX12) (As := []) (rest := []) CX.fix (zk_goesWell l o S33j  hI33j ) (cwV 0 CX.fix.2.2.2.2 gX12_opensBracket_X12_goesWell rfl rfl rfl (by decide +kernel) ⟨Nat.le_of_ble_eq_true rfl, Nat.le_of_ble_eq_true rfl⟩) (z_preV CX hW (r := (RX12, TX12, 37)) zMO_0 rfl) rfl rfl hl.1 rfl (lv_room (Nat.le_of_ble_eq_true rfl)) dX12_opensBracket_46 ⟨Nat.zero_le _, Nat.zero_le _⟩) (fun z46 gn H locs hok hW => ?_)
      obtain ⟨hz46, hg, hq46⟩ := hok
      rw [hg] at hW
      clear hg
      have e46 : zm_goesWell S33j = z46 := hz46.symm
      clear hz46
      refine z_if_ne (tgt := 54) CX dX12_opensBracket_49 (by decide) (by constructor <;> omega) (fun c_49 => ?_) (fun c_49 => ?_)
      ·
        refine lv_aload_n hX0 hB0 dX12_opensBracket_54 rfl (lv_at hl 0 rfl) ?_
        refine lv_dup hX0 hB0 dX12_opensBracket_55 rfl ?_
        refine z_get (Cn := RX12) (T := TX12) (N := 37) CX hW (v := .int (zI (S33j 0 6))) zMO_0 rfl (fun w h => List.mem_cons_of_mem _ (List.mem_append_right _ h)) 6 (by decide) (List.mem_of_getElem? (i := 3) rfl) rfl rfl dX12_opensBracket_56 ?_
        have hr56 := hI33j.s6
        refine lv_iconst (v := zI 1) hX0 hB0 dX12_opensBracket_59 rfl ?_
        refine z_iadd (z := (S33j 0 6) + 1) CX dX12_opensBracket_60 rfl ?_
        obtain ⟨S61, e61⟩ : ∃ q, za S33j 0 6 ((S33j 0 6) + 1) = q := ⟨_, rfl⟩
        refine z_put (Cn := RX12) (T := TX12) (N := 37) CX hW (v := .int (zI ((S33j 0 6) + 1))) zMO_0 rfl (fun w h => List.mem_cons_of_mem _ (List.mem_append_right _ h)) tyX12 tyX12_ok nmX12 6 (by decide) (List.mem_of_getElem? (i := 3) rfl) rfl rfl rfl rfl (Nat.le_of_ble_eq_true rfl) (g := zMO cI cJ o S61 f) (zMO_s6.trans (by rw [e61])) dX12_opensBracket_61 (fun H locs hW => ?_)
        have hI61 : mI S61 := e61 ▸ hI33j.v6 (by constructor <;> omega)
        have t61_5 : S61 0 5 = S33j 0 5 := by rw [← e61]; exact za_ne (by omega)
        have t61_6 : S61 0 6 = (S33j 0 6) + 1 := by rw [← e61]; exact za_same
        have t61_7 : S61 0 7 = S33j 0 7 := by rw [← e61]; exact za_ne (by omega)
        have t61_8 : S61 0 8 = S33j 0 8 := by rw [← e61]; exact za_ne (by omega)
        have t61_15 : S61 0 15 = S33j 0 15 := by rw [← e61]; exact za_ne (by omega)
        have t61_19 : S61 0 19 = S33j 0 19 := by rw [← e61]; exact za_ne (by omega)
        refine lv_aload_n hX0 hB0 dX12_opensBracket_64 rfl (lv_at hl 0 rfl) ?_
        refine lv_dup hX0 hB0 dX12_opensBracket_65 rfl ?_
        refine z_get (Cn := RX12) (T := TX12) (N := 37) CX hW (v := .int (zI (S61 0 19))) zMO_0 rfl (fun w h => List.mem_cons_of_mem _ (List.mem_append_right _ h)) 19 (by decide) (List.mem_of_getElem? (i := 2) rfl) rfl rfl dX12_opensBracket_66 ?_
        have hr66 := hI61.s19
        refine lv_iconst (v := zI 1) hX0 hB0 dX12_opensBracket_69 rfl ?_
        refine z_iadd (z := (S61 0 19) + 1) CX dX12_opensBracket_70 rfl ?_
        obtain ⟨S71, e71⟩ : ∃ q, za S61 0 19 ((S61 0 19) + 1) = q := ⟨_, rfl⟩
        refine z_put (Cn := RX12) (T := TX12) (N := 37) CX hW (v := .int (zI ((S61 0 19) + 1))) zMO_0 rfl (fun w h => List.mem_cons_of_mem _ (List.mem_append_right _ h)) tyX12 tyX12_ok nmX12 19 (by decide) (List.mem_of_getElem? (i := 2) rfl) rfl rfl rfl rfl (Nat.le_of_ble_eq_true rfl) (g := zMO cI cJ o S71 f) (zMO_s19.trans (by rw [e71])) dX12_opensBracket_71 (fun H locs hW => ?_)
        have hI71 : mI S71 := e71 ▸ hI61.v19 (by constructor <;> omega)
        have t71_5 : S71 0 5 = S61 0 5 := by rw [← e71]; exact za_ne (by omega)
        have t71_6 : S71 0 6 = S61 0 6 := by rw [← e71]; exact za_ne (by omega)
        have t71_7 : S71 0 7 = S61 0 7 := by rw [← e71]; exact za_ne (by omega)
        have t71_8 : S71 0 8 = S61 0 8 := by rw [← e71]; exact za_ne (by omega)
        have t71_15 : S71 0 15 = S61 0 15 := by rw [← e71]; exact za_ne (by omega)
        have t71_19 : S71 0 19 = (S61 0 19) + 1 := by rw [← e71]; exact za_same
        refine lv_aload_n hX0 hB0 dX12_opensBracket_74 rfl (lv_at hl 0 rfl) ?_
        refine z_callv hW (va_runV (C := RX12) (As := []) (rest := []) CX.fix (zk_beginsSum l o S71  hI71 ) (cwV 0 CX.fix.2.2.2.2 gX12_opensBracket_X12_beginsSum rfl rfl rfl (by decide +kernel) ⟨Nat.le_of_ble_eq_true rfl, Nat.le_of_ble_eq_true rfl⟩) (z_preV CX hW (r := (RX12, TX12, 37)) zMO_0 rfl) rfl rfl hl.1 rfl (lv_room (Nat.le_of_ble_eq_true rfl)) dX12_opensBracket_75 ⟨Nat.zero_le _, Nat.zero_le _⟩) (fun gn H locs hok hW => ?_)
        obtain ⟨hg, hI75, hf75, hq75⟩ := hok
        obtain ⟨S75, e75⟩ : ∃ q, zm_beginsSum S71 = q := ⟨_, rfl⟩
        rw [e75] at hg hI75 hf75
        have t75_5 : S75 0 5 = S71 0 5 := hf75 0 5 (by omega)
        have t75_7 : S75 0 7 = S71 0 7 := hf75 0 7 (by omega)
        have t75_8 : S75 0 8 = S71 0 8 := hf75 0 8 (by omega)
        have t75_15 : S75 0 15 = S71 0 15 := hf75 0 15 (by omega)
        have t75_19 : S75 0 19 = S71 0 19 := hf75 0 19 (by omega)
        skip
        try rw [e75] at hq75
        rw [hg] at hW
        clear hg
        refine lv_iconst (v := zI 1) hX0 hB0 dX12_opensBracket_78 rfl ?_
        have hE : zm_opensBracket S = (1, S75) := by unfold zm_opensBracket; exact zlet_e e1 (zlet_e e17 (zlet_e e21 (zif_f c_24 (zlet_e e33j (zlet_e e46 (zif_f c_49 (zlet_e e61 (zlet_e e71 (zlet_e e75 rfl)))))))))
        have hFr : ∀ kk ii : Nat, ¬ (kk = 0 ∧ ii = 19) ∧ ¬ (kk = 0 ∧ ii = 6) ∧ ¬ (kk = 0 ∧ ii = 7) ∧ ¬ (kk = 0 ∧ ii = 8) ∧ ¬ (kk = 0 ∧ ii = 9) ∧ ¬ (kk = 3 ∧ 300 ≤ (ii : Int)) ∧ ¬ kk = 7 ∧ ¬ kk = 8 → S75 kk ii = S kk ii := fun kk ii hk => (((((((hf75 kk ii (by omega))).trans (show S71 kk ii = S61 kk ii from by rw [← e71]; exact za_ne (by omega))).trans (show S61 kk ii = S33j kk ii from by rw [← e61]; exact za_ne (by omega))).trans (hf33j kk ii (by omega))).trans (hf21 kk ii (by omega))).trans (show S17 kk ii = S1 kk ii from by rw [← e17]; exact za_ne (by omega))).trans (hf1 kk ii (by omega))
        rw [← hQ]
        exact z_iret (z := 1) CX hW (by rw [hE]; exact ⟨rfl, rfl, hI75, hFr, (show (S 0 6 ≤ S75 0 6 ∧ (S 0 6 ≤ S 0 5 → S75 0 6 ≤ S 0 5)) ∧ (S 0 8 ≠ 0 → S75 0 8 ≠ 0) ∧ 0 ≤ (1 : Int) ∧ (1 : Int) ≤ 1 ∧ ((1 : Int) ≠ 0 → S 0 6 < S75 0 6) from by omega)⟩) rfl dX12_opensBracket_79
      ·
        refine lv_iconst (v := zI 0) hX0 hB0 dX12_opensBracket_52 rfl ?_
        have hE : zm_opensBracket S = (0, S33j) := by unfold zm_opensBracket; exact zlet_e e1 (zlet_e e17 (zlet_e e21 (zif_f c_24 (zlet_e e33j (zlet_e e46 (zif_t c_49 rfl))))))
        have hFr : ∀ kk ii : Nat, ¬ (kk = 0 ∧ ii = 19) ∧ ¬ (kk = 0 ∧ ii = 6) ∧ ¬ (kk = 0 ∧ ii = 7) ∧ ¬ (kk = 0 ∧ ii = 8) ∧ ¬ (kk = 0 ∧ ii = 9) ∧ ¬ (kk = 3 ∧ 300 ≤ (ii : Int)) ∧ ¬ kk = 7 ∧ ¬ kk = 8 → S33j kk ii = S kk ii := fun kk ii hk => ((((hf33j kk ii (by omega))).trans (hf21 kk ii (by omega))).trans (show S17 kk ii = S1 kk ii from by rw [← e17]; exact za_ne (by omega))).trans (hf1 kk ii (by omega))
        rw [← hQ]
        exact z_iret (z := 0) CX hW (by rw [hE]; exact ⟨rfl, rfl, hI33j, hFr, (show (S 0 6 ≤ S33j 0 6 ∧ (S 0 6 ≤ S 0 5 → S33j 0 6 ≤ S 0 5)) ∧ (S 0 8 ≠ 0 → S33j 0 8 ≠ 0) ∧ 0 ≤ (0 : Int) ∧ (0 : Int) ≤ 1 ∧ ((0 : Int) ≠ 0 → S 0 6 < S33j 0 6) from by omega)⟩) rfl dX12_opensBracket_53
    refine z_icmp_ne (tgt := 45) CX dX12_opensBracket_33 (by decide) (by constructor <;> omega) (by constructor <;> omega) (fun c_33 => ?_) (fun c_33 => ?_)
    ·
      exact hJ33 S21 ⟨(by unfold zm_opensBracket_J33; exact zif_f c_33 rfl), hI21, fun kk ii hk => rfl, ⟨by omega, by omega, by omega, by omega⟩⟩ H locs ls hW (lv_sub hl [0] rfl)
    ·
      refine lv_aload_n hX0 hB0 dX12_opensBracket_36 rfl (lv_at hl 0 rfl) ?_
      refine lv_iconst (v := zI 4) hX0 hB0 dX12_opensBracket_37 rfl ?_
      refine lv_aload_n hX0 hB0 dX12_opensBracket_38 rfl (lv_at hl 0 rfl) ?_
      refine z_get (Cn := RX12) (T := TX12) (N := 37) CX hW (v := .int (zI (S21 0 6))) zMO_0 rfl (fun w h => List.mem_cons_of_mem _ (List.mem_append_right _ h)) 6 (by decide) (List.mem_of_getElem? (i := 3) rfl) rfl rfl dX12_opensBracket_39 ?_
      have hr39 := hI21.s6
      refine z_callv hW (va_runV (C := RX12) (As := [.int (zI 4), .int (zI (S21 0 6))]) (rest := []) CX.fix (zk_faults l o S21 4 (S21 0 6) hI21 (by constructor <;> omega) (by constructor <;> omega)) (cwV 2 CX.fix.2.2.2.2 gX12_opensBracket_X12_faults rfl rfl rfl (by decide +kernel) ⟨Nat.le_of_ble_eq_true rfl, Nat.le_of_ble_eq_true rfl⟩) (z_preV CX hW (r := (RX12, TX12, 37)) zMO_0 rfl) rfl rfl hl.1 rfl (lv_room (Nat.le_of_ble_eq_true rfl)) dX12_opensBracket_42 ⟨Nat.zero_le _, Nat.zero_le _⟩) (fun gn H locs hok hW => ?_)
      obtain ⟨hg, hI42, hf42, hq42⟩ := hok
      obtain ⟨S42, e42⟩ : ∃ q, zm_faults S21 4 (S21 0 6) = q := ⟨_, rfl⟩
      rw [e42] at hg hI42 hf42
      have t42_5 : S42 0 5 = S21 0 5 := hf42 0 5 (by omega)
      have t42_6 : S42 0 6 = S21 0 6 := hf42 0 6 (by omega)
      have t42_7 : S42 0 7 = S21 0 7 := hf42 0 7 (by omega)
      have t42_15 : S42 0 15 = S21 0 15 := hf42 0 15 (by omega)
      have t42_19 : S42 0 19 = S21 0 19 := hf42 0 19 (by omega)
      skip
      try rw [e42] at hq42
      rw [hg] at hW
      clear hg
      exact hJ33 S42 ⟨(by unfold zm_opensBracket_J33; exact zif_t c_33 (zlet_e e42 rfl)), hI42, fun kk ii hk => (hf42 kk ii (by omega)), ⟨by omega, by omega, by omega, by omega⟩⟩ H locs ls hW (lv_sub hl [0] rfl)
def zm_goesOn_W2  : Nat → zS2 → (Int × zS2) ⊕ zS2
  | 0, S2 => .inr S2
  | fu2 + 1, S2 => zlet (zm_goesWell S2) (fun z7 => (if z7 = 0 then .inr S2 else zlet (zm_here S2) (fun q14 => (fun (z14 : Int) (S14 : zS2) => (if z14 = 42 then zlet (za S14 0 6 ((S14 0 6) + 1)) (fun S31 => .inl ((1, S31))) else zlet (zm_endsTerm S14) (fun S37 => (if z14 = 43 then zlet (za S37 0 6 ((S37 0 6) + 1)) (fun S59 => (if z14 = 43 then zlet (za S59 7 ((S59 0 19).toNat) 1) (fun S81 => zlet (zm_beginsTerm S81) (fun S83 => .inl ((1, S83)))) else zlet (za S59 7 ((S59 0 19).toNat) (-1)) (fun S81 => zlet (zm_beginsTerm S81) (fun S83 => .inl ((1, S83)))))) else (if z14 = 45 then zlet (za S37 0 6 ((S37 0 6) + 1)) (fun S59 => (if z14 = 43 then zlet (za S59 7 ((S59 0 19).toNat) 1) (fun S81 => zlet (zm_beginsTerm S81) (fun S83 => .inl ((1, S83)))) else zlet (za S59 7 ((S59 0 19).toNat) (-1)) (fun S81 => zlet (zm_beginsTerm S81) (fun S83 => .inl ((1, S83)))))) else (if S37 0 19 = 0 then .inl ((0, S37)) else zlet (zm_mark S37 41) (fun S100 => zlet (zm_goesWell S100) (fun z104 => (if z104 = 0 then .inl ((0, S100)) else zlet (zm_atomOf ((S100 0 19) - 1)) (fun z119 => zlet (zm_sumOf (S100 0 19)) (fun z126 => zlet (zm_copies S100 z119 z126) (fun S129 => zlet (za S129 0 19 ((S129 0 19) - 1)) (fun S139 => zlet (zm_takesAtom S139) (fun S143 => zm_goesOn_W2 fu2 S143)))))))))))))) q14.1 q14.2)))
def zm_goesOn (S : zS2)  : Int × zS2 := zsum (zm_goesOn_W2 ((42 : Nat)) S) (fun r2 => r2) (fun S2 => (0, S2))
set_option maxRecDepth 100000 in
set_option maxHeartbeats 4000000 in
theorem zk_goesOn (l : Launch) {D : va_G} {cI cJ cZ cP cS cM : ClassId} {L : List Nat} {sz : Nat} {f : Nat → va_E} (o : Nat) (S : zS2)  (hI : mI S)  : zMi l yX12_goesOn wsX12_goesOn 4 99 D (zT cI cJ cZ cP cS cM) L sz (zMO cI cJ o S f) [.ref o] (fun zv gv => zv = (zm_goesOn S).1 ∧ gv = zMO cI cJ o (zm_goesOn S).2 f ∧ mI (zm_goesOn S).2 ∧ (∀ kk ii : Nat, ¬ (kk = 0 ∧ ii = 19) ∧ ¬ (kk = 0 ∧ ii = 6) ∧ ¬ (kk = 0 ∧ ii = 7) ∧ ¬ (kk = 0 ∧ ii = 8) ∧ ¬ (kk = 0 ∧ ii = 9) ∧ ¬ (kk = 3 ∧ 300 ≤ (ii : Int)) ∧ ¬ kk = 4 ∧ ¬ kk = 7 → (zm_goesOn S).2 kk ii = S kk ii) ∧ (S 0 6 ≤ ((zm_goesOn S).2) 0 6 ∧ (S 0 6 ≤ S 0 5 → ((zm_goesOn S).2) 0 6 ≤ S 0 5)) ∧ (S 0 8 ≠ 0 → ((zm_goesOn S).2) 0 8 ≠ 0) ∧ 0 ≤ zv ∧ zv ≤ 1 ∧ (zv ≠ 0 → S 0 6 < ((zm_goesOn S).2) 0 6)) := by
  refine zWalk.met (nL := 3) (ret := (some .boolean)) (cc := cX12_goesOn) (by decide) rfl (Nat.le_of_ble_eq_true rfl) ?_
  intro pg en st mi ag bl mt cd ls CX hW hl
  have CX : zC pg st mi ag mt cd cX12_goesOn 3 (some .boolean) RX12 wsX12_goesOn := CX
  generalize hQ : MQ bl _ ag st 0 0 _ = Q
  have hX0 := CX.1
  have hB0 := CX.2.1
  have hl : lv_has ls 3 [(0, .ref o)] := hl
  obtain ⟨H, eH⟩ : ∃ H, H = st.heap := ⟨_, rfl⟩
  obtain ⟨locs, eL⟩ : ∃ L : List Loc, L = [] := ⟨_, rfl⟩
  have hW : zW D (zT cI cJ cZ cP cS cM) L (zQ L sz) st (zMO cI cJ o S f) st.heap H locs := by rw [eH, eL]; exact hW
  suffices hgo : W pg l en ({ frames := 4, cells := 0, slots := 0, locals := 99 } : Room) st mi ag bl mt cd H locs 0 0 Q (F0 mi 0 ls []) by rw [eH, eL] at hgo; exact hgo
  clear eH eL
  have hpb := hI.s10
  have hbs := hI.s5
  have hba := hI.s6
  have hbb := hI.s7
  have hbo := hI.s19
  have hbt := hI.s15
  refine lv_iconst (v := zI 1) hX0 hB0 dX12_goesOn_0 rfl ?_
  refine lv_istore_n (lv' := [(1, .int (zI 1)), (0, .ref o)]) hX0 hB0 dX12_goesOn_1 rfl hl (by decide) rfl (fun ls hl => ?_)
  have hXt2 : ∀ (S2 : zS2), (zm_goesOn_W2 ((42 : Nat)) S = .inr S2 ∧ mI S2 ∧ (∀ kk ii : Nat, ¬ (kk = 0 ∧ ii = 19) ∧ ¬ (kk = 0 ∧ ii = 6) ∧ ¬ (kk = 0 ∧ ii = 7) ∧ ¬ (kk = 0 ∧ ii = 8) ∧ ¬ (kk = 0 ∧ ii = 9) ∧ ¬ (kk = 3 ∧ 300 ≤ (ii : Int)) ∧ ¬ kk = 4 ∧ ¬ kk = 7 → S2 kk ii = S kk ii) ∧ (S 0 6 ≤ S2 0 6 ∧ (S 0 6 ≤ S 0 5 → S2 0 6 ≤ S 0 5) ∧ (S 0 8 ≠ 0 → S2 0 8 ≠ 0))) → ∀ (H : Heap) (locs : List Loc) (ls : Array Slot), zW D (zT cI cJ cZ cP cS cM) L (zQ L sz) st (zMO cI cJ o S2 f) st.heap H locs → lv_has ls 3 [(1, .int (zI 1)), (0, .ref o)] → W pg l en ({ frames := 4, cells := 0, slots := 0, locals := 99 } : Room) st mi ag bl mt cd H locs 0 0 Q (F0 mi 149 ls []) := by
    intro S2 hinv H locs ls hW hl
    obtain ⟨e2, hI2, hf2, hv2⟩ := hinv
    have hp2 := hI2.s10
    have t2_5 : S2 0 5 = S 0 5 := hf2 0 5 (by omega)
    have t2_15 : S2 0 15 = S 0 15 := hf2 0 15 (by omega)
    refine lv_iconst (v := zI 0) hX0 hB0 dX12_goesOn_149 rfl ?_
    have hE : zm_goesOn S = (0, S2) := by unfold zm_goesOn; exact zsum_r e2 rfl
    have hFr : ∀ kk ii : Nat, ¬ (kk = 0 ∧ ii = 19) ∧ ¬ (kk = 0 ∧ ii = 6) ∧ ¬ (kk = 0 ∧ ii = 7) ∧ ¬ (kk = 0 ∧ ii = 8) ∧ ¬ (kk = 0 ∧ ii = 9) ∧ ¬ (kk = 3 ∧ 300 ≤ (ii : Int)) ∧ ¬ kk = 4 ∧ ¬ kk = 7 → S2 kk ii = S kk ii := fun kk ii hk => (hf2 kk ii (by omega))
    rw [← hQ]
    exact z_iret (z := 0) CX hW (by rw [hE]; exact ⟨rfl, rfl, hI2, hFr, (show (S 0 6 ≤ S2 0 6 ∧ (S 0 6 ≤ S 0 5 → S2 0 6 ≤ S 0 5)) ∧ (S 0 8 ≠ 0 → S2 0 8 ≠ 0) ∧ 0 ≤ (0 : Int) ∧ (0 : Int) ≤ 1 ∧ ((0 : Int) ≠ 0 → S 0 6 < S2 0 6) from by omega)⟩) rfl dX12_goesOn_150
  have hL2 : ∀ (fu : Nat) (S2 : zS2), (zm_goesOn_W2 ((42 : Nat)) S = zm_goesOn_W2 fu S2 ∧ mI S2 ∧ (∀ kk ii : Nat, ¬ (kk = 0 ∧ ii = 19) ∧ ¬ (kk = 0 ∧ ii = 6) ∧ ¬ (kk = 0 ∧ ii = 7) ∧ ¬ (kk = 0 ∧ ii = 8) ∧ ¬ (kk = 0 ∧ ii = 9) ∧ ¬ (kk = 3 ∧ 300 ≤ (ii : Int)) ∧ ¬ kk = 4 ∧ ¬ kk = 7 → S2 kk ii = S kk ii) ∧ (S 0 6 ≤ S2 0 6 ∧ (S 0 6 ≤ S 0 5 → S2 0 6 ≤ S 0 5) ∧ (S 0 8 ≠ 0 → S2 0 8 ≠ 0))) → (S2 0 19).toNat < fu → ∀ (H : Heap) (locs : List Loc) (ls : Array Slot), zW D (zT cI cJ cZ cP cS cM) L (zQ L sz) st (zMO cI cJ o S2 f) st.heap H locs → lv_has ls 3 [(1, .int (zI 1)), (0, .ref o)] → W pg l en ({ frames := 4, cells := 0, slots := 0, locals := 99 } : Room) st mi ag bl mt cd H locs 0 0 Q (F0 mi 2 ls []) := by
    intro fu
    induction fu with
    | zero => intro S2 _ hfu; exact absurd hfu (Nat.not_lt_zero _)
    | succ fu ih2 =>
      intro S2 hinv hfu2 H locs ls hW hl
      obtain ⟨hz2, hI2, hf2, hv2⟩ := hinv
      have hp2 := hI2.s10
      have t2_5 : S2 0 5 = S 0 5 := hf2 0 5 (by omega)
      have t2_15 : S2 0 15 = S 0 15 := hf2 0 15 (by omega)
      have hbo2 := hI2.s19
      refine lv_iload_n hX0 hB0 dX12_goesOn_2 rfl (lv_at hl 0 rfl) ?_
      refine z_if_eq (tgt := 149) CX dX12_goesOn_3 (by decide) (by constructor <;> omega) (fun c_3 => ?_) (fun c_3 => ?_)
      ·
        omega
      ·
        refine lv_aload_n hX0 hB0 dX12_goesOn_6 rfl (lv_at hl 1 rfl) ?_
        refine z_calli hW (va_runV (C := RX12) (As := []) (rest := []) CX.fix (zk_goesWell l o S2  hI2 ) (cwV 0 CX.fix.2.2.2.2 gX12_goesOn_X12_goesWell rfl rfl rfl (by decide +kernel) ⟨Nat.le_of_ble_eq_true rfl, Nat.le_of_ble_eq_true rfl⟩) (z_preV CX hW (r := (RX12, TX12, 37)) zMO_0 rfl) rfl rfl hl.1 rfl (lv_room (Nat.le_of_ble_eq_true rfl)) dX12_goesOn_7 ⟨Nat.zero_le _, Nat.zero_le _⟩) (fun z7 gn H locs hok hW => ?_)
        obtain ⟨hz7, hg, hq7⟩ := hok
        rw [hg] at hW
        clear hg
        have e7 : zm_goesWell S2 = z7 := hz7.symm
        clear hz7
        refine z_if_eq (tgt := 149) CX dX12_goesOn_10 (by decide) (by constructor <;> omega) (fun c_10 => ?_) (fun c_10 => ?_)
        ·
          exact hXt2 S2 ⟨hz2.trans (by rw [zm_goesOn_W2]; exact zlet_e e7 (zif_t c_10 rfl)), hI2, fun kk ii hk => (hf2 kk ii (by omega)), ⟨by omega, by omega, by omega⟩⟩ H locs ls hW (lv_sub hl [0, 1] rfl)
        ·
          refine lv_aload_n hX0 hB0 dX12_goesOn_13 rfl (lv_at hl 1 rfl) ?_
          refine z_calli hW (va_runV (C := RX12) (As := []) (rest := []) CX.fix (zk_here l o S2  hI2 ) (cwV 0 CX.fix.2.2.2.2 gX12_goesOn_X12_here rfl rfl rfl (by decide +kernel) ⟨Nat.le_of_ble_eq_true rfl, Nat.le_of_ble_eq_true rfl⟩) (z_preV CX hW (r := (RX12, TX12, 37)) zMO_0 rfl) rfl rfl hl.1 rfl (lv_room (Nat.le_of_ble_eq_true rfl)) dX12_goesOn_14 ⟨Nat.zero_le _, Nat.zero_le _⟩) (fun z14 gn H locs hok hW => ?_)
          obtain ⟨hz14, hg, hI14, hf14, hq14⟩ := hok
          obtain ⟨S14, hS14⟩ : ∃ q, q = (zm_here S2).2 := ⟨_, rfl⟩
          rw [← hS14] at hg hI14 hf14
          have t14_5 : S14 0 5 = S2 0 5 := hf14 0 5 (by omega)
          have t14_7 : S14 0 7 = S2 0 7 := hf14 0 7 (by omega)
          have t14_8 : S14 0 8 = S2 0 8 := hf14 0 8 (by omega)
          have t14_15 : S14 0 15 = S2 0 15 := hf14 0 15 (by omega)
          have t14_19 : S14 0 19 = S2 0 19 := hf14 0 19 (by omega)
          skip
          try rw [← hS14] at hq14
          rw [hg] at hW
          clear hg
          have e14 : zm_here S2 = (z14, S14) := Prod.ext hz14.symm hS14.symm
          clear hz14 hS14
          refine lv_istore_n (lv' := [(2, .int (zI z14)), (1, .int (zI 1)), (0, .ref o)]) hX0 hB0 dX12_goesOn_17 rfl hl (by decide) rfl (fun ls hl => ?_)
          refine lv_iload_n hX0 hB0 dX12_goesOn_18 rfl (lv_at hl 0 rfl) ?_
          refine lv_bipush (v := zI 42) hX0 hB0 dX12_goesOn_19 (by decide) ?_
          refine z_icmp_ne (tgt := 36) CX dX12_goesOn_21 (by decide) (by constructor <;> omega) (by constructor <;> omega) (fun c_21 => ?_) (fun c_21 => ?_)
          ·
            refine lv_aload_n hX0 hB0 dX12_goesOn_36 rfl (lv_at hl 2 rfl) ?_
            refine z_callv hW (va_runV (C := RX12) (As := []) (rest := []) CX.fix (zk_endsTerm l o S14  hI14 ) (cwV 0 CX.fix.2.2.2.2 gX12_goesOn_X12_endsTerm rfl rfl rfl (by decide +kernel) ⟨Nat.le_of_ble_eq_true rfl, Nat.le_of_ble_eq_true rfl⟩) (z_preV CX hW (r := (RX12, TX12, 37)) zMO_0 rfl) rfl rfl hl.1 rfl (lv_room (Nat.le_of_ble_eq_true rfl)) dX12_goesOn_37 ⟨Nat.zero_le _, Nat.zero_le _⟩) (fun gn H locs hok hW => ?_)
            obtain ⟨hg, hI37, hf37, hq37⟩ := hok
            obtain ⟨S37, e37⟩ : ∃ q, zm_endsTerm S14 = q := ⟨_, rfl⟩
            rw [e37] at hg hI37 hf37
            have t37_5 : S37 0 5 = S14 0 5 := hf37 0 5 (by omega)
            have t37_6 : S37 0 6 = S14 0 6 := hf37 0 6 (by omega)
            have t37_7 : S37 0 7 = S14 0 7 := hf37 0 7 (by omega)
            have t37_8 : S37 0 8 = S14 0 8 := hf37 0 8 (by omega)
            have t37_15 : S37 0 15 = S14 0 15 := hf37 0 15 (by omega)
            have t37_19 : S37 0 19 = S14 0 19 := hf37 0 19 (by omega)
            skip
            try rw [e37] at hq37
            rw [hg] at hW
            clear hg
            refine lv_iload_n hX0 hB0 dX12_goesOn_40 rfl (lv_at hl 0 rfl) ?_
            refine lv_bipush (v := zI 43) hX0 hB0 dX12_goesOn_41 (by decide) ?_
            refine z_icmp_eq (tgt := 52) CX dX12_goesOn_43 (by decide) (by constructor <;> omega) (by constructor <;> omega) (fun c_43 => ?_) (fun c_43 => ?_)
            ·
              refine lv_aload_n hX0 hB0 dX12_goesOn_52 rfl (lv_at hl 2 rfl) ?_
              refine lv_dup hX0 hB0 dX12_goesOn_53 rfl ?_
              refine z_get (Cn := RX12) (T := TX12) (N := 37) CX hW (v := .int (zI (S37 0 6))) zMO_0 rfl (fun w h => List.mem_cons_of_mem _ (List.mem_append_right _ h)) 6 (by decide) (List.mem_of_getElem? (i := 1) rfl) rfl rfl dX12_goesOn_54 ?_
              have hr54 := hI37.s6
              refine lv_iconst (v := zI 1) hX0 hB0 dX12_goesOn_57 rfl ?_
              refine z_iadd (z := (S37 0 6) + 1) CX dX12_goesOn_58 rfl ?_
              obtain ⟨S59, e59⟩ : ∃ q, za S37 0 6 ((S37 0 6) + 1) = q := ⟨_, rfl⟩
              refine z_put (Cn := RX12) (T := TX12) (N := 37) CX hW (v := .int (zI ((S37 0 6) + 1))) zMO_0 rfl (fun w h => List.mem_cons_of_mem _ (List.mem_append_right _ h)) tyX12 tyX12_ok nmX12 6 (by decide) (List.mem_of_getElem? (i := 1) rfl) rfl rfl rfl rfl (Nat.le_of_ble_eq_true rfl) (g := zMO cI cJ o S59 f) (zMO_s6.trans (by rw [e59])) dX12_goesOn_59 (fun H locs hW => ?_)
              have hI59 : mI S59 := e59 ▸ hI37.v6 (by constructor <;> omega)
              have t59_5 : S59 0 5 = S37 0 5 := by rw [← e59]; exact za_ne (by omega)
              have t59_6 : S59 0 6 = (S37 0 6) + 1 := by rw [← e59]; exact za_same
              have t59_7 : S59 0 7 = S37 0 7 := by rw [← e59]; exact za_ne (by omega)
              have t59_8 : S59 0 8 = S37 0 8 := by rw [← e59]; exact za_ne (by omega)
              have t59_15 : S59 0 15 = S37 0 15 := by rw [← e59]; exact za_ne (by omega)
              have t59_19 : S59 0 19 = S37 0 19 := by rw [← e59]; exact za_ne (by omega)
              refine lv_aload_n hX0 hB0 dX12_goesOn_62 rfl (lv_at hl 2 rfl) ?_
              refine z_get (Cn := RX12) (T := TX12) (N := 37) CX hW (v := .ref (o + 7)) zMO_0 rfl (fun w h => List.mem_cons_of_mem _ (List.mem_append_right _ h)) 17 (by decide) (List.mem_of_getElem? (i := 2) rfl) rfl rfl dX12_goesOn_63 ?_
              refine lv_aload_n hX0 hB0 dX12_goesOn_66 rfl (lv_at hl 2 rfl) ?_
              refine z_get (Cn := RX12) (T := TX12) (N := 37) CX hW (v := .int (zI (S59 0 19))) zMO_0 rfl (fun w h => List.mem_cons_of_mem _ (List.mem_append_right _ h)) 19 (by decide) (List.mem_of_getElem? (i := 3) rfl) rfl rfl dX12_goesOn_67 ?_
              have hr67 := hI59.s19
              refine lv_iload_n hX0 hB0 dX12_goesOn_70 rfl (lv_at hl 0 rfl) ?_
              refine lv_bipush (v := zI 43) hX0 hB0 dX12_goesOn_71 (by decide) ?_
              refine z_icmp_ne (tgt := 80) CX dX12_goesOn_73 (by decide) (by constructor <;> omega) (by constructor <;> omega) (fun c_73 => ?_) (fun c_73 => ?_)
              ·
                refine lv_iconst (v := zI (-1)) hX0 hB0 dX12_goesOn_80 rfl ?_
                obtain ⟨S81, e81⟩ : ∃ q, za S59 7 ((S59 0 19).toNat) (-1) = q := ⟨_, rfl⟩
                refine z_iast CX hW zMO_7 0 rfl (by refine ⟨?_, ?_, ?_⟩ <;> omega) (g := zMO cI cJ o S81 f) (zMO_w7.trans (by rw [← e81]; rfl)) dX12_goesOn_81 (fun H locs hW => ?_)
                have hI81 : mI S81 := e81 ▸ hI59.w7 (by constructor <;> omega)
                have t81_5 : S81 0 5 = S59 0 5 := by rw [← e81]; exact za_ne (by omega)
                have t81_6 : S81 0 6 = S59 0 6 := by rw [← e81]; exact za_ne (by omega)
                have t81_7 : S81 0 7 = S59 0 7 := by rw [← e81]; exact za_ne (by omega)
                have t81_8 : S81 0 8 = S59 0 8 := by rw [← e81]; exact za_ne (by omega)
                have t81_15 : S81 0 15 = S59 0 15 := by rw [← e81]; exact za_ne (by omega)
                have t81_19 : S81 0 19 = S59 0 19 := by rw [← e81]; exact za_ne (by omega)
                refine lv_aload_n hX0 hB0 dX12_goesOn_82 rfl (lv_at hl 2 rfl) ?_
                refine z_callv hW (va_runV (C := RX12) (As := []) (rest := []) CX.fix (zk_beginsTerm l o S81  hI81 ) (cwV 0 CX.fix.2.2.2.2 gX12_goesOn_X12_beginsTerm rfl rfl rfl (by decide +kernel) ⟨Nat.le_of_ble_eq_true rfl, Nat.le_of_ble_eq_true rfl⟩) (z_preV CX hW (r := (RX12, TX12, 37)) zMO_0 rfl) rfl rfl hl.1 rfl (lv_room (Nat.le_of_ble_eq_true rfl)) dX12_goesOn_83 ⟨Nat.zero_le _, Nat.zero_le _⟩) (fun gn H locs hok hW => ?_)
                obtain ⟨hg, hI83, hf83, hq83⟩ := hok
                obtain ⟨S83, e83⟩ : ∃ q, zm_beginsTerm S81 = q := ⟨_, rfl⟩
                rw [e83] at hg hI83 hf83
                have t83_5 : S83 0 5 = S81 0 5 := hf83 0 5 (by omega)
                have t83_6 : S83 0 6 = S81 0 6 := hf83 0 6 (by omega)
                have t83_7 : S83 0 7 = S81 0 7 := hf83 0 7 (by omega)
                have t83_8 : S83 0 8 = S81 0 8 := hf83 0 8 (by omega)
                have t83_15 : S83 0 15 = S81 0 15 := hf83 0 15 (by omega)
                have t83_19 : S83 0 19 = S81 0 19 := hf83 0 19 (by omega)
                skip
                try rw [e83] at hq83
                rw [hg] at hW
                clear hg
                refine lv_iconst (v := zI 1) hX0 hB0 dX12_goesOn_86 rfl ?_
                have hE : zm_goesOn S = (1, S83) := by unfold zm_goesOn; exact zsum_l (hz2.trans (by rw [zm_goesOn_W2]; exact zlet_e e7 (zif_f c_10 (zlet_e e14 (zif_f c_21 (zlet_e e37 (zif_t c_43 (zlet_e e59 (zif_f c_73 (zlet_e e81 (zlet_e e83 rfl))))))))))) rfl
                have hFr : ∀ kk ii : Nat, ¬ (kk = 0 ∧ ii = 19) ∧ ¬ (kk = 0 ∧ ii = 6) ∧ ¬ (kk = 0 ∧ ii = 7) ∧ ¬ (kk = 0 ∧ ii = 8) ∧ ¬ (kk = 0 ∧ ii = 9) ∧ ¬ (kk = 3 ∧ 300 ≤ (ii : Int)) ∧ ¬ kk = 4 ∧ ¬ kk = 7 → S83 kk ii = S kk ii := fun kk ii hk => ((((((hf83 kk ii (by omega))).trans (show S81 kk ii = S59 kk ii from by rw [← e81]; exact za_ne (by omega))).trans (show S59 kk ii = S37 kk ii from by rw [← e59]; exact za_ne (by omega))).trans (hf37 kk ii (by omega))).trans (hf14 kk ii (by omega))).trans (hf2 kk ii (by omega))
                rw [← hQ]
                exact z_iret (z := 1) CX hW (by rw [hE]; exact ⟨rfl, rfl, hI83, hFr, (show (S 0 6 ≤ S83 0 6 ∧ (S 0 6 ≤ S 0 5 → S83 0 6 ≤ S 0 5)) ∧ (S 0 8 ≠ 0 → S83 0 8 ≠ 0) ∧ 0 ≤ (1 : Int) ∧ (1 : Int) ≤ 1 ∧ ((1 : Int) ≠ 0 → S 0 6 < S83 0 6) from by omega)⟩) rfl dX12_goesOn_87
              ·
                refine lv_iconst (v := zI 1) hX0 hB0 dX12_goesOn_76 rfl ?_
                refine lv_goto (tgt := 81) hX0 hB0 dX12_goesOn_77 (by decide) ?_
                obtain ⟨S81, e81⟩ : ∃ q, za S59 7 ((S59 0 19).toNat) 1 = q := ⟨_, rfl⟩
                refine z_iast CX hW zMO_7 0 rfl (by refine ⟨?_, ?_, ?_⟩ <;> omega) (g := zMO cI cJ o S81 f) (zMO_w7.trans (by rw [← e81]; rfl)) dX12_goesOn_81 (fun H locs hW => ?_)
                have hI81 : mI S81 := e81 ▸ hI59.w7 (by constructor <;> omega)
                have t81_5 : S81 0 5 = S59 0 5 := by rw [← e81]; exact za_ne (by omega)
                have t81_6 : S81 0 6 = S59 0 6 := by rw [← e81]; exact za_ne (by omega)
                have t81_7 : S81 0 7 = S59 0 7 := by rw [← e81]; exact za_ne (by omega)
                have t81_8 : S81 0 8 = S59 0 8 := by rw [← e81]; exact za_ne (by omega)
                have t81_15 : S81 0 15 = S59 0 15 := by rw [← e81]; exact za_ne (by omega)
                have t81_19 : S81 0 19 = S59 0 19 := by rw [← e81]; exact za_ne (by omega)
                refine lv_aload_n hX0 hB0 dX12_goesOn_82 rfl (lv_at hl 2 rfl) ?_
                refine z_callv hW (va_runV (C := RX12) (As := []) (rest := []) CX.fix (zk_beginsTerm l o S81  hI81 ) (cwV 0 CX.fix.2.2.2.2 gX12_goesOn_X12_beginsTerm rfl rfl rfl (by decide +kernel) ⟨Nat.le_of_ble_eq_true rfl, Nat.le_of_ble_eq_true rfl⟩) (z_preV CX hW (r := (RX12, TX12, 37)) zMO_0 rfl) rfl rfl hl.1 rfl (lv_room (Nat.le_of_ble_eq_true rfl)) dX12_goesOn_83 ⟨Nat.zero_le _, Nat.zero_le _⟩) (fun gn H locs hok hW => ?_)
                obtain ⟨hg, hI83, hf83, hq83⟩ := hok
                obtain ⟨S83, e83⟩ : ∃ q, zm_beginsTerm S81 = q := ⟨_, rfl⟩
                rw [e83] at hg hI83 hf83
                have t83_5 : S83 0 5 = S81 0 5 := hf83 0 5 (by omega)
                have t83_6 : S83 0 6 = S81 0 6 := hf83 0 6 (by omega)
                have t83_7 : S83 0 7 = S81 0 7 := hf83 0 7 (by omega)
                have t83_8 : S83 0 8 = S81 0 8 := hf83 0 8 (by omega)
                have t83_15 : S83 0 15 = S81 0 15 := hf83 0 15 (by omega)
                have t83_19 : S83 0 19 = S81 0 19 := hf83 0 19 (by omega)
                skip
                try rw [e83] at hq83
                rw [hg] at hW
                clear hg
                refine lv_iconst (v := zI 1) hX0 hB0 dX12_goesOn_86 rfl ?_
                have hE : zm_goesOn S = (1, S83) := by unfold zm_goesOn; exact zsum_l (hz2.trans (by rw [zm_goesOn_W2]; exact zlet_e e7 (zif_f c_10 (zlet_e e14 (zif_f c_21 (zlet_e e37 (zif_t c_43 (zlet_e e59 (zif_t c_73 (zlet_e e81 (zlet_e e83 rfl))))))))))) rfl
                have hFr : ∀ kk ii : Nat, ¬ (kk = 0 ∧ ii = 19) ∧ ¬ (kk = 0 ∧ ii = 6) ∧ ¬ (kk = 0 ∧ ii = 7) ∧ ¬ (kk = 0 ∧ ii = 8) ∧ ¬ (kk = 0 ∧ ii = 9) ∧ ¬ (kk = 3 ∧ 300 ≤ (ii : Int)) ∧ ¬ kk = 4 ∧ ¬ kk = 7 → S83 kk ii = S kk ii := fun kk ii hk => ((((((hf83 kk ii (by omega))).trans (show S81 kk ii = S59 kk ii from by rw [← e81]; exact za_ne (by omega))).trans (show S59 kk ii = S37 kk ii from by rw [← e59]; exact za_ne (by omega))).trans (hf37 kk ii (by omega))).trans (hf14 kk ii (by omega))).trans (hf2 kk ii (by omega))
                rw [← hQ]
                exact z_iret (z := 1) CX hW (by rw [hE]; exact ⟨rfl, rfl, hI83, hFr, (show (S 0 6 ≤ S83 0 6 ∧ (S 0 6 ≤ S 0 5 → S83 0 6 ≤ S 0 5)) ∧ (S 0 8 ≠ 0 → S83 0 8 ≠ 0) ∧ 0 ≤ (1 : Int) ∧ (1 : Int) ≤ 1 ∧ ((1 : Int) ≠ 0 → S 0 6 < S83 0 6) from by omega)⟩) rfl dX12_goesOn_87
            ·
              refine lv_iload_n hX0 hB0 dX12_goesOn_46 rfl (lv_at hl 0 rfl) ?_
              refine lv_bipush (v := zI 45) hX0 hB0 dX12_goesOn_47 (by decide) ?_
              refine z_icmp_ne (tgt := 88) CX dX12_goesOn_49 (by decide) (by constructor <;> omega) (by constructor <;> omega) (fun c_49 => ?_) (fun c_49 => ?_)
              ·
                refine lv_aload_n hX0 hB0 dX12_goesOn_88 rfl (lv_at hl 2 rfl) ?_
                refine z_get (Cn := RX12) (T := TX12) (N := 37) CX hW (v := .int (zI (S37 0 19))) zMO_0 rfl (fun w h => List.mem_cons_of_mem _ (List.mem_append_right _ h)) 19 (by decide) (List.mem_of_getElem? (i := 3) rfl) rfl rfl dX12_goesOn_89 ?_
                have hr89 := hI37.s19
                refine z_if_ne (tgt := 97) CX dX12_goesOn_92 (by decide) (by constructor <;> omega) (fun c_92 => ?_) (fun c_92 => ?_)
                ·
                  refine lv_aload_n hX0 hB0 dX12_goesOn_97 rfl (lv_at hl 2 rfl) ?_
                  refine lv_bipush (v := zI 41) hX0 hB0 dX12_goesOn_98 (by decide) ?_
                  refine z_callv hW (va_runV (C := RX12) (As := [.int (zI 41)]) (rest := []) CX.fix (zk_mark l o S37 41 hI37 (by constructor <;> omega)) (cwV 1 CX.fix.2.2.2.2 gX12_goesOn_X12_mark rfl rfl rfl (by decide +kernel) ⟨Nat.le_of_ble_eq_true rfl, Nat.le_of_ble_eq_true rfl⟩) (z_preV CX hW (r := (RX12, TX12, 37)) zMO_0 rfl) rfl rfl hl.1 rfl (lv_room (Nat.le_of_ble_eq_true rfl)) dX12_goesOn_100 ⟨Nat.zero_le _, Nat.zero_le _⟩) (fun gn H locs hok hW => ?_)
                  obtain ⟨hg, hI100, hf100, hq100⟩ := hok
                  obtain ⟨S100, e100⟩ : ∃ q, zm_mark S37 41 = q := ⟨_, rfl⟩
                  rw [e100] at hg hI100 hf100
                  have t100_5 : S100 0 5 = S37 0 5 := hf100 0 5 (by omega)
                  have t100_7 : S100 0 7 = S37 0 7 := hf100 0 7 (by omega)
                  have t100_15 : S100 0 15 = S37 0 15 := hf100 0 15 (by omega)
                  have t100_19 : S100 0 19 = S37 0 19 := hf100 0 19 (by omega)
                  skip
                  try rw [e100] at hq100
                  rw [hg] at hW
                  clear hg
                  refine lv_aload_n hX0 hB0 dX12_goesOn_103 rfl (lv_at hl 2 rfl) ?_
                  refine z_calli hW (va_runV (C := RX12) (As := []) (rest := []) CX.fix (zk_goesWell l o S100  hI100 ) (cwV 0 CX.fix.2.2.2.2 gX12_goesOn_X12_goesWell rfl rfl rfl (by decide +kernel) ⟨Nat.le_of_ble_eq_true rfl, Nat.le_of_ble_eq_true rfl⟩) (z_preV CX hW (r := (RX12, TX12, 37)) zMO_0 rfl) rfl rfl hl.1 rfl (lv_room (Nat.le_of_ble_eq_true rfl)) dX12_goesOn_104 ⟨Nat.zero_le _, Nat.zero_le _⟩) (fun z104 gn H locs hok hW => ?_)
                  obtain ⟨hz104, hg, hq104⟩ := hok
                  rw [hg] at hW
                  clear hg
                  have e104 : zm_goesWell S100 = z104 := hz104.symm
                  clear hz104
                  refine z_if_ne (tgt := 112) CX dX12_goesOn_107 (by decide) (by constructor <;> omega) (fun c_107 => ?_) (fun c_107 => ?_)
                  ·
                    refine lv_aload_n hX0 hB0 dX12_goesOn_112 rfl (lv_at hl 2 rfl) ?_
                    refine lv_aload_n hX0 hB0 dX12_goesOn_113 rfl (lv_at hl 2 rfl) ?_
                    refine z_get (Cn := RX12) (T := TX12) (N := 37) CX hW (v := .int (zI (S100 0 19))) zMO_0 rfl (fun w h => List.mem_cons_of_mem _ (List.mem_append_right _ h)) 19 (by decide) (List.mem_of_getElem? (i := 3) rfl) rfl rfl dX12_goesOn_114 ?_
                    have hr114 := hI100.s19
                    refine lv_iconst (v := zI 1) hX0 hB0 dX12_goesOn_117 rfl ?_
                    refine z_isub (z := (S100 0 19) - 1) CX dX12_goesOn_118 rfl ?_
                    refine z_calli hW (va_runS (As := [.int (zI ((S100 0 19) - 1))]) (rest := [.ref o]) CX.fix (zk_atomOf l (f := zMO cI cJ o S100 f) ((S100 0 19) - 1) (by constructor <;> omega)) (va_cwS 1 CX.fix.2.2.2.2 gX12_goesOn_X12_atomOf rfl rfl rfl (by decide +kernel) ⟨Nat.le_of_ble_eq_true rfl, Nat.le_of_ble_eq_true rfl⟩) (z_preS CX hW) rfl rfl hl.1 rfl (lv_room (Nat.le_of_ble_eq_true rfl)) dX12_goesOn_119 ⟨Nat.zero_le _, Nat.zero_le _⟩) (fun z119 gn H locs hok hW => ?_)
                    obtain ⟨hz119, hg, hq119⟩ := hok
                    rw [hg] at hW
                    clear hg
                    have e119 : zm_atomOf ((S100 0 19) - 1) = z119 := hz119.symm
                    clear hz119
                    refine lv_aload_n hX0 hB0 dX12_goesOn_122 rfl (lv_at hl 2 rfl) ?_
                    refine z_get (Cn := RX12) (T := TX12) (N := 37) CX hW (v := .int (zI (S100 0 19))) zMO_0 rfl (fun w h => List.mem_cons_of_mem _ (List.mem_append_right _ h)) 19 (by decide) (List.mem_of_getElem? (i := 3) rfl) rfl rfl dX12_goesOn_123 ?_
                    have hr123 := hI100.s19
                    refine z_calli hW (va_runS (As := [.int (zI (S100 0 19))]) (rest := [.int (zI z119), .ref o]) CX.fix (zk_sumOf l (f := zMO cI cJ o S100 f) (S100 0 19) (by constructor <;> omega)) (va_cwS 1 CX.fix.2.2.2.2 gX12_goesOn_X12_sumOf rfl rfl rfl (by decide +kernel) ⟨Nat.le_of_ble_eq_true rfl, Nat.le_of_ble_eq_true rfl⟩) (z_preS CX hW) rfl rfl hl.1 rfl (lv_room (Nat.le_of_ble_eq_true rfl)) dX12_goesOn_126 ⟨Nat.zero_le _, Nat.zero_le _⟩) (fun z126 gn H locs hok hW => ?_)
                    obtain ⟨hz126, hg, hq126⟩ := hok
                    rw [hg] at hW
                    clear hg
                    have e126 : zm_sumOf (S100 0 19) = z126 := hz126.symm
                    clear hz126
                    refine z_callv hW (va_runV (C := RX12) (As := [.int (zI z119), .int (zI z126)]) (rest := []) CX.fix (zk_copies l o S100 z119 z126 hI100 (by constructor <;> omega) (by constructor <;> omega)) (cwV 2 CX.fix.2.2.2.2 gX12_goesOn_X12_copies rfl rfl rfl (by decide +kernel) ⟨Nat.le_of_ble_eq_true rfl, Nat.le_of_ble_eq_true rfl⟩) (z_preV CX hW (r := (RX12, TX12, 37)) zMO_0 rfl) rfl rfl hl.1 rfl (lv_room (Nat.le_of_ble_eq_true rfl)) dX12_goesOn_129 ⟨Nat.zero_le _, Nat.zero_le _⟩) (fun gn H locs hok hW => ?_)
                    obtain ⟨hg, hI129, hf129, hq129⟩ := hok
                    obtain ⟨S129, e129⟩ : ∃ q, zm_copies S100 z119 z126 = q := ⟨_, rfl⟩
                    rw [e129] at hg hI129 hf129
                    have t129_5 : S129 0 5 = S100 0 5 := hf129 0 5 (by omega)
                    have t129_6 : S129 0 6 = S100 0 6 := hf129 0 6 (by omega)
                    have t129_7 : S129 0 7 = S100 0 7 := hf129 0 7 (by omega)
                    have t129_8 : S129 0 8 = S100 0 8 := hf129 0 8 (by omega)
                    have t129_15 : S129 0 15 = S100 0 15 := hf129 0 15 (by omega)
                    have t129_19 : S129 0 19 = S100 0 19 := hf129 0 19 (by omega)
                    skip
                    try rw [e129] at hq129
                    rw [hg] at hW
                    clear hg
                    refine lv_aload_n hX0 hB0 dX12_goesOn_132 rfl (lv_at hl 2 rfl) ?_
                    refine lv_dup hX0 hB0 dX12_goesOn_133 rfl ?_
                    refine z_get (Cn := RX12) (T := TX12) (N := 37) CX hW (v := .int (zI (S129 0 19))) zMO_0 rfl (fun w h => List.mem_cons_of_mem _ (List.mem_append_right _ h)) 19 (by decide) (List.mem_of_getElem? (i := 3) rfl) rfl rfl dX12_goesOn_134 ?_
                    have hr134 := hI129.s19
                    refine lv_iconst (v := zI 1) hX0 hB0 dX12_goesOn_137 rfl ?_
                    refine z_isub (z := (S129 0 19) - 1) CX dX12_goesOn_138 rfl ?_
                    obtain ⟨S139, e139⟩ : ∃ q, za S129 0 19 ((S129 0 19) - 1) = q := ⟨_, rfl⟩
                    refine z_put (Cn := RX12) (T := TX12) (N := 37) CX hW (v := .int (zI ((S129 0 19) - 1))) zMO_0 rfl (fun w h => List.mem_cons_of_mem _ (List.mem_append_right _ h)) tyX12 tyX12_ok nmX12 19 (by decide) (List.mem_of_getElem? (i := 3) rfl) rfl rfl rfl rfl (Nat.le_of_ble_eq_true rfl) (g := zMO cI cJ o S139 f) (zMO_s19.trans (by rw [e139])) dX12_goesOn_139 (fun H locs hW => ?_)
                    have hI139 : mI S139 := e139 ▸ hI129.v19 (by constructor <;> omega)
                    have t139_5 : S139 0 5 = S129 0 5 := by rw [← e139]; exact za_ne (by omega)
                    have t139_6 : S139 0 6 = S129 0 6 := by rw [← e139]; exact za_ne (by omega)
                    have t139_7 : S139 0 7 = S129 0 7 := by rw [← e139]; exact za_ne (by omega)
                    have t139_8 : S139 0 8 = S129 0 8 := by rw [← e139]; exact za_ne (by omega)
                    have t139_15 : S139 0 15 = S129 0 15 := by rw [← e139]; exact za_ne (by omega)
                    have t139_19 : S139 0 19 = (S129 0 19) - 1 := by rw [← e139]; exact za_same
                    refine lv_aload_n hX0 hB0 dX12_goesOn_142 rfl (lv_at hl 2 rfl) ?_
                    refine z_callv hW (va_runV (C := RX12) (As := []) (rest := []) CX.fix (zk_takesAtom l o S139  hI139 ) (cwV 0 CX.fix.2.2.2.2 gX12_goesOn_X12_takesAtom rfl rfl rfl (by decide +kernel) ⟨Nat.le_of_ble_eq_true rfl, Nat.le_of_ble_eq_true rfl⟩) (z_preV CX hW (r := (RX12, TX12, 37)) zMO_0 rfl) rfl rfl hl.1 rfl (lv_room (Nat.le_of_ble_eq_true rfl)) dX12_goesOn_143 ⟨Nat.zero_le _, Nat.zero_le _⟩) (fun gn H locs hok hW => ?_)
                    obtain ⟨hg, hI143, hf143, hq143⟩ := hok
                    obtain ⟨S143, e143⟩ : ∃ q, zm_takesAtom S139 = q := ⟨_, rfl⟩
                    rw [e143] at hg hI143 hf143
                    have t143_5 : S143 0 5 = S139 0 5 := hf143 0 5 (by omega)
                    have t143_15 : S143 0 15 = S139 0 15 := hf143 0 15 (by omega)
                    have t143_19 : S143 0 19 = S139 0 19 := hf143 0 19 (by omega)
                    skip
                    try rw [e143] at hq143
                    rw [hg] at hW
                    clear hg
                    refine lv_goto (tgt := 2) hX0 hB0 dX12_goesOn_146 (by decide) ?_
                    exact ih2 S143 ⟨hz2.trans (by rw [zm_goesOn_W2]; exact zlet_e e7 (zif_f c_10 (zlet_e e14 (zif_f c_21 (zlet_e e37 (zif_f c_43 (zif_f c_49 (zif_f c_92 (zlet_e e100 (zlet_e e104 (zif_f c_107 (zlet_e e119 (zlet_e e126 (zlet_e e129 (zlet_e e139 (zlet_e e143 rfl)))))))))))))))), hI143, fun kk ii hk => (((((((hf143 kk ii (by omega))).trans (show S139 kk ii = S129 kk ii from by rw [← e139]; exact za_ne (by omega))).trans (hf129 kk ii (by omega))).trans (hf100 kk ii (by omega))).trans (hf37 kk ii (by omega))).trans (hf14 kk ii (by omega))).trans (hf2 kk ii (by omega)), ⟨by omega, by omega, by omega⟩⟩ (by omega) H locs ls hW (lv_sub hl [1, 2] rfl)
                  ·
                    refine lv_iconst (v := zI 0) hX0 hB0 dX12_goesOn_110 rfl ?_
                    have hE : zm_goesOn S = (0, S100) := by unfold zm_goesOn; exact zsum_l (hz2.trans (by rw [zm_goesOn_W2]; exact zlet_e e7 (zif_f c_10 (zlet_e e14 (zif_f c_21 (zlet_e e37 (zif_f c_43 (zif_f c_49 (zif_f c_92 (zlet_e e100 (zlet_e e104 (zif_t c_107 rfl)))))))))))) rfl
                    have hFr : ∀ kk ii : Nat, ¬ (kk = 0 ∧ ii = 19) ∧ ¬ (kk = 0 ∧ ii = 6) ∧ ¬ (kk = 0 ∧ ii = 7) ∧ ¬ (kk = 0 ∧ ii = 8) ∧ ¬ (kk = 0 ∧ ii = 9) ∧ ¬ (kk = 3 ∧ 300 ≤ (ii : Int)) ∧ ¬ kk = 4 ∧ ¬ kk = 7 → S100 kk ii = S kk ii := fun kk ii hk => ((((hf100 kk ii (by omega))).trans (hf37 kk ii (by omega))).trans (hf14 kk ii (by omega))).trans (hf2 kk ii (by omega))
                    rw [← hQ]
                    exact z_iret (z := 0) CX hW (by rw [hE]; exact ⟨rfl, rfl, hI100, hFr, (show (S 0 6 ≤ S100 0 6 ∧ (S 0 6 ≤ S 0 5 → S100 0 6 ≤ S 0 5)) ∧ (S 0 8 ≠ 0 → S100 0 8 ≠ 0) ∧ 0 ≤ (0 : Int) ∧ (0 : Int) ≤ 1 ∧ ((0 : Int) ≠ 0 → S 0 6 < S100 0 6) from by omega)⟩) rfl dX12_goesOn_111
                ·
                  refine lv_iconst (v := zI 0) hX0 hB0 dX12_goesOn_95 rfl ?_
                  have hE : zm_goesOn S = (0, S37) := by unfold zm_goesOn; exact zsum_l (hz2.trans (by rw [zm_goesOn_W2]; exact zlet_e e7 (zif_f c_10 (zlet_e e14 (zif_f c_21 (zlet_e e37 (zif_f c_43 (zif_f c_49 (zif_t c_92 rfl))))))))) rfl
                  have hFr : ∀ kk ii : Nat, ¬ (kk = 0 ∧ ii = 19) ∧ ¬ (kk = 0 ∧ ii = 6) ∧ ¬ (kk = 0 ∧ ii = 7) ∧ ¬ (kk = 0 ∧ ii = 8) ∧ ¬ (kk = 0 ∧ ii = 9) ∧ ¬ (kk = 3 ∧ 300 ≤ (ii : Int)) ∧ ¬ kk = 4 ∧ ¬ kk = 7 → S37 kk ii = S kk ii := fun kk ii hk => (((hf37 kk ii (by omega))).trans (hf14 kk ii (by omega))).trans (hf2 kk ii (by omega))
                  rw [← hQ]
                  exact z_iret (z := 0) CX hW (by rw [hE]; exact ⟨rfl, rfl, hI37, hFr, (show (S 0 6 ≤ S37 0 6 ∧ (S 0 6 ≤ S 0 5 → S37 0 6 ≤ S 0 5)) ∧ (S 0 8 ≠ 0 → S37 0 8 ≠ 0) ∧ 0 ≤ (0 : Int) ∧ (0 : Int) ≤ 1 ∧ ((0 : Int) ≠ 0 → S 0 6 < S37 0 6) from by omega)⟩) rfl dX12_goesOn_96
              ·
                refine lv_aload_n hX0 hB0 dX12_goesOn_52 rfl (lv_at hl 2 rfl) ?_
                refine lv_dup hX0 hB0 dX12_goesOn_53 rfl ?_
                refine z_get (Cn := RX12) (T := TX12) (N := 37) CX hW (v := .int (zI (S37 0 6))) zMO_0 rfl (fun w h => List.mem_cons_of_mem _ (List.mem_append_right _ h)) 6 (by decide) (List.mem_of_getElem? (i := 1) rfl) rfl rfl dX12_goesOn_54 ?_
                have hr54 := hI37.s6
                refine lv_iconst (v := zI 1) hX0 hB0 dX12_goesOn_57 rfl ?_
                refine z_iadd (z := (S37 0 6) + 1) CX dX12_goesOn_58 rfl ?_
                obtain ⟨S59, e59⟩ : ∃ q, za S37 0 6 ((S37 0 6) + 1) = q := ⟨_, rfl⟩
                refine z_put (Cn := RX12) (T := TX12) (N := 37) CX hW (v := .int (zI ((S37 0 6) + 1))) zMO_0 rfl (fun w h => List.mem_cons_of_mem _ (List.mem_append_right _ h)) tyX12 tyX12_ok nmX12 6 (by decide) (List.mem_of_getElem? (i := 1) rfl) rfl rfl rfl rfl (Nat.le_of_ble_eq_true rfl) (g := zMO cI cJ o S59 f) (zMO_s6.trans (by rw [e59])) dX12_goesOn_59 (fun H locs hW => ?_)
                have hI59 : mI S59 := e59 ▸ hI37.v6 (by constructor <;> omega)
                have t59_5 : S59 0 5 = S37 0 5 := by rw [← e59]; exact za_ne (by omega)
                have t59_6 : S59 0 6 = (S37 0 6) + 1 := by rw [← e59]; exact za_same
                have t59_7 : S59 0 7 = S37 0 7 := by rw [← e59]; exact za_ne (by omega)
                have t59_8 : S59 0 8 = S37 0 8 := by rw [← e59]; exact za_ne (by omega)
                have t59_15 : S59 0 15 = S37 0 15 := by rw [← e59]; exact za_ne (by omega)
                have t59_19 : S59 0 19 = S37 0 19 := by rw [← e59]; exact za_ne (by omega)
                refine lv_aload_n hX0 hB0 dX12_goesOn_62 rfl (lv_at hl 2 rfl) ?_
                refine z_get (Cn := RX12) (T := TX12) (N := 37) CX hW (v := .ref (o + 7)) zMO_0 rfl (fun w h => List.mem_cons_of_mem _ (List.mem_append_right _ h)) 17 (by decide) (List.mem_of_getElem? (i := 2) rfl) rfl rfl dX12_goesOn_63 ?_
                refine lv_aload_n hX0 hB0 dX12_goesOn_66 rfl (lv_at hl 2 rfl) ?_
                refine z_get (Cn := RX12) (T := TX12) (N := 37) CX hW (v := .int (zI (S59 0 19))) zMO_0 rfl (fun w h => List.mem_cons_of_mem _ (List.mem_append_right _ h)) 19 (by decide) (List.mem_of_getElem? (i := 3) rfl) rfl rfl dX12_goesOn_67 ?_
                have hr67 := hI59.s19
                refine lv_iload_n hX0 hB0 dX12_goesOn_70 rfl (lv_at hl 0 rfl) ?_
                refine lv_bipush (v := zI 43) hX0 hB0 dX12_goesOn_71 (by decide) ?_
                refine z_icmp_ne (tgt := 80) CX dX12_goesOn_73 (by decide) (by constructor <;> omega) (by constructor <;> omega) (fun c_73 => ?_) (fun c_73 => ?_)
                ·
                  refine lv_iconst (v := zI (-1)) hX0 hB0 dX12_goesOn_80 rfl ?_
                  obtain ⟨S81, e81⟩ : ∃ q, za S59 7 ((S59 0 19).toNat) (-1) = q := ⟨_, rfl⟩
                  refine z_iast CX hW zMO_7 0 rfl (by refine ⟨?_, ?_, ?_⟩ <;> omega) (g := zMO cI cJ o S81 f) (zMO_w7.trans (by rw [← e81]; rfl)) dX12_goesOn_81 (fun H locs hW => ?_)
                  have hI81 : mI S81 := e81 ▸ hI59.w7 (by constructor <;> omega)
                  have t81_5 : S81 0 5 = S59 0 5 := by rw [← e81]; exact za_ne (by omega)
                  have t81_6 : S81 0 6 = S59 0 6 := by rw [← e81]; exact za_ne (by omega)
                  have t81_7 : S81 0 7 = S59 0 7 := by rw [← e81]; exact za_ne (by omega)
                  have t81_8 : S81 0 8 = S59 0 8 := by rw [← e81]; exact za_ne (by omega)
                  have t81_15 : S81 0 15 = S59 0 15 := by rw [← e81]; exact za_ne (by omega)
                  have t81_19 : S81 0 19 = S59 0 19 := by rw [← e81]; exact za_ne (by omega)
                  refine lv_aload_n hX0 hB0 dX12_goesOn_82 rfl (lv_at hl 2 rfl) ?_
                  refine z_callv hW (va_runV (C := RX12) (As := []) (rest := []) CX.fix (zk_beginsTerm l o S81  hI81 ) (cwV 0 CX.fix.2.2.2.2 gX12_goesOn_X12_beginsTerm rfl rfl rfl (by decide +kernel) ⟨Nat.le_of_ble_eq_true rfl, Nat.le_of_ble_eq_true rfl⟩) (z_preV CX hW (r := (RX12, TX12, 37)) zMO_0 rfl) rfl rfl hl.1 rfl (lv_room (Nat.le_of_ble_eq_true rfl)) dX12_goesOn_83 ⟨Nat.zero_le _, Nat.zero_le _⟩) (fun gn H locs hok hW => ?_)
                  obtain ⟨hg, hI83, hf83, hq83⟩ := hok
                  obtain ⟨S83, e83⟩ : ∃ q, zm_beginsTerm S81 = q := ⟨_, rfl⟩
                  rw [e83] at hg hI83 hf83
                  have t83_5 : S83 0 5 = S81 0 5 := hf83 0 5 (by omega)
                  have t83_6 : S83 0 6 = S81 0 6 := hf83 0 6 (by omega)
                  have t83_7 : S83 0 7 = S81 0 7 := hf83 0 7 (by omega)
                  have t83_8 : S83 0 8 = S81 0 8 := hf83 0 8 (by omega)
                  have t83_15 : S83 0 15 = S81 0 15 := hf83 0 15 (by omega)
                  have t83_19 : S83 0 19 = S81 0 19 := hf83 0 19 (by omega)
                  skip
                  try rw [e83] at hq83
                  rw [hg] at hW
                  clear hg
                  refine lv_iconst (v := zI 1) hX0 hB0 dX12_goesOn_86 rfl ?_
                  have hE : zm_goesOn S = (1, S83) := by unfold zm_goesOn; exact zsum_l (hz2.trans (by rw [zm_goesOn_W2]; exact zlet_e e7 (zif_f c_10 (zlet_e e14 (zif_f c_21 (zlet_e e37 (zif_f c_43 (zif_t c_49 (zlet_e e59 (zif_f c_73 (zlet_e e81 (zlet_e e83 rfl)))))))))))) rfl
                  have hFr : ∀ kk ii : Nat, ¬ (kk = 0 ∧ ii = 19) ∧ ¬ (kk = 0 ∧ ii = 6) ∧ ¬ (kk = 0 ∧ ii = 7) ∧ ¬ (kk = 0 ∧ ii = 8) ∧ ¬ (kk = 0 ∧ ii = 9) ∧ ¬ (kk = 3 ∧ 300 ≤ (ii : Int)) ∧ ¬ kk = 4 ∧ ¬ kk = 7 → S83 kk ii = S kk ii := fun kk ii hk => ((((((hf83 kk ii (by omega))).trans (show S81 kk ii = S59 kk ii from by rw [← e81]; exact za_ne (by omega))).trans (show S59 kk ii = S37 kk ii from by rw [← e59]; exact za_ne (by omega))).trans (hf37 kk ii (by omega))).trans (hf14 kk ii (by omega))).trans (hf2 kk ii (by omega))
                  rw [← hQ]
                  exact z_iret (z := 1) CX hW (by rw [hE]; exact ⟨rfl, rfl, hI83, hFr, (show (S 0 6 ≤ S83 0 6 ∧ (S 0 6 ≤ S 0 5 → S83 0 6 ≤ S 0 5)) ∧ (S 0 8 ≠ 0 → S83 0 8 ≠ 0) ∧ 0 ≤ (1 : Int) ∧ (1 : Int) ≤ 1 ∧ ((1 : Int) ≠ 0 → S 0 6 < S83 0 6) from by omega)⟩) rfl dX12_goesOn_87
                ·
                  refine lv_iconst (v := zI 1) hX0 hB0 dX12_goesOn_76 rfl ?_
                  refine lv_goto (tgt := 81) hX0 hB0 dX12_goesOn_77 (by decide) ?_
                  obtain ⟨S81, e81⟩ : ∃ q, za S59 7 ((S59 0 19).toNat) 1 = q := ⟨_, rfl⟩
                  refine z_iast CX hW zMO_7 0 rfl (by refine ⟨?_, ?_, ?_⟩ <;> omega) (g := zMO cI cJ o S81 f) (zMO_w7.trans (by rw [← e81]; rfl)) dX12_goesOn_81 (fun H locs hW => ?_)
                  have hI81 : mI S81 := e81 ▸ hI59.w7 (by constructor <;> omega)
                  have t81_5 : S81 0 5 = S59 0 5 := by rw [← e81]; exact za_ne (by omega)
                  have t81_6 : S81 0 6 = S59 0 6 := by rw [← e81]; exact za_ne (by omega)
                  have t81_7 : S81 0 7 = S59 0 7 := by rw [← e81]; exact za_ne (by omega)
                  have t81_8 : S81 0 8 = S59 0 8 := by rw [← e81]; exact za_ne (by omega)
                  have t81_15 : S81 0 15 = S59 0 15 := by rw [← e81]; exact za_ne (by omega)
                  have t81_19 : S81 0 19 = S59 0 19 := by rw [← e81]; exact za_ne (by omega)
                  refine lv_aload_n hX0 hB0 dX12_goesOn_82 rfl (lv_at hl 2 rfl) ?_
                  refine z_callv hW (va_runV (C := RX12) (As := []) (rest := []) CX.fix (zk_beginsTerm l o S81  hI81 ) (cwV 0 CX.fix.2.2.2.2 gX12_goesOn_X12_beginsTerm rfl rfl rfl (by decide +kernel) ⟨Nat.le_of_ble_eq_true rfl, Nat.le_of_ble_eq_true rfl⟩) (z_preV CX hW (r := (RX12, TX12, 37)) zMO_0 rfl) rfl rfl hl.1 rfl (lv_room (Nat.le_of_ble_eq_true rfl)) dX12_goesOn_83 ⟨Nat.zero_le _, Nat.zero_le _⟩) (fun gn H locs hok hW => ?_)
                  obtain ⟨hg, hI83, hf83, hq83⟩ := hok
                  obtain ⟨S83, e83⟩ : ∃ q, zm_beginsTerm S81 = q := ⟨_, rfl⟩
                  rw [e83] at hg hI83 hf83
                  have t83_5 : S83 0 5 = S81 0 5 := hf83 0 5 (by omega)
                  have t83_6 : S83 0 6 = S81 0 6 := hf83 0 6 (by omega)
                  have t83_7 : S83 0 7 = S81 0 7 := hf83 0 7 (by omega)
                  have t83_8 : S83 0 8 = S81 0 8 := hf83 0 8 (by omega)
                  have t83_15 : S83 0 15 = S81 0 15 := hf83 0 15 (by omega)
                  have t83_19 : S83 0 19 = S81 0 19 := hf83 0 19 (by omega)
                  skip
                  try rw [e83] at hq83
                  rw [hg] at hW
                  clear hg
                  refine lv_iconst (v := zI 1) hX0 hB0 dX12_goesOn_86 rfl ?_
                  have hE : zm_goesOn S = (1, S83) := by unfold zm_goesOn; exact zsum_l (hz2.trans (by rw [zm_goesOn_W2]; exact zlet_e e7 (zif_f c_10 (zlet_e e14 (zif_f c_21 (zlet_e e37 (zif_f c_43 (zif_t c_49 (zlet_e e59 (zif_t c_73 (zlet_e e81 (zlet_e e83 rfl)))))))))))) rfl
                  have hFr : ∀ kk ii : Nat, ¬ (kk = 0 ∧ ii = 19) ∧ ¬ (kk = 0 ∧ ii = 6) ∧ ¬ (kk = 0 ∧ ii = 7) ∧ ¬ (kk = 0 ∧ ii = 8) ∧ ¬ (kk = 0 ∧ ii = 9) ∧ ¬ (kk = 3 ∧ 300 ≤ (ii : Int)) ∧ ¬ kk = 4 ∧ ¬ kk = 7 → S83 kk ii = S kk ii := fun kk ii hk => ((((((hf83 kk ii (by omega))).trans (show S81 kk ii = S59 kk ii from by rw [← e81]; exact za_ne (by omega))).trans (show S59 kk ii = S37 kk ii from by rw [← e59]; exact za_ne (by omega))).trans (hf37 kk ii (by omega))).trans (hf14 kk ii (by omega))).trans (hf2 kk ii (by omega))
                  rw [← hQ]
                  exact z_iret (z := 1) CX hW (by rw [hE]; exact ⟨rfl, rfl, hI83, hFr, (show (S 0 6 ≤ S83 0 6 ∧ (S 0 6 ≤ S 0 5 → S83 0 6 ≤ S 0 5)) ∧ (S 0 8 ≠ 0 → S83 0 8 ≠ 0) ∧ 0 ≤ (1 : Int) ∧ (1 : Int) ≤ 1 ∧ ((1 : Int) ≠ 0 → S 0 6 < S83 0 6) from by omega)⟩) rfl dX12_goesOn_87
          ·
            refine lv_aload_n hX0 hB0 dX12_goesOn_24 rfl (lv_at hl 2 rfl) ?_
            refine lv_dup hX0 hB0 dX12_goesOn_25 rfl ?_
            refine z_get (Cn := RX12) (T := TX12) (N := 37) CX hW (v := .int (zI (S14 0 6))) zMO_0 rfl (fun w h => List.mem_cons_of_mem _ (List.mem_append_right _ h)) 6 (by decide) (List.mem_of_getElem? (i := 1) rfl) rfl rfl dX12_goesOn_26 ?_
            have hr26 := hI14.s6
            refine lv_iconst (v := zI 1) hX0 hB0 dX12_goesOn_29 rfl ?_
            refine z_iadd (z := (S14 0 6) + 1) CX dX12_goesOn_30 rfl ?_
            obtain ⟨S31, e31⟩ : ∃ q, za S14 0 6 ((S14 0 6) + 1) = q := ⟨_, rfl⟩
            refine z_put (Cn := RX12) (T := TX12) (N := 37) CX hW (v := .int (zI ((S14 0 6) + 1))) zMO_0 rfl (fun w h => List.mem_cons_of_mem _ (List.mem_append_right _ h)) tyX12 tyX12_ok nmX12 6 (by decide) (List.mem_of_getElem? (i := 1) rfl) rfl rfl rfl rfl (Nat.le_of_ble_eq_true rfl) (g := zMO cI cJ o S31 f) (zMO_s6.trans (by rw [e31])) dX12_goesOn_31 (fun H locs hW => ?_)
            have hI31 : mI S31 := e31 ▸ hI14.v6 (by constructor <;> omega)
            have t31_5 : S31 0 5 = S14 0 5 := by rw [← e31]; exact za_ne (by omega)
            have t31_6 : S31 0 6 = (S14 0 6) + 1 := by rw [← e31]; exact za_same
            have t31_7 : S31 0 7 = S14 0 7 := by rw [← e31]; exact za_ne (by omega)
            have t31_8 : S31 0 8 = S14 0 8 := by rw [← e31]; exact za_ne (by omega)
            have t31_15 : S31 0 15 = S14 0 15 := by rw [← e31]; exact za_ne (by omega)
            have t31_19 : S31 0 19 = S14 0 19 := by rw [← e31]; exact za_ne (by omega)
            refine lv_iconst (v := zI 1) hX0 hB0 dX12_goesOn_34 rfl ?_
            have hE : zm_goesOn S = (1, S31) := by unfold zm_goesOn; exact zsum_l (hz2.trans (by rw [zm_goesOn_W2]; exact zlet_e e7 (zif_f c_10 (zlet_e e14 (zif_t c_21 (zlet_e e31 rfl)))))) rfl
            have hFr : ∀ kk ii : Nat, ¬ (kk = 0 ∧ ii = 19) ∧ ¬ (kk = 0 ∧ ii = 6) ∧ ¬ (kk = 0 ∧ ii = 7) ∧ ¬ (kk = 0 ∧ ii = 8) ∧ ¬ (kk = 0 ∧ ii = 9) ∧ ¬ (kk = 3 ∧ 300 ≤ (ii : Int)) ∧ ¬ kk = 4 ∧ ¬ kk = 7 → S31 kk ii = S kk ii := fun kk ii hk => (((show S31 kk ii = S14 kk ii from by rw [← e31]; exact za_ne (by omega))).trans (hf14 kk ii (by omega))).trans (hf2 kk ii (by omega))
            rw [← hQ]
            exact z_iret (z := 1) CX hW (by rw [hE]; exact ⟨rfl, rfl, hI31, hFr, (show (S 0 6 ≤ S31 0 6 ∧ (S 0 6 ≤ S 0 5 → S31 0 6 ≤ S 0 5)) ∧ (S 0 8 ≠ 0 → S31 0 8 ≠ 0) ∧ 0 ≤ (1 : Int) ∧ (1 : Int) ≤ 1 ∧ ((1 : Int) ≠ 0 → S 0 6 < S31 0 6) from by omega)⟩) rfl dX12_goesOn_35
  exact hL2 _ S ⟨rfl, hI, fun kk ii hk => rfl, ⟨by omega, by omega, by omega⟩⟩ (by omega) H locs ls hW (lv_sub hl [0, 1] rfl)
end ZMi
