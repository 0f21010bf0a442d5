section ZMj
def zm_readsSum_W14  : Nat → Int → zS2 → Int × zS2
  | 0, m14, S14 => (m14, S14)
  | fu14 + 1, m14, S14 => (if m14 = 0 then (m14, S14) else zlet (zm_goesWell S14) (fun z19 => (if z19 = 0 then (m14, S14) else zlet (zm_opensBracket S14) (fun q26 => (fun (z26 : Int) (S26 : zS2) => (if z26 = 0 then zlet (zm_takesAtom S26) (fun S36 => zlet (zm_goesOn S36) (fun q40 => (fun (z40 : Int) (S40 : zS2) => zm_readsSum_W14 fu14 z40 S40) q40.1 q40.2)) else zm_readsSum_W14 fu14 m14 S26)) q26.1 q26.2))))
def zm_readsSum (S : zS2)  : zS2 := zlet (za S 0 19 0) (fun S2 => zlet (zm_beginsSum S2) (fun S6 => zlet (zm_goesWell S6) (fun z10 => zlet (zm_readsSum_W14 ((1003 : Nat)) z10 S6) (fun q14 => (fun (m14 : Int) (S14 : zS2) => S14) q14.1 q14.2))))
set_option maxRecDepth 100000 in
set_option maxHeartbeats 4000000 in
theorem zk_readsSum (l : Launch) {D : va_G} {cI cJ cZ cP cS cM : ClassId} {L : List Nat} {sz : Nat} {f : Nat → va_E} (o : Nat) (S : zS2)  (hI : mI S)  (hle : S 0 6 ≤ S 0 5) : zMv l yX12_readsSum wsX12_readsSum 6 125 D (zT cI cJ cZ cP cS cM) L sz (zMO cI cJ o S f) [.ref o] (fun gv => gv = zMO cI cJ o (zm_readsSum S) f ∧ mI (zm_readsSum S) ∧ (∀ kk ii : Nat, ¬ (kk = 0 ∧ ii = 19) ∧ ¬ (kk = 0 ∧ ii = 6) ∧ ¬ (kk = 0 ∧ ii = 7) ∧ ¬ (kk = 0 ∧ ii = 8) ∧ ¬ (kk = 0 ∧ ii = 9) ∧ ¬ (kk = 3 ∧ 300 ≤ (ii : Int)) ∧ ¬ kk = 4 ∧ ¬ kk = 7 ∧ ¬ kk = 8 → (zm_readsSum S) kk ii = S kk ii) ∧ (S 0 6 ≤ (zm_readsSum S) 0 6 ∧ (S 0 6 ≤ S 0 5 → (zm_readsSum S) 0 6 ≤ S 0 5)) ∧ (S 0 8 ≠ 0 → (zm_readsSum S) 0 8 ≠ 0)) := by
  refine zWalk.met (nL := 2) (ret := none) (cc := cX12_readsSum) (by decide) rfl (Nat.le_of_ble_eq_true rfl) ?_
  intro pg en st mi ag bl mt cd ls CX hW hl
  have CX : zC pg st mi ag mt cd cX12_readsSum 2 none RX12 wsX12_readsSum := CX
  generalize hQ : MQ bl _ ag st 0 0 _ = Q
  have hX0 := CX.1
  have hB0 := CX.2.1
  have hl : lv_has ls 2 [(0, .ref o)] := hl
  obtain ⟨H, eH⟩ : ∃ H, H = st.heap := ⟨_, rfl⟩
  obtain ⟨locs, eL⟩ : ∃ L : List Loc, L = [] := ⟨_, rfl⟩
  have hW : zW D (zT cI cJ cZ cP cS cM) L (zQ L sz) st (zMO cI cJ o S f) st.heap H locs := by rw [eH, eL]; exact hW
  suffices hgo : W pg l en ({ frames := 6, cells := 0, slots := 0, locals := 125 } : Room) st mi ag bl mt cd H locs 0 0 Q (F0 mi 0 ls []) by rw [eH, eL] at hgo; exact hgo
  clear eH eL
  have hpb := hI.s10
  have hbs := hI.s5
  have hba := hI.s6
  have hbb := hI.s7
  have hbo := hI.s19
  have hbt := hI.s15
  refine lv_aload_n hX0 hB0 dX12_readsSum_0 rfl (lv_at hl 0 rfl) ?_
  refine lv_iconst (v := zI 0) hX0 hB0 dX12_readsSum_1 rfl ?_
  obtain ⟨S2, e2⟩ : ∃ q, za S 0 19 0 = q := ⟨_, rfl⟩
  refine z_put (Cn := RX12) (T := TX12) (N := 37) CX hW (v := .int (zI 0)) zMO_0 rfl (fun w h => List.mem_cons_of_mem _ (List.mem_append_right _ h)) tyX12 tyX12_ok nmX12 19 (by decide) (List.mem_of_getElem? (i := 1) rfl) rfl rfl rfl rfl (Nat.le_of_ble_eq_true rfl) (g := zMO cI cJ o S2 f) (zMO_s19.trans (by rw [e2])) dX12_readsSum_2 (fun H locs hW => ?_)
  have hI2 : mI S2 := e2 ▸ hI.v19 (by constructor <;> omega)
  have t2_5 : S2 0 5 = S 0 5 := by rw [← e2]; exact za_ne (by omega)
  have t2_6 : S2 0 6 = S 0 6 := by rw [← e2]; exact za_ne (by omega)
  have t2_7 : S2 0 7 = S 0 7 := by rw [← e2]; exact za_ne (by omega)
  have t2_8 : S2 0 8 = S 0 8 := by rw [← e2]; exact za_ne (by omega)
  have t2_15 : S2 0 15 = S 0 15 := by rw [← e2]; exact za_ne (by omega)
  have t2_19 : S2 0 19 = 0 := by rw [← e2]; exact za_same
  refine lv_aload_n hX0 hB0 dX12_readsSum_5 rfl (lv_at hl 0 rfl) ?_
  refine z_callv hW (va_runV (C := RX12) (As := []) (rest := []) CX.fix (zk_beginsSum l o S2  hI2 ) (cwV 0 CX.fix.2.2.2.2 gX12_readsSum_X12_beginsSum rfl rfl rfl (by decide +kernel) ⟨Nat.le_of_ble_eq_true rfl, Nat.le_of_ble_eq_true rfl⟩) (z_preV CX hW (r := (RX12, TX12, 37)) zMO_0 rfl) rfl rfl hl.1 rfl (lv_room (Nat.le_of_ble_eq_true rfl)) dX12_readsSum_6 ⟨Nat.zero_le _, Nat.zero_le _⟩) (fun gn H locs hok hW => ?_)
  obtain ⟨hg, hI6, hf6, hq6⟩ := hok
  obtain ⟨S6, e6⟩ : ∃ q, zm_beginsSum S2 = q := ⟨_, rfl⟩
  rw [e6] at hg hI6 hf6
  have t6_5 : S6 0 5 = S2 0 5 := hf6 0 5 (by omega)
  have t6_7 : S6 0 7 = S2 0 7 := hf6 0 7 (by omega)
  have t6_8 : S6 0 8 = S2 0 8 := hf6 0 8 (by omega)
  have t6_15 : S6 0 15 = S2 0 15 := hf6 0 15 (by omega)
  have t6_19 : S6 0 19 = S2 0 19 := hf6 0 19 (by omega)
  skip
  try rw [e6] at hq6
  rw [hg] at hW
  clear hg
  refine lv_aload_n hX0 hB0 dX12_readsSum_9 rfl (lv_at hl 0 rfl) ?_
  refine z_calli hW (va_runV (C := RX12) (As := []) (rest := []) CX.fix (zk_goesWell l o S6  hI6 ) (cwV 0 CX.fix.2.2.2.2 gX12_readsSum_X12_goesWell rfl rfl rfl (by decide +kernel) ⟨Nat.le_of_ble_eq_true rfl, Nat.le_of_ble_eq_true rfl⟩) (z_preV CX hW (r := (RX12, TX12, 37)) zMO_0 rfl) rfl rfl hl.1 rfl (lv_room (Nat.le_of_ble_eq_true rfl)) dX12_readsSum_10 ⟨Nat.zero_le _, Nat.zero_le _⟩) (fun z10 gn H locs hok hW => ?_)
  obtain ⟨hz10, hg, hq10⟩ := hok
  rw [hg] at hW
  clear hg
  have e10 : zm_goesWell S6 = z10 := hz10.symm
  clear hz10
  refine lv_istore_n (lv' := [(1, .int (zI z10)), (0, .ref o)]) hX0 hB0 dX12_readsSum_13 rfl hl (by decide) rfl (fun ls hl => ?_)
  have hXt14 : ∀ (m14 : Int) (S14 : zS2), (zm_readsSum_W14 ((1003 : Nat)) z10 S6 = (m14, S14) ∧ mI S14 ∧ (∀ kk ii : Nat, ¬ (kk = 0 ∧ ii = 19) ∧ ¬ (kk = 0 ∧ ii = 6) ∧ ¬ (kk = 0 ∧ ii = 7) ∧ ¬ (kk = 0 ∧ ii = 8) ∧ ¬ (kk = 0 ∧ ii = 9) ∧ ¬ (kk = 3 ∧ 300 ≤ (ii : Int)) ∧ ¬ kk = 4 ∧ ¬ kk = 7 ∧ ¬ kk = 8 → S14 kk ii = S6 kk ii) ∧ 0 ≤ m14 ∧ m14 ≤ 1 ∧ (S2 0 6 ≤ S14 0 6 ∧ (S2 0 6 ≤ S2 0 5 → S14 0 6 ≤ S2 0 5) ∧ (S2 0 8 ≠ 0 → S14 0 8 ≠ 0))) → ∀ (H : Heap) (locs : List Loc) (ls : Array Slot), zW D (zT cI cJ cZ cP cS cM) L (zQ L sz) st (zMO cI cJ o S14 f) st.heap H locs → lv_has ls 2 [(1, .int (zI m14)), (0, .ref o)] → W pg l en ({ frames := 6, cells := 0, slots := 0, locals := 125 } : Room) st mi ag bl mt cd H locs 0 0 Q (F0 mi 47 ls []) := by
    intro m14 S14 hinv H locs ls hW hl
    obtain ⟨e14, hI14, hf14, ham14, hbm14, hv14⟩ := hinv
    have hp14 := hI14.s10
    have t14_5 : S14 0 5 = S6 0 5 := hf14 0 5 (by omega)
    have t14_15 : S14 0 15 = S6 0 15 := hf14 0 15 (by omega)
    have hE : zm_readsSum S = S14 := by unfold zm_readsSum; exact zlet_e e2 (zlet_e e6 (zlet_e e10 (zlet_e e14 rfl)))
    have hFr : ∀ kk ii : Nat, ¬ (kk = 0 ∧ ii = 19) ∧ ¬ (kk = 0 ∧ ii = 6) ∧ ¬ (kk = 0 ∧ ii = 7) ∧ ¬ (kk = 0 ∧ ii = 8) ∧ ¬ (kk = 0 ∧ ii = 9) ∧ ¬ (kk = 3 ∧ 300 ≤ (ii : Int)) ∧ ¬ kk = 4 ∧ ¬ kk = 7 ∧ ¬ kk = 8 → S14 kk ii = S kk ii := fun kk ii hk => (((hf14 kk ii (by omega))).trans (hf6 kk ii (by omega))).trans (show S2 kk ii = S kk ii from by rw [← e2]; exact za_ne (by omega))
    rw [← hQ]
    exact z_vret CX hW (by rw [hE]; exact ⟨rfl, hI14, hFr, (show (S 0 6 ≤ S14 0 6 ∧ (S 0 6 ≤ S 0 5 → S14 0 6 ≤ S 0 5)) ∧ (S 0 8 ≠ 0 → S14 0 8 ≠ 0) from by omega)⟩) dX12_readsSum_47
  have hL14 : ∀ (fu : Nat) (m14 : Int) (S14 : zS2), (zm_readsSum_W14 ((1003 : Nat)) z10 S6 = zm_readsSum_W14 fu m14 S14 ∧ mI S14 ∧ (∀ kk ii : Nat, ¬ (kk = 0 ∧ ii = 19) ∧ ¬ (kk = 0 ∧ ii = 6) ∧ ¬ (kk = 0 ∧ ii = 7) ∧ ¬ (kk = 0 ∧ ii = 8) ∧ ¬ (kk = 0 ∧ ii = 9) ∧ ¬ (kk = 3 ∧ 300 ≤ (ii : Int)) ∧ ¬ kk = 4 ∧ ¬ kk = 7 ∧ ¬ kk = 8 → S14 kk ii = S6 kk ii) ∧ 0 ≤ m14 ∧ m14 ≤ 1 ∧ (S2 0 6 ≤ S14 0 6 ∧ (S2 0 6 ≤ S2 0 5 → S14 0 6 ≤ S2 0 5) ∧ (S2 0 8 ≠ 0 → S14 0 8 ≠ 0))) → (S14 0 5 - S14 0 6).toNat + m14.toNat < fu → ∀ (H : Heap) (locs : List Loc) (ls : Array Slot), zW D (zT cI cJ cZ cP cS cM) L (zQ L sz) st (zMO cI cJ o S14 f) st.heap H locs → lv_has ls 2 [(1, .int (zI m14)), (0, .ref o)] → W pg l en ({ frames := 6, cells := 0, slots := 0, locals := 125 } : Room) st mi ag bl mt cd H locs 0 0 Q (F0 mi 14 ls []) := by
    intro fu
    induction fu with
    | zero => intro m14 S14 _ hfu; exact absurd hfu (Nat.not_lt_zero _)
    | succ fu ih14 =>
      intro m14 S14 hinv hfu14 H locs ls hW hl
      obtain ⟨hz14, hI14, hf14, ham14, hbm14, hv14⟩ := hinv
      have hp14 := hI14.s10
      have t14_5 : S14 0 5 = S6 0 5 := hf14 0 5 (by omega)
      have t14_15 : S14 0 15 = S6 0 15 := hf14 0 15 (by omega)
      refine lv_iload_n hX0 hB0 dX12_readsSum_14 rfl (lv_at hl 0 rfl) ?_
      refine z_if_eq (tgt := 47) CX dX12_readsSum_15 (by decide) (by constructor <;> omega) (fun c_15 => ?_) (fun c_15 => ?_)
      ·
        exact hXt14 m14 S14 ⟨hz14.trans (by rw [zm_readsSum_W14]; exact zif_t c_15 rfl), hI14, fun kk ii hk => (hf14 kk ii (by omega)), by omega, by omega, ⟨by omega, by omega, by omega⟩⟩ H locs ls hW (lv_sub hl [0, 1] rfl)
      ·
        refine lv_aload_n hX0 hB0 dX12_readsSum_18 rfl (lv_at hl 1 rfl) ?_
        refine z_calli hW (va_runV (C := RX12) (As := []) (rest := []) CX.fix (zk_goesWell l o S14  hI14 ) (cwV 0 CX.fix.2.2.2.2 gX12_readsSum_X12_goesWell rfl rfl rfl (by decide +kernel) ⟨Nat.le_of_ble_eq_true rfl, Nat.le_of_ble_eq_true rfl⟩) (z_preV CX hW (r := (RX12, TX12, 37)) zMO_0 rfl) rfl rfl hl.1 rfl (lv_room (Nat.le_of_ble_eq_true rfl)) dX12_readsSum_19 ⟨Nat.zero_le _, Nat.zero_le _⟩) (fun z19 gn H locs hok hW => ?_)
        obtain ⟨hz19, hg, hq19⟩ := hok
        rw [hg] at hW
        clear hg
        have e19 : zm_goesWell S14 = z19 := hz19.symm
        clear hz19
        refine z_if_eq (tgt := 47) CX dX12_readsSum_22 (by decide) (by constructor <;> omega) (fun c_22 => ?_) (fun c_22 => ?_)
        ·
          exact hXt14 m14 S14 ⟨hz14.trans (by rw [zm_readsSum_W14]; exact zif_f c_15 (zlet_e e19 (zif_t c_22 rfl))), hI14, fun kk ii hk => (hf14 kk ii (by omega)), by omega, by omega, ⟨by omega, by omega, by omega⟩⟩ H locs ls hW (lv_sub hl [0, 1] rfl)
        ·
          refine lv_aload_n hX0 hB0 dX12_readsSum_25 rfl (lv_at hl 1 rfl) ?_
          refine z_calli hW (va_runV (C := RX12) (As := []) (rest := []) CX.fix (zk_opensBracket l o S14  hI14 ) (cwV 0 CX.fix.2.2.2.2 gX12_readsSum_X12_opensBracket rfl rfl rfl (by decide +kernel) ⟨Nat.le_of_ble_eq_true rfl, Nat.le_of_ble_eq_true rfl⟩) (z_preV CX hW (r := (RX12, TX12, 37)) zMO_0 rfl) rfl rfl hl.1 rfl (lv_room (Nat.le_of_ble_eq_true rfl)) dX12_readsSum_26 ⟨Nat.zero_le _, Nat.zero_le _⟩) (fun z26 gn H locs hok hW => ?_)
          obtain ⟨hz26, hg, hI26, hf26, hq26⟩ := hok
          obtain ⟨S26, hS26⟩ : ∃ q, q = (zm_opensBracket S14).2 := ⟨_, rfl⟩
          rw [← hS26] at hg hI26 hf26
          have t26_5 : S26 0 5 = S14 0 5 := hf26 0 5 (by omega)
          have t26_15 : S26 0 15 = S14 0 15 := hf26 0 15 (by omega)
          skip
          try rw [← hS26] at hq26
          rw [hg] at hW
          clear hg
          have e26 : zm_opensBracket S14 = (z26, S26) := Prod.ext hz26.symm hS26.symm
          clear hz26 hS26
          refine z_if_eq (tgt := 35) CX dX12_readsSum_29 (by decide) (by constructor <;> omega) (fun c_29 => ?_) (fun c_29 => ?_)
          ·
            refine lv_aload_n hX0 hB0 dX12_readsSum_35 rfl (lv_at hl 1 rfl) ?_
            refine z_callv hW (va_runV (C := RX12) (As := []) (rest := []) CX.fix (zk_takesAtom l o S26  hI26 ) (cwV 0 CX.fix.2.2.2.2 gX12_readsSum_X12_takesAtom rfl rfl rfl (by decide +kernel) ⟨Nat.le_of_ble_eq_true rfl, Nat.le_of_ble_eq_true rfl⟩) (z_preV CX hW (r := (RX12, TX12, 37)) zMO_0 rfl) rfl rfl hl.1 rfl (lv_room (Nat.le_of_ble_eq_true rfl)) dX12_readsSum_36 ⟨Nat.zero_le _, Nat.zero_le _⟩) (fun gn H locs hok hW => ?_)
            obtain ⟨hg, hI36, hf36, hq36⟩ := hok
            obtain ⟨S36, e36⟩ : ∃ q, zm_takesAtom S26 = q := ⟨_, rfl⟩
            rw [e36] at hg hI36 hf36
            have t36_5 : S36 0 5 = S26 0 5 := hf36 0 5 (by omega)
            have t36_15 : S36 0 15 = S26 0 15 := hf36 0 15 (by omega)
            have t36_19 : S36 0 19 = S26 0 19 := hf36 0 19 (by omega)
            skip
            try rw [e36] at hq36
            rw [hg] at hW
            clear hg
            refine lv_aload_n hX0 hB0 dX12_readsSum_39 rfl (lv_at hl 1 rfl) ?_
            refine z_calli hW (va_runV (C := RX12) (As := []) (rest := []) CX.fix (zk_goesOn l o S36  hI36 ) (cwV 0 CX.fix.2.2.2.2 gX12_readsSum_X12_goesOn rfl rfl rfl (by decide +kernel) ⟨Nat.le_of_ble_eq_true rfl, Nat.le_of_ble_eq_true rfl⟩) (z_preV CX hW (r := (RX12, TX12, 37)) zMO_0 rfl) rfl rfl hl.1 rfl (lv_room (Nat.le_of_ble_eq_true rfl)) dX12_readsSum_40 ⟨Nat.zero_le _, Nat.zero_le _⟩) (fun z40 gn H locs hok hW => ?_)
            obtain ⟨hz40, hg, hI40, hf40, hq40⟩ := hok
            obtain ⟨S40, hS40⟩ : ∃ q, q = (zm_goesOn S36).2 := ⟨_, rfl⟩
            rw [← hS40] at hg hI40 hf40
            have t40_5 : S40 0 5 = S36 0 5 := hf40 0 5 (by omega)
            have t40_15 : S40 0 15 = S36 0 15 := hf40 0 15 (by omega)
            skip
            try rw [← hS40] at hq40
            rw [hg] at hW
            clear hg
            have e40 : zm_goesOn S36 = (z40, S40) := Prod.ext hz40.symm hS40.symm
            clear hz40 hS40
            refine lv_istore_n (lv' := [(1, .int (zI z40)), (0, .ref o)]) hX0 hB0 dX12_readsSum_43 rfl hl (by decide) rfl (fun ls hl => ?_)
            refine lv_goto (tgt := 14) hX0 hB0 dX12_readsSum_44 (by decide) ?_
            exact ih14 z40 S40 ⟨hz14.trans (by rw [zm_readsSum_W14]; exact zif_f c_15 (zlet_e e19 (zif_f c_22 (zlet_e e26 (zif_t c_29 (zlet_e e36 (zlet_e e40 rfl))))))), hI40, fun kk ii hk => ((((hf40 kk ii (by omega))).trans (hf36 kk ii (by omega))).trans (hf26 kk ii (by omega))).trans (hf14 kk ii (by omega)), by omega, by omega, ⟨by omega, by omega, by omega⟩⟩ (by omega) H locs ls hW (lv_sub hl [0, 1] rfl)
          ·
            refine lv_goto (tgt := 14) hX0 hB0 dX12_readsSum_32 (by decide) ?_
            exact ih14 m14 S26 ⟨hz14.trans (by rw [zm_readsSum_W14]; exact zif_f c_15 (zlet_e e19 (zif_f c_22 (zlet_e e26 (zif_f c_29 rfl))))), hI26, fun kk ii hk => ((hf26 kk ii (by omega))).trans (hf14 kk ii (by omega)), by omega, by omega, ⟨by omega, by omega, by omega⟩⟩ (by omega) H locs ls hW (lv_sub hl [0, 1] rfl)
  exact hL14 _ z10 S6 ⟨rfl, hI6, fun kk ii hk => rfl, by omega, by omega, ⟨by omega, by omega, by omega⟩⟩ (by omega) H locs ls hW (lv_sub hl [0, 1] rfl)
def zm_readsCurve_J8 (S1 : zS2) (z5 : Int) : zS2 := (if z5 = 0 then S1 else zlet (zm_own S1) (fun z12 => (if z12 = 2 then S1 else zlet (zm_faults S1 1 (S1 0 7)) (fun S25 => S25))))
def zm_readsCurve_J32 (S8j : zS2) (z29 : Int) : zS2 := (if z29 = 0 then S8j else (if S8j 0 15 = 6 then zlet (zm_faults S8j 4 (S8j 0 7)) (fun S50 => S50) else S8j))
def zm_readsCurve_W65 (z54 : Int) (S54 : zS2) : Nat → Int → zS2 → Int × zS2
  | 0, k65, S65 => (k65, S65)
  | fu65 + 1, k65, S65 => (if S65 0 15 ≤ k65 then (k65, S65) else zlet (zm_goesWell S65) (fun z74 => (if z74 = 0 then (k65, S65) else (if S65 5 ((6 + k65).toNat) = z54 then zlet (zm_faults S65 3 (S54 0 7)) (fun S96 => zm_readsCurve_W65 z54 S54 fu65 (k65 + 1) S96) else zm_readsCurve_W65 z54 S54 fu65 (k65 + 1) S65))))
def zm_readsCurve_J115 (S108 : zS2) (z112 : Int) : zS2 := (if z112 = 0 then S108 else zlet (zm_readsSum S108) (fun S119 => S119))
def zm_readsCurve_J176 (S54 : zS2) (S163 : zS2) (z172 : Int) : zS2 := (if 1 ≤ z172 then S163 else zlet (zm_faults S163 5 (S54 0 7)) (fun S182 => S182))
def zm_readsCurve (S : zS2)  : zS2 := zlet (zm_word S) (fun S1 => zlet (zm_goesWell S1) (fun z5 => zlet (zm_readsCurve_J8 S1 z5) (fun S8j => zlet (zm_goesWell S8j) (fun z29 => zlet (zm_readsCurve_J32 S8j z29) (fun S32j => zlet (zm_name S32j) (fun q54 => (fun (z54 : Int) (S54 : zS2) => zlet (zm_readsCurve_W65 z54 S54 ((8 : Nat)) 0 S54) (fun q65 => (fun (k65 : Int) (S65 : zS2) => zlet (zm_mark S65 61) (fun S108 => zlet (zm_goesWell S108) (fun z112 => zlet (zm_readsCurve_J115 S108 z112) (fun S115j => zlet (zm_mark S115j 59) (fun S125 => zlet (zm_goesWell S125) (fun z129 => (if z129 = 0 then S125 else zlet (zm_sumOf 0) (fun z145 => zlet (zm_copies S125 (6 + (S125 0 15)) z145) (fun S148 => zlet (za S148 5 ((6 + (S148 0 15)).toNat) z54) (fun S163 => zlet (zm_degreeOf S163 (6 + (S163 0 15))) (fun z172 => zlet (zm_readsCurve_J176 S54 S163 z172) (fun S176j => zlet (za S176j 0 15 ((S176j 0 15) + 1)) (fun S192 => S192))))))))))))) q65.1 q65.2)) q54.1 q54.2))))))
set_option maxRecDepth 100000 in
set_option maxHeartbeats 4000000 in
theorem zk_readsCurve (l : Launch) {D : va_G} {cI cJ cZ cP cS cM : ClassId} {L : List Nat} {sz : Nat} {f : Nat → va_E} (o : Nat) (S : zS2)  (hI : mI S)  (hle : S 0 6 ≤ S 0 5) : zMv l yX12_readsCurve wsX12_readsCurve 7 146 D (zT cI cJ cZ cP cS cM) L sz (zMO cI cJ o S f) [.ref o] (fun gv => gv = zMO cI cJ o (zm_readsCurve S) f ∧ mI (zm_readsCurve S) ∧ (∀ kk ii : Nat, ¬ (kk = 0 ∧ ii = 15) ∧ ¬ (kk = 0 ∧ ii = 19) ∧ ¬ (kk = 0 ∧ ii = 6) ∧ ¬ (kk = 0 ∧ ii = 7) ∧ ¬ (kk = 0 ∧ ii = 8) ∧ ¬ (kk = 0 ∧ ii = 9) ∧ ¬ (kk = 3 ∧ 150 ≤ (ii : Int)) ∧ ¬ kk = 4 ∧ ¬ kk = 5 ∧ ¬ kk = 7 ∧ ¬ kk = 8 → (zm_readsCurve S) kk ii = S kk ii) ∧ (S 0 6 ≤ (zm_readsCurve S) 0 6 ∧ (S 0 6 ≤ S 0 5 → (zm_readsCurve S) 0 6 ≤ S 0 5)) ∧ (S 0 8 ≠ 0 → (zm_readsCurve S) 0 8 ≠ 0) ∧ ((zm_readsCurve S) 0 8 = 0 → S 0 6 < (zm_readsCurve S) 0 6)) := by
  refine zWalk.met (nL := 4) (ret := none) (cc := cX12_readsCurve) (by decide) rfl (Nat.le_of_ble_eq_true rfl) ?_
  intro pg en st mi ag bl mt cd ls CX hW hl
  have CX : zC pg st mi ag mt cd cX12_readsCurve 4 none RX12 wsX12_readsCurve := CX
  generalize hQ : MQ bl _ ag st 0 0 _ = Q
  have hX0 := CX.1
  have hB0 := CX.2.1
  have hl : lv_has ls 4 [(0, .ref o)] := hl
  obtain ⟨H, eH⟩ : ∃ H, H = st.heap := ⟨_, rfl⟩
  obtain ⟨locs, eL⟩ : ∃ L : List Loc, L = [] := ⟨_, rfl⟩
  have hW : zW D (zT cI cJ cZ cP cS cM) L (zQ L sz) st (zMO cI cJ o S f) st.heap H locs := by rw [eH, eL]; exact hW
  suffices hgo : W pg l en ({ frames := 7, cells := 0, slots := 0, locals := 146 } : Room) st mi ag bl mt cd H locs 0 0 Q (F0 mi 0 ls []) by rw [eH, eL] at hgo; exact hgo
  clear eH eL
  have hpb := hI.s10
  have hbs := hI.s5
  have hba := hI.s6
  have hbb := hI.s7
  have hbo := hI.s19
  have hbt := hI.s15
  refine lv_aload_n hX0 hB0 dX12_readsCurve_0 rfl (lv_at hl 0 rfl) ?_
  refine z_callv hW (va_runV (C := RX12) (As := []) (rest := []) CX.fix (zk_word l o S  hI ) (cwV 0 CX.fix.2.2.2.2 gX12_readsCurve_X12_word rfl rfl rfl (by decide +kernel) ⟨Nat.le_of_ble_eq_true rfl, Nat.le_of_ble_eq_true rfl⟩) (z_preV CX hW (r := (RX12, TX12, 37)) zMO_0 rfl) rfl rfl hl.1 rfl (lv_room (Nat.le_of_ble_eq_true rfl)) dX12_readsCurve_1 ⟨Nat.zero_le _, Nat.zero_le _⟩) (fun gn H locs hok hW => ?_)
  obtain ⟨hg, hI1, hf1, hq1⟩ := hok
  obtain ⟨S1, e1⟩ : ∃ q, zm_word S = q := ⟨_, rfl⟩
  rw [e1] at hg hI1 hf1
  have t1_5 : S1 0 5 = S 0 5 := hf1 0 5 (by omega)
  have t1_15 : S1 0 15 = S 0 15 := hf1 0 15 (by omega)
  have t1_19 : S1 0 19 = S 0 19 := hf1 0 19 (by omega)
  skip
  try rw [e1] at hq1
  rw [hg] at hW
  clear hg
  refine lv_aload_n hX0 hB0 dX12_readsCurve_4 rfl (lv_at hl 0 rfl) ?_
  refine z_calli hW (va_runV (C := RX12) (As := []) (rest := []) CX.fix (zk_goesWell l o S1  hI1 ) (cwV 0 CX.fix.2.2.2.2 gX12_readsCurve_X12_goesWell rfl rfl rfl (by decide +kernel) ⟨Nat.le_of_ble_eq_true rfl, Nat.le_of_ble_eq_true rfl⟩) (z_preV CX hW (r := (RX12, TX12, 37)) zMO_0 rfl) rfl rfl hl.1 rfl (lv_room (Nat.le_of_ble_eq_true rfl)) dX12_readsCurve_5 ⟨Nat.zero_le _, Nat.zero_le _⟩) (fun z5 gn H locs hok hW => ?_)
  obtain ⟨hz5, hg, hq5⟩ := hok
  rw [hg] at hW
  clear hg
  have e5 : zm_goesWell S1 = z5 := hz5.symm
  clear hz5
  have hJ8 : ∀ (S8j : zS2), (zm_readsCurve_J8 S1 z5 = S8j ∧ mI S8j ∧ (∀ kk ii : Nat, ¬ (kk = 0 ∧ ii = 8) ∧ ¬ (kk = 0 ∧ ii = 9) → S8j kk ii = S1 kk ii) ∧ (S 0 6 ≤ S8j 0 6 ∧ (S 0 6 ≤ S 0 5 → S8j 0 6 ≤ S 0 5) ∧ (S 0 8 ≠ 0 → S8j 0 8 ≠ 0))) → ∀ (H : Heap) (locs : List Loc) (ls : Array Slot), zW D (zT cI cJ cZ cP cS cM) L (zQ L sz) st (zMO cI cJ o S8j f) st.heap H locs → lv_has ls 4 [(0, .ref o)] → W pg l en ({ frames := 7, cells := 0, slots := 0, locals := 146 } : Room) st mi ag bl mt cd H locs 0 0 Q (F0 mi 28 ls []) := by
    intro S8j hinv H locs ls hW hl
    obtain ⟨e8j, hI8j, hf8j, hv8j⟩ := hinv
    have hp8j := hI8j.s10
    have t8j_5 : S8j 0 5 = S1 0 5 := hf8j 0 5 (by omega)
    have t8j_6 : S8j 0 6 = S1 0 6 := hf8j 0 6 (by omega)
    have t8j_7 : S8j 0 7 = S1 0 7 := hf8j 0 7 (by omega)
    have t8j_15 : S8j 0 15 = S1 0 15 := hf8j 0 15 (by omega)
    have t8j_19 : S8j 0 19 = S1 0 19 := hf8j 0 19 (by omega)
    clear hq1
    refine lv_aload_n hX0 hB0 dX12_readsCurve_28 rfl (lv_at hl 0 rfl) ?_
    refine z_calli hW (va_runV (C := RX12) (As := []) (rest := []) CX.fix (zk_goesWell l o S8j  hI8j ) (cwV 0 CX.fix.2.2.2.2 gX12_readsCurve_X12_goesWell rfl rfl rfl (by decide +kernel) ⟨Nat.le_of_ble_eq_true rfl, Nat.le_of_ble_eq_true rfl⟩) (z_preV CX hW (r := (RX12, TX12, 37)) zMO_0 rfl) rfl rfl hl.1 rfl (lv_room (Nat.le_of_ble_eq_true rfl)) dX12_readsCurve_29 ⟨Nat.zero_le _, Nat.zero_le _⟩) (fun z29 gn H locs hok hW => ?_)
    obtain ⟨hz29, hg, hq29⟩ := hok
    rw [hg] at hW
    clear hg
    have e29 : zm_goesWell S8j = z29 := hz29.symm
    clear hz29
    have hJ32 : ∀ (S32j : zS2), (zm_readsCurve_J32 S8j z29 = S32j ∧ mI S32j ∧ (∀ kk ii : Nat, ¬ (kk = 0 ∧ ii = 8) ∧ ¬ (kk = 0 ∧ ii = 9) → S32j kk ii = S8j kk ii) ∧ ((S32j 0 8 = 0 → S32j 0 15 ≠ 6) ∧ S 0 6 ≤ S32j 0 6 ∧ (S 0 6 ≤ S 0 5 → S32j 0 6 ≤ S 0 5) ∧ (S 0 8 ≠ 0 → S32j 0 8 ≠ 0))) → ∀ (H : Heap) (locs : List Loc) (ls : Array Slot), zW D (zT cI cJ cZ cP cS cM) L (zQ L sz) st (zMO cI cJ o S32j f) st.heap H locs → lv_has ls 4 [(0, .ref o)] → W pg l en ({ frames := 7, cells := 0, slots := 0, locals := 146 } : Room) st mi ag bl mt cd H locs 0 0 Q (F0 mi 53 ls []) := by
      intro S32j hinv H locs ls hW hl
      obtain ⟨e32j, hI32j, hf32j, hv32j⟩ := hinv
      have hp32j := hI32j.s10
      have t32j_5 : S32j 0 5 = S8j 0 5 := hf32j 0 5 (by omega)
      have t32j_6 : S32j 0 6 = S8j 0 6 := hf32j 0 6 (by omega)
      have t32j_7 : S32j 0 7 = S8j 0 7 := hf32j 0 7 (by omega)
      have t32j_15 : S32j 0 15 = S8j 0 15 := hf32j 0 15 (by omega)
      have t32j_19 : S32j 0 19 = S8j 0 19 := hf32j 0 19 (by omega)
      obtain ⟨hw32, hm32⟩ := hv32j
      clear hv8j hq29
      refine lv_aload_n hX0 hB0 dX12_readsCurve_53 rfl (lv_at hl 0 rfl) ?_
      refine z_calli hW (va_runV (C := RX12) (As := []) (rest := []) CX.fix (zk_name l o S32j  hI32j ) (cwV 0 CX.fix.2.2.2.2 gX12_readsCurve_X12_name rfl rfl rfl (by decide +kernel) ⟨Nat.le_of_ble_eq_true rfl, Nat.le_of_ble_eq_true rfl⟩) (z_preV CX hW (r := (RX12, TX12, 37)) zMO_0 rfl) rfl rfl hl.1 rfl (lv_room (Nat.le_of_ble_eq_true rfl)) dX12_readsCurve_54 ⟨Nat.zero_le _, Nat.zero_le _⟩) (fun z54 gn H locs hok hW => ?_)
      obtain ⟨hz54, hg, hI54, hf54, hq54⟩ := hok
      obtain ⟨S54, hS54⟩ : ∃ q, q = (zm_name S32j).2 := ⟨_, rfl⟩
      rw [← hS54] at hg hI54 hf54
      have t54_5 : S54 0 5 = S32j 0 5 := hf54 0 5 (by omega)
      have t54_15 : S54 0 15 = S32j 0 15 := hf54 0 15 (by omega)
      have t54_19 : S54 0 19 = S32j 0 19 := hf54 0 19 (by omega)
      skip
      try rw [← hS54] at hq54
      rw [hg] at hW
      clear hg
      have e54 : zm_name S32j = (z54, S54) := Prod.ext hz54.symm hS54.symm
      clear hz54 hS54
      have hz54 : 0 ≤ z54 ∧ z54 ≤ 1073741823 := ⟨hq54.2.1, hq54.2.2.1⟩
      refine lv_istore_n (lv' := [(1, .int (zI z54)), (0, .ref o)]) hX0 hB0 dX12_readsCurve_57 rfl hl (by decide) rfl (fun ls hl => ?_)
      refine lv_aload_n hX0 hB0 dX12_readsCurve_58 rfl (lv_at hl 1 rfl) ?_
      refine z_get (Cn := RX12) (T := TX12) (N := 37) CX hW (v := .int (zI (S54 0 7))) zMO_0 rfl (fun w h => List.mem_cons_of_mem _ (List.mem_append_right _ h)) 7 (by decide) (List.mem_of_getElem? (i := 1) rfl) rfl rfl dX12_readsCurve_59 ?_
      have hr59 := hI54.s7
      refine lv_istore_n (lv' := [(2, .int (zI (S54 0 7))), (1, .int (zI z54)), (0, .ref o)]) hX0 hB0 dX12_readsCurve_62 rfl hl (by decide) rfl (fun ls hl => ?_)
      refine lv_iconst (v := zI 0) hX0 hB0 dX12_readsCurve_63 rfl ?_
      refine lv_istore_n (lv' := [(3, .int (zI 0)), (2, .int (zI (S54 0 7))), (1, .int (zI z54)), (0, .ref o)]) hX0 hB0 dX12_readsCurve_64 rfl hl (by decide) rfl (fun ls hl => ?_)
      have hXt65 : ∀ (k65 : Int) (S65 : zS2), (zm_readsCurve_W65 z54 S54 ((8 : Nat)) 0 S54 = (k65, S65) ∧ mI S65 ∧ (∀ kk ii : Nat, ¬ (kk = 0 ∧ ii = 8) ∧ ¬ (kk = 0 ∧ ii = 9) → S65 kk ii = S54 kk ii) ∧ 0 ≤ k65 ∧ k65 ≤ 6 ∧ ((S32j 0 8 ≠ 0 → S65 0 8 ≠ 0) ∧ S 0 6 ≤ S65 0 6 ∧ (S 0 6 ≤ S 0 5 → S65 0 6 ≤ S 0 5) ∧ (S 0 8 ≠ 0 → S65 0 8 ≠ 0))) → ∀ (H : Heap) (locs : List Loc) (ls : Array Slot), zW D (zT cI cJ cZ cP cS cM) L (zQ L sz) st (zMO cI cJ o S65 f) st.heap H locs → lv_has ls 4 [(3, .int (zI k65)), (2, .int (zI (S54 0 7))), (1, .int (zI z54)), (0, .ref o)] → W pg l en ({ frames := 7, cells := 0, slots := 0, locals := 146 } : Room) st mi ag bl mt cd H locs 0 0 Q (F0 mi 105 ls []) := by
        intro k65 S65 hinv H locs ls hW hl
        obtain ⟨e65, hI65, hf65, hak65, hbk65, hv65⟩ := hinv
        have hp65 := hI65.s10
        have t65_5 : S65 0 5 = S54 0 5 := hf65 0 5 (by omega)
        have t65_6 : S65 0 6 = S54 0 6 := hf65 0 6 (by omega)
        have t65_7 : S65 0 7 = S54 0 7 := hf65 0 7 (by omega)
        have t65_15 : S65 0 15 = S54 0 15 := hf65 0 15 (by omega)
        have t65_19 : S65 0 19 = S54 0 19 := hf65 0 19 (by omega)
        clear hm32 hq54
        refine lv_aload_n hX0 hB0 dX12_readsCurve_105 rfl (lv_at hl 3 rfl) ?_
        refine lv_bipush (v := zI 61) hX0 hB0 dX12_readsCurve_106 (by decide) ?_
        refine z_callv hW (va_runV (C := RX12) (As := [.int (zI 61)]) (rest := []) CX.fix (zk_mark l o S65 61 hI65 (by constructor <;> omega)) (cwV 1 CX.fix.2.2.2.2 gX12_readsCurve_X12_mark rfl rfl rfl (by decide +kernel) ⟨Nat.le_of_ble_eq_true rfl, Nat.le_of_ble_eq_true rfl⟩) (z_preV CX hW (r := (RX12, TX12, 37)) zMO_0 rfl) rfl rfl hl.1 rfl (lv_room (Nat.le_of_ble_eq_true rfl)) dX12_readsCurve_108 ⟨Nat.zero_le _, Nat.zero_le _⟩) (fun gn H locs hok hW => ?_)
        obtain ⟨hg, hI108, hf108, hq108⟩ := hok
        obtain ⟨S108, e108⟩ : ∃ q, zm_mark S65 61 = q := ⟨_, rfl⟩
        rw [e108] at hg hI108 hf108
        have t108_5 : S108 0 5 = S65 0 5 := hf108 0 5 (by omega)
        have t108_7 : S108 0 7 = S65 0 7 := hf108 0 7 (by omega)
        have t108_15 : S108 0 15 = S65 0 15 := hf108 0 15 (by omega)
        have t108_19 : S108 0 19 = S65 0 19 := hf108 0 19 (by omega)
        skip
        try rw [e108] at hq108
        rw [hg] at hW
        clear hg
        refine lv_aload_n hX0 hB0 dX12_readsCurve_111 rfl (lv_at hl 3 rfl) ?_
        refine z_calli hW (va_runV (C := RX12) (As := []) (rest := []) CX.fix (zk_goesWell l o S108  hI108 ) (cwV 0 CX.fix.2.2.2.2 gX12_readsCurve_X12_goesWell rfl rfl rfl (by decide +kernel) ⟨Nat.le_of_ble_eq_true rfl, Nat.le_of_ble_eq_true rfl⟩) (z_preV CX hW (r := (RX12, TX12, 37)) zMO_0 rfl) rfl rfl hl.1 rfl (lv_room (Nat.le_of_ble_eq_true rfl)) dX12_readsCurve_112 ⟨Nat.zero_le _, Nat.zero_le _⟩) (fun z112 gn H locs hok hW => ?_)
        obtain ⟨hz112, hg, hq112⟩ := hok
        rw [hg] at hW
        clear hg
        have e112 : zm_goesWell S108 = z112 := hz112.symm
        clear hz112
        have hJ115 : ∀ (S115j : zS2), (zm_readsCurve_J115 S108 z112 = S115j ∧ mI S115j ∧ (∀ kk ii : Nat, ¬ (kk = 0 ∧ ii = 19) ∧ ¬ (kk = 0 ∧ ii = 6) ∧ ¬ (kk = 0 ∧ ii = 7) ∧ ¬ (kk = 0 ∧ ii = 8) ∧ ¬ (kk = 0 ∧ ii = 9) ∧ ¬ (kk = 3 ∧ 150 ≤ (ii : Int)) ∧ ¬ kk = 4 ∧ ¬ kk = 7 ∧ ¬ kk = 8 → S115j kk ii = S108 kk ii) ∧ ((S32j 0 8 ≠ 0 → S115j 0 8 ≠ 0) ∧ S 0 6 ≤ S115j 0 6 ∧ (S 0 6 ≤ S 0 5 → S115j 0 6 ≤ S 0 5) ∧ (S 0 8 ≠ 0 → S115j 0 8 ≠ 0))) → ∀ (H : Heap) (locs : List Loc) (ls : Array Slot), zW D (zT cI cJ cZ cP cS cM) L (zQ L sz) st (zMO cI cJ o S115j f) st.heap H locs → lv_has ls 4 [(3, .int (zI k65)), (2, .int (zI (S54 0 7))), (1, .int (zI z54)), (0, .ref o)] → W pg l en ({ frames := 7, cells := 0, slots := 0, locals := 146 } : Room) st mi ag bl mt cd H locs 0 0 Q (F0 mi 122 ls []) := by
          intro S115j hinv H locs ls hW hl
          obtain ⟨e115j, hI115j, hf115j, hv115j⟩ := hinv
          have hp115j := hI115j.s10
          have t115j_5 : S115j 0 5 = S108 0 5 := hf115j 0 5 (by omega)
          have t115j_15 : S115j 0 15 = S108 0 15 := hf115j 0 15 (by omega)
          clear hv65 hq108
          refine lv_aload_n hX0 hB0 dX12_readsCurve_122 rfl (lv_at hl 3 rfl) ?_
          refine lv_bipush (v := zI 59) hX0 hB0 dX12_readsCurve_123 (by decide) ?_
          refine z_callv hW (va_runV (C := RX12) (As := [.int (zI 59)]) (rest := []) CX.fix (zk_mark l o S115j 59 hI115j (by constructor <;> omega)) (cwV 1 CX.fix.2.2.2.2 gX12_readsCurve_X12_mark rfl rfl rfl (by decide +kernel) ⟨Nat.le_of_ble_eq_true rfl, Nat.le_of_ble_eq_true rfl⟩) (z_preV CX hW (r := (RX12, TX12, 37)) zMO_0 rfl) rfl rfl hl.1 rfl (lv_room (Nat.le_of_ble_eq_true rfl)) dX12_readsCurve_125 ⟨Nat.zero_le _, Nat.zero_le _⟩) (fun gn H locs hok hW => ?_)
          obtain ⟨hg, hI125, hf125, hq125⟩ := hok
          obtain ⟨S125, e125⟩ : ∃ q, zm_mark S115j 59 = q := ⟨_, rfl⟩
          rw [e125] at hg hI125 hf125
          have t125_5 : S125 0 5 = S115j 0 5 := hf125 0 5 (by omega)
          have t125_7 : S125 0 7 = S115j 0 7 := hf125 0 7 (by omega)
          have t125_15 : S125 0 15 = S115j 0 15 := hf125 0 15 (by omega)
          have t125_19 : S125 0 19 = S115j 0 19 := hf125 0 19 (by omega)
          skip
          try rw [e125] at hq125
          rw [hg] at hW
          clear hg
          refine lv_aload_n hX0 hB0 dX12_readsCurve_128 rfl (lv_at hl 3 rfl) ?_
          refine z_calli hW (va_runV (C := RX12) (As := []) (rest := []) CX.fix (zk_goesWell l o S125  hI125 ) (cwV 0 CX.fix.2.2.2.2 gX12_readsCurve_X12_goesWell rfl rfl rfl (by decide +kernel) ⟨Nat.le_of_ble_eq_true rfl, Nat.le_of_ble_eq_true rfl⟩) (z_preV CX hW (r := (RX12, TX12, 37)) zMO_0 rfl) rfl rfl hl.1 rfl (lv_room (Nat.le_of_ble_eq_true rfl)) dX12_readsCurve_129 ⟨Nat.zero_le _, Nat.zero_le _⟩) (fun z129 gn H locs hok hW => ?_)
          obtain ⟨hz129, hg, hq129⟩ := hok
          rw [hg] at hW
          clear hg
          have e129 : zm_goesWell S125 = z129 := hz129.symm
          clear hz129
          refine z_if_ne (tgt := 136) CX dX12_readsCurve_132 (by decide) (by constructor <;> omega) (fun c_132 => ?_) (fun c_132 => ?_)
          ·
            have w1 : S125 0 8 = 0 := by omega
            have w2 : S115j 0 8 = 0 := by omega
            have w0 : S32j 0 8 = 0 := by omega
            have w9 : S32j 0 15 ≠ 6 := hw32 w0
            have w8 := hI32j.s15
            have w7 : S 0 6 < S125 0 6 := by omega
            have w6 : S125 0 6 ≤ S 0 5 ∨ S 0 5 < S 0 6 := by omega
            have w5 : S 0 8 = 0 := by omega
            clear hq125 hv115j
            refine lv_aload_n hX0 hB0 dX12_readsCurve_136 rfl (lv_at hl 3 rfl) ?_
            refine lv_bipush (v := zI 6) hX0 hB0 dX12_readsCurve_137 (by decide) ?_
            refine lv_aload_n hX0 hB0 dX12_readsCurve_139 rfl (lv_at hl 3 rfl) ?_
            refine z_get (Cn := RX12) (T := TX12) (N := 37) CX hW (v := .int (zI (S125 0 15))) zMO_0 rfl (fun w h => List.mem_cons_of_mem _ (List.mem_append_right _ h)) 15 (by decide) (List.mem_of_getElem? (i := 2) rfl) rfl rfl dX12_readsCurve_140 ?_
            have hr140 := hI125.s15
            refine z_iadd (z := 6 + (S125 0 15)) CX dX12_readsCurve_143 rfl ?_
            refine lv_iconst (v := zI 0) hX0 hB0 dX12_readsCurve_144 rfl ?_
            refine z_calli hW (va_runS (As := [.int (zI 0)]) (rest := [.int (zI (6 + (S125 0 15))), .ref o]) CX.fix (zk_sumOf l (f := zMO cI cJ o S125 f) 0 (by constructor <;> omega)) (va_cwS 1 CX.fix.2.2.2.2 gX12_readsCurve_X12_sumOf rfl rfl rfl (by decide +kernel) ⟨Nat.le_of_ble_eq_true rfl, Nat.le_of_ble_eq_true rfl⟩) (z_preS CX hW) rfl rfl hl.1 rfl (lv_room (Nat.le_of_ble_eq_true rfl)) dX12_readsCurve_145 ⟨Nat.zero_le _, Nat.zero_le _⟩) (fun z145 gn H locs hok hW => ?_)
            obtain ⟨hz145, hg, hq145⟩ := hok
            rw [hg] at hW
            clear hg
            have e145 : zm_sumOf 0 = z145 := hz145.symm
            clear hz145
            refine z_callv hW (va_runV (C := RX12) (As := [.int (zI (6 + (S125 0 15))), .int (zI z145)]) (rest := []) CX.fix (zk_copies l o S125 (6 + (S125 0 15)) z145 hI125 (by constructor <;> omega) (by constructor <;> omega)) (cwV 2 CX.fix.2.2.2.2 gX12_readsCurve_X12_copies rfl rfl rfl (by decide +kernel) ⟨Nat.le_of_ble_eq_true rfl, Nat.le_of_ble_eq_true rfl⟩) (z_preV CX hW (r := (RX12, TX12, 37)) zMO_0 rfl) rfl rfl hl.1 rfl (lv_room (Nat.le_of_ble_eq_true rfl)) dX12_readsCurve_148 ⟨Nat.zero_le _, Nat.zero_le _⟩) (fun gn H locs hok hW => ?_)
            obtain ⟨hg, hI148, hf148, hq148⟩ := hok
            obtain ⟨S148, e148⟩ : ∃ q, zm_copies S125 (6 + (S125 0 15)) z145 = q := ⟨_, rfl⟩
            rw [e148] at hg hI148 hf148
            have t148_5 : S148 0 5 = S125 0 5 := hf148 0 5 (by omega)
            have t148_6 : S148 0 6 = S125 0 6 := hf148 0 6 (by omega)
            have t148_7 : S148 0 7 = S125 0 7 := hf148 0 7 (by omega)
            have t148_8 : S148 0 8 = S125 0 8 := hf148 0 8 (by omega)
            have t148_15 : S148 0 15 = S125 0 15 := hf148 0 15 (by omega)
            have t148_19 : S148 0 19 = S125 0 19 := hf148 0 19 (by omega)
            skip
            try rw [e148] at hq148
            rw [hg] at hW
            clear hg
            refine lv_aload_n hX0 hB0 dX12_readsCurve_151 rfl (lv_at hl 3 rfl) ?_
            refine z_get (Cn := RX12) (T := TX12) (N := 37) CX hW (v := .ref (o + 5)) zMO_0 rfl (fun w h => List.mem_cons_of_mem _ (List.mem_append_right _ h)) 14 (by decide) (List.mem_of_getElem? (i := 3) rfl) rfl rfl dX12_readsCurve_152 ?_
            refine lv_bipush (v := zI 6) hX0 hB0 dX12_readsCurve_155 (by decide) ?_
            refine lv_aload_n hX0 hB0 dX12_readsCurve_157 rfl (lv_at hl 3 rfl) ?_
            refine z_get (Cn := RX12) (T := TX12) (N := 37) CX hW (v := .int (zI (S148 0 15))) zMO_0 rfl (fun w h => List.mem_cons_of_mem _ (List.mem_append_right _ h)) 15 (by decide) (List.mem_of_getElem? (i := 2) rfl) rfl rfl dX12_readsCurve_158 ?_
            have hr158 := hI148.s15
            refine z_iadd (z := 6 + (S148 0 15)) CX dX12_readsCurve_161 rfl ?_
            refine lv_iload_n hX0 hB0 dX12_readsCurve_162 rfl (lv_at hl 2 rfl) ?_
            obtain ⟨S163, e163⟩ : ∃ q, za S148 5 ((6 + (S148 0 15)).toNat) z54 = q := ⟨_, rfl⟩
            refine z_iast CX hW zMO_5 0 rfl (by refine ⟨?_, ?_, ?_⟩ <;> omega) (g := zMO cI cJ o S163 f) (zMO_w5.trans (by rw [← e163]; rfl)) dX12_readsCurve_163 (fun H locs hW => ?_)
            have hI163 : mI S163 := e163 ▸ hI148.w5 (by constructor <;> omega)
            have t163_5 : S163 0 5 = S148 0 5 := by rw [← e163]; exact za_ne (by omega)
            have t163_6 : S163 0 6 = S148 0 6 := by rw [← e163]; exact za_ne (by omega)
            have t163_7 : S163 0 7 = S148 0 7 := by rw [← e163]; exact za_ne (by omega)
            have t163_8 : S163 0 8 = S148 0 8 := by rw [← e163]; exact za_ne (by omega)
            have t163_15 : S163 0 15 = S148 0 15 := by rw [← e163]; exact za_ne (by omega)
            have t163_19 : S163 0 19 = S148 0 19 := by rw [← e163]; exact za_ne (by omega)
            refine lv_aload_n hX0 hB0 dX12_readsCurve_164 rfl (lv_at hl 3 rfl) ?_
            refine lv_bipush (v := zI 6) hX0 hB0 dX12_readsCurve_165 (by decide) ?_
            refine lv_aload_n hX0 hB0 dX12_readsCurve_167 rfl (lv_at hl 3 rfl) ?_
            refine z_get (Cn := RX12) (T := TX12) (N := 37) CX hW (v := .int (zI (S163 0 15))) zMO_0 rfl (fun w h => List.mem_cons_of_mem _ (List.mem_append_right _ h)) 15 (by decide) (List.mem_of_getElem? (i := 2) rfl) rfl rfl dX12_readsCurve_168 ?_
            have hr168 := hI163.s15
            refine z_iadd (z := 6 + (S163 0 15)) CX dX12_readsCurve_171 rfl ?_
            refine z_calli hW (va_runV (C := RX12) (As := [.int (zI (6 + (S163 0 15)))]) (rest := []) CX.fix (zk_degreeOf l o S163 (6 + (S163 0 15)) hI163 (by constructor <;> omega)) (cwV 1 CX.fix.2.2.2.2 gX12_readsCurve_X12_degreeOf rfl rfl rfl (by decide +kernel) ⟨Nat.le_of_ble_eq_true rfl, Nat.le_of_ble_eq_true rfl⟩) (z_preV CX hW (r := (RX12, TX12, 37)) zMO_0 rfl) rfl rfl hl.1 rfl (lv_room (Nat.le_of_ble_eq_true rfl)) dX12_readsCurve_172 ⟨Nat.zero_le _, Nat.zero_le _⟩) (fun z172 gn H locs hok hW => ?_)
            obtain ⟨hz172, hg, hq172⟩ := hok
            rw [hg] at hW
            clear hg
            have e172 : zm_degreeOf S163 (6 + (S163 0 15)) = z172 := hz172.symm
            clear hz172
            refine lv_iconst (v := zI 1) hX0 hB0 dX12_readsCurve_175 rfl ?_
            have hJ176 : ∀ (S176j : zS2), (zm_readsCurve_J176 S54 S163 z172 = S176j ∧ mI S176j ∧ (∀ kk ii : Nat, ¬ (kk = 0 ∧ ii = 8) ∧ ¬ (kk = 0 ∧ ii = 9) → S176j kk ii = S163 kk ii) ∧ (S 0 6 ≤ S176j 0 6 ∧ (S 0 6 ≤ S 0 5 → S176j 0 6 ≤ S 0 5) ∧ (S 0 8 ≠ 0 → S176j 0 8 ≠ 0) ∧ (S176j 0 8 = 0 → S 0 6 < S176j 0 6))) → ∀ (H : Heap) (locs : List Loc) (ls : Array Slot), zW D (zT cI cJ cZ cP cS cM) L (zQ L sz) st (zMO cI cJ o S176j f) st.heap H locs → lv_has ls 4 [(3, .int (zI k65)), (2, .int (zI (S54 0 7))), (1, .int (zI z54)), (0, .ref o)] → W pg l en ({ frames := 7, cells := 0, slots := 0, locals := 146 } : Room) st mi ag bl mt cd H locs 0 0 Q (F0 mi 185 ls []) := by
              intro S176j hinv H locs ls hW hl
              obtain ⟨e176j, hI176j, hf176j, hv176j⟩ := hinv
              have hp176j := hI176j.s10
              have t176j_5 : S176j 0 5 = S163 0 5 := hf176j 0 5 (by omega)
              have t176j_6 : S176j 0 6 = S163 0 6 := hf176j 0 6 (by omega)
              have t176j_7 : S176j 0 7 = S163 0 7 := hf176j 0 7 (by omega)
              have t176j_15 : S176j 0 15 = S163 0 15 := hf176j 0 15 (by omega)
              have t176j_19 : S176j 0 19 = S163 0 19 := hf176j 0 19 (by omega)
              refine lv_aload_n hX0 hB0 dX12_readsCurve_185 rfl (lv_at hl 3 rfl) ?_
              refine lv_dup hX0 hB0 dX12_readsCurve_186 rfl ?_
              refine z_get (Cn := RX12) (T := TX12) (N := 37) CX hW (v := .int (zI (S176j 0 15))) zMO_0 rfl (fun w h => List.mem_cons_of_mem _ (List.mem_append_right _ h)) 15 (by decide) (List.mem_of_getElem? (i := 2) rfl) rfl rfl dX12_readsCurve_187 ?_
              have hr187 := hI176j.s15
              refine lv_iconst (v := zI 1) hX0 hB0 dX12_readsCurve_190 rfl ?_
              refine z_iadd (z := (S176j 0 15) + 1) CX dX12_readsCurve_191 rfl ?_
              obtain ⟨S192, e192⟩ : ∃ q, za S176j 0 15 ((S176j 0 15) + 1) = q := ⟨_, rfl⟩
              refine z_put (Cn := RX12) (T := TX12) (N := 37) CX hW (v := .int (zI ((S176j 0 15) + 1))) zMO_0 rfl (fun w h => List.mem_cons_of_mem _ (List.mem_append_right _ h)) tyX12 tyX12_ok nmX12 15 (by decide) (List.mem_of_getElem? (i := 2) rfl) rfl rfl rfl rfl (Nat.le_of_ble_eq_true rfl) (g := zMO cI cJ o S192 f) (zMO_s15.trans (by rw [e192])) dX12_readsCurve_192 (fun H locs hW => ?_)
              have hI192 : mI S192 := e192 ▸ hI176j.v15 (by constructor <;> omega)
              have t192_5 : S192 0 5 = S176j 0 5 := by rw [← e192]; exact za_ne (by omega)
              have t192_6 : S192 0 6 = S176j 0 6 := by rw [← e192]; exact za_ne (by omega)
              have t192_7 : S192 0 7 = S176j 0 7 := by rw [← e192]; exact za_ne (by omega)
              have t192_8 : S192 0 8 = S176j 0 8 := by rw [← e192]; exact za_ne (by omega)
              have t192_15 : S192 0 15 = (S176j 0 15) + 1 := by rw [← e192]; exact za_same
              have t192_19 : S192 0 19 = S176j 0 19 := by rw [← e192]; exact za_ne (by omega)
              have hE : zm_readsCurve S = S192 := by unfold zm_readsCurve; exact zlet_e e1 (zlet_e e5 (zlet_e e8j (zlet_e e29 (zlet_e e32j (zlet_e e54 (zlet_e e65 (zlet_e e108 (zlet_e e112 (zlet_e e115j (zlet_e e125 (zlet_e e129 (zif_f c_132 (zlet_e e145 (zlet_e e148 (zlet_e e163 (zlet_e e172 (zlet_e e176j (zlet_e e192 rfl))))))))))))))))))
              have hFr : ∀ kk ii : Nat, ¬ (kk = 0 ∧ ii = 15) ∧ ¬ (kk = 0 ∧ ii = 19) ∧ ¬ (kk = 0 ∧ ii = 6) ∧ ¬ (kk = 0 ∧ ii = 7) ∧ ¬ (kk = 0 ∧ ii = 8) ∧ ¬ (kk = 0 ∧ ii = 9) ∧ ¬ (kk = 3 ∧ 150 ≤ (ii : Int)) ∧ ¬ kk = 4 ∧ ¬ kk = 5 ∧ ¬ kk = 7 ∧ ¬ kk = 8 → S192 kk ii = S kk ii := fun kk ii hk => ((((((((((((show S192 kk ii = S176j kk ii from by rw [← e192]; exact za_ne (by omega))).trans (hf176j kk ii (by omega))).trans (show S163 kk ii = S148 kk ii from by rw [← e163]; exact za_ne (by omega))).trans (hf148 kk ii (by omega))).trans (hf125 kk ii (by omega))).trans (hf115j kk ii (by omega))).trans (hf108 kk ii (by omega))).trans (hf65 kk ii (by omega))).trans (hf54 kk ii (by omega))).trans (hf32j kk ii (by omega))).trans (hf8j kk ii (by omega))).trans (hf1 kk ii (by omega))
              rw [← hQ]
              exact z_vret CX hW (by rw [hE]; exact ⟨rfl, hI192, hFr, (show (S 0 6 ≤ S192 0 6 ∧ (S 0 6 ≤ S 0 5 → S192 0 6 ≤ S 0 5)) ∧ (S 0 8 ≠ 0 → S192 0 8 ≠ 0) ∧ (S192 0 8 = 0 → S 0 6 < S192 0 6) from by omega)⟩) dX12_readsCurve_195
            refine z_icmp_ge (tgt := 185) CX dX12_readsCurve_176 (by decide) (by constructor <;> omega) (by constructor <;> omega) (fun c_176 => ?_) (fun c_176 => ?_)
            ·
              exact hJ176 S163 ⟨(by unfold zm_readsCurve_J176; exact zif_t c_176 rfl), hI163, fun kk ii hk => rfl, ⟨by omega, by omega, by omega, by omega⟩⟩ H locs ls hW (lv_sub hl [0, 1, 2, 3] rfl)
            ·
              have d_176 : ¬ 1 ≤ z172 := by omega
              refine lv_aload_n hX0 hB0 dX12_readsCurve_179 rfl (lv_at hl 3 rfl) ?_
              refine lv_iconst (v := zI 5) hX0 hB0 dX12_readsCurve_180 rfl ?_
              refine lv_iload_n hX0 hB0 dX12_readsCurve_181 rfl (lv_at hl 1 rfl) ?_
              refine z_callv hW (va_runV (C := RX12) (As := [.int (zI 5), .int (zI (S54 0 7))]) (rest := []) CX.fix (zk_faults l o S163 5 (S54 0 7) hI163 (by constructor <;> omega) (by constructor <;> omega)) (cwV 2 CX.fix.2.2.2.2 gX12_readsCurve_X12_faults rfl rfl rfl (by decide +kernel) ⟨Nat.le_of_ble_eq_true rfl, Nat.le_of_ble_eq_true rfl⟩) (z_preV CX hW (r := (RX12, TX12, 37)) zMO_0 rfl) rfl rfl hl.1 rfl (lv_room (Nat.le_of_ble_eq_true rfl)) dX12_readsCurve_182 ⟨Nat.zero_le _, Nat.zero_le _⟩) (fun gn H locs hok hW => ?_)
              obtain ⟨hg, hI182, hf182, hq182⟩ := hok
              obtain ⟨S182, e182⟩ : ∃ q, zm_faults S163 5 (S54 0 7) = q := ⟨_, rfl⟩
              rw [e182] at hg hI182 hf182
              have t182_5 : S182 0 5 = S163 0 5 := hf182 0 5 (by omega)
              have t182_6 : S182 0 6 = S163 0 6 := hf182 0 6 (by omega)
              have t182_7 : S182 0 7 = S163 0 7 := hf182 0 7 (by omega)
              have t182_15 : S182 0 15 = S163 0 15 := hf182 0 15 (by omega)
              have t182_19 : S182 0 19 = S163 0 19 := hf182 0 19 (by omega)
              skip
              try rw [e182] at hq182
              rw [hg] at hW
              clear hg
              exact hJ176 S182 ⟨(by unfold zm_readsCurve_J176; exact zif_f d_176 (zlet_e e182 rfl)), hI182, fun kk ii hk => (hf182 kk ii (by omega)), ⟨by omega, by omega, by omega, by omega⟩⟩ H locs ls hW (lv_sub hl [0, 1, 2, 3] rfl)
          ·
            have hE : zm_readsCurve S = S125 := by unfold zm_readsCurve; exact zlet_e e1 (zlet_e e5 (zlet_e e8j (zlet_e e29 (zlet_e e32j (zlet_e e54 (zlet_e e65 (zlet_e e108 (zlet_e e112 (zlet_e e115j (zlet_e e125 (zlet_e e129 (zif_t c_132 rfl))))))))))))
            have hFr : ∀ kk ii : Nat, ¬ (kk = 0 ∧ ii = 15) ∧ ¬ (kk = 0 ∧ ii = 19) ∧ ¬ (kk = 0 ∧ ii = 6) ∧ ¬ (kk = 0 ∧ ii = 7) ∧ ¬ (kk = 0 ∧ ii = 8) ∧ ¬ (kk = 0 ∧ ii = 9) ∧ ¬ (kk = 3 ∧ 150 ≤ (ii : Int)) ∧ ¬ kk = 4 ∧ ¬ kk = 5 ∧ ¬ kk = 7 ∧ ¬ kk = 8 → S125 kk ii = S kk ii := fun kk ii hk => ((((((((hf125 kk ii (by omega))).trans (hf115j kk ii (by omega))).trans (hf108 kk ii (by omega))).trans (hf65 kk ii (by omega))).trans (hf54 kk ii (by omega))).trans (hf32j kk ii (by omega))).trans (hf8j kk ii (by omega))).trans (hf1 kk ii (by omega))
            rw [← hQ]
            exact z_vret CX hW (by rw [hE]; exact ⟨rfl, hI125, hFr, (show (S 0 6 ≤ S125 0 6 ∧ (S 0 6 ≤ S 0 5 → S125 0 6 ≤ S 0 5)) ∧ (S 0 8 ≠ 0 → S125 0 8 ≠ 0) ∧ (S125 0 8 = 0 → S 0 6 < S125 0 6) from by refine ⟨by omega, by omega, fun h => by omega⟩)⟩) dX12_readsCurve_135
        refine z_if_eq (tgt := 122) CX dX12_readsCurve_115 (by decide) (by constructor <;> omega) (fun c_115 => ?_) (fun c_115 => ?_)
        ·
          exact hJ115 S108 ⟨(by unfold zm_readsCurve_J115; exact zif_t c_115 rfl), hI108, fun kk ii hk => rfl, ⟨by omega, by omega, by omega, by omega⟩⟩ H locs ls hW (lv_sub hl [0, 1, 2, 3] rfl)
        ·
          refine lv_aload_n hX0 hB0 dX12_readsCurve_118 rfl (lv_at hl 3 rfl) ?_
          refine z_callv hW (va_runV (C := RX12) (As := []) (rest := []) CX.fix (zk_readsSum l o S108  hI108 (by omega)) (cwV 0 CX.fix.2.2.2.2 gX12_readsCurve_X12_readsSum rfl rfl rfl (by decide +kernel) ⟨Nat.le_of_ble_eq_true rfl, Nat.le_of_ble_eq_true rfl⟩) (z_preV CX hW (r := (RX12, TX12, 37)) zMO_0 rfl) rfl rfl hl.1 rfl (lv_room (Nat.le_of_ble_eq_true rfl)) dX12_readsCurve_119 ⟨Nat.zero_le _, Nat.zero_le _⟩) (fun gn H locs hok hW => ?_)
          obtain ⟨hg, hI119, hf119, hq119⟩ := hok
          obtain ⟨S119, e119⟩ : ∃ q, zm_readsSum S108 = q := ⟨_, rfl⟩
          rw [e119] at hg hI119 hf119
          have t119_5 : S119 0 5 = S108 0 5 := hf119 0 5 (by omega)
          have t119_15 : S119 0 15 = S108 0 15 := hf119 0 15 (by omega)
          skip
          try rw [e119] at hq119
          rw [hg] at hW
          clear hg
          exact hJ115 S119 ⟨(by unfold zm_readsCurve_J115; exact zif_f c_115 (zlet_e e119 rfl)), hI119, fun kk ii hk => (hf119 kk ii (by omega)), ⟨by omega, by omega, by omega, by omega⟩⟩ H locs ls hW (lv_sub hl [0, 1, 2, 3] rfl)
      have hL65 : ∀ (fu : Nat) (k65 : Int) (S65 : zS2), (zm_readsCurve_W65 z54 S54 ((8 : Nat)) 0 S54 = zm_readsCurve_W65 z54 S54 fu k65 S65 ∧ mI S65 ∧ (∀ kk ii : Nat, ¬ (kk = 0 ∧ ii = 8) ∧ ¬ (kk = 0 ∧ ii = 9) → S65 kk ii = S54 kk ii) ∧ 0 ≤ k65 ∧ k65 ≤ 6 ∧ ((S32j 0 8 ≠ 0 → S65 0 8 ≠ 0) ∧ S 0 6 ≤ S65 0 6 ∧ (S 0 6 ≤ S 0 5 → S65 0 6 ≤ S 0 5) ∧ (S 0 8 ≠ 0 → S65 0 8 ≠ 0))) → (7 - k65).toNat < fu → ∀ (H : Heap) (locs : List Loc) (ls : Array Slot), zW D (zT cI cJ cZ cP cS cM) L (zQ L sz) st (zMO cI cJ o S65 f) st.heap H locs → lv_has ls 4 [(3, .int (zI k65)), (2, .int (zI (S54 0 7))), (1, .int (zI z54)), (0, .ref o)] → W pg l en ({ frames := 7, cells := 0, slots := 0, locals := 146 } : Room) st mi ag bl mt cd H locs 0 0 Q (F0 mi 65 ls []) := by
        intro fu
        induction fu with
        | zero => intro k65 S65 _ hfu; exact absurd hfu (Nat.not_lt_zero _)
        | succ fu ih65 =>
          intro k65 S65 hinv hfu65 H locs ls hW hl
          obtain ⟨hz65, hI65, hf65, hak65, hbk65, hv65⟩ := hinv
          have hp65 := hI65.s10
          have t65_5 : S65 0 5 = S54 0 5 := hf65 0 5 (by omega)
          have t65_6 : S65 0 6 = S54 0 6 := hf65 0 6 (by omega)
          have t65_7 : S65 0 7 = S54 0 7 := hf65 0 7 (by omega)
          have t65_15 : S65 0 15 = S54 0 15 := hf65 0 15 (by omega)
          have t65_19 : S65 0 19 = S54 0 19 := hf65 0 19 (by omega)
          have hbt6 := hI65.s15
          clear hm32 hq54
          refine lv_iload_n hX0 hB0 dX12_readsCurve_65 rfl (lv_at hl 0 rfl) ?_
          refine lv_aload_n hX0 hB0 dX12_readsCurve_66 rfl (lv_at hl 3 rfl) ?_
          refine z_get (Cn := RX12) (T := TX12) (N := 37) CX hW (v := .int (zI (S65 0 15))) zMO_0 rfl (fun w h => List.mem_cons_of_mem _ (List.mem_append_right _ h)) 15 (by decide) (List.mem_of_getElem? (i := 2) rfl) rfl rfl dX12_readsCurve_67 ?_
          have hr67 := hI65.s15
          refine z_icmp_ge (tgt := 105) CX dX12_readsCurve_70 (by decide) (by constructor <;> omega) (by constructor <;> omega) (fun c_70 => ?_) (fun c_70 => ?_)
          ·
            exact hXt65 k65 S65 ⟨hz65.trans (by rw [zm_readsCurve_W65]; exact zif_t c_70 rfl), hI65, fun kk ii hk => (hf65 kk ii (by omega)), by omega, by omega, ⟨by omega, by omega, by omega, by omega⟩⟩ H locs ls hW (lv_sub hl [0, 1, 2, 3] rfl)
          ·
            have d_70 : ¬ S65 0 15 ≤ k65 := by omega
            refine lv_aload_n hX0 hB0 dX12_readsCurve_73 rfl (lv_at hl 3 rfl) ?_
            refine z_calli hW (va_runV (C := RX12) (As := []) (rest := []) CX.fix (zk_goesWell l o S65  hI65 ) (cwV 0 CX.fix.2.2.2.2 gX12_readsCurve_X12_goesWell rfl rfl rfl (by decide +kernel) ⟨Nat.le_of_ble_eq_true rfl, Nat.le_of_ble_eq_true rfl⟩) (z_preV CX hW (r := (RX12, TX12, 37)) zMO_0 rfl) rfl rfl hl.1 rfl (lv_room (Nat.le_of_ble_eq_true rfl)) dX12_readsCurve_74 ⟨Nat.zero_le _, Nat.zero_le _⟩) (fun z74 gn H locs hok hW => ?_)
            obtain ⟨hz74, hg, hq74⟩ := hok
            rw [hg] at hW
            clear hg
            have e74 : zm_goesWell S65 = z74 := hz74.symm
            clear hz74
            refine z_if_eq (tgt := 105) CX dX12_readsCurve_77 (by decide) (by constructor <;> omega) (fun c_77 => ?_) (fun c_77 => ?_)
            ·
              exact hXt65 k65 S65 ⟨hz65.trans (by rw [zm_readsCurve_W65]; exact zif_f d_70 (zlet_e e74 (zif_t c_77 rfl))), hI65, fun kk ii hk => (hf65 kk ii (by omega)), by omega, by omega, ⟨by omega, by omega, by omega, by omega⟩⟩ H locs ls hW (lv_sub hl [0, 1, 2, 3] rfl)
            ·
              refine lv_aload_n hX0 hB0 dX12_readsCurve_80 rfl (lv_at hl 3 rfl) ?_
              refine z_get (Cn := RX12) (T := TX12) (N := 37) CX hW (v := .ref (o + 5)) zMO_0 rfl (fun w h => List.mem_cons_of_mem _ (List.mem_append_right _ h)) 14 (by decide) (List.mem_of_getElem? (i := 3) rfl) rfl rfl dX12_readsCurve_81 ?_
              refine lv_bipush (v := zI 6) hX0 hB0 dX12_readsCurve_84 (by decide) ?_
              refine lv_iload_n hX0 hB0 dX12_readsCurve_86 rfl (lv_at hl 0 rfl) ?_
              refine z_iadd (z := 6 + k65) CX dX12_readsCurve_87 rfl ?_
              refine z_iald (z := S65 5 ((6 + k65).toNat)) CX hW zMO_5 0 rfl (by refine ⟨?_, ?_, ?_⟩ <;> omega) rfl dX12_readsCurve_88 ?_
              have hr88 := hI65.r5 ((6 + k65).toNat)
              refine lv_iload_n hX0 hB0 dX12_readsCurve_89 rfl (lv_at hl 2 rfl) ?_
              refine z_icmp_ne (tgt := 99) CX dX12_readsCurve_90 (by decide) (by constructor <;> omega) (by constructor <;> omega) (fun c_90 => ?_) (fun c_90 => ?_)
              ·
                refine lv_iinc (v := zI (k65 + 1)) (lv' := [(3, .int (zI (k65 + 1))), (2, .int (zI (S54 0 7))), (1, .int (zI z54)), (0, .ref o)]) hX0 hB0 dX12_readsCurve_99 hl (k := 0) rfl (zI_add _ _) (by decide) rfl (fun ls hl => ?_)
                refine lv_goto (tgt := 65) hX0 hB0 dX12_readsCurve_102 (by decide) ?_
                exact ih65 (k65 + 1) S65 ⟨hz65.trans (by rw [zm_readsCurve_W65]; exact zif_f d_70 (zlet_e e74 (zif_f c_77 (zif_f c_90 rfl)))), hI65, fun kk ii hk => (hf65 kk ii (by omega)), by omega, by omega, ⟨by omega, by omega, by omega, by omega⟩⟩ (by omega) H locs ls hW (lv_sub hl [0, 1, 2, 3] rfl)
              ·
                refine lv_aload_n hX0 hB0 dX12_readsCurve_93 rfl (lv_at hl 3 rfl) ?_
                refine lv_iconst (v := zI 3) hX0 hB0 dX12_readsCurve_94 rfl ?_
                refine lv_iload_n hX0 hB0 dX12_readsCurve_95 rfl (lv_at hl 1 rfl) ?_
                refine z_callv hW (va_runV (C := RX12) (As := [.int (zI 3), .int (zI (S54 0 7))]) (rest := []) CX.fix (zk_faults l o S65 3 (S54 0 7) hI65 (by constructor <;> omega) (by constructor <;> omega)) (cwV 2 CX.fix.2.2.2.2 gX12_readsCurve_X12_faults rfl rfl rfl (by decide +kernel) ⟨Nat.le_of_ble_eq_true rfl, Nat.le_of_ble_eq_true rfl⟩) (z_preV CX hW (r := (RX12, TX12, 37)) zMO_0 rfl) rfl rfl hl.1 rfl (lv_room (Nat.le_of_ble_eq_true rfl)) dX12_readsCurve_96 ⟨Nat.zero_le _, Nat.zero_le _⟩) (fun gn H locs hok hW => ?_)
                obtain ⟨hg, hI96, hf96, hq96⟩ := hok
                obtain ⟨S96, e96⟩ : ∃ q, zm_faults S65 3 (S54 0 7) = q := ⟨_, rfl⟩
                rw [e96] at hg hI96 hf96
                have t96_5 : S96 0 5 = S65 0 5 := hf96 0 5 (by omega)
                have t96_6 : S96 0 6 = S65 0 6 := hf96 0 6 (by omega)
                have t96_7 : S96 0 7 = S65 0 7 := hf96 0 7 (by omega)
                have t96_15 : S96 0 15 = S65 0 15 := hf96 0 15 (by omega)
                have t96_19 : S96 0 19 = S65 0 19 := hf96 0 19 (by omega)
                skip
                try rw [e96] at hq96
                rw [hg] at hW
                clear hg
                refine lv_iinc (v := zI (k65 + 1)) (lv' := [(3, .int (zI (k65 + 1))), (2, .int (zI (S54 0 7))), (1, .int (zI z54)), (0, .ref o)]) hX0 hB0 dX12_readsCurve_99 hl (k := 0) rfl (zI_add _ _) (by decide) rfl (fun ls hl => ?_)
                refine lv_goto (tgt := 65) hX0 hB0 dX12_readsCurve_102 (by decide) ?_
                exact ih65 (k65 + 1) S96 ⟨hz65.trans (by rw [zm_readsCurve_W65]; exact zif_f d_70 (zlet_e e74 (zif_f c_77 (zif_t c_90 (zlet_e e96 rfl))))), hI96, fun kk ii hk => ((hf96 kk ii (by omega))).trans (hf65 kk ii (by omega)), by omega, by omega, ⟨by omega, by omega, by omega, by omega⟩⟩ (by omega) H locs ls hW (lv_sub hl [0, 1, 2, 3] rfl)
      exact hL65 _ 0 S54 ⟨rfl, hI54, fun kk ii hk => rfl, by omega, by omega, ⟨by omega, by omega, by omega, by omega⟩⟩ (by omega) H locs ls hW (lv_sub hl [0, 1, 2, 3] rfl)
    refine z_if_eq (tgt := 53) CX dX12_readsCurve_32 (by decide) (by constructor <;> omega) (fun c_32 => ?_) (fun c_32 => ?_)
    ·
      exact hJ32 S8j ⟨(by unfold zm_readsCurve_J32; exact zif_t c_32 rfl), hI8j, fun kk ii hk => rfl, ⟨by omega, by omega, by omega, by omega⟩⟩ H locs ls hW (lv_sub hl [0] rfl)
    ·
      refine lv_aload_n hX0 hB0 dX12_readsCurve_35 rfl (lv_at hl 0 rfl) ?_
      refine z_get (Cn := RX12) (T := TX12) (N := 37) CX hW (v := .int (zI (S8j 0 15))) zMO_0 rfl (fun w h => List.mem_cons_of_mem _ (List.mem_append_right _ h)) 15 (by decide) (List.mem_of_getElem? (i := 2) rfl) rfl rfl dX12_readsCurve_36 ?_
      have hr36 := hI8j.s15
      refine lv_bipush (v := zI 6) hX0 hB0 dX12_readsCurve_39 (by decide) ?_
      refine z_icmp_ne (tgt := 53) CX dX12_readsCurve_41 (by decide) (by constructor <;> omega) (by constructor <;> omega) (fun c_41 => ?_) (fun c_41 => ?_)
      ·
        exact hJ32 S8j ⟨(by unfold zm_readsCurve_J32; exact zif_f c_32 (zif_f c_41 rfl)), hI8j, fun kk ii hk => rfl, ⟨by omega, by omega, by omega, by omega⟩⟩ H locs ls hW (lv_sub hl [0] rfl)
      ·
        refine lv_aload_n hX0 hB0 dX12_readsCurve_44 rfl (lv_at hl 0 rfl) ?_
        refine lv_iconst (v := zI 4) hX0 hB0 dX12_readsCurve_45 rfl ?_
        refine lv_aload_n hX0 hB0 dX12_readsCurve_46 rfl (lv_at hl 0 rfl) ?_
        refine z_get (Cn := RX12) (T := TX12) (N := 37) CX hW (v := .int (zI (S8j 0 7))) zMO_0 rfl (fun w h => List.mem_cons_of_mem _ (List.mem_append_right _ h)) 7 (by decide) (List.mem_of_getElem? (i := 1) rfl) rfl rfl dX12_readsCurve_47 ?_
        have hr47 := hI8j.s7
        refine z_callv hW (va_runV (C := RX12) (As := [.int (zI 4), .int (zI (S8j 0 7))]) (rest := []) CX.fix (zk_faults l o S8j 4 (S8j 0 7) hI8j (by constructor <;> omega) (by constructor <;> omega)) (cwV 2 CX.fix.2.2.2.2 gX12_readsCurve_X12_faults rfl rfl rfl (by decide +kernel) ⟨Nat.le_of_ble_eq_true rfl, Nat.le_of_ble_eq_true rfl⟩) (z_preV CX hW (r := (RX12, TX12, 37)) zMO_0 rfl) rfl rfl hl.1 rfl (lv_room (Nat.le_of_ble_eq_true rfl)) dX12_readsCurve_50 ⟨Nat.zero_le _, Nat.zero_le _⟩) (fun gn H locs hok hW => ?_)
        obtain ⟨hg, hI50, hf50, hq50⟩ := hok
        obtain ⟨S50, e50⟩ : ∃ q, zm_faults S8j 4 (S8j 0 7) = q := ⟨_, rfl⟩
        rw [e50] at hg hI50 hf50
        have t50_5 : S50 0 5 = S8j 0 5 := hf50 0 5 (by omega)
        have t50_6 : S50 0 6 = S8j 0 6 := hf50 0 6 (by omega)
        have t50_7 : S50 0 7 = S8j 0 7 := hf50 0 7 (by omega)
        have t50_15 : S50 0 15 = S8j 0 15 := hf50 0 15 (by omega)
        have t50_19 : S50 0 19 = S8j 0 19 := hf50 0 19 (by omega)
        skip
        try rw [e50] at hq50
        rw [hg] at hW
        clear hg
        exact hJ32 S50 ⟨(by unfold zm_readsCurve_J32; exact zif_f c_32 (zif_t c_41 (zlet_e e50 rfl))), hI50, fun kk ii hk => (hf50 kk ii (by omega)), ⟨by omega, by omega, by omega, by omega⟩⟩ H locs ls hW (lv_sub hl [0] rfl)
  refine z_if_eq (tgt := 28) CX dX12_readsCurve_8 (by decide) (by constructor <;> omega) (fun c_8 => ?_) (fun c_8 => ?_)
  ·
    exact hJ8 S1 ⟨(by unfold zm_readsCurve_J8; exact zif_t c_8 rfl), hI1, fun kk ii hk => rfl, ⟨by omega, by omega, by omega⟩⟩ H locs ls hW (lv_sub hl [0] rfl)
  ·
    refine lv_aload_n hX0 hB0 dX12_readsCurve_11 rfl (lv_at hl 0 rfl) ?_
    refine z_calli hW (va_runV (C := RX12) (As := []) (rest := []) CX.fix (zk_own l o S1  hI1 ) (cwV 0 CX.fix.2.2.2.2 gX12_readsCurve_X12_own rfl rfl rfl (by decide +kernel) ⟨Nat.le_of_ble_eq_true rfl, Nat.le_of_ble_eq_true rfl⟩) (z_preV CX hW (r := (RX12, TX12, 37)) zMO_0 rfl) rfl rfl hl.1 rfl (lv_room (Nat.le_of_ble_eq_true rfl)) dX12_readsCurve_12 ⟨Nat.zero_le _, Nat.zero_le _⟩) (fun z12 gn H locs hok hW => ?_)
    obtain ⟨hz12, hg, hq12⟩ := hok
    rw [hg] at hW
    clear hg
    have e12 : zm_own S1 = z12 := hz12.symm
    clear hz12
    refine lv_iconst (v := zI 2) hX0 hB0 dX12_readsCurve_15 rfl ?_
    refine z_icmp_eq (tgt := 28) CX dX12_readsCurve_16 (by decide) (by constructor <;> omega) (by constructor <;> omega) (fun c_16 => ?_) (fun c_16 => ?_)
    ·
      exact hJ8 S1 ⟨(by unfold zm_readsCurve_J8; exact zif_f c_8 (zlet_e e12 (zif_t c_16 rfl))), hI1, fun kk ii hk => rfl, ⟨by omega, by omega, by omega⟩⟩ H locs ls hW (lv_sub hl [0] rfl)
    ·
      refine lv_aload_n hX0 hB0 dX12_readsCurve_19 rfl (lv_at hl 0 rfl) ?_
      refine lv_iconst (v := zI 1) hX0 hB0 dX12_readsCurve_20 rfl ?_
      refine lv_aload_n hX0 hB0 dX12_readsCurve_21 rfl (lv_at hl 0 rfl) ?_
      refine z_get (Cn := RX12) (T := TX12) (N := 37) CX hW (v := .int (zI (S1 0 7))) zMO_0 rfl (fun w h => List.mem_cons_of_mem _ (List.mem_append_right _ h)) 7 (by decide) (List.mem_of_getElem? (i := 1) rfl) rfl rfl dX12_readsCurve_22 ?_
      have hr22 := hI1.s7
      refine z_callv hW (va_runV (C := RX12) (As := [.int (zI 1), .int (zI (S1 0 7))]) (rest := []) CX.fix (zk_faults l o S1 1 (S1 0 7) hI1 (by constructor <;> omega) (by constructor <;> omega)) (cwV 2 CX.fix.2.2.2.2 gX12_readsCurve_X12_faults rfl rfl rfl (by decide +kernel) ⟨Nat.le_of_ble_eq_true rfl, Nat.le_of_ble_eq_true rfl⟩) (z_preV CX hW (r := (RX12, TX12, 37)) zMO_0 rfl) rfl rfl hl.1 rfl (lv_room (Nat.le_of_ble_eq_true rfl)) dX12_readsCurve_25 ⟨Nat.zero_le _, Nat.zero_le _⟩) (fun gn H locs hok hW => ?_)
      obtain ⟨hg, hI25, hf25, hq25⟩ := hok
      obtain ⟨S25, e25⟩ : ∃ q, zm_faults S1 1 (S1 0 7) = q := ⟨_, rfl⟩
      rw [e25] at hg hI25 hf25
      have t25_5 : S25 0 5 = S1 0 5 := hf25 0 5 (by omega)
      have t25_6 : S25 0 6 = S1 0 6 := hf25 0 6 (by omega)
      have t25_7 : S25 0 7 = S1 0 7 := hf25 0 7 (by omega)
      have t25_15 : S25 0 15 = S1 0 15 := hf25 0 15 (by omega)
      have t25_19 : S25 0 19 = S1 0 19 := hf25 0 19 (by omega)
      skip
      try rw [e25] at hq25
      rw [hg] at hW
      clear hg
      exact hJ8 S25 ⟨(by unfold zm_readsCurve_J8; exact zif_f c_8 (zlet_e e12 (zif_f c_16 (zlet_e e25 rfl)))), hI25, fun kk ii hk => (hf25 kk ii (by omega)), ⟨by omega, by omega, by omega⟩⟩ H locs ls hW (lv_sub hl [0] rfl)
def zm_isPrime_W22 (n : Int) : Nat → Int → (Int) ⊕ Int
  | 0, k22 => .inr k22
  | fu22 + 1, k22 => (if n ≤ k22 then .inr k22 else (if Int.tmod n k22 = 0 then .inl (0) else zm_isPrime_W22 n fu22 (k22 + 1)))
def zm_isPrime (n : Int) : Int := (if n < 2 then 0 else (if n ≤ 31 then zsum (zm_isPrime_W22 n ((32 : Nat)) 2) (fun r22 => r22) (fun k22 => 1) else 0))
set_option maxRecDepth 100000 in
set_option maxHeartbeats 4000000 in
theorem zk_isPrime (l : Launch) {D : va_G} {cI cJ cZ cP cS cM : ClassId} {L : List Nat} {sz : Nat} {f : Nat → va_E} (n : Int) (hn : -9223372036854775808 ≤ n ∧ n ≤ 9223372036854775807) : zMi l yX12_isPrime wsX12_isPrime 0 0 D (zT cI cJ cZ cP cS cM) L sz f [.long (zL n)] (fun zv gv => zv = zm_isPrime n ∧ gv = f ∧ 0 ≤ zv ∧ zv ≤ 1 ∧ (zv ≠ 0 → 2 ≤ n ∧ n ≤ 31)) := by
  refine zWalk.met (nL := 4) (ret := (some .boolean)) (cc := cX12_isPrime) (by decide) rfl (Nat.le_of_ble_eq_true rfl) ?_
  intro pg en st mi ag bl mt cd ls CX hW hl
  have CX : zC pg st mi ag mt cd cX12_isPrime 4 (some .boolean) RX12 wsX12_isPrime := CX
  generalize hQ : MQ bl _ ag st 0 0 _ = Q
  have hX0 := CX.1
  have hB0 := CX.2.1
  have hl : lv_has ls 4 [(0, .long (zL n))] := hl
  obtain ⟨H, eH⟩ : ∃ H, H = st.heap := ⟨_, rfl⟩
  obtain ⟨locs, eL⟩ : ∃ L : List Loc, L = [] := ⟨_, rfl⟩
  have hW : zW D (zT cI cJ cZ cP cS cM) L (zQ L sz) st f st.heap H locs := by rw [eH, eL]; exact hW
  suffices hgo : W pg l en ({ frames := 0, cells := 0, slots := 0, locals := 0 } : Room) st mi ag bl mt cd H locs 0 0 Q (F0 mi 0 ls []) by rw [eH, eL] at hgo; exact hgo
  clear eH eL
  refine lv_lload_n hX0 hB0 dX12_isPrime_0 rfl (lv_at hl 0 rfl) ?_
  refine lv_ldc2 (v := zL 2) hX0 hB0 CX.2.2.2.1 (CX.at (List.mem_of_getElem? (i := 1) rfl)) dX12_isPrime_1 ?_
  refine z_lcmp CX dX12_isPrime_4 (by constructor <;> omega) (by constructor <;> omega) ?_
  have hcm4 := zcmp_rng n 2
  refine z_if_lt (tgt := 16) CX dX12_isPrime_5 (by decide) (by constructor <;> omega) (fun c_5 => ?_) (fun c_5 => ?_)
  ·
    simp only [zcmp_lt, zcmp_le, zcmp_gt, zcmp_ge, zcmp_eq] at c_5
    refine lv_iconst (v := zI 0) hX0 hB0 dX12_isPrime_16 rfl ?_
    have hE : zm_isPrime n = 0 := by unfold zm_isPrime; exact zif_t c_5 rfl
    rw [← hQ]
    exact z_iret (z := 0) CX hW (by rw [hE]; exact ⟨rfl, rfl, (show 0 ≤ (0 : Int) ∧ (0 : Int) ≤ 1 ∧ ((0 : Int) ≠ 0 → 2 ≤ n ∧ n ≤ 31) from by omega)⟩) rfl dX12_isPrime_17
  ·
    simp only [zcmp_lt, zcmp_le, zcmp_gt, zcmp_ge, zcmp_eq] at c_5
    have d_5 : ¬ n < 2 := by omega
    refine lv_lload_n hX0 hB0 dX12_isPrime_8 rfl (lv_at hl 0 rfl) ?_
    refine lv_ldc2 (v := zL 31) hX0 hB0 CX.2.2.2.1 (CX.at (List.mem_of_getElem? (i := 2) rfl)) dX12_isPrime_9 ?_
    refine z_lcmp CX dX12_isPrime_12 (by constructor <;> omega) (by constructor <;> omega) ?_
    have hcm12 := zcmp_rng n 31
    refine z_if_le (tgt := 18) CX dX12_isPrime_13 (by decide) (by constructor <;> omega) (fun c_13 => ?_) (fun c_13 => ?_)
    ·
      simp only [zcmp_lt, zcmp_le, zcmp_gt, zcmp_ge, zcmp_eq] at c_13
      refine lv_ldc2 (v := zL 2) hX0 hB0 CX.2.2.2.1 (CX.at (List.mem_of_getElem? (i := 1) rfl)) dX12_isPrime_18 ?_
      refine lv_lstore_n (lv' := [(2, .long (zL 2)), (0, .long (zL n))]) hX0 hB0 dX12_isPrime_21 rfl hl (by decide) rfl (fun ls hl => ?_)
      have hXt22 : ∀ (k22 : Int), (zm_isPrime_W22 n ((32 : Nat)) 2 = .inr k22 ∧ 2 ≤ k22 ∧ k22 ≤ 32) → ∀ (H : Heap) (locs : List Loc) (ls : Array Slot), zW D (zT cI cJ cZ cP cS cM) L (zQ L sz) st f st.heap H locs → lv_has ls 4 [(2, .long (zL k22)), (0, .long (zL n))] → W pg l en ({ frames := 0, cells := 0, slots := 0, locals := 0 } : Room) st mi ag bl mt cd H locs 0 0 Q (F0 mi 45 ls []) := by
        intro k22 hinv H locs ls hW hl
        obtain ⟨e22, hak22, hbk22⟩ := hinv
        refine lv_iconst (v := zI 1) hX0 hB0 dX12_isPrime_45 rfl ?_
        have hE : zm_isPrime n = 1 := by unfold zm_isPrime; exact zif_f d_5 (zif_t c_13 (zsum_r e22 rfl))
        rw [← hQ]
        exact z_iret (z := 1) CX hW (by rw [hE]; exact ⟨rfl, rfl, (show 0 ≤ (1 : Int) ∧ (1 : Int) ≤ 1 ∧ ((1 : Int) ≠ 0 → 2 ≤ n ∧ n ≤ 31) from by omega)⟩) rfl dX12_isPrime_46
      have hL22 : ∀ (fu : Nat) (k22 : Int), (zm_isPrime_W22 n ((32 : Nat)) 2 = zm_isPrime_W22 n fu k22 ∧ 2 ≤ k22 ∧ k22 ≤ 32) → (32 - k22).toNat < fu → ∀ (H : Heap) (locs : List Loc) (ls : Array Slot), zW D (zT cI cJ cZ cP cS cM) L (zQ L sz) st f st.heap H locs → lv_has ls 4 [(2, .long (zL k22)), (0, .long (zL n))] → W pg l en ({ frames := 0, cells := 0, slots := 0, locals := 0 } : Room) st mi ag bl mt cd H locs 0 0 Q (F0 mi 22 ls []) := by
        intro fu
        induction fu with
        | zero => intro k22 _ hfu; exact absurd hfu (Nat.not_lt_zero _)
        | succ fu ih22 =>
          intro k22 hinv hfu22 H locs ls hW hl
          obtain ⟨hz22, hak22, hbk22⟩ := hinv
          refine lv_lload_n hX0 hB0 dX12_isPrime_22 rfl (lv_at hl 0 rfl) ?_
          refine lv_lload_n hX0 hB0 dX12_isPrime_23 rfl (lv_at hl 1 rfl) ?_
          refine z_lcmp CX dX12_isPrime_24 (by constructor <;> omega) (by constructor <;> omega) ?_
          have hcm24 := zcmp_rng k22 n
          refine z_if_ge (tgt := 45) CX dX12_isPrime_25 (by decide) (by constructor <;> omega) (fun c_25 => ?_) (fun c_25 => ?_)
          ·
            simp only [zcmp_lt, zcmp_le, zcmp_gt, zcmp_ge, zcmp_eq] at c_25
            exact hXt22 k22 ⟨hz22.trans (by rw [zm_isPrime_W22]; exact zif_t c_25 rfl), by omega, by omega⟩ H locs ls hW (lv_sub hl [0, 1] rfl)
          ·
            simp only [zcmp_lt, zcmp_le, zcmp_gt, zcmp_ge, zcmp_eq] at c_25
            have d_25 : ¬ n ≤ k22 := by omega
            refine lv_lload_n hX0 hB0 dX12_isPrime_28 rfl (lv_at hl 1 rfl) ?_
            refine lv_lload_n hX0 hB0 dX12_isPrime_29 rfl (lv_at hl 0 rfl) ?_
            refine z_lrem (z := Int.tmod n k22) CX dX12_isPrime_30 (by constructor <;> omega) (by constructor <;> omega) rfl ?_
            have ht30 := ztm (n := n) (p := k22) (by omega)
            refine lv_lconst (v := zL 0) hX0 hB0 dX12_isPrime_31 rfl ?_
            refine z_lcmp CX dX12_isPrime_32 (by constructor <;> omega) (by constructor <;> omega) ?_
            have hcm32 := zcmp_rng (Int.tmod n k22) 0
            refine z_if_ne (tgt := 38) CX dX12_isPrime_33 (by decide) (by constructor <;> omega) (fun c_33 => ?_) (fun c_33 => ?_)
            ·
              simp only [zcmp_lt, zcmp_le, zcmp_gt, zcmp_ge, zcmp_eq] at c_33
              refine lv_lload_n hX0 hB0 dX12_isPrime_38 rfl (lv_at hl 0 rfl) ?_
              refine lv_lconst (v := zL 1) hX0 hB0 dX12_isPrime_39 rfl ?_
              refine z_ladd (z := k22 + 1) CX dX12_isPrime_40 rfl ?_
              refine lv_lstore_n (lv' := [(2, .long (zL (k22 + 1))), (0, .long (zL n))]) hX0 hB0 dX12_isPrime_41 rfl hl (by decide) rfl (fun ls hl => ?_)
              refine lv_goto (tgt := 22) hX0 hB0 dX12_isPrime_42 (by decide) ?_
              exact ih22 (k22 + 1) ⟨hz22.trans (by rw [zm_isPrime_W22]; exact zif_f d_25 (zif_f c_33 rfl)), by omega, by omega⟩ (by omega) H locs ls hW (lv_sub hl [0, 1] rfl)
            ·
              simp only [zcmp_lt, zcmp_le, zcmp_gt, zcmp_ge, zcmp_eq] at c_33
              refine lv_iconst (v := zI 0) hX0 hB0 dX12_isPrime_36 rfl ?_
              have hE : zm_isPrime n = 0 := by unfold zm_isPrime; exact zif_f d_5 (zif_t c_13 (zsum_l (hz22.trans (by rw [zm_isPrime_W22]; exact zif_f d_25 (zif_t c_33 rfl))) rfl))
              rw [← hQ]
              exact z_iret (z := 0) CX hW (by rw [hE]; exact ⟨rfl, rfl, (show 0 ≤ (0 : Int) ∧ (0 : Int) ≤ 1 ∧ ((0 : Int) ≠ 0 → 2 ≤ n ∧ n ≤ 31) from by omega)⟩) rfl dX12_isPrime_37
      exact hL22 _ 2 ⟨rfl, by omega, by omega⟩ (by omega) H locs ls hW (lv_sub hl [0, 1] rfl)
    ·
      simp only [zcmp_lt, zcmp_le, zcmp_gt, zcmp_ge, zcmp_eq] at c_13
      have d_13 : ¬ n ≤ 31 := by omega
      refine lv_iconst (v := zI 0) hX0 hB0 dX12_isPrime_16 rfl ?_
      have hE : zm_isPrime n = 0 := by unfold zm_isPrime; exact zif_f d_5 (zif_f d_13 rfl)
      rw [← hQ]
      exact z_iret (z := 0) CX hW (by rw [hE]; exact ⟨rfl, rfl, (show 0 ≤ (0 : Int) ∧ (0 : Int) ≤ 1 ∧ ((0 : Int) ≠ 0 → 2 ≤ n ∧ n ≤ 31) from by omega)⟩) rfl dX12_isPrime_17
def zm_readsField_J22 (z14 : Int) (S14 : zS2) (z19 : Int) : zS2 := (if z19 = 0 then S14 else zlet (zm_isPrime z14) (fun z26 => (if z26 = 0 then zlet (zm_faults S14 2 (S14 0 7)) (fun S38 => S38) else S14)))
def zm_readsField_J45 (z14 : Int) (S22j : zS2) (z42 : Int) : zS2 := (if z42 = 0 then S22j else zlet (za S22j 0 10 z14) (fun S51 => S51))
def zm_readsField (S : zS2)  : zS2 := zlet (zm_comes S) (fun q1 => (fun (z1 : Int) (S1 : zS2) => (if z1 = 1 then zlet (zm_word S1) (fun S10 => zlet (zm_number S10) (fun q14 => (fun (z14 : Int) (S14 : zS2) => zlet (zm_goesWell S14) (fun z19 => zlet (zm_readsField_J22 z14 S14 z19) (fun S22j => zlet (zm_goesWell S22j) (fun z42 => zlet (zm_readsField_J45 z14 S22j z42) (fun S45j => zlet (zm_mark S45j 59) (fun S57 => S57)))))) q14.1 q14.2)) else S1)) q1.1 q1.2)
set_option maxRecDepth 100000 in
set_option maxHeartbeats 4000000 in
theorem zk_readsField (l : Launch) {D : va_G} {cI cJ cZ cP cS cM : ClassId} {L : List Nat} {sz : Nat} {f : Nat → va_E} (o : Nat) (S : zS2)  (hI : mI S)  (hle : S 0 6 ≤ S 0 5) : zMv l yX12_readsField wsX12_readsField 5 104 D (zT cI cJ cZ cP cS cM) L sz (zMO cI cJ o S f) [.ref o] (fun gv => gv = zMO cI cJ o (zm_readsField S) f ∧ mI (zm_readsField S) ∧ (∀ kk ii : Nat, ¬ (kk = 0 ∧ ii = 10) ∧ ¬ (kk = 0 ∧ ii = 6) ∧ ¬ (kk = 0 ∧ ii = 7) ∧ ¬ (kk = 0 ∧ ii = 8) ∧ ¬ (kk = 0 ∧ ii = 9) → (zm_readsField S) kk ii = S kk ii) ∧ (S 0 6 ≤ (zm_readsField S) 0 6 ∧ (S 0 6 ≤ S 0 5 → (zm_readsField S) 0 6 ≤ S 0 5)) ∧ (S 0 8 ≠ 0 → (zm_readsField S) 0 8 ≠ 0)) := by
  refine zWalk.met (nL := 3) (ret := none) (cc := cX12_readsField) (by decide) rfl (Nat.le_of_ble_eq_true rfl) ?_
  intro pg en st mi ag bl mt cd ls CX hW hl
  have CX : zC pg st mi ag mt cd cX12_readsField 3 none RX12 wsX12_readsField := CX
  generalize hQ : MQ bl _ ag st 0 0 _ = Q
  have hX0 := CX.1
  have hB0 := CX.2.1
  have hl : lv_has ls 3 [(0, .ref o)] := hl
  obtain ⟨H, eH⟩ : ∃ H, H = st.heap := ⟨_, rfl⟩
  obtain ⟨locs, eL⟩ : ∃ L : List Loc, L = [] := ⟨_, rfl⟩
  have hW : zW D (zT cI cJ cZ cP cS cM) L (zQ L sz) st (zMO cI cJ o S f) st.heap H locs := by rw [eH, eL]; exact hW
  suffices hgo : W pg l en ({ frames := 5, cells := 0, slots := 0, locals := 104 } : Room) st mi ag bl mt cd H locs 0 0 Q (F0 mi 0 ls []) by rw [eH, eL] at hgo; exact hgo
  clear eH eL
  have hpb := hI.s10
  have hbs := hI.s5
  have hba := hI.s6
  have hbb := hI.s7
  have hbo := hI.s19
  have hbt := hI.s15
  refine lv_aload_n hX0 hB0 dX12_readsField_0 rfl (lv_at hl 0 rfl) ?_
  refine z_calli hW (va_runV (C := RX12) (As := []) (rest := []) CX.fix (zk_comes l o S  hI ) (cwV 0 CX.fix.2.2.2.2 gX12_readsField_X12_comes rfl rfl rfl (by decide +kernel) ⟨Nat.le_of_ble_eq_true rfl, Nat.le_of_ble_eq_true rfl⟩) (z_preV CX hW (r := (RX12, TX12, 37)) zMO_0 rfl) rfl rfl hl.1 rfl (lv_room (Nat.le_of_ble_eq_true rfl)) dX12_readsField_1 ⟨Nat.zero_le _, Nat.zero_le _⟩) (fun z1 gn H locs hok hW => ?_)
  obtain ⟨hz1, hg, hI1, hf1, hq1⟩ := hok
  obtain ⟨S1, hS1⟩ : ∃ q, q = (zm_comes S).2 := ⟨_, rfl⟩
  rw [← hS1] at hg hI1 hf1
  have t1_5 : S1 0 5 = S 0 5 := hf1 0 5 (by omega)
  have t1_15 : S1 0 15 = S 0 15 := hf1 0 15 (by omega)
  have t1_19 : S1 0 19 = S 0 19 := hf1 0 19 (by omega)
  skip
  try rw [← hS1] at hq1
  rw [hg] at hW
  clear hg
  have e1 : zm_comes S = (z1, S1) := Prod.ext hz1.symm hS1.symm
  clear hz1 hS1
  refine lv_iconst (v := zI 1) hX0 hB0 dX12_readsField_4 rfl ?_
  refine z_icmp_eq (tgt := 9) CX dX12_readsField_5 (by decide) (by constructor <;> omega) (by constructor <;> omega) (fun c_5 => ?_) (fun c_5 => ?_)
  ·
    refine lv_aload_n hX0 hB0 dX12_readsField_9 rfl (lv_at hl 0 rfl) ?_
    refine z_callv hW (va_runV (C := RX12) (As := []) (rest := []) CX.fix (zk_word l o S1  hI1 ) (cwV 0 CX.fix.2.2.2.2 gX12_readsField_X12_word rfl rfl rfl (by decide +kernel) ⟨Nat.le_of_ble_eq_true rfl, Nat.le_of_ble_eq_true rfl⟩) (z_preV CX hW (r := (RX12, TX12, 37)) zMO_0 rfl) rfl rfl hl.1 rfl (lv_room (Nat.le_of_ble_eq_true rfl)) dX12_readsField_10 ⟨Nat.zero_le _, Nat.zero_le _⟩) (fun gn H locs hok hW => ?_)
    obtain ⟨hg, hI10, hf10, hq10⟩ := hok
    obtain ⟨S10, e10⟩ : ∃ q, zm_word S1 = q := ⟨_, rfl⟩
    rw [e10] at hg hI10 hf10
    have t10_5 : S10 0 5 = S1 0 5 := hf10 0 5 (by omega)
    have t10_15 : S10 0 15 = S1 0 15 := hf10 0 15 (by omega)
    have t10_19 : S10 0 19 = S1 0 19 := hf10 0 19 (by omega)
    skip
    try rw [e10] at hq10
    rw [hg] at hW
    clear hg
    refine lv_aload_n hX0 hB0 dX12_readsField_13 rfl (lv_at hl 0 rfl) ?_
    refine z_calll hW (va_runV (C := RX12) (As := []) (rest := []) CX.fix (zk_number l o S10  hI10 ) (cwV 0 CX.fix.2.2.2.2 gX12_readsField_X12_number rfl rfl rfl (by decide +kernel) ⟨Nat.le_of_ble_eq_true rfl, Nat.le_of_ble_eq_true rfl⟩) (z_preV CX hW (r := (RX12, TX12, 37)) zMO_0 rfl) rfl rfl hl.1 rfl (lv_room (Nat.le_of_ble_eq_true rfl)) dX12_readsField_14 ⟨Nat.zero_le _, Nat.zero_le _⟩) (fun z14 gn H locs hok hW => ?_)
    obtain ⟨hz14, hg, hI14, hf14, hq14⟩ := hok
    obtain ⟨S14, hS14⟩ : ∃ q, q = (zm_number S10).2 := ⟨_, rfl⟩
    rw [← hS14] at hg hI14 hf14
    have t14_5 : S14 0 5 = S10 0 5 := hf14 0 5 (by omega)
    have t14_15 : S14 0 15 = S10 0 15 := hf14 0 15 (by omega)
    have t14_19 : S14 0 19 = S10 0 19 := hf14 0 19 (by omega)
    skip
    try rw [← hS14] at hq14
    rw [hg] at hW
    clear hg
    have e14 : zm_number S10 = (z14, S14) := Prod.ext hz14.symm hS14.symm
    clear hz14 hS14
    refine lv_lstore_n (lv' := [(1, .long (zL z14)), (0, .ref o)]) hX0 hB0 dX12_readsField_17 rfl hl (by decide) rfl (fun ls hl => ?_)
    refine lv_aload_n hX0 hB0 dX12_readsField_18 rfl (lv_at hl 1 rfl) ?_
    refine z_calli hW (va_runV (C := RX12) (As := []) (rest := []) CX.fix (zk_goesWell l o S14  hI14 ) (cwV 0 CX.fix.2.2.2.2 gX12_readsField_X12_goesWell rfl rfl rfl (by decide +kernel) ⟨Nat.le_of_ble_eq_true rfl, Nat.le_of_ble_eq_true rfl⟩) (z_preV CX hW (r := (RX12, TX12, 37)) zMO_0 rfl) rfl rfl hl.1 rfl (lv_room (Nat.le_of_ble_eq_true rfl)) dX12_readsField_19 ⟨Nat.zero_le _, Nat.zero_le _⟩) (fun z19 gn H locs hok hW => ?_)
    obtain ⟨hz19, hg, hq19⟩ := hok
    rw [hg] at hW
    clear hg
    have e19 : zm_goesWell S14 = z19 := hz19.symm
    clear hz19
    have hJ22 : ∀ (S22j : zS2), (zm_readsField_J22 z14 S14 z19 = S22j ∧ mI S22j ∧ (∀ kk ii : Nat, ¬ (kk = 0 ∧ ii = 8) ∧ ¬ (kk = 0 ∧ ii = 9) → S22j kk ii = S14 kk ii) ∧ ((S22j 0 8 = 0 → 2 ≤ z14 ∧ z14 ≤ 31) ∧ S14 0 6 ≤ S22j 0 6 ∧ (S14 0 6 ≤ S14 0 5 → S22j 0 6 ≤ S14 0 5) ∧ (S14 0 8 ≠ 0 → S22j 0 8 ≠ 0))) → ∀ (H : Heap) (locs : List Loc) (ls : Array Slot), zW D (zT cI cJ cZ cP cS cM) L (zQ L sz) st (zMO cI cJ o S22j f) st.heap H locs → lv_has ls 3 [(1, .long (zL z14)), (0, .ref o)] → W pg l en ({ frames := 5, cells := 0, slots := 0, locals := 104 } : Room) st mi ag bl mt cd H locs 0 0 Q (F0 mi 41 ls []) := by
      intro S22j hinv H locs ls hW hl
      obtain ⟨e22j, hI22j, hf22j, hv22j⟩ := hinv
      have hp22j := hI22j.s10
      have t22j_5 : S22j 0 5 = S14 0 5 := hf22j 0 5 (by omega)
      have t22j_6 : S22j 0 6 = S14 0 6 := hf22j 0 6 (by omega)
      have t22j_7 : S22j 0 7 = S14 0 7 := hf22j 0 7 (by omega)
      have t22j_15 : S22j 0 15 = S14 0 15 := hf22j 0 15 (by omega)
      have t22j_19 : S22j 0 19 = S14 0 19 := hf22j 0 19 (by omega)
      refine lv_aload_n hX0 hB0 dX12_readsField_41 rfl (lv_at hl 1 rfl) ?_
      refine z_calli hW (va_runV (C := RX12) (As := []) (rest := []) CX.fix (zk_goesWell l o S22j  hI22j ) (cwV 0 CX.fix.2.2.2.2 gX12_readsField_X12_goesWell rfl rfl rfl (by decide +kernel) ⟨Nat.le_of_ble_eq_true rfl, Nat.le_of_ble_eq_true rfl⟩) (z_preV CX hW (r := (RX12, TX12, 37)) zMO_0 rfl) rfl rfl hl.1 rfl (lv_room (Nat.le_of_ble_eq_true rfl)) dX12_readsField_42 ⟨Nat.zero_le _, Nat.zero_le _⟩) (fun z42 gn H locs hok hW => ?_)
      obtain ⟨hz42, hg, hq42⟩ := hok
      rw [hg] at hW
      clear hg
      have e42 : zm_goesWell S22j = z42 := hz42.symm
      clear hz42
      have hJ45 : ∀ (S45j : zS2), (zm_readsField_J45 z14 S22j z42 = S45j ∧ mI S45j ∧ (∀ kk ii : Nat, ¬ (kk = 0 ∧ ii = 10) → S45j kk ii = S22j kk ii) ∧ (S22j 0 6 ≤ S45j 0 6 ∧ (S22j 0 6 ≤ S22j 0 5 → S45j 0 6 ≤ S22j 0 5) ∧ (S22j 0 8 ≠ 0 → S45j 0 8 ≠ 0))) → ∀ (H : Heap) (locs : List Loc) (ls : Array Slot), zW D (zT cI cJ cZ cP cS cM) L (zQ L sz) st (zMO cI cJ o S45j f) st.heap H locs → lv_has ls 3 [(1, .long (zL z14)), (0, .ref o)] → W pg l en ({ frames := 5, cells := 0, slots := 0, locals := 104 } : Room) st mi ag bl mt cd H locs 0 0 Q (F0 mi 54 ls []) := by
        intro S45j hinv H locs ls hW hl
        obtain ⟨e45j, hI45j, hf45j, hv45j⟩ := hinv
        have hp45j := hI45j.s10
        have t45j_5 : S45j 0 5 = S22j 0 5 := hf45j 0 5 (by omega)
        have t45j_6 : S45j 0 6 = S22j 0 6 := hf45j 0 6 (by omega)
        have t45j_7 : S45j 0 7 = S22j 0 7 := hf45j 0 7 (by omega)
        have t45j_8 : S45j 0 8 = S22j 0 8 := hf45j 0 8 (by omega)
        have t45j_15 : S45j 0 15 = S22j 0 15 := hf45j 0 15 (by omega)
        have t45j_19 : S45j 0 19 = S22j 0 19 := hf45j 0 19 (by omega)
        refine lv_aload_n hX0 hB0 dX12_readsField_54 rfl (lv_at hl 1 rfl) ?_
        refine lv_bipush (v := zI 59) hX0 hB0 dX12_readsField_55 (by decide) ?_
        refine z_callv hW (va_runV (C := RX12) (As := [.int (zI 59)]) (rest := []) CX.fix (zk_mark l o S45j 59 hI45j (by constructor <;> omega)) (cwV 1 CX.fix.2.2.2.2 gX12_readsField_X12_mark rfl rfl rfl (by decide +kernel) ⟨Nat.le_of_ble_eq_true rfl, Nat.le_of_ble_eq_true rfl⟩) (z_preV CX hW (r := (RX12, TX12, 37)) zMO_0 rfl) rfl rfl hl.1 rfl (lv_room (Nat.le_of_ble_eq_true rfl)) dX12_readsField_57 ⟨Nat.zero_le _, Nat.zero_le _⟩) (fun gn H locs hok hW => ?_)
        obtain ⟨hg, hI57, hf57, hq57⟩ := hok
        obtain ⟨S57, e57⟩ : ∃ q, zm_mark S45j 59 = q := ⟨_, rfl⟩
        rw [e57] at hg hI57 hf57
        have t57_5 : S57 0 5 = S45j 0 5 := hf57 0 5 (by omega)
        have t57_7 : S57 0 7 = S45j 0 7 := hf57 0 7 (by omega)
        have t57_15 : S57 0 15 = S45j 0 15 := hf57 0 15 (by omega)
        have t57_19 : S57 0 19 = S45j 0 19 := hf57 0 19 (by omega)
        skip
        try rw [e57] at hq57
        rw [hg] at hW
        clear hg
        have hE : zm_readsField S = S57 := by unfold zm_readsField; exact zlet_e e1 (zif_t c_5 (zlet_e e10 (zlet_e e14 (zlet_e e19 (zlet_e e22j (zlet_e e42 (zlet_e e45j (zlet_e e57 rfl))))))))
        have hFr : ∀ kk ii : Nat, ¬ (kk = 0 ∧ ii = 10) ∧ ¬ (kk = 0 ∧ ii = 6) ∧ ¬ (kk = 0 ∧ ii = 7) ∧ ¬ (kk = 0 ∧ ii = 8) ∧ ¬ (kk = 0 ∧ ii = 9) → S57 kk ii = S kk ii := fun kk ii hk => ((((((hf57 kk ii (by omega))).trans (hf45j kk ii (by omega))).trans (hf22j kk ii (by omega))).trans (hf14 kk ii (by omega))).trans (hf10 kk ii (by omega))).trans (hf1 kk ii (by omega))
        rw [← hQ]
        exact z_vret CX hW (by rw [hE]; exact ⟨rfl, hI57, hFr, (show (S 0 6 ≤ S57 0 6 ∧ (S 0 6 ≤ S 0 5 → S57 0 6 ≤ S 0 5)) ∧ (S 0 8 ≠ 0 → S57 0 8 ≠ 0) from by omega)⟩) dX12_readsField_60
      refine z_if_eq (tgt := 54) CX dX12_readsField_45 (by decide) (by constructor <;> omega) (fun c_45 => ?_) (fun c_45 => ?_)
      ·
        exact hJ45 S22j ⟨(by unfold zm_readsField_J45; exact zif_t c_45 rfl), hI22j, fun kk ii hk => rfl, ⟨by omega, by omega, by omega⟩⟩ H locs ls hW (lv_sub hl [0, 1] rfl)
      ·
        refine lv_aload_n hX0 hB0 dX12_readsField_48 rfl (lv_at hl 1 rfl) ?_
        refine lv_lload_n hX0 hB0 dX12_readsField_49 rfl (lv_at hl 0 rfl) ?_
        refine z_l2i CX dX12_readsField_50 ?_
        obtain ⟨S51, e51⟩ : ∃ q, za S22j 0 10 z14 = q := ⟨_, rfl⟩
        refine z_put (Cn := RX12) (T := TX12) (N := 37) CX hW (v := .int (zI z14)) zMO_0 rfl (fun w h => List.mem_cons_of_mem _ (List.mem_append_right _ h)) tyX12 tyX12_ok nmX12 10 (by decide) (List.mem_of_getElem? (i := 2) rfl) rfl rfl rfl rfl (Nat.le_of_ble_eq_true rfl) (g := zMO cI cJ o S51 f) (zMO_s10.trans (by rw [e51])) dX12_readsField_51 (fun H locs hW => ?_)
        have hI51 : mI S51 := e51 ▸ hI22j.v10 (by constructor <;> omega)
        have t51_5 : S51 0 5 = S22j 0 5 := by rw [← e51]; exact za_ne (by omega)
        have t51_6 : S51 0 6 = S22j 0 6 := by rw [← e51]; exact za_ne (by omega)
        have t51_7 : S51 0 7 = S22j 0 7 := by rw [← e51]; exact za_ne (by omega)
        have t51_8 : S51 0 8 = S22j 0 8 := by rw [← e51]; exact za_ne (by omega)
        have t51_15 : S51 0 15 = S22j 0 15 := by rw [← e51]; exact za_ne (by omega)
        have t51_19 : S51 0 19 = S22j 0 19 := by rw [← e51]; exact za_ne (by omega)
        exact hJ45 S51 ⟨(by unfold zm_readsField_J45; exact zif_f c_45 (zlet_e e51 rfl)), hI51, fun kk ii hk => (show S51 kk ii = S22j kk ii from by rw [← e51]; exact za_ne (by omega)), ⟨by omega, by omega, by omega⟩⟩ H locs ls hW (lv_sub hl [0, 1] rfl)
    refine z_if_eq (tgt := 41) CX dX12_readsField_22 (by decide) (by constructor <;> omega) (fun c_22 => ?_) (fun c_22 => ?_)
    ·
      exact hJ22 S14 ⟨(by unfold zm_readsField_J22; exact zif_t c_22 rfl), hI14, fun kk ii hk => rfl, ⟨by omega, by omega, by omega, by omega⟩⟩ H locs ls hW (lv_sub hl [0, 1] rfl)
    ·
      refine lv_lload_n hX0 hB0 dX12_readsField_25 rfl (lv_at hl 0 rfl) ?_
      refine z_calli hW (va_runS (As := [.long (zL z14)]) (rest := []) CX.fix (zk_isPrime l (f := zMO cI cJ o S14 f) z14 (by constructor <;> omega)) (va_cwS 1 CX.fix.2.2.2.2 gX12_readsField_X12_isPrime rfl rfl rfl (by decide +kernel) ⟨Nat.le_of_ble_eq_true rfl, Nat.le_of_ble_eq_true rfl⟩) (z_preS CX hW) rfl rfl hl.1 rfl (lv_room (Nat.le_of_ble_eq_true rfl)) dX12_readsField_26 ⟨Nat.zero_le _, Nat.zero_le _⟩) (fun z26 gn H locs hok hW => ?_)
      obtain ⟨hz26, hg, hq26⟩ := hok
      rw [hg] at hW
      clear hg
      have e26 : zm_isPrime z14 = z26 := hz26.symm
      clear hz26
      refine z_if_ne (tgt := 41) CX dX12_readsField_29 (by decide) (by constructor <;> omega) (fun c_29 => ?_) (fun c_29 => ?_)
      ·
        exact hJ22 S14 ⟨(by unfold zm_readsField_J22; exact zif_f c_22 (zlet_e e26 (zif_f c_29 rfl))), hI14, fun kk ii hk => rfl, ⟨by omega, by omega, by omega, by omega⟩⟩ H locs ls hW (lv_sub hl [0, 1] rfl)
      ·
        refine lv_aload_n hX0 hB0 dX12_readsField_32 rfl (lv_at hl 1 rfl) ?_
        refine lv_iconst (v := zI 2) hX0 hB0 dX12_readsField_33 rfl ?_
        refine lv_aload_n hX0 hB0 dX12_readsField_34 rfl (lv_at hl 1 rfl) ?_
        refine z_get (Cn := RX12) (T := TX12) (N := 37) CX hW (v := .int (zI (S14 0 7))) zMO_0 rfl (fun w h => List.mem_cons_of_mem _ (List.mem_append_right _ h)) 7 (by decide) (List.mem_of_getElem? (i := 1) rfl) rfl rfl dX12_readsField_35 ?_
        have hr35 := hI14.s7
        refine z_callv hW (va_runV (C := RX12) (As := [.int (zI 2), .int (zI (S14 0 7))]) (rest := []) CX.fix (zk_faults l o S14 2 (S14 0 7) hI14 (by constructor <;> omega) (by constructor <;> omega)) (cwV 2 CX.fix.2.2.2.2 gX12_readsField_X12_faults rfl rfl rfl (by decide +kernel) ⟨Nat.le_of_ble_eq_true rfl, Nat.le_of_ble_eq_true rfl⟩) (z_preV CX hW (r := (RX12, TX12, 37)) zMO_0 rfl) rfl rfl hl.1 rfl (lv_room (Nat.le_of_ble_eq_true rfl)) dX12_readsField_38 ⟨Nat.zero_le _, Nat.zero_le _⟩) (fun gn H locs hok hW => ?_)
        obtain ⟨hg, hI38, hf38, hq38⟩ := hok
        obtain ⟨S38, e38⟩ : ∃ q, zm_faults S14 2 (S14 0 7) = q := ⟨_, rfl⟩
        rw [e38] at hg hI38 hf38
        have t38_5 : S38 0 5 = S14 0 5 := hf38 0 5 (by omega)
        have t38_6 : S38 0 6 = S14 0 6 := hf38 0 6 (by omega)
        have t38_7 : S38 0 7 = S14 0 7 := hf38 0 7 (by omega)
        have t38_15 : S38 0 15 = S14 0 15 := hf38 0 15 (by omega)
        have t38_19 : S38 0 19 = S14 0 19 := hf38 0 19 (by omega)
        skip
        try rw [e38] at hq38
        rw [hg] at hW
        clear hg
        exact hJ22 S38 ⟨(by unfold zm_readsField_J22; exact zif_f c_22 (zlet_e e26 (zif_t c_29 (zlet_e e38 rfl)))), hI38, fun kk ii hk => (hf38 kk ii (by omega)), ⟨by omega, by omega, by omega, by omega⟩⟩ H locs ls hW (lv_sub hl [0, 1] rfl)
  ·
    have hE : zm_readsField S = S1 := by unfold zm_readsField; exact zlet_e e1 (zif_f c_5 rfl)
    have hFr : ∀ kk ii : Nat, ¬ (kk = 0 ∧ ii = 10) ∧ ¬ (kk = 0 ∧ ii = 6) ∧ ¬ (kk = 0 ∧ ii = 7) ∧ ¬ (kk = 0 ∧ ii = 8) ∧ ¬ (kk = 0 ∧ ii = 9) → S1 kk ii = S kk ii := fun kk ii hk => (hf1 kk ii (by omega))
    rw [← hQ]
    exact z_vret CX hW (by rw [hE]; exact ⟨rfl, hI1, hFr, (show (S 0 6 ≤ S1 0 6 ∧ (S 0 6 ≤ S 0 5 → S1 0 6 ≤ S 0 5)) ∧ (S 0 8 ≠ 0 → S1 0 8 ≠ 0) from by omega)⟩) dX12_readsField_8
def zm_curves_W48  : Nat → zS2 → zS2
  | 0, S48 => S48
  | fu48 + 1, S48 => zlet (zm_goesWell S48) (fun z49 => (if z49 = 0 then S48 else zlet (zm_here S48) (fun q56 => (fun (z56 : Int) (S56 : zS2) => (if z56 = -1 then S56 else zlet (zm_readsCurve S56) (fun S64 => zm_curves_W48 fu48 S64))) q56.1 q56.2)))
def zm_curves_L114  : Int → zS2 → zS2 := fun i114 s114 => (fun (S114 : zS2) => zlet (zm_copies S114 i114 (6 + i114)) (fun S128 => zlet (za S128 5 i114.toNat (S128 5 ((6 + i114).toNat))) (fun S145 => S145))) s114
def zm_curves (S : zS2)  : Int × zS2 := zlet (za S 0 5 (S 0 1)) (fun S5 => zlet (za S5 0 1 0) (fun S10 => zlet (za S10 0 6 0) (fun S15 => zlet (za S15 0 8 0) (fun S20 => zlet (za S20 0 9 (-1)) (fun S25 => zlet (za S25 0 10 7) (fun S36 => zlet (za S36 0 15 0) (fun S41 => zlet (zm_readsField S41) (fun S45 => zlet (zm_curves_W48 ((1010 : Nat)) S45) (fun S48 => zlet (za S48 0 3 (S48 0 8)) (fun S75 => zlet (za S75 0 4 (S75 0 9)) (fun S83 => (if S83 0 8 = 0 then zlet (za S83 0 13 (S83 0 15)) (fun S109 => zlet (zfor (zm_curves_L114) 0 S109 ((S109 0 13 - 1) + 1 - 0).toNat) (fun S114 => zlet (za S114 0 35 0) (fun S154 => (S154 0 13, S154)))) else zlet (za S83 0 10 (S25 0 10)) (fun S95 => zlet (zm_refuses S95 1) (fun q100 => (fun (z100 : Int) (S100 : zS2) => (z100, S100)) q100.1 q100.2))))))))))))))
set_option maxRecDepth 100000 in
set_option maxHeartbeats 4000000 in
theorem zk_curves (l : Launch) {D : va_G} {cI cJ cZ cP cS cM : ClassId} {L : List Nat} {sz : Nat} {f : Nat → va_E} (o : Nat) (S : zS2)  (hI : mI S)  : zMi l yX12_curves wsX12_curves 8 169 D (zT cI cJ cZ cP cS cM) L sz (zMO cI cJ o S f) [.ref o] (fun zv gv => zv = (zm_curves S).1 ∧ gv = zMO cI cJ o (zm_curves S).2 f ∧ mI (zm_curves S).2 ∧ (∀ kk ii : Nat, ¬ (kk = 0 ∧ ii = 1) ∧ ¬ (kk = 0 ∧ ii = 10) ∧ ¬ (kk = 0 ∧ ii = 13) ∧ ¬ (kk = 0 ∧ ii = 15) ∧ ¬ (kk = 0 ∧ ii = 19) ∧ ¬ (kk = 0 ∧ ii = 3) ∧ ¬ (kk = 0 ∧ ii = 35) ∧ ¬ (kk = 0 ∧ ii = 4) ∧ ¬ (kk = 0 ∧ ii = 5) ∧ ¬ (kk = 0 ∧ ii = 6) ∧ ¬ (kk = 0 ∧ ii = 7) ∧ ¬ (kk = 0 ∧ ii = 8) ∧ ¬ (kk = 0 ∧ ii = 9) ∧ ¬ kk = 2 ∧ ¬ kk = 3 ∧ ¬ kk = 4 ∧ ¬ kk = 5 ∧ ¬ kk = 7 ∧ ¬ kk = 8 → (zm_curves S).2 kk ii = S kk ii) ∧ -1 ≤ zv ∧ zv ≤ 6) := by
  refine zWalk.met (nL := 3) (ret := (some .int)) (cc := cX12_curves) (by decide) rfl (Nat.le_of_ble_eq_true rfl) ?_
  intro pg en st mi ag bl mt cd ls CX hW hl
  have CX : zC pg st mi ag mt cd cX12_curves 3 (some .int) RX12 wsX12_curves := CX
  generalize hQ : MQ bl _ ag st 0 0 _ = Q
  have hX0 := CX.1
  have hB0 := CX.2.1
  have hl : lv_has ls 3 [(0, .ref o)] := hl
  obtain ⟨H, eH⟩ : ∃ H, H = st.heap := ⟨_, rfl⟩
  obtain ⟨locs, eL⟩ : ∃ L : List Loc, L = [] := ⟨_, rfl⟩
  have hW : zW D (zT cI cJ cZ cP cS cM) L (zQ L sz) st (zMO cI cJ o S f) st.heap H locs := by rw [eH, eL]; exact hW
  suffices hgo : W pg l en ({ frames := 8, cells := 0, slots := 0, locals := 169 } : Room) st mi ag bl mt cd H locs 0 0 Q (F0 mi 0 ls []) by rw [eH, eL] at hgo; exact hgo
  clear eH eL
  have hpb := hI.s10
  have hbp := hI.s1
  refine lv_aload_n hX0 hB0 dX12_curves_0 rfl (lv_at hl 0 rfl) ?_
  refine lv_aload_n hX0 hB0 dX12_curves_1 rfl (lv_at hl 0 rfl) ?_
  refine z_get (Cn := RX12) (T := TX12) (N := 37) CX hW (v := .int (zI (S 0 1))) zMO_0 rfl (fun w h => List.mem_cons_of_mem _ (List.mem_append_right _ h)) 1 (by decide) (List.mem_of_getElem? (i := 1) rfl) rfl rfl dX12_curves_2 ?_
  have hr2 := hI.s1
  obtain ⟨S5, e5⟩ : ∃ q, za S 0 5 (S 0 1) = q := ⟨_, rfl⟩
  refine z_put (Cn := RX12) (T := TX12) (N := 37) CX hW (v := .int (zI (S 0 1))) zMO_0 rfl (fun w h => List.mem_cons_of_mem _ (List.mem_append_right _ h)) tyX12 tyX12_ok nmX12 5 (by decide) (List.mem_of_getElem? (i := 2) rfl) rfl rfl rfl rfl (Nat.le_of_ble_eq_true rfl) (g := zMO cI cJ o S5 f) (zMO_s5.trans (by rw [e5])) dX12_curves_5 (fun H locs hW => ?_)
  have hI5 : mI S5 := e5 ▸ hI.v5 (by constructor <;> omega)
  have t5_5 : S5 0 5 = S 0 1 := by rw [← e5]; exact za_same
  have t5_6 : S5 0 6 = S 0 6 := by rw [← e5]; exact za_ne (by omega)
  have t5_8 : S5 0 8 = S 0 8 := by rw [← e5]; exact za_ne (by omega)
  have t5_9 : S5 0 9 = S 0 9 := by rw [← e5]; exact za_ne (by omega)
  have t5_13 : S5 0 13 = S 0 13 := by rw [← e5]; exact za_ne (by omega)
  have t5_15 : S5 0 15 = S 0 15 := by rw [← e5]; exact za_ne (by omega)
  refine lv_aload_n hX0 hB0 dX12_curves_8 rfl (lv_at hl 0 rfl) ?_
  refine lv_iconst (v := zI 0) hX0 hB0 dX12_curves_9 rfl ?_
  obtain ⟨S10, e10⟩ : ∃ q, za S5 0 1 0 = q := ⟨_, rfl⟩
  refine z_put (Cn := RX12) (T := TX12) (N := 37) CX hW (v := .int (zI 0)) zMO_0 rfl (fun w h => List.mem_cons_of_mem _ (List.mem_append_right _ h)) tyX12 tyX12_ok nmX12 1 (by decide) (List.mem_of_getElem? (i := 1) rfl) rfl rfl rfl rfl (Nat.le_of_ble_eq_true rfl) (g := zMO cI cJ o S10 f) (zMO_s1.trans (by rw [e10])) dX12_curves_10 (fun H locs hW => ?_)
  have hI10 : mI S10 := e10 ▸ hI5.v1 (by constructor <;> omega)
  have t10_5 : S10 0 5 = S5 0 5 := by rw [← e10]; exact za_ne (by omega)
  have t10_6 : S10 0 6 = S5 0 6 := by rw [← e10]; exact za_ne (by omega)
  have t10_8 : S10 0 8 = S5 0 8 := by rw [← e10]; exact za_ne (by omega)
  have t10_9 : S10 0 9 = S5 0 9 := by rw [← e10]; exact za_ne (by omega)
  have t10_13 : S10 0 13 = S5 0 13 := by rw [← e10]; exact za_ne (by omega)
  have t10_15 : S10 0 15 = S5 0 15 := by rw [← e10]; exact za_ne (by omega)
  refine lv_aload_n hX0 hB0 dX12_curves_13 rfl (lv_at hl 0 rfl) ?_
  refine lv_iconst (v := zI 0) hX0 hB0 dX12_curves_14 rfl ?_
  obtain ⟨S15, e15⟩ : ∃ q, za S10 0 6 0 = q := ⟨_, rfl⟩
  refine z_put (Cn := RX12) (T := TX12) (N := 37) CX hW (v := .int (zI 0)) zMO_0 rfl (fun w h => List.mem_cons_of_mem _ (List.mem_append_right _ h)) tyX12 tyX12_ok nmX12 6 (by decide) (List.mem_of_getElem? (i := 3) rfl) rfl rfl rfl rfl (Nat.le_of_ble_eq_true rfl) (g := zMO cI cJ o S15 f) (zMO_s6.trans (by rw [e15])) dX12_curves_15 (fun H locs hW => ?_)
  have hI15 : mI S15 := e15 ▸ hI10.v6 (by constructor <;> omega)
  have t15_5 : S15 0 5 = S10 0 5 := by rw [← e15]; exact za_ne (by omega)
  have t15_6 : S15 0 6 = 0 := by rw [← e15]; exact za_same
  have t15_8 : S15 0 8 = S10 0 8 := by rw [← e15]; exact za_ne (by omega)
  have t15_9 : S15 0 9 = S10 0 9 := by rw [← e15]; exact za_ne (by omega)
  have t15_13 : S15 0 13 = S10 0 13 := by rw [← e15]; exact za_ne (by omega)
  have t15_15 : S15 0 15 = S10 0 15 := by rw [← e15]; exact za_ne (by omega)
  refine lv_aload_n hX0 hB0 dX12_curves_18 rfl (lv_at hl 0 rfl) ?_
  refine lv_iconst (v := zI 0) hX0 hB0 dX12_curves_19 rfl ?_
  obtain ⟨S20, e20⟩ : ∃ q, za S15 0 8 0 = q := ⟨_, rfl⟩
  refine z_put (Cn := RX12) (T := TX12) (N := 37) CX hW (v := .int (zI 0)) zMO_0 rfl (fun w h => List.mem_cons_of_mem _ (List.mem_append_right _ h)) tyX12 tyX12_ok nmX12 8 (by decide) (List.mem_of_getElem? (i := 4) rfl) rfl rfl rfl rfl (Nat.le_of_ble_eq_true rfl) (g := zMO cI cJ o S20 f) (zMO_s8.trans (by rw [e20])) dX12_curves_20 (fun H locs hW => ?_)
  have hI20 : mI S20 := e20 ▸ hI15.v8 (by constructor <;> omega)
  have t20_5 : S20 0 5 = S15 0 5 := by rw [← e20]; exact za_ne (by omega)
  have t20_6 : S20 0 6 = S15 0 6 := by rw [← e20]; exact za_ne (by omega)
  have t20_8 : S20 0 8 = 0 := by rw [← e20]; exact za_same
  have t20_9 : S20 0 9 = S15 0 9 := by rw [← e20]; exact za_ne (by omega)
  have t20_13 : S20 0 13 = S15 0 13 := by rw [← e20]; exact za_ne (by omega)
  have t20_15 : S20 0 15 = S15 0 15 := by rw [← e20]; exact za_ne (by omega)
  refine lv_aload_n hX0 hB0 dX12_curves_23 rfl (lv_at hl 0 rfl) ?_
  refine lv_iconst (v := zI (-1)) hX0 hB0 dX12_curves_24 rfl ?_
  obtain ⟨S25, e25⟩ : ∃ q, za S20 0 9 (-1) = q := ⟨_, rfl⟩
  refine z_put (Cn := RX12) (T := TX12) (N := 37) CX hW (v := .int (zI (-1))) zMO_0 rfl (fun w h => List.mem_cons_of_mem _ (List.mem_append_right _ h)) tyX12 tyX12_ok nmX12 9 (by decide) (List.mem_of_getElem? (i := 5) rfl) rfl rfl rfl rfl (Nat.le_of_ble_eq_true rfl) (g := zMO cI cJ o S25 f) (zMO_s9.trans (by rw [e25])) dX12_curves_25 (fun H locs hW => ?_)
  have hI25 : mI S25 := e25 ▸ hI20.v9 (by constructor <;> omega)
  have t25_5 : S25 0 5 = S20 0 5 := by rw [← e25]; exact za_ne (by omega)
  have t25_6 : S25 0 6 = S20 0 6 := by rw [← e25]; exact za_ne (by omega)
  have t25_8 : S25 0 8 = S20 0 8 := by rw [← e25]; exact za_ne (by omega)
  have t25_9 : S25 0 9 = -1 := by rw [← e25]; exact za_same
  have t25_13 : S25 0 13 = S20 0 13 := by rw [← e25]; exact za_ne (by omega)
  have t25_15 : S25 0 15 = S20 0 15 := by rw [← e25]; exact za_ne (by omega)
  refine lv_aload_n hX0 hB0 dX12_curves_28 rfl (lv_at hl 0 rfl) ?_
  refine z_get (Cn := RX12) (T := TX12) (N := 37) CX hW (v := .int (zI (S25 0 10))) zMO_0 rfl (fun w h => List.mem_cons_of_mem _ (List.mem_append_right _ h)) 10 (by decide) (List.mem_of_getElem? (i := 6) rfl) rfl rfl dX12_curves_29 ?_
  have hr29 := hI25.s10
  refine lv_istore_n (lv' := [(1, .int (zI (S25 0 10))), (0, .ref o)]) hX0 hB0 dX12_curves_32 rfl hl (by decide) rfl (fun ls hl => ?_)
  refine lv_aload_n hX0 hB0 dX12_curves_33 rfl (lv_at hl 1 rfl) ?_
  refine lv_bipush (v := zI 7) hX0 hB0 dX12_curves_34 (by decide) ?_
  obtain ⟨S36, e36⟩ : ∃ q, za S25 0 10 7 = q := ⟨_, rfl⟩
  refine z_put (Cn := RX12) (T := TX12) (N := 37) CX hW (v := .int (zI 7)) zMO_0 rfl (fun w h => List.mem_cons_of_mem _ (List.mem_append_right _ h)) tyX12 tyX12_ok nmX12 10 (by decide) (List.mem_of_getElem? (i := 6) rfl) rfl rfl rfl rfl (Nat.le_of_ble_eq_true rfl) (g := zMO cI cJ o S36 f) (zMO_s10.trans (by rw [e36])) dX12_curves_36 (fun H locs hW => ?_)
  have hI36 : mI S36 := e36 ▸ hI25.v10 (by constructor <;> omega)
  have t36_5 : S36 0 5 = S25 0 5 := by rw [← e36]; exact za_ne (by omega)
  have t36_6 : S36 0 6 = S25 0 6 := by rw [← e36]; exact za_ne (by omega)
  have t36_8 : S36 0 8 = S25 0 8 := by rw [← e36]; exact za_ne (by omega)
  have t36_9 : S36 0 9 = S25 0 9 := by rw [← e36]; exact za_ne (by omega)
  have t36_13 : S36 0 13 = S25 0 13 := by rw [← e36]; exact za_ne (by omega)
  have t36_15 : S36 0 15 = S25 0 15 := by rw [← e36]; exact za_ne (by omega)
  refine lv_aload_n hX0 hB0 dX12_curves_39 rfl (lv_at hl 1 rfl) ?_
  refine lv_iconst (v := zI 0) hX0 hB0 dX12_curves_40 rfl ?_
  obtain ⟨S41, e41⟩ : ∃ q, za S36 0 15 0 = q := ⟨_, rfl⟩
  refine z_put (Cn := RX12) (T := TX12) (N := 37) CX hW (v := .int (zI 0)) zMO_0 rfl (fun w h => List.mem_cons_of_mem _ (List.mem_append_right _ h)) tyX12 tyX12_ok nmX12 15 (by decide) (List.mem_of_getElem? (i := 7) rfl) rfl rfl rfl rfl (Nat.le_of_ble_eq_true rfl) (g := zMO cI cJ o S41 f) (zMO_s15.trans (by rw [e41])) dX12_curves_41 (fun H locs hW => ?_)
  have hI41 : mI S41 := e41 ▸ hI36.v15 (by constructor <;> omega)
  have t41_5 : S41 0 5 = S36 0 5 := by rw [← e41]; exact za_ne (by omega)
  have t41_6 : S41 0 6 = S36 0 6 := by rw [← e41]; exact za_ne (by omega)
  have t41_8 : S41 0 8 = S36 0 8 := by rw [← e41]; exact za_ne (by omega)
  have t41_9 : S41 0 9 = S36 0 9 := by rw [← e41]; exact za_ne (by omega)
  have t41_13 : S41 0 13 = S36 0 13 := by rw [← e41]; exact za_ne (by omega)
  have t41_15 : S41 0 15 = 0 := by rw [← e41]; exact za_same
  refine lv_aload_n hX0 hB0 dX12_curves_44 rfl (lv_at hl 1 rfl) ?_
  refine z_callv hW (va_runV (C := RX12) (As := []) (rest := []) CX.fix (zk_readsField l o S41  hI41 (by omega)) (cwV 0 CX.fix.2.2.2.2 gX12_curves_X12_readsField rfl rfl rfl (by decide +kernel) ⟨Nat.le_of_ble_eq_true rfl, Nat.le_of_ble_eq_true rfl⟩) (z_preV CX hW (r := (RX12, TX12, 37)) zMO_0 rfl) rfl rfl hl.1 rfl (lv_room (Nat.le_of_ble_eq_true rfl)) dX12_curves_45 ⟨Nat.zero_le _, Nat.zero_le _⟩) (fun gn H locs hok hW => ?_)
  obtain ⟨hg, hI45, hf45, hq45⟩ := hok
  obtain ⟨S45, e45⟩ : ∃ q, zm_readsField S41 = q := ⟨_, rfl⟩
  rw [e45] at hg hI45 hf45
  have t45_5 : S45 0 5 = S41 0 5 := hf45 0 5 (by omega)
  have t45_13 : S45 0 13 = S41 0 13 := hf45 0 13 (by omega)
  have t45_15 : S45 0 15 = S41 0 15 := hf45 0 15 (by omega)
  skip
  try rw [e45] at hq45
  rw [hg] at hW
  clear hg
  have hXt48 : ∀ (S48 : zS2), (zm_curves_W48 ((1010 : Nat)) S45 = S48 ∧ mI S48 ∧ (∀ kk ii : Nat, ¬ (kk = 0 ∧ ii = 15) ∧ ¬ (kk = 0 ∧ ii = 19) ∧ ¬ (kk = 0 ∧ ii = 6) ∧ ¬ (kk = 0 ∧ ii = 7) ∧ ¬ (kk = 0 ∧ ii = 8) ∧ ¬ (kk = 0 ∧ ii = 9) ∧ ¬ kk = 3 ∧ ¬ kk = 4 ∧ ¬ kk = 5 ∧ ¬ kk = 7 ∧ ¬ kk = 8 → S48 kk ii = S45 kk ii) ∧ (S48 0 6 ≤ S48 0 5)) → ∀ (H : Heap) (locs : List Loc) (ls : Array Slot), zW D (zT cI cJ cZ cP cS cM) L (zQ L sz) st (zMO cI cJ o S48 f) st.heap H locs → lv_has ls 3 [(1, .int (zI (S25 0 10))), (0, .ref o)] → W pg l en ({ frames := 8, cells := 0, slots := 0, locals := 169 } : Room) st mi ag bl mt cd H locs 0 0 Q (F0 mi 70 ls []) := by
    intro S48 hinv H locs ls hW hl
    obtain ⟨e48, hI48, hf48, hv48⟩ := hinv
    have hp48 := hI48.s10
    have t48_5 : S48 0 5 = S45 0 5 := hf48 0 5 (by omega)
    have t48_13 : S48 0 13 = S45 0 13 := hf48 0 13 (by omega)
    refine lv_aload_n hX0 hB0 dX12_curves_70 rfl (lv_at hl 1 rfl) ?_
    refine lv_aload_n hX0 hB0 dX12_curves_71 rfl (lv_at hl 1 rfl) ?_
    refine z_get (Cn := RX12) (T := TX12) (N := 37) CX hW (v := .int (zI (S48 0 8))) zMO_0 rfl (fun w h => List.mem_cons_of_mem _ (List.mem_append_right _ h)) 8 (by decide) (List.mem_of_getElem? (i := 4) rfl) rfl rfl dX12_curves_72 ?_
    have hr72 := hI48.s8
    obtain ⟨S75, e75⟩ : ∃ q, za S48 0 3 (S48 0 8) = q := ⟨_, rfl⟩
    refine z_put (Cn := RX12) (T := TX12) (N := 37) CX hW (v := .int (zI (S48 0 8))) zMO_0 rfl (fun w h => List.mem_cons_of_mem _ (List.mem_append_right _ h)) tyX12 tyX12_ok nmX12 3 (by decide) (List.mem_of_getElem? (i := 8) rfl) rfl rfl rfl rfl (Nat.le_of_ble_eq_true rfl) (g := zMO cI cJ o S75 f) (zMO_s3.trans (by rw [e75])) dX12_curves_75 (fun H locs hW => ?_)
    have hI75 : mI S75 := e75 ▸ hI48.v3 (by constructor <;> omega)
    have t75_5 : S75 0 5 = S48 0 5 := by rw [← e75]; exact za_ne (by omega)
    have t75_6 : S75 0 6 = S48 0 6 := by rw [← e75]; exact za_ne (by omega)
    have t75_8 : S75 0 8 = S48 0 8 := by rw [← e75]; exact za_ne (by omega)
    have t75_9 : S75 0 9 = S48 0 9 := by rw [← e75]; exact za_ne (by omega)
    have t75_13 : S75 0 13 = S48 0 13 := by rw [← e75]; exact za_ne (by omega)
    have t75_15 : S75 0 15 = S48 0 15 := by rw [← e75]; exact za_ne (by omega)
    refine lv_aload_n hX0 hB0 dX12_curves_78 rfl (lv_at hl 1 rfl) ?_
    refine lv_aload_n hX0 hB0 dX12_curves_79 rfl (lv_at hl 1 rfl) ?_
    refine z_get (Cn := RX12) (T := TX12) (N := 37) CX hW (v := .int (zI (S75 0 9))) zMO_0 rfl (fun w h => List.mem_cons_of_mem _ (List.mem_append_right _ h)) 9 (by decide) (List.mem_of_getElem? (i := 5) rfl) rfl rfl dX12_curves_80 ?_
    have hr80 := hI75.s9
    obtain ⟨S83, e83⟩ : ∃ q, za S75 0 4 (S75 0 9) = q := ⟨_, rfl⟩
    refine z_put (Cn := RX12) (T := TX12) (N := 37) CX hW (v := .int (zI (S75 0 9))) zMO_0 rfl (fun w h => List.mem_cons_of_mem _ (List.mem_append_right _ h)) tyX12 tyX12_ok nmX12 4 (by decide) (List.mem_of_getElem? (i := 9) rfl) rfl rfl rfl rfl (Nat.le_of_ble_eq_true rfl) (g := zMO cI cJ o S83 f) (zMO_s4.trans (by rw [e83])) dX12_curves_83 (fun H locs hW => ?_)
    have hI83 : mI S83 := e83 ▸ hI75.v4 (by constructor <;> omega)
    have t83_5 : S83 0 5 = S75 0 5 := by rw [← e83]; exact za_ne (by omega)
    have t83_6 : S83 0 6 = S75 0 6 := by rw [← e83]; exact za_ne (by omega)
    have t83_8 : S83 0 8 = S75 0 8 := by rw [← e83]; exact za_ne (by omega)
    have t83_9 : S83 0 9 = S75 0 9 := by rw [← e83]; exact za_ne (by omega)
    have t83_13 : S83 0 13 = S75 0 13 := by rw [← e83]; exact za_ne (by omega)
    have t83_15 : S83 0 15 = S75 0 15 := by rw [← e83]; exact za_ne (by omega)
    refine lv_aload_n hX0 hB0 dX12_curves_86 rfl (lv_at hl 1 rfl) ?_
    refine z_get (Cn := RX12) (T := TX12) (N := 37) CX hW (v := .int (zI (S83 0 8))) zMO_0 rfl (fun w h => List.mem_cons_of_mem _ (List.mem_append_right _ h)) 8 (by decide) (List.mem_of_getElem? (i := 4) rfl) rfl rfl dX12_curves_87 ?_
    have hr87 := hI83.s8
    refine z_if_eq (tgt := 104) CX dX12_curves_90 (by decide) (by constructor <;> omega) (fun c_90 => ?_) (fun c_90 => ?_)
    ·
      refine lv_aload_n hX0 hB0 dX12_curves_104 rfl (lv_at hl 1 rfl) ?_
      refine lv_aload_n hX0 hB0 dX12_curves_105 rfl (lv_at hl 1 rfl) ?_
      refine z_get (Cn := RX12) (T := TX12) (N := 37) CX hW (v := .int (zI (S83 0 15))) zMO_0 rfl (fun w h => List.mem_cons_of_mem _ (List.mem_append_right _ h)) 15 (by decide) (List.mem_of_getElem? (i := 7) rfl) rfl rfl dX12_curves_106 ?_
      have hr106 := hI83.s15
      obtain ⟨S109, e109⟩ : ∃ q, za S83 0 13 (S83 0 15) = q := ⟨_, rfl⟩
      refine z_put (Cn := RX12) (T := TX12) (N := 37) CX hW (v := .int (zI (S83 0 15))) zMO_0 rfl (fun w h => List.mem_cons_of_mem _ (List.mem_append_right _ h)) tyX12 tyX12_ok nmX12 13 (by decide) (List.mem_of_getElem? (i := 10) rfl) rfl rfl rfl rfl (Nat.le_of_ble_eq_true rfl) (g := zMO cI cJ o S109 f) (zMO_s13.trans (by rw [e109])) dX12_curves_109 (fun H locs hW => ?_)
      have hI109 : mI S109 := e109 ▸ hI83.v13 (by constructor <;> omega)
      have t109_5 : S109 0 5 = S83 0 5 := by rw [← e109]; exact za_ne (by omega)
      have t109_6 : S109 0 6 = S83 0 6 := by rw [← e109]; exact za_ne (by omega)
      have t109_8 : S109 0 8 = S83 0 8 := by rw [← e109]; exact za_ne (by omega)
      have t109_9 : S109 0 9 = S83 0 9 := by rw [← e109]; exact za_ne (by omega)
      have t109_13 : S109 0 13 = S83 0 15 := by rw [← e109]; exact za_same
      have t109_15 : S109 0 15 = S83 0 15 := by rw [← e109]; exact za_ne (by omega)
      refine lv_iconst (v := zI 0) hX0 hB0 dX12_curves_112 rfl ?_
      refine lv_istore_n (lv' := [(2, .int (zI 0)), (1, .int (zI (S25 0 10))), (0, .ref o)]) hX0 hB0 dX12_curves_113 rfl hl (by decide) rfl (fun ls hl => ?_)
      have hL114 : ∀ (fu : Nat) (i114 : Int) (S114 : zS2), ((0 ≤ i114 ∧ i114 ≤ S109 0 13 - 1 + 1) ∧ zfor (zm_curves_L114) 0 S109 (i114 - 0).toNat = S114 ∧ mI S114 ∧ (∀ kk ii : Nat, ¬ kk = 3 ∧ ¬ kk = 5 → S114 kk ii = S109 kk ii)) → ((S109 0 13 - 1) + 1 - i114).toNat < fu → ∀ (H : Heap) (locs : List Loc) (ls : Array Slot), zW D (zT cI cJ cZ cP cS cM) L (zQ L sz) st (zMO cI cJ o S114 f) st.heap H locs → lv_has ls 3 [(2, .int (zI i114)), (1, .int (zI (S25 0 10))), (0, .ref o)] → W pg l en ({ frames := 8, cells := 0, slots := 0, locals := 169 } : Room) st mi ag bl mt cd H locs 0 0 Q (F0 mi 114 ls []) := by
        intro fu
        induction fu with
        | zero => intro i114 S114 _ hfu; exact absurd hfu (Nat.not_lt_zero _)
        | succ fu ih114 =>
          intro i114 S114 hinv hfu114 H locs ls hW hl
          obtain ⟨⟨hlo114, hhi114⟩, hz114, hI114, hf114⟩ := hinv
          have hp114 := hI114.s10
          have t114_5 : S114 0 5 = S109 0 5 := hf114 0 5 (by omega)
          have t114_6 : S114 0 6 = S109 0 6 := hf114 0 6 (by omega)
          have t114_8 : S114 0 8 = S109 0 8 := hf114 0 8 (by omega)
          have t114_9 : S114 0 9 = S109 0 9 := hf114 0 9 (by omega)
          have t114_13 : S114 0 13 = S109 0 13 := hf114 0 13 (by omega)
          have t114_15 : S114 0 15 = S109 0 15 := hf114 0 15 (by omega)
          refine lv_iload_n hX0 hB0 dX12_curves_114 rfl (lv_at hl 0 rfl) ?_
          refine lv_aload_n hX0 hB0 dX12_curves_115 rfl (lv_at hl 2 rfl) ?_
          refine z_get (Cn := RX12) (T := TX12) (N := 37) CX hW (v := .int (zI (S114 0 13))) zMO_0 rfl (fun w h => List.mem_cons_of_mem _ (List.mem_append_right _ h)) 13 (by decide) (List.mem_of_getElem? (i := 10) rfl) rfl rfl dX12_curves_116 ?_
          have hr116 := hI114.s13
          refine z_icmp_ge (tgt := 152) CX dX12_curves_119 (by decide) (by constructor <;> omega) (by constructor <;> omega) (fun c_119 => ?_) (fun c_119 => ?_)
          ·
            have e114 : zfor (zm_curves_L114) 0 S109 ((S109 0 13 - 1) + 1 - 0).toNat = S114 := by rw [show ((S109 0 13 - 1) + 1 - 0).toNat = (i114 - 0).toNat by omega]; exact hz114
            refine lv_aload_n hX0 hB0 dX12_curves_152 rfl (lv_at hl 2 rfl) ?_
            refine lv_iconst (v := zI 0) hX0 hB0 dX12_curves_153 rfl ?_
            obtain ⟨S154, e154⟩ : ∃ q, za S114 0 35 0 = q := ⟨_, rfl⟩
            refine z_put (Cn := RX12) (T := TX12) (N := 37) CX hW (v := .int (zI 0)) zMO_0 rfl (fun w h => List.mem_cons_of_mem _ (List.mem_append_right _ h)) tyX12 tyX12_ok nmX12 35 (by decide) (List.mem_of_getElem? (i := 12) rfl) rfl rfl rfl rfl (Nat.le_of_ble_eq_true rfl) (g := zMO cI cJ o S154 f) (zMO_s35.trans (by rw [e154])) dX12_curves_154 (fun H locs hW => ?_)
            have hI154 : mI S154 := e154 ▸ hI114.v35 (by constructor <;> omega)
            have t154_5 : S154 0 5 = S114 0 5 := by rw [← e154]; exact za_ne (by omega)
            have t154_6 : S154 0 6 = S114 0 6 := by rw [← e154]; exact za_ne (by omega)
            have t154_8 : S154 0 8 = S114 0 8 := by rw [← e154]; exact za_ne (by omega)
            have t154_9 : S154 0 9 = S114 0 9 := by rw [← e154]; exact za_ne (by omega)
            have t154_13 : S154 0 13 = S114 0 13 := by rw [← e154]; exact za_ne (by omega)
            have t154_15 : S154 0 15 = S114 0 15 := by rw [← e154]; exact za_ne (by omega)
            refine lv_aload_n hX0 hB0 dX12_curves_157 rfl (lv_at hl 2 rfl) ?_
            refine z_get (Cn := RX12) (T := TX12) (N := 37) CX hW (v := .int (zI (S154 0 13))) zMO_0 rfl (fun w h => List.mem_cons_of_mem _ (List.mem_append_right _ h)) 13 (by decide) (List.mem_of_getElem? (i := 10) rfl) rfl rfl dX12_curves_158 ?_
            have hr158 := hI154.s13
            have hE : zm_curves S = (S154 0 13, S154) := by unfold zm_curves; exact zlet_e e5 (zlet_e e10 (zlet_e e15 (zlet_e e20 (zlet_e e25 (zlet_e e36 (zlet_e e41 (zlet_e e45 (zlet_e e48 (zlet_e e75 (zlet_e e83 (zif_t c_90 (zlet_e e109 (zlet_e e114 (zlet_e e154 rfl))))))))))))))
            have hFr : ∀ kk ii : Nat, ¬ (kk = 0 ∧ ii = 1) ∧ ¬ (kk = 0 ∧ ii = 10) ∧ ¬ (kk = 0 ∧ ii = 13) ∧ ¬ (kk = 0 ∧ ii = 15) ∧ ¬ (kk = 0 ∧ ii = 19) ∧ ¬ (kk = 0 ∧ ii = 3) ∧ ¬ (kk = 0 ∧ ii = 35) ∧ ¬ (kk = 0 ∧ ii = 4) ∧ ¬ (kk = 0 ∧ ii = 5) ∧ ¬ (kk = 0 ∧ ii = 6) ∧ ¬ (kk = 0 ∧ ii = 7) ∧ ¬ (kk = 0 ∧ ii = 8) ∧ ¬ (kk = 0 ∧ ii = 9) ∧ ¬ kk = 2 ∧ ¬ kk = 3 ∧ ¬ kk = 4 ∧ ¬ kk = 5 ∧ ¬ kk = 7 ∧ ¬ kk = 8 → S154 kk ii = S kk ii := fun kk ii hk => ((((((((((((((show S154 kk ii = S114 kk ii from by rw [← e154]; exact za_ne (by omega))).trans (hf114 kk ii (by omega))).trans (show S109 kk ii = S83 kk ii from by rw [← e109]; exact za_ne (by omega))).trans (show S83 kk ii = S75 kk ii from by rw [← e83]; exact za_ne (by omega))).trans (show S75 kk ii = S48 kk ii from by rw [← e75]; exact za_ne (by omega))).trans (hf48 kk ii (by omega))).trans (hf45 kk ii (by omega))).trans (show S41 kk ii = S36 kk ii from by rw [← e41]; exact za_ne (by omega))).trans (show S36 kk ii = S25 kk ii from by rw [← e36]; exact za_ne (by omega))).trans (show S25 kk ii = S20 kk ii from by rw [← e25]; exact za_ne (by omega))).trans (show S20 kk ii = S15 kk ii from by rw [← e20]; exact za_ne (by omega))).trans (show S15 kk ii = S10 kk ii from by rw [← e15]; exact za_ne (by omega))).trans (show S10 kk ii = S5 kk ii from by rw [← e10]; exact za_ne (by omega))).trans (show S5 kk ii = S kk ii from by rw [← e5]; exact za_ne (by omega))
            rw [← hQ]
            exact z_iret (z := S154 0 13) CX hW (by rw [hE]; exact ⟨rfl, rfl, hI154, hFr, (show -1 ≤ (S154 0 13) ∧ (S154 0 13) ≤ 6 from by omega)⟩) rfl dX12_curves_161
          ·
            refine lv_aload_n hX0 hB0 dX12_curves_122 rfl (lv_at hl 2 rfl) ?_
            refine lv_iload_n hX0 hB0 dX12_curves_123 rfl (lv_at hl 0 rfl) ?_
            refine lv_bipush (v := zI 6) hX0 hB0 dX12_curves_124 (by decide) ?_
            refine lv_iload_n hX0 hB0 dX12_curves_126 rfl (lv_at hl 0 rfl) ?_
            refine z_iadd (z := 6 + i114) CX dX12_curves_127 rfl ?_
            refine z_callv hW (va_runV (C := RX12) (As := [.int (zI i114), .int (zI (6 + i114))]) (rest := []) CX.fix (zk_copies l o S114 i114 (6 + i114) hI114 (by constructor <;> omega) (by constructor <;> omega)) (cwV 2 CX.fix.2.2.2.2 gX12_curves_X12_copies rfl rfl rfl (by decide +kernel) ⟨Nat.le_of_ble_eq_true rfl, Nat.le_of_ble_eq_true rfl⟩) (z_preV CX hW (r := (RX12, TX12, 37)) zMO_0 rfl) rfl rfl hl.1 rfl (lv_room (Nat.le_of_ble_eq_true rfl)) dX12_curves_128 ⟨Nat.zero_le _, Nat.zero_le _⟩) (fun gn H locs hok hW => ?_)
            obtain ⟨hg, hI128, hf128, hq128⟩ := hok
            obtain ⟨S128, e128⟩ : ∃ q, zm_copies S114 i114 (6 + i114) = q := ⟨_, rfl⟩
            rw [e128] at hg hI128 hf128
            have t128_5 : S128 0 5 = S114 0 5 := hf128 0 5 (by omega)
            have t128_6 : S128 0 6 = S114 0 6 := hf128 0 6 (by omega)
            have t128_8 : S128 0 8 = S114 0 8 := hf128 0 8 (by omega)
            have t128_9 : S128 0 9 = S114 0 9 := hf128 0 9 (by omega)
            have t128_13 : S128 0 13 = S114 0 13 := hf128 0 13 (by omega)
            have t128_15 : S128 0 15 = S114 0 15 := hf128 0 15 (by omega)
            skip
            try rw [e128] at hq128
            rw [hg] at hW
            clear hg
            refine lv_aload_n hX0 hB0 dX12_curves_131 rfl (lv_at hl 2 rfl) ?_
            refine z_get (Cn := RX12) (T := TX12) (N := 37) CX hW (v := .ref (o + 5)) zMO_0 rfl (fun w h => List.mem_cons_of_mem _ (List.mem_append_right _ h)) 14 (by decide) (List.mem_of_getElem? (i := 11) rfl) rfl rfl dX12_curves_132 ?_
            refine lv_iload_n hX0 hB0 dX12_curves_135 rfl (lv_at hl 0 rfl) ?_
            refine lv_aload_n hX0 hB0 dX12_curves_136 rfl (lv_at hl 2 rfl) ?_
            refine z_get (Cn := RX12) (T := TX12) (N := 37) CX hW (v := .ref (o + 5)) zMO_0 rfl (fun w h => List.mem_cons_of_mem _ (List.mem_append_right _ h)) 14 (by decide) (List.mem_of_getElem? (i := 11) rfl) rfl rfl dX12_curves_137 ?_
            refine lv_bipush (v := zI 6) hX0 hB0 dX12_curves_140 (by decide) ?_
            refine lv_iload_n hX0 hB0 dX12_curves_142 rfl (lv_at hl 0 rfl) ?_
            refine z_iadd (z := 6 + i114) CX dX12_curves_143 rfl ?_
            refine z_iald (z := S128 5 ((6 + i114).toNat)) CX hW zMO_5 0 rfl (by refine ⟨?_, ?_, ?_⟩ <;> omega) rfl dX12_curves_144 ?_
            have hr144 := hI128.r5 ((6 + i114).toNat)
            obtain ⟨S145, e145⟩ : ∃ q, za S128 5 i114.toNat (S128 5 ((6 + i114).toNat)) = q := ⟨_, rfl⟩
            refine z_iast CX hW zMO_5 0 rfl (by refine ⟨?_, ?_, ?_⟩ <;> omega) (g := zMO cI cJ o S145 f) (zMO_w5.trans (by rw [← e145]; rfl)) dX12_curves_145 (fun H locs hW => ?_)
            have hI145 : mI S145 := e145 ▸ hI128.w5 (by constructor <;> omega)
            have t145_5 : S145 0 5 = S128 0 5 := by rw [← e145]; exact za_ne (by omega)
            have t145_6 : S145 0 6 = S128 0 6 := by rw [← e145]; exact za_ne (by omega)
            have t145_8 : S145 0 8 = S128 0 8 := by rw [← e145]; exact za_ne (by omega)
            have t145_9 : S145 0 9 = S128 0 9 := by rw [← e145]; exact za_ne (by omega)
            have t145_13 : S145 0 13 = S128 0 13 := by rw [← e145]; exact za_ne (by omega)
            have t145_15 : S145 0 15 = S128 0 15 := by rw [← e145]; exact za_ne (by omega)
            refine lv_iinc (v := zI (i114 + 1)) (lv' := [(2, .int (zI (i114 + 1))), (1, .int (zI (S25 0 10))), (0, .ref o)]) hX0 hB0 dX12_curves_146 hl (k := 0) rfl (zI_add _ _) (by decide) rfl (fun ls hl => ?_)
            refine lv_goto (tgt := 114) hX0 hB0 dX12_curves_149 (by decide) ?_
            exact ih114 (i114 + 1) S145 ⟨⟨by omega, by omega⟩, (zfor_s _ _ _ (by omega)).trans ((congrArg (zm_curves_L114 i114) hz114).trans (by unfold zm_curves_L114; exact zlet_e e128 (zlet_e e145 rfl))), hI145, fun kk ii hk => (((show S145 kk ii = S128 kk ii from by rw [← e145]; exact za_ne (by omega))).trans (hf128 kk ii (by omega))).trans (hf114 kk ii (by omega))⟩ (by omega) H locs ls hW (lv_sub hl [0, 1, 2] rfl)
      exact hL114 _ 0 S109 ⟨⟨by omega, by omega⟩, zfor_0 _ _ _, hI109, fun kk ii hk => rfl⟩ (Nat.lt_succ_self _) H locs ls hW (lv_sub hl [0, 1, 2] rfl)
    ·
      refine lv_aload_n hX0 hB0 dX12_curves_93 rfl (lv_at hl 1 rfl) ?_
      refine lv_iload_n hX0 hB0 dX12_curves_94 rfl (lv_at hl 0 rfl) ?_
      obtain ⟨S95, e95⟩ : ∃ q, za S83 0 10 (S25 0 10) = q := ⟨_, rfl⟩
      refine z_put (Cn := RX12) (T := TX12) (N := 37) CX hW (v := .int (zI (S25 0 10))) zMO_0 rfl (fun w h => List.mem_cons_of_mem _ (List.mem_append_right _ h)) tyX12 tyX12_ok nmX12 10 (by decide) (List.mem_of_getElem? (i := 6) rfl) rfl rfl rfl rfl (Nat.le_of_ble_eq_true rfl) (g := zMO cI cJ o S95 f) (zMO_s10.trans (by rw [e95])) dX12_curves_95 (fun H locs hW => ?_)
      have hI95 : mI S95 := e95 ▸ hI83.v10 (by constructor <;> omega)
      have t95_5 : S95 0 5 = S83 0 5 := by rw [← e95]; exact za_ne (by omega)
      have t95_6 : S95 0 6 = S83 0 6 := by rw [← e95]; exact za_ne (by omega)
      have t95_8 : S95 0 8 = S83 0 8 := by rw [← e95]; exact za_ne (by omega)
      have t95_9 : S95 0 9 = S83 0 9 := by rw [← e95]; exact za_ne (by omega)
      have t95_13 : S95 0 13 = S83 0 13 := by rw [← e95]; exact za_ne (by omega)
      have t95_15 : S95 0 15 = S83 0 15 := by rw [← e95]; exact za_ne (by omega)
      refine lv_aload_n hX0 hB0 dX12_curves_98 rfl (lv_at hl 1 rfl) ?_
      refine lv_iconst (v := zI 1) hX0 hB0 dX12_curves_99 rfl ?_
      refine z_calli hW (va_runV (C := RX12) (As := [.int (zI 1)]) (rest := []) CX.fix (zk_refuses l o S95 1 hI95 (by constructor <;> omega)) (cwV 1 CX.fix.2.2.2.2 gX12_curves_X12_refuses rfl rfl rfl (by decide +kernel) ⟨Nat.le_of_ble_eq_true rfl, Nat.le_of_ble_eq_true rfl⟩) (z_preV CX hW (r := (RX12, TX12, 37)) zMO_0 rfl) rfl rfl hl.1 rfl (lv_room (Nat.le_of_ble_eq_true rfl)) dX12_curves_100 ⟨Nat.zero_le _, Nat.zero_le _⟩) (fun z100 gn H locs hok hW => ?_)
      obtain ⟨hz100, hg, hI100, hf100, hq100⟩ := hok
      obtain ⟨S100, hS100⟩ : ∃ q, q = (zm_refuses S95 1).2 := ⟨_, rfl⟩
      rw [← hS100] at hg hI100 hf100
      have t100_5 : S100 0 5 = S95 0 5 := hf100 0 5 (by omega)
      have t100_6 : S100 0 6 = S95 0 6 := hf100 0 6 (by omega)
      have t100_8 : S100 0 8 = S95 0 8 := hf100 0 8 (by omega)
      have t100_9 : S100 0 9 = S95 0 9 := hf100 0 9 (by omega)
      have t100_13 : S100 0 13 = S95 0 13 := hf100 0 13 (by omega)
      have t100_15 : S100 0 15 = S95 0 15 := hf100 0 15 (by omega)
      skip
      try rw [← hS100] at hq100
      rw [hg] at hW
      clear hg
      have e100 : zm_refuses S95 1 = (z100, S100) := Prod.ext hz100.symm hS100.symm
      clear hz100 hS100
      have hE : zm_curves S = (z100, S100) := by unfold zm_curves; exact zlet_e e5 (zlet_e e10 (zlet_e e15 (zlet_e e20 (zlet_e e25 (zlet_e e36 (zlet_e e41 (zlet_e e45 (zlet_e e48 (zlet_e e75 (zlet_e e83 (zif_f c_90 (zlet_e e95 (zlet_e e100 rfl)))))))))))))
      have hFr : ∀ kk ii : Nat, ¬ (kk = 0 ∧ ii = 1) ∧ ¬ (kk = 0 ∧ ii = 10) ∧ ¬ (kk = 0 ∧ ii = 13) ∧ ¬ (kk = 0 ∧ ii = 15) ∧ ¬ (kk = 0 ∧ ii = 19) ∧ ¬ (kk = 0 ∧ ii = 3) ∧ ¬ (kk = 0 ∧ ii = 35) ∧ ¬ (kk = 0 ∧ ii = 4) ∧ ¬ (kk = 0 ∧ ii = 5) ∧ ¬ (kk = 0 ∧ ii = 6) ∧ ¬ (kk = 0 ∧ ii = 7) ∧ ¬ (kk = 0 ∧ ii = 8) ∧ ¬ (kk = 0 ∧ ii = 9) ∧ ¬ kk = 2 ∧ ¬ kk = 3 ∧ ¬ kk = 4 ∧ ¬ kk = 5 ∧ ¬ kk = 7 ∧ ¬ kk = 8 → S100 kk ii = S kk ii := fun kk ii hk => (((((((((((((hf100 kk ii (by omega))).trans (show S95 kk ii = S83 kk ii from by rw [← e95]; exact za_ne (by omega))).trans (show S83 kk ii = S75 kk ii from by rw [← e83]; exact za_ne (by omega))).trans (show S75 kk ii = S48 kk ii from by rw [← e75]; exact za_ne (by omega))).trans (hf48 kk ii (by omega))).trans (hf45 kk ii (by omega))).trans (show S41 kk ii = S36 kk ii from by rw [← e41]; exact za_ne (by omega))).trans (show S36 kk ii = S25 kk ii from by rw [← e36]; exact za_ne (by omega))).trans (show S25 kk ii = S20 kk ii from by rw [← e25]; exact za_ne (by omega))).trans (show S20 kk ii = S15 kk ii from by rw [← e20]; exact za_ne (by omega))).trans (show S15 kk ii = S10 kk ii from by rw [← e15]; exact za_ne (by omega))).trans (show S10 kk ii = S5 kk ii from by rw [← e10]; exact za_ne (by omega))).trans (show S5 kk ii = S kk ii from by rw [← e5]; exact za_ne (by omega))
      rw [← hQ]
      exact z_iret (z := z100) CX hW (by rw [hE]; exact ⟨rfl, rfl, hI100, hFr, (show -1 ≤ z100 ∧ z100 ≤ 6 from by omega)⟩) rfl dX12_curves_103
  have hL48 : ∀ (fu : Nat) (S48 : zS2), (zm_curves_W48 ((1010 : Nat)) S45 = zm_curves_W48 fu S48 ∧ mI S48 ∧ (∀ kk ii : Nat, ¬ (kk = 0 ∧ ii = 15) ∧ ¬ (kk = 0 ∧ ii = 19) ∧ ¬ (kk = 0 ∧ ii = 6) ∧ ¬ (kk = 0 ∧ ii = 7) ∧ ¬ (kk = 0 ∧ ii = 8) ∧ ¬ (kk = 0 ∧ ii = 9) ∧ ¬ kk = 3 ∧ ¬ kk = 4 ∧ ¬ kk = 5 ∧ ¬ kk = 7 ∧ ¬ kk = 8 → S48 kk ii = S45 kk ii) ∧ (S48 0 6 ≤ S48 0 5)) → (S48 0 5 - S48 0 6).toNat + (5 - S48 0 8).toNat < fu → ∀ (H : Heap) (locs : List Loc) (ls : Array Slot), zW D (zT cI cJ cZ cP cS cM) L (zQ L sz) st (zMO cI cJ o S48 f) st.heap H locs → lv_has ls 3 [(1, .int (zI (S25 0 10))), (0, .ref o)] → W pg l en ({ frames := 8, cells := 0, slots := 0, locals := 169 } : Room) st mi ag bl mt cd H locs 0 0 Q (F0 mi 48 ls []) := by
    intro fu
    induction fu with
    | zero => intro S48 _ hfu; exact absurd hfu (Nat.not_lt_zero _)
    | succ fu ih48 =>
      intro S48 hinv hfu48 H locs ls hW hl
      obtain ⟨hz48, hI48, hf48, hv48⟩ := hinv
      have hp48 := hI48.s10
      have t48_5 : S48 0 5 = S45 0 5 := hf48 0 5 (by omega)
      have t48_13 : S48 0 13 = S45 0 13 := hf48 0 13 (by omega)
      have hb5 := hI48.s5
      have hb6 := hI48.s6
      have hb8 := hI48.s8
      refine lv_aload_n hX0 hB0 dX12_curves_48 rfl (lv_at hl 1 rfl) ?_
      refine z_calli hW (va_runV (C := RX12) (As := []) (rest := []) CX.fix (zk_goesWell l o S48  hI48 ) (cwV 0 CX.fix.2.2.2.2 gX12_curves_X12_goesWell rfl rfl rfl (by decide +kernel) ⟨Nat.le_of_ble_eq_true rfl, Nat.le_of_ble_eq_true rfl⟩) (z_preV CX hW (r := (RX12, TX12, 37)) zMO_0 rfl) rfl rfl hl.1 rfl (lv_room (Nat.le_of_ble_eq_true rfl)) dX12_curves_49 ⟨Nat.zero_le _, Nat.zero_le _⟩) (fun z49 gn H locs hok hW => ?_)
      obtain ⟨hz49, hg, hq49⟩ := hok
      rw [hg] at hW
      clear hg
      have e49 : zm_goesWell S48 = z49 := hz49.symm
      clear hz49
      refine z_if_eq (tgt := 70) CX dX12_curves_52 (by decide) (by constructor <;> omega) (fun c_52 => ?_) (fun c_52 => ?_)
      ·
        exact hXt48 S48 ⟨hz48.trans (by rw [zm_curves_W48]; exact zlet_e e49 (zif_t c_52 rfl)), hI48, fun kk ii hk => (hf48 kk ii (by omega)), by omega⟩ H locs ls hW (lv_sub hl [0, 1] rfl)
      ·
        refine lv_aload_n hX0 hB0 dX12_curves_55 rfl (lv_at hl 1 rfl) ?_
        refine z_calli hW (va_runV (C := RX12) (As := []) (rest := []) CX.fix (zk_here l o S48  hI48 ) (cwV 0 CX.fix.2.2.2.2 gX12_curves_X12_here rfl rfl rfl (by decide +kernel) ⟨Nat.le_of_ble_eq_true rfl, Nat.le_of_ble_eq_true rfl⟩) (z_preV CX hW (r := (RX12, TX12, 37)) zMO_0 rfl) rfl rfl hl.1 rfl (lv_room (Nat.le_of_ble_eq_true rfl)) dX12_curves_56 ⟨Nat.zero_le _, Nat.zero_le _⟩) (fun z56 gn H locs hok hW => ?_)
        obtain ⟨hz56, hg, hI56, hf56, hq56⟩ := hok
        obtain ⟨S56, hS56⟩ : ∃ q, q = (zm_here S48).2 := ⟨_, rfl⟩
        rw [← hS56] at hg hI56 hf56
        have t56_5 : S56 0 5 = S48 0 5 := hf56 0 5 (by omega)
        have t56_8 : S56 0 8 = S48 0 8 := hf56 0 8 (by omega)
        have t56_9 : S56 0 9 = S48 0 9 := hf56 0 9 (by omega)
        have t56_13 : S56 0 13 = S48 0 13 := hf56 0 13 (by omega)
        have t56_15 : S56 0 15 = S48 0 15 := hf56 0 15 (by omega)
        skip
        try rw [← hS56] at hq56
        rw [hg] at hW
        clear hg
        have e56 : zm_here S48 = (z56, S56) := Prod.ext hz56.symm hS56.symm
        clear hz56 hS56
        refine lv_iconst (v := zI (-1)) hX0 hB0 dX12_curves_59 rfl ?_
        refine z_icmp_eq (tgt := 70) CX dX12_curves_60 (by decide) (by constructor <;> omega) (by constructor <;> omega) (fun c_60 => ?_) (fun c_60 => ?_)
        ·
          exact hXt48 S56 ⟨hz48.trans (by rw [zm_curves_W48]; exact zlet_e e49 (zif_f c_52 (zlet_e e56 (zif_t c_60 rfl)))), hI56, fun kk ii hk => ((hf56 kk ii (by omega))).trans (hf48 kk ii (by omega)), by omega⟩ H locs ls hW (lv_sub hl [0, 1] rfl)
        ·
          refine lv_aload_n hX0 hB0 dX12_curves_63 rfl (lv_at hl 1 rfl) ?_
          refine z_callv hW (va_runV (C := RX12) (As := []) (rest := []) CX.fix (zk_readsCurve l o S56  hI56 (by omega)) (cwV 0 CX.fix.2.2.2.2 gX12_curves_X12_readsCurve rfl rfl rfl (by decide +kernel) ⟨Nat.le_of_ble_eq_true rfl, Nat.le_of_ble_eq_true rfl⟩) (z_preV CX hW (r := (RX12, TX12, 37)) zMO_0 rfl) rfl rfl hl.1 rfl (lv_room (Nat.le_of_ble_eq_true rfl)) dX12_curves_64 ⟨Nat.zero_le _, Nat.zero_le _⟩) (fun gn H locs hok hW => ?_)
          obtain ⟨hg, hI64, hf64, hq64⟩ := hok
          obtain ⟨S64, e64⟩ : ∃ q, zm_readsCurve S56 = q := ⟨_, rfl⟩
          rw [e64] at hg hI64 hf64
          have t64_5 : S64 0 5 = S56 0 5 := hf64 0 5 (by omega)
          have t64_13 : S64 0 13 = S56 0 13 := hf64 0 13 (by omega)
          skip
          try rw [e64] at hq64
          rw [hg] at hW
          clear hg
          refine lv_goto (tgt := 48) hX0 hB0 dX12_curves_67 (by decide) ?_
          have hb8 := hI64.s8
          exact ih48 S64 ⟨hz48.trans (by rw [zm_curves_W48]; exact zlet_e e49 (zif_f c_52 (zlet_e e56 (zif_f c_60 (zlet_e e64 rfl))))), hI64, fun kk ii hk => (((hf64 kk ii (by omega))).trans (hf56 kk ii (by omega))).trans (hf48 kk ii (by omega)), by omega⟩ (by omega) H locs ls hW (lv_sub hl [0, 1] rfl)
  have hb5 := hI45.s5
  have hb6 := hI45.s6
  have hb8 := hI45.s8
  exact hL48 _ S45 ⟨rfl, hI45, fun kk ii hk => rfl, by omega⟩ (by omega) H locs ls hW (lv_sub hl [0, 1] rfl)
def zm_fault (S : zS2) (what : Int) : Int := (if what = 0 then S 0 3 else (if what = 1 then S 0 4 else -1))
set_option maxRecDepth 100000 in
set_option maxHeartbeats 4000000 in
theorem zk_fault (l : Launch) {D : va_G} {cI cJ cZ cP cS cM : ClassId} {L : List Nat} {sz : Nat} {f : Nat → va_E} (o : Nat) (S : zS2) (what : Int) (hI : mI S) (hwhat : -2147483648 ≤ what ∧ what ≤ 2147483647) : zMi l yX12_fault wsX12_fault 0 0 D (zT cI cJ cZ cP cS cM) L sz (zMO cI cJ o S f) [.ref o, .int (zI what)] (fun zv gv => zv = zm_fault S what ∧ gv = zMO cI cJ o S f ∧ True) := by
  refine zWalk.met (nL := 2) (ret := (some .int)) (cc := cX12_fault) (by decide) rfl (Nat.le_of_ble_eq_true rfl) ?_
  intro pg en st mi ag bl mt cd ls CX hW hl
  have CX : zC pg st mi ag mt cd cX12_fault 2 (some .int) RX12 wsX12_fault := CX
  generalize hQ : MQ bl _ ag st 0 0 _ = Q
  have hX0 := CX.1
  have hB0 := CX.2.1
  have hl : lv_has ls 2 [(0, .ref o), (1, .int (zI what))] := hl
  obtain ⟨H, eH⟩ : ∃ H, H = st.heap := ⟨_, rfl⟩
  obtain ⟨locs, eL⟩ : ∃ L : List Loc, L = [] := ⟨_, rfl⟩
  have hW : zW D (zT cI cJ cZ cP cS cM) L (zQ L sz) st (zMO cI cJ o S f) st.heap H locs := by rw [eH, eL]; exact hW
  suffices hgo : W pg l en ({ frames := 0, cells := 0, slots := 0, locals := 0 } : Room) st mi ag bl mt cd H locs 0 0 Q (F0 mi 0 ls []) by rw [eH, eL] at hgo; exact hgo
  clear eH eL
  have hpb := hI.s10
  refine lv_iload_n hX0 hB0 dX12_fault_0 rfl (lv_at hl 1 rfl) ?_
  refine z_if_ne (tgt := 11) CX dX12_fault_1 (by decide) (by constructor <;> omega) (fun c_1 => ?_) (fun c_1 => ?_)
  ·
    refine lv_iload_n hX0 hB0 dX12_fault_11 rfl (lv_at hl 1 rfl) ?_
    refine lv_iconst (v := zI 1) hX0 hB0 dX12_fault_12 rfl ?_
    refine z_icmp_ne (tgt := 23) CX dX12_fault_13 (by decide) (by constructor <;> omega) (by constructor <;> omega) (fun c_13 => ?_) (fun c_13 => ?_)
    ·
      refine lv_iconst (v := zI (-1)) hX0 hB0 dX12_fault_23 rfl ?_
      have hE : zm_fault S what = -1 := by unfold zm_fault; exact zif_f c_1 (zif_f c_13 rfl)
      rw [← hQ]
      exact z_iret (z := -1) CX hW (by rw [hE]; exact ⟨rfl, rfl, trivial⟩) rfl dX12_fault_24
    ·
      refine lv_aload_n hX0 hB0 dX12_fault_16 rfl (lv_at hl 0 rfl) ?_
      refine z_get (Cn := RX12) (T := TX12) (N := 37) CX hW (v := .int (zI (S 0 4))) zMO_0 rfl (fun w h => List.mem_cons_of_mem _ (List.mem_append_right _ h)) 4 (by decide) (List.mem_of_getElem? (i := 2) rfl) rfl rfl dX12_fault_17 ?_
      have hr17 := hI.s4
      refine lv_goto (tgt := 24) hX0 hB0 dX12_fault_20 (by decide) ?_
      have hE : zm_fault S what = S 0 4 := by unfold zm_fault; exact zif_f c_1 (zif_t c_13 rfl)
      rw [← hQ]
      exact z_iret (z := S 0 4) CX hW (by rw [hE]; exact ⟨rfl, rfl, trivial⟩) rfl dX12_fault_24
  ·
    refine lv_aload_n hX0 hB0 dX12_fault_4 rfl (lv_at hl 0 rfl) ?_
    refine z_get (Cn := RX12) (T := TX12) (N := 37) CX hW (v := .int (zI (S 0 3))) zMO_0 rfl (fun w h => List.mem_cons_of_mem _ (List.mem_append_right _ h)) 3 (by decide) (List.mem_of_getElem? (i := 1) rfl) rfl rfl dX12_fault_5 ?_
    have hr5 := hI.s3
    refine lv_goto (tgt := 24) hX0 hB0 dX12_fault_8 (by decide) ?_
    have hE : zm_fault S what = S 0 3 := by unfold zm_fault; exact zif_t c_1 rfl
    rw [← hQ]
    exact z_iret (z := S 0 3) CX hW (by rw [hE]; exact ⟨rfl, rfl, trivial⟩) rfl dX12_fault_24
end ZMj
