section ZJs
def zlen (i : Nat) : Int := ((zSl.getD i 0 : Nat) : Int)
def zchr (i k : Nat) : Int := ((zSb.getD i []).getD k 0).toInt
theorem zi4 {P : Nat → Prop} (h0 : P 0) (h1 : P 1) (h2 : P 2) (h3 : P 3) : ∀ i, i < 4 → P i := fun i hi => by
  have : i = 0 ∨ i = 1 ∨ i = 2 ∨ i = 3 := by omega
  rcases this with e | e | e | e <;> subst e <;> assumption
theorem zi12 {P : Nat → Prop} (h0 : P 0) (h1 : P 1) (h2 : P 2) (h3 : P 3) (h4 : P 4) (h5 : P 5) (h6 : P 6) (h7 : P 7) (h8 : P 8) (h9 : P 9) (ha : P 10) (hb : P 11) : ∀ i, i < 12 → P i := fun i hi => by
  have : i = 0 ∨ i = 1 ∨ i = 2 ∨ i = 3 ∨ i = 4 ∨ i = 5 ∨ i = 6 ∨ i = 7 ∨ i = 8 ∨ i = 9 ∨ i = 10 ∨ i = 11 := by omega
  rcases this with e | e | e | e | e | e | e | e | e | e | e | e <;> subst e <;> assumption
theorem zlen_rng12 : ∀ i, i < 12 → 1 ≤ zlen i ∧ zlen i ≤ 11 := zi12 (by decide) (by decide) (by decide) (by decide) (by decide) (by decide) (by decide) (by decide) (by decide) (by decide) (by decide) (by decide)
theorem zlen_rng : ∀ i, i < 4 → 1 ≤ zlen i ∧ zlen i ≤ 5 := zi4 (by decide) (by decide) (by decide) (by decide)
theorem zlen_of : ∀ i, i < 12 → Int32.ofNat (zSl.getD i 0) = zI (zlen i) := zi12 rfl rfl rfl rfl rfl rfl rfl rfl rfl rfl rfl rfl
theorem zlen_sh : ∀ i, i < 12 → zI (zlen i) >>> (zI 0 &&& 31) = zI (zlen i) := zi12 (by decide +kernel) (by decide +kernel) (by decide +kernel) (by decide +kernel) (by decide +kernel) (by decide +kernel) (by decide +kernel) (by decide +kernel) (by decide +kernel) (by decide +kernel) (by decide +kernel) (by decide +kernel)
theorem zchr_of (i k : Nat) : (zSb.getD i []).getD k 0 = zI (zchr i k) := (Int32.ofInt_toInt _).symm
theorem zchr_ok : ∀ i, i < 4 → ∀ k, k < 5 → zI (zchr i k) &&& zI 255 = zI (zchr i k) ∧ ((zI (zchr i k)).toUInt32 % 65536).toInt32 = zI (zchr i k) ∧ narrow .char (.int (zI (zchr i k))) = .int (zI (zchr i k)) ∧ 0 ≤ zchr i k ∧ zchr i k ≤ 122 := by
  have key : ∀ i : Fin 4, ∀ k : Fin 5, zI (zchr i.val k.val) &&& zI 255 = zI (zchr i.val k.val) ∧ ((zI (zchr i.val k.val)).toUInt32 % 65536).toInt32 = zI (zchr i.val k.val) ∧ narrow .char (.int (zI (zchr i.val k.val))) = .int (zI (zchr i.val k.val)) ∧ 0 ≤ zchr i.val k.val ∧ zchr i.val k.val ≤ 122 := by decide +kernel
  exact fun i hi k hk => key ⟨i, hi⟩ ⟨k, hk⟩
set_option maxRecDepth 100000 in
set_option maxHeartbeats 4000000 in
/-- String.coder -/
theorem c_coder (l : Launch) {D : va_G} {cI cJ cZ cP cS cM : ClassId} {L : List Nat} {sz : Nat} {f : Nat → va_E} (i : Nat) (hi : i < 12) : zMi l yJ0_coder_7d493 wsJ0_coder_7d493 0 0 D (zT cI cJ cZ cP cS cM) L sz f [.ref (D.2 98 i)] (fun z g => z = 0 ∧ g = f) := by
  refine zWalk.met (nL := 1) (ret := (some .byte)) (cc := cJ0_coder_7d493) (by decide) rfl (Nat.le_of_ble_eq_true rfl) ?_
  intro pg en st mi ag bl mt cd ls CX hW hl
  have CX : zC pg st mi ag mt cd cJ0_coder_7d493 1 (some .byte) RJ0 wsJ0_coder_7d493 := CX
  generalize hQ : MQ bl _ ag st 0 0 _ = Q
  have hX0 := CX.1
  have hB0 := CX.2.1
  have hl : lv_has ls 1 [(0, .ref (D.2 98 i))] := hl
  obtain ⟨H, eH⟩ : ∃ H, H = st.heap := ⟨_, rfl⟩
  obtain ⟨locs, eL⟩ : ∃ L : List Loc, L = [] := ⟨_, rfl⟩
  have hW : zW D (zT cI cJ cZ cP cS cM) L (zQ L sz) st f st.heap H locs := by rw [eH, eL]; exact hW
  suffices hgo : W pg l en ({ frames := 0, cells := 0, slots := 0, locals := 0 } : Room) st mi ag bl mt cd H locs 0 0 Q (F0 mi 0 ls []) by rw [eH, eL] at hgo; exact hgo
  clear eH eL
  refine z_gets (v := .int (zI 1)) CX hW hW.2.2.2.2.2.2.2.2.1 (List.mem_of_getElem? (i := 1) rfl) rfl dJ0_coder_7d493_0 ?_
  refine z_if_eq (tgt := 13) CX dJ0_coder_7d493_3 (by decide) (by constructor <;> omega) (fun c_3 => ?_) (fun c_3 => ?_)
  ·
    omega
  ·
    refine lv_aload_n hX0 hB0 dJ0_coder_7d493_6 rfl (lv_at hl 0 rfl) ?_
    refine z_getT (v := .int (zI 0)) CX hW (hW.2.2.2.2.2.2.2.2.2.2.1.1 i hi).2.1 (List.mem_of_getElem? (i := 2) rfl) rfl dJ0_coder_7d493_7 ?_
    refine lv_goto (tgt := 14) hX0 hB0 dJ0_coder_7d493_10 (by decide) ?_
    rw [← hQ]
    exact z_iret (z := 0) CX hW (by exact ⟨rfl, rfl⟩) rfl dJ0_coder_7d493_14
set_option maxRecDepth 100000 in
set_option maxHeartbeats 4000000 in
/-- String.isLatin1 -/
theorem c_isLatin1 (l : Launch) {D : va_G} {cI cJ cZ cP cS cM : ClassId} {L : List Nat} {sz : Nat} {f : Nat → va_E} (i : Nat) (hi : i < 12) : zMi l yJ0_isLatin1_aae02 wsJ0_isLatin1_aae02 0 0 D (zT cI cJ cZ cP cS cM) L sz f [.ref (D.2 98 i)] (fun z g => z = 1 ∧ g = f) := by
  refine zWalk.met (nL := 1) (ret := (some .boolean)) (cc := cJ0_isLatin1_aae02) (by decide) rfl (Nat.le_of_ble_eq_true rfl) ?_
  intro pg en st mi ag bl mt cd ls CX hW hl
  have CX : zC pg st mi ag mt cd cJ0_isLatin1_aae02 1 (some .boolean) RJ0 wsJ0_isLatin1_aae02 := CX
  generalize hQ : MQ bl _ ag st 0 0 _ = Q
  have hX0 := CX.1
  have hB0 := CX.2.1
  have hl : lv_has ls 1 [(0, .ref (D.2 98 i))] := hl
  obtain ⟨H, eH⟩ : ∃ H, H = st.heap := ⟨_, rfl⟩
  obtain ⟨locs, eL⟩ : ∃ L : List Loc, L = [] := ⟨_, rfl⟩
  have hW : zW D (zT cI cJ cZ cP cS cM) L (zQ L sz) st f st.heap H locs := by rw [eH, eL]; exact hW
  suffices hgo : W pg l en ({ frames := 0, cells := 0, slots := 0, locals := 0 } : Room) st mi ag bl mt cd H locs 0 0 Q (F0 mi 0 ls []) by rw [eH, eL] at hgo; exact hgo
  clear eH eL
  refine z_gets (v := .int (zI 1)) CX hW hW.2.2.2.2.2.2.2.2.1 (List.mem_of_getElem? (i := 1) rfl) rfl dJ0_isLatin1_aae02_0 ?_
  refine z_if_eq (tgt := 17) CX dJ0_isLatin1_aae02_3 (by decide) (by constructor <;> omega) (fun c_3 => ?_) (fun c_3 => ?_)
  ·
    omega
  ·
    refine lv_aload_n hX0 hB0 dJ0_isLatin1_aae02_6 rfl (lv_at hl 0 rfl) ?_
    refine z_getT (v := .int (zI 0)) CX hW (hW.2.2.2.2.2.2.2.2.2.2.1.1 i hi).2.1 (List.mem_of_getElem? (i := 2) rfl) rfl dJ0_isLatin1_aae02_7 ?_
    refine z_if_ne (tgt := 17) CX dJ0_isLatin1_aae02_10 (by decide) (by constructor <;> omega) (fun c_10 => ?_) (fun c_10 => ?_)
    ·
      omega
    ·
      refine lv_iconst (v := zI 1) hX0 hB0 dJ0_isLatin1_aae02_13 rfl ?_
      refine lv_goto (tgt := 18) hX0 hB0 dJ0_isLatin1_aae02_14 (by decide) ?_
      rw [← hQ]
      exact z_iret (z := 1) CX hW (by exact ⟨rfl, rfl⟩) rfl dJ0_isLatin1_aae02_18
set_option maxRecDepth 100000 in
set_option maxHeartbeats 4000000 in
/-- String.length -/
theorem c_length (l : Launch) {D : va_G} {cI cJ cZ cP cS cM : ClassId} {L : List Nat} {sz : Nat} {f : Nat → va_E} (i : Nat) (hi : i < 12) : zMi l yJ0_length_8abf5 wsJ0_length_8abf5 1 20 D (zT cI cJ cZ cP cS cM) L sz f [.ref (D.2 98 i)] (fun z g => z = zlen i ∧ g = f) := by
  refine zWalk.met (nL := 1) (ret := (some .int)) (cc := cJ0_length_8abf5) (by decide) rfl (Nat.le_of_ble_eq_true rfl) ?_
  intro pg en st mi ag bl mt cd ls CX hW hl
  have CX : zC pg st mi ag mt cd cJ0_length_8abf5 1 (some .int) RJ0 wsJ0_length_8abf5 := CX
  generalize hQ : MQ bl _ ag st 0 0 _ = Q
  have hX0 := CX.1
  have hB0 := CX.2.1
  have hl : lv_has ls 1 [(0, .ref (D.2 98 i))] := hl
  obtain ⟨H, eH⟩ : ∃ H, H = st.heap := ⟨_, rfl⟩
  obtain ⟨locs, eL⟩ : ∃ L : List Loc, L = [] := ⟨_, rfl⟩
  have hW : zW D (zT cI cJ cZ cP cS cM) L (zQ L sz) st f st.heap H locs := by rw [eH, eL]; exact hW
  suffices hgo : W pg l en ({ frames := 1, cells := 0, slots := 0, locals := 20 } : Room) st mi ag bl mt cd H locs 0 0 Q (F0 mi 0 ls []) by rw [eH, eL] at hgo; exact hgo
  clear eH eL
  refine lv_aload_n hX0 hB0 dJ0_length_8abf5_0 rfl (lv_at hl 0 rfl) ?_
  refine z_getT (v := .ref (D.2 97 i)) CX hW (hW.2.2.2.2.2.2.2.2.2.2.1.1 i hi).2.2.1 (List.mem_of_getElem? (i := 1) rfl) rfl dJ0_length_8abf5_1 ?_
  refine z_tlen (n := zlen i) CX hW (hW.2.2.2.2.2.2.2.2.2.2.1.1 i hi).2.2.2 (zlen_of i hi) dJ0_length_8abf5_4 ?_
  refine lv_aload_n hX0 hB0 dJ0_length_8abf5_5 rfl (lv_at hl 0 rfl) ?_
  refine z_calli hW (va_runV (C := RJ0) (As := []) (rest := [.int (zI (zlen i))]) CX.fix (c_coder l (f := f) i hi) (cwV 0 CX.fix.2.2.2.2 gJ0_length_8abf5_J0_coder_7d493 rfl rfl rfl (by decide +kernel) ⟨Nat.le_of_ble_eq_true rfl, Nat.le_of_ble_eq_true rfl⟩) (z_preT CX hW i (by omega)) rfl rfl hl.1 rfl (lv_room (Nat.le_of_ble_eq_true rfl)) dJ0_length_8abf5_6 ⟨Nat.zero_le _, Nat.zero_le _⟩) (fun zv gn H locs hok6 hW => ?_)
  obtain ⟨ez, eg⟩ := hok6
  have eg : gn = f := eg
  rw [eg] at hW
  clear eg
  have ez : zv = 0 := ez
  rw [ez]
  clear ez
  refine lv_ishr hX0 hB0 dJ0_length_8abf5_9 ?_
  rw [zlen_sh i hi]
  rw [← hQ]
  exact z_iret (z := zlen i) CX hW (by exact ⟨rfl, rfl⟩) rfl dJ0_length_8abf5_10
set_option maxRecDepth 100000 in
set_option maxHeartbeats 4000000 in
/-- Preconditions.checkIndex -/
theorem c_checkIndex3n (l : Launch) {D : va_G} {cI cJ cZ cP cS cM : ClassId} {L : List Nat} {sz : Nat} {f : Nat → va_E} (x y : Int) (hx : 0 ≤ x ∧ x < y) (hy : y ≤ 2147483647) : zMi l yJ3_checkIndex_8e157 wsJ3_checkIndex_8e157 0 0 D (zT cI cJ cZ cP cS cM) L sz f [.int (zI x), .int (zI y), .null] (fun z g => z = x ∧ g = f) := by
  refine zWalk.met (nL := 3) (ret := (some .int)) (cc := cJ3_checkIndex_8e157) (by decide) rfl (Nat.le_of_ble_eq_true rfl) ?_
  intro pg en st mi ag bl mt cd ls CX hW hl
  have CX : zC pg st mi ag mt cd cJ3_checkIndex_8e157 3 (some .int) RJ3 wsJ3_checkIndex_8e157 := CX
  generalize hQ : MQ bl _ ag st 0 0 _ = Q
  have hX0 := CX.1
  have hB0 := CX.2.1
  have hl : lv_has ls 3 [(0, .int (zI x)), (1, .int (zI y)), (2, .null)] := hl
  obtain ⟨H, eH⟩ : ∃ H, H = st.heap := ⟨_, rfl⟩
  obtain ⟨locs, eL⟩ : ∃ L : List Loc, L = [] := ⟨_, rfl⟩
  have hW : zW D (zT cI cJ cZ cP cS cM) L (zQ L sz) st f st.heap H locs := by rw [eH, eL]; exact hW
  suffices hgo : W pg l en ({ frames := 0, cells := 0, slots := 0, locals := 0 } : Room) st mi ag bl mt cd H locs 0 0 Q (F0 mi 0 ls []) by rw [eH, eL] at hgo; exact hgo
  clear eH eL
  refine lv_iload_n hX0 hB0 dJ3_checkIndex_8e157_0 rfl (lv_at hl 0 rfl) ?_
  refine z_if_lt (tgt := 9) CX dJ3_checkIndex_8e157_1 (by decide) (by constructor <;> omega) (fun c_1 => ?_) (fun c_1 => ?_)
  ·
    omega
  ·
    refine lv_iload_n hX0 hB0 dJ3_checkIndex_8e157_4 rfl (lv_at hl 0 rfl) ?_
    refine lv_iload_n hX0 hB0 dJ3_checkIndex_8e157_5 rfl (lv_at hl 1 rfl) ?_
    refine z_icmp_lt (tgt := 16) CX dJ3_checkIndex_8e157_6 (by decide) (by constructor <;> omega) (by constructor <;> omega) (fun c_6 => ?_) (fun c_6 => ?_)
    ·
      refine lv_iload_n hX0 hB0 dJ3_checkIndex_8e157_16 rfl (lv_at hl 0 rfl) ?_
      rw [← hQ]
      exact z_iret (z := x) CX hW (by exact ⟨rfl, rfl⟩) rfl dJ3_checkIndex_8e157_17
    ·
      omega
set_option maxRecDepth 100000 in
set_option maxHeartbeats 4000000 in
/-- Preconditions.checkIndex -/
theorem c_checkIndex3r (l : Launch) {D : va_G} {cI cJ cZ cP cS cM : ClassId} {L : List Nat} {sz : Nat} {f : Nat → va_E} (x y : Int) (t : Nat) (hx : 0 ≤ x ∧ x < y) (hy : y ≤ 2147483647) : zMi l yJ3_checkIndex_8e157 wsJ3_checkIndex_8e157 0 0 D (zT cI cJ cZ cP cS cM) L sz f [.int (zI x), .int (zI y), .ref t] (fun z g => z = x ∧ g = f) := by
  refine zWalk.met (nL := 3) (ret := (some .int)) (cc := cJ3_checkIndex_8e157) (by decide) rfl (Nat.le_of_ble_eq_true rfl) ?_
  intro pg en st mi ag bl mt cd ls CX hW hl
  have CX : zC pg st mi ag mt cd cJ3_checkIndex_8e157 3 (some .int) RJ3 wsJ3_checkIndex_8e157 := CX
  generalize hQ : MQ bl _ ag st 0 0 _ = Q
  have hX0 := CX.1
  have hB0 := CX.2.1
  have hl : lv_has ls 3 [(0, .int (zI x)), (1, .int (zI y)), (2, .ref t)] := hl
  obtain ⟨H, eH⟩ : ∃ H, H = st.heap := ⟨_, rfl⟩
  obtain ⟨locs, eL⟩ : ∃ L : List Loc, L = [] := ⟨_, rfl⟩
  have hW : zW D (zT cI cJ cZ cP cS cM) L (zQ L sz) st f st.heap H locs := by rw [eH, eL]; exact hW
  suffices hgo : W pg l en ({ frames := 0, cells := 0, slots := 0, locals := 0 } : Room) st mi ag bl mt cd H locs 0 0 Q (F0 mi 0 ls []) by rw [eH, eL] at hgo; exact hgo
  clear eH eL
  refine lv_iload_n hX0 hB0 dJ3_checkIndex_8e157_0 rfl (lv_at hl 0 rfl) ?_
  refine z_if_lt (tgt := 9) CX dJ3_checkIndex_8e157_1 (by decide) (by constructor <;> omega) (fun c_1 => ?_) (fun c_1 => ?_)
  ·
    omega
  ·
    refine lv_iload_n hX0 hB0 dJ3_checkIndex_8e157_4 rfl (lv_at hl 0 rfl) ?_
    refine lv_iload_n hX0 hB0 dJ3_checkIndex_8e157_5 rfl (lv_at hl 1 rfl) ?_
    refine z_icmp_lt (tgt := 16) CX dJ3_checkIndex_8e157_6 (by decide) (by constructor <;> omega) (by constructor <;> omega) (fun c_6 => ?_) (fun c_6 => ?_)
    ·
      refine lv_iload_n hX0 hB0 dJ3_checkIndex_8e157_16 rfl (lv_at hl 0 rfl) ?_
      rw [← hQ]
      exact z_iret (z := x) CX hW (by exact ⟨rfl, rfl⟩) rfl dJ3_checkIndex_8e157_17
    ·
      omega
set_option maxRecDepth 100000 in
set_option maxHeartbeats 4000000 in
/-- String.checkIndex -/
theorem c_checkIndex (l : Launch) {D : va_G} {cI cJ cZ cP cS cM : ClassId} {L : List Nat} {sz : Nat} {f : Nat → va_E} (x y : Int) (hx : 0 ≤ x ∧ x < y) (hy : y ≤ 2147483647) : zMv l yJ0_checkIndex_df160 wsJ0_checkIndex_df160 1 22 D (zT cI cJ cZ cP cS cM) L sz f [.int (zI x), .int (zI y)] (fun g => g = f) := by
  refine zWalk.met (nL := 2) (ret := none) (cc := cJ0_checkIndex_df160) (by decide) rfl (Nat.le_of_ble_eq_true rfl) ?_
  intro pg en st mi ag bl mt cd ls CX hW hl
  have CX : zC pg st mi ag mt cd cJ0_checkIndex_df160 2 none RJ0 wsJ0_checkIndex_df160 := CX
  generalize hQ : MQ bl _ ag st 0 0 _ = Q
  have hX0 := CX.1
  have hB0 := CX.2.1
  have hl : lv_has ls 2 [(0, .int (zI x)), (1, .int (zI y))] := hl
  obtain ⟨H, eH⟩ : ∃ H, H = st.heap := ⟨_, rfl⟩
  obtain ⟨locs, eL⟩ : ∃ L : List Loc, L = [] := ⟨_, rfl⟩
  have hW : zW D (zT cI cJ cZ cP cS cM) L (zQ L sz) st f st.heap H locs := by rw [eH, eL]; exact hW
  suffices hgo : W pg l en ({ frames := 1, cells := 0, slots := 0, locals := 22 } : Room) st mi ag bl mt cd H locs 0 0 Q (F0 mi 0 ls []) by rw [eH, eL] at hgo; exact hgo
  clear eH eL
  refine lv_iload_n hX0 hB0 dJ0_checkIndex_df160_0 rfl (lv_at hl 0 rfl) ?_
  refine lv_iload_n hX0 hB0 dJ0_checkIndex_df160_1 rfl (lv_at hl 1 rfl) ?_
  rcases hW.2.2.2.2.2.2.2.2.2.1 with hzq | ⟨tq, hzq⟩
  ·
    refine z_gets CX hW hzq (List.mem_of_getElem? (i := 1) rfl) rfl dJ0_checkIndex_df160_2 ?_
    refine z_calli hW (va_runS (As := [.int (zI x), .int (zI y), .null]) (rest := []) CX.fix (c_checkIndex3n l (f := f) x y (by omega) (by omega)) (va_cwS 3 CX.fix.2.2.2.2 gJ0_checkIndex_df160_J3_checkIndex_8e157 rfl rfl rfl (by decide +kernel) ⟨Nat.le_of_ble_eq_true rfl, Nat.le_of_ble_eq_true rfl⟩) (z_preS CX hW) rfl rfl hl.1 rfl (lv_room (Nat.le_of_ble_eq_true rfl)) dJ0_checkIndex_df160_5 ⟨Nat.zero_le _, Nat.zero_le _⟩) (fun zv gn H locs hok5 hW => ?_)
    obtain ⟨ez, eg⟩ := hok5
    have eg : gn = f := eg
    rw [eg] at hW
    clear eg
    have ez : zv = x := ez
    rw [ez]
    clear ez
    refine lv_pop hX0 hB0 dJ0_checkIndex_df160_8 rfl ?_
    rw [← hQ]
    exact z_vret CX hW (by rfl) dJ0_checkIndex_df160_9
  ·
    refine z_gets CX hW hzq (List.mem_of_getElem? (i := 1) rfl) rfl dJ0_checkIndex_df160_2 ?_
    refine z_calli hW (va_runS (As := [.int (zI x), .int (zI y), .ref tq]) (rest := []) CX.fix (c_checkIndex3r l (f := f) x y tq (by omega) (by omega)) (va_cwS 3 CX.fix.2.2.2.2 gJ0_checkIndex_df160_J3_checkIndex_8e157 rfl rfl rfl (by decide +kernel) ⟨Nat.le_of_ble_eq_true rfl, Nat.le_of_ble_eq_true rfl⟩) (z_preS CX hW) rfl rfl hl.1 rfl (lv_room (Nat.le_of_ble_eq_true rfl)) dJ0_checkIndex_df160_5 ⟨Nat.zero_le _, Nat.zero_le _⟩) (fun zv gn H locs hok5 hW => ?_)
    obtain ⟨ez, eg⟩ := hok5
    have eg : gn = f := eg
    rw [eg] at hW
    clear eg
    have ez : zv = x := ez
    rw [ez]
    clear ez
    refine lv_pop hX0 hB0 dJ0_checkIndex_df160_8 rfl ?_
    rw [← hQ]
    exact z_vret CX hW (by rfl) dJ0_checkIndex_df160_9
set_option maxRecDepth 100000 in
set_option maxHeartbeats 4000000 in
/-- StringLatin1.charAt -/
theorem c_charAtL (l : Launch) {D : va_G} {cI cJ cZ cP cS cM : ClassId} {L : List Nat} {sz : Nat} {f : Nat → va_E} (i : Nat) (k : Int) (hi : i < 4) (hk : 0 ≤ k ∧ k < zlen i) : zMi l yJ1_charAt_3b067 wsJ1_charAt_3b067 2 43 D (zT cI cJ cZ cP cS cM) L sz f [.ref (D.2 97 i), .int (zI k)] (fun z g => z = zchr i k.toNat ∧ g = f) := by
  refine zWalk.met (nL := 2) (ret := (some .char)) (cc := cJ1_charAt_3b067) (by decide) rfl (Nat.le_of_ble_eq_true rfl) ?_
  intro pg en st mi ag bl mt cd ls CX hW hl
  have CX : zC pg st mi ag mt cd cJ1_charAt_3b067 2 (some .char) RJ1 wsJ1_charAt_3b067 := CX
  generalize hQ : MQ bl _ ag st 0 0 _ = Q
  have hX0 := CX.1
  have hB0 := CX.2.1
  have hl : lv_has ls 2 [(0, .ref (D.2 97 i)), (1, .int (zI k))] := hl
  obtain ⟨H, eH⟩ : ∃ H, H = st.heap := ⟨_, rfl⟩
  obtain ⟨locs, eL⟩ : ∃ L : List Loc, L = [] := ⟨_, rfl⟩
  have hW : zW D (zT cI cJ cZ cP cS cM) L (zQ L sz) st f st.heap H locs := by rw [eH, eL]; exact hW
  suffices hgo : W pg l en ({ frames := 2, cells := 0, slots := 0, locals := 43 } : Room) st mi ag bl mt cd H locs 0 0 Q (F0 mi 0 ls []) by rw [eH, eL] at hgo; exact hgo
  clear eH eL
  have hln := zlen_rng i hi
  have hok := zchr_ok i hi k.toNat (by omega)
  refine lv_iload_n hX0 hB0 dJ1_charAt_3b067_0 rfl (lv_at hl 1 rfl) ?_
  refine lv_aload_n hX0 hB0 dJ1_charAt_3b067_1 rfl (lv_at hl 0 rfl) ?_
  refine z_tlen (n := zlen i) CX hW (hW.2.2.2.2.2.2.2.2.2.2.1.1 i (by omega)).2.2.2 (zlen_of i (by omega)) dJ1_charAt_3b067_2 ?_
  refine z_callv hW (va_runS (As := [.int (zI k), .int (zI (zlen i))]) (rest := []) CX.fix (c_checkIndex l (f := f) k (zlen i) (by omega) (by omega)) (va_cwS 2 CX.fix.2.2.2.2 gJ1_charAt_3b067_J0_checkIndex_df160 rfl rfl rfl (by decide +kernel) ⟨Nat.le_of_ble_eq_true rfl, Nat.le_of_ble_eq_true rfl⟩) (z_preS CX hW) rfl rfl hl.1 rfl (lv_room (Nat.le_of_ble_eq_true rfl)) dJ1_charAt_3b067_3 ⟨Nat.zero_le _, Nat.zero_le _⟩) (fun gn H locs hok3 hW => ?_)
  have eg : gn = f := hok3
  rw [eg] at hW
  clear eg
  refine lv_aload_n hX0 hB0 dJ1_charAt_3b067_6 rfl (lv_at hl 0 rfl) ?_
  refine lv_iload_n hX0 hB0 dJ1_charAt_3b067_7 rfl (lv_at hl 1 rfl) ?_
  refine z_tbld (d := (fun j => (zSb.getD i []).getD j 0)) (z := zchr i k.toNat) CX hW (hW.2.2.2.2.2.2.2.2.2.2.1.1 i (by omega)).2.2.2 (by refine ⟨?_, ?_, ?_⟩; omega; (show k < ((zSl.getD i 0 : Nat) : Int); exact hk.2); omega) (zchr_of i _) dJ1_charAt_3b067_8 ?_
  refine lv_sipush (v := zI 255) hX0 hB0 dJ1_charAt_3b067_9 (by decide) ?_
  refine lv_iand hX0 hB0 dJ1_charAt_3b067_12 ?_
  rw [hok.1]
  refine lv_i2c (v := zI (zchr i k.toNat)) hX0 hB0 dJ1_charAt_3b067_13 hok.2.1 ?_
  rw [← hQ]
  exact z_iret (z := zchr i k.toNat) CX hW (by exact ⟨rfl, rfl⟩) hok.2.2.1 dJ1_charAt_3b067_14
set_option maxRecDepth 100000 in
set_option maxHeartbeats 4000000 in
/-- String.charAt -/
theorem c_charAt (l : Launch) {D : va_G} {cI cJ cZ cP cS cM : ClassId} {L : List Nat} {sz : Nat} {f : Nat → va_E} (i : Nat) (k : Int) (hi : i < 4) (hk : 0 ≤ k ∧ k < zlen i) : zMi l yJ0_charAt_5068e wsJ0_charAt_5068e 3 64 D (zT cI cJ cZ cP cS cM) L sz f [.ref (D.2 98 i), .int (zI k)] (fun z g => z = zchr i k.toNat ∧ g = f) := by
  refine zWalk.met (nL := 2) (ret := (some .char)) (cc := cJ0_charAt_5068e) (by decide) rfl (Nat.le_of_ble_eq_true rfl) ?_
  intro pg en st mi ag bl mt cd ls CX hW hl
  have CX : zC pg st mi ag mt cd cJ0_charAt_5068e 2 (some .char) RJ0 wsJ0_charAt_5068e := CX
  generalize hQ : MQ bl _ ag st 0 0 _ = Q
  have hX0 := CX.1
  have hB0 := CX.2.1
  have hl : lv_has ls 2 [(0, .ref (D.2 98 i)), (1, .int (zI k))] := hl
  obtain ⟨H, eH⟩ : ∃ H, H = st.heap := ⟨_, rfl⟩
  obtain ⟨locs, eL⟩ : ∃ L : List Loc, L = [] := ⟨_, rfl⟩
  have hW : zW D (zT cI cJ cZ cP cS cM) L (zQ L sz) st f st.heap H locs := by rw [eH, eL]; exact hW
  suffices hgo : W pg l en ({ frames := 3, cells := 0, slots := 0, locals := 64 } : Room) st mi ag bl mt cd H locs 0 0 Q (F0 mi 0 ls []) by rw [eH, eL] at hgo; exact hgo
  clear eH eL
  have hln := zlen_rng i hi
  have hok := zchr_ok i hi k.toNat (by omega)
  refine lv_aload_n hX0 hB0 dJ0_charAt_5068e_0 rfl (lv_at hl 0 rfl) ?_
  refine z_calli hW (va_runV (C := RJ0) (As := []) (rest := []) CX.fix (c_isLatin1 l (f := f) i (by omega)) (cwV 0 CX.fix.2.2.2.2 gJ0_charAt_5068e_J0_isLatin1_aae02 rfl rfl rfl (by decide +kernel) ⟨Nat.le_of_ble_eq_true rfl, Nat.le_of_ble_eq_true rfl⟩) (z_preT CX hW i (by omega)) rfl rfl hl.1 rfl (lv_room (Nat.le_of_ble_eq_true rfl)) dJ0_charAt_5068e_1 ⟨Nat.zero_le _, Nat.zero_le _⟩) (fun zv gn H locs hok1 hW => ?_)
  obtain ⟨ez, eg⟩ := hok1
  have eg : gn = f := eg
  rw [eg] at hW
  clear eg
  have ez : zv = 1 := ez
  rw [ez]
  clear ez
  refine z_if_eq (tgt := 16) CX dJ0_charAt_5068e_4 (by decide) (by constructor <;> omega) (fun c_4 => ?_) (fun c_4 => ?_)
  ·
    omega
  ·
    refine lv_aload_n hX0 hB0 dJ0_charAt_5068e_7 rfl (lv_at hl 0 rfl) ?_
    refine z_getT (v := .ref (D.2 97 i)) CX hW (hW.2.2.2.2.2.2.2.2.2.2.1.1 i (by omega)).2.2.1 (List.mem_of_getElem? (i := 1) rfl) rfl dJ0_charAt_5068e_8 ?_
    refine lv_iload_n hX0 hB0 dJ0_charAt_5068e_11 rfl (lv_at hl 1 rfl) ?_
    refine z_calli hW (va_runS (As := [.ref (D.2 97 i), .int (zI k)]) (rest := []) CX.fix (c_charAtL l (f := f) i k hi (by omega)) (va_cwS 2 CX.fix.2.2.2.2 gJ0_charAt_5068e_J1_charAt_3b067 rfl rfl rfl (by decide +kernel) ⟨Nat.le_of_ble_eq_true rfl, Nat.le_of_ble_eq_true rfl⟩) (z_preS CX hW) rfl rfl hl.1 rfl (lv_room (Nat.le_of_ble_eq_true rfl)) dJ0_charAt_5068e_12 ⟨Nat.zero_le _, Nat.zero_le _⟩) (fun zv gn H locs hok12 hW => ?_)
    obtain ⟨ez, eg⟩ := hok12
    have eg : gn = f := eg
    rw [eg] at hW
    clear eg
    have ez : zv = zchr i k.toNat := ez
    rw [ez]
    clear ez
    rw [← hQ]
    exact z_iret (z := zchr i k.toNat) CX hW (by exact ⟨rfl, rfl⟩) hok.2.2.1 dJ0_charAt_5068e_15
end ZJs
