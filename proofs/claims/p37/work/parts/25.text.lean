section ZTx2
theorem ztk_01 (n : Int) (T : Nat → Int) (sg : Int) (S : Nat → Nat → Int) : (ztk n T sg S).1 = 0 ∨ (ztk n T sg S).1 = 1 := by
  unfold ztk
  split
  · exact Or.inr rfl
  · exact Or.inl rfl
theorem ztk_pl (n : Int) (T : Nat → Int) (sg : Int) (S : Nat → Nat → Int) : (ztk n T sg S).2 0 0 = zsk n T (S 0 0) + (ztk n T sg S).1 := by
  unfold ztk
  split
  · rfl
  · exact (Int.add_zero _).symm
theorem ztk_num (n : Int) (T : Nat → Int) (sg : Int) (S : Nat → Nat → Int) {i : Nat} (h : i ≠ 0) : (ztk n T sg S).2 0 i = S 0 i := by
  have key : ∀ x : Int, zsr S x (S 0 1) (S 0 2) 0 i = S 0 i := fun x => by
    unfold zsr
    rw [zset_self]
    by_cases e1 : i = 1
    · subst e1
      rfl
    by_cases e2 : i = 2
    · subst e2
      rfl
    · rw [if_neg h, if_neg e1, if_neg e2]
  unfold ztk zskS
  split
  · exact key _
  · exact key _
theorem ztk_k (n : Int) (T : Nat → Int) (sg : Int) (S : Nat → Nat → Int) {k : Nat} (h : k ≠ 0) : (ztk n T sg S).2 k = S k := by
  unfold ztk zskS
  split
  · exact zsr_ne h
  · exact zsr_ne h
theorem ztk_rng {n : Int} {T : Nat → Int} {sg : Int} {S : Nat → Nat → Int} (h : 0 ≤ S 0 0 ∧ S 0 0 ≤ n) (hs : 0 ≤ sg) : S 0 0 ≤ (ztk n T sg S).2 0 0 ∧ (ztk n T sg S).2 0 0 ≤ n := by
  have h1 := zsk_rng (T := T) h
  unfold ztk
  split
  · rename_i h2
    have := zby_in (n := n) (T := T) (a := zsk n T (S 0 0)) (by omega)
    show S 0 0 ≤ zsk n T (S 0 0) + 1 ∧ zsk n T (S 0 0) + 1 ≤ n
    omega
  · exact ⟨h1.1, h1.2⟩
set_option maxRecDepth 100000 in
set_option maxHeartbeats 4000000 in
/-- Reader.take -/
theorem c_take (l : Launch) {D : va_G} {cI cJ cZ cP cS cM : ClassId} {L : List Nat} {sz : Nat} {f : Nat → va_E} (r : Nat) (n : Int) (T : Nat → Int) (S : Nat → Nat → Int) (sg : Int) (hT : ztape n T) (hpl : 0 ≤ S 0 0 ∧ S 0 0 ≤ n) (hsg : 0 ≤ sg ∧ sg ≤ 255) : zMi l yX3_take wsX3_take 2 41 D (zT cI cJ cZ cP cS cM) L sz (zRO cI cP cZ r n T S f) [.ref r, .int (zI sg)] (fun z g => z = (ztk n T sg S).1 ∧ g = zRO cI cP cZ r n T (ztk n T sg S).2 f) := by
  refine zWalk.met (nL := 2) (ret := (some .boolean)) (cc := cX3_take) (by decide) rfl (Nat.le_of_ble_eq_true rfl) ?_
  intro pg en st mi ag bl mt cd ls CX hW hl
  have CX : zC pg st mi ag mt cd cX3_take 2 (some .boolean) RX3 wsX3_take := CX
  generalize hQ : MQ bl _ ag st 0 0 _ = Q
  have hX0 := CX.1
  have hB0 := CX.2.1
  have hl : lv_has ls 2 [(0, .ref r), (1, .int (zI sg))] := hl
  obtain ⟨H, eH⟩ : ∃ H, H = st.heap := ⟨_, rfl⟩
  obtain ⟨locs, eL⟩ : ∃ L : List Loc, L = [] := ⟨_, rfl⟩
  have hW : zW D (zT cI cJ cZ cP cS cM) L (zQ L sz) st (zRO cI cP cZ r n T S f) st.heap H locs := by rw [eH, eL]; exact hW
  suffices hgo : W pg l en ({ frames := 2, cells := 0, slots := 0, locals := 41 } : Room) st mi ag bl mt cd H locs 0 0 Q (F0 mi 0 ls []) by rw [eH, eL] at hgo; exact hgo
  clear eH eL
  have hn0 := hT.1
  have hn1 := hT.2.1
  refine lv_aload_n hX0 hB0 dX3_take_0 rfl (lv_at hl 0 rfl) ?_
  refine z_callv hW (va_runV (C := RX3) (As := []) (rest := []) CX.fix (c_skipBlanks l (f := f) r n T S hT (by omega)) (cwV 0 CX.fix.2.2.2.2 gX3_take_X3_skipBlanks rfl rfl rfl (by decide +kernel) ⟨Nat.le_of_ble_eq_true rfl, Nat.le_of_ble_eq_true rfl⟩) (z_preV CX hW (r := (RX3, TX3, 13)) zRO_0 rfl) rfl rfl hl.1 rfl (lv_room (Nat.le_of_ble_eq_true rfl)) dX3_take_1 ⟨Nat.zero_le _, Nat.zero_le _⟩) (fun gn H locs hok1 hW => ?_)
  have hg1 := hok1
  rw [hg1] at hW
  clear hg1
  obtain ⟨S1c, hS1c⟩ : ∃ q : Nat → Nat → Int, q = zskS n T S := ⟨_, rfl⟩
  rw [← hS1c] at hW
  have hS1c_0 : S1c 0 0 = zsk n T (S 0 0) := by rw [hS1c]; first | rfl | (simp [zsr, zsd, zset]; done) | ((repeat rw [zset_ne _ _ (by omega)]); first | done | rfl | (simp [zsr, zsd, zset]; done)) | (unfold zsd; (repeat (first | rw [zset_self] | rw [zset_ne _ _ (by omega)])); first | done | rfl | (simp; done))
  have hS1c_1 : S1c 0 1 = S 0 1 := by rw [hS1c]; first | rfl | (simp [zsr, zsd, zset]; done) | ((repeat rw [zset_ne _ _ (by omega)]); first | done | rfl | (simp [zsr, zsd, zset]; done)) | (unfold zsd; (repeat (first | rw [zset_self] | rw [zset_ne _ _ (by omega)])); first | done | rfl | (simp; done))
  have hS1c_2 : S1c 0 2 = S 0 2 := by rw [hS1c]; first | rfl | (simp [zsr, zsd, zset]; done) | ((repeat rw [zset_ne _ _ (by omega)]); first | done | rfl | (simp [zsr, zsd, zset]; done)) | (unfold zsd; (repeat (first | rw [zset_self] | rw [zset_ne _ _ (by omega)])); first | done | rfl | (simp; done))
  have hS1c_3 : S1c 0 3 = S 0 3 := by rw [hS1c]; first | rfl | (simp [zsr, zsd, zset]; done) | ((repeat rw [zset_ne _ _ (by omega)]); first | done | rfl | (simp [zsr, zsd, zset]; done)) | (unfold zsd; (repeat (first | rw [zset_self] | rw [zset_ne _ _ (by omega)])); first | done | rfl | (simp; done))
  have hS1c_4 : S1c 0 4 = S 0 4 := by rw [hS1c]; first | rfl | (simp [zsr, zsd, zset]; done) | ((repeat rw [zset_ne _ _ (by omega)]); first | done | rfl | (simp [zsr, zsd, zset]; done)) | (unfold zsd; (repeat (first | rw [zset_self] | rw [zset_ne _ _ (by omega)])); first | done | rfl | (simp; done))
  have hskr1 := zsk_rng (T := T) (show 0 ≤ S 0 0 ∧ S 0 0 ≤ n by omega)
  refine lv_aload_n hX0 hB0 dX3_take_4 rfl (lv_at hl 0 rfl) ?_
  refine lv_aload_n hX0 hB0 dX3_take_5 rfl (lv_at hl 0 rfl) ?_
  refine z_get (Cn := RX3) (T := TX3) (N := 13) CX hW (v := .int (zI (S1c 0 0))) zRO_0 rfl (fun w h => List.mem_cons_of_mem _ (List.mem_append_right _ h)) 12 (by decide) (List.mem_of_getElem? (i := 1) rfl) rfl rfl dX3_take_6 ?_
  refine z_calli hW (va_runV (C := RX3) (As := [.int (zI (S1c 0 0))]) (rest := []) CX.fix (c_byteAt l (f := f) r n T S1c (S1c 0 0) hT (by constructor <;> omega)) (cwV 1 CX.fix.2.2.2.2 gX3_take_X3_byteAt rfl rfl rfl (by decide +kernel) ⟨Nat.le_of_ble_eq_true rfl, Nat.le_of_ble_eq_true rfl⟩) (z_preV CX hW (r := (RX3, TX3, 13)) zRO_0 rfl) rfl rfl hl.1 rfl (lv_room (Nat.le_of_ble_eq_true rfl)) dX3_take_9 ⟨Nat.zero_le _, Nat.zero_le _⟩) (fun zv gn H locs hok9 hW => ?_)
  obtain ⟨ez, eg⟩ := hok9
  have eg : gn = zRO cI cP cZ r n T S1c f := eg
  rw [eg] at hW
  clear eg
  have ez : zv = zby n T (S1c 0 0) := ez
  rw [ez]
  clear ez
  have hby9 := zby_rng hT (S1c 0 0)
  refine lv_iload_n hX0 hB0 dX3_take_12 rfl (lv_at hl 1 rfl) ?_
  refine z_icmp_eq (tgt := 18) CX dX3_take_13 (by decide) (by constructor <;> omega) (by constructor <;> omega) (fun c_13 => ?_) (fun c_13 => ?_)
  ·
    refine lv_aload_n hX0 hB0 dX3_take_18 rfl (lv_at hl 0 rfl) ?_
    refine lv_dup hX0 hB0 dX3_take_19 rfl ?_
    refine z_get (Cn := RX3) (T := TX3) (N := 13) CX hW (v := .int (zI (S1c 0 0))) zRO_0 rfl (fun w h => List.mem_cons_of_mem _ (List.mem_append_right _ h)) 12 (by decide) (List.mem_of_getElem? (i := 1) rfl) rfl rfl dX3_take_20 ?_
    refine lv_iconst (v := zI 1) hX0 hB0 dX3_take_23 rfl ?_
    refine z_iadd (z := (S1c 0 0) + 1) CX dX3_take_24 rfl ?_
    refine z_put (Cn := RX3) (T := TX3) (N := 13) CX hW (v := .int (zI ((S1c 0 0) + 1))) zRO_0 rfl (fun w h => List.mem_cons_of_mem _ (List.mem_append_right _ h)) tyX3 tyX3_ok nmX3 12 (by decide) (List.mem_of_getElem? (i := 1) rfl) rfl rfl rfl rfl (Nat.le_of_ble_eq_true rfl) (g := va_up (zRO cI cP cZ r n T S1c f) r (.inr (3, [.int (zI n), .int (zI (S1c 0 1)), .int (zI (S1c 0 2)), .ref (r + 1), .ref (r + 16), .ref (r + 17), .ref (r + 18), .ref (r + 19), .ref (r + 20), .ref (r + 21), .ref (r + 23), .ref (r + 25), .int (zI ((S1c 0 0) + 1))]))) rfl dX3_take_25 (fun H locs hW => ?_)
    refine lv_iconst (v := zI 1) hX0 hB0 dX3_take_28 rfl ?_
    have hW := hW
    rw [zRO_wr] at hW
    obtain ⟨S1, hS1⟩ : ∃ q : Nat → Nat → Int, q = zsr S1c ((S1c 0 0) + 1) (S1c 0 1) (S1c 0 2) := ⟨_, rfl⟩
    rw [← hS1] at hW
    have hS1_0 : S1 0 0 = (S1c 0 0) + 1 := by rw [hS1]; first | rfl | (simp [zsr, zsd, zset]; done) | ((repeat rw [zset_ne _ _ (by omega)]); first | done | rfl | (simp [zsr, zsd, zset]; done)) | (unfold zsd; (repeat (first | rw [zset_self] | rw [zset_ne _ _ (by omega)])); first | done | rfl | (simp; done))
    have hS1_1 : S1 0 1 = S1c 0 1 := by rw [hS1]; first | rfl | (simp [zsr, zsd, zset]; done) | ((repeat rw [zset_ne _ _ (by omega)]); first | done | rfl | (simp [zsr, zsd, zset]; done)) | (unfold zsd; (repeat (first | rw [zset_self] | rw [zset_ne _ _ (by omega)])); first | done | rfl | (simp; done))
    have hS1_2 : S1 0 2 = S1c 0 2 := by rw [hS1]; first | rfl | (simp [zsr, zsd, zset]; done) | ((repeat rw [zset_ne _ _ (by omega)]); first | done | rfl | (simp [zsr, zsd, zset]; done)) | (unfold zsd; (repeat (first | rw [zset_self] | rw [zset_ne _ _ (by omega)])); first | done | rfl | (simp; done))
    have hS1_3 : S1 0 3 = S1c 0 3 := by rw [hS1]; first | rfl | (simp [zsr, zsd, zset]; done) | ((repeat rw [zset_ne _ _ (by omega)]); first | done | rfl | (simp [zsr, zsd, zset]; done)) | (unfold zsd; (repeat (first | rw [zset_self] | rw [zset_ne _ _ (by omega)])); first | done | rfl | (simp; done))
    have hS1_4 : S1 0 4 = S1c 0 4 := by rw [hS1]; first | rfl | (simp [zsr, zsd, zset]; done) | ((repeat rw [zset_ne _ _ (by omega)]); first | done | rfl | (simp [zsr, zsd, zset]; done)) | (unfold zsd; (repeat (first | rw [zset_self] | rw [zset_ne _ _ (by omega)])); first | done | rfl | (simp; done))
    skip
    rw [← hQ]
    refine z_iret (z := 1) CX hW ?_ rfl dX3_take_29
    have hq : ztk n T sg S = (1, S1) := by unfold ztk; rw [if_pos (by rw [← hS1c_0]; exact c_13), hS1, hS1c_0, hS1c_1, hS1c_2, hS1c]; unfold zskS; rw [zsr_zsr]
    rw [hq]
    exact ⟨rfl, rfl⟩
  ·
    refine lv_iconst (v := zI 0) hX0 hB0 dX3_take_16 rfl ?_
    rw [← hQ]
    refine z_iret (z := 0) CX hW ?_ rfl dX3_take_17
    have hq : ztk n T sg S = (0, S1c) := by unfold ztk; rw [if_neg (by rw [← hS1c_0]; exact c_13), ← hS1c]
    rw [hq]
    exact ⟨rfl, rfl⟩
set_option maxRecDepth 100000 in
set_option maxHeartbeats 4000000 in
/-- Reader.fail -/
theorem c_fail (l : Launch) {D : va_G} {cI cJ cZ cP cS cM : ClassId} {L : List Nat} {sz : Nat} {f : Nat → va_E} (r : Nat) (n : Int) (T : Nat → Int) (S : Nat → Nat → Int) (k a : Int) (hT : ztape n T) (hk : -2147483648 ≤ k ∧ k ≤ 2147483647) (ha : -2147483648 ≤ a ∧ a ≤ 2147483647) : zMi l yX3_fail wsX3_fail 0 0 D (zT cI cJ cZ cP cS cM) L sz (zRO cI cP cZ r n T S f) [.ref r, .int (zI k), .int (zI a)] (fun z g => z = 0 ∧ g = zRO cI cP cZ r n T (zfl k a S) f) := by
  refine zWalk.met (nL := 3) (ret := (some .boolean)) (cc := cX3_fail) (by decide) rfl (Nat.le_of_ble_eq_true rfl) ?_
  intro pg en st mi ag bl mt cd ls CX hW hl
  have CX : zC pg st mi ag mt cd cX3_fail 3 (some .boolean) RX3 wsX3_fail := CX
  generalize hQ : MQ bl _ ag st 0 0 _ = Q
  have hX0 := CX.1
  have hB0 := CX.2.1
  have hl : lv_has ls 3 [(0, .ref r), (1, .int (zI k)), (2, .int (zI a))] := hl
  obtain ⟨H, eH⟩ : ∃ H, H = st.heap := ⟨_, rfl⟩
  obtain ⟨locs, eL⟩ : ∃ L : List Loc, L = [] := ⟨_, rfl⟩
  have hW : zW D (zT cI cJ cZ cP cS cM) L (zQ L sz) st (zRO cI cP cZ r n T S f) st.heap H locs := by rw [eH, eL]; exact hW
  suffices hgo : W pg l en ({ frames := 0, cells := 0, slots := 0, locals := 0 } : Room) st mi ag bl mt cd H locs 0 0 Q (F0 mi 0 ls []) by rw [eH, eL] at hgo; exact hgo
  clear eH eL
  refine lv_aload_n hX0 hB0 dX3_fail_0 rfl (lv_at hl 0 rfl) ?_
  refine lv_iload_n hX0 hB0 dX3_fail_1 rfl (lv_at hl 1 rfl) ?_
  refine z_put (Cn := RX3) (T := TX3) (N := 13) CX hW (v := .int (zI k)) zRO_0 rfl (fun w h => List.mem_cons_of_mem _ (List.mem_append_right _ h)) tyX3 tyX3_ok nmX3 1 (by decide) (List.mem_of_getElem? (i := 1) rfl) rfl rfl rfl rfl (Nat.le_of_ble_eq_true rfl) (g := va_up (zRO cI cP cZ r n T S f) r (.inr (3, [.int (zI n), .int (zI k), .int (zI (S 0 2)), .ref (r + 1), .ref (r + 16), .ref (r + 17), .ref (r + 18), .ref (r + 19), .ref (r + 20), .ref (r + 21), .ref (r + 23), .ref (r + 25), .int (zI (S 0 0))]))) rfl dX3_fail_2 (fun H locs hW => ?_)
  refine lv_aload_n hX0 hB0 dX3_fail_5 rfl (lv_at hl 0 rfl) ?_
  refine lv_iload_n hX0 hB0 dX3_fail_6 rfl (lv_at hl 2 rfl) ?_
  refine z_put (Cn := RX3) (T := TX3) (N := 13) CX hW (v := .int (zI a)) (va_up_self _ _ _) rfl (fun w h => List.mem_cons_of_mem _ (List.mem_append_right _ h)) tyX3 tyX3_ok nmX3 2 (by decide) (List.mem_of_getElem? (i := 2) rfl) rfl rfl rfl rfl (Nat.le_of_ble_eq_true rfl) (g := va_up (zRO cI cP cZ r n T S f) r (.inr (3, [.int (zI n), .int (zI k), .int (zI a), .ref (r + 1), .ref (r + 16), .ref (r + 17), .ref (r + 18), .ref (r + 19), .ref (r + 20), .ref (r + 21), .ref (r + 23), .ref (r + 25), .int (zI (S 0 0))]))) va_up_up dX3_fail_7 (fun H locs hW => ?_)
  refine lv_iconst (v := zI 0) hX0 hB0 dX3_fail_10 rfl ?_
  have hW := hW
  rw [zRO_wr] at hW
  obtain ⟨S1, hS1⟩ : ∃ q : Nat → Nat → Int, q = zsr S (S 0 0) k a := ⟨_, rfl⟩
  rw [← hS1] at hW
  have hS1_0 : S1 0 0 = S 0 0 := by rw [hS1]; first | rfl | (simp [zsr, zsd, zset]; done) | ((repeat rw [zset_ne _ _ (by omega)]); first | done | rfl | (simp [zsr, zsd, zset]; done)) | (unfold zsd; (repeat (first | rw [zset_self] | rw [zset_ne _ _ (by omega)])); first | done | rfl | (simp; done))
  have hS1_1 : S1 0 1 = k := by rw [hS1]; first | rfl | (simp [zsr, zsd, zset]; done) | ((repeat rw [zset_ne _ _ (by omega)]); first | done | rfl | (simp [zsr, zsd, zset]; done)) | (unfold zsd; (repeat (first | rw [zset_self] | rw [zset_ne _ _ (by omega)])); first | done | rfl | (simp; done))
  have hS1_2 : S1 0 2 = a := by rw [hS1]; first | rfl | (simp [zsr, zsd, zset]; done) | ((repeat rw [zset_ne _ _ (by omega)]); first | done | rfl | (simp [zsr, zsd, zset]; done)) | (unfold zsd; (repeat (first | rw [zset_self] | rw [zset_ne _ _ (by omega)])); first | done | rfl | (simp; done))
  have hS1_3 : S1 0 3 = S 0 3 := by rw [hS1]; first | rfl | (simp [zsr, zsd, zset]; done) | ((repeat rw [zset_ne _ _ (by omega)]); first | done | rfl | (simp [zsr, zsd, zset]; done)) | (unfold zsd; (repeat (first | rw [zset_self] | rw [zset_ne _ _ (by omega)])); first | done | rfl | (simp; done))
  have hS1_4 : S1 0 4 = S 0 4 := by rw [hS1]; first | rfl | (simp [zsr, zsd, zset]; done) | ((repeat rw [zset_ne _ _ (by omega)]); first | done | rfl | (simp [zsr, zsd, zset]; done)) | (unfold zsd; (repeat (first | rw [zset_self] | rw [zset_ne _ _ (by omega)])); first | done | rfl | (simp; done))
  skip
  rw [← hQ]
  exact z_iret (z := 0) CX hW (by rw [hS1]; exact ⟨rfl, rfl⟩) rfl dX3_fail_11
set_option maxRecDepth 100000 in
set_option maxHeartbeats 4000000 in
/-- Reader.expect -/
theorem c_expect (l : Launch) {D : va_G} {cI cJ cZ cP cS cM : ClassId} {L : List Nat} {sz : Nat} {f : Nat → va_E} (r : Nat) (n : Int) (T : Nat → Int) (S : Nat → Nat → Int) (sg : Int) (hT : ztape n T) (hpl : 0 ≤ S 0 0 ∧ S 0 0 ≤ n) (hsg : 0 ≤ sg ∧ sg ≤ 255) : zMi l yX3_expect wsX3_expect 3 62 D (zT cI cJ cZ cP cS cM) L sz (zRO cI cP cZ r n T S f) [.ref r, .int (zI sg)] (fun z g => z = (zxp n T sg S).1 ∧ g = zRO cI cP cZ r n T (zxp n T sg S).2 f) := by
  refine zWalk.met (nL := 2) (ret := (some .boolean)) (cc := cX3_expect) (by decide) rfl (Nat.le_of_ble_eq_true rfl) ?_
  intro pg en st mi ag bl mt cd ls CX hW hl
  have CX : zC pg st mi ag mt cd cX3_expect 2 (some .boolean) RX3 wsX3_expect := CX
  generalize hQ : MQ bl _ ag st 0 0 _ = Q
  have hX0 := CX.1
  have hB0 := CX.2.1
  have hl : lv_has ls 2 [(0, .ref r), (1, .int (zI sg))] := hl
  obtain ⟨H, eH⟩ : ∃ H, H = st.heap := ⟨_, rfl⟩
  obtain ⟨locs, eL⟩ : ∃ L : List Loc, L = [] := ⟨_, rfl⟩
  have hW : zW D (zT cI cJ cZ cP cS cM) L (zQ L sz) st (zRO cI cP cZ r n T S f) st.heap H locs := by rw [eH, eL]; exact hW
  suffices hgo : W pg l en ({ frames := 3, cells := 0, slots := 0, locals := 62 } : Room) st mi ag bl mt cd H locs 0 0 Q (F0 mi 0 ls []) by rw [eH, eL] at hgo; exact hgo
  clear eH eL
  have hn0 := hT.1
  have hn1 := hT.2.1
  refine lv_aload_n hX0 hB0 dX3_expect_0 rfl (lv_at hl 0 rfl) ?_
  refine lv_iload_n hX0 hB0 dX3_expect_1 rfl (lv_at hl 1 rfl) ?_
  refine z_calli hW (va_runV (C := RX3) (As := [.int (zI sg)]) (rest := []) CX.fix (c_take l (f := f) r n T S sg hT (by omega) (by omega)) (cwV 1 CX.fix.2.2.2.2 gX3_expect_X3_take rfl rfl rfl (by decide +kernel) ⟨Nat.le_of_ble_eq_true rfl, Nat.le_of_ble_eq_true rfl⟩) (z_preV CX hW (r := (RX3, TX3, 13)) zRO_0 rfl) rfl rfl hl.1 rfl (lv_room (Nat.le_of_ble_eq_true rfl)) dX3_expect_2 ⟨Nat.zero_le _, Nat.zero_le _⟩) (fun zv gn H locs hok2 hW => ?_)
  obtain ⟨hz2, hg2⟩ := hok2
  obtain ⟨z2, ezv2⟩ : ∃ q, q = zv := ⟨_, rfl⟩
  rw [← ezv2] at hz2 ⊢
  clear ezv2
  rw [hg2] at hW
  clear hg2
  obtain ⟨S2c, hS2c⟩ : ∃ q : Nat → Nat → Int, q = (ztk n T sg S).2 := ⟨_, rfl⟩
  rw [← hS2c] at hW
  have hS2c_1 : S2c 0 1 = S 0 1 := by rw [hS2c]; first | rfl | (simp [zsr, zsd, zset]; done) | (exact ztk_num n T sg S (by decide))
  have hS2c_2 : S2c 0 2 = S 0 2 := by rw [hS2c]; first | rfl | (simp [zsr, zsd, zset]; done) | (exact ztk_num n T sg S (by decide))
  have hS2c_3 : S2c 0 3 = S 0 3 := by rw [hS2c]; first | rfl | (simp [zsr, zsd, zset]; done) | (exact ztk_num n T sg S (by decide))
  have hS2c_4 : S2c 0 4 = S 0 4 := by rw [hS2c]; first | rfl | (simp [zsr, zsd, zset]; done) | (exact ztk_num n T sg S (by decide))
  have hb2 : z2 = 0 ∨ z2 = 1 := by rw [hz2]; exact ztk_01 n T sg S
  have htr2 := ztk_rng (T := T) (sg := sg) (show 0 ≤ S 0 0 ∧ S 0 0 ≤ n by omega) (by omega)
  rw [← hS2c] at htr2
  refine z_if_ne (tgt := 20) CX dX3_expect_5 (by decide) (by constructor <;> omega) (fun c_5 => ?_) (fun c_5 => ?_)
  ·
    refine lv_iconst (v := zI 1) hX0 hB0 dX3_expect_20 rfl ?_
    refine lv_goto (tgt := 25) hX0 hB0 dX3_expect_21 (by decide) ?_
    rw [← hQ]
    refine z_iret (z := 1) CX hW ?_ rfl dX3_expect_25
    have hq : zxp n T sg S = (1, S2c) := by unfold zxp; rw [← hz2, if_neg c_5, ← hS2c]
    rw [hq]
    exact ⟨rfl, rfl⟩
  ·
    refine lv_aload_n hX0 hB0 dX3_expect_8 rfl (lv_at hl 0 rfl) ?_
    refine lv_iconst (v := zI 1) hX0 hB0 dX3_expect_9 rfl ?_
    refine lv_aload_n hX0 hB0 dX3_expect_10 rfl (lv_at hl 0 rfl) ?_
    refine z_get (Cn := RX3) (T := TX3) (N := 13) CX hW (v := .int (zI (S2c 0 0))) zRO_0 rfl (fun w h => List.mem_cons_of_mem _ (List.mem_append_right _ h)) 12 (by decide) (List.mem_of_getElem? (i := 1) rfl) rfl rfl dX3_expect_11 ?_
    refine z_calli hW (va_runV (C := RX3) (As := [.int (zI 1), .int (zI (S2c 0 0))]) (rest := []) CX.fix (c_fail l (f := f) r n T S2c 1 (S2c 0 0) hT (by constructor <;> omega) (by constructor <;> omega)) (cwV 2 CX.fix.2.2.2.2 gX3_expect_X3_fail rfl rfl rfl (by decide +kernel) ⟨Nat.le_of_ble_eq_true rfl, Nat.le_of_ble_eq_true rfl⟩) (z_preV CX hW (r := (RX3, TX3, 13)) zRO_0 rfl) rfl rfl hl.1 rfl (lv_room (Nat.le_of_ble_eq_true rfl)) dX3_expect_14 ⟨Nat.zero_le _, Nat.zero_le _⟩) (fun zv gn H locs hok14 hW => ?_)
    obtain ⟨hz14, hg14⟩ := hok14
    obtain ⟨z14, ezv14⟩ : ∃ q, q = zv := ⟨_, rfl⟩
    rw [← ezv14] at hz14 ⊢
    clear ezv14
    rw [hg14] at hW
    clear hg14
    obtain ⟨S14c, hS14c⟩ : ∃ q : Nat → Nat → Int, q = zfl 1 (S2c 0 0) S2c := ⟨_, rfl⟩
    rw [← hS14c] at hW
    have hS14c_0 : S14c 0 0 = S2c 0 0 := by rw [hS14c]; first | rfl | (simp [zsr, zsd, zset]; done) | ((repeat rw [zset_ne _ _ (by omega)]); first | done | rfl | (simp [zsr, zsd, zset]; done)) | (unfold zsd; (repeat (first | rw [zset_self] | rw [zset_ne _ _ (by omega)])); first | done | rfl | (simp; done))
    have hS14c_1 : S14c 0 1 = 1 := by rw [hS14c]; first | rfl | (simp [zsr, zsd, zset]; done) | ((repeat rw [zset_ne _ _ (by omega)]); first | done | rfl | (simp [zsr, zsd, zset]; done)) | (unfold zsd; (repeat (first | rw [zset_self] | rw [zset_ne _ _ (by omega)])); first | done | rfl | (simp; done))
    have hS14c_2 : S14c 0 2 = S2c 0 0 := by rw [hS14c]; first | rfl | (simp [zsr, zsd, zset]; done) | ((repeat rw [zset_ne _ _ (by omega)]); first | done | rfl | (simp [zsr, zsd, zset]; done)) | (unfold zsd; (repeat (first | rw [zset_self] | rw [zset_ne _ _ (by omega)])); first | done | rfl | (simp; done))
    have hS14c_3 : S14c 0 3 = S2c 0 3 := by rw [hS14c]; first | rfl | (simp [zsr, zsd, zset]; done) | ((repeat rw [zset_ne _ _ (by omega)]); first | done | rfl | (simp [zsr, zsd, zset]; done)) | (unfold zsd; (repeat (first | rw [zset_self] | rw [zset_ne _ _ (by omega)])); first | done | rfl | (simp; done))
    have hS14c_4 : S14c 0 4 = S2c 0 4 := by rw [hS14c]; first | rfl | (simp [zsr, zsd, zset]; done) | ((repeat rw [zset_ne _ _ (by omega)]); first | done | rfl | (simp [zsr, zsd, zset]; done)) | (unfold zsd; (repeat (first | rw [zset_self] | rw [zset_ne _ _ (by omega)])); first | done | rfl | (simp; done))
    refine z_if_eq (tgt := 24) CX dX3_expect_17 (by decide) (by constructor <;> omega) (fun c_17 => ?_) (fun c_17 => ?_)
    ·
      refine lv_iconst (v := zI 0) hX0 hB0 dX3_expect_24 rfl ?_
      rw [← hQ]
      refine z_iret (z := 0) CX hW ?_ rfl dX3_expect_25
      have hq : zxp n T sg S = (0, S14c) := by unfold zxp; rw [← hz2, if_pos (by omega), ← hS2c, ← hS14c]
      rw [hq]
      exact ⟨rfl, rfl⟩
    ·
      exact absurd hz14 c_17
theorem zxp_01 (n : Int) (T : Nat → Int) (sg : Int) (S : Nat → Nat → Int) : (zxp n T sg S).1 = 0 ∨ (zxp n T sg S).1 = 1 := by
  unfold zxp
  split
  · exact Or.inl rfl
  · exact Or.inr rfl
theorem zfl_k {k a : Int} {S : Nat → Nat → Int} {j : Nat} (h : j ≠ 0) : zfl k a S j = S j := zsr_ne h
theorem zxp_k (n : Int) (T : Nat → Int) (sg : Int) (S : Nat → Nat → Int) {k : Nat} (h : k ≠ 0) : (zxp n T sg S).2 k = S k := by
  unfold zxp
  split
  · exact (zfl_k h).trans (ztk_k n T sg S h)
  · exact ztk_k n T sg S h
theorem zxp_num (n : Int) (T : Nat → Int) (sg : Int) (S : Nat → Nat → Int) {i : Nat} (h : i = 3 ∨ i = 4) : (zxp n T sg S).2 0 i = S 0 i := by
  have h0 : i ≠ 0 := by omega
  unfold zxp
  split
  · rcases h with e | e <;> subst e <;> exact ztk_num n T sg S h0
  · exact ztk_num n T sg S h0
theorem zxp_rng {n : Int} {T : Nat → Int} {sg : Int} {S : Nat → Nat → Int} (h : 0 ≤ S 0 0 ∧ S 0 0 ≤ n) (hs : 0 ≤ sg) : S 0 0 ≤ (zxp n T sg S).2 0 0 ∧ (zxp n T sg S).2 0 0 ≤ n := by
  unfold zxp
  split
  · exact ztk_rng h hs
  · exact ztk_rng h hs
set_option maxRecDepth 100000 in
set_option maxHeartbeats 4000000 in
/-- Reader.standsWord -/
theorem c_standsWord (l : Launch) {D : va_G} {cI cJ cZ cP cS cM : ClassId} {L : List Nat} {sz : Nat} {f : Nat → va_E} (r : Nat) (n : Int) (T : Nat → Int) (S : Nat → Nat → Int) (i : Nat) (hT : ztape n T) (hpl : 0 ≤ S 0 0 ∧ S 0 0 ≤ n) (hi : i < 4) : zMi l yX3_standsWord wsX3_standsWord 4 85 D (zT cI cJ cZ cP cS cM) L sz (zRO cI cP cZ r n T S f) [.ref r, .ref (D.2 98 i)] (fun z g => z = zwd n T i (S 0 0) ∧ g = zRO cI cP cZ r n T S f) := by
  refine zWalk.met (nL := 3) (ret := (some .boolean)) (cc := cX3_standsWord) (by decide) rfl (Nat.le_of_ble_eq_true rfl) ?_
  intro pg en st mi ag bl mt cd ls CX hW hl
  have CX : zC pg st mi ag mt cd cX3_standsWord 3 (some .boolean) RX3 wsX3_standsWord := CX
  generalize hQ : MQ bl _ ag st 0 0 _ = Q
  have hX0 := CX.1
  have hB0 := CX.2.1
  have hl : lv_has ls 3 [(0, .ref r), (1, .ref (D.2 98 i))] := hl
  obtain ⟨H, eH⟩ : ∃ H, H = st.heap := ⟨_, rfl⟩
  obtain ⟨locs, eL⟩ : ∃ L : List Loc, L = [] := ⟨_, rfl⟩
  have hW : zW D (zT cI cJ cZ cP cS cM) L (zQ L sz) st (zRO cI cP cZ r n T S f) st.heap H locs := by rw [eH, eL]; exact hW
  suffices hgo : W pg l en ({ frames := 4, cells := 0, slots := 0, locals := 85 } : Room) st mi ag bl mt cd H locs 0 0 Q (F0 mi 0 ls []) by rw [eH, eL] at hgo; exact hgo
  clear eH eL
  have hn0 := hT.1
  have hn1 := hT.2.1
  refine lv_aload_n hX0 hB0 dX3_standsWord_0 rfl (lv_at hl 0 rfl) ?_
  refine lv_aload_n hX0 hB0 dX3_standsWord_1 rfl (lv_at hl 0 rfl) ?_
  refine z_get (Cn := RX3) (T := TX3) (N := 13) CX hW (v := .int (zI (S 0 0))) zRO_0 rfl (fun w h => List.mem_cons_of_mem _ (List.mem_append_left _ (List.mem_append_right _ h))) 12 (by decide) (List.mem_of_getElem? (i := 1) rfl) rfl rfl dX3_standsWord_2 ?_
  refine z_calli hW (va_runV (C := RX3) (As := [.int (zI (S 0 0))]) (rest := []) CX.fix (c_wordEnd l (f := f) r n T S (S 0 0) hT (by constructor <;> omega)) (cwV 1 CX.fix.2.2.2.2 gX3_standsWord_X3_wordEnd rfl rfl rfl (by decide +kernel) ⟨Nat.le_of_ble_eq_true rfl, Nat.le_of_ble_eq_true rfl⟩) (z_preV CX hW (r := (RX3, TX3, 13)) zRO_0 rfl) rfl rfl hl.1 rfl (lv_room (Nat.le_of_ble_eq_true rfl)) dX3_standsWord_5 ⟨Nat.zero_le _, Nat.zero_le _⟩) (fun zv gn H locs hok5 hW => ?_)
  obtain ⟨ez, eg⟩ := hok5
  have eg : gn = zRO cI cP cZ r n T S f := eg
  rw [eg] at hW
  clear eg
  have ez : zv = zwe n T (S 0 0) := ez
  rw [ez]
  clear ez
  have hwe5 := zwe_rng (n := n) (T := T) (a := S 0 0) (by omega)
  refine lv_aload_n hX0 hB0 dX3_standsWord_8 rfl (lv_at hl 0 rfl) ?_
  refine z_get (Cn := RX3) (T := TX3) (N := 13) CX hW (v := .int (zI (S 0 0))) zRO_0 rfl (fun w h => List.mem_cons_of_mem _ (List.mem_append_left _ (List.mem_append_right _ h))) 12 (by decide) (List.mem_of_getElem? (i := 1) rfl) rfl rfl dX3_standsWord_9 ?_
  refine z_isub (z := (zwe n T (S 0 0)) - (S 0 0)) CX dX3_standsWord_12 rfl ?_
  refine lv_aload_n hX0 hB0 dX3_standsWord_13 rfl (lv_at hl 1 rfl) ?_
  refine z_calli hW (va_runV (C := RJ0) (As := []) (rest := [.int (zI ((zwe n T (S 0 0)) - (S 0 0)))]) CX.fix (c_length l (f := zRO cI cP cZ r n T S f) i (by omega)) (cwV 0 CX.fix.2.2.2.2 gX3_standsWord_J0_length_8abf5 rfl rfl rfl (by decide +kernel) ⟨Nat.le_of_ble_eq_true rfl, Nat.le_of_ble_eq_true rfl⟩) (z_preT CX hW i (by omega)) rfl rfl hl.1 rfl (lv_room (Nat.le_of_ble_eq_true rfl)) dX3_standsWord_14 ⟨Nat.zero_le _, Nat.zero_le _⟩) (fun zv gn H locs hok14 hW => ?_)
  obtain ⟨ez, eg⟩ := hok14
  have eg : gn = zRO cI cP cZ r n T S f := eg
  rw [eg] at hW
  clear eg
  have ez : zv = zlen i := ez
  rw [ez]
  clear ez
  have hln14 := zlen_rng i hi
  refine z_icmp_eq (tgt := 22) CX dX3_standsWord_17 (by decide) (by constructor <;> omega) (by constructor <;> omega) (fun c_17 => ?_) (fun c_17 => ?_)
  ·
    refine lv_iconst (v := zI 0) hX0 hB0 dX3_standsWord_22 rfl ?_
    refine lv_istore_n (lv' := [(2, .int (zI 0)), (0, .ref r), (1, .ref (D.2 98 i))]) hX0 hB0 dX3_standsWord_23 rfl hl (by decide) rfl (fun ls hl => ?_)
    have hL24 : ∀ (fu : Nat) (k : Int), (0 ≤ k ∧ k ≤ zlen i ∧ zwd n T i (S 0 0) = zwdF n T i (S 0 0) (zlen i - k).toNat k) → (zlen i - k).toNat < fu → ∀ (H : Heap) (locs : List Loc) (ls : Array Slot), zW D (zT cI cJ cZ cP cS cM) L (zQ L sz) st (zRO cI cP cZ r n T S f) st.heap H locs → lv_has ls 3 [(2, .int (zI k)), (0, .ref r), (1, .ref (D.2 98 i))] → W pg l en ({ frames := 4, cells := 0, slots := 0, locals := 85 } : Room) st mi ag bl mt cd H locs 0 0 Q (F0 mi 24 ls []) := by
      intro fu
      induction fu with
      | zero => intro k _ hfu; exact absurd hfu (Nat.not_lt_zero _)
      | succ fu ih24 =>
        intro k hinv24 hfu24 H locs ls hW hl
        obtain ⟨hk0, hk1, hkz⟩ := hinv24
        have hlr := zlen_rng i hi
        refine lv_iload_n hX0 hB0 dX3_standsWord_24 rfl (lv_at hl 0 rfl) ?_
        refine lv_aload_n hX0 hB0 dX3_standsWord_25 rfl (lv_at hl 2 rfl) ?_
        refine z_calli hW (va_runV (C := RJ0) (As := []) (rest := [.int (zI k)]) CX.fix (c_length l (f := zRO cI cP cZ r n T S f) i (by omega)) (cwV 0 CX.fix.2.2.2.2 gX3_standsWord_J0_length_8abf5 rfl rfl rfl (by decide +kernel) ⟨Nat.le_of_ble_eq_true rfl, Nat.le_of_ble_eq_true rfl⟩) (z_preT CX hW i (by omega)) rfl rfl hl.1 rfl (lv_room (Nat.le_of_ble_eq_true rfl)) dX3_standsWord_26 ⟨Nat.zero_le _, Nat.zero_le _⟩) (fun zv gn H locs hok26 hW => ?_)
        obtain ⟨ez, eg⟩ := hok26
        have eg : gn = zRO cI cP cZ r n T S f := eg
        rw [eg] at hW
        clear eg
        have ez : zv = zlen i := ez
        rw [ez]
        clear ez
        have hln26 := zlen_rng i hi
        refine z_icmp_ge (tgt := 58) CX dX3_standsWord_29 (by decide) (by constructor <;> omega) (by constructor <;> omega) (fun c_29 => ?_) (fun c_29 => ?_)
        ·
          refine lv_iconst (v := zI 1) hX0 hB0 dX3_standsWord_58 rfl ?_
          rw [← hQ]
          exact z_iret (z := 1) CX hW (by exact ⟨by rw [hkz, show (zlen i - k).toNat = 0 by omega]; rfl, rfl⟩) rfl dX3_standsWord_59
        ·
          refine lv_aload_n hX0 hB0 dX3_standsWord_32 rfl (lv_at hl 1 rfl) ?_
          refine lv_aload_n hX0 hB0 dX3_standsWord_33 rfl (lv_at hl 1 rfl) ?_
          refine z_get (Cn := RX3) (T := TX3) (N := 13) CX hW (v := .int (zI (S 0 0))) zRO_0 rfl (fun w h => List.mem_cons_of_mem _ (List.mem_append_left _ (List.mem_append_right _ h))) 12 (by decide) (List.mem_of_getElem? (i := 1) rfl) rfl rfl dX3_standsWord_34 ?_
          refine lv_iload_n hX0 hB0 dX3_standsWord_37 rfl (lv_at hl 0 rfl) ?_
          refine z_iadd (z := (S 0 0) + k) CX dX3_standsWord_38 rfl ?_
          refine z_calli hW (va_runV (C := RX3) (As := [.int (zI ((S 0 0) + k))]) (rest := []) CX.fix (c_byteAt l (f := f) r n T S ((S 0 0) + k) hT (by constructor <;> omega)) (cwV 1 CX.fix.2.2.2.2 gX3_standsWord_X3_byteAt rfl rfl rfl (by decide +kernel) ⟨Nat.le_of_ble_eq_true rfl, Nat.le_of_ble_eq_true rfl⟩) (z_preV CX hW (r := (RX3, TX3, 13)) zRO_0 rfl) rfl rfl hl.1 rfl (lv_room (Nat.le_of_ble_eq_true rfl)) dX3_standsWord_39 ⟨Nat.zero_le _, Nat.zero_le _⟩) (fun zv gn H locs hok39 hW => ?_)
          obtain ⟨ez, eg⟩ := hok39
          have eg : gn = zRO cI cP cZ r n T S f := eg
          rw [eg] at hW
          clear eg
          have ez : zv = zby n T ((S 0 0) + k) := ez
          rw [ez]
          clear ez
          have hby39 := zby_rng hT ((S 0 0) + k)
          refine lv_aload_n hX0 hB0 dX3_standsWord_42 rfl (lv_at hl 2 rfl) ?_
          refine lv_iload_n hX0 hB0 dX3_standsWord_43 rfl (lv_at hl 0 rfl) ?_
          refine z_calli hW (va_runV (C := RJ0) (As := [.int (zI k)]) (rest := [.int (zI (zby n T ((S 0 0) + k)))]) CX.fix (c_charAt l (f := zRO cI cP cZ r n T S f) i k hi (by omega)) (cwV 1 CX.fix.2.2.2.2 gX3_standsWord_J0_charAt_5068e rfl rfl rfl (by decide +kernel) ⟨Nat.le_of_ble_eq_true rfl, Nat.le_of_ble_eq_true rfl⟩) (z_preT CX hW i (by omega)) rfl rfl hl.1 rfl (lv_room (Nat.le_of_ble_eq_true rfl)) dX3_standsWord_44 ⟨Nat.zero_le _, Nat.zero_le _⟩) (fun zv gn H locs hok44 hW => ?_)
          obtain ⟨ez, eg⟩ := hok44
          have eg : gn = zRO cI cP cZ r n T S f := eg
          rw [eg] at hW
          clear eg
          have ez : zv = zchr i k.toNat := ez
          rw [ez]
          clear ez
          have hch44 := (zchr_ok i hi k.toNat (by omega)).2.2.2
          refine z_icmp_eq (tgt := 52) CX dX3_standsWord_47 (by decide) (by constructor <;> omega) (by constructor <;> omega) (fun c_47 => ?_) (fun c_47 => ?_)
          ·
            refine lv_iinc (v := zI (k + 1)) (lv' := [(2, .int (zI (k + 1))), (0, .ref r), (1, .ref (D.2 98 i))]) hX0 hB0 dX3_standsWord_52 hl (k := 0) rfl (zI_add _ _) (by decide) rfl (fun ls hl => ?_)
            refine lv_goto (tgt := 24) hX0 hB0 dX3_standsWord_55 (by decide) ?_
            exact ih24 (k + 1) ⟨by omega, by omega, by rw [hkz, zwdF_s n T i _ (by omega), if_pos c_47]⟩ (by omega) H locs ls hW (lv_sub hl [0, 1, 2] rfl)
          ·
            refine lv_iconst (v := zI 0) hX0 hB0 dX3_standsWord_50 rfl ?_
            rw [← hQ]
            exact z_iret (z := 0) CX hW (by exact ⟨by rw [hkz, zwdF_s n T i _ (by omega), if_neg c_47], rfl⟩) rfl dX3_standsWord_51
    exact hL24 _ 0 ⟨by omega, by omega, by unfold zwd; rw [if_pos c_17]⟩ (Nat.lt_succ_self _) H locs ls hW (lv_sub hl [0, 1, 2] rfl)
  ·
    refine lv_iconst (v := zI 0) hX0 hB0 dX3_standsWord_20 rfl ?_
    rw [← hQ]
    exact z_iret (z := 0) CX hW (by exact ⟨by unfold zwd; rw [if_neg c_17], rfl⟩) rfl dX3_standsWord_21
set_option maxRecDepth 100000 in
set_option maxHeartbeats 4000000 in
/-- Reader.readNumber -/
theorem c_readNumber (l : Launch) {D : va_G} {cI cJ cZ cP cS cM : ClassId} {L : List Nat} {sz : Nat} {f : Nat → va_E} (r : Nat) (n : Int) (T : Nat → Int) (S : Nat → Nat → Int) (hT : ztape n T) (hpl : 0 ≤ S 0 0 ∧ S 0 0 ≤ n) : zMi l yX3_readNumber wsX3_readNumber 1 25 D (zT cI cJ cZ cP cS cM) L sz (zRO cI cP cZ r n T S f) [.ref r] (fun z g => z = (zrn n T S).1 ∧ g = zRO cI cP cZ r n T (zrn n T S).2 f) := by
  refine zWalk.met (nL := 3) (ret := (some .int)) (cc := cX3_readNumber) (by decide) rfl (Nat.le_of_ble_eq_true rfl) ?_
  intro pg en st mi ag bl mt cd ls CX hW hl
  have CX : zC pg st mi ag mt cd cX3_readNumber 3 (some .int) RX3 wsX3_readNumber := CX
  generalize hQ : MQ bl _ ag st 0 0 _ = Q
  have hX0 := CX.1
  have hB0 := CX.2.1
  have hl : lv_has ls 3 [(0, .ref r)] := hl
  obtain ⟨H, eH⟩ : ∃ H, H = st.heap := ⟨_, rfl⟩
  obtain ⟨locs, eL⟩ : ∃ L : List Loc, L = [] := ⟨_, rfl⟩
  have hW : zW D (zT cI cJ cZ cP cS cM) L (zQ L sz) st (zRO cI cP cZ r n T S f) st.heap H locs := by rw [eH, eL]; exact hW
  suffices hgo : W pg l en ({ frames := 1, cells := 0, slots := 0, locals := 25 } : Room) st mi ag bl mt cd H locs 0 0 Q (F0 mi 0 ls []) by rw [eH, eL] at hgo; exact hgo
  clear eH eL
  have hn0 := hT.1
  have hn1 := hT.2.1
  refine lv_lconst (v := zL 0) hX0 hB0 dX3_readNumber_0 rfl ?_
  refine lv_lstore_n (lv' := [(1, .long (zL 0)), (0, .ref r)]) hX0 hB0 dX3_readNumber_1 rfl hl (by decide) rfl (fun ls hl => ?_)
  have hL2 : ∀ (fu : Nat) (Sa : Nat → Nat → Int) (v : Int), (Sa = zsr S (Sa 0 0) (S 0 1) (S 0 2) ∧ S 0 0 ≤ Sa 0 0 ∧ Sa 0 0 ≤ n ∧ 0 ≤ v ∧ v ≤ 2147483648 ∧ zrnA n T (S 0 0) = zrnF n T (n - Sa 0 0).toNat (Sa 0 0) v) → (n - Sa 0 0).toNat < fu → ∀ (H : Heap) (locs : List Loc) (ls : Array Slot), zW D (zT cI cJ cZ cP cS cM) L (zQ L sz) st (zRO cI cP cZ r n T Sa f) st.heap H locs → lv_has ls 3 [(1, .long (zL v)), (0, .ref r)] → W pg l en ({ frames := 1, cells := 0, slots := 0, locals := 25 } : Room) st mi ag bl mt cd H locs 0 0 Q (F0 mi 2 ls []) := by
    intro fu
    induction fu with
    | zero => intro Sa v _ hfu; exact absurd hfu (Nat.not_lt_zero _)
    | succ fu ih2 =>
      intro Sa v hinv2 hfu2 H locs ls hW hl
      obtain ⟨hSa, hb0, hb1, hv0, hv1, hbz⟩ := hinv2
      refine lv_aload_n hX0 hB0 dX3_readNumber_2 rfl (lv_at hl 1 rfl) ?_
      refine z_get (Cn := RX3) (T := TX3) (N := 13) CX hW (v := .int (zI (Sa 0 0))) zRO_0 rfl (fun w h => List.mem_cons_of_mem _ (List.mem_append_right _ h)) 12 (by decide) (List.mem_of_getElem? (i := 1) rfl) rfl rfl dX3_readNumber_3 ?_
      refine lv_aload_n hX0 hB0 dX3_readNumber_6 rfl (lv_at hl 1 rfl) ?_
      refine z_get (Cn := RX3) (T := TX3) (N := 13) CX hW (v := .int (zI n)) zRO_0 rfl (fun w h => List.mem_cons_of_mem _ (List.mem_append_right _ h)) 0 (by decide) (List.mem_of_getElem? (i := 2) rfl) rfl rfl dX3_readNumber_7 ?_
      refine z_icmp_ge (tgt := 66) CX dX3_readNumber_10 (by decide) (by constructor <;> omega) (by constructor <;> omega) (fun c_10 => ?_) (fun c_10 => ?_)
      ·
        have hfin : zrnA n T (S 0 0) = (Sa 0 0, v) := by first | rw [hbz, show (n - Sa 0 0).toNat = 0 by omega]; rfl | rw [hbz, zrnF_s T v (by omega), if_pos c_24]
        refine lv_lload_n hX0 hB0 dX3_readNumber_66 rfl (lv_at hl 0 rfl) ?_
        refine lv_ldc2 (v := zL 2147483647) hX0 hB0 CX.2.2.2.1 (CX.at (List.mem_of_getElem? (i := 10) rfl)) dX3_readNumber_67 ?_
        refine z_lcmp CX dX3_readNumber_70 (by constructor <;> omega) (by constructor <;> omega) ?_
        have hcm70 := zcmp_rng v 2147483647
        refine z_if_le (tgt := 78) CX dX3_readNumber_71 (by decide) (by constructor <;> omega) (fun c_71 => ?_) (fun c_71 => ?_)
        ·
          simp only [zcmp_lt, zcmp_le, zcmp_gt, zcmp_ge, zcmp_eq] at c_71
          refine lv_lload_n hX0 hB0 dX3_readNumber_78 rfl (lv_at hl 0 rfl) ?_
          refine z_l2i CX dX3_readNumber_79 ?_
          rw [← hQ]
          refine z_iret (z := v) CX hW ?_ rfl dX3_readNumber_80
          have hq : zrn n T S = (v, Sa) := by unfold zrn zrnV; rw [hfin, if_neg (by first | exact c_71 | omega)]; show (_, zsr S (Sa 0 0) (S 0 1) (S 0 2)) = _; rw [← hSa]
          rw [hq]
          exact ⟨rfl, rfl⟩
        ·
          simp only [zcmp_lt, zcmp_le, zcmp_gt, zcmp_ge, zcmp_eq] at c_71
          refine lv_iconst (v := zI (-1)) hX0 hB0 dX3_readNumber_74 rfl ?_
          refine lv_goto (tgt := 80) hX0 hB0 dX3_readNumber_75 (by decide) ?_
          rw [← hQ]
          refine z_iret (z := -1) CX hW ?_ rfl dX3_readNumber_80
          have hq : zrn n T S = (-1, Sa) := by unfold zrn zrnV; rw [hfin, if_pos (by first | exact c_71 | omega)]; show (_, zsr S (Sa 0 0) (S 0 1) (S 0 2)) = _; rw [← hSa]
          rw [hq]
          exact ⟨rfl, rfl⟩
      ·
        refine lv_aload_n hX0 hB0 dX3_readNumber_13 rfl (lv_at hl 1 rfl) ?_
        refine lv_aload_n hX0 hB0 dX3_readNumber_14 rfl (lv_at hl 1 rfl) ?_
        refine z_get (Cn := RX3) (T := TX3) (N := 13) CX hW (v := .int (zI (Sa 0 0))) zRO_0 rfl (fun w h => List.mem_cons_of_mem _ (List.mem_append_right _ h)) 12 (by decide) (List.mem_of_getElem? (i := 1) rfl) rfl rfl dX3_readNumber_15 ?_
        refine z_calli hW (va_runV (C := RX3) (As := [.int (zI (Sa 0 0))]) (rest := []) CX.fix (c_byteAt l (f := f) r n T Sa (Sa 0 0) hT (by constructor <;> omega)) (cwV 1 CX.fix.2.2.2.2 gX3_readNumber_X3_byteAt rfl rfl rfl (by decide +kernel) ⟨Nat.le_of_ble_eq_true rfl, Nat.le_of_ble_eq_true rfl⟩) (z_preV CX hW (r := (RX3, TX3, 13)) zRO_0 rfl) rfl rfl hl.1 rfl (lv_room (Nat.le_of_ble_eq_true rfl)) dX3_readNumber_18 ⟨Nat.zero_le _, Nat.zero_le _⟩) (fun zv gn H locs hok18 hW => ?_)
        obtain ⟨ez, eg⟩ := hok18
        have eg : gn = zRO cI cP cZ r n T Sa f := eg
        rw [eg] at hW
        clear eg
        have ez : zv = zby n T (Sa 0 0) := ez
        rw [ez]
        clear ez
        have hby18 := zby_rng hT (Sa 0 0)
        refine z_calli hW (va_runS (As := [.int (zI (zby n T (Sa 0 0)))]) (rest := []) CX.fix (c_isDigit l (f := zRO cI cP cZ r n T Sa f) (zby n T (Sa 0 0)) (by constructor <;> omega)) (va_cwS 1 CX.fix.2.2.2.2 gX3_readNumber_X3_isDigit rfl rfl rfl (by decide +kernel) ⟨Nat.le_of_ble_eq_true rfl, Nat.le_of_ble_eq_true rfl⟩) (z_preS CX hW) rfl rfl hl.1 rfl (lv_room (Nat.le_of_ble_eq_true rfl)) dX3_readNumber_21 ⟨Nat.zero_le _, Nat.zero_le _⟩) (fun zv gn H locs hok21 hW => ?_)
        obtain ⟨ez, eg⟩ := hok21
        have eg : gn = zRO cI cP cZ r n T Sa f := eg
        rw [eg] at hW
        clear eg
        have ez : zv = zdig (zby n T (Sa 0 0)) := ez
        rw [ez]
        clear ez
        have hdg21 := zdig_01 (zby n T (Sa 0 0))
        refine z_if_eq (tgt := 66) CX dX3_readNumber_24 (by decide) (by constructor <;> omega) (fun c_24 => ?_) (fun c_24 => ?_)
        ·
          have hfin : zrnA n T (S 0 0) = (Sa 0 0, v) := by first | rw [hbz, show (n - Sa 0 0).toNat = 0 by omega]; rfl | rw [hbz, zrnF_s T v (by omega), if_pos c_24]
          refine lv_lload_n hX0 hB0 dX3_readNumber_66 rfl (lv_at hl 0 rfl) ?_
          refine lv_ldc2 (v := zL 2147483647) hX0 hB0 CX.2.2.2.1 (CX.at (List.mem_of_getElem? (i := 10) rfl)) dX3_readNumber_67 ?_
          refine z_lcmp CX dX3_readNumber_70 (by constructor <;> omega) (by constructor <;> omega) ?_
          have hcm70 := zcmp_rng v 2147483647
          refine z_if_le (tgt := 78) CX dX3_readNumber_71 (by decide) (by constructor <;> omega) (fun c_71 => ?_) (fun c_71 => ?_)
          ·
            simp only [zcmp_lt, zcmp_le, zcmp_gt, zcmp_ge, zcmp_eq] at c_71
            refine lv_lload_n hX0 hB0 dX3_readNumber_78 rfl (lv_at hl 0 rfl) ?_
            refine z_l2i CX dX3_readNumber_79 ?_
            rw [← hQ]
            refine z_iret (z := v) CX hW ?_ rfl dX3_readNumber_80
            have hq : zrn n T S = (v, Sa) := by unfold zrn zrnV; rw [hfin, if_neg (by first | exact c_71 | omega)]; show (_, zsr S (Sa 0 0) (S 0 1) (S 0 2)) = _; rw [← hSa]
            rw [hq]
            exact ⟨rfl, rfl⟩
          ·
            simp only [zcmp_lt, zcmp_le, zcmp_gt, zcmp_ge, zcmp_eq] at c_71
            refine lv_iconst (v := zI (-1)) hX0 hB0 dX3_readNumber_74 rfl ?_
            refine lv_goto (tgt := 80) hX0 hB0 dX3_readNumber_75 (by decide) ?_
            rw [← hQ]
            refine z_iret (z := -1) CX hW ?_ rfl dX3_readNumber_80
            have hq : zrn n T S = (-1, Sa) := by unfold zrn zrnV; rw [hfin, if_pos (by first | exact c_71 | omega)]; show (_, zsr S (Sa 0 0) (S 0 1) (S 0 2)) = _; rw [← hSa]
            rw [hq]
            exact ⟨rfl, rfl⟩
        ·
          have hdd := zdig_1 c_24
          refine lv_lload_n hX0 hB0 dX3_readNumber_27 rfl (lv_at hl 0 rfl) ?_
          refine lv_ldc2 (v := zL 10) hX0 hB0 CX.2.2.2.1 (CX.at (List.mem_of_getElem? (i := 3) rfl)) dX3_readNumber_28 ?_
          refine z_lmul (z := v * 10) CX dX3_readNumber_31 rfl ?_
          refine lv_aload_n hX0 hB0 dX3_readNumber_32 rfl (lv_at hl 1 rfl) ?_
          refine lv_aload_n hX0 hB0 dX3_readNumber_33 rfl (lv_at hl 1 rfl) ?_
          refine z_get (Cn := RX3) (T := TX3) (N := 13) CX hW (v := .int (zI (Sa 0 0))) zRO_0 rfl (fun w h => List.mem_cons_of_mem _ (List.mem_append_right _ h)) 12 (by decide) (List.mem_of_getElem? (i := 1) rfl) rfl rfl dX3_readNumber_34 ?_
          refine z_calli hW (va_runV (C := RX3) (As := [.int (zI (Sa 0 0))]) (rest := [.long (zL (v * 10))]) CX.fix (c_byteAt l (f := f) r n T Sa (Sa 0 0) hT (by constructor <;> omega)) (cwV 1 CX.fix.2.2.2.2 gX3_readNumber_X3_byteAt rfl rfl rfl (by decide +kernel) ⟨Nat.le_of_ble_eq_true rfl, Nat.le_of_ble_eq_true rfl⟩) (z_preV CX hW (r := (RX3, TX3, 13)) zRO_0 rfl) rfl rfl hl.1 rfl (lv_room (Nat.le_of_ble_eq_true rfl)) dX3_readNumber_37 ⟨Nat.zero_le _, Nat.zero_le _⟩) (fun zv gn H locs hok37 hW => ?_)
          obtain ⟨ez, eg⟩ := hok37
          have eg : gn = zRO cI cP cZ r n T Sa f := eg
          rw [eg] at hW
          clear eg
          have ez : zv = zby n T (Sa 0 0) := ez
          rw [ez]
          clear ez
          have hby37 := zby_rng hT (Sa 0 0)
          refine z_i2l CX dX3_readNumber_40 (by constructor <;> omega) ?_
          refine z_ladd (z := (v * 10) + (zby n T (Sa 0 0))) CX dX3_readNumber_41 rfl ?_
          refine lv_ldc2 (v := zL 48) hX0 hB0 CX.2.2.2.1 (CX.at (List.mem_of_getElem? (i := 4) rfl)) dX3_readNumber_42 ?_
          refine z_lsub (z := ((v * 10) + (zby n T (Sa 0 0))) - 48) CX dX3_readNumber_45 rfl ?_
          refine lv_ldc2 (v := zL 2147483648) hX0 hB0 CX.2.2.2.1 (CX.at (List.mem_of_getElem? (i := 5) rfl)) dX3_readNumber_46 ?_
          refine z_mminL (z := min (((v * 10) + (zby n T (Sa 0 0))) - 48) 2147483648) CX hl.1 (CX.at (List.mem_of_getElem? (i := 6) rfl)) (CX.at (List.mem_of_getElem? (i := 7) rfl)) (CX.at (List.mem_of_getElem? (i := 8) rfl)) (CX.at (List.mem_of_getElem? (i := 9) rfl)) (Nat.le_of_ble_eq_true rfl) (Nat.le_of_ble_eq_true rfl) (Nat.zero_le _) (Nat.zero_le _) (by constructor <;> omega) (by constructor <;> omega) rfl dX3_readNumber_49 ?_
          refine lv_lstore_n (lv' := [(1, .long (zL (min (((v * 10) + (zby n T (Sa 0 0))) - 48) 2147483648))), (0, .ref r)]) hX0 hB0 dX3_readNumber_52 rfl hl (by decide) rfl (fun ls hl => ?_)
          refine lv_aload_n hX0 hB0 dX3_readNumber_53 rfl (lv_at hl 1 rfl) ?_
          refine lv_dup hX0 hB0 dX3_readNumber_54 rfl ?_
          refine z_get (Cn := RX3) (T := TX3) (N := 13) CX hW (v := .int (zI (Sa 0 0))) zRO_0 rfl (fun w h => List.mem_cons_of_mem _ (List.mem_append_right _ h)) 12 (by decide) (List.mem_of_getElem? (i := 1) rfl) rfl rfl dX3_readNumber_55 ?_
          refine lv_iconst (v := zI 1) hX0 hB0 dX3_readNumber_58 rfl ?_
          refine z_iadd (z := (Sa 0 0) + 1) CX dX3_readNumber_59 rfl ?_
          refine z_put (Cn := RX3) (T := TX3) (N := 13) CX hW (v := .int (zI ((Sa 0 0) + 1))) zRO_0 rfl (fun w h => List.mem_cons_of_mem _ (List.mem_append_right _ h)) tyX3 tyX3_ok nmX3 12 (by decide) (List.mem_of_getElem? (i := 1) rfl) rfl rfl rfl rfl (Nat.le_of_ble_eq_true rfl) (g := va_up (zRO cI cP cZ r n T Sa f) r (.inr (3, [.int (zI n), .int (zI (Sa 0 1)), .int (zI (Sa 0 2)), .ref (r + 1), .ref (r + 16), .ref (r + 17), .ref (r + 18), .ref (r + 19), .ref (r + 20), .ref (r + 21), .ref (r + 23), .ref (r + 25), .int (zI ((Sa 0 0) + 1))]))) rfl dX3_readNumber_60 (fun H locs hW => ?_)
          refine lv_goto (tgt := 2) hX0 hB0 dX3_readNumber_63 (by decide) ?_
          have hW := hW
          rw [zRO_wr] at hW
          obtain ⟨S1, hS1⟩ : ∃ q : Nat → Nat → Int, q = zsr Sa ((Sa 0 0) + 1) (Sa 0 1) (Sa 0 2) := ⟨_, rfl⟩
          rw [← hS1] at hW
          have hS1_0 : S1 0 0 = (Sa 0 0) + 1 := by rw [hS1]; first | rfl | (simp [zsr, zsd, zset]; done) | ((repeat rw [zset_ne _ _ (by omega)]); first | done | rfl | (simp [zsr, zsd, zset]; done)) | (unfold zsd; (repeat (first | rw [zset_self] | rw [zset_ne _ _ (by omega)])); first | done | rfl | (simp; done))
          have hS1_1 : S1 0 1 = Sa 0 1 := by rw [hS1]; first | rfl | (simp [zsr, zsd, zset]; done) | ((repeat rw [zset_ne _ _ (by omega)]); first | done | rfl | (simp [zsr, zsd, zset]; done)) | (unfold zsd; (repeat (first | rw [zset_self] | rw [zset_ne _ _ (by omega)])); first | done | rfl | (simp; done))
          have hS1_2 : S1 0 2 = Sa 0 2 := by rw [hS1]; first | rfl | (simp [zsr, zsd, zset]; done) | ((repeat rw [zset_ne _ _ (by omega)]); first | done | rfl | (simp [zsr, zsd, zset]; done)) | (unfold zsd; (repeat (first | rw [zset_self] | rw [zset_ne _ _ (by omega)])); first | done | rfl | (simp; done))
          have hS1_3 : S1 0 3 = Sa 0 3 := by rw [hS1]; first | rfl | (simp [zsr, zsd, zset]; done) | ((repeat rw [zset_ne _ _ (by omega)]); first | done | rfl | (simp [zsr, zsd, zset]; done)) | (unfold zsd; (repeat (first | rw [zset_self] | rw [zset_ne _ _ (by omega)])); first | done | rfl | (simp; done))
          have hS1_4 : S1 0 4 = Sa 0 4 := by rw [hS1]; first | rfl | (simp [zsr, zsd, zset]; done) | ((repeat rw [zset_ne _ _ (by omega)]); first | done | rfl | (simp [zsr, zsd, zset]; done)) | (unfold zsd; (repeat (first | rw [zset_self] | rw [zset_ne _ _ (by omega)])); first | done | rfl | (simp; done))
          skip
          exact ih2 S1 (min (((v * 10) + (zby n T (Sa 0 0))) - 48) 2147483648) ⟨by rw [hS1_0, hS1]; exact zsr_step hSa, by omega, by omega, by omega, by omega, by rw [hbz, zrnF_s T v (by omega), if_neg c_24, hS1_0]⟩ (by omega) H locs ls hW (lv_sub hl [0, 1] rfl)
  exact hL2 _ S 0 ⟨(zsr_id S).symm, by omega, by omega, by omega, by omega, rfl⟩ (Nat.lt_succ_self _) H locs ls hW (lv_sub hl [0, 1] rfl)
theorem zrn_k (n : Int) (T : Nat → Int) (S : Nat → Nat → Int) {k : Nat} (h : k ≠ 0) : (zrn n T S).2 k = S k := zsr_ne h
theorem zrn_num (n : Int) (T : Nat → Int) (S : Nat → Nat → Int) {i : Nat} (h : i = 1 ∨ i = 2 ∨ i = 3 ∨ i = 4) : (zrn n T S).2 0 i = S 0 i := by
  rcases h with e | e | e | e <;> subst e <;> rfl
/-- whether a product would have too great a DEGREE -/
def zmuc (c d : Nat → Int) : Prop := 0 ≤ ztop c ∧ 0 ≤ ztop d ∧ 4 < ztop c + ztop d
noncomputable def zmuP (c d : Nat → Int) (p : Int) : Nat → Int := @ite _ (zmuc c d) (Classical.propDecidable _) c (zprod c d p)
noncomputable def zmuS (c d sc : Nat → Int) (p : Int) : Nat → Int := @ite _ (zmuc c d) (Classical.propDecidable _) sc (zprod c d p)
theorem zmuP_t {c d : Nat → Int} {p : Int} (h : zmuc c d) : zmuP c d p = c := if_pos h
theorem zmuP_f {c d : Nat → Int} {p : Int} (h : ¬ zmuc c d) : zmuP c d p = zprod c d p := if_neg h
theorem zmuS_t {c d sc : Nat → Int} {p : Int} (h : zmuc c d) : zmuS c d sc p = sc := if_pos h
theorem zmuS_f {c d sc : Nat → Int} {p : Int} (h : ¬ zmuc c d) : zmuS c d sc p = zprod c d p := if_neg h
theorem zmuP_can {c d : Nat → Int} {p : Int} (hp : 0 < p) (h : zcan p c) : zcan p (zmuP c d p) := by
  by_cases e : zmuc c d
  · rw [zmuP_t e]
    exact h
  · rw [zmuP_f e]
    exact zprod_can hp
set_option maxRecDepth 100000 in
set_option maxHeartbeats 4000000 in
/-- Reader.multiply -/
theorem c_multiply (l : Launch) {D : va_G} {cI cJ cZ cP cS cM : ClassId} {L : List Nat} {sz : Nat} {f : Nat → va_E} (r : Nat) (i0 i1 i2 i12 p cn : Int) (q1 q2 : Nat) (sc : Nat → Int) (h0 h : Nat) (c : Nat → Int) (h1 ha : Nat) (d : Nat → Int) (hr0 : f r = .inr (3, [.int (zI i0), .int (zI i1), .int (zI i2), .ref (r + 1), .ref (r + 16), .ref (r + 17), .ref (r + 18), .ref (r + 19), .ref (r + 20), .ref (r + 21), .ref (r + 23), .ref (r + 25), .int (zI i12)])) (hr1 : f (r + 1) = .inr (7, [.int (zI p), .int (zI cn), .ref q1, .ref q2])) (hr2 : f (r + 25) = .inr (2, [.ref (r + 26)])) (hr3 : f (r + 26) = zA cI 25 sc) (hf0 : f h0 = .inr (2, [.ref h])) (hf1 : f h = zA cI 25 c) (hg0 : f h1 = .inr (2, [.ref ha])) (hg1 : f ha = zA cI 25 d) (hc : zcan p c) (hd : zcan p d) (hp : 2 ≤ p ∧ p ≤ 31) (hd1 : h ≠ r ∧ h ≠ r + 1 ∧ h ≠ r + 25 ∧ h ≠ r + 26 ∧ ha ≠ r + 26 ∧ h0 ≠ r + 26 ∧ h1 ≠ r + 26 ∧ h ≠ ha ∧ h ≠ h1 ∧ h ≠ h0) : zMi l yX3_multiply wsX3_multiply 2 55 D (zT cI cJ cZ cP cS cM) L sz f [.ref r, .ref h0, .ref h1] (fun z g => (zmuc c d → z = 0) ∧ (¬ zmuc c d → z = 1) ∧ g = va_up (va_up f (r + 26) (zA cI 25 (zmuS c d sc p))) h (zA cI 25 (zmuP c d p))) := by
  refine zWalk.met (nL := 5) (ret := (some .boolean)) (cc := cX3_multiply) (by decide) rfl (Nat.le_of_ble_eq_true rfl) ?_
  intro pg en st mi ag bl mt cd ls CX hW hl
  have CX : zC pg st mi ag mt cd cX3_multiply 5 (some .boolean) RX3 wsX3_multiply := CX
  generalize hQ : MQ bl _ ag st 0 0 _ = Q
  have hX0 := CX.1
  have hB0 := CX.2.1
  have hl : lv_has ls 5 [(0, .ref r), (1, .ref h0), (2, .ref h1)] := hl
  obtain ⟨H, eH⟩ : ∃ H, H = st.heap := ⟨_, rfl⟩
  obtain ⟨locs, eL⟩ : ∃ L : List Loc, L = [] := ⟨_, rfl⟩
  have hW : zW D (zT cI cJ cZ cP cS cM) L (zQ L sz) st f st.heap H locs := by rw [eH, eL]; exact hW
  suffices hgo : W pg l en ({ frames := 2, cells := 0, slots := 0, locals := 55 } : Room) st mi ag bl mt cd H locs 0 0 Q (F0 mi 0 ls []) by rw [eH, eL] at hgo; exact hgo
  clear eH eL
  refine lv_aload_n hX0 hB0 dX3_multiply_0 rfl (lv_at hl 1 rfl) ?_
  refine z_calli hW (va_runV (C := RX2) (As := []) (rest := []) CX.fix (c_top l (f := f) h0 h c hf0 hf1 (by exact zcan_le hc (by omega))) (cwV 0 CX.fix.2.2.2.2 gX3_multiply_X2_top rfl rfl rfl (by decide +kernel) ⟨Nat.le_of_ble_eq_true rfl, Nat.le_of_ble_eq_true rfl⟩) (z_preV CX hW (r := (RX2, TX2, 1)) hf0 rfl) rfl rfl hl.1 rfl (lv_room (Nat.le_of_ble_eq_true rfl)) dX3_multiply_1 ⟨Nat.zero_le _, Nat.zero_le _⟩) (fun zv gn H locs hok1 hW => ?_)
  obtain ⟨ez, eg⟩ := hok1
  have eg : gn = f := eg
  rw [eg] at hW
  clear eg
  have ez : zv = ztop c := ez
  rw [ez]
  clear ez
  have htp1 := ztop_rng c
  refine lv_istore_n (lv' := [(3, .int (zI (ztop c))), (0, .ref r), (1, .ref h0), (2, .ref h1)]) hX0 hB0 dX3_multiply_4 rfl hl (by decide) rfl (fun ls hl => ?_)
  refine lv_aload_n hX0 hB0 dX3_multiply_5 rfl (lv_at hl 3 rfl) ?_
  refine z_calli hW (va_runV (C := RX2) (As := []) (rest := []) CX.fix (c_top l (f := f) h1 ha d hg0 hg1 (by exact zcan_le hd (by omega))) (cwV 0 CX.fix.2.2.2.2 gX3_multiply_X2_top rfl rfl rfl (by decide +kernel) ⟨Nat.le_of_ble_eq_true rfl, Nat.le_of_ble_eq_true rfl⟩) (z_preV CX hW (r := (RX2, TX2, 1)) hg0 rfl) rfl rfl hl.1 rfl (lv_room (Nat.le_of_ble_eq_true rfl)) dX3_multiply_6 ⟨Nat.zero_le _, Nat.zero_le _⟩) (fun zv gn H locs hok6 hW => ?_)
  obtain ⟨ez, eg⟩ := hok6
  have eg : gn = f := eg
  rw [eg] at hW
  clear eg
  have ez : zv = ztop d := ez
  rw [ez]
  clear ez
  have htp6 := ztop_rng d
  refine lv_istore (lv' := [(4, .int (zI (ztop d))), (3, .int (zI (ztop c))), (0, .ref r), (1, .ref h0), (2, .ref h1)]) hX0 hB0 dX3_multiply_9 hl (by decide) rfl (fun ls hl => ?_)
  refine lv_iload_n hX0 hB0 dX3_multiply_11 rfl (lv_at hl 1 rfl) ?_
  refine z_if_lt (tgt := 30) CX dX3_multiply_12 (by decide) (by constructor <;> omega) (fun c_12 => ?_) (fun c_12 => ?_)
  ·
    refine lv_aload_n hX0 hB0 dX3_multiply_30 rfl (lv_at hl 2 rfl) ?_
    refine z_get (Cn := RX3) (T := TX3) (N := 13) CX hW (v := .ref (r + 25)) hr0 rfl (fun w h => List.mem_cons_of_mem _ (List.mem_append_left _ (List.mem_append_left _ (List.mem_append_right _ h)))) 11 (by decide) (List.mem_of_getElem? (i := 1) rfl) rfl rfl dX3_multiply_31 ?_
    refine lv_aload_n hX0 hB0 dX3_multiply_34 rfl (lv_at hl 3 rfl) ?_
    refine lv_aload_n hX0 hB0 dX3_multiply_35 rfl (lv_at hl 4 rfl) ?_
    refine lv_aload_n hX0 hB0 dX3_multiply_36 rfl (lv_at hl 2 rfl) ?_
    refine z_get (Cn := RX3) (T := TX3) (N := 13) CX hW (v := .ref (r + 1)) hr0 rfl (fun w h => List.mem_cons_of_mem _ (List.mem_append_left _ (List.mem_append_left _ (List.mem_append_right _ h)))) 3 (by decide) (List.mem_of_getElem? (i := 2) rfl) rfl rfl dX3_multiply_37 ?_
    refine z_get (Cn := RX7) (T := TX7) (N := 4) CX hW (v := .int (zI p)) hr1 rfl (fun w h => List.mem_cons_of_mem _ (List.mem_append_left _ (List.mem_append_right _ h))) 0 (by decide) (List.mem_of_getElem? (i := 3) rfl) rfl rfl dX3_multiply_40 ?_
    refine z_callv hW (va_runV (C := RX2) (As := [.ref h0, .ref h1, .int (zI p)]) (rest := []) CX.fix (c_product l (f := f) (r + 25) (r + 26) sc h0 h c h1 ha d p hr2 hr3 hf0 hf1 hg0 hg1 (by omega) (by omega) (by first | assumption | exact zcan_le (by assumption) (by omega)) (by first | assumption | exact zcan_le (by assumption) (by omega)) (by omega)) (cwV 3 CX.fix.2.2.2.2 gX3_multiply_X2_product rfl rfl rfl (by decide +kernel) ⟨Nat.le_of_ble_eq_true rfl, Nat.le_of_ble_eq_true rfl⟩) (z_preV CX hW (r := (RX2, TX2, 1)) hr2 rfl) rfl rfl hl.1 rfl (lv_room (Nat.le_of_ble_eq_true rfl)) dX3_multiply_43 ⟨Nat.zero_le _, Nat.zero_le _⟩) (fun gn H locs hok43 hW => ?_)
    have eg : gn = va_up f (r + 26) (zA cI 25 (zprod c d p)) := hok43
    rw [eg] at hW
    clear eg
    refine lv_aload_n hX0 hB0 dX3_multiply_46 rfl (lv_at hl 3 rfl) ?_
    refine lv_aload_n hX0 hB0 dX3_multiply_47 rfl (lv_at hl 2 rfl) ?_
    refine z_get (Cn := RX3) (T := TX3) (N := 13) CX hW (v := .ref (r + 25)) ((va_up_ne _ _ (by omega)).trans hr0) rfl (fun w h => List.mem_cons_of_mem _ (List.mem_append_left _ (List.mem_append_left _ (List.mem_append_right _ h)))) 11 (by decide) (List.mem_of_getElem? (i := 1) rfl) rfl rfl dX3_multiply_48 ?_
    refine z_callv hW (va_runV (C := RX2) (As := [.ref (r + 25)]) (rest := []) CX.fix (c_copy l (f := va_up f (r + 26) (zA cI 25 (zprod c d p))) h0 h c (r + 25) (r + 26) (zprod c d p) ((va_up_ne _ _ (by omega)).trans hf0) ((va_up_ne _ _ (by omega)).trans hf1) ((va_up_ne _ _ (by omega)).trans hr2) (va_up_self _ _ _)) (cwV 1 CX.fix.2.2.2.2 gX3_multiply_X2_copy rfl rfl rfl (by decide +kernel) ⟨Nat.le_of_ble_eq_true rfl, Nat.le_of_ble_eq_true rfl⟩) (z_preV CX hW (r := (RX2, TX2, 1)) ((va_up_ne _ _ (by omega)).trans hf0) rfl) rfl rfl hl.1 rfl (lv_room (Nat.le_of_ble_eq_true rfl)) dX3_multiply_51 ⟨Nat.zero_le _, Nat.zero_le _⟩) (fun gn H locs hok51 hW => ?_)
    have eg : gn = va_up (va_up f (r + 26) (zA cI 25 (zprod c d p))) h (zA cI 25 (zprod c d p)) := hok51
    rw [eg] at hW
    clear eg
    refine lv_iconst (v := zI 1) hX0 hB0 dX3_multiply_54 rfl ?_
    rw [← hQ]
    refine z_iret (z := 1) CX hW ?_ rfl dX3_multiply_55
    have hmu : ¬ zmuc c d := by unfold zmuc; omega
    exact ⟨fun h9 => absurd h9 hmu, fun _ => rfl, by rw [zmuS_f hmu, zmuP_f hmu]⟩
  ·
    refine lv_iload hX0 hB0 dX3_multiply_15 (lv_at hl 0 rfl) ?_
    refine z_if_lt (tgt := 30) CX dX3_multiply_17 (by decide) (by constructor <;> omega) (fun c_17 => ?_) (fun c_17 => ?_)
    ·
      refine lv_aload_n hX0 hB0 dX3_multiply_30 rfl (lv_at hl 2 rfl) ?_
      refine z_get (Cn := RX3) (T := TX3) (N := 13) CX hW (v := .ref (r + 25)) hr0 rfl (fun w h => List.mem_cons_of_mem _ (List.mem_append_left _ (List.mem_append_left _ (List.mem_append_right _ h)))) 11 (by decide) (List.mem_of_getElem? (i := 1) rfl) rfl rfl dX3_multiply_31 ?_
      refine lv_aload_n hX0 hB0 dX3_multiply_34 rfl (lv_at hl 3 rfl) ?_
      refine lv_aload_n hX0 hB0 dX3_multiply_35 rfl (lv_at hl 4 rfl) ?_
      refine lv_aload_n hX0 hB0 dX3_multiply_36 rfl (lv_at hl 2 rfl) ?_
      refine z_get (Cn := RX3) (T := TX3) (N := 13) CX hW (v := .ref (r + 1)) hr0 rfl (fun w h => List.mem_cons_of_mem _ (List.mem_append_left _ (List.mem_append_left _ (List.mem_append_right _ h)))) 3 (by decide) (List.mem_of_getElem? (i := 2) rfl) rfl rfl dX3_multiply_37 ?_
      refine z_get (Cn := RX7) (T := TX7) (N := 4) CX hW (v := .int (zI p)) hr1 rfl (fun w h => List.mem_cons_of_mem _ (List.mem_append_left _ (List.mem_append_right _ h))) 0 (by decide) (List.mem_of_getElem? (i := 3) rfl) rfl rfl dX3_multiply_40 ?_
      refine z_callv hW (va_runV (C := RX2) (As := [.ref h0, .ref h1, .int (zI p)]) (rest := []) CX.fix (c_product l (f := f) (r + 25) (r + 26) sc h0 h c h1 ha d p hr2 hr3 hf0 hf1 hg0 hg1 (by omega) (by omega) (by first | assumption | exact zcan_le (by assumption) (by omega)) (by first | assumption | exact zcan_le (by assumption) (by omega)) (by omega)) (cwV 3 CX.fix.2.2.2.2 gX3_multiply_X2_product rfl rfl rfl (by decide +kernel) ⟨Nat.le_of_ble_eq_true rfl, Nat.le_of_ble_eq_true rfl⟩) (z_preV CX hW (r := (RX2, TX2, 1)) hr2 rfl) rfl rfl hl.1 rfl (lv_room (Nat.le_of_ble_eq_true rfl)) dX3_multiply_43 ⟨Nat.zero_le _, Nat.zero_le _⟩) (fun gn H locs hok43 hW => ?_)
      have eg : gn = va_up f (r + 26) (zA cI 25 (zprod c d p)) := hok43
      rw [eg] at hW
      clear eg
      refine lv_aload_n hX0 hB0 dX3_multiply_46 rfl (lv_at hl 3 rfl) ?_
      refine lv_aload_n hX0 hB0 dX3_multiply_47 rfl (lv_at hl 2 rfl) ?_
      refine z_get (Cn := RX3) (T := TX3) (N := 13) CX hW (v := .ref (r + 25)) ((va_up_ne _ _ (by omega)).trans hr0) rfl (fun w h => List.mem_cons_of_mem _ (List.mem_append_left _ (List.mem_append_left _ (List.mem_append_right _ h)))) 11 (by decide) (List.mem_of_getElem? (i := 1) rfl) rfl rfl dX3_multiply_48 ?_
      refine z_callv hW (va_runV (C := RX2) (As := [.ref (r + 25)]) (rest := []) CX.fix (c_copy l (f := va_up f (r + 26) (zA cI 25 (zprod c d p))) h0 h c (r + 25) (r + 26) (zprod c d p) ((va_up_ne _ _ (by omega)).trans hf0) ((va_up_ne _ _ (by omega)).trans hf1) ((va_up_ne _ _ (by omega)).trans hr2) (va_up_self _ _ _)) (cwV 1 CX.fix.2.2.2.2 gX3_multiply_X2_copy rfl rfl rfl (by decide +kernel) ⟨Nat.le_of_ble_eq_true rfl, Nat.le_of_ble_eq_true rfl⟩) (z_preV CX hW (r := (RX2, TX2, 1)) ((va_up_ne _ _ (by omega)).trans hf0) rfl) rfl rfl hl.1 rfl (lv_room (Nat.le_of_ble_eq_true rfl)) dX3_multiply_51 ⟨Nat.zero_le _, Nat.zero_le _⟩) (fun gn H locs hok51 hW => ?_)
      have eg : gn = va_up (va_up f (r + 26) (zA cI 25 (zprod c d p))) h (zA cI 25 (zprod c d p)) := hok51
      rw [eg] at hW
      clear eg
      refine lv_iconst (v := zI 1) hX0 hB0 dX3_multiply_54 rfl ?_
      rw [← hQ]
      refine z_iret (z := 1) CX hW ?_ rfl dX3_multiply_55
      have hmu : ¬ zmuc c d := by unfold zmuc; omega
      exact ⟨fun h9 => absurd h9 hmu, fun _ => rfl, by rw [zmuS_f hmu, zmuP_f hmu]⟩
    ·
      refine lv_iload_n hX0 hB0 dX3_multiply_20 rfl (lv_at hl 1 rfl) ?_
      refine lv_iload hX0 hB0 dX3_multiply_21 (lv_at hl 0 rfl) ?_
      refine z_iadd (z := (ztop c) + (ztop d)) CX dX3_multiply_23 rfl ?_
      refine lv_iconst (v := zI 4) hX0 hB0 dX3_multiply_24 rfl ?_
      refine z_icmp_le (tgt := 30) CX dX3_multiply_25 (by decide) (by constructor <;> omega) (by constructor <;> omega) (fun c_25 => ?_) (fun c_25 => ?_)
      ·
        refine lv_aload_n hX0 hB0 dX3_multiply_30 rfl (lv_at hl 2 rfl) ?_
        refine z_get (Cn := RX3) (T := TX3) (N := 13) CX hW (v := .ref (r + 25)) hr0 rfl (fun w h => List.mem_cons_of_mem _ (List.mem_append_left _ (List.mem_append_left _ (List.mem_append_right _ h)))) 11 (by decide) (List.mem_of_getElem? (i := 1) rfl) rfl rfl dX3_multiply_31 ?_
        refine lv_aload_n hX0 hB0 dX3_multiply_34 rfl (lv_at hl 3 rfl) ?_
        refine lv_aload_n hX0 hB0 dX3_multiply_35 rfl (lv_at hl 4 rfl) ?_
        refine lv_aload_n hX0 hB0 dX3_multiply_36 rfl (lv_at hl 2 rfl) ?_
        refine z_get (Cn := RX3) (T := TX3) (N := 13) CX hW (v := .ref (r + 1)) hr0 rfl (fun w h => List.mem_cons_of_mem _ (List.mem_append_left _ (List.mem_append_left _ (List.mem_append_right _ h)))) 3 (by decide) (List.mem_of_getElem? (i := 2) rfl) rfl rfl dX3_multiply_37 ?_
        refine z_get (Cn := RX7) (T := TX7) (N := 4) CX hW (v := .int (zI p)) hr1 rfl (fun w h => List.mem_cons_of_mem _ (List.mem_append_left _ (List.mem_append_right _ h))) 0 (by decide) (List.mem_of_getElem? (i := 3) rfl) rfl rfl dX3_multiply_40 ?_
        refine z_callv hW (va_runV (C := RX2) (As := [.ref h0, .ref h1, .int (zI p)]) (rest := []) CX.fix (c_product l (f := f) (r + 25) (r + 26) sc h0 h c h1 ha d p hr2 hr3 hf0 hf1 hg0 hg1 (by omega) (by omega) (by first | assumption | exact zcan_le (by assumption) (by omega)) (by first | assumption | exact zcan_le (by assumption) (by omega)) (by omega)) (cwV 3 CX.fix.2.2.2.2 gX3_multiply_X2_product rfl rfl rfl (by decide +kernel) ⟨Nat.le_of_ble_eq_true rfl, Nat.le_of_ble_eq_true rfl⟩) (z_preV CX hW (r := (RX2, TX2, 1)) hr2 rfl) rfl rfl hl.1 rfl (lv_room (Nat.le_of_ble_eq_true rfl)) dX3_multiply_43 ⟨Nat.zero_le _, Nat.zero_le _⟩) (fun gn H locs hok43 hW => ?_)
        have eg : gn = va_up f (r + 26) (zA cI 25 (zprod c d p)) := hok43
        rw [eg] at hW
        clear eg
        refine lv_aload_n hX0 hB0 dX3_multiply_46 rfl (lv_at hl 3 rfl) ?_
        refine lv_aload_n hX0 hB0 dX3_multiply_47 rfl (lv_at hl 2 rfl) ?_
        refine z_get (Cn := RX3) (T := TX3) (N := 13) CX hW (v := .ref (r + 25)) ((va_up_ne _ _ (by omega)).trans hr0) rfl (fun w h => List.mem_cons_of_mem _ (List.mem_append_left _ (List.mem_append_left _ (List.mem_append_right _ h)))) 11 (by decide) (List.mem_of_getElem? (i := 1) rfl) rfl rfl dX3_multiply_48 ?_
        refine z_callv hW (va_runV (C := RX2) (As := [.ref (r + 25)]) (rest := []) CX.fix (c_copy l (f := va_up f (r + 26) (zA cI 25 (zprod c d p))) h0 h c (r + 25) (r + 26) (zprod c d p) ((va_up_ne _ _ (by omega)).trans hf0) ((va_up_ne _ _ (by omega)).trans hf1) ((va_up_ne _ _ (by omega)).trans hr2) (va_up_self _ _ _)) (cwV 1 CX.fix.2.2.2.2 gX3_multiply_X2_copy rfl rfl rfl (by decide +kernel) ⟨Nat.le_of_ble_eq_true rfl, Nat.le_of_ble_eq_true rfl⟩) (z_preV CX hW (r := (RX2, TX2, 1)) ((va_up_ne _ _ (by omega)).trans hf0) rfl) rfl rfl hl.1 rfl (lv_room (Nat.le_of_ble_eq_true rfl)) dX3_multiply_51 ⟨Nat.zero_le _, Nat.zero_le _⟩) (fun gn H locs hok51 hW => ?_)
        have eg : gn = va_up (va_up f (r + 26) (zA cI 25 (zprod c d p))) h (zA cI 25 (zprod c d p)) := hok51
        rw [eg] at hW
        clear eg
        refine lv_iconst (v := zI 1) hX0 hB0 dX3_multiply_54 rfl ?_
        rw [← hQ]
        refine z_iret (z := 1) CX hW ?_ rfl dX3_multiply_55
        have hmu : ¬ zmuc c d := by unfold zmuc; omega
        exact ⟨fun h9 => absurd h9 hmu, fun _ => rfl, by rw [zmuS_f hmu, zmuP_f hmu]⟩
      ·
        refine lv_iconst (v := zI 0) hX0 hB0 dX3_multiply_28 rfl ?_
        rw [← hQ]
        refine z_iret (z := 0) CX hW ?_ rfl dX3_multiply_29
        have hmu : zmuc c d := ⟨by omega, by omega, by omega⟩
        exact ⟨fun _ => rfl, fun h9 => absurd hmu h9, by rw [zmuS_t hmu, zmuP_t hmu, va_up_id hr3, va_up_id hf1]⟩
end ZTx2
