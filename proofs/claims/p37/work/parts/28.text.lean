section ZTx5
noncomputable def zrsW (n : Int) (T : Nat → Int) (w : Nat) (S : Nat → Nat → Int) : Int × Int × Nat × (Nat → Nat → Int) := if (zcw n T w S).1 = 0 then (0, 0, (zcw n T w S).2.1, (zcw n T w S).2.2) else zrs2 n T (zcw n T w S).2.1 (zcw n T w S).2.2
theorem zrsW_0 (n : Int) (T : Nat → Int) (S : Nat → Nat → Int) : zrsW n T 0 S = zrs2 n T 0 S := rfl
theorem zrsW_a {n : Int} {T : Nat → Int} {m : Nat} {S : Nat → Nat → Int} (h : (ztk n T 41 S).1 = 0) : zrsW n T (m + 1) S = zrs2 n T (m + 1) (ztk n T 41 S).2 := by
  have e : zcw n T (m + 1) S = (1, m + 1, (ztk n T 41 S).2) := by rw [zcw_s, if_pos h]
  unfold zrsW
  rw [e]
  rfl
theorem zrsW_b {n : Int} {T : Nat → Int} {m : Nat} {S : Nat → Nat → Int} (h : ¬ (ztk n T 41 S).1 = 0) (h2 : (zrf n T m (zcl (m + 1) (ztk n T 41 S).2 3 m) (zcl (m + 1) (ztk n T 41 S).2)).1 = 0) : zrsW n T (m + 1) S = (0, 0, m, (zrf n T m (zcl (m + 1) (ztk n T 41 S).2 3 m) (zcl (m + 1) (ztk n T 41 S).2)).2) := by
  have e : zcw n T (m + 1) S = (0, m, (zrf n T m (zcl (m + 1) (ztk n T 41 S).2 3 m) (zcl (m + 1) (ztk n T 41 S).2)).2) := by rw [zcw_s, if_neg h, if_pos h2]
  unfold zrsW
  rw [e]
  rfl
theorem zrsW_c {n : Int} {T : Nat → Int} {m : Nat} {S : Nat → Nat → Int} (h : ¬ (ztk n T 41 S).1 = 0) (h2 : ¬ (zrf n T m (zcl (m + 1) (ztk n T 41 S).2 3 m) (zcl (m + 1) (ztk n T 41 S).2)).1 = 0) : zrsW n T (m + 1) S = zrsW n T m (zrf n T m (zcl (m + 1) (ztk n T 41 S).2 3 m) (zcl (m + 1) (ztk n T 41 S).2)).2 := by
  have e : zcw n T (m + 1) S = zcw n T m (zrf n T m (zcl (m + 1) (ztk n T 41 S).2 3 m) (zcl (m + 1) (ztk n T 41 S).2)).2 := by rw [zcw_s, if_neg h, if_neg h2]
  unfold zrsW
  rw [e]
set_option maxRecDepth 100000 in
set_option maxHeartbeats 4000000 in
/-- Reader.readSum -/
theorem c_readSum (l : Launch) {D : va_G} {cI cJ cZ cP cS cM : ClassId} {L : List Nat} {sz : Nat} {f : Nat → va_E} (r : Nat) (n : Int) (T : Nat → Int) (S : Nat → Nat → Int) (hT : ztape n T) (hpl : 0 ≤ S 0 0 ∧ S 0 0 ≤ n) (h3 : 2 ≤ S 0 3 ∧ S 0 3 ≤ 31) (hmi : zmI S) (hsi : zsI S) : zMi l yX3_readSum wsX3_readSum 6 129 D (zT cI cJ cZ cP cS cM) L sz (zRO cI cP cZ r n T S f) [.ref r] (fun z g => z = (zrs n T S).1 ∧ g = zRO cI cP cZ r n T (zrs n T S).2 f) := by
  refine zWalk.met (nL := 4) (ret := (some .boolean)) (cc := cX3_readSum) (by decide) rfl (Nat.le_of_ble_eq_true rfl) ?_
  intro pg en st mi ag bl mt cd ls CX hW hl
  have CX : zC pg st mi ag mt cd cX3_readSum 4 (some .boolean) RX3 wsX3_readSum := CX
  generalize hQ : MQ bl _ ag st 0 0 _ = Q
  have hX0 := CX.1
  have hB0 := CX.2.1
  have hl : lv_has ls 4 [(0, .ref r)] := hl
  obtain ⟨H, eH⟩ : ∃ H, H = st.heap := ⟨_, rfl⟩
  obtain ⟨locs, eL⟩ : ∃ L : List Loc, L = [] := ⟨_, rfl⟩
  have hW : zW D (zT cI cJ cZ cP cS cM) L (zQ L sz) st (zRO cI cP cZ r n T S f) st.heap H locs := by rw [eH, eL]; exact hW
  suffices hgo : W pg l en ({ frames := 6, cells := 0, slots := 0, locals := 129 } : Room) st mi ag bl mt cd H locs 0 0 Q (F0 mi 0 ls []) by rw [eH, eL] at hgo; exact hgo
  clear eH eL
  have hn0 := hT.1
  have hn1 := hT.2.1
  refine lv_iconst (v := zI 0) hX0 hB0 dX3_readSum_0 rfl ?_
  refine lv_istore_n (lv' := [(1, .int (zI 0)), (0, .ref r)]) hX0 hB0 dX3_readSum_1 rfl hl (by decide) rfl (fun ls hl => ?_)
  refine lv_aload_n hX0 hB0 dX3_readSum_2 rfl (lv_at hl 1 rfl) ?_
  refine lv_iload_n hX0 hB0 dX3_readSum_3 rfl (lv_at hl 0 rfl) ?_
  refine z_callv hW (va_runV (C := RX3) (As := [.int (zI 0)]) (rest := []) CX.fix (c_begin l (f := f) r n T S 0 hT (by omega) (by omega)) (cwV 1 CX.fix.2.2.2.2 gX3_readSum_X3_begin rfl rfl rfl (by decide +kernel) ⟨Nat.le_of_ble_eq_true rfl, Nat.le_of_ble_eq_true rfl⟩) (z_preV CX hW (r := (RX3, TX3, 13)) zRO_0 rfl) rfl rfl hl.1 rfl (lv_room (Nat.le_of_ble_eq_true rfl)) dX3_readSum_4 ⟨Nat.zero_le _, Nat.zero_le _⟩) (fun gn H locs hok4 hW => ?_)
  have hg4 := hok4
  rw [hg4] at hW
  clear hg4
  obtain ⟨S4c, hS4c⟩ : ∃ q : Nat → Nat → Int, q = zbg n T ((0 : Int).toNat) S := ⟨_, rfl⟩
  rw [← hS4c] at hW
  have hS4c_1 : S4c 0 1 = S 0 1 := by rw [hS4c]; first | rfl | (simp [zsr, zsd, zset]; done) | (exact zbg_num n T ((0 : Int).toNat) S (by decide))
  have hS4c_2 : S4c 0 2 = S 0 2 := by rw [hS4c]; first | rfl | (simp [zsr, zsd, zset]; done) | (exact zbg_num n T ((0 : Int).toNat) S (by decide))
  have hS4c_3 : S4c 0 3 = S 0 3 := by rw [hS4c]; first | rfl | (simp [zsr, zsd, zset]; done) | (exact zbg_num n T ((0 : Int).toNat) S (by decide))
  have hS4c_4 : S4c 0 4 = S 0 4 := by rw [hS4c]; first | rfl | (simp [zsr, zsd, zset]; done) | (exact zbg_num n T ((0 : Int).toNat) S (by decide))
  have hbr4 := zbg_pl (T := T) ((0 : Int).toNat) (show 0 ≤ S 0 0 ∧ S 0 0 ≤ n by omega)
  rw [← hS4c] at hbr4
  refine lv_iconst (v := zI 0) hX0 hB0 dX3_readSum_7 rfl ?_
  refine lv_istore_n (lv' := [(2, .int (zI 0)), (1, .int (zI 0)), (0, .ref r)]) hX0 hB0 dX3_readSum_8 rfl hl (by decide) rfl (fun ls hl => ?_)
  have hL9 : ∀ (fu : Nat) (Sa : Nat → Nat → Int) (o : Int) (k : Int), (0 ≤ k ∧ (k ≤ n + 1) ∧ 0 ≤ o ∧ o ≤ 40 ∧ zqI n (S 0 3) Sa o ∧ zrs n T S = zrsF n T (n + 1 - k).toNat o.toNat Sa) → (n + 1 - k).toNat < fu → ∀ (H : Heap) (locs : List Loc) (ls : Array Slot), zW D (zT cI cJ cZ cP cS cM) L (zQ L sz) st (zRO cI cP cZ r n T Sa f) st.heap H locs → lv_has ls 4 [(2, .int (zI k)), (1, .int (zI o)), (0, .ref r)] → W pg l en ({ frames := 6, cells := 0, slots := 0, locals := 129 } : Room) st mi ag bl mt cd H locs 0 0 Q (F0 mi 9 ls []) := by
    intro fu
    induction fu with
    | zero => intro Sa o k _ hfu; exact absurd hfu (Nat.not_lt_zero _)
    | succ fu ih9 =>
      intro Sa o k hinv9 hfu9 H locs ls hW hl
      obtain ⟨hk0, hk1, ho0, ho1, hq, hzz⟩ := hinv9
      have h3a := hq.2.1
      have hpa := hq.1
      refine lv_iload_n hX0 hB0 dX3_readSum_9 rfl (lv_at hl 0 rfl) ?_
      refine lv_aload_n hX0 hB0 dX3_readSum_10 rfl (lv_at hl 2 rfl) ?_
      refine z_get (Cn := RX3) (T := TX3) (N := 13) CX hW (v := .int (zI n)) zRO_0 rfl (fun w h => List.mem_cons_of_mem _ (List.mem_append_left _ (List.mem_append_left _ (List.mem_append_left _ (List.mem_append_right _ h))))) 0 (by decide) (List.mem_of_getElem? (i := 1) rfl) rfl rfl dX3_readSum_11 ?_
      refine z_icmp_gt (tgt := 209) CX dX3_readSum_14 (by decide) (by constructor <;> omega) (by constructor <;> omega) (fun c_14 => ?_) (fun c_14 => ?_)
      ·
        refine lv_iconst (v := zI 0) hX0 hB0 dX3_readSum_209 rfl ?_
        rw [← hQ]
        refine z_iret (z := 0) CX hW ?_ rfl dX3_readSum_210
        have hq9 : zrs n T S = (0, Sa) := by rw [hzz, show (n + 1 - k).toNat = 0 by omega]; rfl
        rw [hq9]
        exact ⟨rfl, rfl⟩
      ·
        have hst : zrs n T S = (if (zrs0 n T o.toNat Sa).1 = 0 then ((zrs0 n T o.toNat Sa).2.1, (zrs0 n T o.toNat Sa).2.2.2) else zrsF n T (n + 1 - (k + 1)).toNat (zrs0 n T o.toNat Sa).2.2.1 (zrs0 n T o.toNat Sa).2.2.2) := by rw [hzz, show (n + 1 - k).toNat = (n + 1 - (k + 1)).toNat + 1 by omega, zrsF_s]
        refine lv_aload_n hX0 hB0 dX3_readSum_17 rfl (lv_at hl 2 rfl) ?_
        refine z_callv hW (va_runV (C := RX3) (As := []) (rest := []) CX.fix (c_skipBlanks l (f := f) r n T Sa hT (by omega)) (cwV 0 CX.fix.2.2.2.2 gX3_readSum_X3_skipBlanks rfl rfl rfl (by decide +kernel) ⟨Nat.le_of_ble_eq_true rfl, Nat.le_of_ble_eq_true rfl⟩) (z_preV CX hW (r := (RX3, TX3, 13)) zRO_0 rfl) rfl rfl hl.1 rfl (lv_room (Nat.le_of_ble_eq_true rfl)) dX3_readSum_18 ⟨Nat.zero_le _, Nat.zero_le _⟩) (fun gn H locs hok18 hW => ?_)
        have hg18 := hok18
        rw [hg18] at hW
        clear hg18
        obtain ⟨S18c, hS18c⟩ : ∃ q : Nat → Nat → Int, q = zskS n T Sa := ⟨_, rfl⟩
        rw [← hS18c] at hW
        have hS18c_0 : S18c 0 0 = zsk n T (Sa 0 0) := by rw [hS18c]; first | rfl | (simp [zsr, zsd, zset]; done) | ((repeat rw [zset_ne _ _ (by omega)]); first | done | rfl | (simp [zsr, zsd, zset]; done)) | (unfold zsd; (repeat (first | rw [zset_self] | rw [zset_ne _ _ (by omega)])); first | done | rfl | (simp; done))
        have hS18c_1 : S18c 0 1 = Sa 0 1 := by rw [hS18c]; first | rfl | (simp [zsr, zsd, zset]; done) | ((repeat rw [zset_ne _ _ (by omega)]); first | done | rfl | (simp [zsr, zsd, zset]; done)) | (unfold zsd; (repeat (first | rw [zset_self] | rw [zset_ne _ _ (by omega)])); first | done | rfl | (simp; done))
        have hS18c_2 : S18c 0 2 = Sa 0 2 := by rw [hS18c]; first | rfl | (simp [zsr, zsd, zset]; done) | ((repeat rw [zset_ne _ _ (by omega)]); first | done | rfl | (simp [zsr, zsd, zset]; done)) | (unfold zsd; (repeat (first | rw [zset_self] | rw [zset_ne _ _ (by omega)])); first | done | rfl | (simp; done))
        have hS18c_3 : S18c 0 3 = Sa 0 3 := by rw [hS18c]; first | rfl | (simp [zsr, zsd, zset]; done) | ((repeat rw [zset_ne _ _ (by omega)]); first | done | rfl | (simp [zsr, zsd, zset]; done)) | (unfold zsd; (repeat (first | rw [zset_self] | rw [zset_ne _ _ (by omega)])); first | done | rfl | (simp; done))
        have hS18c_4 : S18c 0 4 = Sa 0 4 := by rw [hS18c]; first | rfl | (simp [zsr, zsd, zset]; done) | ((repeat rw [zset_ne _ _ (by omega)]); first | done | rfl | (simp [zsr, zsd, zset]; done)) | (unfold zsd; (repeat (first | rw [zset_self] | rw [zset_ne _ _ (by omega)])); first | done | rfl | (simp; done))
        have hskr18 := zsk_rng (T := T) (show 0 ≤ Sa 0 0 ∧ Sa 0 0 ≤ n by omega)
        refine lv_aload_n hX0 hB0 dX3_readSum_21 rfl (lv_at hl 2 rfl) ?_
        refine z_get (Cn := RX3) (T := TX3) (N := 13) CX hW (v := .int (zI (S18c 0 0))) zRO_0 rfl (fun w h => List.mem_cons_of_mem _ (List.mem_append_left _ (List.mem_append_left _ (List.mem_append_left _ (List.mem_append_right _ h))))) 12 (by decide) (List.mem_of_getElem? (i := 2) rfl) rfl rfl dX3_readSum_22 ?_
        refine lv_istore_n (lv' := [(3, .int (zI (S18c 0 0))), (2, .int (zI k)), (1, .int (zI o)), (0, .ref r)]) hX0 hB0 dX3_readSum_25 rfl hl (by decide) rfl (fun ls hl => ?_)
        refine lv_aload_n hX0 hB0 dX3_readSum_26 rfl (lv_at hl 3 rfl) ?_
        refine lv_bipush (v := zI 40) hX0 hB0 dX3_readSum_27 (by decide) ?_
        refine z_calli hW (va_runV (C := RX3) (As := [.int (zI 40)]) (rest := []) CX.fix (c_take l (f := f) r n T S18c 40 hT (by omega) (by omega)) (cwV 1 CX.fix.2.2.2.2 gX3_readSum_X3_take rfl rfl rfl (by decide +kernel) ⟨Nat.le_of_ble_eq_true rfl, Nat.le_of_ble_eq_true rfl⟩) (z_preV CX hW (r := (RX3, TX3, 13)) zRO_0 rfl) rfl rfl hl.1 rfl (lv_room (Nat.le_of_ble_eq_true rfl)) dX3_readSum_29 ⟨Nat.zero_le _, Nat.zero_le _⟩) (fun zv gn H locs hok29 hW => ?_)
        obtain ⟨hz29, hg29⟩ := hok29
        obtain ⟨z29, ezv29⟩ : ∃ q, q = zv := ⟨_, rfl⟩
        rw [← ezv29] at hz29 ⊢
        clear ezv29
        rw [hg29] at hW
        clear hg29
        obtain ⟨S29c, hS29c⟩ : ∃ q : Nat → Nat → Int, q = (ztk n T 40 S18c).2 := ⟨_, rfl⟩
        rw [← hS29c] at hW
        have hS29c_1 : S29c 0 1 = S18c 0 1 := by rw [hS29c]; first | rfl | (simp [zsr, zsd, zset]; done) | (exact ztk_num n T 40 S18c (by decide))
        have hS29c_2 : S29c 0 2 = S18c 0 2 := by rw [hS29c]; first | rfl | (simp [zsr, zsd, zset]; done) | (exact ztk_num n T 40 S18c (by decide))
        have hS29c_3 : S29c 0 3 = S18c 0 3 := by rw [hS29c]; first | rfl | (simp [zsr, zsd, zset]; done) | (exact ztk_num n T 40 S18c (by decide))
        have hS29c_4 : S29c 0 4 = S18c 0 4 := by rw [hS29c]; first | rfl | (simp [zsr, zsd, zset]; done) | (exact ztk_num n T 40 S18c (by decide))
        have hb29 : z29 = 0 ∨ z29 = 1 := by rw [hz29]; exact ztk_01 n T 40 S18c
        have htr29 := ztk_rng (T := T) (sg := 40) (show 0 ≤ S18c 0 0 ∧ S18c 0 0 ≤ n by omega) (by omega)
        rw [← hS29c] at htr29
        refine z_if_eq (tgt := 66) CX dX3_readSum_32 (by decide) (by constructor <;> omega) (fun c_32 => ?_) (fun c_32 => ?_)
        ·
          refine lv_aload_n hX0 hB0 dX3_readSum_66 rfl (lv_at hl 3 rfl) ?_
          have hq29 : zqI n (S 0 3) S29c o := by rw [hS29c, hS18c]; exact hq.sk.tk (by decide)
          refine z_calli hW (va_runV (C := RX3) (As := []) (rest := []) CX.fix (c_readAtom l (f := f) r n T S29c hT (by omega) (by omega)) (cwV 0 CX.fix.2.2.2.2 gX3_readSum_X3_readAtom rfl rfl rfl (by decide +kernel) ⟨Nat.le_of_ble_eq_true rfl, Nat.le_of_ble_eq_true rfl⟩) (z_preV CX hW (r := (RX3, TX3, 13)) zRO_0 rfl) rfl rfl hl.1 rfl (lv_room (Nat.le_of_ble_eq_true rfl)) dX3_readSum_67 ⟨Nat.zero_le _, Nat.zero_le _⟩) (fun zv gn H locs hok67 hW => ?_)
          obtain ⟨hz67, hg67⟩ := hok67
          obtain ⟨z67, ezv67⟩ : ∃ q, q = zv := ⟨_, rfl⟩
          rw [← ezv67] at hz67 ⊢
          clear ezv67
          rw [hg67] at hW
          clear hg67
          obtain ⟨S67c, hS67c⟩ : ∃ q : Nat → Nat → Int, q = (zra n T S29c).2 := ⟨_, rfl⟩
          rw [← hS67c] at hW
          have hS67c_3 : S67c 0 3 = S29c 0 3 := by rw [hS67c]; first | rfl | (simp [zsr, zsd, zset]; done) | (exact zra_num n T S29c (by decide))
          have hS67c_4 : S67c 0 4 = S29c 0 4 := by rw [hS67c]; first | rfl | (simp [zsr, zsd, zset]; done) | (exact zra_num n T S29c (by decide))
          have hb67 : z67 = 0 ∨ z67 = 1 := by rw [hz67]; exact zra_01 n T S29c
          have hfr67 := zra_pl (T := T) (show 0 ≤ S29c 0 0 ∧ S29c 0 0 ≤ n by omega)
          rw [← hS67c] at hfr67
          refine z_if_eq (tgt := 82) CX dX3_readSum_70 (by decide) (by constructor <;> omega) (fun c_70 => ?_) (fun c_70 => ?_)
          ·
            refine lv_iconst (v := zI 0) hX0 hB0 dX3_readSum_82 rfl ?_
            rw [← hQ]
            refine z_iret (z := 0) CX hW ?_ rfl dX3_readSum_83
            have hz0 : zrs0 n T o.toNat Sa = (0, 0, o.toNat, S67c) := by unfold zrs0; rw [← hS18c, ← hz29, if_pos c_32, ← hS29c]; unfold zrs1; rw [← hz67, if_pos c_70, ← hS67c]
            have hq9 : zrs n T S = (0, S67c) := by rw [hst, hz0]; rfl
            rw [hq9]
            exact ⟨rfl, rfl⟩
          ·
            have hq67 : zqI n (S 0 3) S67c o := by rw [hS67c]; exact hq29.ra
            have hc67 : zcan (S67c 0 3) (S67c 4) := by have q := zra_can (n := n) (T := T) (S := S29c) (by omega) (by omega); rw [← hS67c] at q; rw [hS67c_3]; exact q
            refine lv_aload_n hX0 hB0 dX3_readSum_73 rfl (lv_at hl 3 rfl) ?_
            refine lv_iload_n hX0 hB0 dX3_readSum_74 rfl (lv_at hl 2 rfl) ?_
            refine lv_iload_n hX0 hB0 dX3_readSum_75 rfl (lv_at hl 0 rfl) ?_
            refine z_calli hW (va_runV (C := RX3) (As := [.int (zI o), .int (zI (S18c 0 0))]) (rest := []) CX.fix (c_readFactor l (f := f) r n T S67c o (S18c 0 0) hT (by omega) (by omega) (by omega) (by omega) hc67 (hq67.2.2.1 o.toNat (by omega)).2) (cwV 2 CX.fix.2.2.2.2 gX3_readSum_X3_readFactor rfl rfl rfl (by decide +kernel) ⟨Nat.le_of_ble_eq_true rfl, Nat.le_of_ble_eq_true rfl⟩) (z_preV CX hW (r := (RX3, TX3, 13)) zRO_0 rfl) rfl rfl hl.1 rfl (lv_room (Nat.le_of_ble_eq_true rfl)) dX3_readSum_76 ⟨Nat.zero_le _, Nat.zero_le _⟩) (fun zv gn H locs hok76 hW => ?_)
            obtain ⟨hz76, hg76⟩ := hok76
            obtain ⟨z76, ezv76⟩ : ∃ q, q = zv := ⟨_, rfl⟩
            rw [← ezv76] at hz76 ⊢
            clear ezv76
            rw [hg76] at hW
            clear hg76
            obtain ⟨S76c, hS76c⟩ : ∃ q : Nat → Nat → Int, q = (zrf n T o.toNat (S18c 0 0) S67c).2 := ⟨_, rfl⟩
            rw [← hS76c] at hW
            have hS76c_3 : S76c 0 3 = S67c 0 3 := by rw [hS76c]; first | rfl | (simp [zsr, zsd, zset]; done) | (exact (zrf_sim n T o.toNat (S18c 0 0) S67c).1.1)
            have hS76c_4 : S76c 0 4 = S67c 0 4 := by rw [hS76c]; first | rfl | (simp [zsr, zsd, zset]; done) | (exact (zrf_sim n T o.toNat (S18c 0 0) S67c).1.2)
            have hb76 : z76 = 0 ∨ z76 = 1 := by rw [hz76]; exact zrf_01 n T o.toNat (S18c 0 0) S67c
            have hfr76 := zrf_pl (T := T) o.toNat (S18c 0 0) (show 0 ≤ S67c 0 0 ∧ S67c 0 0 ≤ n by omega)
            rw [← hS76c] at hfr76
            refine z_if_ne (tgt := 84) CX dX3_readSum_79 (by decide) (by constructor <;> omega) (fun c_79 => ?_) (fun c_79 => ?_)
            ·
              have hL84 : ∀ (fu : Nat) (Sb : Nat → Nat → Int) (w : Int), (0 ≤ w ∧ w ≤ 40 ∧ zqI n (S 0 3) Sb w ∧ zrs0 n T o.toNat Sa = zrsW n T w.toNat Sb) → w.toNat < fu → ∀ (H : Heap) (locs : List Loc) (ls : Array Slot), zW D (zT cI cJ cZ cP cS cM) L (zQ L sz) st (zRO cI cP cZ r n T Sb f) st.heap H locs → lv_has ls 4 [(1, .int (zI w)), (2, .int (zI k)), (0, .ref r)] → W pg l en ({ frames := 6, cells := 0, slots := 0, locals := 129 } : Room) st mi ag bl mt cd H locs 0 0 Q (F0 mi 84 ls []) := by
                intro fu
                induction fu with
                | zero => intro Sb w _ hfu; exact absurd hfu (Nat.not_lt_zero _)
                | succ fu ih84 =>
                  intro Sb w hinv84 hfu84 H locs ls hW hl
                  obtain ⟨hw0, hw1, hqb, hzw⟩ := hinv84
                  have h3ab := hqb.2.1
                  have hpab := hqb.1
                  have hJ134 : ∀ (Sc : Nat → Nat → Int) (w : Int), (0 ≤ w ∧ w ≤ 40 ∧ zqI n (S 0 3) Sc w ∧ zrs0 n T o.toNat Sa = zrs2 n T w.toNat Sc) → ∀ (H : Heap) (locs : List Loc) (ls : Array Slot), zW D (zT cI cJ cZ cP cS cM) L (zQ L sz) st (zRO cI cP cZ r n T Sc f) st.heap H locs → lv_has ls 4 [(1, .int (zI w)), (2, .int (zI k)), (0, .ref r)] → W pg l en ({ frames := 6, cells := 0, slots := 0, locals := 129 } : Room) st mi ag bl mt cd H locs 0 0 Q (F0 mi 134 ls []) := by
                    intro Sc w hinv134 H locs ls hW hl
                    obtain ⟨hw0, hw1, hqc, hzc⟩ := hinv134
                    have h3ac := hqc.2.1
                    have hpac := hqc.1
                    refine lv_aload_n hX0 hB0 dX3_readSum_134 rfl (lv_at hl 2 rfl) ?_
                    refine lv_bipush (v := zI 42) hX0 hB0 dX3_readSum_135 (by decide) ?_
                    refine z_calli hW (va_runV (C := RX3) (As := [.int (zI 42)]) (rest := []) CX.fix (c_take l (f := f) r n T Sc 42 hT (by omega) (by omega)) (cwV 1 CX.fix.2.2.2.2 gX3_readSum_X3_take rfl rfl rfl (by decide +kernel) ⟨Nat.le_of_ble_eq_true rfl, Nat.le_of_ble_eq_true rfl⟩) (z_preV CX hW (r := (RX3, TX3, 13)) zRO_0 rfl) rfl rfl hl.1 rfl (lv_room (Nat.le_of_ble_eq_true rfl)) dX3_readSum_137 ⟨Nat.zero_le _, Nat.zero_le _⟩) (fun zv gn H locs hok137 hW => ?_)
                    obtain ⟨hz137, hg137⟩ := hok137
                    obtain ⟨z137, ezv137⟩ : ∃ q, q = zv := ⟨_, rfl⟩
                    rw [← ezv137] at hz137 ⊢
                    clear ezv137
                    rw [hg137] at hW
                    clear hg137
                    obtain ⟨S137c, hS137c⟩ : ∃ q : Nat → Nat → Int, q = (ztk n T 42 Sc).2 := ⟨_, rfl⟩
                    rw [← hS137c] at hW
                    have hS137c_1 : S137c 0 1 = Sc 0 1 := by rw [hS137c]; first | rfl | (simp [zsr, zsd, zset]; done) | (exact ztk_num n T 42 Sc (by decide))
                    have hS137c_2 : S137c 0 2 = Sc 0 2 := by rw [hS137c]; first | rfl | (simp [zsr, zsd, zset]; done) | (exact ztk_num n T 42 Sc (by decide))
                    have hS137c_3 : S137c 0 3 = Sc 0 3 := by rw [hS137c]; first | rfl | (simp [zsr, zsd, zset]; done) | (exact ztk_num n T 42 Sc (by decide))
                    have hS137c_4 : S137c 0 4 = Sc 0 4 := by rw [hS137c]; first | rfl | (simp [zsr, zsd, zset]; done) | (exact ztk_num n T 42 Sc (by decide))
                    have hb137 : z137 = 0 ∨ z137 = 1 := by rw [hz137]; exact ztk_01 n T 42 Sc
                    have htr137 := ztk_rng (T := T) (sg := 42) (show 0 ≤ Sc 0 0 ∧ Sc 0 0 ≤ n by omega) (by omega)
                    rw [← hS137c] at htr137
                    refine z_if_eq (tgt := 146) CX dX3_readSum_140 (by decide) (by constructor <;> omega) (fun c_140 => ?_) (fun c_140 => ?_)
                    ·
                      have hq137 : zqI n (S 0 3) S137c w := by rw [hS137c]; exact hqc.tk (by decide)
                      refine lv_aload_n hX0 hB0 dX3_readSum_146 rfl (lv_at hl 2 rfl) ?_
                      refine lv_iload_n hX0 hB0 dX3_readSum_147 rfl (lv_at hl 0 rfl) ?_
                      refine z_callv hW (va_runV (C := RX3) (As := [.int (zI w)]) (rest := []) CX.fix (c_closeTerm l (f := f) r n T S137c w hT (by omega) (by omega) hq137.2.2.2.1 (hq137.2.2.1 w.toNat (by omega)).1 (hq137.2.2.1 w.toNat (by omega)).2) (cwV 1 CX.fix.2.2.2.2 gX3_readSum_X3_closeTerm rfl rfl rfl (by decide +kernel) ⟨Nat.le_of_ble_eq_true rfl, Nat.le_of_ble_eq_true rfl⟩) (z_preV CX hW (r := (RX3, TX3, 13)) zRO_0 rfl) rfl rfl hl.1 rfl (lv_room (Nat.le_of_ble_eq_true rfl)) dX3_readSum_148 ⟨Nat.zero_le _, Nat.zero_le _⟩) (fun gn H locs hok148 hW => ?_)
                      have hg148 := hok148
                      rw [hg148] at hW
                      clear hg148
                      obtain ⟨S148c, hS148c⟩ : ∃ q : Nat → Nat → Int, q = zct w.toNat S137c := ⟨_, rfl⟩
                      rw [← hS148c] at hW
                      have hS148c_0 : S148c 0 0 = S137c 0 0 := by rw [hS148c]; first | rfl | (simp [zsr, zsd, zset]; done) | (exact zct_num w.toNat S137c 0)
                      have hS148c_1 : S148c 0 1 = S137c 0 1 := by rw [hS148c]; first | rfl | (simp [zsr, zsd, zset]; done) | (exact zct_num w.toNat S137c 1)
                      have hS148c_2 : S148c 0 2 = S137c 0 2 := by rw [hS148c]; first | rfl | (simp [zsr, zsd, zset]; done) | (exact zct_num w.toNat S137c 2)
                      have hS148c_3 : S148c 0 3 = S137c 0 3 := by rw [hS148c]; first | rfl | (simp [zsr, zsd, zset]; done) | (exact zct_num w.toNat S137c 3)
                      have hS148c_4 : S148c 0 4 = S137c 0 4 := by rw [hS148c]; first | rfl | (simp [zsr, zsd, zset]; done) | (exact zct_num w.toNat S137c 4)
                      have hq148 : zqI n (S 0 3) S148c w := by rw [hS148c]; exact hq137.ct (by omega) (by omega) h3.1
                      refine lv_aload_n hX0 hB0 dX3_readSum_151 rfl (lv_at hl 2 rfl) ?_
                      refine z_get (Cn := RX3) (T := TX3) (N := 13) CX hW (v := .ref (r + 19)) zRO_0 rfl (fun w h => List.mem_cons_of_mem _ (List.mem_append_left _ (List.mem_append_left _ (List.mem_append_left _ (List.mem_append_right _ h))))) 7 (by decide) (List.mem_of_getElem? (i := 6) rfl) rfl rfl dX3_readSum_152 ?_
                      refine lv_iload_n hX0 hB0 dX3_readSum_155 rfl (lv_at hl 0 rfl) ?_
                      refine lv_aload_n hX0 hB0 dX3_readSum_156 rfl (lv_at hl 2 rfl) ?_
                      refine lv_bipush (v := zI 45) hX0 hB0 dX3_readSum_157 (by decide) ?_
                      refine z_calli hW (va_runV (C := RX3) (As := [.int (zI 45)]) (rest := [.int (zI w), .ref (r + 19)]) CX.fix (c_take l (f := f) r n T S148c 45 hT (by omega) (by omega)) (cwV 1 CX.fix.2.2.2.2 gX3_readSum_X3_take rfl rfl rfl (by decide +kernel) ⟨Nat.le_of_ble_eq_true rfl, Nat.le_of_ble_eq_true rfl⟩) (z_preV CX hW (r := (RX3, TX3, 13)) zRO_0 rfl) rfl rfl hl.1 rfl (lv_room (Nat.le_of_ble_eq_true rfl)) dX3_readSum_159 ⟨Nat.zero_le _, Nat.zero_le _⟩) (fun zv gn H locs hok159 hW => ?_)
                      obtain ⟨hz159, hg159⟩ := hok159
                      obtain ⟨z159, ezv159⟩ : ∃ q, q = zv := ⟨_, rfl⟩
                      rw [← ezv159] at hz159 ⊢
                      clear ezv159
                      rw [hg159] at hW
                      clear hg159
                      obtain ⟨S159c, hS159c⟩ : ∃ q : Nat → Nat → Int, q = (ztk n T 45 S148c).2 := ⟨_, rfl⟩
                      rw [← hS159c] at hW
                      have hS159c_1 : S159c 0 1 = S148c 0 1 := by rw [hS159c]; first | rfl | (simp [zsr, zsd, zset]; done) | (exact ztk_num n T 45 S148c (by decide))
                      have hS159c_2 : S159c 0 2 = S148c 0 2 := by rw [hS159c]; first | rfl | (simp [zsr, zsd, zset]; done) | (exact ztk_num n T 45 S148c (by decide))
                      have hS159c_3 : S159c 0 3 = S148c 0 3 := by rw [hS159c]; first | rfl | (simp [zsr, zsd, zset]; done) | (exact ztk_num n T 45 S148c (by decide))
                      have hS159c_4 : S159c 0 4 = S148c 0 4 := by rw [hS159c]; first | rfl | (simp [zsr, zsd, zset]; done) | (exact ztk_num n T 45 S148c (by decide))
                      have hb159 : z159 = 0 ∨ z159 = 1 := by rw [hz159]; exact ztk_01 n T 45 S148c
                      have htr159 := ztk_rng (T := T) (sg := 45) (show 0 ≤ S148c 0 0 ∧ S148c 0 0 ≤ n by omega) (by omega)
                      rw [← hS159c] at htr159
                      refine z_zast CX hW zRO_19 2 rfl (by refine ⟨?_, ?_, ?_⟩ <;> omega) (by omega) (g := va_up (zRO cI cP cZ r n T S159c f) (r + 19) (zA cZ 41 (zup (S159c 2) w.toNat z159))) rfl dX3_readSum_162 (fun H locs hW => ?_)
                      refine lv_aload_n hX0 hB0 dX3_readSum_163 rfl (lv_at hl 2 rfl) ?_
                      refine z_get (Cn := RX3) (T := TX3) (N := 13) CX hW (v := .ref (r + 19)) ((va_up_ne _ _ (by omega)).trans zRO_0) rfl (fun w h => List.mem_cons_of_mem _ (List.mem_append_left _ (List.mem_append_left _ (List.mem_append_left _ (List.mem_append_right _ h))))) 7 (by decide) (List.mem_of_getElem? (i := 6) rfl) rfl rfl dX3_readSum_164 ?_
                      refine lv_iload_n hX0 hB0 dX3_readSum_167 rfl (lv_at hl 0 rfl) ?_
                      refine z_zald (z := (zup (S159c 2) w.toNat z159) w.toNat) CX hW (va_up_self _ _ _) 2 rfl (by refine ⟨?_, ?_, ?_⟩ <;> omega) rfl dX3_readSum_168 ?_
                      have hzu := zup_self (S159c 2) w.toNat z159
                      refine z_if_ne (tgt := 203) CX dX3_readSum_169 (by decide) (by constructor <;> omega) (fun c_169 => ?_) (fun c_169 => ?_)
                      ·
                        refine lv_iinc (v := zI (k + 1)) (lv' := [(2, .int (zI (k + 1))), (1, .int (zI w)), (0, .ref r)]) hX0 hB0 dX3_readSum_203 hl (k := 1) rfl (zI_add _ _) (by decide) rfl (fun ls hl => ?_)
                        refine lv_goto (tgt := 9) hX0 hB0 dX3_readSum_206 (by decide) ?_
                        have hW := hW
                        rw [zRO_w19] at hW
                        obtain ⟨S1, hS1⟩ : ∃ q : Nat → Nat → Int, q = zset S159c 2 (zup (S159c 2) w.toNat z159) := ⟨_, rfl⟩
                        rw [← hS1] at hW
                        have hS1_0 : S1 0 0 = S159c 0 0 := by rw [hS1]; first | rfl | (simp [zsr, zsd, zset]; done) | ((repeat rw [zset_ne _ _ (by omega)]); first | done | rfl | (simp [zsr, zsd, zset]; done)) | (unfold zsd; (repeat (first | rw [zset_self] | rw [zset_ne _ _ (by omega)])); first | done | rfl | (simp; done))
                        have hS1_1 : S1 0 1 = S159c 0 1 := by rw [hS1]; first | rfl | (simp [zsr, zsd, zset]; done) | ((repeat rw [zset_ne _ _ (by omega)]); first | done | rfl | (simp [zsr, zsd, zset]; done)) | (unfold zsd; (repeat (first | rw [zset_self] | rw [zset_ne _ _ (by omega)])); first | done | rfl | (simp; done))
                        have hS1_2 : S1 0 2 = S159c 0 2 := by rw [hS1]; first | rfl | (simp [zsr, zsd, zset]; done) | ((repeat rw [zset_ne _ _ (by omega)]); first | done | rfl | (simp [zsr, zsd, zset]; done)) | (unfold zsd; (repeat (first | rw [zset_self] | rw [zset_ne _ _ (by omega)])); first | done | rfl | (simp; done))
                        have hS1_3 : S1 0 3 = S159c 0 3 := by rw [hS1]; first | rfl | (simp [zsr, zsd, zset]; done) | ((repeat rw [zset_ne _ _ (by omega)]); first | done | rfl | (simp [zsr, zsd, zset]; done)) | (unfold zsd; (repeat (first | rw [zset_self] | rw [zset_ne _ _ (by omega)])); first | done | rfl | (simp; done))
                        have hS1_4 : S1 0 4 = S159c 0 4 := by rw [hS1]; first | rfl | (simp [zsr, zsd, zset]; done) | ((repeat rw [zset_ne _ _ (by omega)]); first | done | rfl | (simp [zsr, zsd, zset]; done)) | (unfold zsd; (repeat (first | rw [zset_self] | rw [zset_ne _ _ (by omega)])); first | done | rfl | (simp; done))
                        skip
                        exact ih9 S1 w (k + 1) ⟨by omega, by omega, by omega, by omega, by rw [← (show zbg2 w.toNat (ztk n T 45 S148c) = S1 by unfold zbg2; rw [← hz159, ← hS159c, hS1])]; exact hq148.bg2, by have hz0 : zrs0 n T o.toNat Sa = (1, 0, w.toNat, S1) := (by rw [hzc]; unfold zrs2; rw [← hz137, if_pos c_140, ← hS137c, ← hS148c, ← hz159, if_neg (by omega)]; unfold zbg2; rw [← hz159, ← hS159c, hS1]); rw [hst, hz0]; rfl⟩ (by omega) H locs ls hW (lv_sub hl [0, 1, 2] rfl)
                      ·
                        refine lv_aload_n hX0 hB0 dX3_readSum_172 rfl (lv_at hl 2 rfl) ?_
                        refine lv_bipush (v := zI 43) hX0 hB0 dX3_readSum_173 (by decide) ?_
                        have hW := hW
                        rw [zRO_w19] at hW
                        obtain ⟨S2, hS2⟩ : ∃ q : Nat → Nat → Int, q = zset S159c 2 (zup (S159c 2) w.toNat z159) := ⟨_, rfl⟩
                        rw [← hS2] at hW
                        have hS2_0 : S2 0 0 = S159c 0 0 := by rw [hS2]; first | rfl | (simp [zsr, zsd, zset]; done) | ((repeat rw [zset_ne _ _ (by omega)]); first | done | rfl | (simp [zsr, zsd, zset]; done)) | (unfold zsd; (repeat (first | rw [zset_self] | rw [zset_ne _ _ (by omega)])); first | done | rfl | (simp; done))
                        have hS2_1 : S2 0 1 = S159c 0 1 := by rw [hS2]; first | rfl | (simp [zsr, zsd, zset]; done) | ((repeat rw [zset_ne _ _ (by omega)]); first | done | rfl | (simp [zsr, zsd, zset]; done)) | (unfold zsd; (repeat (first | rw [zset_self] | rw [zset_ne _ _ (by omega)])); first | done | rfl | (simp; done))
                        have hS2_2 : S2 0 2 = S159c 0 2 := by rw [hS2]; first | rfl | (simp [zsr, zsd, zset]; done) | ((repeat rw [zset_ne _ _ (by omega)]); first | done | rfl | (simp [zsr, zsd, zset]; done)) | (unfold zsd; (repeat (first | rw [zset_self] | rw [zset_ne _ _ (by omega)])); first | done | rfl | (simp; done))
                        have hS2_3 : S2 0 3 = S159c 0 3 := by rw [hS2]; first | rfl | (simp [zsr, zsd, zset]; done) | ((repeat rw [zset_ne _ _ (by omega)]); first | done | rfl | (simp [zsr, zsd, zset]; done)) | (unfold zsd; (repeat (first | rw [zset_self] | rw [zset_ne _ _ (by omega)])); first | done | rfl | (simp; done))
                        have hS2_4 : S2 0 4 = S159c 0 4 := by rw [hS2]; first | rfl | (simp [zsr, zsd, zset]; done) | ((repeat rw [zset_ne _ _ (by omega)]); first | done | rfl | (simp [zsr, zsd, zset]; done)) | (unfold zsd; (repeat (first | rw [zset_self] | rw [zset_ne _ _ (by omega)])); first | done | rfl | (simp; done))
                        skip
                        have hbg2 : zbg2 w.toNat (ztk n T 45 S148c) = S2 := by unfold zbg2; rw [← hz159, ← hS159c, hS2]
                        have hqg : zqI n (S 0 3) S2 w := by rw [← hbg2]; exact hq148.bg2
                        refine z_calli hW (va_runV (C := RX3) (As := [.int (zI 43)]) (rest := []) CX.fix (c_take l (f := f) r n T S2 43 hT (by omega) (by omega)) (cwV 1 CX.fix.2.2.2.2 gX3_readSum_X3_take rfl rfl rfl (by decide +kernel) ⟨Nat.le_of_ble_eq_true rfl, Nat.le_of_ble_eq_true rfl⟩) (z_preV CX hW (r := (RX3, TX3, 13)) zRO_0 rfl) rfl rfl hl.1 rfl (lv_room (Nat.le_of_ble_eq_true rfl)) dX3_readSum_175 ⟨Nat.zero_le _, Nat.zero_le _⟩) (fun zv gn H locs hok175 hW => ?_)
                        obtain ⟨hz175, hg175⟩ := hok175
                        obtain ⟨z175, ezv175⟩ : ∃ q, q = zv := ⟨_, rfl⟩
                        rw [← ezv175] at hz175 ⊢
                        clear ezv175
                        rw [hg175] at hW
                        clear hg175
                        obtain ⟨S175c, hS175c⟩ : ∃ q : Nat → Nat → Int, q = (ztk n T 43 S2).2 := ⟨_, rfl⟩
                        rw [← hS175c] at hW
                        have hS175c_1 : S175c 0 1 = S2 0 1 := by rw [hS175c]; first | rfl | (simp [zsr, zsd, zset]; done) | (exact ztk_num n T 43 S2 (by decide))
                        have hS175c_2 : S175c 0 2 = S2 0 2 := by rw [hS175c]; first | rfl | (simp [zsr, zsd, zset]; done) | (exact ztk_num n T 43 S2 (by decide))
                        have hS175c_3 : S175c 0 3 = S2 0 3 := by rw [hS175c]; first | rfl | (simp [zsr, zsd, zset]; done) | (exact ztk_num n T 43 S2 (by decide))
                        have hS175c_4 : S175c 0 4 = S2 0 4 := by rw [hS175c]; first | rfl | (simp [zsr, zsd, zset]; done) | (exact ztk_num n T 43 S2 (by decide))
                        have hb175 : z175 = 0 ∨ z175 = 1 := by rw [hz175]; exact ztk_01 n T 43 S2
                        have htr175 := ztk_rng (T := T) (sg := 43) (show 0 ≤ S2 0 0 ∧ S2 0 0 ≤ n by omega) (by omega)
                        rw [← hS175c] at htr175
                        refine z_if_ne (tgt := 203) CX dX3_readSum_178 (by decide) (by constructor <;> omega) (fun c_178 => ?_) (fun c_178 => ?_)
                        ·
                          refine lv_iinc (v := zI (k + 1)) (lv' := [(2, .int (zI (k + 1))), (1, .int (zI w)), (0, .ref r)]) hX0 hB0 dX3_readSum_203 hl (k := 1) rfl (zI_add _ _) (by decide) rfl (fun ls hl => ?_)
                          refine lv_goto (tgt := 9) hX0 hB0 dX3_readSum_206 (by decide) ?_
                          exact ih9 S175c w (k + 1) ⟨by omega, by omega, by omega, by omega, by rw [hS175c]; exact hqg.tk (by decide), by have hz0 : zrs0 n T o.toNat Sa = (1, 0, w.toNat, S175c) := (by rw [hzc]; unfold zrs2; rw [← hz137, if_pos c_140, ← hS137c, ← hS148c, ← hz159, if_pos (by omega), hbg2]; unfold zrs3; rw [← hz175, if_neg (by omega), ← hS175c]); rw [hst, hz0]; rfl⟩ (by omega) H locs ls hW (lv_sub hl [0, 1, 2] rfl)
                        ·
                          refine lv_iload_n hX0 hB0 dX3_readSum_181 rfl (lv_at hl 0 rfl) ?_
                          refine z_if_eq (tgt := 197) CX dX3_readSum_182 (by decide) (by constructor <;> omega) (fun c_182 => ?_) (fun c_182 => ?_)
                          ·
                            refine lv_iconst (v := zI 1) hX0 hB0 dX3_readSum_197 rfl ?_
                            refine lv_goto (tgt := 202) hX0 hB0 dX3_readSum_198 (by decide) ?_
                            rw [← hQ]
                            refine z_iret (z := 1) CX hW ?_ rfl dX3_readSum_202
                            have hz0 : zrs0 n T o.toNat Sa = (0, 1, w.toNat, S175c) := by rw [hzc]; unfold zrs2; rw [← hz137, if_pos c_140, ← hS137c, ← hS148c, ← hz159, if_pos (by omega), hbg2]; unfold zrs3; rw [← hz175, if_pos (by omega), if_pos (by omega), ← hS175c]
                            have hq9 : zrs n T S = (1, S175c) := by rw [hst, hz0]; rfl
                            rw [hq9]
                            exact ⟨rfl, rfl⟩
                          ·
                            refine lv_aload_n hX0 hB0 dX3_readSum_185 rfl (lv_at hl 2 rfl) ?_
                            refine lv_iconst (v := zI 1) hX0 hB0 dX3_readSum_186 rfl ?_
                            refine lv_aload_n hX0 hB0 dX3_readSum_187 rfl (lv_at hl 2 rfl) ?_
                            refine z_get (Cn := RX3) (T := TX3) (N := 13) CX hW (v := .int (zI (S175c 0 0))) zRO_0 rfl (fun w h => List.mem_cons_of_mem _ (List.mem_append_left _ (List.mem_append_left _ (List.mem_append_left _ (List.mem_append_right _ h))))) 12 (by decide) (List.mem_of_getElem? (i := 2) rfl) rfl rfl dX3_readSum_188 ?_
                            refine z_calli hW (va_runV (C := RX3) (As := [.int (zI 1), .int (zI (S175c 0 0))]) (rest := []) CX.fix (c_fail l (f := f) r n T S175c 1 (S175c 0 0) hT (by constructor <;> omega) (by constructor <;> omega)) (cwV 2 CX.fix.2.2.2.2 gX3_readSum_X3_fail rfl rfl rfl (by decide +kernel) ⟨Nat.le_of_ble_eq_true rfl, Nat.le_of_ble_eq_true rfl⟩) (z_preV CX hW (r := (RX3, TX3, 13)) zRO_0 rfl) rfl rfl hl.1 rfl (lv_room (Nat.le_of_ble_eq_true rfl)) dX3_readSum_191 ⟨Nat.zero_le _, Nat.zero_le _⟩) (fun zv gn H locs hok191 hW => ?_)
                            obtain ⟨hz191, hg191⟩ := hok191
                            obtain ⟨z191, ezv191⟩ : ∃ q, q = zv := ⟨_, rfl⟩
                            rw [← ezv191] at hz191 ⊢
                            clear ezv191
                            rw [hg191] at hW
                            clear hg191
                            obtain ⟨S191c, hS191c⟩ : ∃ q : Nat → Nat → Int, q = zfl 1 (S175c 0 0) S175c := ⟨_, rfl⟩
                            rw [← hS191c] at hW
                            have hS191c_0 : S191c 0 0 = S175c 0 0 := by rw [hS191c]; first | rfl | (simp [zsr, zsd, zset]; done) | ((repeat rw [zset_ne _ _ (by omega)]); first | done | rfl | (simp [zsr, zsd, zset]; done)) | (unfold zsd; (repeat (first | rw [zset_self] | rw [zset_ne _ _ (by omega)])); first | done | rfl | (simp; done))
                            have hS191c_1 : S191c 0 1 = 1 := by rw [hS191c]; first | rfl | (simp [zsr, zsd, zset]; done) | ((repeat rw [zset_ne _ _ (by omega)]); first | done | rfl | (simp [zsr, zsd, zset]; done)) | (unfold zsd; (repeat (first | rw [zset_self] | rw [zset_ne _ _ (by omega)])); first | done | rfl | (simp; done))
                            have hS191c_2 : S191c 0 2 = S175c 0 0 := by rw [hS191c]; first | rfl | (simp [zsr, zsd, zset]; done) | ((repeat rw [zset_ne _ _ (by omega)]); first | done | rfl | (simp [zsr, zsd, zset]; done)) | (unfold zsd; (repeat (first | rw [zset_self] | rw [zset_ne _ _ (by omega)])); first | done | rfl | (simp; done))
                            have hS191c_3 : S191c 0 3 = S175c 0 3 := by rw [hS191c]; first | rfl | (simp [zsr, zsd, zset]; done) | ((repeat rw [zset_ne _ _ (by omega)]); first | done | rfl | (simp [zsr, zsd, zset]; done)) | (unfold zsd; (repeat (first | rw [zset_self] | rw [zset_ne _ _ (by omega)])); first | done | rfl | (simp; done))
                            have hS191c_4 : S191c 0 4 = S175c 0 4 := by rw [hS191c]; first | rfl | (simp [zsr, zsd, zset]; done) | ((repeat rw [zset_ne _ _ (by omega)]); first | done | rfl | (simp [zsr, zsd, zset]; done)) | (unfold zsd; (repeat (first | rw [zset_self] | rw [zset_ne _ _ (by omega)])); first | done | rfl | (simp; done))
                            refine z_if_eq (tgt := 201) CX dX3_readSum_194 (by decide) (by constructor <;> omega) (fun c_194 => ?_) (fun c_194 => ?_)
                            ·
                              refine lv_iconst (v := zI 0) hX0 hB0 dX3_readSum_201 rfl ?_
                              rw [← hQ]
                              refine z_iret (z := 0) CX hW ?_ rfl dX3_readSum_202
                              have hz0 : zrs0 n T o.toNat Sa = (0, 0, w.toNat, S191c) := by rw [hzc]; unfold zrs2; rw [← hz137, if_pos c_140, ← hS137c, ← hS148c, ← hz159, if_pos (by omega), hbg2]; unfold zrs3; rw [← hz175, if_pos (by omega), if_neg (by omega), ← hS175c, ← hS191c]
                              have hq9 : zrs n T S = (0, S191c) := by rw [hst, hz0]; rfl
                              rw [hq9]
                              exact ⟨rfl, rfl⟩
                            ·
                              exact absurd hz191 c_194
                    ·
                      refine lv_goto (tgt := 203) hX0 hB0 dX3_readSum_143 (by decide) ?_
                      refine lv_iinc (v := zI (k + 1)) (lv' := [(2, .int (zI (k + 1))), (1, .int (zI w)), (0, .ref r)]) hX0 hB0 dX3_readSum_203 hl (k := 1) rfl (zI_add _ _) (by decide) rfl (fun ls hl => ?_)
                      refine lv_goto (tgt := 9) hX0 hB0 dX3_readSum_206 (by decide) ?_
                      exact ih9 S137c w (k + 1) ⟨by omega, by omega, by omega, by omega, by rw [hS137c]; exact hqc.tk (by decide), by have hz0 : zrs0 n T o.toNat Sa = (1, 0, w.toNat, S137c) := (by rw [hzc]; unfold zrs2; rw [← hz137, if_neg c_140, ← hS137c]); rw [hst, hz0]; rfl⟩ (by omega) H locs ls hW (lv_sub hl [0, 1, 2] rfl)
                  refine lv_iload_n hX0 hB0 dX3_readSum_84 rfl (lv_at hl 0 rfl) ?_
                  refine z_if_le (tgt := 134) CX dX3_readSum_85 (by decide) (by constructor <;> omega) (fun c_85 => ?_) (fun c_85 => ?_)
                  ·
                    exact hJ134 Sb w ⟨by omega, by omega, hqb, by rw [hzw, show w.toNat = 0 by omega, zrsW_0]⟩ H locs ls hW (lv_sub hl [0, 1, 2] rfl)
                  ·
                    refine lv_aload_n hX0 hB0 dX3_readSum_88 rfl (lv_at hl 2 rfl) ?_
                    refine lv_bipush (v := zI 41) hX0 hB0 dX3_readSum_89 (by decide) ?_
                    refine z_calli hW (va_runV (C := RX3) (As := [.int (zI 41)]) (rest := []) CX.fix (c_take l (f := f) r n T Sb 41 hT (by omega) (by omega)) (cwV 1 CX.fix.2.2.2.2 gX3_readSum_X3_take rfl rfl rfl (by decide +kernel) ⟨Nat.le_of_ble_eq_true rfl, Nat.le_of_ble_eq_true rfl⟩) (z_preV CX hW (r := (RX3, TX3, 13)) zRO_0 rfl) rfl rfl hl.1 rfl (lv_room (Nat.le_of_ble_eq_true rfl)) dX3_readSum_91 ⟨Nat.zero_le _, Nat.zero_le _⟩) (fun zv gn H locs hok91 hW => ?_)
                    obtain ⟨hz91, hg91⟩ := hok91
                    obtain ⟨z91, ezv91⟩ : ∃ q, q = zv := ⟨_, rfl⟩
                    rw [← ezv91] at hz91 ⊢
                    clear ezv91
                    rw [hg91] at hW
                    clear hg91
                    obtain ⟨S91c, hS91c⟩ : ∃ q : Nat → Nat → Int, q = (ztk n T 41 Sb).2 := ⟨_, rfl⟩
                    rw [← hS91c] at hW
                    have hS91c_1 : S91c 0 1 = Sb 0 1 := by rw [hS91c]; first | rfl | (simp [zsr, zsd, zset]; done) | (exact ztk_num n T 41 Sb (by decide))
                    have hS91c_2 : S91c 0 2 = Sb 0 2 := by rw [hS91c]; first | rfl | (simp [zsr, zsd, zset]; done) | (exact ztk_num n T 41 Sb (by decide))
                    have hS91c_3 : S91c 0 3 = Sb 0 3 := by rw [hS91c]; first | rfl | (simp [zsr, zsd, zset]; done) | (exact ztk_num n T 41 Sb (by decide))
                    have hS91c_4 : S91c 0 4 = Sb 0 4 := by rw [hS91c]; first | rfl | (simp [zsr, zsd, zset]; done) | (exact ztk_num n T 41 Sb (by decide))
                    have hb91 : z91 = 0 ∨ z91 = 1 := by rw [hz91]; exact ztk_01 n T 41 Sb
                    have htr91 := ztk_rng (T := T) (sg := 41) (show 0 ≤ Sb 0 0 ∧ Sb 0 0 ≤ n by omega) (by omega)
                    rw [← hS91c] at htr91
                    refine z_if_eq (tgt := 134) CX dX3_readSum_94 (by decide) (by constructor <;> omega) (fun c_94 => ?_) (fun c_94 => ?_)
                    ·
                      exact hJ134 S91c w ⟨by omega, by omega, by rw [hS91c]; exact hqb.tk (by decide), by rw [hzw, show w.toNat = (w - 1).toNat + 1 by omega, zrsW_a (by rw [← hz91]; exact c_94), ← hS91c]⟩ H locs ls hW (lv_sub hl [0, 1, 2] rfl)
                    ·
                      have hq91 : zqI n (S 0 3) S91c w := by rw [hS91c]; exact hqb.tk (by decide)
                      have hta : ¬ (ztk n T 41 Sb).1 = 0 := by rw [← hz91]; exact c_94
                      have hwe : w.toNat = (w - 1).toNat + 1 := by omega
                      refine lv_aload_n hX0 hB0 dX3_readSum_97 rfl (lv_at hl 2 rfl) ?_
                      refine lv_iload_n hX0 hB0 dX3_readSum_98 rfl (lv_at hl 0 rfl) ?_
                      refine z_callv hW (va_runV (C := RX3) (As := [.int (zI w)]) (rest := []) CX.fix (c_closeTerm l (f := f) r n T S91c w hT (by omega) (by omega) hq91.2.2.2.1 (hq91.2.2.1 w.toNat (by omega)).1 (hq91.2.2.1 w.toNat (by omega)).2) (cwV 1 CX.fix.2.2.2.2 gX3_readSum_X3_closeTerm rfl rfl rfl (by decide +kernel) ⟨Nat.le_of_ble_eq_true rfl, Nat.le_of_ble_eq_true rfl⟩) (z_preV CX hW (r := (RX3, TX3, 13)) zRO_0 rfl) rfl rfl hl.1 rfl (lv_room (Nat.le_of_ble_eq_true rfl)) dX3_readSum_99 ⟨Nat.zero_le _, Nat.zero_le _⟩) (fun gn H locs hok99 hW => ?_)
                      have hg99 := hok99
                      rw [hg99] at hW
                      clear hg99
                      obtain ⟨S99c, hS99c⟩ : ∃ q : Nat → Nat → Int, q = zct w.toNat S91c := ⟨_, rfl⟩
                      rw [← hS99c] at hW
                      have hS99c_0 : S99c 0 0 = S91c 0 0 := by rw [hS99c]; first | rfl | (simp [zsr, zsd, zset]; done) | (exact zct_num w.toNat S91c 0)
                      have hS99c_1 : S99c 0 1 = S91c 0 1 := by rw [hS99c]; first | rfl | (simp [zsr, zsd, zset]; done) | (exact zct_num w.toNat S91c 1)
                      have hS99c_2 : S99c 0 2 = S91c 0 2 := by rw [hS99c]; first | rfl | (simp [zsr, zsd, zset]; done) | (exact zct_num w.toNat S91c 2)
                      have hS99c_3 : S99c 0 3 = S91c 0 3 := by rw [hS99c]; first | rfl | (simp [zsr, zsd, zset]; done) | (exact zct_num w.toNat S91c 3)
                      have hS99c_4 : S99c 0 4 = S91c 0 4 := by rw [hS99c]; first | rfl | (simp [zsr, zsd, zset]; done) | (exact zct_num w.toNat S91c 4)
                      have hq99 : zqI n (S 0 3) S99c w := by rw [hS99c]; exact hq91.ct (by omega) (by omega) h3.1
                      have hst9 := hq99.2.2.2.2 (w + (-1)).toNat
                      refine lv_aload_n hX0 hB0 dX3_readSum_102 rfl (lv_at hl 2 rfl) ?_
                      refine z_get (Cn := RX3) (T := TX3) (N := 13) CX hW (v := .ref (r + 21)) zRO_0 rfl (fun w h => List.mem_cons_of_mem _ (List.mem_append_left _ (List.mem_append_left _ (List.mem_append_left _ (List.mem_append_right _ h))))) 9 (by decide) (List.mem_of_getElem? (i := 4) rfl) rfl rfl dX3_readSum_103 ?_
                      refine lv_aload_n hX0 hB0 dX3_readSum_106 rfl (lv_at hl 2 rfl) ?_
                      refine z_get (Cn := RX3) (T := TX3) (N := 13) CX hW (v := .ref (r + 17)) zRO_0 rfl (fun w h => List.mem_cons_of_mem _ (List.mem_append_left _ (List.mem_append_left _ (List.mem_append_left _ (List.mem_append_right _ h))))) 5 (by decide) (List.mem_of_getElem? (i := 5) rfl) rfl rfl dX3_readSum_107 ?_
                      refine lv_iload_n hX0 hB0 dX3_readSum_110 rfl (lv_at hl 0 rfl) ?_
                      refine z_aald (o := some (r + 27 + 4 * w.toNat)) CX hW zRO_17 3 rfl (by refine ⟨?_, ?_, ?_⟩ <;> omega) rfl dX3_readSum_111 ?_
                      refine z_callv hW (va_runV (C := RX2) (As := [.ref (r + 27 + 4 * w.toNat)]) (rest := []) CX.fix (c_copy l (f := zRO cI cP cZ r n T S99c f) (r + 21) (r + 22) (S99c 4) (r + 27 + 4 * w.toNat) (r + 27 + 4 * w.toNat + 1) (S99c (20 + w.toNat)) zRO_21 zRO_22 (zRO_s0 (k := w.toNat) (by omega)) (zRO_s1 (k := w.toNat) (by omega))) (cwV 1 CX.fix.2.2.2.2 gX3_readSum_X2_copy rfl rfl rfl (by decide +kernel) ⟨Nat.le_of_ble_eq_true rfl, Nat.le_of_ble_eq_true rfl⟩) (z_preV CX hW (r := (RX2, TX2, 1)) zRO_21 rfl) rfl rfl hl.1 rfl (lv_room (Nat.le_of_ble_eq_true rfl)) dX3_readSum_112 ⟨Nat.zero_le _, Nat.zero_le _⟩) (fun gn H locs hok112 hW => ?_)
                      have eg : gn = va_up (zRO cI cP cZ r n T S99c f) (r + 22) (zA cI 25 (S99c (20 + w.toNat))) := hok112
                      rw [eg] at hW
                      clear eg
                      refine lv_iinc (v := zI (w + (-1))) (lv' := [(1, .int (zI (w + (-1)))), (2, .int (zI k)), (0, .ref r)]) hX0 hB0 dX3_readSum_115 hl (k := 0) rfl (zI_add _ _) (by decide) rfl (fun ls hl => ?_)
                      refine lv_aload_n hX0 hB0 dX3_readSum_118 rfl (lv_at hl 2 rfl) ?_
                      refine lv_iload_n hX0 hB0 dX3_readSum_119 rfl (lv_at hl 0 rfl) ?_
                      refine lv_aload_n hX0 hB0 dX3_readSum_120 rfl (lv_at hl 2 rfl) ?_
                      refine z_get (Cn := RX3) (T := TX3) (N := 13) CX hW (v := .ref (r + 20)) ((va_up_ne _ _ (by omega)).trans zRO_0) rfl (fun w h => List.mem_cons_of_mem _ (List.mem_append_left _ (List.mem_append_left _ (List.mem_append_left _ (List.mem_append_right _ h))))) 8 (by decide) (List.mem_of_getElem? (i := 3) rfl) rfl rfl dX3_readSum_121 ?_
                      refine lv_iload_n hX0 hB0 dX3_readSum_124 rfl (lv_at hl 0 rfl) ?_
                      refine z_iald (z := (S99c 3) ((w + (-1)).toNat)) CX hW ((va_up_ne _ _ (by omega)).trans zRO_20) 0 rfl (by refine ⟨?_, ?_, ?_⟩ <;> omega) rfl dX3_readSum_125 ?_
                      have hW := hW
                      rw [zRO_w22] at hW
                      obtain ⟨S3, hS3⟩ : ∃ q : Nat → Nat → Int, q = zset S99c 4 (S99c (20 + w.toNat)) := ⟨_, rfl⟩
                      rw [← hS3] at hW
                      have hS3_0 : S3 0 0 = S99c 0 0 := by rw [hS3]; first | rfl | (simp [zsr, zsd, zset]; done) | ((repeat rw [zset_ne _ _ (by omega)]); first | done | rfl | (simp [zsr, zsd, zset]; done)) | (unfold zsd; (repeat (first | rw [zset_self] | rw [zset_ne _ _ (by omega)])); first | done | rfl | (simp; done))
                      have hS3_1 : S3 0 1 = S99c 0 1 := by rw [hS3]; first | rfl | (simp [zsr, zsd, zset]; done) | ((repeat rw [zset_ne _ _ (by omega)]); first | done | rfl | (simp [zsr, zsd, zset]; done)) | (unfold zsd; (repeat (first | rw [zset_self] | rw [zset_ne _ _ (by omega)])); first | done | rfl | (simp; done))
                      have hS3_2 : S3 0 2 = S99c 0 2 := by rw [hS3]; first | rfl | (simp [zsr, zsd, zset]; done) | ((repeat rw [zset_ne _ _ (by omega)]); first | done | rfl | (simp [zsr, zsd, zset]; done)) | (unfold zsd; (repeat (first | rw [zset_self] | rw [zset_ne _ _ (by omega)])); first | done | rfl | (simp; done))
                      have hS3_3 : S3 0 3 = S99c 0 3 := by rw [hS3]; first | rfl | (simp [zsr, zsd, zset]; done) | ((repeat rw [zset_ne _ _ (by omega)]); first | done | rfl | (simp [zsr, zsd, zset]; done)) | (unfold zsd; (repeat (first | rw [zset_self] | rw [zset_ne _ _ (by omega)])); first | done | rfl | (simp; done))
                      have hS3_4 : S3 0 4 = S99c 0 4 := by rw [hS3]; first | rfl | (simp [zsr, zsd, zset]; done) | ((repeat rw [zset_ne _ _ (by omega)]); first | done | rfl | (simp [zsr, zsd, zset]; done)) | (unfold zsd; (repeat (first | rw [zset_self] | rw [zset_ne _ _ (by omega)])); first | done | rfl | (simp; done))
                      skip
                      have hqx : zqI n (S 0 3) S3 w := by rw [hS3]; exact hq99.up (Or.inl rfl)
                      have hcx4 : zcan (S3 0 3) (S3 4) := by rw [hS3_3, hS3, zset_self]; exact (hq99.2.2.1 w.toNat (by omega)).1
                      have hcx7 : zcan (S3 0 3) (S3 (70 + (w + (-1)).toNat)) := (hqx.2.2.1 _ (by omega)).2
                      refine z_calli hW (va_runV (C := RX3) (As := [.int (zI (w + (-1))), .int (zI ((S99c 3) ((w + (-1)).toNat)))]) (rest := []) CX.fix (c_readFactor l (f := f) r n T S3 (w + (-1)) ((S99c 3) ((w + (-1)).toNat)) hT (by omega) (by omega) (by omega) (by omega) hcx4 hcx7) (cwV 2 CX.fix.2.2.2.2 gX3_readSum_X3_readFactor rfl rfl rfl (by decide +kernel) ⟨Nat.le_of_ble_eq_true rfl, Nat.le_of_ble_eq_true rfl⟩) (z_preV CX hW (r := (RX3, TX3, 13)) zRO_0 rfl) rfl rfl hl.1 rfl (lv_room (Nat.le_of_ble_eq_true rfl)) dX3_readSum_126 ⟨Nat.zero_le _, Nat.zero_le _⟩) (fun zv gn H locs hok126 hW => ?_)
                      obtain ⟨hz126, hg126⟩ := hok126
                      obtain ⟨z126, ezv126⟩ : ∃ q, q = zv := ⟨_, rfl⟩
                      rw [← ezv126] at hz126 ⊢
                      clear ezv126
                      rw [hg126] at hW
                      clear hg126
                      obtain ⟨S126c, hS126c⟩ : ∃ q : Nat → Nat → Int, q = (zrf n T ((w + (-1)).toNat) ((S99c 3) ((w + (-1)).toNat)) S3).2 := ⟨_, rfl⟩
                      rw [← hS126c] at hW
                      have hS126c_3 : S126c 0 3 = S3 0 3 := by rw [hS126c]; first | rfl | (simp [zsr, zsd, zset]; done) | (exact (zrf_sim n T ((w + (-1)).toNat) ((S99c 3) ((w + (-1)).toNat)) S3).1.1)
                      have hS126c_4 : S126c 0 4 = S3 0 4 := by rw [hS126c]; first | rfl | (simp [zsr, zsd, zset]; done) | (exact (zrf_sim n T ((w + (-1)).toNat) ((S99c 3) ((w + (-1)).toNat)) S3).1.2)
                      have hb126 : z126 = 0 ∨ z126 = 1 := by rw [hz126]; exact zrf_01 n T ((w + (-1)).toNat) ((S99c 3) ((w + (-1)).toNat)) S3
                      have hfr126 := zrf_pl (T := T) ((w + (-1)).toNat) ((S99c 3) ((w + (-1)).toNat)) (show 0 ≤ S3 0 0 ∧ S3 0 0 ≤ n by omega)
                      rw [← hS126c] at hfr126
                      have hrfe : zrf n T (w - 1).toNat (zcl ((w - 1).toNat + 1) (ztk n T 41 Sb).2 3 (w - 1).toNat) (zcl ((w - 1).toNat + 1) (ztk n T 41 Sb).2) = zrf n T (w + (-1)).toNat (S99c 3 (w + (-1)).toNat) S3 := by unfold zcl; rw [← hS91c, ← hwe, ← hS99c, ← hS3, show (w - 1).toNat = (w + (-1)).toNat by omega, hS3, zset_ne _ _ (by decide)]
                      have hq126 : zqI n (S 0 3) S126c (w + (-1)) := by rw [hS126c]; exact (hqx.less (by omega)).rf (by omega) (by omega) h3.1
                      
                      refine z_if_ne (tgt := 84) CX dX3_readSum_129 (by decide) (by constructor <;> omega) (fun c_129 => ?_) (fun c_129 => ?_)
                      ·
                        exact ih84 S126c (w + (-1)) ⟨by omega, by omega, hq126, by rw [hzw, hwe, zrsW_c hta (by rw [hrfe, ← hz126]; exact c_129), hrfe, ← hS126c, show (w + (-1)).toNat = (w - 1).toNat by omega]⟩ (by omega) H locs ls hW (lv_sub hl [0, 1, 2] rfl)
                      ·
                        refine lv_iconst (v := zI 0) hX0 hB0 dX3_readSum_132 rfl ?_
                        rw [← hQ]
                        refine z_iret (z := 0) CX hW ?_ rfl dX3_readSum_133
                        have hz0 : zrs0 n T o.toNat Sa = (0, 0, (w - 1).toNat, S126c) := by rw [hzw, hwe, zrsW_b hta (by rw [hrfe, ← hz126]; omega), hrfe, ← hS126c]
                        have hq9 : zrs n T S = (0, S126c) := by rw [hst, hz0]; rfl
                        rw [hq9]
                        exact ⟨rfl, rfl⟩
              exact hL84 _ S76c o ⟨by omega, by omega, by rw [hS76c]; exact hq67.rf (by omega) (by omega) h3.1, by unfold zrs0; rw [← hS18c, ← hz29, if_pos c_32, ← hS29c]; unfold zrs1; rw [← hz67, if_neg c_70, ← hS67c, ← hz76, if_neg c_79, ← hS76c]; rfl⟩ (Nat.lt_succ_self _) H locs ls hW (lv_sub hl [2, 1, 3] rfl)
            ·
              refine lv_iconst (v := zI 0) hX0 hB0 dX3_readSum_82 rfl ?_
              rw [← hQ]
              refine z_iret (z := 0) CX hW ?_ rfl dX3_readSum_83
              have hz0 : zrs0 n T o.toNat Sa = (0, 0, o.toNat, S76c) := by unfold zrs0; rw [← hS18c, ← hz29, if_pos c_32, ← hS29c]; unfold zrs1; rw [← hz67, if_neg c_70, ← hS67c, ← hz76, if_pos (by omega), ← hS76c]
              have hq9 : zrs n T S = (0, S76c) := by rw [hst, hz0]; rfl
              rw [hq9]
              exact ⟨rfl, rfl⟩
        ·
          refine lv_iload_n hX0 hB0 dX3_readSum_35 rfl (lv_at hl 2 rfl) ?_
          refine lv_bipush (v := zI 40) hX0 hB0 dX3_readSum_36 (by decide) ?_
          refine z_icmp_lt (tgt := 48) CX dX3_readSum_38 (by decide) (by constructor <;> omega) (by constructor <;> omega) (fun c_38 => ?_) (fun c_38 => ?_)
          ·
            refine lv_aload_n hX0 hB0 dX3_readSum_48 rfl (lv_at hl 3 rfl) ?_
            refine z_get (Cn := RX3) (T := TX3) (N := 13) CX hW (v := .ref (r + 20)) zRO_0 rfl (fun w h => List.mem_cons_of_mem _ (List.mem_append_left _ (List.mem_append_left _ (List.mem_append_left _ (List.mem_append_right _ h))))) 8 (by decide) (List.mem_of_getElem? (i := 3) rfl) rfl rfl dX3_readSum_49 ?_
            refine lv_iload_n hX0 hB0 dX3_readSum_52 rfl (lv_at hl 2 rfl) ?_
            refine lv_iload_n hX0 hB0 dX3_readSum_53 rfl (lv_at hl 0 rfl) ?_
            refine z_iast CX hW zRO_20 0 rfl (by refine ⟨?_, ?_, ?_⟩ <;> omega) (g := va_up (zRO cI cP cZ r n T S29c f) (r + 20) (zA cI 41 (zup (S29c 3) o.toNat (S18c 0 0)))) rfl dX3_readSum_54 (fun H locs hW => ?_)
            refine lv_iinc (v := zI (o + 1)) (lv' := [(1, .int (zI (o + 1))), (3, .int (zI (S18c 0 0))), (2, .int (zI k)), (0, .ref r)]) hX0 hB0 dX3_readSum_55 hl (k := 2) rfl (zI_add _ _) (by decide) rfl (fun ls hl => ?_)
            refine lv_aload_n hX0 hB0 dX3_readSum_58 rfl (lv_at hl 3 rfl) ?_
            refine lv_iload_n hX0 hB0 dX3_readSum_59 rfl (lv_at hl 0 rfl) ?_
            have hW := hW
            rw [zRO_w20] at hW
            obtain ⟨S4, hS4⟩ : ∃ q : Nat → Nat → Int, q = zset S29c 3 (zup (S29c 3) o.toNat (S18c 0 0)) := ⟨_, rfl⟩
            rw [← hS4] at hW
            have hS4_0 : S4 0 0 = S29c 0 0 := by rw [hS4]; first | rfl | (simp [zsr, zsd, zset]; done) | ((repeat rw [zset_ne _ _ (by omega)]); first | done | rfl | (simp [zsr, zsd, zset]; done)) | (unfold zsd; (repeat (first | rw [zset_self] | rw [zset_ne _ _ (by omega)])); first | done | rfl | (simp; done))
            have hS4_1 : S4 0 1 = S29c 0 1 := by rw [hS4]; first | rfl | (simp [zsr, zsd, zset]; done) | ((repeat rw [zset_ne _ _ (by omega)]); first | done | rfl | (simp [zsr, zsd, zset]; done)) | (unfold zsd; (repeat (first | rw [zset_self] | rw [zset_ne _ _ (by omega)])); first | done | rfl | (simp; done))
            have hS4_2 : S4 0 2 = S29c 0 2 := by rw [hS4]; first | rfl | (simp [zsr, zsd, zset]; done) | ((repeat rw [zset_ne _ _ (by omega)]); first | done | rfl | (simp [zsr, zsd, zset]; done)) | (unfold zsd; (repeat (first | rw [zset_self] | rw [zset_ne _ _ (by omega)])); first | done | rfl | (simp; done))
            have hS4_3 : S4 0 3 = S29c 0 3 := by rw [hS4]; first | rfl | (simp [zsr, zsd, zset]; done) | ((repeat rw [zset_ne _ _ (by omega)]); first | done | rfl | (simp [zsr, zsd, zset]; done)) | (unfold zsd; (repeat (first | rw [zset_self] | rw [zset_ne _ _ (by omega)])); first | done | rfl | (simp; done))
            have hS4_4 : S4 0 4 = S29c 0 4 := by rw [hS4]; first | rfl | (simp [zsr, zsd, zset]; done) | ((repeat rw [zset_ne _ _ (by omega)]); first | done | rfl | (simp [zsr, zsd, zset]; done)) | (unfold zsd; (repeat (first | rw [zset_self] | rw [zset_ne _ _ (by omega)])); first | done | rfl | (simp; done))
            skip
            refine z_callv hW (va_runV (C := RX3) (As := [.int (zI (o + 1))]) (rest := []) CX.fix (c_begin l (f := f) r n T S4 (o + 1) hT (by omega) (by omega)) (cwV 1 CX.fix.2.2.2.2 gX3_readSum_X3_begin rfl rfl rfl (by decide +kernel) ⟨Nat.le_of_ble_eq_true rfl, Nat.le_of_ble_eq_true rfl⟩) (z_preV CX hW (r := (RX3, TX3, 13)) zRO_0 rfl) rfl rfl hl.1 rfl (lv_room (Nat.le_of_ble_eq_true rfl)) dX3_readSum_60 ⟨Nat.zero_le _, Nat.zero_le _⟩) (fun gn H locs hok60 hW => ?_)
            have hg60 := hok60
            rw [hg60] at hW
            clear hg60
            obtain ⟨S60c, hS60c⟩ : ∃ q : Nat → Nat → Int, q = zbg n T ((o + 1).toNat) S4 := ⟨_, rfl⟩
            rw [← hS60c] at hW
            have hS60c_1 : S60c 0 1 = S4 0 1 := by rw [hS60c]; first | rfl | (simp [zsr, zsd, zset]; done) | (exact zbg_num n T ((o + 1).toNat) S4 (by decide))
            have hS60c_2 : S60c 0 2 = S4 0 2 := by rw [hS60c]; first | rfl | (simp [zsr, zsd, zset]; done) | (exact zbg_num n T ((o + 1).toNat) S4 (by decide))
            have hS60c_3 : S60c 0 3 = S4 0 3 := by rw [hS60c]; first | rfl | (simp [zsr, zsd, zset]; done) | (exact zbg_num n T ((o + 1).toNat) S4 (by decide))
            have hS60c_4 : S60c 0 4 = S4 0 4 := by rw [hS60c]; first | rfl | (simp [zsr, zsd, zset]; done) | (exact zbg_num n T ((o + 1).toNat) S4 (by decide))
            have hbr60 := zbg_pl (T := T) ((o + 1).toNat) (show 0 ≤ S4 0 0 ∧ S4 0 0 ≤ n by omega)
            rw [← hS60c] at hbr60
            obtain ⟨S9, hS9⟩ : ∃ q : Nat → Nat → Int, q = zset Sa 5 (zone 1) := ⟨_, rfl⟩
            refine lv_goto (tgt := 203) hX0 hB0 dX3_readSum_63 (by decide) ?_
            refine lv_iinc (v := zI (k + 1)) (lv' := [(2, .int (zI (k + 1))), (1, .int (zI (o + 1))), (3, .int (zI (S18c 0 0))), (0, .ref r)]) hX0 hB0 dX3_readSum_203 hl (k := 2) rfl (zI_add _ _) (by decide) rfl (fun ls hl => ?_)
            refine lv_goto (tgt := 9) hX0 hB0 dX3_readSum_206 (by decide) ?_
            exact ih9 S60c (o + 1) (k + 1) ⟨by omega, by omega, by omega, by omega, by rw [hS60c, show (o + 1).toNat = o.toNat + 1 by omega]; exact (show ((o.toNat + 1 : Nat) : Int) = o + 1 by omega) ▸ zqI.bg (o := o.toNat + 1) (by rw [show ((o.toNat + 1 : Nat) : Int) - 1 = o by omega, hS4, hS29c, hS18c]; exact (hq.sk.tk (by decide)).st (by have := (hq.sk (T := T)).1; omega)) (by omega) h3.1, by have hz0 : zrs0 n T o.toNat Sa = (1, 0, (o + 1).toNat, S60c) := (by unfold zrs0; rw [← hS18c, ← hz29, if_neg c_32, if_neg (by omega), ← hS29c, hS60c, hS4, show (o + 1).toNat = o.toNat + 1 by omega]); rw [hst, hz0]; rfl⟩ (by omega) H locs ls hW (lv_sub hl [0, 1, 3] rfl)
          ·
            refine lv_aload_n hX0 hB0 dX3_readSum_41 rfl (lv_at hl 3 rfl) ?_
            refine lv_iconst (v := zI 4) hX0 hB0 dX3_readSum_42 rfl ?_
            refine lv_iload_n hX0 hB0 dX3_readSum_43 rfl (lv_at hl 0 rfl) ?_
            refine z_calli hW (va_runV (C := RX3) (As := [.int (zI 4), .int (zI (S18c 0 0))]) (rest := []) CX.fix (c_fail l (f := f) r n T S29c 4 (S18c 0 0) hT (by constructor <;> omega) (by constructor <;> omega)) (cwV 2 CX.fix.2.2.2.2 gX3_readSum_X3_fail rfl rfl rfl (by decide +kernel) ⟨Nat.le_of_ble_eq_true rfl, Nat.le_of_ble_eq_true rfl⟩) (z_preV CX hW (r := (RX3, TX3, 13)) zRO_0 rfl) rfl rfl hl.1 rfl (lv_room (Nat.le_of_ble_eq_true rfl)) dX3_readSum_44 ⟨Nat.zero_le _, Nat.zero_le _⟩) (fun zv gn H locs hok44 hW => ?_)
            obtain ⟨hz44, hg44⟩ := hok44
            obtain ⟨z44, ezv44⟩ : ∃ q, q = zv := ⟨_, rfl⟩
            rw [← ezv44] at hz44 ⊢
            clear ezv44
            rw [hg44] at hW
            clear hg44
            obtain ⟨S44c, hS44c⟩ : ∃ q : Nat → Nat → Int, q = zfl 4 (S18c 0 0) S29c := ⟨_, rfl⟩
            rw [← hS44c] at hW
            have hS44c_0 : S44c 0 0 = S29c 0 0 := by rw [hS44c]; first | rfl | (simp [zsr, zsd, zset]; done) | ((repeat rw [zset_ne _ _ (by omega)]); first | done | rfl | (simp [zsr, zsd, zset]; done)) | (unfold zsd; (repeat (first | rw [zset_self] | rw [zset_ne _ _ (by omega)])); first | done | rfl | (simp; done))
            have hS44c_1 : S44c 0 1 = 4 := by rw [hS44c]; first | rfl | (simp [zsr, zsd, zset]; done) | ((repeat rw [zset_ne _ _ (by omega)]); first | done | rfl | (simp [zsr, zsd, zset]; done)) | (unfold zsd; (repeat (first | rw [zset_self] | rw [zset_ne _ _ (by omega)])); first | done | rfl | (simp; done))
            have hS44c_2 : S44c 0 2 = S18c 0 0 := by rw [hS44c]; first | rfl | (simp [zsr, zsd, zset]; done) | ((repeat rw [zset_ne _ _ (by omega)]); first | done | rfl | (simp [zsr, zsd, zset]; done)) | (unfold zsd; (repeat (first | rw [zset_self] | rw [zset_ne _ _ (by omega)])); first | done | rfl | (simp; done))
            have hS44c_3 : S44c 0 3 = S29c 0 3 := by rw [hS44c]; first | rfl | (simp [zsr, zsd, zset]; done) | ((repeat rw [zset_ne _ _ (by omega)]); first | done | rfl | (simp [zsr, zsd, zset]; done)) | (unfold zsd; (repeat (first | rw [zset_self] | rw [zset_ne _ _ (by omega)])); first | done | rfl | (simp; done))
            have hS44c_4 : S44c 0 4 = S29c 0 4 := by rw [hS44c]; first | rfl | (simp [zsr, zsd, zset]; done) | ((repeat rw [zset_ne _ _ (by omega)]); first | done | rfl | (simp [zsr, zsd, zset]; done)) | (unfold zsd; (repeat (first | rw [zset_self] | rw [zset_ne _ _ (by omega)])); first | done | rfl | (simp; done))
            rw [← hQ]
            refine z_iret (z := z44) CX hW ?_ (zI_bool (by omega)) dX3_readSum_47
            have hz0 : zrs0 n T o.toNat Sa = (0, 0, o.toNat, S44c) := by unfold zrs0; rw [← hS18c, ← hz29, if_neg c_32, if_pos (by omega), ← hS29c, ← hS44c]
            have hq9 : zrs n T S = (0, S44c) := by rw [hst, hz0]; rfl
            rw [hq9]
            exact ⟨hz44, rfl⟩
  exact hL9 _ S4c 0 0 ⟨by omega, by omega, by omega, by omega, by rw [hS4c]; exact zqI.bg (o := 0) ⟨hpl, rfl, fun q hq9 => by omega, hmi, hsi⟩ (by decide) h3.1, by rw [hS4c]; rfl⟩ (Nat.lt_succ_self _) H locs ls hW (lv_sub hl [0, 1, 2] rfl)
end ZTx5
