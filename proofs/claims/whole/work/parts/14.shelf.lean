section ZSq
theorem zShelf.put {cI cP : ClassId} {f : Nat → va_E} {a : Nat} {p n : Int} {C : Nat → Nat → Int} {lt c : Nat → Int} {j : Nat} (h : zShelf cI cP f a p n C lt) (hj : j < 6) : zShelf cI cP (va_up f (a + 3 + 2 * j + 1) (zA cI 25 c)) a p n (zset C j c) lt :=
  ⟨(va_up_ne _ _ (by omega)).trans h.1, (va_up_ne _ _ (by omega)).trans h.2.1, (va_up_ne _ _ (by omega)).trans h.2.2.1, fun k hk => ⟨(va_up_ne _ _ (by omega)).trans (h.2.2.2 k hk).1, by
    by_cases e : k = j
    · rw [e, va_up_self, zset_self]
    · rw [va_up_ne _ _ (by omega), zset_ne _ _ e]
      exact (h.2.2.2 k hk).2⟩⟩
theorem zShelf.lt {cI cP : ClassId} {f : Nat → va_E} {a : Nat} {p n : Int} {C : Nat → Nat → Int} {lt l2 : Nat → Int} (h : zShelf cI cP f a p n C lt) : zShelf cI cP (va_up f (a + 2) (zA cI 36 l2)) a p n C l2 :=
  ⟨(va_up_ne _ _ (by omega)).trans h.1, (va_up_ne _ _ (by omega)).trans h.2.1, va_up_self _ _ _, fun k hk => ⟨(va_up_ne _ _ (by omega)).trans (h.2.2.2 k hk).1, (va_up_ne _ _ (by omega)).trans (h.2.2.2 k hk).2⟩⟩
theorem zShelf.hd {cI cP : ClassId} {f : Nat → va_E} {a : Nat} {p n p2 n2 : Int} {C : Nat → Nat → Int} {lt : Nat → Int} (h : zShelf cI cP f a p n C lt) : zShelf cI cP (va_up f a (.inr (7, [.int (zI p2), .int (zI n2), .ref (a + 1), .ref (a + 2)]))) a p2 n2 C lt :=
  ⟨va_up_self _ _ _, (va_up_ne _ _ (by omega)).trans h.2.1, (va_up_ne _ _ (by omega)).trans h.2.2.1, fun k hk => ⟨(va_up_ne _ _ (by omega)).trans (h.2.2.2 k hk).1, (va_up_ne _ _ (by omega)).trans (h.2.2.2 k hk).2⟩⟩
/-- a NAME of no letters -/
def zclr (n : Int) (lt : Nat → Int) (k : Int) : Nat → Int := zfor (fun i t => zsetL n t i 0) 0 lt (k - 0).toNat
theorem zclr_s (n : Int) (lt : Nat → Int) {k : Int} (h : 0 ≤ k) : zclr n lt (k + 1) = zsetL n (zclr n lt k) k 0 := zfor_s _ _ _ h
/-- what a CURVE that goes leaves -/
def zremC (C : Nat → Nat → Int) (i k : Int) : Nat → Nat → Int := zfor (fun (k : Int) (C : Nat → Nat → Int) => zset C k.toNat (C (k + 1).toNat)) i C (k - i).toNat
theorem zremC_s (C : Nat → Nat → Int) {i k : Int} (h : i ≤ k) : zremC C i (k + 1) = zset (zremC C i k) k.toNat (zremC C i k (k + 1).toNat) := zfor_s _ _ _ h
def zremL (lt : Nat → Int) (i k : Int) : Nat → Int := zfor (fun (k : Int) (t : Nat → Int) => zcpy t t ((k + 1) * 6).toNat (k * 6).toNat (6 : Int).toNat) i lt (k - i).toNat
theorem zremL_s (lt : Nat → Int) {i k : Int} (h : i ≤ k) : zremL lt i (k + 1) = zcpy (zremL lt i k) (zremL lt i k) ((k + 1) * 6).toNat (k * 6).toNat (6 : Int).toNat := zfor_s _ _ _ h
theorem zremC_0 (C : Nat → Nat → Int) (i : Int) : zremC C i i = C := zfor_0 _ _ _
theorem zremL_0 (lt : Nat → Int) (i : Int) : zremL lt i i = lt := zfor_0 _ _ _
set_option maxRecDepth 100000 in
set_option maxHeartbeats 4000000 in
/-- Shelf.add -/
theorem c_shelfadd (l : Launch) {D : va_G} {cI cJ cZ cP cS cM : ClassId} {L : List Nat} {sz : Nat} {f : Nat → va_E} (a : Nat) (p n : Int) (C : Nat → Nat → Int) (lt : Nat → Int) (h1 ha : Nat) (d : Nat → Int) (hS : zShelf cI cP f a p n C lt) (hn : 0 ≤ n ∧ n ≤ 6) (hg0 : f h1 = .inr (2, [.ref ha])) (hg1 : f ha = zA cI 25 d) (hd1 : h1 < a ∨ a + 15 ≤ h1) (hd2 : ha < a ∨ a + 15 ≤ ha) : zMi l yX7_add wsX7_add 2 53 D (zT cI cJ cZ cP cS cM) L sz f [.ref a, .ref h1] (fun z g => (6 ≤ n → z = -1 ∧ g = f) ∧ (n < 6 → z = n ∧ zFr f g a (a + 15) ∧ zShelf cI cP g a p (n + 1) (zset C n.toNat d) (zclr n lt 6))) := by
  refine zWalk.met (nL := 3) (ret := (some .int)) (cc := cX7_add) (by decide) rfl (Nat.le_of_ble_eq_true rfl) ?_
  intro pg en st mi ag bl mt cd ls CX hW hl
  have CX : zC pg st mi ag mt cd cX7_add 3 (some .int) RX7 wsX7_add := CX
  generalize hQ : MQ bl _ ag st 0 0 _ = Q
  have hX0 := CX.1
  have hB0 := CX.2.1
  have hl : lv_has ls 3 [(0, .ref a), (1, .ref h1)] := hl
  obtain ⟨H, eH⟩ : ∃ H, H = st.heap := ⟨_, rfl⟩
  obtain ⟨locs, eL⟩ : ∃ L : List Loc, L = [] := ⟨_, rfl⟩
  have hW : zW D (zT cI cJ cZ cP cS cM) L (zQ L sz) st f st.heap H locs := by rw [eH, eL]; exact hW
  suffices hgo : W pg l en ({ frames := 2, cells := 0, slots := 0, locals := 53 } : Room) st mi ag bl mt cd H locs 0 0 Q (F0 mi 0 ls []) by rw [eH, eL] at hgo; exact hgo
  clear eH eL
  refine lv_aload_n hX0 hB0 dX7_add_0 rfl (lv_at hl 0 rfl) ?_
  refine z_get (Cn := RX7) (T := TX7) (N := 4) CX hW (v := .int (zI n)) hS.1 rfl (fun w h => List.mem_cons_of_mem _ (List.mem_append_left _ (List.mem_append_right _ h))) 1 (by decide) (List.mem_of_getElem? (i := 1) rfl) rfl rfl dX7_add_1 ?_
  refine lv_bipush (v := zI 6) hX0 hB0 dX7_add_4 (by decide) ?_
  refine z_icmp_lt (tgt := 11) CX dX7_add_6 (by decide) (by constructor <;> omega) (by constructor <;> omega) (fun c_6 => ?_) (fun c_6 => ?_)
  ·
    refine lv_aload_n hX0 hB0 dX7_add_11 rfl (lv_at hl 0 rfl) ?_
    refine z_get (Cn := RX7) (T := TX7) (N := 4) CX hW (v := .ref (a + 1)) hS.1 rfl (fun w h => List.mem_cons_of_mem _ (List.mem_append_left _ (List.mem_append_right _ h))) 2 (by decide) (List.mem_of_getElem? (i := 2) rfl) rfl rfl dX7_add_12 ?_
    refine lv_aload_n hX0 hB0 dX7_add_15 rfl (lv_at hl 0 rfl) ?_
    refine z_get (Cn := RX7) (T := TX7) (N := 4) CX hW (v := .int (zI n)) hS.1 rfl (fun w h => List.mem_cons_of_mem _ (List.mem_append_left _ (List.mem_append_right _ h))) 1 (by decide) (List.mem_of_getElem? (i := 1) rfl) rfl rfl dX7_add_16 ?_
    refine z_aald (o := some (a + 3 + 2 * n.toNat)) CX hW hS.2.1 3 rfl (by refine ⟨?_, ?_, ?_⟩ <;> omega) rfl dX7_add_19 ?_
    refine lv_aload_n hX0 hB0 dX7_add_20 rfl (lv_at hl 1 rfl) ?_
    refine z_callv hW (va_runV (C := RX2) (As := [.ref h1]) (rest := []) CX.fix (c_copy l (f := f) (a + 3 + 2 * n.toNat) (a + 3 + 2 * n.toNat + 1) (C n.toNat) h1 ha d (hS.2.2.2 n.toNat (by omega)).1 (hS.2.2.2 n.toNat (by omega)).2 hg0 hg1) (cwV 1 CX.fix.2.2.2.2 gX7_add_X2_copy rfl rfl rfl (by decide +kernel) ⟨Nat.le_of_ble_eq_true rfl, Nat.le_of_ble_eq_true rfl⟩) (z_preV CX hW (r := (RX2, TX2, 1)) (hS.2.2.2 n.toNat (by omega)).1 rfl) rfl rfl hl.1 rfl (lv_room (Nat.le_of_ble_eq_true rfl)) dX7_add_21 ⟨Nat.zero_le _, Nat.zero_le _⟩) (fun gn H locs hok21 hW => ?_)
    have eg : gn = va_up f (a + 3 + 2 * n.toNat + 1) (zA cI 25 d) := hok21
    rw [eg] at hW
    clear eg
    refine lv_iconst (v := zI 0) hX0 hB0 dX7_add_24 rfl ?_
    refine lv_istore_n (lv' := [(2, .int (zI 0)), (0, .ref a), (1, .ref h1)]) hX0 hB0 dX7_add_25 rfl hl (by decide) rfl (fun ls hl => ?_)
    have hL26 : ∀ (fu : Nat) (k : Int) (g : Nat → va_E), (0 ≤ k ∧ k ≤ 6 ∧ n < 6 ∧ zFr f g a (a + 15) ∧ zShelf cI cP g a p n (zset C n.toNat d) (zclr n lt k)) → (6 - k).toNat < fu → ∀ (H : Heap) (locs : List Loc) (ls : Array Slot), zW D (zT cI cJ cZ cP cS cM) L (zQ L sz) st g st.heap H locs → lv_has ls 3 [(2, .int (zI k)), (0, .ref a), (1, .ref h1)] → W pg l en ({ frames := 2, cells := 0, slots := 0, locals := 53 } : Room) st mi ag bl mt cd H locs 0 0 Q (F0 mi 26 ls []) := by
      intro fu
      induction fu with
      | zero => intro k g _ hfu; exact absurd hfu (Nat.not_lt_zero _)
      | succ fu ih26 =>
        intro k g hinv26 hfu26 H locs ls hW hl
        obtain ⟨hk0, hk1, hn6, hfr, hg⟩ := hinv26
        refine lv_iload_n hX0 hB0 dX7_add_26 rfl (lv_at hl 0 rfl) ?_
        refine lv_bipush (v := zI 6) hX0 hB0 dX7_add_27 (by decide) ?_
        refine z_icmp_ge (tgt := 44) CX dX7_add_29 (by decide) (by constructor <;> omega) (by constructor <;> omega) (fun c_29 => ?_) (fun c_29 => ?_)
        ·
          refine lv_aload_n hX0 hB0 dX7_add_44 rfl (lv_at hl 1 rfl) ?_
          refine lv_dup hX0 hB0 dX7_add_45 rfl ?_
          refine z_get (Cn := RX7) (T := TX7) (N := 4) CX hW (v := .int (zI n)) hg.1 rfl (fun w h => List.mem_cons_of_mem _ (List.mem_append_left _ (List.mem_append_right _ h))) 1 (by decide) (List.mem_of_getElem? (i := 1) rfl) rfl rfl dX7_add_46 ?_
          refine lv_iconst (v := zI 1) hX0 hB0 dX7_add_49 rfl ?_
          refine z_iadd (z := n + 1) CX dX7_add_50 rfl ?_
          refine z_put (Cn := RX7) (T := TX7) (N := 4) CX hW (v := .int (zI (n + 1))) hg.1 rfl (fun w h => List.mem_cons_of_mem _ (List.mem_append_left _ (List.mem_append_right _ h))) tyX7 tyX7_ok nmX7 1 (by decide) (List.mem_of_getElem? (i := 1) rfl) rfl rfl rfl rfl (Nat.le_of_ble_eq_true rfl) (g := va_up g a (.inr (7, [.int (zI p), .int (zI (n + 1)), .ref (a + 1), .ref (a + 2)]))) rfl dX7_add_51 (fun H locs hW => ?_)
          refine lv_aload_n hX0 hB0 dX7_add_54 rfl (lv_at hl 1 rfl) ?_
          refine z_get (Cn := RX7) (T := TX7) (N := 4) CX hW (v := .int (zI (n + 1))) (va_up_self _ _ _) rfl (fun w h => List.mem_cons_of_mem _ (List.mem_append_left _ (List.mem_append_right _ h))) 1 (by decide) (List.mem_of_getElem? (i := 1) rfl) rfl rfl dX7_add_55 ?_
          refine lv_iconst (v := zI 1) hX0 hB0 dX7_add_58 rfl ?_
          refine z_isub (z := (n + 1) - 1) CX dX7_add_59 rfl ?_
          rw [← hQ]
          exact z_iret (z := (n + 1) - 1) CX hW (by exact ⟨fun h => by omega, fun _ => ⟨by omega, hfr.up (by omega), by rw [show (6 : Int) = k by omega]; exact hg.hd⟩⟩) rfl dX7_add_60
        ·
          refine lv_aload_n hX0 hB0 dX7_add_32 rfl (lv_at hl 1 rfl) ?_
          refine lv_iload_n hX0 hB0 dX7_add_33 rfl (lv_at hl 0 rfl) ?_
          refine lv_iconst (v := zI 0) hX0 hB0 dX7_add_34 rfl ?_
          refine z_callv hW (va_runV (C := RX7) (As := [.int (zI k), .int (zI 0)]) (rest := []) CX.fix (c_setLetter l (f := g) a p n ((zset C n.toNat d)) ((zclr n lt k)) k 0 ⟨hg.1, hg.2.1, hg.2.2.1, fun j hj => ⟨(hg.2.2.2 j hj).1, (hg.2.2.2 j hj).2⟩⟩ (by constructor <;> omega) (by constructor <;> omega)) (cwV 2 CX.fix.2.2.2.2 gX7_add_X7_setLetter rfl rfl rfl (by decide +kernel) ⟨Nat.le_of_ble_eq_true rfl, Nat.le_of_ble_eq_true rfl⟩) (z_preV CX hW (r := (RX7, TX7, 4)) hg.1 rfl) rfl rfl hl.1 rfl (lv_room (Nat.le_of_ble_eq_true rfl)) dX7_add_35 ⟨Nat.zero_le _, Nat.zero_le _⟩) (fun gn H locs hok35 hW => ?_)
          have eg : gn = va_up g (a + 2) (zA cI 36 (zsetL n ((zclr n lt k)) k 0)) := hok35
          rw [eg] at hW
          clear eg
          refine lv_iinc (v := zI (k + 1)) (lv' := [(2, .int (zI (k + 1))), (0, .ref a), (1, .ref h1)]) hX0 hB0 dX7_add_38 hl (k := 0) rfl (zI_add _ _) (by decide) rfl (fun ls hl => ?_)
          refine lv_goto (tgt := 26) hX0 hB0 dX7_add_41 (by decide) ?_
          exact ih26 (k + 1) (va_up g (a + 2) (zA cI 36 (zsetL n ((zclr n lt k)) k 0))) ⟨by omega, by omega, by omega, hfr.up (by omega), by rw [zclr_s n lt hk0]; exact hg.lt⟩ (by omega) H locs ls hW (lv_sub hl [0, 1, 2] rfl)
    exact hL26 _ 0 (va_up f (a + 3 + 2 * n.toNat + 1) (zA cI 25 d)) ⟨by omega, by omega, by omega, zFr.refl.up (by omega), hS.put (by omega)⟩ (Nat.lt_succ_self _) H locs ls hW (lv_sub hl [0, 1, 2] rfl)
  ·
    refine lv_iconst (v := zI (-1)) hX0 hB0 dX7_add_9 rfl ?_
    rw [← hQ]
    exact z_iret (z := -1) CX hW (by exact ⟨fun _ => ⟨rfl, rfl⟩, fun h => by omega⟩) rfl dX7_add_10
set_option maxRecDepth 100000 in
set_option maxHeartbeats 4000000 in
/-- Shelf.remove -/
theorem c_shelfremove (l : Launch) {D : va_G} {cI cJ cZ cP cS cM : ClassId} {L : List Nat} {sz : Nat} {f : Nat → va_E} (a : Nat) (p n : Int) (C : Nat → Nat → Int) (lt : Nat → Int) (i : Int) (hS : zShelf cI cP f a p n C lt) (hn : 0 ≤ n ∧ n ≤ 6) (hi : -2147483648 ≤ i ∧ i ≤ 2147483647) : zMv l yX7_remove wsX7_remove 2 53 D (zT cI cJ cZ cP cS cM) L sz f [.ref a, .int (zI i)] (fun g => (¬ (0 ≤ i ∧ i < n) → g = f) ∧ ((0 ≤ i ∧ i < n) → zFr f g a (a + 15) ∧ zShelf cI cP g a p (n - 1) (zremC C i (n - 1)) (zremL lt i (n - 1)))) := by
  refine zWalk.met (nL := 3) (ret := none) (cc := cX7_remove) (by decide) rfl (Nat.le_of_ble_eq_true rfl) ?_
  intro pg en st mi ag bl mt cd ls CX hW hl
  have CX : zC pg st mi ag mt cd cX7_remove 3 none RX7 wsX7_remove := CX
  generalize hQ : MQ bl _ ag st 0 0 _ = Q
  have hX0 := CX.1
  have hB0 := CX.2.1
  have hl : lv_has ls 3 [(0, .ref a), (1, .int (zI i))] := hl
  obtain ⟨H, eH⟩ : ∃ H, H = st.heap := ⟨_, rfl⟩
  obtain ⟨locs, eL⟩ : ∃ L : List Loc, L = [] := ⟨_, rfl⟩
  have hW : zW D (zT cI cJ cZ cP cS cM) L (zQ L sz) st f st.heap H locs := by rw [eH, eL]; exact hW
  suffices hgo : W pg l en ({ frames := 2, cells := 0, slots := 0, locals := 53 } : Room) st mi ag bl mt cd H locs 0 0 Q (F0 mi 0 ls []) by rw [eH, eL] at hgo; exact hgo
  clear eH eL
  refine lv_aload_n hX0 hB0 dX7_remove_0 rfl (lv_at hl 0 rfl) ?_
  refine lv_iload_n hX0 hB0 dX7_remove_1 rfl (lv_at hl 1 rfl) ?_
  refine z_callr hW (va_runV (C := RX7) (As := [.int (zI i)]) (rest := []) CX.fix (c_find l (f := f) a p n C lt i hS (by constructor <;> omega) (by constructor <;> omega)) (cwV 1 CX.fix.2.2.2.2 gX7_remove_X7_find rfl rfl rfl (by decide +kernel) ⟨Nat.le_of_ble_eq_true rfl, Nat.le_of_ble_eq_true rfl⟩) (z_preV CX hW (r := (RX7, TX7, 4)) hS.1 rfl) rfl rfl hl.1 rfl (lv_room (Nat.le_of_ble_eq_true rfl)) dX7_remove_2 ⟨Nat.zero_le _, Nat.zero_le _⟩) (fun zv gn H locs hok2 hW => ?_)
  obtain ⟨ez, eg⟩ := hok2
  have eg : gn = f := eg
  rw [eg] at hW
  clear eg
  by_cases hq2 : 0 ≤ i ∧ i < n ∧ i < 6
  ·
    have ez : zv = some (a + 3 + 2 * i.toNat) := ez.trans (if_pos hq2)
    rw [ez]
    clear ez
    refine lv_ifnonnull (tgt := 9) hX0 hB0 dX7_remove_5 (by decide) ?_
    refine lv_iload_n hX0 hB0 dX7_remove_9 rfl (lv_at hl 1 rfl) ?_
    refine lv_istore_n (lv' := [(2, .int (zI i)), (0, .ref a), (1, .int (zI i))]) hX0 hB0 dX7_remove_10 rfl hl (by decide) rfl (fun ls hl => ?_)
    have hL11 : ∀ (fu : Nat) (k : Int) (g : Nat → va_E), (i ≤ k ∧ k ≤ n - 1 ∧ 0 ≤ i ∧ zFr f g a (a + 15) ∧ zShelf cI cP g a p n (zremC C i k) (zremL lt i k)) → (6 - k).toNat < fu → ∀ (H : Heap) (locs : List Loc) (ls : Array Slot), zW D (zT cI cJ cZ cP cS cM) L (zQ L sz) st g st.heap H locs → lv_has ls 3 [(2, .int (zI k)), (0, .ref a), (1, .int (zI i))] → W pg l en ({ frames := 2, cells := 0, slots := 0, locals := 53 } : Room) st mi ag bl mt cd H locs 0 0 Q (F0 mi 11 ls []) := by
      intro fu
      induction fu with
      | zero => intro k g _ hfu; exact absurd hfu (Nat.not_lt_zero _)
      | succ fu ih11 =>
        intro k g hinv11 hfu11 H locs ls hW hl
        obtain ⟨hk0, hk1, hi, hfr, hg⟩ := hinv11
        refine lv_iload_n hX0 hB0 dX7_remove_11 rfl (lv_at hl 0 rfl) ?_
        refine lv_aload_n hX0 hB0 dX7_remove_12 rfl (lv_at hl 1 rfl) ?_
        refine z_get (Cn := RX7) (T := TX7) (N := 4) CX hW (v := .int (zI n)) hg.1 rfl (fun w h => List.mem_cons_of_mem _ (List.mem_append_left _ (List.mem_append_right _ h))) 1 (by decide) (List.mem_of_getElem? (i := 1) rfl) rfl rfl dX7_remove_13 ?_
        refine lv_iconst (v := zI 1) hX0 hB0 dX7_remove_16 rfl ?_
        refine z_isub (z := n - 1) CX dX7_remove_17 rfl ?_
        refine z_icmp_ge (tgt := 72) CX dX7_remove_18 (by decide) (by constructor <;> omega) (by constructor <;> omega) (fun c_18 => ?_) (fun c_18 => ?_)
        ·
          refine lv_aload_n hX0 hB0 dX7_remove_72 rfl (lv_at hl 1 rfl) ?_
          refine lv_dup hX0 hB0 dX7_remove_73 rfl ?_
          refine z_get (Cn := RX7) (T := TX7) (N := 4) CX hW (v := .int (zI n)) hg.1 rfl (fun w h => List.mem_cons_of_mem _ (List.mem_append_left _ (List.mem_append_right _ h))) 1 (by decide) (List.mem_of_getElem? (i := 1) rfl) rfl rfl dX7_remove_74 ?_
          refine lv_iconst (v := zI 1) hX0 hB0 dX7_remove_77 rfl ?_
          refine z_isub (z := n - 1) CX dX7_remove_78 rfl ?_
          refine z_put (Cn := RX7) (T := TX7) (N := 4) CX hW (v := .int (zI (n - 1))) hg.1 rfl (fun w h => List.mem_cons_of_mem _ (List.mem_append_left _ (List.mem_append_right _ h))) tyX7 tyX7_ok nmX7 1 (by decide) (List.mem_of_getElem? (i := 1) rfl) rfl rfl rfl rfl (Nat.le_of_ble_eq_true rfl) (g := va_up g a (.inr (7, [.int (zI p), .int (zI (n - 1)), .ref (a + 1), .ref (a + 2)]))) rfl dX7_remove_79 (fun H locs hW => ?_)
          rw [← hQ]
          exact z_vret CX hW (by exact ⟨fun h => by omega, fun _ => ⟨hfr.up (by omega), by rw [show n - 1 = k by omega]; exact hg.hd⟩⟩) dX7_remove_82
        ·
          refine lv_iload_n hX0 hB0 dX7_remove_21 rfl (lv_at hl 0 rfl) ?_
          refine lv_iconst (v := zI 5) hX0 hB0 dX7_remove_22 rfl ?_
          refine z_icmp_ge (tgt := 72) CX dX7_remove_23 (by decide) (by constructor <;> omega) (by constructor <;> omega) (fun c_23 => ?_) (fun c_23 => ?_)
          ·
            omega
          ·
            refine lv_aload_n hX0 hB0 dX7_remove_26 rfl (lv_at hl 1 rfl) ?_
            refine z_get (Cn := RX7) (T := TX7) (N := 4) CX hW (v := .ref (a + 1)) hg.1 rfl (fun w h => List.mem_cons_of_mem _ (List.mem_append_left _ (List.mem_append_right _ h))) 2 (by decide) (List.mem_of_getElem? (i := 2) rfl) rfl rfl dX7_remove_27 ?_
            refine lv_iload_n hX0 hB0 dX7_remove_30 rfl (lv_at hl 0 rfl) ?_
            refine z_aald (o := some (a + 3 + 2 * k.toNat)) CX hW hg.2.1 3 rfl (by refine ⟨?_, ?_, ?_⟩ <;> omega) rfl dX7_remove_31 ?_
            refine lv_aload_n hX0 hB0 dX7_remove_32 rfl (lv_at hl 1 rfl) ?_
            refine z_get (Cn := RX7) (T := TX7) (N := 4) CX hW (v := .ref (a + 1)) hg.1 rfl (fun w h => List.mem_cons_of_mem _ (List.mem_append_left _ (List.mem_append_right _ h))) 2 (by decide) (List.mem_of_getElem? (i := 2) rfl) rfl rfl dX7_remove_33 ?_
            refine lv_iload_n hX0 hB0 dX7_remove_36 rfl (lv_at hl 0 rfl) ?_
            refine lv_iconst (v := zI 1) hX0 hB0 dX7_remove_37 rfl ?_
            refine z_iadd (z := k + 1) CX dX7_remove_38 rfl ?_
            refine z_aald (o := some (a + 3 + 2 * ((k + 1).toNat))) CX hW hg.2.1 3 rfl (by refine ⟨?_, ?_, ?_⟩ <;> omega) rfl dX7_remove_39 ?_
            refine z_callv hW (va_runV (C := RX2) (As := [.ref (a + 3 + 2 * ((k + 1).toNat))]) (rest := []) CX.fix (c_copy l (f := g) (a + 3 + 2 * k.toNat) (a + 3 + 2 * k.toNat + 1) (((zremC C i k)) k.toNat) (a + 3 + 2 * ((k + 1).toNat)) (a + 3 + 2 * ((k + 1).toNat) + 1) (((zremC C i k)) ((k + 1).toNat)) (hg.2.2.2 k.toNat (by omega)).1 (hg.2.2.2 k.toNat (by omega)).2 (hg.2.2.2 ((k + 1).toNat) (by omega)).1 (hg.2.2.2 ((k + 1).toNat) (by omega)).2) (cwV 1 CX.fix.2.2.2.2 gX7_remove_X2_copy rfl rfl rfl (by decide +kernel) ⟨Nat.le_of_ble_eq_true rfl, Nat.le_of_ble_eq_true rfl⟩) (z_preV CX hW (r := (RX2, TX2, 1)) (hg.2.2.2 k.toNat (by omega)).1 rfl) rfl rfl hl.1 rfl (lv_room (Nat.le_of_ble_eq_true rfl)) dX7_remove_40 ⟨Nat.zero_le _, Nat.zero_le _⟩) (fun gn H locs hok40 hW => ?_)
            have eg : gn = va_up g (a + 3 + 2 * k.toNat + 1) (zA cI 25 (((zremC C i k)) ((k + 1).toNat))) := hok40
            rw [eg] at hW
            clear eg
            refine lv_aload_n hX0 hB0 dX7_remove_43 rfl (lv_at hl 1 rfl) ?_
            refine z_get (Cn := RX7) (T := TX7) (N := 4) CX hW (v := .ref (a + 2)) ((va_up_ne _ _ (by omega)).trans hg.1) rfl (fun w h => List.mem_cons_of_mem _ (List.mem_append_left _ (List.mem_append_right _ h))) 3 (by decide) (List.mem_of_getElem? (i := 3) rfl) rfl rfl dX7_remove_44 ?_
            refine lv_iload_n hX0 hB0 dX7_remove_47 rfl (lv_at hl 0 rfl) ?_
            refine lv_iconst (v := zI 1) hX0 hB0 dX7_remove_48 rfl ?_
            refine z_iadd (z := k + 1) CX dX7_remove_49 rfl ?_
            refine lv_bipush (v := zI 6) hX0 hB0 dX7_remove_50 (by decide) ?_
            refine z_imul (z := (k + 1) * 6) CX dX7_remove_52 rfl ?_
            refine lv_aload_n hX0 hB0 dX7_remove_53 rfl (lv_at hl 1 rfl) ?_
            refine z_get (Cn := RX7) (T := TX7) (N := 4) CX hW (v := .ref (a + 2)) ((va_up_ne _ _ (by omega)).trans hg.1) rfl (fun w h => List.mem_cons_of_mem _ (List.mem_append_left _ (List.mem_append_right _ h))) 3 (by decide) (List.mem_of_getElem? (i := 3) rfl) rfl rfl dX7_remove_54 ?_
            refine lv_iload_n hX0 hB0 dX7_remove_57 rfl (lv_at hl 0 rfl) ?_
            refine lv_bipush (v := zI 6) hX0 hB0 dX7_remove_58 (by decide) ?_
            refine z_imul (z := k * 6) CX dX7_remove_60 rfl ?_
            refine lv_bipush (v := zI 6) hX0 hB0 dX7_remove_61 (by decide) ?_
            refine z_copyi CX hW hl.1 (CX.at (List.mem_of_getElem? (i := 4) rfl)) (CX.at (List.mem_of_getElem? (i := 5) rfl)) (CX.at (List.mem_of_getElem? (i := 6) rfl)) (CX.at (List.mem_of_getElem? (i := 7) rfl)) ((va_up_ne _ _ (by omega)).trans hg.2.2.1) ((va_up_ne _ _ (by omega)).trans hg.2.2.1) 0 rfl (by refine ⟨?_, ?_, ?_, ?_, ?_, ?_⟩ <;> omega) (g := va_up (va_up g (a + 3 + 2 * k.toNat + 1) (zA cI 25 (((zremC C i k)) ((k + 1).toNat)))) (a + 2) (zA cI 36 (zcpy ((zremL lt i k)) ((zremL lt i k)) (((k + 1) * 6).toNat) ((k * 6).toNat) ((6 : Int).toNat)))) rfl (Nat.le_of_ble_eq_true rfl) (Nat.le_of_ble_eq_true rfl) dX7_remove_63 (fun H locs hW => ?_)
            refine lv_iinc (v := zI (k + 1)) (lv' := [(2, .int (zI (k + 1))), (0, .ref a), (1, .int (zI i))]) hX0 hB0 dX7_remove_66 hl (k := 0) rfl (zI_add _ _) (by decide) rfl (fun ls hl => ?_)
            refine lv_goto (tgt := 11) hX0 hB0 dX7_remove_69 (by decide) ?_
            exact ih11 (k + 1) (va_up (va_up g (a + 3 + 2 * k.toNat + 1) (zA cI 25 (((zremC C i k)) ((k + 1).toNat)))) (a + 2) (zA cI 36 (zcpy ((zremL lt i k)) ((zremL lt i k)) (((k + 1) * 6).toNat) ((k * 6).toNat) ((6 : Int).toNat)))) ⟨by omega, by omega, hi, (hfr.up (by omega)).up (by omega), by rw [zremC_s C hk0, zremL_s lt hk0]; exact (hg.put (by omega)).lt⟩ (by omega) H locs ls hW (lv_sub hl [0, 1, 2] rfl)
    exact hL11 _ i f ⟨by omega, by omega, by omega, zFr.refl, by rw [zremC_0, zremL_0]; exact hS⟩ (Nat.lt_succ_self _) H locs ls hW (lv_sub hl [0, 1, 2] rfl)
  ·
    have ez : zv = none := ez.trans (if_neg hq2)
    rw [ez]
    clear ez
    refine lv_ifnonnullN hX0 hB0 dX7_remove_5 ?_
    rw [← hQ]
    exact z_vret CX hW (by exact ⟨fun _ => rfl, fun h => by omega⟩) dX7_remove_8
end ZSq
