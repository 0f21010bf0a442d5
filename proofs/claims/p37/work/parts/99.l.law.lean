section ZLl
set_option maxRecDepth 100000 in
set_option maxHeartbeats 4000000 in
/-- pick -/
theorem c_pick (l : Launch) {D : va_G} {cI cJ cZ cP cS cM : ClassId} {L : List Nat} {sz : Nat} {f : Nat → va_E} (k n : Int) (hL : D.2 95 0 ≤ 260) (hk : 0 ≤ k ∧ k ≤ 100) (hn : 1 ≤ n ∧ n ≤ 100) : zMi l yL_pick wsL_pick 0 0 D (zT cI cJ cZ cP cS cM) L sz f [.ref (D.2 96 3), .int (zI k), .int (zI n)] (fun z g => (0 ≤ z ∧ z < n) ∧ g = f) := by
  refine zWalk.met (nL := 3) (ret := (some .int)) (cc := cL_pick) (by decide) rfl (Nat.le_of_ble_eq_true rfl) ?_
  intro pg en st mi ag bl mt cd ls CX hW hl
  have CX : zC pg st mi ag mt cd cL_pick 3 (some .int) RL wsL_pick := CX
  generalize hQ : MQ bl _ ag st 0 0 _ = Q
  have hX0 := CX.1
  have hB0 := CX.2.1
  have hl : lv_has ls 3 [(0, .ref (D.2 96 3)), (1, .int (zI k)), (2, .int (zI n))] := hl
  obtain ⟨H, eH⟩ : ∃ H, H = st.heap := ⟨_, rfl⟩
  obtain ⟨locs, eL⟩ : ∃ L : List Loc, L = [] := ⟨_, rfl⟩
  have hW : zW D (zT cI cJ cZ cP cS cM) L (zQ L sz) st f st.heap H locs := by rw [eH, eL]; exact hW
  suffices hgo : W pg l en ({ frames := 0, cells := 0, slots := 0, locals := 0 } : Room) st mi ag bl mt cd H locs 0 0 Q (F0 mi 0 ls []) by rw [eH, eL] at hgo; exact hgo
  clear eH eL
  refine lv_iload_n hX0 hB0 dL_pick_0 rfl (lv_at hl 1 rfl) ?_
  refine lv_aload_n hX0 hB0 dL_pick_1 rfl (lv_at hl 0 rfl) ?_
  refine z_tlen (n := D.2 95 0) CX hW hW.2.2.2.2.2.2.2.2.2.2.2.2.2.2.2.1 rfl dL_pick_2 ?_
  refine z_icmp_ge (tgt := 17) CX dL_pick_3 (by decide) (by constructor <;> omega) (by constructor <;> omega) (fun c_3 => ?_) (fun c_3 => ?_)
  ·
    refine lv_iconst (v := zI 0) hX0 hB0 dL_pick_17 rfl ?_
    rw [← hQ]
    refine z_iret (z := 0) CX hW ?_ rfl dL_pick_18
    exact ⟨⟨by omega, by omega⟩, rfl⟩
  ·
    refine lv_aload_n hX0 hB0 dL_pick_6 rfl (lv_at hl 0 rfl) ?_
    refine lv_iload_n hX0 hB0 dL_pick_7 rfl (lv_at hl 1 rfl) ?_
    refine z_tald (d := (fun k => ((D.2 94 k : Nat) : Int))) (z := (fun k => ((D.2 94 k : Nat) : Int)) k.toNat) CX hW hW.2.2.2.2.2.2.2.2.2.2.2.2.2.2.2.1 (by refine ⟨?_, ?_, ?_⟩ <;> omega) rfl dL_pick_8 ?_
    refine lv_ldc (v := zI 2147483647) hX0 hB0 CX.2.2.2.1 (CX.at (List.mem_of_getElem? (i := 1) rfl)) dL_pick_9 ?_
    refine lv_iand hX0 hB0 dL_pick_11 ?_
    obtain ⟨m1, hm1, hM1, em1⟩ := zI_and7 ((fun k => ((D.2 94 k : Nat) : Int)) k.toNat)
    rw [em1]
    refine lv_iload_n hX0 hB0 dL_pick_12 rfl (lv_at hl 2 rfl) ?_
    refine z_irem (z := Int.tmod m1 n) CX dL_pick_13 (by constructor <;> omega) (by constructor <;> omega) rfl ?_
    refine lv_goto (tgt := 18) hX0 hB0 dL_pick_14 (by decide) ?_
    rw [← hQ]
    refine z_iret (z := Int.tmod m1 n) CX hW ?_ rfl dL_pick_18
    have hz := Int.tmod_eq_emod_of_nonneg (b := n) hm1
    exact ⟨⟨by rw [hz]; exact Int.emod_nonneg _ (by omega), by rw [hz]; exact Int.emod_lt_of_pos _ (by omega)⟩, rfl⟩
set_option maxRecDepth 100000 in
set_option maxHeartbeats 4000000 in
/-- word -/
theorem c_word (l : Launch) {D : va_G} {cI cJ cZ cP cS cM : ClassId} {L : List Nat} {sz : Nat} {f : Nat → va_E} (h n : Nat) (t : Nat → Int) (k : Int) (hx : zTm cJ f h n t) (hn : n ≤ 700) (hlt : ∀ j, j < n → zlr7 (t j)) (hk : 0 ≤ k ∧ k ≤ 1000) : zXi l yL_word wsL_word 4 96 0 0 D (zT cI cJ cZ cP cS cM) L sz f [.ref h, .int (zI k)] (fun z g => z = zwd4 t n k.toNat 4 ∧ g = f) := by
  refine zyWalk.met (nL := 4) (ret := (some .int)) (cc := cL_word) (by decide) rfl (Nat.le_of_ble_eq_true rfl) ?_
  intro pg en st mi ag bl mt cd ls CX hin hW hl
  have CX : zC pg st mi ag mt cd cL_word 4 (some .int) RL wsL_word := CX
  generalize hQ : MQ bl _ ag st 0 0 _ = Q
  have hX0 := CX.1
  have hB0 := CX.2.1
  have hl : lv_has ls 4 [(0, .ref h), (1, .int (zI k))] := hl
  obtain ⟨H, eH⟩ : ∃ H, H = st.heap := ⟨_, rfl⟩
  obtain ⟨locs, eL⟩ : ∃ L : List Loc, L = [] := ⟨_, rfl⟩
  have hW : zW D (zT cI cJ cZ cP cS cM) L (zQ L sz) st f st.heap H locs := by rw [eH, eL]; exact hW
  suffices hgo : W pg l en ({ frames := 4, cells := 0, slots := 0, locals := 96 } : Room) st mi ag bl mt cd H locs 0 0 Q (F0 mi 0 ls []) by rw [eH, eL] at hgo; exact hgo
  clear eH eL
  refine lv_iconst (v := zI 0) hX0 hB0 dL_word_0 rfl ?_
  refine lv_istore_n (lv' := [(2, .int (zI 0)), (0, .ref h), (1, .int (zI k))]) hX0 hB0 dL_word_1 rfl hl (by decide) rfl (fun ls hl => ?_)
  refine lv_iload_n hX0 hB0 dL_word_2 rfl (lv_at hl 2 rfl) ?_
  refine lv_istore_n (lv' := [(3, .int (zI k)), (2, .int (zI 0)), (0, .ref h), (1, .int (zI k))]) hX0 hB0 dL_word_3 rfl hl (by decide) rfl (fun ls hl => ?_)
  have hL4 : ∀ (fu : Nat) (v : Int) (i : Int) (Lx : List Nat), (∃ j : Nat, j ≤ 4 ∧ i = k + j ∧ v = zwd4 t n k.toNat j) → (k + 4 - i).toNat < fu → ∀ (H : Heap) (locs : List Loc) (ls : Array Slot), zW D (zT cI cJ cZ cP cS cM) Lx (zQ L sz) st f st.heap H locs → lv_has ls 4 [(0, .ref h), (1, .int (zI k)), (2, .int (zI v)), (3, .int (zI i))] → W pg l en ({ frames := 4, cells := 0, slots := 0, locals := 96 } : Room) st mi ag bl mt cd H locs 0 0 Q (F0 mi 4 ls []) := by
    intro fu
    induction fu with
    | zero => intro v i Lx _ hfu; exact absurd hfu (Nat.not_lt_zero _)
    | succ fu ih4 =>
      intro v i Lx hinv4 hfu4 H locs ls hW hl
      obtain ⟨j, hj, hi, hv⟩ := hinv4
      have hvb : j < 4 → 0 ≤ v ∧ v < 8388608 := fun c => by rw [hv]; exact (zwd4_b hlt k.toNat).1 j c
      refine lv_iload_n hX0 hB0 dL_word_4 rfl (lv_at hl 3 rfl) ?_
      refine lv_iload_n hX0 hB0 dL_word_5 rfl (lv_at hl 1 rfl) ?_
      refine lv_iconst (v := zI 4) hX0 hB0 dL_word_6 rfl ?_
      refine z_iadd (z := k + 4) CX dL_word_7 rfl ?_
      refine z_icmp_ge (tgt := 41) CX dL_word_8 (by decide) (by constructor <;> omega) (by constructor <;> omega) (fun c_8 => ?_) (fun c_8 => ?_)
      ·
        refine lv_iload_n hX0 hB0 dL_word_41 rfl (lv_at hl 2 rfl) ?_
        rw [← hQ]
        refine W.widen (k := 0) (n := 0) (by omega) (by omega) ?_
        refine zy_iret (z := v) CX hW ?_ rfl dL_word_42
        have e : j = 4 := by omega
        subst e
        exact ⟨hv, rfl⟩
      ·
        have hvb := hvb (by omega)
        refine lv_iload_n hX0 hB0 dL_word_11 rfl (lv_at hl 2 rfl) ?_
        refine lv_bipush (v := zI 8) hX0 hB0 dL_word_12 (by decide) ?_
        refine lv_ishl hX0 hB0 dL_word_14 ?_
        refine lv_iload_n hX0 hB0 dL_word_15 rfl (lv_at hl 3 rfl) ?_
        refine lv_aload_n hX0 hB0 dL_word_16 rfl (lv_at hl 0 rfl) ?_
        refine z_calli hW (va_runV (C := RJ0) (As := []) (rest := [.int (zI i), .int (zI v <<< (zI 8 &&& 31))]) CX.fix (c_lengthX l (f := f) (zTm.x hx)) (cwV 0 CX.fix.2.2.2.2 gL_word_J0_length_8abf5 rfl rfl rfl (by decide +kernel) ⟨Nat.le_of_ble_eq_true rfl, Nat.le_of_ble_eq_true rfl⟩) (z_preX CX hW (zTm.x hx)) rfl rfl hl.1 rfl (lv_room (Nat.le_of_ble_eq_true rfl)) dL_word_17 ⟨by show _ ≤ 0; omega, by show _ ≤ 0; omega⟩) (fun zv gn H locs hok17 hW => ?_)
        obtain ⟨ez, eg⟩ := hok17
        have eg : gn = f := eg
        rw [eg] at hW
        clear eg
        have ez : zv = ((n : Nat) : Int) := ez
        rw [ez]
        clear ez
        refine z_icmp_ge (tgt := 31) CX dL_word_20 (by decide) (by constructor <;> omega) (by constructor <;> omega) (fun c_20 => ?_) (fun c_20 => ?_)
        ·
          refine lv_bipush (v := zI 32) hX0 hB0 dL_word_31 (by decide) ?_
          refine lv_ior hX0 hB0 dL_word_33 ?_
          rw [zI_pk hvb (by constructor <;> omega)]
          refine lv_istore_n (lv' := [(2, .int (zI (v * 256 + 32))), (0, .ref h), (1, .int (zI k)), (3, .int (zI i))]) hX0 hB0 dL_word_34 rfl hl (by decide) rfl (fun ls hl => ?_)
          refine lv_iinc (v := zI (i + 1)) (lv' := [(3, .int (zI (i + 1))), (2, .int (zI (v * 256 + 32))), (0, .ref h), (1, .int (zI k))]) hX0 hB0 dL_word_35 hl (k := 3) rfl (zI_add _ _) (by decide) rfl (fun ls hl => ?_)
          refine lv_goto (tgt := 4) hX0 hB0 dL_word_38 (by decide) ?_
          exact ih4 (v * 256 + 32) (i + 1) Lx ⟨j + 1, by omega, by omega, by
            show _ = zwd4 t n k.toNat j * 256 + zl32 t n (k.toNat + j)
            rw [← hv]
            unfold zl32
            rw [if_neg (by omega)]⟩ (by omega) H locs ls hW (lv_sub hl [2, 3, 1, 0] rfl)
        ·
          refine lv_aload_n hX0 hB0 dL_word_23 rfl (lv_at hl 0 rfl) ?_
          refine lv_iload_n hX0 hB0 dL_word_24 rfl (lv_at hl 3 rfl) ?_
          refine z_calli hW (va_runV (C := RJ0) (As := [.int (zI i)]) (rest := [.int (zI v <<< (zI 8 &&& 31))]) CX.fix (c_charAtX l (f := f) h n t i hx (by omega) hn hlt) (cwV 1 CX.fix.2.2.2.2 gL_word_J0_charAt_5068e rfl rfl rfl (by decide +kernel) ⟨Nat.le_of_ble_eq_true rfl, Nat.le_of_ble_eq_true rfl⟩) (z_preX CX hW (zTm.x hx)) rfl rfl hl.1 rfl (lv_room (Nat.le_of_ble_eq_true rfl)) dL_word_25 ⟨by show _ ≤ 0; omega, by show _ ≤ 0; omega⟩) (fun zv gn H locs hok25 hW => ?_)
          obtain ⟨ez, eg⟩ := hok25
          have eg : gn = f := eg
          rw [eg] at hW
          clear eg
          have ez : zv = t (i).toNat := ez
          rw [ez]
          clear ez
          have hch := hlt (i).toNat (by omega)
          have hch1 := hch.1
          have hch2 := hch.2
          refine lv_goto (tgt := 33) hX0 hB0 dL_word_28 (by decide) ?_
          refine lv_ior hX0 hB0 dL_word_33 ?_
          rw [zI_pk hvb (by constructor <;> omega)]
          refine lv_istore_n (lv' := [(2, .int (zI (v * 256 + (t (i).toNat)))), (0, .ref h), (1, .int (zI k)), (3, .int (zI i))]) hX0 hB0 dL_word_34 rfl hl (by decide) rfl (fun ls hl => ?_)
          refine lv_iinc (v := zI (i + 1)) (lv' := [(3, .int (zI (i + 1))), (2, .int (zI (v * 256 + (t (i).toNat)))), (0, .ref h), (1, .int (zI k))]) hX0 hB0 dL_word_35 hl (k := 3) rfl (zI_add _ _) (by decide) rfl (fun ls hl => ?_)
          refine lv_goto (tgt := 4) hX0 hB0 dL_word_38 (by decide) ?_
          exact ih4 (v * 256 + (t (i).toNat)) (i + 1) Lx ⟨j + 1, by omega, by omega, by
            show _ = zwd4 t n k.toNat j * 256 + zl32 t n (k.toNat + j)
            rw [← hv]
            unfold zl32
            rw [if_pos (by omega), show k.toNat + j = i.toNat by omega]⟩ (by omega) H locs ls hW (lv_sub hl [2, 3, 1, 0] rfl)
  exact hL4 _ 0 k L ⟨0, by omega, by omega, rfl⟩ (Nat.lt_succ_self _) H locs ls hW (lv_sub hl [2, 3, 1, 0] rfl)
theorem zwd4_r {t : Nat → Int} {n : Nat} (ht : ∀ k, k < n → zlr7 (t k)) (k : Nat) : -2147483648 ≤ zwd4 t n k 4 ∧ zwd4 t n k 4 ≤ 2147483647 := by
  have := (zwd4_b ht k).2
  omega
/-- a made text away from the object -/
def zTo (cJ : ClassId) (f : Nat → va_E) (h n : Nat) (t : Nat → Int) (o : Nat) : Prop := ∃ (b : Nat) (d : Nat → Int) (x y : Int), f h = .inr (12, [.ref b, .int (zI 0), .int (zI x), .int (zI y)]) ∧ f b = zA cJ n d ∧ zbt d ∧ (∀ k, k < n → t k = d k) ∧ ¬ (o ≤ h ∧ h < o + 681) ∧ ¬ (o ≤ b ∧ b < o + 681)
theorem zTo.x {cJ : ClassId} {f : Nat → va_E} {h n o : Nat} {t : Nat → Int} (hx : zTo cJ f h n t o) : zTm cJ f h n t := by
  obtain ⟨b, d, x, y, h1, h2, h3, h4, _, _⟩ := hx
  exact ⟨b, d, x, y, h1, h2, h3, h4⟩
theorem zTo.fr {cJ : ClassId} {f g : Nat → va_E} {h n o : Nat} {t : Nat → Int} (hx : zTo cJ f h n t o) (hg : zFr f g o (o + 681)) : zTo cJ g h n t o := by
  obtain ⟨b, d, x, y, h1, h2, h3, h4, h5, h6⟩ := hx
  exact ⟨b, d, x, y, (hg h h5).trans h1, (hg b h6).trans h2, h3, h4, h5, h6⟩
theorem zFr.tr2 {f g k : Nat → va_E} {lo hi : Nat} (h1 : zFr f g lo hi) (h2 : zFr g k lo hi) : zFr f k lo hi := fun b hb => (h2 b hb).trans (h1 b hb)
set_option maxRecDepth 100000 in
set_option maxHeartbeats 4000000 in
/-- feed -/
theorem c_feed (l : Launch) {D : va_G} {cI cJ cZ cP cS cM : ClassId} {L : List Nat} {sz : Nat} {f : Nat → va_E} (o h n : Nat) (t : Nat → Int) (M : zCt) (hP0 : zCP cI cP cS cZ cM o M f) (hC0 : zCI M) (hx0 : zTo cJ f h n t o) (hn : n ≤ 700) (hlt : ∀ j, j < n → zlr7 (t j)) (hM2 : M.1 0 2 = 0) : zXi l yL_feed wsL_feed 5 119 0 0 D (zT cI cJ cZ cP cS cM) L sz f [.ref o, .ref h] (fun z g => z = 1 ∧ ∃ N, zCP cI cP cS cZ cM o N g ∧ zCI N ∧ zFr f g o (o + 681) ∧ zVT N M ∧ N.1 0 2 = n ∧ ∀ i : Nat, i < n → N.1 2 i = t i) := by
  refine zyWalk.met (nL := 3) (ret := (some .boolean)) (cc := cL_feed) (by decide) rfl (Nat.le_of_ble_eq_true rfl) ?_
  intro pg en st mi ag bl mt cd ls CX hin hW hl
  have CX : zC pg st mi ag mt cd cL_feed 3 (some .boolean) RL wsL_feed := CX
  generalize hQ : MQ bl _ ag st 0 0 _ = Q
  have hX0 := CX.1
  have hB0 := CX.2.1
  have hl : lv_has ls 3 [(0, .ref o), (1, .ref h)] := hl
  obtain ⟨H, eH⟩ : ∃ H, H = st.heap := ⟨_, rfl⟩
  obtain ⟨locs, eL⟩ : ∃ L : List Loc, L = [] := ⟨_, rfl⟩
  have hW : zW D (zT cI cJ cZ cP cS cM) L (zQ L sz) st f st.heap H locs := by rw [eH, eL]; exact hW
  suffices hgo : W pg l en ({ frames := 5, cells := 0, slots := 0, locals := 119 } : Room) st mi ag bl mt cd H locs 0 0 Q (F0 mi 0 ls []) by rw [eH, eL] at hgo; exact hgo
  clear eH eL
  refine lv_iconst (v := zI 0) hX0 hB0 dL_feed_0 rfl ?_
  refine lv_istore_n (lv' := [(2, .int (zI 0)), (0, .ref o), (1, .ref h)]) hX0 hB0 dL_feed_1 rfl hl (by decide) rfl (fun ls hl => ?_)
  have hL2 : ∀ (fu : Nat) (g : Nat → va_E) (N : zCt) (k : Int) (Lx : List Nat), (zCP cI cP cS cZ cM o N g ∧ zCI N ∧ zFr f g o (o + 681) ∧ zVT N M ∧ N.1 0 2 = k ∧ (0 ≤ k ∧ k ≤ 800 ∧ k < (n : Int) + 20) ∧ (∀ i : Nat, (i : Int) < k → N.1 2 i = zl32 t n i) ∧ zTo cJ g h n t o) → (n - k).toNat < fu → ∀ (H : Heap) (locs : List Loc) (ls : Array Slot), zW D (zT cI cJ cZ cP cS cM) Lx (zQ L sz) st g st.heap H locs → lv_has ls 3 [(0, .ref o), (1, .ref h), (2, .int (zI k))] → W pg l en ({ frames := 5, cells := 0, slots := 0, locals := 119 } : Room) st mi ag bl mt cd H locs 0 0 Q (F0 mi 2 ls []) := by
    intro fu
    induction fu with
    | zero => intro g N k Lx _ hfu; exact absurd hfu (Nat.not_lt_zero _)
    | succ fu ih2 =>
      intro g N k Lx hinv2 hfu2 H locs ls hW hl
      obtain ⟨hP, hC, hFr, hVT, hn2, hk3, hT, hxo⟩ := hinv2
      refine lv_iload_n hX0 hB0 dL_feed_2 rfl (lv_at hl 2 rfl) ?_
      refine lv_aload_n hX0 hB0 dL_feed_3 rfl (lv_at hl 1 rfl) ?_
      refine z_calli hW (va_runV (C := RJ0) (As := []) (rest := [.int (zI k)]) CX.fix (c_lengthX l (f := g) (zTm.x (zTo.x hxo))) (cwV 0 CX.fix.2.2.2.2 gL_feed_J0_length_8abf5 rfl rfl rfl (by decide +kernel) ⟨Nat.le_of_ble_eq_true rfl, Nat.le_of_ble_eq_true rfl⟩) (z_preX CX hW (zTm.x (zTo.x hxo))) rfl rfl hl.1 rfl (lv_room (Nat.le_of_ble_eq_true rfl)) dL_feed_4 ⟨by show _ ≤ 0; omega, by show _ ≤ 0; omega⟩) (fun zv gn H locs hok4 hW => ?_)
      obtain ⟨ez, eg⟩ := hok4
      have eg : gn = g := eg
      rw [eg] at hW
      clear eg
      have ez : zv = ((n : Nat) : Int) := ez
      rw [ez]
      clear ez
      refine z_icmp_ge (tgt := 61) CX dL_feed_7 (by decide) (by constructor <;> omega) (by constructor <;> omega) (fun c_7 => ?_) (fun c_7 => ?_)
      ·
        refine lv_aload_n hX0 hB0 dL_feed_61 rfl (lv_at hl 0 rfl) ?_
        refine lv_aload_n hX0 hB0 dL_feed_62 rfl (lv_at hl 1 rfl) ?_
        refine z_calli hW (va_runV (C := RJ0) (As := []) (rest := [.ref o]) CX.fix (c_lengthX l (f := g) (zTm.x (zTo.x hxo))) (cwV 0 CX.fix.2.2.2.2 gL_feed_J0_length_8abf5 rfl rfl rfl (by decide +kernel) ⟨Nat.le_of_ble_eq_true rfl, Nat.le_of_ble_eq_true rfl⟩) (z_preX CX hW (zTm.x (zTo.x hxo))) rfl rfl hl.1 rfl (lv_room (Nat.le_of_ble_eq_true rfl)) dL_feed_63 ⟨by show _ ≤ 0; omega, by show _ ≤ 0; omega⟩) (fun zv gn H locs hok63 hW => ?_)
        obtain ⟨ez, eg⟩ := hok63
        have eg : gn = g := eg
        rw [eg] at hW
        clear eg
        have ez : zv = ((n : Nat) : Int) := ez
        rw [ez]
        clear ez
        refine z_calli hW (va_runV (C := RX11) (As := [.int (zI (((n : Nat) : Int)))]) (rest := []) CX.fix (zd_end l (f := g) o N (((n : Nat) : Int)) hP hC (by omega)) (cwV 1 CX.fix.2.2.2.2 gL_feed_X11_end rfl rfl rfl (by decide +kernel) ⟨Nat.le_of_ble_eq_true rfl, Nat.le_of_ble_eq_true rfl⟩) (z_preV CX hW (r := (RX11, TX11, 13)) (show g o = _ from hP.c0) rfl) rfl rfl hl.1 rfl (lv_room (Nat.le_of_ble_eq_true rfl)) dL_feed_66 ⟨by show _ ≤ 0; omega, by show _ ≤ 0; omega⟩) (fun zv gn H locs hok66 hW => ?_)
        obtain ⟨ez, hP1, hC1, hFr1, _⟩ := hok66
        obtain ⟨hf1, hf2, hf3, hf4⟩ := zc_end_ok (n := n) hn2 (by omega)
        rw [ez, hf1]
        clear ez
        obtain ⟨g1, eg1⟩ : ∃ q, q = gn := ⟨_, rfl⟩
        rw [← eg1] at hW hP1 hFr1
        clear eg1
        rw [← hQ]
        refine W.widen (k := 0) (n := 0) (by omega) (by omega) ?_
        refine zy_iret (z := 1) CX hW ?_ rfl dL_feed_69
        refine ⟨rfl, _, hP1, hC1, hFr.tr2 hFr1, hf2.tr hVT, hf3, fun i hi => ?_⟩
        rw [hf4, hT i (by omega)]
        exact if_pos hi
      ·
        refine lv_aload_n hX0 hB0 dL_feed_10 rfl (lv_at hl 0 rfl) ?_
        refine lv_aload_n hX0 hB0 dL_feed_11 rfl (lv_at hl 1 rfl) ?_
        refine lv_iload_n hX0 hB0 dL_feed_12 rfl (lv_at hl 2 rfl) ?_
        refine zy_calli hW (va_runS (As := [.ref h, .int (zI k)]) (rest := [.ref o]) CX.fix (c_word l (f := g) h n t k (zTo.x hxo) hn hlt (by omega)) (va_cwS 2 CX.fix.2.2.2.2 gL_feed_L_word rfl rfl rfl (by decide +kernel) ⟨Nat.le_of_ble_eq_true rfl, Nat.le_of_ble_eq_true rfl⟩) (z_preS CX hW) rfl rfl hl.1 rfl (lv_room (Nat.le_of_ble_eq_true rfl)) dL_feed_13 ⟨by show _ ≤ 0; omega, by show _ ≤ 0; omega⟩) (fun zv Lx gn H locs hok13 hW => ?_)
        obtain ⟨ez, eg⟩ := hok13
        have eg : gn = g := eg
        rw [eg] at hW
        clear eg
        have ez : zv = zwd4 t n k.toNat 4 := ez
        rw [ez]
        clear ez
        refine W.widen (k := 0) (n := 0) (by omega) (by omega) ?_
        refine lv_aload_n hX0 hB0 dL_feed_16 rfl (lv_at hl 1 rfl) ?_
        refine lv_iload_n hX0 hB0 dL_feed_17 rfl (lv_at hl 2 rfl) ?_
        refine lv_iconst (v := zI 4) hX0 hB0 dL_feed_18 rfl ?_
        refine z_iadd (z := k + 4) CX dL_feed_19 rfl ?_
        refine zy_calli hW (va_runS (As := [.ref h, .int (zI (k + 4))]) (rest := [.int (zI (zwd4 t n k.toNat 4)), .ref o]) CX.fix (c_word l (f := g) h n t (k + 4) (zTo.x hxo) hn hlt (by omega)) (va_cwS 2 CX.fix.2.2.2.2 gL_feed_L_word rfl rfl rfl (by decide +kernel) ⟨Nat.le_of_ble_eq_true rfl, Nat.le_of_ble_eq_true rfl⟩) (z_preS CX hW) rfl rfl hl.1 rfl (lv_room (Nat.le_of_ble_eq_true rfl)) dL_feed_20 ⟨by show _ ≤ 0; omega, by show _ ≤ 0; omega⟩) (fun zv Lx gn H locs hok20 hW => ?_)
        obtain ⟨ez, eg⟩ := hok20
        have eg : gn = g := eg
        rw [eg] at hW
        clear eg
        have ez : zv = zwd4 t n (k + 4).toNat 4 := ez
        rw [ez]
        clear ez
        refine W.widen (k := 0) (n := 0) (by omega) (by omega) ?_
        refine lv_aload_n hX0 hB0 dL_feed_23 rfl (lv_at hl 1 rfl) ?_
        refine lv_iload_n hX0 hB0 dL_feed_24 rfl (lv_at hl 2 rfl) ?_
        refine lv_bipush (v := zI 8) hX0 hB0 dL_feed_25 (by decide) ?_
        refine z_iadd (z := k + 8) CX dL_feed_27 rfl ?_
        refine zy_calli hW (va_runS (As := [.ref h, .int (zI (k + 8))]) (rest := [.int (zI (zwd4 t n (k + 4).toNat 4)), .int (zI (zwd4 t n k.toNat 4)), .ref o]) CX.fix (c_word l (f := g) h n t (k + 8) (zTo.x hxo) hn hlt (by omega)) (va_cwS 2 CX.fix.2.2.2.2 gL_feed_L_word rfl rfl rfl (by decide +kernel) ⟨Nat.le_of_ble_eq_true rfl, Nat.le_of_ble_eq_true rfl⟩) (z_preS CX hW) rfl rfl hl.1 rfl (lv_room (Nat.le_of_ble_eq_true rfl)) dL_feed_28 ⟨by show _ ≤ 0; omega, by show _ ≤ 0; omega⟩) (fun zv Lx gn H locs hok28 hW => ?_)
        obtain ⟨ez, eg⟩ := hok28
        have eg : gn = g := eg
        rw [eg] at hW
        clear eg
        have ez : zv = zwd4 t n (k + 8).toNat 4 := ez
        rw [ez]
        clear ez
        refine W.widen (k := 0) (n := 0) (by omega) (by omega) ?_
        refine lv_aload_n hX0 hB0 dL_feed_31 rfl (lv_at hl 1 rfl) ?_
        refine lv_iload_n hX0 hB0 dL_feed_32 rfl (lv_at hl 2 rfl) ?_
        refine lv_bipush (v := zI 12) hX0 hB0 dL_feed_33 (by decide) ?_
        refine z_iadd (z := k + 12) CX dL_feed_35 rfl ?_
        refine zy_calli hW (va_runS (As := [.ref h, .int (zI (k + 12))]) (rest := [.int (zI (zwd4 t n (k + 8).toNat 4)), .int (zI (zwd4 t n (k + 4).toNat 4)), .int (zI (zwd4 t n k.toNat 4)), .ref o]) CX.fix (c_word l (f := g) h n t (k + 12) (zTo.x hxo) hn hlt (by omega)) (va_cwS 2 CX.fix.2.2.2.2 gL_feed_L_word rfl rfl rfl (by decide +kernel) ⟨Nat.le_of_ble_eq_true rfl, Nat.le_of_ble_eq_true rfl⟩) (z_preS CX hW) rfl rfl hl.1 rfl (lv_room (Nat.le_of_ble_eq_true rfl)) dL_feed_36 ⟨by show _ ≤ 0; omega, by show _ ≤ 0; omega⟩) (fun zv Lx gn H locs hok36 hW => ?_)
        obtain ⟨ez, eg⟩ := hok36
        have eg : gn = g := eg
        rw [eg] at hW
        clear eg
        have ez : zv = zwd4 t n (k + 12).toNat 4 := ez
        rw [ez]
        clear ez
        refine W.widen (k := 0) (n := 0) (by omega) (by omega) ?_
        refine lv_aload_n hX0 hB0 dL_feed_39 rfl (lv_at hl 1 rfl) ?_
        refine lv_iload_n hX0 hB0 dL_feed_40 rfl (lv_at hl 2 rfl) ?_
        refine lv_bipush (v := zI 16) hX0 hB0 dL_feed_41 (by decide) ?_
        refine z_iadd (z := k + 16) CX dL_feed_43 rfl ?_
        refine zy_calli hW (va_runS (As := [.ref h, .int (zI (k + 16))]) (rest := [.int (zI (zwd4 t n (k + 12).toNat 4)), .int (zI (zwd4 t n (k + 8).toNat 4)), .int (zI (zwd4 t n (k + 4).toNat 4)), .int (zI (zwd4 t n k.toNat 4)), .ref o]) CX.fix (c_word l (f := g) h n t (k + 16) (zTo.x hxo) hn hlt (by omega)) (va_cwS 2 CX.fix.2.2.2.2 gL_feed_L_word rfl rfl rfl (by decide +kernel) ⟨Nat.le_of_ble_eq_true rfl, Nat.le_of_ble_eq_true rfl⟩) (z_preS CX hW) rfl rfl hl.1 rfl (lv_room (Nat.le_of_ble_eq_true rfl)) dL_feed_44 ⟨by show _ ≤ 0; omega, by show _ ≤ 0; omega⟩) (fun zv Lx gn H locs hok44 hW => ?_)
        obtain ⟨ez, eg⟩ := hok44
        have eg : gn = g := eg
        rw [eg] at hW
        clear eg
        have ez : zv = zwd4 t n (k + 16).toNat 4 := ez
        rw [ez]
        clear ez
        refine W.widen (k := 0) (n := 0) (by omega) (by omega) ?_
        refine z_calli hW (va_runV (C := RX11) (As := [.int (zI (zwd4 t n k.toNat 4)), .int (zI (zwd4 t n (k + 4).toNat 4)), .int (zI (zwd4 t n (k + 8).toNat 4)), .int (zI (zwd4 t n (k + 12).toNat 4)), .int (zI (zwd4 t n (k + 16).toNat 4))]) (rest := []) CX.fix (zd_feed l (f := g) o N (zwd4 t n k.toNat 4) (zwd4 t n (k + 4).toNat 4) (zwd4 t n (k + 8).toNat 4) (zwd4 t n (k + 12).toNat 4) (zwd4 t n (k + 16).toNat 4) hP hC (zwd4_r hlt _) (zwd4_r hlt _) (zwd4_r hlt _) (zwd4_r hlt _) (zwd4_r hlt _)) (cwV 5 CX.fix.2.2.2.2 gL_feed_X11_feed rfl rfl rfl (by decide +kernel) ⟨Nat.le_of_ble_eq_true rfl, Nat.le_of_ble_eq_true rfl⟩) (z_preV CX hW (r := (RX11, TX11, 13)) (show g o = _ from hP.c0) rfl) rfl rfl hl.1 rfl (lv_room (Nat.le_of_ble_eq_true rfl)) dL_feed_47 ⟨by show _ ≤ 0; omega, by show _ ≤ 0; omega⟩) (fun zv gn H locs hok47 hW => ?_)
        obtain ⟨ez, hP2, hC2, hFr2, _⟩ := hok47
        obtain ⟨hf1, hf2, hf3, hf4⟩ := zc_feed_ok hlt (by omega) hn2 hT
        rw [ez, hf1]
        clear ez
        obtain ⟨g2, eg2⟩ : ∃ q, q = gn := ⟨_, rfl⟩
        rw [← eg2] at hW hP2 hFr2
        clear eg2
        refine z_if_ge (tgt := 55) CX dL_feed_50 (by decide) (by constructor <;> omega) (fun c_50 => ?_) (fun c_50 => ?_)
        ·
          refine lv_iinc (v := zI (k + 20)) (lv' := [(2, .int (zI (k + 20))), (0, .ref o), (1, .ref h)]) hX0 hB0 dL_feed_55 hl (k := 2) rfl (zI_add _ _) (by decide) rfl (fun ls hl => ?_)
          refine lv_goto (tgt := 2) hX0 hB0 dL_feed_58 (by decide) ?_
          exact ih2 g2 ((zc_feed N (zwd4 t n k.toNat 4) (zwd4 t n (k + 4).toNat 4) (zwd4 t n (k + 8).toNat 4) (zwd4 t n (k + 12).toNat 4) (zwd4 t n (k + 16).toNat 4)).2) (k + 20) Lx ⟨hP2, hC2, hFr.tr2 hFr2, hf2.tr hVT, hf3, by omega, hf4, hxo.fr hFr2⟩ (by omega) H locs ls hW (lv_sub hl [1, 2, 0] rfl)
        ·
          omega
  exact hL2 _ f M 0 L ⟨hP0, hC0, zFr.refl, zVT.refl, hM2, by omega, fun i hi => absurd hi (by omega), hx0⟩ (Nat.lt_succ_self _) H locs ls hW (lv_sub hl [1, 2, 0] rfl)
theorem zM2_b {p : Int} {d : Nat → Nat → Int} {i j : Nat} {x : Int} (h : ∀ a b : Nat, 0 ≤ d a b ∧ d a b < p) (hx : 0 ≤ x ∧ x < p) : ∀ a b : Nat, 0 ≤ (fun a => if a = i then zup (d i) j x else d a) a b ∧ (fun a => if a = i then zup (d i) j x else d a) a b < p := fun a b => by
  dsimp only
  by_cases c : a = i
  · rw [if_pos c]
    unfold zup
    split
    · exact hx
    · exact h i b
  · rw [if_neg c]
    exact h a b
theorem zM2_z {n : Int} {d : Nat → Nat → Int} {i j : Nat} {x : Int} (h : ∀ a b : Nat, n < (a : Int) + b → d a b = 0) (hij : (i : Int) + j ≤ n) : ∀ a b : Nat, n < (a : Int) + b → (fun a => if a = i then zup (d i) j x else d a) a b = 0 := fun a b hab => by
  dsimp only
  by_cases c : a = i
  · subst c
    rw [if_pos rfl]
    unfold zup
    rw [if_neg (by omega)]
    exact h a b hab
  · rw [if_neg c]
    exact h a b hab
/-- something of the top stands -/
def zHas (d : Nat → Nat → Int) (n : Int) : Prop := ∃ a : Nat, (a : Int) ≤ n ∧ d a (n.toNat - a) ≠ 0
theorem zone_0 (k : Nat) : zone 0 k = 0 := by
  unfold zone
  split <;> rfl
set_option maxRecDepth 100000 in
set_option maxHeartbeats 4000000 in
/-- drawn -/
theorem c_drawn (l : Launch) {D : va_G} {cI cJ cZ cP cS cM : ClassId} {L : List Nat} {sz : Nat} {f : Nat → va_E} (fr dg p : Int) (hL : D.2 95 0 ≤ 260) (hfr : 0 ≤ fr ∧ fr ≤ 20) (hdg : 1 ≤ dg ∧ dg ≤ 4) (hp : 2 ≤ p ∧ p ≤ 7) : zXr l yL_drawn wsL_drawn 1 22 6 30 D (zT cI cJ cZ cP cS cM) L sz f [.ref (D.2 96 3), .int (zI fr), .int (zI dg), .int (zI p)] (fun r g => ∃ q, r = some q ∧ f q = zJ ∧ zKp2 f g ∧ ∃ d, zMq cI cM q d g ∧ (∀ a b : Nat, 0 ≤ d a b ∧ d a b < p) ∧ (∀ a b : Nat, dg < (a : Int) + b → d a b = 0) ∧ zHas d dg) := by
  refine zyWalk.met (nL := 8) (ret := (some (.array (.array .int)))) (cc := cL_drawn) (by decide) rfl (Nat.le_of_ble_eq_true rfl) ?_
  intro pg en st mi ag bl mt cd ls CX hin hW hl
  have CX : zC pg st mi ag mt cd cL_drawn 8 (some (.array (.array .int))) RL wsL_drawn := CX
  generalize hQ : MQ bl _ ag st 6 30 _ = Q
  have hX0 := CX.1
  have hB0 := CX.2.1
  have hl : lv_has ls 8 [(0, .ref (D.2 96 3)), (1, .int (zI fr)), (2, .int (zI dg)), (3, .int (zI p))] := hl
  obtain ⟨H, eH⟩ : ∃ H, H = st.heap := ⟨_, rfl⟩
  obtain ⟨locs, eL⟩ : ∃ L : List Loc, L = [] := ⟨_, rfl⟩
  have hW : zW D (zT cI cJ cZ cP cS cM) L (zQ L sz) st f st.heap H locs := by rw [eH, eL]; exact hW
  suffices hgo : W pg l en ({ frames := 1, cells := 6, slots := 30, locals := 22 } : Room) st mi ag bl mt cd H locs 0 0 Q (F0 mi 0 ls []) by rw [eH, eL] at hgo; exact hgo
  clear eH eL
  refine lv_iconst (v := zI 5) hX0 hB0 dL_drawn_0 rfl ?_
  refine lv_iconst (v := zI 5) hX0 hB0 dL_drawn_1 rfl ?_
  refine zy_mna CX hW (List.mem_of_getElem? (i := 1) rfl) (List.mem_of_getElem? (i := 2) rfl) 5 0 rfl rfl (by show _ ≤ 6; omega) (by show _ ≤ 30; omega) dL_drawn_2 (fun q1 Lx H g2 hfr2 hkp2 hmq2 hW => ?_)
  refine W.widen (k := 6) (n := 30) (by omega) (by omega) ?_
  refine lv_astore (lv' := [(4, .ref q1), (0, .ref (D.2 96 3)), (1, .int (zI fr)), (2, .int (zI dg)), (3, .int (zI p))]) hX0 hB0 dL_drawn_6 hl (by decide) rfl (fun ls hl => ?_)
  refine lv_iload_n hX0 hB0 dL_drawn_8 rfl (lv_at hl 2 rfl) ?_
  refine lv_istore (lv' := [(5, .int (zI fr)), (4, .ref q1), (0, .ref (D.2 96 3)), (1, .int (zI fr)), (2, .int (zI dg)), (3, .int (zI p))]) hX0 hB0 dL_drawn_9 hl (by decide) rfl (fun ls hl => ?_)
  refine lv_iconst (v := zI 0) hX0 hB0 dL_drawn_11 rfl ?_
  refine lv_istore (lv' := [(6, .int (zI 0)), (5, .int (zI fr)), (4, .ref q1), (0, .ref (D.2 96 3)), (1, .int (zI fr)), (2, .int (zI dg)), (3, .int (zI p))]) hX0 hB0 dL_drawn_12 hl (by decide) rfl (fun ls hl => ?_)
  have hL14 : ∀ (fu : Nat) (g : Nat → va_E) (d : Nat → Nat → Int) (a5 : Int) (i : Int) (Lx : List Nat), (zMq cI cM q1 d g ∧ zKp2 f g ∧ (∀ a b : Nat, 0 ≤ d a b ∧ d a b < p) ∧ (∀ a b : Nat, dg < (a : Int) + b → d a b = 0) ∧ (0 ≤ i ∧ i ≤ dg + 1) ∧ (0 ≤ a5 ∧ a5 ≤ 20 + 5 * i)) → (dg + 1 - i).toNat < fu → ∀ (H : Heap) (locs : List Loc) (ls : Array Slot), zW D (zT cI cJ cZ cP cS cM) Lx (zQ L sz) st g st.heap H locs → lv_has ls 8 [(0, .ref (D.2 96 3)), (1, .int (zI fr)), (2, .int (zI dg)), (3, .int (zI p)), (4, .ref q1), (5, .int (zI a5)), (6, .int (zI i))] → W pg l en ({ frames := 1, cells := 6, slots := 30, locals := 22 } : Room) st mi ag bl mt cd H locs 6 30 Q (F0 mi 14 ls []) := by
    intro fu
    induction fu with
    | zero => intro g d a5 i Lx _ hfu; exact absurd hfu (Nat.not_lt_zero _)
    | succ fu ih14 =>
      intro g d a5 i Lx hinv14 hfu14 H locs ls hW hl
      obtain ⟨hmq, hkp, hbd, hzd, hi, ha5⟩ := hinv14
      refine lv_iload hX0 hB0 dL_drawn_14 (lv_at hl 6 rfl) ?_
      refine lv_iload_n hX0 hB0 dL_drawn_16 rfl (lv_at hl 2 rfl) ?_
      refine z_icmp_gt (tgt := 81) CX dL_drawn_17 (by decide) (by constructor <;> omega) (by constructor <;> omega) (fun c_17 => ?_) (fun c_17 => ?_)
      ·
        refine lv_iconst (v := zI 0) hX0 hB0 dL_drawn_81 rfl ?_
        refine lv_istore (lv' := [(6, .int (zI 0)), (0, .ref (D.2 96 3)), (1, .int (zI fr)), (2, .int (zI dg)), (3, .int (zI p)), (4, .ref q1), (5, .int (zI a5))]) hX0 hB0 dL_drawn_82 hl (by decide) rfl (fun ls hl => ?_)
        refine lv_iconst (v := zI 0) hX0 hB0 dL_drawn_84 rfl ?_
        refine lv_istore (lv' := [(7, .int (zI 0)), (6, .int (zI 0)), (0, .ref (D.2 96 3)), (1, .int (zI fr)), (2, .int (zI dg)), (3, .int (zI p)), (4, .ref q1), (5, .int (zI a5))]) hX0 hB0 dL_drawn_85 hl (by decide) rfl (fun ls hl => ?_)
        have hL87 : ∀ (fu : Nat) (s6 : Int) (j : Int) (Lx : List Nat), ((s6 = 0 ∨ s6 = 1) ∧ (s6 = 1 → zHas d dg) ∧ 0 ≤ j ∧ j ≤ dg + 1) → (dg + 1 - j).toNat < fu → ∀ (H : Heap) (locs : List Loc) (ls : Array Slot), zW D (zT cI cJ cZ cP cS cM) Lx (zQ L sz) st g st.heap H locs → lv_has ls 8 [(0, .ref (D.2 96 3)), (1, .int (zI fr)), (2, .int (zI dg)), (3, .int (zI p)), (4, .ref q1), (6, .int (zI s6)), (7, .int (zI j))] → W pg l en ({ frames := 1, cells := 6, slots := 30, locals := 22 } : Room) st mi ag bl mt cd H locs 6 30 Q (F0 mi 87 ls []) := by
          intro fu
          induction fu with
          | zero => intro s6 j Lx _ hfu; exact absurd hfu (Nat.not_lt_zero _)
          | succ fu ih87 =>
            intro s6 j Lx hinv87 hfu87 H locs ls hW hl
            obtain ⟨hs6, hex, hj⟩ := hinv87
            refine lv_iload hX0 hB0 dL_drawn_87 (lv_at hl 6 rfl) ?_
            refine lv_iload_n hX0 hB0 dL_drawn_89 rfl (lv_at hl 2 rfl) ?_
            refine z_icmp_gt (tgt := 122) CX dL_drawn_90 (by decide) (by constructor <;> omega) (by constructor <;> omega) (fun c_90 => ?_) (fun c_90 => ?_)
            ·
              refine lv_iload hX0 hB0 dL_drawn_122 (lv_at hl 5 rfl) ?_
              refine z_if_ne (tgt := 134) CX dL_drawn_124 (by decide) (by constructor <;> omega) (fun c_124 => ?_) (fun c_124 => ?_)
              ·
                refine lv_aload hX0 hB0 dL_drawn_134 (lv_at hl 4 rfl) ?_
                rw [← hQ]
                refine W.widen (k := 6) (n := 30) (by omega) (by omega) ?_
                refine zy_aret (r := some q1) (Or.inr ⟨_, rfl⟩) CX hW ?_ dL_drawn_136
                exact ⟨q1, rfl, hfr2 0 (by omega), hkp, d, hmq, hbd, hzd, hex (by omega)⟩
              ·
                refine lv_aload hX0 hB0 dL_drawn_127 (lv_at hl 4 rfl) ?_
                refine lv_iload_n hX0 hB0 dL_drawn_129 rfl (lv_at hl 2 rfl) ?_
                refine z_aaldM (o := some (q1 + 1 + dg.toNat)) CX hW hmq.1 5 rfl (by refine ⟨?_, ?_, ?_⟩ <;> omega) rfl dL_drawn_130 ?_
                refine lv_iconst (v := zI 0) hX0 hB0 dL_drawn_131 rfl ?_
                refine lv_iconst (v := zI 1) hX0 hB0 dL_drawn_132 rfl ?_
                refine z_iast CX hW (hmq.2 dg.toNat (by omega)) 0 rfl (by refine ⟨?_, ?_, ?_⟩ <;> omega) (g := va_up g (q1 + 1 + dg.toNat) (zA cI 5 (zup (d dg.toNat) ((0 : Int).toNat) 1))) rfl dL_drawn_133 (fun H locs hW => ?_)
                refine lv_aload hX0 hB0 dL_drawn_134 (lv_at hl 4 rfl) ?_
                rw [← hQ]
                refine W.widen (k := 6) (n := 30) (by omega) (by omega) ?_
                refine zy_aret (r := some q1) (Or.inr ⟨_, rfl⟩) CX hW ?_ dL_drawn_136
                refine ⟨q1, rfl, hfr2 0 (by omega), (hkp.up (by have z := hfr2 (1 + dg.toNat) (by omega); rw [← Nat.add_assoc] at z; exact z)), _, hmq.st (by omega) _, zM2_b hbd (by omega), zM2_z hzd (by omega), ⟨dg.toNat, by omega, ?_⟩⟩
                intro z
                dsimp only at z
                rw [if_pos rfl, Nat.sub_self] at z
                unfold zup at z
                rw [if_pos (by rfl)] at z
                exact absurd z (by decide)
            ·
              refine lv_iload hX0 hB0 dL_drawn_93 (lv_at hl 5 rfl) ?_
              refine lv_aload hX0 hB0 dL_drawn_95 (lv_at hl 4 rfl) ?_
              refine lv_iload hX0 hB0 dL_drawn_97 (lv_at hl 6 rfl) ?_
              refine z_aaldM (o := some (q1 + 1 + j.toNat)) CX hW hmq.1 5 rfl (by refine ⟨?_, ?_, ?_⟩ <;> omega) rfl dL_drawn_99 ?_
              refine lv_iload_n hX0 hB0 dL_drawn_100 rfl (lv_at hl 2 rfl) ?_
              refine lv_iload hX0 hB0 dL_drawn_101 (lv_at hl 6 rfl) ?_
              refine z_isub (z := dg - j) CX dL_drawn_103 rfl ?_
              refine z_iald (z := (d j.toNat) ((dg - j).toNat)) CX hW (hmq.2 j.toNat (by omega)) 0 rfl (by refine ⟨?_, ?_, ?_⟩ <;> omega) rfl dL_drawn_104 ?_
              have hbb := hbd j.toNat (dg - j).toNat
              refine z_if_eq (tgt := 112) CX dL_drawn_105 (by decide) (by constructor <;> omega) (fun c_105 => ?_) (fun c_105 => ?_)
              ·
                refine lv_iconst (v := zI 0) hX0 hB0 dL_drawn_112 rfl ?_
                refine lv_ior hX0 hB0 dL_drawn_113 ?_
                rw [zI_or01 hs6 (by omega)]
                refine lv_istore (lv' := [(6, .int (zI (max s6 0))), (0, .ref (D.2 96 3)), (1, .int (zI fr)), (2, .int (zI dg)), (3, .int (zI p)), (4, .ref q1), (7, .int (zI j))]) hX0 hB0 dL_drawn_114 hl (by decide) rfl (fun ls hl => ?_)
                refine lv_iinc (v := zI (j + 1)) (lv' := [(7, .int (zI (j + 1))), (6, .int (zI (max s6 0))), (0, .ref (D.2 96 3)), (1, .int (zI fr)), (2, .int (zI dg)), (3, .int (zI p)), (4, .ref q1)]) hX0 hB0 dL_drawn_116 hl (k := 6) rfl (zI_add _ _) (by decide) rfl (fun ls hl => ?_)
                refine lv_goto (tgt := 87) hX0 hB0 dL_drawn_119 (by decide) ?_
                exact ih87 (max s6 0) (j + 1) Lx ⟨by omega, fun e => hex (by omega), by omega, by omega⟩ (by omega) H locs ls hW (lv_sub hl [2, 3, 4, 5, 6, 1, 0] rfl)
              ·
                refine lv_iconst (v := zI 1) hX0 hB0 dL_drawn_108 rfl ?_
                refine lv_goto (tgt := 113) hX0 hB0 dL_drawn_109 (by decide) ?_
                refine lv_ior hX0 hB0 dL_drawn_113 ?_
                rw [zI_or01 hs6 (by omega)]
                refine lv_istore (lv' := [(6, .int (zI (max s6 1))), (0, .ref (D.2 96 3)), (1, .int (zI fr)), (2, .int (zI dg)), (3, .int (zI p)), (4, .ref q1), (7, .int (zI j))]) hX0 hB0 dL_drawn_114 hl (by decide) rfl (fun ls hl => ?_)
                refine lv_iinc (v := zI (j + 1)) (lv' := [(7, .int (zI (j + 1))), (6, .int (zI (max s6 1))), (0, .ref (D.2 96 3)), (1, .int (zI fr)), (2, .int (zI dg)), (3, .int (zI p)), (4, .ref q1)]) hX0 hB0 dL_drawn_116 hl (k := 6) rfl (zI_add _ _) (by decide) rfl (fun ls hl => ?_)
                refine lv_goto (tgt := 87) hX0 hB0 dL_drawn_119 (by decide) ?_
                exact ih87 (max s6 1) (j + 1) Lx ⟨by omega, fun e => ⟨j.toNat, by omega, by rw [show dg.toNat - j.toNat = (dg - j).toNat by omega]; exact c_105⟩, by omega, by omega⟩ (by omega) H locs ls hW (lv_sub hl [2, 3, 4, 5, 6, 1, 0] rfl)
        exact hL87 _ 0 0 Lx ⟨Or.inl rfl, fun e => absurd e (by decide), by omega, by omega⟩ (Nat.lt_succ_self _) H locs ls hW (lv_sub hl [2, 3, 4, 5, 6, 1, 0] rfl)
      ·
        refine lv_iconst (v := zI 0) hX0 hB0 dL_drawn_20 rfl ?_
        refine lv_istore (lv' := [(7, .int (zI 0)), (0, .ref (D.2 96 3)), (1, .int (zI fr)), (2, .int (zI dg)), (3, .int (zI p)), (4, .ref q1), (5, .int (zI a5)), (6, .int (zI i))]) hX0 hB0 dL_drawn_21 hl (by decide) rfl (fun ls hl => ?_)
        have hL23 : ∀ (fu : Nat) (g : Nat → va_E) (d : Nat → Nat → Int) (a5 : Int) (j : Int) (Lx : List Nat), (zMq cI cM q1 d g ∧ zKp2 f g ∧ (∀ a b : Nat, 0 ≤ d a b ∧ d a b < p) ∧ (∀ a b : Nat, dg < (a : Int) + b → d a b = 0) ∧ (0 ≤ j ∧ i + j ≤ dg + 1) ∧ (0 ≤ a5 ∧ a5 ≤ 20 + 5 * i + j)) → (dg + 1 - j).toNat < fu → ∀ (H : Heap) (locs : List Loc) (ls : Array Slot), zW D (zT cI cJ cZ cP cS cM) Lx (zQ L sz) st g st.heap H locs → lv_has ls 8 [(0, .ref (D.2 96 3)), (1, .int (zI fr)), (2, .int (zI dg)), (3, .int (zI p)), (4, .ref q1), (5, .int (zI a5)), (6, .int (zI i)), (7, .int (zI j))] → W pg l en ({ frames := 1, cells := 6, slots := 30, locals := 22 } : Room) st mi ag bl mt cd H locs 6 30 Q (F0 mi 23 ls []) := by
          intro fu
          induction fu with
          | zero => intro g d a5 j Lx _ hfu; exact absurd hfu (Nat.not_lt_zero _)
          | succ fu ih23 =>
            intro g d a5 j Lx hinv23 hfu23 H locs ls hW hl
            obtain ⟨hmq, hkp, hbd, hzd, hj, ha5⟩ := hinv23
            refine lv_iload hX0 hB0 dL_drawn_23 (lv_at hl 6 rfl) ?_
            refine lv_iload hX0 hB0 dL_drawn_25 (lv_at hl 7 rfl) ?_
            refine z_iadd (z := i + j) CX dL_drawn_27 rfl ?_
            refine lv_iload_n hX0 hB0 dL_drawn_28 rfl (lv_at hl 2 rfl) ?_
            refine z_icmp_gt (tgt := 75) CX dL_drawn_29 (by decide) (by constructor <;> omega) (by constructor <;> omega) (fun c_29 => ?_) (fun c_29 => ?_)
            ·
              refine lv_iinc (v := zI (i + 1)) (lv' := [(6, .int (zI (i + 1))), (0, .ref (D.2 96 3)), (1, .int (zI fr)), (2, .int (zI dg)), (3, .int (zI p)), (4, .ref q1), (5, .int (zI a5)), (7, .int (zI j))]) hX0 hB0 dL_drawn_75 hl (k := 6) rfl (zI_add _ _) (by decide) rfl (fun ls hl => ?_)
              refine lv_goto (tgt := 14) hX0 hB0 dL_drawn_78 (by decide) ?_
              exact ih14 g d a5 (i + 1) Lx ⟨hmq, hkp, hbd, hzd, by omega, by omega⟩ (by omega) H locs ls hW (lv_sub hl [1, 2, 3, 4, 5, 6, 0] rfl)
            ·
              refine lv_aload hX0 hB0 dL_drawn_32 (lv_at hl 4 rfl) ?_
              refine lv_iload hX0 hB0 dL_drawn_34 (lv_at hl 6 rfl) ?_
              refine z_aaldM (o := some (q1 + 1 + i.toNat)) CX hW hmq.1 5 rfl (by refine ⟨?_, ?_, ?_⟩ <;> omega) rfl dL_drawn_36 ?_
              refine lv_iload hX0 hB0 dL_drawn_37 (lv_at hl 7 rfl) ?_
              refine lv_aload_n hX0 hB0 dL_drawn_39 rfl (lv_at hl 0 rfl) ?_
              refine lv_iload hX0 hB0 dL_drawn_40 (lv_at hl 5 rfl) ?_
              refine lv_iconst (v := zI 3) hX0 hB0 dL_drawn_42 rfl ?_
              refine z_calli hW (va_runS (As := [.ref (D.2 96 3), .int (zI a5), .int (zI 3)]) (rest := [.int (zI j), .ref (q1 + 1 + i.toNat)]) CX.fix (c_pick l (f := g) a5 3 hL (by omega) (by omega)) (va_cwS 3 CX.fix.2.2.2.2 gL_drawn_L_pick rfl rfl rfl (by decide +kernel) ⟨Nat.le_of_ble_eq_true rfl, Nat.le_of_ble_eq_true rfl⟩) (z_preS CX hW) rfl rfl hl.1 rfl (lv_room (Nat.le_of_ble_eq_true rfl)) dL_drawn_43 ⟨by show _ ≤ 6; omega, by show _ ≤ 30; omega⟩) (fun zv gn H locs hok43 hW => ?_)
              obtain ⟨hpk2, eg⟩ := hok43
              rw [eg] at hW
              clear eg
              obtain ⟨pk2, epk2⟩ : ∃ q, q = zv := ⟨_, rfl⟩
              rw [← epk2] at hpk2 ⊢
              clear epk2
              refine z_if_ne (tgt := 53) CX dL_drawn_46 (by decide) (by constructor <;> omega) (fun c_46 => ?_) (fun c_46 => ?_)
              ·
                refine lv_aload_n hX0 hB0 dL_drawn_53 rfl (lv_at hl 0 rfl) ?_
                refine lv_iload hX0 hB0 dL_drawn_54 (lv_at hl 5 rfl) ?_
                refine lv_iload_n hX0 hB0 dL_drawn_56 rfl (lv_at hl 3 rfl) ?_
                refine lv_bipush (v := zI 7) hX0 hB0 dL_drawn_57 (by decide) ?_
                refine z_imul (z := p * 7) CX dL_drawn_59 rfl ?_
                refine z_calli hW (va_runS (As := [.ref (D.2 96 3), .int (zI a5), .int (zI (p * 7))]) (rest := [.int (zI j), .ref (q1 + 1 + i.toNat)]) CX.fix (c_pick l (f := g) a5 (p * 7) hL (by omega) (by omega)) (va_cwS 3 CX.fix.2.2.2.2 gL_drawn_L_pick rfl rfl rfl (by decide +kernel) ⟨Nat.le_of_ble_eq_true rfl, Nat.le_of_ble_eq_true rfl⟩) (z_preS CX hW) rfl rfl hl.1 rfl (lv_room (Nat.le_of_ble_eq_true rfl)) dL_drawn_60 ⟨by show _ ≤ 6; omega, by show _ ≤ 30; omega⟩) (fun zv gn H locs hok60 hW => ?_)
                obtain ⟨hpk3, eg⟩ := hok60
                rw [eg] at hW
                clear eg
                obtain ⟨pk3, epk3⟩ : ∃ q, q = zv := ⟨_, rfl⟩
                rw [← epk3] at hpk3 ⊢
                clear epk3
                refine lv_iload_n hX0 hB0 dL_drawn_63 rfl (lv_at hl 3 rfl) ?_
                refine z_irem (z := pk3 % p) CX dL_drawn_64 (by constructor <;> omega) (by constructor <;> omega) (Int.tmod_eq_emod_of_nonneg (by omega)) ?_
                refine z_iast CX hW (hmq.2 i.toNat (by omega)) 0 rfl (by refine ⟨?_, ?_, ?_⟩ <;> omega) (g := va_up g (q1 + 1 + i.toNat) (zA cI 5 (zup (d i.toNat) j.toNat (pk3 % p)))) rfl dL_drawn_65 (fun H locs hW => ?_)
                refine lv_iinc (v := zI (a5 + 1)) (lv' := [(5, .int (zI (a5 + 1))), (0, .ref (D.2 96 3)), (1, .int (zI fr)), (2, .int (zI dg)), (3, .int (zI p)), (4, .ref q1), (6, .int (zI i)), (7, .int (zI j))]) hX0 hB0 dL_drawn_66 hl (k := 5) rfl (zI_add _ _) (by decide) rfl (fun ls hl => ?_)
                refine lv_iinc (v := zI (j + 1)) (lv' := [(7, .int (zI (j + 1))), (5, .int (zI (a5 + 1))), (0, .ref (D.2 96 3)), (1, .int (zI fr)), (2, .int (zI dg)), (3, .int (zI p)), (4, .ref q1), (6, .int (zI i))]) hX0 hB0 dL_drawn_69 hl (k := 7) rfl (zI_add _ _) (by decide) rfl (fun ls hl => ?_)
                refine lv_goto (tgt := 23) hX0 hB0 dL_drawn_72 (by decide) ?_
                exact ih23 (va_up g (q1 + 1 + i.toNat) (zA cI 5 (zup (d i.toNat) j.toNat (pk3 % p)))) ((fun a => if a = i.toNat then zup (d i.toNat) j.toNat (pk3 % p) else d a)) (a5 + 1) (j + 1) Lx ⟨hmq.st (by omega) _, (hkp.up (by have z := hfr2 (1 + i.toNat) (by omega); rw [← Nat.add_assoc] at z; exact z)), zM2_b hbd ⟨Int.emod_nonneg _ (by omega), Int.emod_lt_of_pos _ (by omega)⟩, zM2_z hzd (by omega), by omega, by omega⟩ (by omega) H locs ls hW (lv_sub hl [2, 3, 4, 5, 6, 1, 7, 0] rfl)
              ·
                refine lv_iconst (v := zI 0) hX0 hB0 dL_drawn_49 rfl ?_
                refine lv_goto (tgt := 65) hX0 hB0 dL_drawn_50 (by decide) ?_
                refine z_iast CX hW (hmq.2 i.toNat (by omega)) 0 rfl (by refine ⟨?_, ?_, ?_⟩ <;> omega) (g := va_up g (q1 + 1 + i.toNat) (zA cI 5 (zup (d i.toNat) j.toNat 0))) rfl dL_drawn_65 (fun H locs hW => ?_)
                refine lv_iinc (v := zI (a5 + 1)) (lv' := [(5, .int (zI (a5 + 1))), (0, .ref (D.2 96 3)), (1, .int (zI fr)), (2, .int (zI dg)), (3, .int (zI p)), (4, .ref q1), (6, .int (zI i)), (7, .int (zI j))]) hX0 hB0 dL_drawn_66 hl (k := 5) rfl (zI_add _ _) (by decide) rfl (fun ls hl => ?_)
                refine lv_iinc (v := zI (j + 1)) (lv' := [(7, .int (zI (j + 1))), (5, .int (zI (a5 + 1))), (0, .ref (D.2 96 3)), (1, .int (zI fr)), (2, .int (zI dg)), (3, .int (zI p)), (4, .ref q1), (6, .int (zI i))]) hX0 hB0 dL_drawn_69 hl (k := 7) rfl (zI_add _ _) (by decide) rfl (fun ls hl => ?_)
                refine lv_goto (tgt := 23) hX0 hB0 dL_drawn_72 (by decide) ?_
                exact ih23 (va_up g (q1 + 1 + i.toNat) (zA cI 5 (zup (d i.toNat) j.toNat 0))) ((fun a => if a = i.toNat then zup (d i.toNat) j.toNat 0 else d a)) (a5 + 1) (j + 1) Lx ⟨hmq.st (by omega) _, (hkp.up (by have z := hfr2 (1 + i.toNat) (by omega); rw [← Nat.add_assoc] at z; exact z)), zM2_b hbd (by omega), zM2_z hzd (by omega), by omega, by omega⟩ (by omega) H locs ls hW (lv_sub hl [2, 3, 4, 5, 6, 1, 7, 0] rfl)
        exact hL23 _ g d a5 0 Lx ⟨hmq, hkp, hbd, hzd, by omega, by omega⟩ (Nat.lt_succ_self _) H locs ls hW (lv_sub hl [1, 2, 3, 4, 5, 6, 7, 0] rfl)
  exact hL14 _ g2 ((fun _ => zone 0)) fr 0 Lx ⟨hmq2, hkp2, fun a b => by rw [zone_0]; omega, fun a b _ => zone_0 b, by omega, by omega⟩ (Nat.lt_succ_self _) H locs ls hW (lv_sub hl [3, 4, 5, 6, 2, 1, 0] rfl)
/-- a term in letters -/
def zte (d : Nat → Nat → Int) (i j : Nat) : List Int := if d i j = 0 then [] else [43, 48 + d i j, 42, 120, 94, 48 + (i : Int), 42, 121, 94, 48 + (j : Int)]
def zts (d : Nat → Nat → Int) : Nat → List Int
  | 0 => [48]
  | k + 1 => zts d k ++ zte d (k / 5) (k % 5)
def zcn (n : Nat) : Nat → Nat
  | 0 => 0
  | k + 1 => zcn n k + if k / 5 + k % 5 ≤ n then 1 else 0
theorem zte_len (d : Nat → Nat → Int) (i j : Nat) : (zte d i j).length ≤ 10 := by
  unfold zte
  split
  · exact Nat.zero_le _
  · exact Nat.le_refl _
theorem zts_len {d : Nat → Nat → Int} {n : Nat} (hz : ∀ a b : Nat, (n : Int) < (a : Int) + b → d a b = 0) : ∀ k, (zts d k).length ≤ 1 + 10 * zcn n k
  | 0 => Nat.le_refl _
  | k + 1 => by
    have ih := zts_len hz k
    unfold zts zcn
    rw [List.length_append]
    have := zte_len d (k / 5) (k % 5)
    by_cases c : k / 5 + k % 5 ≤ n
    · rw [if_pos c]
      omega
    · rw [if_neg c]
      have e : zte d (k / 5) (k % 5) = [] := if_pos (hz _ _ (by omega))
      rw [e]
      show _ + 0 ≤ _
      omega
theorem zcn_le : (∀ k : Fin 26, zcn 4 k.val ≤ 15) ∧ ∀ k : Fin 26, zcn 3 k.val ≤ 10 := by decide
theorem zts_len4 {d : Nat → Nat → Int} (hz : ∀ a b : Nat, (4 : Int) < (a : Int) + b → d a b = 0) {k : Nat} (hk : k ≤ 25) : (zts d k).length ≤ 151 := by
  have := zts_len (n := 4) hz k
  have c := zcn_le.1 ⟨k, by omega⟩
  dsimp only at c
  omega
theorem zts_len3 {d : Nat → Nat → Int} (hz : ∀ a b : Nat, (3 : Int) < (a : Int) + b → d a b = 0) {k : Nat} (hk : k ≤ 25) : (zts d k).length ≤ 101 := by
  have := zts_len (n := 3) hz k
  have c := zcn_le.2 ⟨k, by omega⟩
  dsimp only at c
  omega
theorem zts_y {d : Nat → Nat → Int} {x y : Int} (hx : 0 ≤ x) (hy : 0 ≤ y ∧ y < 5) (c : ¬ d x.toNat y.toNat = 0) : zts d (5 * x.toNat + y.toNat) ++ [43] ++ [48 + d x.toNat y.toNat] ++ [42, 120, 94] ++ [48 + x] ++ [42, 121, 94] ++ [48 + y] = zts d (5 * x.toNat + (y + 1).toNat) := by
  rw [show 5 * x.toNat + (y + 1).toNat = (5 * x.toNat + y.toNat) + 1 by omega]
  show _ = zts d (5 * x.toNat + y.toNat) ++ zte d ((5 * x.toNat + y.toNat) / 5) ((5 * x.toNat + y.toNat) % 5)
  rw [show (5 * x.toNat + y.toNat) / 5 = x.toNat by omega, show (5 * x.toNat + y.toNat) % 5 = y.toNat by omega]
  unfold zte
  rw [if_neg c, show ((x.toNat : Nat) : Int) = x by omega, show ((y.toNat : Nat) : Int) = y by omega]
  simp only [List.append_assoc, List.cons_append, List.nil_append]
theorem zts_n {d : Nat → Nat → Int} {x y : Int} (hx : 0 ≤ x) (hy : 0 ≤ y ∧ y < 5) (c : d x.toNat y.toNat = 0) : zts d (5 * x.toNat + y.toNat) = zts d (5 * x.toNat + (y + 1).toNat) := by
  rw [show 5 * x.toNat + (y + 1).toNat = (5 * x.toNat + y.toNat) + 1 by omega]
  show _ = zts d (5 * x.toNat + y.toNat) ++ zte d ((5 * x.toNat + y.toNat) / 5) ((5 * x.toNat + y.toNat) % 5)
  rw [show (5 * x.toNat + y.toNat) / 5 = x.toNat by omega, show (5 * x.toNat + y.toNat) % 5 = y.toNat by omega]
  unfold zte
  rw [if_pos c, List.append_nil]
set_option maxRecDepth 100000 in
set_option maxHeartbeats 4000000 in
/-- text -/
theorem c_text (l : Launch) {D : va_G} {cI cJ cZ cP cS cM : ClassId} {L : List Nat} {sz : Nat} {f : Nat → va_E} (q0 : Nat) (d : Nat → Nat → Int) (hmq : zMq cI cM q0 d f) (hbd : ∀ a b : Nat, 0 ≤ d a b ∧ d a b < 7) (hzd : ∀ a b : Nat, (4 : Int) < (a : Int) + b → d a b = 0) : zXr l yL_text wsL_text 9 233 160 107000 D (zT cI cJ cZ cP cS cM) L sz f [.ref q0] (fun r g => ∃ h, r = some h ∧ f h = zJ ∧ zTm cJ g h (zts d 25).length (zof (zts d 25)) ∧ zKp2 f g) := by
  refine zyWalk.met (nL := 4) (ret := (some (.object "java/lang/String"))) (cc := cL_text) (by decide) rfl (Nat.le_of_ble_eq_true rfl) ?_
  intro pg en st mi ag bl mt cd ls CX hin hW hl
  have CX : zC pg st mi ag mt cd cL_text 4 (some (.object "java/lang/String")) RL wsL_text := CX
  generalize hQ : MQ bl _ ag st 160 107000 _ = Q
  have hX0 := CX.1
  have hB0 := CX.2.1
  have hl : lv_has ls 4 [(0, .ref q0)] := hl
  obtain ⟨H, eH⟩ : ∃ H, H = st.heap := ⟨_, rfl⟩
  obtain ⟨locs, eL⟩ : ∃ L : List Loc, L = [] := ⟨_, rfl⟩
  have hW : zW D (zT cI cJ cZ cP cS cM) L (zQ L sz) st f st.heap H locs := by rw [eH, eL]; exact hW
  suffices hgo : W pg l en ({ frames := 9, cells := 160, slots := 107000, locals := 233 } : Room) st mi ag bl mt cd H locs 0 0 Q (F0 mi 0 ls []) by rw [eH, eL] at hgo; exact hgo
  clear eH eL
  refine zy_new (ci := 13) (fs := [.null, .int (zI 0), .int (zI 0), .int (zI 0)]) CX hW (fun w h => List.mem_cons_of_mem _ (List.mem_append_left _ (List.mem_append_right _ h))) tyJ4 tyJ4_ok (List.mem_of_getElem? (i := 1) rfl) (List.mem_of_getElem? (i := 2) rfl) (List.mem_of_getElem? (i := 3) rfl) rfl (fun j hj => by rcases (show j = 0 ∨ j = 1 ∨ j = 2 ∨ j = 3 by omega) with rfl | rfl | rfl | rfl <;> rfl) (by show _ ≤ 160; omega) (by show _ ≤ 107000; omega) dL_text_0 (fun q1 Lx H hfq1 hW => ?_)
  have hzq1 := hfq1
  refine W.widen (k := 1) (n := 4) (by omega) (by omega) ?_
  refine lv_dup hX0 hB0 dL_text_3 rfl ?_
  refine z_ldcsL CX hW 4 (by decide) (by decide) rfl dL_text_4 ?_
  refine zy_callv hW (va_runI (As := [.ref (D.2 98 4)]) (rest := [.ref q1]) CX.fix (c_sbInitS4 l (f := va_up f q1 (.inr (13, [.null, .int (zI 0), .int (zI 0), .int (zI 0)]))) (f0 := f) q1 (D.2 98 4) [48].length (zof [48]) rfl hfq1 (zTx_c 4 (by decide)) (by decide)) (cwI 1 CX.fix.2.2.2.2 ggL_text_J4_init_a7421 rfl rfl rfl (CX.at (List.mem_of_getElem? (i := 3) rfl)) (CX.at (List.mem_of_getElem? (i := 4) rfl)) (CX.at (List.mem_of_getElem? (i := 5) rfl)) rfl (by decide +kernel) ⟨Nat.le_of_ble_eq_true rfl, Nat.le_of_ble_eq_true rfl⟩) (z_preS CX hW (As := [.ref q1, .ref (D.2 98 4)])) rfl rfl hl.1 rfl (lv_room (Nat.le_of_ble_eq_true rfl)) dL_text_6 ⟨by show _ ≤ 160; omega, by show _ ≤ 107000; omega⟩) (fun Lx gn H locs hok6 hW => ?_)
  obtain ⟨g2, eg2⟩ : ∃ q, q = gn := ⟨_, rfl⟩
  rw [← eg2] at hW hok6
  clear eg2
  have hs2 : zSL cJ f g2 q1 [48] := hok6
  refine W.widen (k := 3) (n := 1104) (by omega) (by omega) ?_
  refine lv_astore_n (lv' := [(1, .ref q1), (0, .ref q0)]) hX0 hB0 dL_text_9 rfl hl (by decide) rfl (fun ls hl => ?_)
  refine lv_iconst (v := zI 0) hX0 hB0 dL_text_10 rfl ?_
  refine lv_istore_n (lv' := [(2, .int (zI 0)), (1, .ref q1), (0, .ref q0)]) hX0 hB0 dL_text_11 rfl hl (by decide) rfl (fun ls hl => ?_)
  have hL12 : ∀ (fu : Nat) (g : Nat → va_E) (i : Int) (Lx : List Nat), (zSL cJ f g q1 (zts d (5 * i.toNat)) ∧ 0 ≤ i ∧ i ≤ 5) → (5 - i).toNat < fu → ∀ (H : Heap) (locs : List Loc) (ls : Array Slot), zW D (zT cI cJ cZ cP cS cM) Lx (zQ L sz) st g st.heap H locs → lv_has ls 4 [(0, .ref q0), (1, .ref q1), (2, .int (zI i))] → W pg l en ({ frames := 9, cells := 160, slots := 107000, locals := 233 } : Room) st mi ag bl mt cd H locs (5 * i.toNat * 6 + 3) (5 * i.toNat * 4200 + 1104) Q (F0 mi 12 ls []) := by
    intro fu
    induction fu with
    | zero => intro g i Lx _ hfu; exact absurd hfu (Nat.not_lt_zero _)
    | succ fu ih12 =>
      intro g i Lx hinv12 hfu12 H locs ls hW hl
      obtain ⟨hs, hi⟩ := hinv12
      refine lv_iload_n hX0 hB0 dL_text_12 rfl (lv_at hl 2 rfl) ?_
      refine lv_iconst (v := zI 5) hX0 hB0 dL_text_13 rfl ?_
      refine z_icmp_ge (tgt := 77) CX dL_text_14 (by decide) (by constructor <;> omega) (by constructor <;> omega) (fun c_14 => ?_) (fun c_14 => ?_)
      ·
        refine lv_aload_n hX0 hB0 dL_text_77 rfl (lv_at hl 1 rfl) ?_
        refine zy_callr hW (va_runV (C := RJ4) (As := []) (rest := []) CX.fix (c_toString l (f := g) q1 (List.length (α := Int) (zts d (5 * i.toNat))) (zof (zts d (5 * i.toNat))) hs) (cwV 0 CX.fix.2.2.2.2 gL_text_J4_toString_0e30d rfl rfl rfl (by decide +kernel) ⟨Nat.le_of_ble_eq_true rfl, Nat.le_of_ble_eq_true rfl⟩) (z_preSB CX hW hs) rfl rfl hl.1 rfl (lv_room (Nat.le_of_ble_eq_true rfl)) dL_text_78 ⟨by show _ ≤ 160; omega, by show _ ≤ 107000; omega⟩) (fun zv Lx gn H locs hok78 hW => ?_)
        obtain ⟨h9, ez, hfh, htm, hk9⟩ := hok78
        rw [ez]
        clear ez
        obtain ⟨g3, eg3⟩ : ∃ q, q = gn := ⟨_, rfl⟩
        rw [← eg3] at hW htm hk9
        clear eg3
        refine W.widen (k := 5 * i.toNat * 6 + 5) (n := 5 * i.toNat * 4200 + 1808) (by omega) (by omega) ?_
        rw [← hQ]
        refine W.widen (k := 160) (n := 107000) (by omega) (by omega) ?_
        refine zy_aret (r := some h9) (Or.inl ⟨_, rfl⟩) CX hW ?_ dL_text_81
        have e5 : 5 * i.toNat = 25 := by omega
        rw [e5] at htm
        exact ⟨h9, rfl, Classical.byContradiction fun z => z (by rw [← hs.2.2 _ z]; exact hfh), zTn.m htm, fun b hb => (hk9 b (by rw [hs.2.2 b hb]; exact hb)).trans (hs.2.2 b hb)⟩
      ·
        refine lv_iconst (v := zI 0) hX0 hB0 dL_text_17 rfl ?_
        refine lv_istore_n (lv' := [(3, .int (zI 0)), (0, .ref q0), (1, .ref q1), (2, .int (zI i))]) hX0 hB0 dL_text_18 rfl hl (by decide) rfl (fun ls hl => ?_)
        have hL19 : ∀ (fu : Nat) (g : Nat → va_E) (j : Int) (Lx : List Nat), (zSL cJ f g q1 (zts d (5 * i.toNat + j.toNat)) ∧ 0 ≤ j ∧ j ≤ 5) → (5 - j).toNat < fu → ∀ (H : Heap) (locs : List Loc) (ls : Array Slot), zW D (zT cI cJ cZ cP cS cM) Lx (zQ L sz) st g st.heap H locs → lv_has ls 4 [(0, .ref q0), (1, .ref q1), (2, .int (zI i)), (3, .int (zI j))] → W pg l en ({ frames := 9, cells := 160, slots := 107000, locals := 233 } : Room) st mi ag bl mt cd H locs ((5 * i.toNat + j.toNat) * 6 + 3) ((5 * i.toNat + j.toNat) * 4200 + 1104) Q (F0 mi 19 ls []) := by
          intro fu
          induction fu with
          | zero => intro g j Lx _ hfu; exact absurd hfu (Nat.not_lt_zero _)
          | succ fu ih19 =>
            intro g j Lx hinv19 hfu19 H locs ls hW hl
            obtain ⟨hs, hj⟩ := hinv19
            refine lv_iload_n hX0 hB0 dL_text_19 rfl (lv_at hl 3 rfl) ?_
            refine lv_iconst (v := zI 5) hX0 hB0 dL_text_20 rfl ?_
            refine z_icmp_ge (tgt := 71) CX dL_text_21 (by decide) (by constructor <;> omega) (by constructor <;> omega) (fun c_21 => ?_) (fun c_21 => ?_)
            ·
              refine lv_iinc (v := zI (i + 1)) (lv' := [(2, .int (zI (i + 1))), (0, .ref q0), (1, .ref q1), (3, .int (zI j))]) hX0 hB0 dL_text_71 hl (k := 2) rfl (zI_add _ _) (by decide) rfl (fun ls hl => ?_)
              refine lv_goto (tgt := 12) hX0 hB0 dL_text_74 (by decide) ?_
              refine W.widen (k := 5 * (i + 1).toNat * 6 + 3) (n := 5 * (i + 1).toNat * 4200 + 1104) (by omega) (by omega) ?_
              exact ih12 g (i + 1) Lx ⟨by rw [show 5 * (i + 1).toNat = 5 * i.toNat + j.toNat by omega]; exact hs, by omega, by omega⟩ (by omega) H locs ls hW (lv_sub hl [1, 2, 0] rfl)
            ·
              have hbb := hbd i.toNat j.toNat
              have hln : (zts d (5 * i.toNat + j.toNat)).length ≤ 151 := zts_len4 hzd (by omega)
              refine lv_aload_n hX0 hB0 dL_text_24 rfl (lv_at hl 0 rfl) ?_
              refine lv_iload_n hX0 hB0 dL_text_25 rfl (lv_at hl 2 rfl) ?_
              refine z_aaldM (o := some (q0 + 1 + i.toNat)) CX hW (hmq.kp hs.2.2).1 5 rfl (by refine ⟨?_, ?_, ?_⟩ <;> omega) rfl dL_text_26 ?_
              refine lv_iload_n hX0 hB0 dL_text_27 rfl (lv_at hl 3 rfl) ?_
              refine z_iald (z := (d i.toNat) j.toNat) CX hW ((hmq.kp hs.2.2).2 i.toNat (by omega)) 0 rfl (by refine ⟨?_, ?_, ?_⟩ <;> omega) rfl dL_text_28 ?_
              refine z_if_eq (tgt := 65) CX dL_text_29 (by decide) (by constructor <;> omega) (fun c_29 => ?_) (fun c_29 => ?_)
              ·
                refine lv_iinc (v := zI (j + 1)) (lv' := [(3, .int (zI (j + 1))), (0, .ref q0), (1, .ref q1), (2, .int (zI i))]) hX0 hB0 dL_text_65 hl (k := 3) rfl (zI_add _ _) (by decide) rfl (fun ls hl => ?_)
                refine lv_goto (tgt := 19) hX0 hB0 dL_text_68 (by decide) ?_
                refine W.widen (k := (5 * i.toNat + (j + 1).toNat) * 6 + 3) (n := (5 * i.toNat + (j + 1).toNat) * 4200 + 1104) (by omega) (by omega) ?_
                exact ih19 g (j + 1) Lx ⟨by rw [← zts_n (by omega) (by omega) c_29]; exact hs, by omega, by omega⟩ (by omega) H locs ls hW (lv_sub hl [1, 2, 3, 0] rfl)
              ·
                refine lv_aload_n hX0 hB0 dL_text_32 rfl (lv_at hl 1 rfl) ?_
                refine z_ldcsL CX hW 5 (by decide) (by decide) rfl dL_text_33 ?_
                refine zy_callr hW (va_runV (C := RJ4) (As := [.ref (D.2 98 5)]) (rest := []) CX.fix (c_app4 l (f := g) q1 (List.length (α := Int) (zts d (5 * i.toNat + j.toNat))) (D.2 98 5) (List.length (α := Int) ([43])) (zof (zts d (5 * i.toNat + j.toNat))) (zof ([43])) hs (zTx_c 5 (by decide)) (by simp only [List.length_append, List.length_cons, List.length_nil]; omega)) (cwV 1 CX.fix.2.2.2.2 gL_text_J4_append_15ec4 rfl rfl rfl (by decide +kernel) ⟨Nat.le_of_ble_eq_true rfl, Nat.le_of_ble_eq_true rfl⟩) (z_preSB CX hW hs) rfl rfl hl.1 rfl (lv_room (Nat.le_of_ble_eq_true rfl)) dL_text_35 ⟨by show _ ≤ 160; omega, by show _ ≤ 107000; omega⟩) (fun zv Lx gn H locs hok35 hW => ?_)
                obtain ⟨ez, hy4⟩ := hok35
                rw [ez]
                clear ez
                obtain ⟨g4, eg4⟩ : ∃ q, q = gn := ⟨_, rfl⟩
                rw [← eg4] at hW hy4
                clear eg4
                have hs4 : zSL cJ f g4 q1 (zts d (5 * i.toNat + j.toNat) ++ [43]) := zSL.app hy4
                refine W.widen (k := (5 * i.toNat + j.toNat) * 6 + 4) (n := (5 * i.toNat + j.toNat) * 4200 + 1804) (by omega) (by omega) ?_
                refine lv_aload_n hX0 hB0 dL_text_38 rfl (lv_at hl 0 rfl) ?_
                refine lv_iload_n hX0 hB0 dL_text_39 rfl (lv_at hl 2 rfl) ?_
                refine z_aaldM (o := some (q0 + 1 + i.toNat)) CX hW (hmq.kp hs4.2.2).1 5 rfl (by refine ⟨?_, ?_, ?_⟩ <;> omega) rfl dL_text_40 ?_
                refine lv_iload_n hX0 hB0 dL_text_41 rfl (lv_at hl 3 rfl) ?_
                refine z_iald (z := (d i.toNat) j.toNat) CX hW ((hmq.kp hs4.2.2).2 i.toNat (by omega)) 0 rfl (by refine ⟨?_, ?_, ?_⟩ <;> omega) rfl dL_text_42 ?_
                refine zy_callr hW (va_runV (C := RJ4) (As := [.int (zI ((d i.toNat) j.toNat))]) (rest := []) CX.fix (c_appI4 l (f := g4) q1 (List.length (α := Int) (zts d (5 * i.toNat + j.toNat) ++ [43])) (zof (zts d (5 * i.toNat + j.toNat) ++ [43])) ((d i.toNat) j.toNat) hs4 (by omega) (by simp only [List.length_append, List.length_cons, List.length_nil]; omega)) (cwV 1 CX.fix.2.2.2.2 gL_text_J4_append_bf812 rfl rfl rfl (by decide +kernel) ⟨Nat.le_of_ble_eq_true rfl, Nat.le_of_ble_eq_true rfl⟩) (z_preSB CX hW hs4) rfl rfl hl.1 rfl (lv_room (Nat.le_of_ble_eq_true rfl)) dL_text_43 ⟨by show _ ≤ 160; omega, by show _ ≤ 107000; omega⟩) (fun zv Lx gn H locs hok43 hW => ?_)
                obtain ⟨ez, hy5⟩ := hok43
                rw [ez]
                clear ez
                obtain ⟨g5, eg5⟩ : ∃ q, q = gn := ⟨_, rfl⟩
                rw [← eg5] at hW hy5
                clear eg5
                have hs5 : zSL cJ f g5 q1 (zts d (5 * i.toNat + j.toNat) ++ [43] ++ [48 + (d i.toNat) j.toNat]) := zSL.app1 hy5
                refine W.widen (k := (5 * i.toNat + j.toNat) * 6 + 5) (n := (5 * i.toNat + j.toNat) * 4200 + 2504) (by omega) (by omega) ?_
                refine z_ldcsL CX hW 6 (by decide) (by decide) rfl dL_text_46 ?_
                refine zy_callr hW (va_runV (C := RJ4) (As := [.ref (D.2 98 6)]) (rest := []) CX.fix (c_app4 l (f := g5) q1 (List.length (α := Int) (zts d (5 * i.toNat + j.toNat) ++ [43] ++ [48 + (d i.toNat) j.toNat])) (D.2 98 6) (List.length (α := Int) ([42, 120, 94])) (zof (zts d (5 * i.toNat + j.toNat) ++ [43] ++ [48 + (d i.toNat) j.toNat])) (zof ([42, 120, 94])) hs5 (zTx_c 6 (by decide)) (by simp only [List.length_append, List.length_cons, List.length_nil]; omega)) (cwV 1 CX.fix.2.2.2.2 gL_text_J4_append_15ec4 rfl rfl rfl (by decide +kernel) ⟨Nat.le_of_ble_eq_true rfl, Nat.le_of_ble_eq_true rfl⟩) (z_preSB CX hW hs5) rfl rfl hl.1 rfl (lv_room (Nat.le_of_ble_eq_true rfl)) dL_text_48 ⟨by show _ ≤ 160; omega, by show _ ≤ 107000; omega⟩) (fun zv Lx gn H locs hok48 hW => ?_)
                obtain ⟨ez, hy6⟩ := hok48
                rw [ez]
                clear ez
                obtain ⟨g6, eg6⟩ : ∃ q, q = gn := ⟨_, rfl⟩
                rw [← eg6] at hW hy6
                clear eg6
                have hs6 : zSL cJ f g6 q1 (zts d (5 * i.toNat + j.toNat) ++ [43] ++ [48 + (d i.toNat) j.toNat] ++ [42, 120, 94]) := zSL.app hy6
                refine W.widen (k := (5 * i.toNat + j.toNat) * 6 + 6) (n := (5 * i.toNat + j.toNat) * 4200 + 3204) (by omega) (by omega) ?_
                refine lv_iload_n hX0 hB0 dL_text_51 rfl (lv_at hl 2 rfl) ?_
                refine zy_callr hW (va_runV (C := RJ4) (As := [.int (zI i)]) (rest := []) CX.fix (c_appI4 l (f := g6) q1 (List.length (α := Int) (zts d (5 * i.toNat + j.toNat) ++ [43] ++ [48 + (d i.toNat) j.toNat] ++ [42, 120, 94])) (zof (zts d (5 * i.toNat + j.toNat) ++ [43] ++ [48 + (d i.toNat) j.toNat] ++ [42, 120, 94])) i hs6 (by omega) (by simp only [List.length_append, List.length_cons, List.length_nil]; omega)) (cwV 1 CX.fix.2.2.2.2 gL_text_J4_append_bf812 rfl rfl rfl (by decide +kernel) ⟨Nat.le_of_ble_eq_true rfl, Nat.le_of_ble_eq_true rfl⟩) (z_preSB CX hW hs6) rfl rfl hl.1 rfl (lv_room (Nat.le_of_ble_eq_true rfl)) dL_text_52 ⟨by show _ ≤ 160; omega, by show _ ≤ 107000; omega⟩) (fun zv Lx gn H locs hok52 hW => ?_)
                obtain ⟨ez, hy7⟩ := hok52
                rw [ez]
                clear ez
                obtain ⟨g7, eg7⟩ : ∃ q, q = gn := ⟨_, rfl⟩
                rw [← eg7] at hW hy7
                clear eg7
                have hs7 : zSL cJ f g7 q1 (zts d (5 * i.toNat + j.toNat) ++ [43] ++ [48 + (d i.toNat) j.toNat] ++ [42, 120, 94] ++ [48 + i]) := zSL.app1 hy7
                refine W.widen (k := (5 * i.toNat + j.toNat) * 6 + 7) (n := (5 * i.toNat + j.toNat) * 4200 + 3904) (by omega) (by omega) ?_
                refine z_ldcsL CX hW 7 (by decide) (by decide) rfl dL_text_55 ?_
                refine zy_callr hW (va_runV (C := RJ4) (As := [.ref (D.2 98 7)]) (rest := []) CX.fix (c_app4 l (f := g7) q1 (List.length (α := Int) (zts d (5 * i.toNat + j.toNat) ++ [43] ++ [48 + (d i.toNat) j.toNat] ++ [42, 120, 94] ++ [48 + i])) (D.2 98 7) (List.length (α := Int) ([42, 121, 94])) (zof (zts d (5 * i.toNat + j.toNat) ++ [43] ++ [48 + (d i.toNat) j.toNat] ++ [42, 120, 94] ++ [48 + i])) (zof ([42, 121, 94])) hs7 (zTx_c 7 (by decide)) (by simp only [List.length_append, List.length_cons, List.length_nil]; omega)) (cwV 1 CX.fix.2.2.2.2 gL_text_J4_append_15ec4 rfl rfl rfl (by decide +kernel) ⟨Nat.le_of_ble_eq_true rfl, Nat.le_of_ble_eq_true rfl⟩) (z_preSB CX hW hs7) rfl rfl hl.1 rfl (lv_room (Nat.le_of_ble_eq_true rfl)) dL_text_57 ⟨by show _ ≤ 160; omega, by show _ ≤ 107000; omega⟩) (fun zv Lx gn H locs hok57 hW => ?_)
                obtain ⟨ez, hy8⟩ := hok57
                rw [ez]
                clear ez
                obtain ⟨g8, eg8⟩ : ∃ q, q = gn := ⟨_, rfl⟩
                rw [← eg8] at hW hy8
                clear eg8
                have hs8 : zSL cJ f g8 q1 (zts d (5 * i.toNat + j.toNat) ++ [43] ++ [48 + (d i.toNat) j.toNat] ++ [42, 120, 94] ++ [48 + i] ++ [42, 121, 94]) := zSL.app hy8
                refine W.widen (k := (5 * i.toNat + j.toNat) * 6 + 8) (n := (5 * i.toNat + j.toNat) * 4200 + 4604) (by omega) (by omega) ?_
                refine lv_iload_n hX0 hB0 dL_text_60 rfl (lv_at hl 3 rfl) ?_
                refine zy_callr hW (va_runV (C := RJ4) (As := [.int (zI j)]) (rest := []) CX.fix (c_appI4 l (f := g8) q1 (List.length (α := Int) (zts d (5 * i.toNat + j.toNat) ++ [43] ++ [48 + (d i.toNat) j.toNat] ++ [42, 120, 94] ++ [48 + i] ++ [42, 121, 94])) (zof (zts d (5 * i.toNat + j.toNat) ++ [43] ++ [48 + (d i.toNat) j.toNat] ++ [42, 120, 94] ++ [48 + i] ++ [42, 121, 94])) j hs8 (by omega) (by simp only [List.length_append, List.length_cons, List.length_nil]; omega)) (cwV 1 CX.fix.2.2.2.2 gL_text_J4_append_bf812 rfl rfl rfl (by decide +kernel) ⟨Nat.le_of_ble_eq_true rfl, Nat.le_of_ble_eq_true rfl⟩) (z_preSB CX hW hs8) rfl rfl hl.1 rfl (lv_room (Nat.le_of_ble_eq_true rfl)) dL_text_61 ⟨by show _ ≤ 160; omega, by show _ ≤ 107000; omega⟩) (fun zv Lx gn H locs hok61 hW => ?_)
                obtain ⟨ez, hy9⟩ := hok61
                rw [ez]
                clear ez
                obtain ⟨g9, eg9⟩ : ∃ q, q = gn := ⟨_, rfl⟩
                rw [← eg9] at hW hy9
                clear eg9
                have hs9 : zSL cJ f g9 q1 (zts d (5 * i.toNat + j.toNat) ++ [43] ++ [48 + (d i.toNat) j.toNat] ++ [42, 120, 94] ++ [48 + i] ++ [42, 121, 94] ++ [48 + j]) := zSL.app1 hy9
                refine W.widen (k := (5 * i.toNat + j.toNat) * 6 + 9) (n := (5 * i.toNat + j.toNat) * 4200 + 5304) (by omega) (by omega) ?_
                refine lv_pop hX0 hB0 dL_text_64 rfl ?_
                refine lv_iinc (v := zI (j + 1)) (lv' := [(3, .int (zI (j + 1))), (0, .ref q0), (1, .ref q1), (2, .int (zI i))]) hX0 hB0 dL_text_65 hl (k := 3) rfl (zI_add _ _) (by decide) rfl (fun ls hl => ?_)
                refine lv_goto (tgt := 19) hX0 hB0 dL_text_68 (by decide) ?_
                refine W.widen (k := (5 * i.toNat + (j + 1).toNat) * 6 + 3) (n := (5 * i.toNat + (j + 1).toNat) * 4200 + 1104) (by omega) (by omega) ?_
                exact ih19 g9 (j + 1) Lx ⟨by rw [← zts_y (by omega) (by omega) c_29]; exact hs9, by omega, by omega⟩ (by omega) H locs ls hW (lv_sub hl [1, 2, 3, 0] rfl)
        refine W.widen (k := (5 * i.toNat + (0 : Int).toNat) * 6 + 3) (n := (5 * i.toNat + (0 : Int).toNat) * 4200 + 1104) (by omega) (by omega) ?_
        exact hL19 _ g 0 Lx ⟨hs, by omega, by omega⟩ (Nat.lt_succ_self _) H locs ls hW (lv_sub hl [1, 2, 3, 0] rfl)
  refine W.widen (k := 5 * (0 : Int).toNat * 6 + 3) (n := 5 * (0 : Int).toNat * 4200 + 1104) (by omega) (by omega) ?_
  exact hL12 _ g2 0 Lx ⟨hs2, by omega, by omega⟩ (Nat.lt_succ_self _) H locs ls hW (lv_sub hl [2, 1, 0] rfl)
end ZLl
