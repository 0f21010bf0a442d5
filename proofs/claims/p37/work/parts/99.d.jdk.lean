section ZJb
theorem z_preX {s : State} {args : Array Value} {meth : Method} {c : Code} {p : Program} {m : MethodId} {cc : ByteArray} {nL : Nat} {ret : Option FieldType} {own : String} {Ts : List Cond} {D : va_G} {cI cJ cZ cP cS cM : ClassId} {L : List Nat} {A : Nat → Prop} {f : Nat → va_E} {H : Heap} {locs : List Loc} (C : zC p s m args meth c cc nL ret own Ts) (hW : zW D (zT cI cJ cZ cP cS cM) L A s f s.heap H locs) {As : List Value} {h n : Nat} {t : Nat → Int} (hx : zTx D cJ f h n t) : PreV s H "java/lang/String" h (zB D (zT cI cJ cZ cP cS cM) L H.size f (.ref h :: As)) As := by
  rcases hx with ⟨i, hi, rfl, _⟩ | ⟨b, d, x, y, h1, _⟩
  · exact z_preT C hW i hi
  · exact z_preV C hW (r := (RJ0, TJ0, 4)) h1 rfl
theorem z_preSB {s : State} {args : Array Value} {meth : Method} {c : Code} {p : Program} {m : MethodId} {cc : ByteArray} {nL : Nat} {ret : Option FieldType} {own : String} {Ts : List Cond} {D : va_G} {cI cJ cZ cP cS cM : ClassId} {L : List Nat} {A : Nat → Prop} {f f0 : Nat → va_E} {H H0 : Heap} {locs : List Loc} (C : zC p s m args meth c cc nL ret own Ts) (hW : zW D (zT cI cJ cZ cP cS cM) L A s f H0 H locs) {As : List Value} {q n : Nat} {t : Nat → Int} (hx : zSB cJ f0 f q n t) : PreV s H RJ4 q (zB D (zT cI cJ cZ cP cS cM) L H.size f (.ref q :: As)) As := by
  obtain ⟨⟨v, cap, d, ml, h1, _⟩, _⟩ := hx
  exact z_preV C hW (r := (RJ4, TJ4, 4)) h1 rfl
/-- a text stands, whatever becomes of a builder -/
theorem zTx.kq {D : va_G} {cJ : ClassId} {f g : Nat → va_E} {h n q : Nat} {t : Nat → Int} {fs : List Value} (hx : zTx D cJ f h n t) (hq : f q = .inr (13, fs)) (hg : ∀ b, f b ≠ zJ → b ≠ q → g b = f b) : zTx D cJ g h n t := by
  rcases hx with c | ⟨b, d, x, y, h1, h2, h3, h4⟩
  · exact Or.inl c
  · refine Or.inr ⟨b, d, x, y, ?_, ?_, h3, h4⟩
    · rw [hg h (zkO h1 (ci := 12) rfl) (zne h1 hq (zoo (by decide))), h1]
    · rw [hg b (zkA h2) (zne h2 hq zio), h2]
theorem zSB.congr {cJ : ClassId} {f0 g : Nat → va_E} {q n m : Nat} {t t2 : Nat → Int} (h : zSB cJ f0 g q n t) (e : n = m) (ht : ∀ k, k < n → t k = t2 k) : zSB cJ f0 g q m t2 := by
  subst e
  obtain ⟨⟨v, cap, d, ml, h1, h2, h3, h4, h5⟩, h6⟩ := h
  exact ⟨⟨v, cap, d, ml, h1, h2, h3, fun k hk => (h4 k hk).trans (ht k hk), h5⟩, h6⟩
/-- decimal digits -/
def zdg (k : Nat) : Int := 48 + ((k % 10 : Nat) : Int)
theorem zdg_b : zbt zdg := fun k => by
  unfold zdg
  omega
theorem zchr_b : ∀ i, i < 12 → ∀ k, k < zSl.getD i 0 → -128 ≤ zchr i k ∧ zchr i k ≤ 127 := by
  have key : ∀ i : Fin 12, ∀ k : Fin 11, -128 ≤ zchr i.val k.val ∧ zchr i.val k.val ≤ 127 := by decide +kernel
  have l11 : ∀ i : Fin 12, zSl.getD i.val 0 ≤ 11 := by decide
  exact fun i hi k hk => key ⟨i, hi⟩ ⟨k, Nat.lt_of_lt_of_le hk (l11 ⟨i, hi⟩)⟩
set_option maxRecDepth 100000 in
set_option maxHeartbeats 4000000 in
/-- AbstractStringBuilder.ensureCapacityInternal -/
theorem c_ensure (l : Launch) {D : va_G} {cI cJ cZ cP cS cM : ClassId} {L : List Nat} {sz : Nat} {f : Nat → va_E} (q v cap n : Nat) (d : Nat → Int) (ml : Int) (m : Nat) (hq : f q = .inr (13, [.ref v, .int (zI 0), .int (zI ml), .int (zI (n : Int))])) (hv : f v = zA cJ cap d) (hd : zbt d) (hn : n ≤ cap) (hc : cap ≤ 700) (hm : m ≤ 340) : zXv l yJ5_ensureCapacityInternal_d00df wsJ5_ensureCapacityInternal_d00df 3 102 1 700 D (zT cI cJ cZ cP cS cM) L sz f [.ref q, .int (zI ((m : Int)))] (fun g => ∃ (v1 cap1 : Nat) (d1 : Nat → Int), g q = .inr (13, [.ref v1, .int (zI 0), .int (zI ml), .int (zI (n : Int))]) ∧ g v1 = zA cJ cap1 d1 ∧ zbt d1 ∧ (∀ k, k < n → d1 k = d k) ∧ m ≤ cap1 ∧ cap1 ≤ 700 ∧ (v1 = v ∨ f v1 = zJ) ∧ ∀ b, f b ≠ zJ → b ≠ q → g b = f b) := by
  refine zyWalk.met (nL := 3) (ret := none) (cc := cJ5_ensureCapacityInternal_d00df) (by decide) rfl (Nat.le_of_ble_eq_true rfl) ?_
  intro pg en st mi ag bl mt cd ls CX hin hW hl
  have CX : zC pg st mi ag mt cd cJ5_ensureCapacityInternal_d00df 3 none RJ5 wsJ5_ensureCapacityInternal_d00df := CX
  generalize hQ : MQ bl _ ag st 1 700 _ = Q
  have hX0 := CX.1
  have hB0 := CX.2.1
  have hl : lv_has ls 3 [(0, .ref q), (1, .int (zI ((m : Int))))] := hl
  obtain ⟨H, eH⟩ : ∃ H, H = st.heap := ⟨_, rfl⟩
  obtain ⟨locs, eL⟩ : ∃ L : List Loc, L = [] := ⟨_, rfl⟩
  have hW : zW D (zT cI cJ cZ cP cS cM) L (zQ L sz) st f st.heap H locs := by rw [eH, eL]; exact hW
  suffices hgo : W pg l en ({ frames := 3, cells := 1, slots := 700, locals := 102 } : Room) st mi ag bl mt cd H locs 0 0 Q (F0 mi 0 ls []) by rw [eH, eL] at hgo; exact hgo
  clear eH eL
  refine lv_aload_n hX0 hB0 dJ5_ensureCapacityInternal_d00df_0 rfl (lv_at hl 0 rfl) ?_
  refine z_get (Cn := RJ4) (T := TJ4) (N := 4) CX hW (v := .ref v) hq rfl (fun w h => List.mem_cons_of_mem _ (List.mem_append_right _ h)) 0 (by decide) (List.mem_of_getElem? (i := 1) rfl) rfl rfl dJ5_ensureCapacityInternal_d00df_1 ?_
  refine z_alen (n := ((cap : Nat) : Int)) CX hW hv 1 rfl rfl dJ5_ensureCapacityInternal_d00df_4 ?_
  refine lv_aload_n hX0 hB0 dJ5_ensureCapacityInternal_d00df_5 rfl (lv_at hl 0 rfl) ?_
  refine z_get (Cn := RJ4) (T := TJ4) (N := 4) CX hW (v := .int (zI 0)) hq rfl (fun w h => List.mem_cons_of_mem _ (List.mem_append_right _ h)) 1 (by decide) (List.mem_of_getElem? (i := 2) rfl) rfl rfl dJ5_ensureCapacityInternal_d00df_6 ?_
  refine lv_ishr hX0 hB0 dJ5_ensureCapacityInternal_d00df_9 ?_
  rw [zI_shr0]
  refine lv_istore_n (lv' := [(2, .int (zI (((cap : Nat) : Int)))), (0, .ref q), (1, .int (zI ((m : Int))))]) hX0 hB0 dJ5_ensureCapacityInternal_d00df_10 rfl hl (by decide) rfl (fun ls hl => ?_)
  refine lv_iload_n hX0 hB0 dJ5_ensureCapacityInternal_d00df_11 rfl (lv_at hl 2 rfl) ?_
  refine lv_iload_n hX0 hB0 dJ5_ensureCapacityInternal_d00df_12 rfl (lv_at hl 0 rfl) ?_
  refine z_isub (z := ((m : Int)) - (((cap : Nat) : Int))) CX dJ5_ensureCapacityInternal_d00df_13 rfl ?_
  refine z_if_le (tgt := 38) CX dJ5_ensureCapacityInternal_d00df_14 (by decide) (by constructor <;> omega) (fun c_14 => ?_) (fun c_14 => ?_)
  ·
    rw [← hQ]
    refine W.widen (k := 1) (n := 700) (by omega) (by omega) ?_
    refine zy_vret CX hW ?_ dJ5_ensureCapacityInternal_d00df_38
    exact ⟨v, cap, d, hq, hv, hd, fun _ _ => rfl, by omega, hc, Or.inl rfl, fun _ _ _ => rfl⟩
  ·
    refine lv_aload_n hX0 hB0 dJ5_ensureCapacityInternal_d00df_17 rfl (lv_at hl 1 rfl) ?_
    refine lv_aload_n hX0 hB0 dJ5_ensureCapacityInternal_d00df_18 rfl (lv_at hl 1 rfl) ?_
    refine z_get (Cn := RJ4) (T := TJ4) (N := 4) CX hW (v := .ref v) hq rfl (fun w h => List.mem_cons_of_mem _ (List.mem_append_right _ h)) 0 (by decide) (List.mem_of_getElem? (i := 1) rfl) rfl rfl dJ5_ensureCapacityInternal_d00df_19 ?_
    refine lv_aload_n hX0 hB0 dJ5_ensureCapacityInternal_d00df_22 rfl (lv_at hl 1 rfl) ?_
    refine lv_iload_n hX0 hB0 dJ5_ensureCapacityInternal_d00df_23 rfl (lv_at hl 2 rfl) ?_
    refine z_calli hW (va_runU (C := RJ4) (As := [.int (zI ((m : Int)))]) (rest := [.ref v, .ref q]) CX.fix (c_newCap l (f := f) q v cap n d ml m hq hv (by omega) (by omega)) (va_cwU 1 CX.fix.2.2.2.2 gJ5_ensureCapacityInternal_d00df_J5_newCapacity_0f7a4_u104J4 rfl rfl rfl rfl (by decide +kernel) ⟨Nat.le_of_ble_eq_true rfl, Nat.le_of_ble_eq_true rfl⟩) (z_preV CX hW (r := (RJ4, TJ4, 4)) hq rfl) rfl rfl hl.1 rfl (lv_room (Nat.le_of_ble_eq_true rfl)) dJ5_ensureCapacityInternal_d00df_24 ⟨by show _ ≤ 1; omega, by show _ ≤ 700; omega⟩) (fun zv gn H locs hok24 hW => ?_)
    obtain ⟨ez, eg⟩ := hok24
    have eg : gn = f := eg
    rw [eg] at hW
    clear eg
    have ez : zv = ((cap : Nat) : Int) + max ((m : Int) - cap) (((cap : Nat) : Int) + 2) := ez
    rw [ez]
    clear ez
    obtain ⟨M24, hM24⟩ : ∃ M : Nat, (M : Int) = ((cap : Nat) : Int) + max ((m : Int) - cap) (((cap : Nat) : Int) + 2) := ⟨(((cap : Nat) : Int) + max ((m : Int) - cap) (((cap : Nat) : Int) + 2)).toNat, by omega⟩
    rw [← hM24]
    refine lv_aload_n hX0 hB0 dJ5_ensureCapacityInternal_d00df_27 rfl (lv_at hl 1 rfl) ?_
    refine z_get (Cn := RJ4) (T := TJ4) (N := 4) CX hW (v := .int (zI 0)) hq rfl (fun w h => List.mem_cons_of_mem _ (List.mem_append_right _ h)) 1 (by decide) (List.mem_of_getElem? (i := 2) rfl) rfl rfl dJ5_ensureCapacityInternal_d00df_28 ?_
    refine lv_ishl hX0 hB0 dJ5_ensureCapacityInternal_d00df_31 ?_
    rw [zI_shl0]
    refine zy_callr hW (va_runS (As := [.ref v, .int (zI ((M24 : Int)))]) (rest := [.ref q]) CX.fix (c_copyOf l (f := f) v cap M24 d hv hd (by omega) (by omega)) (va_cwS 2 CX.fix.2.2.2.2 gJ5_ensureCapacityInternal_d00df_J7_copyOf_9075b rfl rfl rfl (by decide +kernel) ⟨Nat.le_of_ble_eq_true rfl, Nat.le_of_ble_eq_true rfl⟩) (z_preS CX hW) rfl rfl hl.1 rfl (lv_room (Nat.le_of_ble_eq_true rfl)) dJ5_ensureCapacityInternal_d00df_32 ⟨by show _ ≤ 1; omega, by show _ ≤ 700; omega⟩) (fun zv Lx gn H locs hok32 hW => ?_)
    obtain ⟨q1, ez, hfq1, d1, eg, hb1, hk1⟩ := hok32
    rw [eg] at hW
    rw [ez]
    clear ez
    have hne2 : q ≠ q1 := zfr_ne (zkO hq (ci := 13) rfl) hfq1
    have hne3 : v ≠ q1 := zfr_ne (zkA hv) hfq1
    have hzq1 := hfq1
    refine W.widen (k := 1) (n := 700) (by omega) (by omega) ?_
    refine z_put (Cn := RJ4) (T := TJ4) (N := 4) CX hW (v := .ref q1) ((va_up_ne _ _ hne2).trans hq) rfl (fun w h => List.mem_cons_of_mem _ (List.mem_append_right _ h)) tyJ4 tyJ4_ok nmJ4 0 (by decide) (List.mem_of_getElem? (i := 1) rfl) rfl rfl rfl rfl (Nat.le_of_ble_eq_true rfl) (g := va_up (va_up f q1 (zA cJ M24 d1)) q (.inr (13, [.ref q1, .int (zI 0), .int (zI ml), .int (zI ((n : Int)))]))) rfl dJ5_ensureCapacityInternal_d00df_35 (fun H locs hW => ?_)
    rw [← hQ]
    refine W.widen (k := 1) (n := 700) (by omega) (by omega) ?_
    refine zy_vret CX hW ?_ dJ5_ensureCapacityInternal_d00df_38
    exact ⟨q1, M24, d1, (va_up_self _ _ _), ((va_up_ne _ _ (Ne.symm hne2)).trans (va_up_self _ _ _)), hb1, fun k hk => hk1 k (by omega), by omega, by omega, Or.inr hfq1, fun b hb hbq => (va_up_ne _ _ hbq).trans (va_up_ne _ _ (fun e => hb (by rw [e]; exact hfq1)))⟩
set_option maxRecDepth 100000 in
set_option maxHeartbeats 4000000 in
/-- AbstractStringBuilder.inflateIfNeededFor -/
theorem c_inflateIf (l : Launch) {D : va_G} {cI cJ cZ cP cS cM : ClassId} {L : List Nat} {sz : Nat} {f : Nat → va_E} (q v cap n : Nat) (d : Nat → Int) (ml : Int) (h w : Nat) (t : Nat → Int) (hq : f q = .inr (13, [.ref v, .int (zI 0), .int (zI ml), .int (zI (n : Int))])) (hx : zTx D cJ f h w t) : zMv l yJ5_inflateIfNeededFor_a7421 wsJ5_inflateIfNeededFor_a7421 1 20 D (zT cI cJ cZ cP cS cM) L sz f [.ref q, .ref h] (fun g => g = f) := by
  refine zWalk.met (nL := 2) (ret := none) (cc := cJ5_inflateIfNeededFor_a7421) (by decide) rfl (Nat.le_of_ble_eq_true rfl) ?_
  intro pg en st mi ag bl mt cd ls CX hW hl
  have CX : zC pg st mi ag mt cd cJ5_inflateIfNeededFor_a7421 2 none RJ5 wsJ5_inflateIfNeededFor_a7421 := CX
  generalize hQ : MQ bl _ ag st 0 0 _ = Q
  have hX0 := CX.1
  have hB0 := CX.2.1
  have hl : lv_has ls 2 [(0, .ref q), (1, .ref h)] := hl
  obtain ⟨H, eH⟩ : ∃ H, H = st.heap := ⟨_, rfl⟩
  obtain ⟨locs, eL⟩ : ∃ L : List Loc, L = [] := ⟨_, rfl⟩
  have hW : zW D (zT cI cJ cZ cP cS cM) L (zQ L sz) st f st.heap H locs := by rw [eH, eL]; exact hW
  suffices hgo : W pg l en ({ frames := 1, cells := 0, slots := 0, locals := 20 } : Room) st mi ag bl mt cd H locs 0 0 Q (F0 mi 0 ls []) by rw [eH, eL] at hgo; exact hgo
  clear eH eL
  refine z_gets (v := .int (zI 1)) CX hW hW.2.2.2.2.2.2.2.2.1 (List.mem_of_getElem? (i := 1) rfl) rfl dJ5_inflateIfNeededFor_a7421_0 ?_
  refine z_if_eq (tgt := 21) CX dJ5_inflateIfNeededFor_a7421_3 (by decide) (by constructor <;> omega) (fun c_3 => ?_) (fun c_3 => ?_)
  ·
    omega
  ·
    refine lv_aload_n hX0 hB0 dJ5_inflateIfNeededFor_a7421_6 rfl (lv_at hl 0 rfl) ?_
    refine z_get (Cn := RJ4) (T := TJ4) (N := 4) CX hW (v := .int (zI 0)) hq rfl (fun w h => List.mem_cons_of_mem _ (List.mem_append_left _ (List.mem_append_right _ h))) 1 (by decide) (List.mem_of_getElem? (i := 2) rfl) rfl rfl dJ5_inflateIfNeededFor_a7421_7 ?_
    refine lv_aload_n hX0 hB0 dJ5_inflateIfNeededFor_a7421_10 rfl (lv_at hl 1 rfl) ?_
    refine z_calli hW (va_runV (C := RJ0) (As := []) (rest := [.int (zI 0)]) CX.fix (c_coderX l (f := f) hx) (cwV 0 CX.fix.2.2.2.2 gJ5_inflateIfNeededFor_a7421_J0_coder_7d493 rfl rfl rfl (by decide +kernel) ⟨Nat.le_of_ble_eq_true rfl, Nat.le_of_ble_eq_true rfl⟩) (z_preX CX hW hx) rfl rfl hl.1 rfl (lv_room (Nat.le_of_ble_eq_true rfl)) dJ5_inflateIfNeededFor_a7421_11 ⟨by show _ ≤ 0; omega, by show _ ≤ 0; omega⟩) (fun zv gn H locs hok11 hW => ?_)
    obtain ⟨ez, eg⟩ := hok11
    have eg : gn = f := eg
    rw [eg] at hW
    clear eg
    have ez : zv = 0 := ez
    rw [ez]
    clear ez
    refine z_icmp_eq (tgt := 21) CX dJ5_inflateIfNeededFor_a7421_14 (by decide) (by constructor <;> omega) (by constructor <;> omega) (fun c_14 => ?_) (fun c_14 => ?_)
    ·
      rw [← hQ]
      refine z_vret CX hW ?_ dJ5_inflateIfNeededFor_a7421_21
      rfl
    ·
      omega
set_option maxRecDepth 100000 in
set_option maxHeartbeats 4000000 in
/-- String.getBytes, of a text that stands for ever -/
theorem c_getBytesT (l : Launch) {D : va_G} {cI cJ cZ cP cS cM : ClassId} {L : List Nat} {sz : Nat} {f : Nat → va_E} (i : Nat) (a cap off w : Nat) (d t : Nat → Int) (hi : i < 12) (hw : (w : Int) = zlen i) (htt : ∀ k, k < w → t k = zchr i k) (ha : f a = zA cJ cap d) (hd : zbt d) (hc : off + w ≤ cap) (hc2 : cap ≤ 700) : zMv l yJ0_getBytes_840e7 wsJ0_getBytes_840e7 1 54 D (zT cI cJ cZ cP cS cM) L sz f [.ref (D.2 98 i), .ref a, .int (zI ((off : Int))), .int (zI 0)] (fun g => ∃ d1, g = va_up f a (zA cJ cap d1) ∧ zbt d1 ∧ (∀ k, k < off → d1 k = d k) ∧ ∀ k, k < w → d1 (off + k) = t k) := by
  refine zWalk.met (nL := 4) (ret := none) (cc := cJ0_getBytes_840e7) (by decide) rfl (Nat.le_of_ble_eq_true rfl) ?_
  intro pg en st mi ag bl mt cd ls CX hW hl
  have CX : zC pg st mi ag mt cd cJ0_getBytes_840e7 4 none RJ0 wsJ0_getBytes_840e7 := CX
  generalize hQ : MQ bl _ ag st 0 0 _ = Q
  have hX0 := CX.1
  have hB0 := CX.2.1
  have hl : lv_has ls 4 [(0, .ref (D.2 98 i)), (1, .ref a), (2, .int (zI ((off : Int)))), (3, .int (zI 0))] := hl
  obtain ⟨H, eH⟩ : ∃ H, H = st.heap := ⟨_, rfl⟩
  obtain ⟨locs, eL⟩ : ∃ L : List Loc, L = [] := ⟨_, rfl⟩
  have hW : zW D (zT cI cJ cZ cP cS cM) L (zQ L sz) st f st.heap H locs := by rw [eH, eL]; exact hW
  suffices hgo : W pg l en ({ frames := 1, cells := 0, slots := 0, locals := 54 } : Room) st mi ag bl mt cd H locs 0 0 Q (F0 mi 0 ls []) by rw [eH, eL] at hgo; exact hgo
  clear eH eL
  have hzl : zlen i = ((zSl.getD i 0 : Nat) : Int) := rfl
  refine lv_aload_n hX0 hB0 dJ0_getBytes_840e7_0 rfl (lv_at hl 0 rfl) ?_
  refine z_calli hW (va_runV (C := RJ0) (As := []) (rest := []) CX.fix (c_coder l (f := f) i hi) (cwV 0 CX.fix.2.2.2.2 gJ0_getBytes_840e7_J0_coder_7d493 rfl rfl rfl (by decide +kernel) ⟨Nat.le_of_ble_eq_true rfl, Nat.le_of_ble_eq_true rfl⟩) (z_preT CX hW i hi) rfl rfl hl.1 rfl (lv_room (Nat.le_of_ble_eq_true rfl)) dJ0_getBytes_840e7_1 ⟨by show _ ≤ 0; omega, by show _ ≤ 0; omega⟩) (fun zv gn H locs hok1 hW => ?_)
  obtain ⟨ez, eg⟩ := hok1
  have eg : gn = f := eg
  rw [eg] at hW
  clear eg
  have ez : zv = 0 := ez
  rw [ez]
  clear ez
  refine lv_iload_n hX0 hB0 dJ0_getBytes_840e7_4 rfl (lv_at hl 3 rfl) ?_
  refine z_icmp_ne (tgt := 28) CX dJ0_getBytes_840e7_5 (by decide) (by constructor <;> omega) (by constructor <;> omega) (fun c_5 => ?_) (fun c_5 => ?_)
  ·
    omega
  ·
    refine lv_aload_n hX0 hB0 dJ0_getBytes_840e7_8 rfl (lv_at hl 0 rfl) ?_
    refine z_getT (v := .ref (D.2 97 i)) CX hW (hW.2.2.2.2.2.2.2.2.2.2.1.1 i hi).2.2.1 (List.mem_of_getElem? (i := 1) rfl) rfl dJ0_getBytes_840e7_9 ?_
    refine lv_iconst (v := zI 0) hX0 hB0 dJ0_getBytes_840e7_12 rfl ?_
    refine lv_aload_n hX0 hB0 dJ0_getBytes_840e7_13 rfl (lv_at hl 1 rfl) ?_
    refine lv_iload_n hX0 hB0 dJ0_getBytes_840e7_14 rfl (lv_at hl 2 rfl) ?_
    refine lv_iload_n hX0 hB0 dJ0_getBytes_840e7_15 rfl (lv_at hl 3 rfl) ?_
    refine lv_ishl hX0 hB0 dJ0_getBytes_840e7_16 ?_
    rw [zI_shl0]
    refine lv_aload_n hX0 hB0 dJ0_getBytes_840e7_17 rfl (lv_at hl 0 rfl) ?_
    refine z_getT (v := .ref (D.2 97 i)) CX hW (hW.2.2.2.2.2.2.2.2.2.2.1.1 i hi).2.2.1 (List.mem_of_getElem? (i := 1) rfl) rfl dJ0_getBytes_840e7_18 ?_
    refine z_tlen (n := zlen i) CX hW (hW.2.2.2.2.2.2.2.2.2.2.1.1 i hi).2.2.2 (zlen_of i hi) dJ0_getBytes_840e7_21 ?_
    refine z_copyt CX hW hl.1 (CX.at (List.mem_of_getElem? (i := 2) rfl)) (CX.at (List.mem_of_getElem? (i := 3) rfl)) (CX.at (List.mem_of_getElem? (i := 4) rfl)) (CX.at (List.mem_of_getElem? (i := 5) rfl)) (hW.2.2.2.2.2.2.2.2.2.2.1.1 i hi).2.2.2 (zchr_of i) ha 1 rfl (zchr_b i hi) (by refine ⟨?_, ?_, ?_, ?_, ?_, ?_⟩ <;> omega) (g := va_up f a (zA cJ cap (zcpy (zchr i) d ((0 : Int).toNat) (((off : Int)).toNat) ((zlen i).toNat)))) rfl (Nat.le_of_ble_eq_true rfl) (Nat.le_of_ble_eq_true rfl) dJ0_getBytes_840e7_22 (fun H locs hW => ?_)
    refine lv_goto (tgt := 43) hX0 hB0 dJ0_getBytes_840e7_25 (by decide) ?_
    rw [← hQ]
    refine z_vret CX hW ?_ dJ0_getBytes_840e7_43
    exact ⟨_, rfl, fun k => by
      unfold zcpy va_cpy
      split
      · exact zchr_b i hi _ (by omega)
      · exact hd _, fun k hk => zcpy_out (by omega), fun k hk => ((zcpy_in (by omega)).trans (congrArg (zchr i) (by omega))).trans (htt k hk).symm⟩
set_option maxRecDepth 100000 in
set_option maxHeartbeats 4000000 in
/-- String.getBytes, of a made text -/
theorem c_getBytesH (l : Launch) {D : va_G} {cI cJ cZ cP cS cM : ClassId} {L : List Nat} {sz : Nat} {f : Nat → va_E} (h b : Nat) (s : Nat → Int) (x y : Int) (a cap off w : Nat) (d t : Nat → Int) (hh : f h = .inr (12, [.ref b, .int (zI 0), .int (zI x), .int (zI y)])) (hb : f b = zA cJ w s) (hs : zbt s) (htt : ∀ k, k < w → t k = s k) (hw : w ≤ 700) (ha : f a = zA cJ cap d) (hd : zbt d) (hc : off + w ≤ cap) (hc2 : cap ≤ 700) : zMv l yJ0_getBytes_840e7 wsJ0_getBytes_840e7 1 54 D (zT cI cJ cZ cP cS cM) L sz f [.ref h, .ref a, .int (zI ((off : Int))), .int (zI 0)] (fun g => ∃ d1, g = va_up f a (zA cJ cap d1) ∧ zbt d1 ∧ (∀ k, k < off → d1 k = d k) ∧ ∀ k, k < w → d1 (off + k) = t k) := by
  refine zWalk.met (nL := 4) (ret := none) (cc := cJ0_getBytes_840e7) (by decide) rfl (Nat.le_of_ble_eq_true rfl) ?_
  intro pg en st mi ag bl mt cd ls CX hW hl
  have CX : zC pg st mi ag mt cd cJ0_getBytes_840e7 4 none RJ0 wsJ0_getBytes_840e7 := CX
  generalize hQ : MQ bl _ ag st 0 0 _ = Q
  have hX0 := CX.1
  have hB0 := CX.2.1
  have hl : lv_has ls 4 [(0, .ref h), (1, .ref a), (2, .int (zI ((off : Int)))), (3, .int (zI 0))] := hl
  obtain ⟨H, eH⟩ : ∃ H, H = st.heap := ⟨_, rfl⟩
  obtain ⟨locs, eL⟩ : ∃ L : List Loc, L = [] := ⟨_, rfl⟩
  have hW : zW D (zT cI cJ cZ cP cS cM) L (zQ L sz) st f st.heap H locs := by rw [eH, eL]; exact hW
  suffices hgo : W pg l en ({ frames := 1, cells := 0, slots := 0, locals := 54 } : Room) st mi ag bl mt cd H locs 0 0 Q (F0 mi 0 ls []) by rw [eH, eL] at hgo; exact hgo
  clear eH eL
  refine lv_aload_n hX0 hB0 dJ0_getBytes_840e7_0 rfl (lv_at hl 0 rfl) ?_
  refine z_calli hW (va_runV (C := RJ0) (As := []) (rest := []) CX.fix (c_coderH l (f := f) h b w s x y hh) (cwV 0 CX.fix.2.2.2.2 gJ0_getBytes_840e7_J0_coder_7d493 rfl rfl rfl (by decide +kernel) ⟨Nat.le_of_ble_eq_true rfl, Nat.le_of_ble_eq_true rfl⟩) (z_preV CX hW (r := (RJ0, TJ0, 4)) hh rfl) rfl rfl hl.1 rfl (lv_room (Nat.le_of_ble_eq_true rfl)) dJ0_getBytes_840e7_1 ⟨by show _ ≤ 0; omega, by show _ ≤ 0; omega⟩) (fun zv gn H locs hok1 hW => ?_)
  obtain ⟨ez, eg⟩ := hok1
  have eg : gn = f := eg
  rw [eg] at hW
  clear eg
  have ez : zv = 0 := ez
  rw [ez]
  clear ez
  refine lv_iload_n hX0 hB0 dJ0_getBytes_840e7_4 rfl (lv_at hl 3 rfl) ?_
  refine z_icmp_ne (tgt := 28) CX dJ0_getBytes_840e7_5 (by decide) (by constructor <;> omega) (by constructor <;> omega) (fun c_5 => ?_) (fun c_5 => ?_)
  ·
    omega
  ·
    refine lv_aload_n hX0 hB0 dJ0_getBytes_840e7_8 rfl (lv_at hl 0 rfl) ?_
    refine z_get (Cn := RJ0) (T := TJ0) (N := 4) CX hW (v := .ref b) hh rfl (fun w h => List.mem_cons_of_mem _ (List.mem_append_right _ h)) 0 (by decide) (List.mem_of_getElem? (i := 1) rfl) rfl rfl dJ0_getBytes_840e7_9 ?_
    refine lv_iconst (v := zI 0) hX0 hB0 dJ0_getBytes_840e7_12 rfl ?_
    refine lv_aload_n hX0 hB0 dJ0_getBytes_840e7_13 rfl (lv_at hl 1 rfl) ?_
    refine lv_iload_n hX0 hB0 dJ0_getBytes_840e7_14 rfl (lv_at hl 2 rfl) ?_
    refine lv_iload_n hX0 hB0 dJ0_getBytes_840e7_15 rfl (lv_at hl 3 rfl) ?_
    refine lv_ishl hX0 hB0 dJ0_getBytes_840e7_16 ?_
    rw [zI_shl0]
    refine lv_aload_n hX0 hB0 dJ0_getBytes_840e7_17 rfl (lv_at hl 0 rfl) ?_
    refine z_get (Cn := RJ0) (T := TJ0) (N := 4) CX hW (v := .ref b) hh rfl (fun w h => List.mem_cons_of_mem _ (List.mem_append_right _ h)) 0 (by decide) (List.mem_of_getElem? (i := 1) rfl) rfl rfl dJ0_getBytes_840e7_18 ?_
    refine z_alen (n := ((w : Nat) : Int)) CX hW hb 1 rfl rfl dJ0_getBytes_840e7_21 ?_
    refine z_copyb CX hW hl.1 (CX.at (List.mem_of_getElem? (i := 2) rfl)) (CX.at (List.mem_of_getElem? (i := 3) rfl)) (CX.at (List.mem_of_getElem? (i := 4) rfl)) (CX.at (List.mem_of_getElem? (i := 5) rfl)) hb ha 1 rfl hs (by refine ⟨?_, ?_, ?_, ?_, ?_, ?_⟩ <;> omega) (g := va_up f a (zA cJ cap (zcpy s d ((0 : Int).toNat) (((off : Int)).toNat) ((((w : Nat) : Int)).toNat)))) rfl (Nat.le_of_ble_eq_true rfl) (Nat.le_of_ble_eq_true rfl) dJ0_getBytes_840e7_22 (fun H locs hW => ?_)
    refine lv_goto (tgt := 43) hX0 hB0 dJ0_getBytes_840e7_25 (by decide) ?_
    rw [← hQ]
    refine z_vret CX hW ?_ dJ0_getBytes_840e7_43
    exact ⟨_, rfl, zbt_cpy hs hd _ _ _, fun k hk => zcpy_out (by omega), fun k hk => ((zcpy_in (by omega)).trans (congrArg s (by omega))).trans (htt k hk).symm⟩
theorem c_getBytesX (l : Launch) {D : va_G} {cI cJ cZ cP cS cM : ClassId} {L : List Nat} {sz : Nat} {f : Nat → va_E} (h : Nat) (a cap off w : Nat) (d t : Nat → Int) (hx : zTx D cJ f h w t) (hw : w ≤ 700) (ha : f a = zA cJ cap d) (hd : zbt d) (hc : off + w ≤ cap) (hc2 : cap ≤ 700) : zMv l yJ0_getBytes_840e7 wsJ0_getBytes_840e7 1 54 D (zT cI cJ cZ cP cS cM) L sz f [.ref h, .ref a, .int (zI (off : Int)), .int (zI 0)] (fun g => ∃ d1, g = va_up f a (zA cJ cap d1) ∧ zbt d1 ∧ (∀ k, k < off → d1 k = d k) ∧ ∀ k, k < w → d1 (off + k) = t k) := by
  rcases hx with ⟨i, hi, rfl, e, h2⟩ | ⟨b, s, x, y, h1, h2, h3, h4⟩
  · exact c_getBytesT l i a cap off w d t hi e h2 ha hd hc hc2
  · exact c_getBytesH l h b s x y a cap off w d t h1 h2 h3 h4 hw ha hd hc hc2
set_option maxRecDepth 100000 in
set_option maxHeartbeats 4000000 in
/-- AbstractStringBuilder.putStringAt -/
theorem c_putString (l : Launch) {D : va_G} {cI cJ cZ cP cS cM : ClassId} {L : List Nat} {sz : Nat} {f : Nat → va_E} (q v cap n : Nat) (d : Nat → Int) (ml : Int) (off h w : Nat) (t : Nat → Int) (hq : f q = .inr (13, [.ref v, .int (zI 0), .int (zI ml), .int (zI (n : Int))])) (hv : f v = zA cJ cap d) (hx : zTx D cJ f h w t) (hd : zbt d) (hc : off + w ≤ cap) (hc2 : cap ≤ 700) : zMv l yJ5_putStringAt_47b60 wsJ5_putStringAt_47b60 2 77 D (zT cI cJ cZ cP cS cM) L sz f [.ref q, .int (zI ((off : Int))), .ref h] (fun g => ∃ d1, g = va_up f v (zA cJ cap d1) ∧ zbt d1 ∧ (∀ k, k < off → d1 k = d k) ∧ ∀ k, k < w → d1 (off + k) = t k) := by
  refine zWalk.met (nL := 3) (ret := none) (cc := cJ5_putStringAt_47b60) (by decide) rfl (Nat.le_of_ble_eq_true rfl) ?_
  intro pg en st mi ag bl mt cd ls CX hW hl
  have CX : zC pg st mi ag mt cd cJ5_putStringAt_47b60 3 none RJ5 wsJ5_putStringAt_47b60 := CX
  generalize hQ : MQ bl _ ag st 0 0 _ = Q
  have hX0 := CX.1
  have hB0 := CX.2.1
  have hl : lv_has ls 3 [(0, .ref q), (1, .int (zI ((off : Int)))), (2, .ref h)] := hl
  obtain ⟨H, eH⟩ : ∃ H, H = st.heap := ⟨_, rfl⟩
  obtain ⟨locs, eL⟩ : ∃ L : List Loc, L = [] := ⟨_, rfl⟩
  have hW : zW D (zT cI cJ cZ cP cS cM) L (zQ L sz) st f st.heap H locs := by rw [eH, eL]; exact hW
  suffices hgo : W pg l en ({ frames := 2, cells := 0, slots := 0, locals := 77 } : Room) st mi ag bl mt cd H locs 0 0 Q (F0 mi 0 ls []) by rw [eH, eL] at hgo; exact hgo
  clear eH eL
  refine lv_aload_n hX0 hB0 dJ5_putStringAt_47b60_0 rfl (lv_at hl 0 rfl) ?_
  refine lv_aload_n hX0 hB0 dJ5_putStringAt_47b60_1 rfl (lv_at hl 2 rfl) ?_
  refine z_callv hW (va_runU (C := RJ4) (As := [.ref h]) (rest := []) CX.fix (c_inflateIf l (f := f) q v cap n d ml h w t hq hx) (va_cwU 1 CX.fix.2.2.2.2 gJ5_putStringAt_47b60_J5_inflateIfNeededFor_a7421_u397J4 rfl rfl rfl rfl (by decide +kernel) ⟨Nat.le_of_ble_eq_true rfl, Nat.le_of_ble_eq_true rfl⟩) (z_preV CX hW (r := (RJ4, TJ4, 4)) hq rfl) rfl rfl hl.1 rfl (lv_room (Nat.le_of_ble_eq_true rfl)) dJ5_putStringAt_47b60_2 ⟨by show _ ≤ 0; omega, by show _ ≤ 0; omega⟩) (fun gn H locs hok2 hW => ?_)
  have eg : gn = f := hok2
  rw [eg] at hW
  clear eg
  refine lv_aload_n hX0 hB0 dJ5_putStringAt_47b60_5 rfl (lv_at hl 2 rfl) ?_
  refine lv_aload_n hX0 hB0 dJ5_putStringAt_47b60_6 rfl (lv_at hl 0 rfl) ?_
  refine z_get (Cn := RJ4) (T := TJ4) (N := 4) CX hW (v := .ref v) hq rfl (fun w h => List.mem_cons_of_mem _ (List.mem_append_left _ (List.mem_append_right _ h))) 0 (by decide) (List.mem_of_getElem? (i := 1) rfl) rfl rfl dJ5_putStringAt_47b60_7 ?_
  refine lv_iload_n hX0 hB0 dJ5_putStringAt_47b60_10 rfl (lv_at hl 1 rfl) ?_
  refine lv_aload_n hX0 hB0 dJ5_putStringAt_47b60_11 rfl (lv_at hl 0 rfl) ?_
  refine z_get (Cn := RJ4) (T := TJ4) (N := 4) CX hW (v := .int (zI 0)) hq rfl (fun w h => List.mem_cons_of_mem _ (List.mem_append_left _ (List.mem_append_right _ h))) 1 (by decide) (List.mem_of_getElem? (i := 2) rfl) rfl rfl dJ5_putStringAt_47b60_12 ?_
  refine z_callv hW (va_runV (C := RJ0) (As := [.ref v, .int (zI ((off : Int))), .int (zI 0)]) (rest := []) CX.fix (c_getBytesX l (f := f) h v cap off w d t hx (by omega) hv hd (by omega) (by omega)) (cwV 3 CX.fix.2.2.2.2 gJ5_putStringAt_47b60_J0_getBytes_840e7 rfl rfl rfl (by decide +kernel) ⟨Nat.le_of_ble_eq_true rfl, Nat.le_of_ble_eq_true rfl⟩) (z_preX CX hW hx) rfl rfl hl.1 rfl (lv_room (Nat.le_of_ble_eq_true rfl)) dJ5_putStringAt_47b60_15 ⟨by show _ ≤ 0; omega, by show _ ≤ 0; omega⟩) (fun gn H locs hok15 hW => ?_)
  obtain ⟨d1, eg, hd1, hlo1, hhi1⟩ := hok15
  have eg : gn = va_up f v (zA cJ cap d1) := eg
  rw [eg] at hW
  clear eg
  rw [← hQ]
  refine z_vret CX hW ?_ dJ5_putStringAt_47b60_18
  exact ⟨d1, rfl, hd1, hlo1, hhi1⟩
end ZJb
