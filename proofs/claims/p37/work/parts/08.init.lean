section ZIn
theorem zone0 : (fun k => zI (zone 0 k)) = fun _ => (0 : Int32) := by
  funext k
  unfold zone
  split <;> rfl
theorem zone0L : (fun k => zL (zone 0 k)) = fun _ => (0 : Int64) := by
  funext k
  unfold zone
  split <;> rfl
theorem zn_haI {N : Nat} (cA : ClassId) : vp_cell cA (N, .inl (fun k => zI (zone 0 k))) = arrV cA N (fun _ => defaultValue .int) := by
  rw [vp_cell_i]
  show arrV cA N (fun j => Value.int ((fun k => zI (zone 0 k)) j)) = _
  rw [zone0]
  rfl
theorem zn_haZ {N : Nat} (cA : ClassId) : vp_cell cA (N, .inl (fun k => zI (zone 0 k))) = arrV cA N (fun _ => defaultValue .boolean) := by
  rw [vp_cell_i]
  show arrV cA N (fun j => Value.int ((fun k => zI (zone 0 k)) j)) = _
  rw [zone0]
  rfl
theorem zn_haL {N : Nat} (cA : ClassId) : vp_cell cA (N, .inr (.inl (fun k => zL (zone 0 k)))) = arrV cA N (fun _ => defaultValue .long) := by
  rw [vp_cell_l]
  show arrV cA N (fun j => Value.long ((fun k => zL (zone 0 k)) j)) = _
  rw [zone0L]
  rfl
/-- an array's picture is free beyond its length -/
theorem zW.re {D : va_G} {tys : List (ClassId × FieldType)} {L : List Nat} {A : Nat → Prop} {s : State} {f : Nat → va_E} {H0 H : Heap} {locs : List Loc} {a : Nat} {cy : ClassId} {u v : vp_A} (h : zW D tys L A s f H0 H locs) (hf : f a = .inl (cy, u)) (he : vp_cell cy u = vp_cell cy v) : zW D tys L A s (va_up f a (.inl (cy, v))) H0 H locs := by
  obtain ⟨h1, h2, h3, h4, h5, h6⟩ := h
  refine ⟨fun k q hk => ?_, zpl_nd h2, h3, h4, fun b hb => ?_, h6⟩
  · unfold va_pl at hk
    rw [List.getElem?_map] at hk
    cases hL : L[k]? with
    | none => rw [hL] at hk; cases hk
    | some b =>
      rw [hL] at hk
      cases hk
      have h7 := h1 k (b, f b) (by unfold va_pl; rw [List.getElem?_map, hL]; rfl)
      show va_at D vwCl (b, va_up f a (.inl (cy, v)) b) H
      by_cases hb : b = a
      · subst hb
        rw [va_up_self]
        rw [hf] at h7
        show H[b]? = some (vp_cell cy v)
        rw [← he]
        exact h7
      · rw [va_up_ne _ _ hb]
        exact h7
  · by_cases hb2 : b = a
    · exact h5 b (by rw [hb2, hf]; exact zJi)
    · rw [va_up_ne _ _ hb2] at hb
      exact h5 b hb
theorem zcell_q {cy : ClassId} {n : Nat} {r q : Nat → Option Nat} (h : ∀ j, j < n → r j = q j) : vp_cell cy (n, .inr (.inr (.inr (.inr r)))) = vp_cell cy (n, .inr (.inr (.inr (.inr q)))) := by
  rw [vp_cell_q, vp_cell_q]
  unfold arrV
  congr 2
  funext j
  show va_rf (r j.val) = va_rf (q j.val)
  rw [h j.val j.isLt]
set_option maxRecDepth 100000 in
set_option maxHeartbeats 4000000 in
/-- Poly() -/
theorem c_Poly_init (l : Launch) {D : va_G} {cI cJ cZ cP cS cM : ClassId} {L : List Nat} {f : Nat → va_E} (a : Nat) (hf0 : f a = .inr (2, [.null])) : zMn l yX2_init wsX2_init 1 12 1 25 D (zT cI cJ cZ cP cS cM) L (a + 1) f [.ref a] (fun g => zFr f g a (a + 2) ∧ zPoly cI g a (zone 0)) := by
  refine zNew.met (nL := 1) (ret := none) (cc := cX2_init) (by decide) rfl (Nat.le_of_ble_eq_true rfl) ?_
  intro pg en st mi ag bl mt cd ls CX hin hN hl
  have CX : zC pg st mi ag mt cd cX2_init 1 none RX2 wsX2_init := CX
  generalize hQ : MQ bl _ ag st 1 25 _ = Q
  have hX0 := CX.1
  have hB0 := CX.2.1
  have hl : lv_has ls 1 [(0, .ref a)] := hl
  obtain ⟨H, eH⟩ : ∃ H, H = st.heap := ⟨_, rfl⟩
  obtain ⟨locs, eL⟩ : ∃ L : List Loc, L = [] := ⟨_, rfl⟩
  have hN : zN D (zT cI cJ cZ cP cS cM) L (zQ L (a + 1)) st f st.heap H locs (a + 1) 0 := by rw [eH, eL]; exact hN
  have hW := hN.1
  suffices hgo : W pg l en ({ frames := 1, cells := 1, slots := 25, locals := 12 } : Room) st mi ag bl mt cd H locs 0 0 Q (F0 mi 0 ls []) by rw [eH, eL] at hgo; exact hgo
  clear eH eL
  refine lv_aload_n hX0 hB0 dX2_init_0 rfl (lv_at hl 0 rfl) ?_
  refine W.objInit hX0 hB0 CX.2.2.2.1 (CX.at (List.mem_of_getElem? (i := 1) rfl)) (CX.at (List.mem_of_getElem? (i := 2) rfl)) (CX.at (List.mem_of_getElem? (i := 3) rfl)) rfl (by rw [CX.2.2.1]; exact hl.1) rfl dX2_init_1 (Nat.le_of_ble_eq_true rfl) (Nat.le_of_ble_eq_true rfl) ?_
  refine W.eq (g2 := F0 mi 4 ls []) rfl ?_
  refine lv_aload_n hX0 hB0 dX2_init_4 rfl (lv_at hl 0 rfl) ?_
  refine lv_bipush (v := zI 25) hX0 hB0 dX2_init_5 (by decide) ?_
  refine zn_newa (atype := .int) (ty := .int) (cy := cI) (N' := 25) (a0 := (25, .inl (fun k => zI (zone 0 k)))) CX hN rfl (List.mem_of_getElem? (i := 4) rfl) 0 rfl zn_haI (by omega) rfl (by decide) (by omega) (by show _ ≤ 1; omega) (by show _ ≤ 25; omega) dX2_init_7 (fun H hN => ?_)
  have hN : zN D (zT cI cJ cZ cP cS cM) L (zQ L (a + 1)) st (va_up f (a + 1) (zA cI 25 (zone 0))) st.heap H locs (a + 1) 1 := by have q := hN; first | exact q | (rw [show 0 + 1 = 1 by omega] at q; exact q)
  have hW := hN.1
  refine W.widen (k := 1) (n := 25) (by omega) (by omega) ?_
  refine zn_putF (Cn := RX2) (T := TX2) (N := 1) CX hN (v := .ref (a + 1)) ((va_up_ne _ _ (by omega)).trans hf0) rfl (fun w h => List.mem_cons_of_mem _ (List.mem_append_right _ h)) tyX2 tyX2_ok nmX2 0 (by decide) (List.mem_of_getElem? (i := 5) rfl) rfl rfl hin rfl rfl rfl (Nat.le_of_ble_eq_true rfl) (g := va_up (va_up f (a + 1) (zA cI 25 (zone 0))) a (.inr (2, [.ref (a + 1)]))) rfl dX2_init_9 (fun H locs hN => ?_)
  have hW := hN.1
  rw [← hQ]
  have hN := hN
  refine W.widen (k := 1) (n := 25) (by omega) (by omega) ?_
  exact zn_vret CX hN (by exact ⟨(zFr.refl.up (by omega)).up (by omega), (va_up_self _ _ _), ((va_up_ne _ _ (by omega)).trans (va_up_self _ _ _))⟩) dX2_init_12
set_option maxRecDepth 100000 in
set_option maxHeartbeats 4000000 in
/-- Spot() -/
theorem c_Spot_init (l : Launch) {D : va_G} {cI cJ cZ cP cS cM : ClassId} {L : List Nat} {f : Nat → va_E} (a : Nat) (hf0 : f a = .inr (9, [.int (zI 0), .int (zI 0), .int (zI 0)])) : zMn l yX9_init wsX9_init 1 12 0 0 D (zT cI cJ cZ cP cS cM) L (a + 1) f [.ref a] (fun g => zFr f g a (a + 1) ∧ g a = .inr (9, [.int (zI 0), .int (zI 0), .int (zI 1)])) := by
  refine zNew.met (nL := 1) (ret := none) (cc := cX9_init) (by decide) rfl (Nat.le_of_ble_eq_true rfl) ?_
  intro pg en st mi ag bl mt cd ls CX hin hN hl
  have CX : zC pg st mi ag mt cd cX9_init 1 none RX9 wsX9_init := CX
  generalize hQ : MQ bl _ ag st 0 0 _ = Q
  have hX0 := CX.1
  have hB0 := CX.2.1
  have hl : lv_has ls 1 [(0, .ref a)] := hl
  obtain ⟨H, eH⟩ : ∃ H, H = st.heap := ⟨_, rfl⟩
  obtain ⟨locs, eL⟩ : ∃ L : List Loc, L = [] := ⟨_, rfl⟩
  have hN : zN D (zT cI cJ cZ cP cS cM) L (zQ L (a + 1)) st f st.heap H locs (a + 1) 0 := by rw [eH, eL]; exact hN
  have hW := hN.1
  suffices hgo : W pg l en ({ frames := 1, cells := 0, slots := 0, locals := 12 } : Room) st mi ag bl mt cd H locs 0 0 Q (F0 mi 0 ls []) by rw [eH, eL] at hgo; exact hgo
  clear eH eL
  refine lv_aload_n hX0 hB0 dX9_init_0 rfl (lv_at hl 0 rfl) ?_
  refine W.objInit hX0 hB0 CX.2.2.2.1 (CX.at (List.mem_of_getElem? (i := 1) rfl)) (CX.at (List.mem_of_getElem? (i := 2) rfl)) (CX.at (List.mem_of_getElem? (i := 3) rfl)) rfl (by rw [CX.2.2.1]; exact hl.1) rfl dX9_init_1 (Nat.le_of_ble_eq_true rfl) (Nat.le_of_ble_eq_true rfl) ?_
  refine W.eq (g2 := F0 mi 4 ls []) rfl ?_
  refine lv_aload_n hX0 hB0 dX9_init_4 rfl (lv_at hl 0 rfl) ?_
  refine lv_iconst (v := zI 0) hX0 hB0 dX9_init_5 rfl ?_
  refine zn_put (Cn := RX9) (T := TX9) (N := 3) CX hN (v := .int (zI 0)) hf0 rfl (fun w h => List.mem_cons_of_mem _ (List.mem_append_right _ h)) tyX9 tyX9_ok nmX9 0 (by decide) (List.mem_of_getElem? (i := 4) rfl) rfl rfl rfl rfl (Nat.le_of_ble_eq_true rfl) (g := va_up f a (.inr (9, [.int (zI 0), .int (zI 0), .int (zI 0)]))) rfl dX9_init_6 (fun H locs hN => ?_)
  have hW := hN.1
  refine lv_aload_n hX0 hB0 dX9_init_9 rfl (lv_at hl 0 rfl) ?_
  refine lv_iconst (v := zI 0) hX0 hB0 dX9_init_10 rfl ?_
  refine zn_put (Cn := RX9) (T := TX9) (N := 3) CX hN (v := .int (zI 0)) (va_up_self _ _ _) rfl (fun w h => List.mem_cons_of_mem _ (List.mem_append_right _ h)) tyX9 tyX9_ok nmX9 1 (by decide) (List.mem_of_getElem? (i := 5) rfl) rfl rfl rfl rfl (Nat.le_of_ble_eq_true rfl) (g := va_up f a (.inr (9, [.int (zI 0), .int (zI 0), .int (zI 0)]))) va_up_up dX9_init_11 (fun H locs hN => ?_)
  have hW := hN.1
  refine lv_aload_n hX0 hB0 dX9_init_14 rfl (lv_at hl 0 rfl) ?_
  refine lv_iconst (v := zI 1) hX0 hB0 dX9_init_15 rfl ?_
  refine zn_put (Cn := RX9) (T := TX9) (N := 3) CX hN (v := .int (zI 1)) (va_up_self _ _ _) rfl (fun w h => List.mem_cons_of_mem _ (List.mem_append_right _ h)) tyX9 tyX9_ok nmX9 2 (by decide) (List.mem_of_getElem? (i := 6) rfl) rfl rfl rfl rfl (Nat.le_of_ble_eq_true rfl) (g := va_up f a (.inr (9, [.int (zI 0), .int (zI 0), .int (zI 1)]))) va_up_up dX9_init_16 (fun H locs hN => ?_)
  have hW := hN.1
  rw [← hQ]
  have hN := hN
  refine W.widen (k := 0) (n := 0) (by omega) (by omega) ?_
  exact zn_vret CX hN (by exact ⟨zFr.refl.up (by omega), va_up_self _ _ _⟩) dX9_init_19
theorem zrk {b : Nat} {k : Int} (hk : 0 ≤ k) {x : Nat} (hx : x = b + 2 * k.toNat) : va_up (fun j => if j < k.toNat then some (b + 2 * j) else none) k.toNat (some x) = (fun j => if j < (k + 1).toNat then some (b + 2 * j) else none) := by
  funext j
  unfold va_up
  by_cases e : j = k.toNat
  · rw [if_pos e, if_pos (by omega), hx, e]
  · rw [if_neg e]
    show (if j < k.toNat then some (b + 2 * j) else none) = _
    by_cases h : j < k.toNat
    · rw [if_pos h, if_pos (by omega)]
    · rw [if_neg h, if_neg (by omega)]
set_option maxRecDepth 100000 in
set_option maxHeartbeats 4000000 in
/-- Shelf() -/
theorem c_Shelf_init (l : Launch) {D : va_G} {cI cJ cZ cP cS cM : ClassId} {L : List Nat} {f : Nat → va_E} (a : Nat) (hf0 : f a = .inr (7, [.int (zI 0), .int (zI 0), .null, .null]))  : zMn l yX7_init wsX7_init 2 32 14 198 D (zT cI cJ cZ cP cS cM) L (a + 1) f [.ref a] (fun g => zFr f g a (a + 15) ∧ zShelf cI cP g a 7 0 (fun _ => zone 0) (zone 0)) := by
  refine zNew.met (nL := 2) (ret := none) (cc := cX7_init) (by decide) rfl (Nat.le_of_ble_eq_true rfl) ?_
  intro pg en st mi ag bl mt cd ls CX hin hN hl
  have CX : zC pg st mi ag mt cd cX7_init 2 none RX7 wsX7_init := CX
  generalize hQ : MQ bl _ ag st 14 198 _ = Q
  have hX0 := CX.1
  have hB0 := CX.2.1
  have hl : lv_has ls 2 [(0, .ref a)] := hl
  obtain ⟨H, eH⟩ : ∃ H, H = st.heap := ⟨_, rfl⟩
  obtain ⟨locs, eL⟩ : ∃ L : List Loc, L = [] := ⟨_, rfl⟩
  have hN : zN D (zT cI cJ cZ cP cS cM) L (zQ L (a + 1)) st f st.heap H locs (a + 1) 0 := by rw [eH, eL]; exact hN
  have hW := hN.1
  suffices hgo : W pg l en ({ frames := 2, cells := 14, slots := 198, locals := 32 } : Room) st mi ag bl mt cd H locs 0 0 Q (F0 mi 0 ls []) by rw [eH, eL] at hgo; exact hgo
  clear eH eL
  refine lv_aload_n hX0 hB0 dX7_init_0 rfl (lv_at hl 0 rfl) ?_
  refine W.objInit hX0 hB0 CX.2.2.2.1 (CX.at (List.mem_of_getElem? (i := 1) rfl)) (CX.at (List.mem_of_getElem? (i := 2) rfl)) (CX.at (List.mem_of_getElem? (i := 3) rfl)) rfl (by rw [CX.2.2.1]; exact hl.1) rfl dX7_init_1 (Nat.le_of_ble_eq_true rfl) (Nat.le_of_ble_eq_true rfl) ?_
  refine W.eq (g2 := F0 mi 4 ls []) rfl ?_
  refine lv_aload_n hX0 hB0 dX7_init_4 rfl (lv_at hl 0 rfl) ?_
  refine lv_bipush (v := zI 7) hX0 hB0 dX7_init_5 (by decide) ?_
  refine zn_put (Cn := RX7) (T := TX7) (N := 4) CX hN (v := .int (zI 7)) hf0 rfl (fun w h => List.mem_cons_of_mem _ (List.mem_append_left _ (List.mem_append_right _ h))) tyX7 tyX7_ok nmX7 0 (by decide) (List.mem_of_getElem? (i := 4) rfl) rfl rfl rfl rfl (Nat.le_of_ble_eq_true rfl) (g := va_up f a (.inr (7, [.int (zI 7), .int (zI 0), .null, .null]))) rfl dX7_init_7 (fun H locs hN => ?_)
  have hW := hN.1
  refine lv_aload_n hX0 hB0 dX7_init_10 rfl (lv_at hl 0 rfl) ?_
  refine lv_iconst (v := zI 0) hX0 hB0 dX7_init_11 rfl ?_
  refine zn_put (Cn := RX7) (T := TX7) (N := 4) CX hN (v := .int (zI 0)) (va_up_self _ _ _) rfl (fun w h => List.mem_cons_of_mem _ (List.mem_append_left _ (List.mem_append_right _ h))) tyX7 tyX7_ok nmX7 1 (by decide) (List.mem_of_getElem? (i := 5) rfl) rfl rfl rfl rfl (Nat.le_of_ble_eq_true rfl) (g := va_up f a (.inr (7, [.int (zI 7), .int (zI 0), .null, .null]))) va_up_up dX7_init_12 (fun H locs hN => ?_)
  have hW := hN.1
  refine lv_aload_n hX0 hB0 dX7_init_15 rfl (lv_at hl 0 rfl) ?_
  refine lv_bipush (v := zI 6) hX0 hB0 dX7_init_16 (by decide) ?_
  refine zn_newq (cy := cP) (N' := 6) CX hN (List.mem_of_getElem? (i := 6) rfl) CX.2.2.2.2.2.2.2.2.1 3 rfl (by omega) rfl (by decide) (by show _ ≤ 14; omega) (by show _ ≤ 198; omega) dX7_init_18 (fun H hN => ?_)
  have hN : zN D (zT cI cJ cZ cP cS cM) L (zQ L (a + 1)) st (va_up (va_up f a (.inr (7, [.int (zI 7), .int (zI 0), .null, .null]))) (a + 1) (zAR cP 6 ((fun _ => none)))) st.heap H locs (a + 1) 1 := by have q := hN; first | exact q | (rw [show 0 + 1 = 1 by omega] at q; exact q)
  have hW := hN.1
  refine W.widen (k := 1) (n := 6) (by omega) (by omega) ?_
  refine zn_putF (Cn := RX7) (T := TX7) (N := 4) CX hN (v := .ref (a + 1)) ((va_up_ne _ _ (by omega)).trans (va_up_self _ _ _)) rfl (fun w h => List.mem_cons_of_mem _ (List.mem_append_left _ (List.mem_append_right _ h))) tyX7 tyX7_ok nmX7 2 (by decide) (List.mem_of_getElem? (i := 7) rfl) rfl rfl hin rfl rfl rfl (Nat.le_of_ble_eq_true rfl) (g := va_up (va_up f a (.inr (7, [.int (zI 7), .int (zI 0), .ref (a + 1), .null]))) (a + 1) (zAR cP 6 ((fun _ => none)))) (by rw [va_up_comm (a := (a + 1)) (b := a) (by omega), va_up_up]; try rfl) dX7_init_21 (fun H locs hN => ?_)
  have hW := hN.1
  refine lv_aload_n hX0 hB0 dX7_init_24 rfl (lv_at hl 0 rfl) ?_
  refine lv_bipush (v := zI 36) hX0 hB0 dX7_init_25 (by decide) ?_
  refine zn_newa (atype := .int) (ty := .int) (cy := cI) (N' := 36) (a0 := (36, .inl (fun k => zI (zone 0 k)))) CX hN rfl (List.mem_of_getElem? (i := 8) rfl) 0 rfl zn_haI (by omega) rfl (by decide) (by omega) (by show _ ≤ 14; omega) (by show _ ≤ 198; omega) dX7_init_27 (fun H hN => ?_)
  have hN : zN D (zT cI cJ cZ cP cS cM) L (zQ L (a + 1)) st (va_up (va_up (va_up f a (.inr (7, [.int (zI 7), .int (zI 0), .ref (a + 1), .null]))) (a + 1) (zAR cP 6 ((fun _ => none)))) (a + 2) (zA cI 36 (zone 0))) st.heap H locs (a + 1) 2 := by have q := hN; first | exact q | (rw [show 1 + 1 = 2 by omega] at q; exact q)
  have hW := hN.1
  refine W.widen (k := 2) (n := 42) (by omega) (by omega) ?_
  refine zn_putF (Cn := RX7) (T := TX7) (N := 4) CX hN (v := .ref (a + 2)) ((va_up_ne _ _ (by omega)).trans ((va_up_ne _ _ (by omega)).trans (va_up_self _ _ _))) rfl (fun w h => List.mem_cons_of_mem _ (List.mem_append_left _ (List.mem_append_right _ h))) tyX7 tyX7_ok nmX7 3 (by decide) (List.mem_of_getElem? (i := 9) rfl) rfl rfl hin rfl rfl rfl (Nat.le_of_ble_eq_true rfl) (g := va_up (va_up (va_up f a (.inr (7, [.int (zI 7), .int (zI 0), .ref (a + 1), .ref (a + 2)]))) (a + 1) (zAR cP 6 ((fun _ => none)))) (a + 2) (zA cI 36 (zone 0))) (by rw [va_up_comm (a := (a + 2)) (b := a) (by omega), va_up_comm (a := (a + 1)) (b := a) (by omega), va_up_up]; try rfl) dX7_init_29 (fun H locs hN => ?_)
  have hW := hN.1
  refine lv_iconst (v := zI 0) hX0 hB0 dX7_init_32 rfl ?_
  refine lv_istore_n (lv' := [(1, .int (zI 0)), (0, .ref a)]) hX0 hB0 dX7_init_33 rfl hl (by decide) rfl (fun ls hl => ?_)
  have hL34 : ∀ (fu : Nat) (k : Int) (g : Nat → va_E), (0 ≤ k ∧ k ≤ 6 ∧ zFr f g a (a + 15) ∧ g a = .inr (7, [.int (zI 7), .int (zI 0), .ref (a + 1), .ref (a + 2)]) ∧ g (a + 1) = zAR cP 6 (fun j => if j < k.toNat then some (a + 3 + 2 * j) else none) ∧ g (a + 2) = zA cI 36 (zone 0) ∧ ∀ j : Nat, (j : Int) < k → zPoly cI g (a + 3 + 2 * j) (zone 0)) → (6 - k).toNat < fu → ∀ (H : Heap) (locs : List Loc) (ls : Array Slot), zN D (zT cI cJ cZ cP cS cM) L (zQ L (a + 1)) st g st.heap H locs (a + 1) (2 * k.toNat + 2) → lv_has ls 2 [(1, .int (zI k)), (0, .ref a)] → W pg l en ({ frames := 2, cells := 14, slots := 198, locals := 32 } : Room) st mi ag bl mt cd H locs (2 * k.toNat + 2) (26 * k.toNat + 42) Q (F0 mi 34 ls []) := by
    intro fu
    induction fu with
    | zero => intro k g _ hfu; exact absurd hfu (Nat.not_lt_zero _)
    | succ fu ih34 =>
      intro k g hinv34 hfu34 H locs ls hN hl
      have hW := hN.1
      obtain ⟨hk0, hk1, hfr, hg0, hg1, hg2, hgp⟩ := hinv34
      refine lv_iload_n hX0 hB0 dX7_init_34 rfl (lv_at hl 0 rfl) ?_
      refine lv_bipush (v := zI 6) hX0 hB0 dX7_init_35 (by decide) ?_
      refine z_icmp_ge (tgt := 59) CX dX7_init_37 (by decide) (by constructor <;> omega) (by constructor <;> omega) (fun c_37 => ?_) (fun c_37 => ?_)
      ·
        have hN : zN D (zT cI cJ cZ cP cS cM) L (zQ L (a + 1)) st (va_up g (a + 1) (zAR cP 6 (fun j => some (a + 3 + 2 * j)))) st.heap H locs (a + 1) (2 * k.toNat + 2) := ⟨hN.1.re hg1 (zcell_q (fun j hj => if_pos (by omega))), hN.2⟩
        rw [← hQ]
        have hN := hN
        rw [show 2 * k.toNat + 2 = 14 by omega] at hN
        refine W.widen (k := 14) (n := 198) (by omega) (by omega) ?_
        exact zn_vret CX hN (by exact ⟨hfr.up (by omega), (va_up_ne _ _ (by omega)).trans hg0, va_up_self _ _ _, (va_up_ne _ _ (by omega)).trans hg2, fun j hj => (hgp j (by omega)).fr (zFr.refl.up (lo := a + 1) (hi := a + 2) (by omega)) (by omega)⟩) dX7_init_59
      ·
        refine lv_aload_n hX0 hB0 dX7_init_40 rfl (lv_at hl 1 rfl) ?_
        refine z_get (Cn := RX7) (T := TX7) (N := 4) CX hW (v := .ref (a + 1)) hg0 rfl (fun w h => List.mem_cons_of_mem _ (List.mem_append_left _ (List.mem_append_right _ h))) 2 (by decide) (List.mem_of_getElem? (i := 7) rfl) rfl rfl dX7_init_41 ?_
        refine lv_iload_n hX0 hB0 dX7_init_44 rfl (lv_at hl 0 rfl) ?_
        refine zn_new (ci := 2) (fs := [.null]) CX hN (fun w h => List.mem_cons_of_mem _ (List.mem_append_right _ h)) tyX2 tyX2_ok (List.mem_of_getElem? (i := 6) rfl) (List.mem_of_getElem? (i := 10) rfl) (List.mem_of_getElem? (i := 11) rfl) rfl (fun j hj => by rcases (show j = 0 by omega) with rfl <;> rfl) (by show _ ≤ 14; omega) (by show _ ≤ 198; omega) dX7_init_45 (fun H hN => ?_)
        have hN : zN D (zT cI cJ cZ cP cS cM) L (zQ L (a + 1)) st (va_up g (a + 1 + (2 * k.toNat + 2)) (.inr (2, [.null]))) st.heap H locs (a + 1) (2 * k.toNat + 3) := by have q := hN; first | exact q | (rw [show (2 * k.toNat + 2) + 1 = 2 * k.toNat + 3 by omega] at q; exact q)
        have hW := hN.1
        refine W.widen (k := 2 * k.toNat + 3) (n := 26 * k.toNat + 43) (by omega) (by omega) ?_
        refine lv_dup hX0 hB0 dX7_init_48 rfl ?_
        refine zn_callv hN (va_runIN (As := []) (rest := [.ref (a + 1 + (2 * k.toNat + 2)), .int (zI k), .ref (a + 1)]) CX.fix (c_Poly_init l (f := va_up g (a + 1 + (2 * k.toNat + 2)) (.inr (2, [.null]))) (a + 1 + (2 * k.toNat + 2)) (va_up_self _ _ _)) ⟨va_cnB (own := RX7) (host := "CurveMeets") (index := 28) 0 CX.fix.2.2.2.2 ggX7_init_X2_init rfl rfl rfl (CX.2.2.2.2.2.2.2.1 _ (by decide +kernel)) (CX.at (List.mem_of_getElem? (i := 11) rfl)) (by decide +kernel) ⟨Nat.le_of_ble_eq_true rfl, Nat.le_of_ble_eq_true rfl⟩, rfl, CX.at (List.mem_of_getElem? (i := 12) rfl)⟩ (hN.2 ▸ (z_preS CX hW (As := [.ref (a + 1 + (2 * k.toNat + 2))]))) rfl rfl hl.1 rfl (lv_room (Nat.le_of_ble_eq_true rfl)) dX7_init_49 ⟨by show _ ≤ 14; omega, by show _ ≤ 198; omega⟩) (fun gn H locs hok49 hN => ?_)
        obtain ⟨g49, eg49⟩ : ∃ q, q = gn := ⟨_, rfl⟩
        rw [← eg49] at hN hok49
        clear eg49
        obtain ⟨hfr49, hp49⟩ := hok49
        have hN : zN D (zT cI cJ cZ cP cS cM) L (zQ L (a + 1)) st g49 st.heap H locs (a + 1) (2 * k.toNat + 4) := by have q := hN; first | exact q | (rw [show (2 * k.toNat + 3) + 1 = 2 * k.toNat + 4 by omega] at q; exact q)
        have hW := hN.1
        refine W.widen (k := 2 * k.toNat + 4) (n := 26 * k.toNat + 68) (by omega) (by omega) ?_
        refine zn_aast (r := (RX2, TX2, 1)) CX hN ((hfr49 _ (by omega)).trans ((va_up_ne _ _ (by omega)).trans hg1)) 3 rfl hp49.1 rfl (by refine ⟨?_, ?_, ?_⟩ <;> omega) (g := va_up g49 (a + 1) (zAR cP 6 (va_up ((fun j => if j < k.toNat then some (a + 3 + 2 * j) else none)) k.toNat (some (a + 1 + (2 * k.toNat + 2)))))) rfl dX7_init_52 (fun H locs hN => ?_)
        have hW := hN.1
        refine lv_iinc (v := zI (k + 1)) (lv' := [(1, .int (zI (k + 1))), (0, .ref a)]) hX0 hB0 dX7_init_53 hl (k := 0) rfl (zI_add _ _) (by decide) rfl (fun ls hl => ?_)
        refine lv_goto (tgt := 34) hX0 hB0 dX7_init_56 (by decide) ?_
        refine W.widen (k := 2 * (k + 1).toNat + 2) (n := 26 * (k + 1).toNat + 42) (by omega) (by omega) ?_
        have hN := hN
        rw [show 2 * k.toNat + 4 = 2 * (k + 1).toNat + 2 by omega] at hN
        exact ih34 (k + 1) (va_up g49 (a + 1) (zAR cP 6 (va_up ((fun j => if j < k.toNat then some (a + 3 + 2 * j) else none)) k.toNat (some (a + 1 + (2 * k.toNat + 2)))))) ⟨by omega, by omega, ((hfr.up (x := .inr (2, [.null])) (a := a + 1 + (2 * k.toNat + 2)) (by omega)).trans (hfr49.wide (by omega) (by omega))).up (by omega), ((va_up_ne _ _ (by omega)).trans ((hfr49 _ (by omega)).trans ((va_up_ne _ _ (by omega)).trans hg0))), (by rw [(va_up_self _ _ _), zrk hk0 (by omega)]), ((va_up_ne _ _ (by omega)).trans ((hfr49 _ (by omega)).trans ((va_up_ne _ _ (by omega)).trans hg2))), fun j hj => by
          by_cases e : j = k.toNat
          · rw [e, show a + 3 + 2 * k.toNat = a + 1 + (2 * k.toNat + 2) by omega]; exact ⟨((va_up_ne _ _ (by omega)).trans hp49.1), ((va_up_ne _ _ (by omega)).trans hp49.2)⟩
          · exact ((((hgp j (by omega)).fr (zFr.refl.up (lo := a + 1 + (2 * k.toNat + 2)) (hi := a + 1 + (2 * k.toNat + 2) + 1) (x := .inr (2, [.null])) (by omega)) (by omega)).fr hfr49 (by omega)).fr (zFr.refl.up (lo := a + 1) (hi := a + 2) (by omega)) (by omega))⟩ (by omega) H locs ls hN (lv_sub hl [0, 1] rfl)
  refine W.widen (k := 2 * (0 : Int).toNat + 2) (n := 26 * (0 : Int).toNat + 42) (by omega) (by omega) ?_
  have hN := hN
  rw [show 2 = 2 * (0 : Int).toNat + 2 by omega] at hN
  exact hL34 _ 0 (va_up (va_up (va_up f a (.inr (7, [.int (zI 7), .int (zI 0), .ref (a + 1), .ref (a + 2)]))) (a + 1) (zAR cP 6 ((fun _ => none)))) (a + 2) (zA cI 36 (zone 0))) ⟨by omega, by omega, ((zFr.refl.up (by omega)).up (by omega)).up (by omega), ((va_up_ne _ _ (by omega)).trans ((va_up_ne _ _ (by omega)).trans (va_up_self _ _ _))), (by rw [((va_up_ne _ _ (by omega)).trans (va_up_self _ _ _))]; congr 6), (va_up_self _ _ _), fun j hj => by omega⟩ (Nat.lt_succ_self _) H locs ls hN (lv_sub hl [0, 1] rfl)
end ZIn
