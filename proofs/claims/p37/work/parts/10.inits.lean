section ZCp
set_option maxRecDepth 100000 in
set_option maxHeartbeats 4000000 in
/-- Space() -/
theorem c_Space_init (l : Launch) {D : va_G} {cI cJ cZ cP cS cM : ClassId} {L : List Nat} {f : Nat → va_E} (a : Nat) (hf0 : f a = .inr (8, [.null, .null, .int (zI 0), .int (zI 0), .int (zI 0)])) : zMn l yX8_init wsX8_init 1 12 96 9024 D (zT cI cJ cZ cP cS cM) L (a + 1) f [.ref a] (fun g => zFr f g a (a + 97) ∧ g a = .inr (8, [.ref (a + 1), .ref (a + 96), .int (zI 0), .int (zI 0), .int (zI 7)]) ∧ g (a + 1) = zAR cM 94 (fun j => some (a + 2 + j)) ∧ (∀ i, i < 94 → g (a + 2 + i) = zA cI 94 (zone 0)) ∧ g (a + 96) = zA cZ 94 (zone 0)) := by
  refine zNew.met (nL := 1) (ret := none) (cc := cX8_init) (by decide) rfl (Nat.le_of_ble_eq_true rfl) ?_
  intro pg en st mi ag bl mt cd ls CX hin hN hl
  have CX : zC pg st mi ag mt cd cX8_init 1 none RX8 wsX8_init := CX
  generalize hQ : MQ bl _ ag st 96 9024 _ = Q
  have hX0 := CX.1
  have hB0 := CX.2.1
  have hl : lv_has ls 1 [(0, .ref a)] := hl
  obtain ⟨H, eH⟩ : ∃ H, H = st.heap := ⟨_, rfl⟩
  obtain ⟨locs, eL⟩ : ∃ L : List Loc, L = [] := ⟨_, rfl⟩
  have hN : zN D (zT cI cJ cZ cP cS cM) L (zQ L (a + 1)) st f st.heap H locs (a + 1) 0 := by rw [eH, eL]; exact hN
  have hW := hN.1
  suffices hgo : W pg l en ({ frames := 1, cells := 96, slots := 9024, locals := 12 } : Room) st mi ag bl mt cd H locs 0 0 Q (F0 mi 0 ls []) by rw [eH, eL] at hgo; exact hgo
  clear eH eL
  refine lv_aload_n hX0 hB0 dX8_init_0 rfl (lv_at hl 0 rfl) ?_
  refine W.objInit hX0 hB0 CX.2.2.2.1 (CX.at (List.mem_of_getElem? (i := 1) rfl)) (CX.at (List.mem_of_getElem? (i := 2) rfl)) (CX.at (List.mem_of_getElem? (i := 3) rfl)) rfl (by rw [CX.2.2.1]; exact hl.1) rfl dX8_init_1 (Nat.le_of_ble_eq_true rfl) (Nat.le_of_ble_eq_true rfl) ?_
  refine W.eq (g2 := F0 mi 4 ls []) rfl ?_
  refine lv_aload_n hX0 hB0 dX8_init_4 rfl (lv_at hl 0 rfl) ?_
  refine lv_bipush (v := zI 94) hX0 hB0 dX8_init_5 (by decide) ?_
  refine lv_bipush (v := zI 94) hX0 hB0 dX8_init_7 (by decide) ?_
  refine zn_mna CX hN (List.mem_of_getElem? (i := 4) rfl) (List.mem_of_getElem? (i := 5) rfl) 5 0 rfl rfl 94 94 (by omega) (by omega) (by show _ ≤ 96; omega) (by show _ ≤ 9024; omega) dX8_init_9 (fun H hN => ?_)
  obtain ⟨g9, eg9⟩ : ∃ q, q = zadd f (a + 1) 95 (fun i => if i = 0 then zAR cM 94 (fun j => some (a + 1 + 1 + j)) else zA cI 94 (zone 0)) := ⟨_, rfl⟩
  have hN : zN D (zT cI cJ cZ cP cS cM) L (zQ L (a + 1)) st g9 st.heap H locs (a + 1) 95 := by rw [eg9]; exact hN
  have hfr9 : zFr f g9 (a + 1) (a + 1 + 95) := fun b hb => by rw [eg9]; exact zadd_out hb
  have hm9 : g9 (a + 1) = zAR cM 94 (fun j => some (a + 1 + 1 + j)) := by rw [eg9]; exact (zadd_in (i := 0) (by omega)).trans (if_pos rfl)
  have hr9 : ∀ i : Nat, i < 94 → g9 (a + 1 + 1 + i) = zA cI 94 (zone 0) := fun i hi => by rw [eg9, show a + 1 + 1 + i = a + 1 + (i + 1) by omega, zadd_in (by omega), if_neg (by omega)]
  clear eg9
  have hW := hN.1
  refine W.widen (k := 95) (n := 8930) (by omega) (by omega) ?_
  refine zn_putF (Cn := RX8) (T := TX8) (N := 5) CX hN (v := .ref (a + 1)) ((hfr9 _ (by omega)).trans hf0) rfl (fun w h => List.mem_cons_of_mem _ (List.mem_append_right _ h)) tyX8 tyX8_ok nmX8 0 (by decide) (List.mem_of_getElem? (i := 6) rfl) rfl rfl hin rfl rfl rfl (Nat.le_of_ble_eq_true rfl) (g := va_up g9 a (.inr (8, [.ref (a + 1), .null, .int (zI 0), .int (zI 0), .int (zI 0)]))) rfl dX8_init_13 (fun H locs hN => ?_)
  have hW := hN.1
  refine lv_aload_n hX0 hB0 dX8_init_16 rfl (lv_at hl 0 rfl) ?_
  refine lv_bipush (v := zI 94) hX0 hB0 dX8_init_17 (by decide) ?_
  refine zn_newa (atype := .boolean) (ty := .boolean) (cy := cZ) (N' := 94) (a0 := (94, .inl (fun k => zI (zone 0 k)))) CX hN rfl (List.mem_of_getElem? (i := 7) rfl) 2 rfl zn_haZ (by omega) rfl (by decide) (by omega) (by show _ ≤ 96; omega) (by show _ ≤ 9024; omega) dX8_init_19 (fun H hN => ?_)
  have hN : zN D (zT cI cJ cZ cP cS cM) L (zQ L (a + 1)) st (va_up (va_up g9 a (.inr (8, [.ref (a + 1), .null, .int (zI 0), .int (zI 0), .int (zI 0)]))) (a + 96) (zA cZ 94 (zone 0))) st.heap H locs (a + 1) 96 := by have q := hN; first | exact q | (rw [show 95 + 1 = 96 by omega] at q; exact q)
  have hW := hN.1
  refine W.widen (k := 96) (n := 9024) (by omega) (by omega) ?_
  refine zn_putF (Cn := RX8) (T := TX8) (N := 5) CX hN (v := .ref (a + 96)) ((va_up_ne _ _ (by omega)).trans (va_up_self _ _ _)) rfl (fun w h => List.mem_cons_of_mem _ (List.mem_append_right _ h)) tyX8 tyX8_ok nmX8 1 (by decide) (List.mem_of_getElem? (i := 8) rfl) rfl rfl hin rfl rfl rfl (Nat.le_of_ble_eq_true rfl) (g := va_up (va_up g9 a (.inr (8, [.ref (a + 1), .ref (a + 96), .int (zI 0), .int (zI 0), .int (zI 0)]))) (a + 96) (zA cZ 94 (zone 0))) (by rw [va_up_comm (a := (a + 96)) (b := a) (by omega), va_up_up]; try rfl) dX8_init_21 (fun H locs hN => ?_)
  have hW := hN.1
  refine lv_aload_n hX0 hB0 dX8_init_24 rfl (lv_at hl 0 rfl) ?_
  refine lv_iconst (v := zI 0) hX0 hB0 dX8_init_25 rfl ?_
  refine zn_put (Cn := RX8) (T := TX8) (N := 5) CX hN (v := .int (zI 0)) ((va_up_ne _ _ (by omega)).trans (va_up_self _ _ _)) rfl (fun w h => List.mem_cons_of_mem _ (List.mem_append_right _ h)) tyX8 tyX8_ok nmX8 2 (by decide) (List.mem_of_getElem? (i := 9) rfl) rfl rfl rfl rfl (Nat.le_of_ble_eq_true rfl) (g := va_up (va_up g9 a (.inr (8, [.ref (a + 1), .ref (a + 96), .int (zI 0), .int (zI 0), .int (zI 0)]))) (a + 96) (zA cZ 94 (zone 0))) (by rw [va_up_comm (a := (a + 96)) (b := a) (by omega), va_up_up]; try rfl) dX8_init_26 (fun H locs hN => ?_)
  have hW := hN.1
  refine lv_aload_n hX0 hB0 dX8_init_29 rfl (lv_at hl 0 rfl) ?_
  refine lv_iconst (v := zI 0) hX0 hB0 dX8_init_30 rfl ?_
  refine zn_put (Cn := RX8) (T := TX8) (N := 5) CX hN (v := .int (zI 0)) ((va_up_ne _ _ (by omega)).trans (va_up_self _ _ _)) rfl (fun w h => List.mem_cons_of_mem _ (List.mem_append_right _ h)) tyX8 tyX8_ok nmX8 3 (by decide) (List.mem_of_getElem? (i := 10) rfl) rfl rfl rfl rfl (Nat.le_of_ble_eq_true rfl) (g := va_up (va_up g9 a (.inr (8, [.ref (a + 1), .ref (a + 96), .int (zI 0), .int (zI 0), .int (zI 0)]))) (a + 96) (zA cZ 94 (zone 0))) (by rw [va_up_comm (a := (a + 96)) (b := a) (by omega), va_up_up]; try rfl) dX8_init_31 (fun H locs hN => ?_)
  have hW := hN.1
  refine lv_aload_n hX0 hB0 dX8_init_34 rfl (lv_at hl 0 rfl) ?_
  refine lv_bipush (v := zI 7) hX0 hB0 dX8_init_35 (by decide) ?_
  refine zn_put (Cn := RX8) (T := TX8) (N := 5) CX hN (v := .int (zI 7)) ((va_up_ne _ _ (by omega)).trans (va_up_self _ _ _)) rfl (fun w h => List.mem_cons_of_mem _ (List.mem_append_right _ h)) tyX8 tyX8_ok nmX8 4 (by decide) (List.mem_of_getElem? (i := 11) rfl) rfl rfl rfl rfl (Nat.le_of_ble_eq_true rfl) (g := va_up (va_up g9 a (.inr (8, [.ref (a + 1), .ref (a + 96), .int (zI 0), .int (zI 0), .int (zI 7)]))) (a + 96) (zA cZ 94 (zone 0))) (by rw [va_up_comm (a := (a + 96)) (b := a) (by omega), va_up_up]; try rfl) dX8_init_37 (fun H locs hN => ?_)
  have hW := hN.1
  rw [← hQ]
  have hN := hN
  refine W.widen (k := 96) (n := 9024) (by omega) (by omega) ?_
  exact zn_vret CX hN (by exact ⟨((((zFr.refl (lo := a) (hi := a + 97)).trans (hfr9.wide (by omega) (by omega))).up (by omega)).up (by omega)), ((va_up_ne _ _ (by omega)).trans (va_up_self _ _ _)), ((va_up_ne _ _ (by omega)).trans ((va_up_ne _ _ (by omega)).trans hm9)), fun i hi => (va_up_ne _ _ (by omega)).trans ((va_up_ne _ _ (by omega)).trans (hr9 i hi)), (va_up_self _ _ _)⟩) dX8_init_40
theorem zPoly.same {cI : ClassId} {f g : Nat → va_E} {a : Nat} {c : Nat → Int} (h : zPoly cI f a c) (h0 : g a = f a) (h1 : g (a + 1) = f (a + 1)) : zPoly cI g a c := ⟨h0.trans h.1, h1.trans h.2⟩
theorem zShelf.same {cI cP : ClassId} {f g : Nat → va_E} {a : Nat} {p n : Int} {C : Nat → Nat → Int} {lt : Nat → Int} (h : zShelf cI cP f a p n C lt) (hs : ∀ b, a ≤ b → b < a + 15 → g b = f b) : zShelf cI cP g a p n C lt :=
  ⟨(hs _ (by omega) (by omega)).trans h.1, (hs _ (by omega) (by omega)).trans h.2.1, (hs _ (by omega) (by omega)).trans h.2.2.1, fun k hk => (h.2.2.2 k hk).same (hs _ (by omega) (by omega)) (hs _ (by omega) (by omega))⟩
theorem zrk4 {b : Nat} {k : Int} (hk : 0 ≤ k) {x : Nat} (hx : x = b + 4 * k.toNat) : va_up (fun j => if j < k.toNat then some (b + 4 * j) else none) k.toNat (some x) = (fun j => if j < (k + 1).toNat then some (b + 4 * j) else none) := by
  funext j
  unfold va_up
  by_cases e : j = k.toNat
  · rw [if_pos e, if_pos (by omega), hx, e]
  · rw [if_neg e]
    show (if j < k.toNat then some (b + 4 * j) else none) = _
    by_cases h : j < k.toNat
    · rw [if_pos h, if_pos (by omega)]
    · rw [if_neg h, if_neg (by omega)]
/-- a reader at a, as it is made -/
def zReader0 (cI cP cZ : ClassId) (g : Nat → va_E) (a : Nat) : Prop :=
  g a = .inr (3, [.int (zI 0), .int (zI 0), .int (zI (-1)), .ref (a + 1), .ref (a + 16), .ref (a + 17), .ref (a + 18), .ref (a + 19), .ref (a + 20), .ref (a + 21), .ref (a + 23), .ref (a + 25), .int (zI 0)]) ∧
  zShelf cI cP g (a + 1) 7 0 (fun _ => zone 0) (zone 0) ∧ g (a + 16) = zA cI 1000 (zone 0) ∧ g (a + 19) = zA cZ 41 (zone 0) ∧ g (a + 20) = zA cI 41 (zone 0) ∧ zPoly cI g (a + 21) (zone 0) ∧ zPoly cI g (a + 23) (zone 0) ∧ zPoly cI g (a + 25) (zone 0)
theorem zReader0.fr {cI cP cZ : ClassId} {f g : Nat → va_E} {lo hi a : Nat} (h : zReader0 cI cP cZ f a) (hf : zFr f g lo hi) (ha : (a + 17 ≤ lo ∧ hi ≤ a + 19) ∨ a + 27 ≤ lo ∨ hi ≤ a) : zReader0 cI cP cZ g a :=
  ⟨(hf _ (by omega)).trans h.1, h.2.1.fr hf (by omega), (hf _ (by omega)).trans h.2.2.1, (hf _ (by omega)).trans h.2.2.2.1, (hf _ (by omega)).trans h.2.2.2.2.1, h.2.2.2.2.2.1.fr hf (by omega), h.2.2.2.2.2.2.1.fr hf (by omega), h.2.2.2.2.2.2.2.fr hf (by omega)⟩
theorem zReader0.same {cI cP cZ : ClassId} {f g : Nat → va_E} {a : Nat} (h : zReader0 cI cP cZ f a) (hs : ∀ b, a ≤ b → b < a + 27 → b ≠ a + 17 → b ≠ a + 18 → g b = f b) : zReader0 cI cP cZ g a :=
  ⟨(hs _ (by omega) (by omega) (by omega) (by omega)).trans h.1, h.2.1.same (fun b h1 h2 => hs b (by omega) (by omega) (by omega) (by omega)), (hs _ (by omega) (by omega) (by omega) (by omega)).trans h.2.2.1, (hs _ (by omega) (by omega) (by omega) (by omega)).trans h.2.2.2.1, (hs _ (by omega) (by omega) (by omega) (by omega)).trans h.2.2.2.2.1,
    h.2.2.2.2.2.1.same (hs _ (by omega) (by omega) (by omega) (by omega)) (hs _ (by omega) (by omega) (by omega) (by omega)), h.2.2.2.2.2.2.1.same (hs _ (by omega) (by omega) (by omega) (by omega)) (hs _ (by omega) (by omega) (by omega) (by omega)), h.2.2.2.2.2.2.2.same (hs _ (by omega) (by omega) (by omega) (by omega)) (hs _ (by omega) (by omega) (by omega) (by omega))⟩
set_option maxRecDepth 100000 in
set_option maxHeartbeats 4000000 in
/-- Reader() -/
theorem c_Reader_init (l : Launch) {D : va_G} {cI cJ cZ cP cS cM : ClassId} {L : List Nat} {f : Nat → va_E} (a : Nat) (hf0 : f a = .inr (3, [.int (zI 0), .int (zI 0), .int (zI 0), .null, .null, .null, .null, .null, .null, .null, .null, .null, .int (zI 0)])) : zMn l yX3_init wsX3_init 3 53 190 3576 D (zT cI cJ cZ cP cS cM) L (a + 1) f [.ref a] (fun g => zFr f g a (a + 191) ∧ zReader0 cI cP cZ g a ∧ g (a + 17) = zAR cP 41 (fun k => some (a + 27 + 4 * k)) ∧ g (a + 18) = zAR cP 41 (fun k => some (a + 29 + 4 * k)) ∧ ∀ k, k < 41 → zPoly cI g (a + 27 + 4 * k) (zone 0) ∧ zPoly cI g (a + 29 + 4 * k) (zone 0)) := by
  refine zNew.met (nL := 2) (ret := none) (cc := cX3_init) (by decide) rfl (Nat.le_of_ble_eq_true rfl) ?_
  intro pg en st mi ag bl mt cd ls CX hin hN hl
  have CX : zC pg st mi ag mt cd cX3_init 2 none RX3 wsX3_init := CX
  generalize hQ : MQ bl _ ag st 190 3576 _ = Q
  have hX0 := CX.1
  have hB0 := CX.2.1
  have hl : lv_has ls 2 [(0, .ref a)] := hl
  obtain ⟨H, eH⟩ : ∃ H, H = st.heap := ⟨_, rfl⟩
  obtain ⟨locs, eL⟩ : ∃ L : List Loc, L = [] := ⟨_, rfl⟩
  have hN : zN D (zT cI cJ cZ cP cS cM) L (zQ L (a + 1)) st f st.heap H locs (a + 1) 0 := by rw [eH, eL]; exact hN
  have hW := hN.1
  suffices hgo : W pg l en ({ frames := 3, cells := 190, slots := 3576, locals := 53 } : Room) st mi ag bl mt cd H locs 0 0 Q (F0 mi 0 ls []) by rw [eH, eL] at hgo; exact hgo
  clear eH eL
  refine lv_aload_n hX0 hB0 dX3_init_0 rfl (lv_at hl 0 rfl) ?_
  refine W.objInit hX0 hB0 CX.2.2.2.1 (CX.at (List.mem_of_getElem? (i := 1) rfl)) (CX.at (List.mem_of_getElem? (i := 2) rfl)) (CX.at (List.mem_of_getElem? (i := 3) rfl)) rfl (by rw [CX.2.2.1]; exact hl.1) rfl dX3_init_1 (Nat.le_of_ble_eq_true rfl) (Nat.le_of_ble_eq_true rfl) ?_
  refine W.eq (g2 := F0 mi 4 ls []) rfl ?_
  refine lv_aload_n hX0 hB0 dX3_init_4 rfl (lv_at hl 0 rfl) ?_
  refine lv_iconst (v := zI 0) hX0 hB0 dX3_init_5 rfl ?_
  refine zn_put (Cn := RX3) (T := TX3) (N := 13) CX hN (v := .int (zI 0)) hf0 rfl (fun w h => List.mem_cons_of_mem _ (List.mem_append_left _ (List.mem_append_left _ (List.mem_append_right _ h)))) tyX3 tyX3_ok nmX3 0 (by decide) (List.mem_of_getElem? (i := 4) rfl) rfl rfl rfl rfl (Nat.le_of_ble_eq_true rfl) (g := va_up f a (.inr (3, [.int (zI 0), .int (zI 0), .int (zI 0), .null, .null, .null, .null, .null, .null, .null, .null, .null, .int (zI 0)]))) rfl dX3_init_6 (fun H locs hN => ?_)
  have hW := hN.1
  refine lv_aload_n hX0 hB0 dX3_init_9 rfl (lv_at hl 0 rfl) ?_
  refine lv_iconst (v := zI 0) hX0 hB0 dX3_init_10 rfl ?_
  refine zn_put (Cn := RX3) (T := TX3) (N := 13) CX hN (v := .int (zI 0)) (va_up_self _ _ _) rfl (fun w h => List.mem_cons_of_mem _ (List.mem_append_left _ (List.mem_append_left _ (List.mem_append_right _ h)))) tyX3 tyX3_ok nmX3 1 (by decide) (List.mem_of_getElem? (i := 5) rfl) rfl rfl rfl rfl (Nat.le_of_ble_eq_true rfl) (g := va_up f a (.inr (3, [.int (zI 0), .int (zI 0), .int (zI 0), .null, .null, .null, .null, .null, .null, .null, .null, .null, .int (zI 0)]))) va_up_up dX3_init_11 (fun H locs hN => ?_)
  have hW := hN.1
  refine lv_aload_n hX0 hB0 dX3_init_14 rfl (lv_at hl 0 rfl) ?_
  refine lv_iconst (v := zI (-1)) hX0 hB0 dX3_init_15 rfl ?_
  refine zn_put (Cn := RX3) (T := TX3) (N := 13) CX hN (v := .int (zI (-1))) (va_up_self _ _ _) rfl (fun w h => List.mem_cons_of_mem _ (List.mem_append_left _ (List.mem_append_left _ (List.mem_append_right _ h)))) tyX3 tyX3_ok nmX3 2 (by decide) (List.mem_of_getElem? (i := 6) rfl) rfl rfl rfl rfl (Nat.le_of_ble_eq_true rfl) (g := va_up f a (.inr (3, [.int (zI 0), .int (zI 0), .int (zI (-1)), .null, .null, .null, .null, .null, .null, .null, .null, .null, .int (zI 0)]))) va_up_up dX3_init_16 (fun H locs hN => ?_)
  have hW := hN.1
  refine lv_aload_n hX0 hB0 dX3_init_19 rfl (lv_at hl 0 rfl) ?_
  refine zn_new (ci := 7) (fs := [.int (zI 0), .int (zI 0), .null, .null]) CX hN (fun w h => List.mem_cons_of_mem _ (List.mem_append_left _ (List.mem_append_right _ h))) tyX7 tyX7_ok (List.mem_of_getElem? (i := 7) rfl) (List.mem_of_getElem? (i := 8) rfl) (List.mem_of_getElem? (i := 9) rfl) rfl (fun j hj => by rcases (show j = 0 ∨ j = 1 ∨ j = 2 ∨ j = 3 by omega) with rfl | rfl | rfl | rfl <;> rfl) (by show _ ≤ 190; omega) (by show _ ≤ 3576; omega) dX3_init_20 (fun H hN => ?_)
  have hN : zN D (zT cI cJ cZ cP cS cM) L (zQ L (a + 1)) st (va_up (va_up f a (.inr (3, [.int (zI 0), .int (zI 0), .int (zI (-1)), .null, .null, .null, .null, .null, .null, .null, .null, .null, .int (zI 0)]))) (a + 1) (.inr (7, [.int (zI 0), .int (zI 0), .null, .null]))) st.heap H locs (a + 1) 1 := by have q := hN; first | exact q | (rw [show 0 + 1 = 1 by omega] at q; exact q)
  have hW := hN.1
  refine W.widen (k := 1) (n := 4) (by omega) (by omega) ?_
  refine lv_dup hX0 hB0 dX3_init_23 rfl ?_
  refine zn_callv hN (va_runI (As := []) (rest := [.ref (a + 1), .ref a]) CX.fix (c_Shelf_init l (f := va_up (va_up f a (.inr (3, [.int (zI 0), .int (zI 0), .int (zI (-1)), .null, .null, .null, .null, .null, .null, .null, .null, .null, .int (zI 0)]))) (a + 1) (.inr (7, [.int (zI 0), .int (zI 0), .null, .null]))) (a + 1) (va_up_self _ _ _)) (cwI 0 CX.fix.2.2.2.2 ggX3_init_X7_init rfl rfl rfl (CX.at (List.mem_of_getElem? (i := 9) rfl)) (CX.at (List.mem_of_getElem? (i := 25) rfl)) (CX.at (List.mem_of_getElem? (i := 26) rfl)) rfl (by decide +kernel) ⟨Nat.le_of_ble_eq_true rfl, Nat.le_of_ble_eq_true rfl⟩) (hN.2 ▸ (z_preS CX hW (As := [.ref (a + 1)]))) rfl rfl hl.1 rfl (lv_room (Nat.le_of_ble_eq_true rfl)) dX3_init_24 ⟨by show _ ≤ 190; omega, by show _ ≤ 3576; omega⟩) (fun gn H locs hok24 hN => ?_)
  obtain ⟨g24, eg24⟩ : ∃ q, q = gn := ⟨_, rfl⟩
  rw [← eg24] at hN hok24
  clear eg24
  obtain ⟨hfr24, hp24⟩ := hok24
  have hN : zN D (zT cI cJ cZ cP cS cM) L (zQ L (a + 1)) st g24 st.heap H locs (a + 1) 15 := by have q := hN; first | exact q | (rw [show 1 + 14 = 15 by omega] at q; exact q)
  have hW := hN.1
  refine W.widen (k := 15) (n := 202) (by omega) (by omega) ?_
  refine zn_putF (Cn := RX3) (T := TX3) (N := 13) CX hN (v := .ref (a + 1)) ((hfr24 _ (by omega)).trans ((va_up_ne _ _ (by omega)).trans (va_up_self _ _ _))) rfl (fun w h => List.mem_cons_of_mem _ (List.mem_append_left _ (List.mem_append_left _ (List.mem_append_right _ h)))) tyX3 tyX3_ok nmX3 3 (by decide) (List.mem_of_getElem? (i := 10) rfl) rfl rfl hin rfl rfl rfl (Nat.le_of_ble_eq_true rfl) (g := va_up g24 a (.inr (3, [.int (zI 0), .int (zI 0), .int (zI (-1)), .ref (a + 1), .null, .null, .null, .null, .null, .null, .null, .null, .int (zI 0)]))) rfl dX3_init_27 (fun H locs hN => ?_)
  have hW := hN.1
  refine lv_aload_n hX0 hB0 dX3_init_30 rfl (lv_at hl 0 rfl) ?_
  refine lv_sipush (v := zI 1000) hX0 hB0 dX3_init_31 (by decide) ?_
  refine zn_newa (atype := .int) (ty := .int) (cy := cI) (N' := 1000) (a0 := (1000, .inl (fun k => zI (zone 0 k)))) CX hN rfl (List.mem_of_getElem? (i := 11) rfl) 0 rfl zn_haI (by omega) rfl (by decide) (by omega) (by show _ ≤ 190; omega) (by show _ ≤ 3576; omega) dX3_init_34 (fun H hN => ?_)
  have hN : zN D (zT cI cJ cZ cP cS cM) L (zQ L (a + 1)) st (va_up (va_up g24 a (.inr (3, [.int (zI 0), .int (zI 0), .int (zI (-1)), .ref (a + 1), .null, .null, .null, .null, .null, .null, .null, .null, .int (zI 0)]))) (a + 16) (zA cI 1000 (zone 0))) st.heap H locs (a + 1) 16 := by have q := hN; first | exact q | (rw [show 15 + 1 = 16 by omega] at q; exact q)
  have hW := hN.1
  refine W.widen (k := 16) (n := 1202) (by omega) (by omega) ?_
  refine zn_putF (Cn := RX3) (T := TX3) (N := 13) CX hN (v := .ref (a + 16)) ((va_up_ne _ _ (by omega)).trans (va_up_self _ _ _)) rfl (fun w h => List.mem_cons_of_mem _ (List.mem_append_left _ (List.mem_append_left _ (List.mem_append_right _ h)))) tyX3 tyX3_ok nmX3 4 (by decide) (List.mem_of_getElem? (i := 12) rfl) rfl rfl hin rfl rfl rfl (Nat.le_of_ble_eq_true rfl) (g := va_up (va_up g24 a (.inr (3, [.int (zI 0), .int (zI 0), .int (zI (-1)), .ref (a + 1), .ref (a + 16), .null, .null, .null, .null, .null, .null, .null, .int (zI 0)]))) (a + 16) (zA cI 1000 (zone 0))) (by rw [va_up_comm (a := (a + 16)) (b := a) (by omega), va_up_up]; try rfl) dX3_init_36 (fun H locs hN => ?_)
  have hW := hN.1
  refine lv_aload_n hX0 hB0 dX3_init_39 rfl (lv_at hl 0 rfl) ?_
  refine lv_bipush (v := zI 41) hX0 hB0 dX3_init_40 (by decide) ?_
  refine zn_newq (cy := cP) (N' := 41) CX hN (List.mem_of_getElem? (i := 13) rfl) CX.2.2.2.2.2.2.2.2.1 3 rfl (by omega) rfl (by decide) (by show _ ≤ 190; omega) (by show _ ≤ 3576; omega) dX3_init_42 (fun H hN => ?_)
  have hN : zN D (zT cI cJ cZ cP cS cM) L (zQ L (a + 1)) st (va_up (va_up (va_up g24 a (.inr (3, [.int (zI 0), .int (zI 0), .int (zI (-1)), .ref (a + 1), .ref (a + 16), .null, .null, .null, .null, .null, .null, .null, .int (zI 0)]))) (a + 16) (zA cI 1000 (zone 0))) (a + 17) (zAR cP 41 ((fun _ => none)))) st.heap H locs (a + 1) 17 := by have q := hN; first | exact q | (rw [show 16 + 1 = 17 by omega] at q; exact q)
  have hW := hN.1
  refine W.widen (k := 17) (n := 1243) (by omega) (by omega) ?_
  refine zn_putF (Cn := RX3) (T := TX3) (N := 13) CX hN (v := .ref (a + 17)) ((va_up_ne _ _ (by omega)).trans ((va_up_ne _ _ (by omega)).trans (va_up_self _ _ _))) rfl (fun w h => List.mem_cons_of_mem _ (List.mem_append_left _ (List.mem_append_left _ (List.mem_append_right _ h)))) tyX3 tyX3_ok nmX3 5 (by decide) (List.mem_of_getElem? (i := 14) rfl) rfl rfl hin rfl rfl rfl (Nat.le_of_ble_eq_true rfl) (g := va_up (va_up (va_up g24 a (.inr (3, [.int (zI 0), .int (zI 0), .int (zI (-1)), .ref (a + 1), .ref (a + 16), .ref (a + 17), .null, .null, .null, .null, .null, .null, .int (zI 0)]))) (a + 16) (zA cI 1000 (zone 0))) (a + 17) (zAR cP 41 ((fun _ => none)))) (by rw [va_up_comm (a := (a + 17)) (b := a) (by omega), va_up_comm (a := (a + 16)) (b := a) (by omega), va_up_up]; try rfl) dX3_init_45 (fun H locs hN => ?_)
  have hW := hN.1
  refine lv_aload_n hX0 hB0 dX3_init_48 rfl (lv_at hl 0 rfl) ?_
  refine lv_bipush (v := zI 41) hX0 hB0 dX3_init_49 (by decide) ?_
  refine zn_newq (cy := cP) (N' := 41) CX hN (List.mem_of_getElem? (i := 13) rfl) CX.2.2.2.2.2.2.2.2.1 3 rfl (by omega) rfl (by decide) (by show _ ≤ 190; omega) (by show _ ≤ 3576; omega) dX3_init_51 (fun H hN => ?_)
  have hN : zN D (zT cI cJ cZ cP cS cM) L (zQ L (a + 1)) st (va_up (va_up (va_up (va_up g24 a (.inr (3, [.int (zI 0), .int (zI 0), .int (zI (-1)), .ref (a + 1), .ref (a + 16), .ref (a + 17), .null, .null, .null, .null, .null, .null, .int (zI 0)]))) (a + 16) (zA cI 1000 (zone 0))) (a + 17) (zAR cP 41 ((fun _ => none)))) (a + 18) (zAR cP 41 ((fun _ => none)))) st.heap H locs (a + 1) 18 := by have q := hN; first | exact q | (rw [show 17 + 1 = 18 by omega] at q; exact q)
  have hW := hN.1
  refine W.widen (k := 18) (n := 1284) (by omega) (by omega) ?_
  refine zn_putF (Cn := RX3) (T := TX3) (N := 13) CX hN (v := .ref (a + 18)) ((va_up_ne _ _ (by omega)).trans ((va_up_ne _ _ (by omega)).trans ((va_up_ne _ _ (by omega)).trans (va_up_self _ _ _)))) rfl (fun w h => List.mem_cons_of_mem _ (List.mem_append_left _ (List.mem_append_left _ (List.mem_append_right _ h)))) tyX3 tyX3_ok nmX3 6 (by decide) (List.mem_of_getElem? (i := 15) rfl) rfl rfl hin rfl rfl rfl (Nat.le_of_ble_eq_true rfl) (g := va_up (va_up (va_up (va_up g24 a (.inr (3, [.int (zI 0), .int (zI 0), .int (zI (-1)), .ref (a + 1), .ref (a + 16), .ref (a + 17), .ref (a + 18), .null, .null, .null, .null, .null, .int (zI 0)]))) (a + 16) (zA cI 1000 (zone 0))) (a + 17) (zAR cP 41 ((fun _ => none)))) (a + 18) (zAR cP 41 ((fun _ => none)))) (by rw [va_up_comm (a := (a + 18)) (b := a) (by omega), va_up_comm (a := (a + 17)) (b := a) (by omega), va_up_comm (a := (a + 16)) (b := a) (by omega), va_up_up]; try rfl) dX3_init_54 (fun H locs hN => ?_)
  have hW := hN.1
  refine lv_aload_n hX0 hB0 dX3_init_57 rfl (lv_at hl 0 rfl) ?_
  refine lv_bipush (v := zI 41) hX0 hB0 dX3_init_58 (by decide) ?_
  refine zn_newa (atype := .boolean) (ty := .boolean) (cy := cZ) (N' := 41) (a0 := (41, .inl (fun k => zI (zone 0 k)))) CX hN rfl (List.mem_of_getElem? (i := 16) rfl) 2 rfl zn_haZ (by omega) rfl (by decide) (by omega) (by show _ ≤ 190; omega) (by show _ ≤ 3576; omega) dX3_init_60 (fun H hN => ?_)
  have hN : zN D (zT cI cJ cZ cP cS cM) L (zQ L (a + 1)) st (va_up (va_up (va_up (va_up (va_up g24 a (.inr (3, [.int (zI 0), .int (zI 0), .int (zI (-1)), .ref (a + 1), .ref (a + 16), .ref (a + 17), .ref (a + 18), .null, .null, .null, .null, .null, .int (zI 0)]))) (a + 16) (zA cI 1000 (zone 0))) (a + 17) (zAR cP 41 ((fun _ => none)))) (a + 18) (zAR cP 41 ((fun _ => none)))) (a + 19) (zA cZ 41 (zone 0))) st.heap H locs (a + 1) 19 := by have q := hN; first | exact q | (rw [show 18 + 1 = 19 by omega] at q; exact q)
  have hW := hN.1
  refine W.widen (k := 19) (n := 1325) (by omega) (by omega) ?_
  refine zn_putF (Cn := RX3) (T := TX3) (N := 13) CX hN (v := .ref (a + 19)) ((va_up_ne _ _ (by omega)).trans ((va_up_ne _ _ (by omega)).trans ((va_up_ne _ _ (by omega)).trans ((va_up_ne _ _ (by omega)).trans (va_up_self _ _ _))))) rfl (fun w h => List.mem_cons_of_mem _ (List.mem_append_left _ (List.mem_append_left _ (List.mem_append_right _ h)))) tyX3 tyX3_ok nmX3 7 (by decide) (List.mem_of_getElem? (i := 17) rfl) rfl rfl hin rfl rfl rfl (Nat.le_of_ble_eq_true rfl) (g := va_up (va_up (va_up (va_up (va_up g24 a (.inr (3, [.int (zI 0), .int (zI 0), .int (zI (-1)), .ref (a + 1), .ref (a + 16), .ref (a + 17), .ref (a + 18), .ref (a + 19), .null, .null, .null, .null, .int (zI 0)]))) (a + 16) (zA cI 1000 (zone 0))) (a + 17) (zAR cP 41 ((fun _ => none)))) (a + 18) (zAR cP 41 ((fun _ => none)))) (a + 19) (zA cZ 41 (zone 0))) (by rw [va_up_comm (a := (a + 19)) (b := a) (by omega), va_up_comm (a := (a + 18)) (b := a) (by omega), va_up_comm (a := (a + 17)) (b := a) (by omega), va_up_comm (a := (a + 16)) (b := a) (by omega), va_up_up]; try rfl) dX3_init_62 (fun H locs hN => ?_)
  have hW := hN.1
  refine lv_aload_n hX0 hB0 dX3_init_65 rfl (lv_at hl 0 rfl) ?_
  refine lv_bipush (v := zI 41) hX0 hB0 dX3_init_66 (by decide) ?_
  refine zn_newa (atype := .int) (ty := .int) (cy := cI) (N' := 41) (a0 := (41, .inl (fun k => zI (zone 0 k)))) CX hN rfl (List.mem_of_getElem? (i := 11) rfl) 0 rfl zn_haI (by omega) rfl (by decide) (by omega) (by show _ ≤ 190; omega) (by show _ ≤ 3576; omega) dX3_init_68 (fun H hN => ?_)
  have hN : zN D (zT cI cJ cZ cP cS cM) L (zQ L (a + 1)) st (va_up (va_up (va_up (va_up (va_up (va_up g24 a (.inr (3, [.int (zI 0), .int (zI 0), .int (zI (-1)), .ref (a + 1), .ref (a + 16), .ref (a + 17), .ref (a + 18), .ref (a + 19), .null, .null, .null, .null, .int (zI 0)]))) (a + 16) (zA cI 1000 (zone 0))) (a + 17) (zAR cP 41 ((fun _ => none)))) (a + 18) (zAR cP 41 ((fun _ => none)))) (a + 19) (zA cZ 41 (zone 0))) (a + 20) (zA cI 41 (zone 0))) st.heap H locs (a + 1) 20 := by have q := hN; first | exact q | (rw [show 19 + 1 = 20 by omega] at q; exact q)
  have hW := hN.1
  refine W.widen (k := 20) (n := 1366) (by omega) (by omega) ?_
  refine zn_putF (Cn := RX3) (T := TX3) (N := 13) CX hN (v := .ref (a + 20)) ((va_up_ne _ _ (by omega)).trans ((va_up_ne _ _ (by omega)).trans ((va_up_ne _ _ (by omega)).trans ((va_up_ne _ _ (by omega)).trans ((va_up_ne _ _ (by omega)).trans (va_up_self _ _ _)))))) rfl (fun w h => List.mem_cons_of_mem _ (List.mem_append_left _ (List.mem_append_left _ (List.mem_append_right _ h)))) tyX3 tyX3_ok nmX3 8 (by decide) (List.mem_of_getElem? (i := 18) rfl) rfl rfl hin rfl rfl rfl (Nat.le_of_ble_eq_true rfl) (g := va_up (va_up (va_up (va_up (va_up (va_up g24 a (.inr (3, [.int (zI 0), .int (zI 0), .int (zI (-1)), .ref (a + 1), .ref (a + 16), .ref (a + 17), .ref (a + 18), .ref (a + 19), .ref (a + 20), .null, .null, .null, .int (zI 0)]))) (a + 16) (zA cI 1000 (zone 0))) (a + 17) (zAR cP 41 ((fun _ => none)))) (a + 18) (zAR cP 41 ((fun _ => none)))) (a + 19) (zA cZ 41 (zone 0))) (a + 20) (zA cI 41 (zone 0))) (by rw [va_up_comm (a := (a + 20)) (b := a) (by omega), va_up_comm (a := (a + 19)) (b := a) (by omega), va_up_comm (a := (a + 18)) (b := a) (by omega), va_up_comm (a := (a + 17)) (b := a) (by omega), va_up_comm (a := (a + 16)) (b := a) (by omega), va_up_up]; try rfl) dX3_init_70 (fun H locs hN => ?_)
  have hW := hN.1
  refine lv_aload_n hX0 hB0 dX3_init_73 rfl (lv_at hl 0 rfl) ?_
  refine zn_new (ci := 2) (fs := [.null]) CX hN (fun w h => List.mem_cons_of_mem _ (List.mem_append_right _ h)) tyX2 tyX2_ok (List.mem_of_getElem? (i := 13) rfl) (List.mem_of_getElem? (i := 19) rfl) (List.mem_of_getElem? (i := 20) rfl) rfl (fun j hj => by rcases (show j = 0 by omega) with rfl <;> rfl) (by show _ ≤ 190; omega) (by show _ ≤ 3576; omega) dX3_init_74 (fun H hN => ?_)
  have hN : zN D (zT cI cJ cZ cP cS cM) L (zQ L (a + 1)) st (va_up (va_up (va_up (va_up (va_up (va_up (va_up g24 a (.inr (3, [.int (zI 0), .int (zI 0), .int (zI (-1)), .ref (a + 1), .ref (a + 16), .ref (a + 17), .ref (a + 18), .ref (a + 19), .ref (a + 20), .null, .null, .null, .int (zI 0)]))) (a + 16) (zA cI 1000 (zone 0))) (a + 17) (zAR cP 41 ((fun _ => none)))) (a + 18) (zAR cP 41 ((fun _ => none)))) (a + 19) (zA cZ 41 (zone 0))) (a + 20) (zA cI 41 (zone 0))) (a + 21) (.inr (2, [.null]))) st.heap H locs (a + 1) 21 := by have q := hN; first | exact q | (rw [show 20 + 1 = 21 by omega] at q; exact q)
  have hW := hN.1
  refine W.widen (k := 21) (n := 1367) (by omega) (by omega) ?_
  refine lv_dup hX0 hB0 dX3_init_77 rfl ?_
  refine zn_callv hN (va_runIN (As := []) (rest := [.ref (a + 21), .ref a]) CX.fix (c_Poly_init l (f := va_up (va_up (va_up (va_up (va_up (va_up (va_up g24 a (.inr (3, [.int (zI 0), .int (zI 0), .int (zI (-1)), .ref (a + 1), .ref (a + 16), .ref (a + 17), .ref (a + 18), .ref (a + 19), .ref (a + 20), .null, .null, .null, .int (zI 0)]))) (a + 16) (zA cI 1000 (zone 0))) (a + 17) (zAR cP 41 ((fun _ => none)))) (a + 18) (zAR cP 41 ((fun _ => none)))) (a + 19) (zA cZ 41 (zone 0))) (a + 20) (zA cI 41 (zone 0))) (a + 21) (.inr (2, [.null]))) (a + 21) (va_up_self _ _ _)) ⟨va_cnB (own := RX3) (host := "CurveMeets") (index := 48) 0 CX.fix.2.2.2.2 ggX3_init_X2_init rfl rfl rfl (CX.2.2.2.2.2.2.2.1 _ (by decide +kernel)) (CX.at (List.mem_of_getElem? (i := 20) rfl)) (by decide +kernel) ⟨Nat.le_of_ble_eq_true rfl, Nat.le_of_ble_eq_true rfl⟩, rfl, CX.at (List.mem_of_getElem? (i := 34) rfl)⟩ (hN.2 ▸ (z_preS CX hW (As := [.ref (a + 21)]))) rfl rfl hl.1 rfl (lv_room (Nat.le_of_ble_eq_true rfl)) dX3_init_78 ⟨by show _ ≤ 190; omega, by show _ ≤ 3576; omega⟩) (fun gn H locs hok78 hN => ?_)
  obtain ⟨g78, eg78⟩ : ∃ q, q = gn := ⟨_, rfl⟩
  rw [← eg78] at hN hok78
  clear eg78
  obtain ⟨hfr78, hp78⟩ := hok78
  have hN : zN D (zT cI cJ cZ cP cS cM) L (zQ L (a + 1)) st g78 st.heap H locs (a + 1) 22 := by have q := hN; first | exact q | (rw [show 21 + 1 = 22 by omega] at q; exact q)
  have hW := hN.1
  refine W.widen (k := 22) (n := 1392) (by omega) (by omega) ?_
  refine zn_putF (Cn := RX3) (T := TX3) (N := 13) CX hN (v := .ref (a + 21)) ((hfr78 _ (by omega)).trans ((va_up_ne _ _ (by omega)).trans ((va_up_ne _ _ (by omega)).trans ((va_up_ne _ _ (by omega)).trans ((va_up_ne _ _ (by omega)).trans ((va_up_ne _ _ (by omega)).trans ((va_up_ne _ _ (by omega)).trans (va_up_self _ _ _)))))))) rfl (fun w h => List.mem_cons_of_mem _ (List.mem_append_left _ (List.mem_append_left _ (List.mem_append_right _ h)))) tyX3 tyX3_ok nmX3 9 (by decide) (List.mem_of_getElem? (i := 21) rfl) rfl rfl hin rfl rfl rfl (Nat.le_of_ble_eq_true rfl) (g := va_up g78 a (.inr (3, [.int (zI 0), .int (zI 0), .int (zI (-1)), .ref (a + 1), .ref (a + 16), .ref (a + 17), .ref (a + 18), .ref (a + 19), .ref (a + 20), .ref (a + 21), .null, .null, .int (zI 0)]))) rfl dX3_init_81 (fun H locs hN => ?_)
  have hW := hN.1
  refine lv_aload_n hX0 hB0 dX3_init_84 rfl (lv_at hl 0 rfl) ?_
  refine zn_new (ci := 2) (fs := [.null]) CX hN (fun w h => List.mem_cons_of_mem _ (List.mem_append_right _ h)) tyX2 tyX2_ok (List.mem_of_getElem? (i := 13) rfl) (List.mem_of_getElem? (i := 19) rfl) (List.mem_of_getElem? (i := 20) rfl) rfl (fun j hj => by rcases (show j = 0 by omega) with rfl <;> rfl) (by show _ ≤ 190; omega) (by show _ ≤ 3576; omega) dX3_init_85 (fun H hN => ?_)
  have hN : zN D (zT cI cJ cZ cP cS cM) L (zQ L (a + 1)) st (va_up (va_up g78 a (.inr (3, [.int (zI 0), .int (zI 0), .int (zI (-1)), .ref (a + 1), .ref (a + 16), .ref (a + 17), .ref (a + 18), .ref (a + 19), .ref (a + 20), .ref (a + 21), .null, .null, .int (zI 0)]))) (a + 23) (.inr (2, [.null]))) st.heap H locs (a + 1) 23 := by have q := hN; first | exact q | (rw [show 22 + 1 = 23 by omega] at q; exact q)
  have hW := hN.1
  refine W.widen (k := 23) (n := 1393) (by omega) (by omega) ?_
  refine lv_dup hX0 hB0 dX3_init_88 rfl ?_
  refine zn_callv hN (va_runIN (As := []) (rest := [.ref (a + 23), .ref a]) CX.fix (c_Poly_init l (f := va_up (va_up g78 a (.inr (3, [.int (zI 0), .int (zI 0), .int (zI (-1)), .ref (a + 1), .ref (a + 16), .ref (a + 17), .ref (a + 18), .ref (a + 19), .ref (a + 20), .ref (a + 21), .null, .null, .int (zI 0)]))) (a + 23) (.inr (2, [.null]))) (a + 23) (va_up_self _ _ _)) ⟨va_cnB (own := RX3) (host := "CurveMeets") (index := 48) 0 CX.fix.2.2.2.2 ggX3_init_X2_init rfl rfl rfl (CX.2.2.2.2.2.2.2.1 _ (by decide +kernel)) (CX.at (List.mem_of_getElem? (i := 20) rfl)) (by decide +kernel) ⟨Nat.le_of_ble_eq_true rfl, Nat.le_of_ble_eq_true rfl⟩, rfl, CX.at (List.mem_of_getElem? (i := 34) rfl)⟩ (hN.2 ▸ (z_preS CX hW (As := [.ref (a + 23)]))) rfl rfl hl.1 rfl (lv_room (Nat.le_of_ble_eq_true rfl)) dX3_init_89 ⟨by show _ ≤ 190; omega, by show _ ≤ 3576; omega⟩) (fun gn H locs hok89 hN => ?_)
  obtain ⟨g89, eg89⟩ : ∃ q, q = gn := ⟨_, rfl⟩
  rw [← eg89] at hN hok89
  clear eg89
  obtain ⟨hfr89, hp89⟩ := hok89
  have hN : zN D (zT cI cJ cZ cP cS cM) L (zQ L (a + 1)) st g89 st.heap H locs (a + 1) 24 := by have q := hN; first | exact q | (rw [show 23 + 1 = 24 by omega] at q; exact q)
  have hW := hN.1
  refine W.widen (k := 24) (n := 1418) (by omega) (by omega) ?_
  refine zn_putF (Cn := RX3) (T := TX3) (N := 13) CX hN (v := .ref (a + 23)) ((hfr89 _ (by omega)).trans ((va_up_ne _ _ (by omega)).trans (va_up_self _ _ _))) rfl (fun w h => List.mem_cons_of_mem _ (List.mem_append_left _ (List.mem_append_left _ (List.mem_append_right _ h)))) tyX3 tyX3_ok nmX3 10 (by decide) (List.mem_of_getElem? (i := 22) rfl) rfl rfl hin rfl rfl rfl (Nat.le_of_ble_eq_true rfl) (g := va_up g89 a (.inr (3, [.int (zI 0), .int (zI 0), .int (zI (-1)), .ref (a + 1), .ref (a + 16), .ref (a + 17), .ref (a + 18), .ref (a + 19), .ref (a + 20), .ref (a + 21), .ref (a + 23), .null, .int (zI 0)]))) rfl dX3_init_92 (fun H locs hN => ?_)
  have hW := hN.1
  refine lv_aload_n hX0 hB0 dX3_init_95 rfl (lv_at hl 0 rfl) ?_
  refine zn_new (ci := 2) (fs := [.null]) CX hN (fun w h => List.mem_cons_of_mem _ (List.mem_append_right _ h)) tyX2 tyX2_ok (List.mem_of_getElem? (i := 13) rfl) (List.mem_of_getElem? (i := 19) rfl) (List.mem_of_getElem? (i := 20) rfl) rfl (fun j hj => by rcases (show j = 0 by omega) with rfl <;> rfl) (by show _ ≤ 190; omega) (by show _ ≤ 3576; omega) dX3_init_96 (fun H hN => ?_)
  have hN : zN D (zT cI cJ cZ cP cS cM) L (zQ L (a + 1)) st (va_up (va_up g89 a (.inr (3, [.int (zI 0), .int (zI 0), .int (zI (-1)), .ref (a + 1), .ref (a + 16), .ref (a + 17), .ref (a + 18), .ref (a + 19), .ref (a + 20), .ref (a + 21), .ref (a + 23), .null, .int (zI 0)]))) (a + 25) (.inr (2, [.null]))) st.heap H locs (a + 1) 25 := by have q := hN; first | exact q | (rw [show 24 + 1 = 25 by omega] at q; exact q)
  have hW := hN.1
  refine W.widen (k := 25) (n := 1419) (by omega) (by omega) ?_
  refine lv_dup hX0 hB0 dX3_init_99 rfl ?_
  refine zn_callv hN (va_runIN (As := []) (rest := [.ref (a + 25), .ref a]) CX.fix (c_Poly_init l (f := va_up (va_up g89 a (.inr (3, [.int (zI 0), .int (zI 0), .int (zI (-1)), .ref (a + 1), .ref (a + 16), .ref (a + 17), .ref (a + 18), .ref (a + 19), .ref (a + 20), .ref (a + 21), .ref (a + 23), .null, .int (zI 0)]))) (a + 25) (.inr (2, [.null]))) (a + 25) (va_up_self _ _ _)) ⟨va_cnB (own := RX3) (host := "CurveMeets") (index := 48) 0 CX.fix.2.2.2.2 ggX3_init_X2_init rfl rfl rfl (CX.2.2.2.2.2.2.2.1 _ (by decide +kernel)) (CX.at (List.mem_of_getElem? (i := 20) rfl)) (by decide +kernel) ⟨Nat.le_of_ble_eq_true rfl, Nat.le_of_ble_eq_true rfl⟩, rfl, CX.at (List.mem_of_getElem? (i := 34) rfl)⟩ (hN.2 ▸ (z_preS CX hW (As := [.ref (a + 25)]))) rfl rfl hl.1 rfl (lv_room (Nat.le_of_ble_eq_true rfl)) dX3_init_100 ⟨by show _ ≤ 190; omega, by show _ ≤ 3576; omega⟩) (fun gn H locs hok100 hN => ?_)
  obtain ⟨g100, eg100⟩ : ∃ q, q = gn := ⟨_, rfl⟩
  rw [← eg100] at hN hok100
  clear eg100
  obtain ⟨hfr100, hp100⟩ := hok100
  have hN : zN D (zT cI cJ cZ cP cS cM) L (zQ L (a + 1)) st g100 st.heap H locs (a + 1) 26 := by have q := hN; first | exact q | (rw [show 25 + 1 = 26 by omega] at q; exact q)
  have hW := hN.1
  refine W.widen (k := 26) (n := 1444) (by omega) (by omega) ?_
  refine zn_putF (Cn := RX3) (T := TX3) (N := 13) CX hN (v := .ref (a + 25)) ((hfr100 _ (by omega)).trans ((va_up_ne _ _ (by omega)).trans (va_up_self _ _ _))) rfl (fun w h => List.mem_cons_of_mem _ (List.mem_append_left _ (List.mem_append_left _ (List.mem_append_right _ h)))) tyX3 tyX3_ok nmX3 11 (by decide) (List.mem_of_getElem? (i := 23) rfl) rfl rfl hin rfl rfl rfl (Nat.le_of_ble_eq_true rfl) (g := va_up g100 a (.inr (3, [.int (zI 0), .int (zI 0), .int (zI (-1)), .ref (a + 1), .ref (a + 16), .ref (a + 17), .ref (a + 18), .ref (a + 19), .ref (a + 20), .ref (a + 21), .ref (a + 23), .ref (a + 25), .int (zI 0)]))) rfl dX3_init_103 (fun H locs hN => ?_)
  have hW := hN.1
  refine lv_aload_n hX0 hB0 dX3_init_106 rfl (lv_at hl 0 rfl) ?_
  refine lv_iconst (v := zI 0) hX0 hB0 dX3_init_107 rfl ?_
  refine zn_put (Cn := RX3) (T := TX3) (N := 13) CX hN (v := .int (zI 0)) (va_up_self _ _ _) rfl (fun w h => List.mem_cons_of_mem _ (List.mem_append_left _ (List.mem_append_left _ (List.mem_append_right _ h)))) tyX3 tyX3_ok nmX3 12 (by decide) (List.mem_of_getElem? (i := 24) rfl) rfl rfl rfl rfl (Nat.le_of_ble_eq_true rfl) (g := va_up g100 a (.inr (3, [.int (zI 0), .int (zI 0), .int (zI (-1)), .ref (a + 1), .ref (a + 16), .ref (a + 17), .ref (a + 18), .ref (a + 19), .ref (a + 20), .ref (a + 21), .ref (a + 23), .ref (a + 25), .int (zI 0)]))) va_up_up dX3_init_108 (fun H locs hN => ?_)
  have hW := hN.1
  refine lv_iconst (v := zI 0) hX0 hB0 dX3_init_111 rfl ?_
  refine lv_istore_n (lv' := [(1, .int (zI 0)), (0, .ref a)]) hX0 hB0 dX3_init_112 rfl hl (by decide) rfl (fun ls hl => ?_)
  have hL113 : ∀ (fu : Nat) (k : Int) (g : Nat → va_E), (0 ≤ k ∧ k ≤ 41 ∧ zFr f g a (a + 191) ∧ zReader0 cI cP cZ g a ∧ g (a + 17) = zAR cP 41 (fun j => if j < k.toNat then some (a + 27 + 4 * j) else none) ∧ g (a + 18) = zAR cP 41 (fun j => if j < k.toNat then some (a + 29 + 4 * j) else none) ∧ ∀ j : Nat, (j : Int) < k → zPoly cI g (a + 27 + 4 * j) (zone 0) ∧ zPoly cI g (a + 29 + 4 * j) (zone 0)) → (41 - k).toNat < fu → ∀ (H : Heap) (locs : List Loc) (ls : Array Slot), zN D (zT cI cJ cZ cP cS cM) L (zQ L (a + 1)) st g st.heap H locs (a + 1) (4 * k.toNat + 26) → lv_has ls 2 [(1, .int (zI k)), (0, .ref a)] → W pg l en ({ frames := 3, cells := 190, slots := 3576, locals := 53 } : Room) st mi ag bl mt cd H locs (4 * k.toNat + 26) (52 * k.toNat + 1444) Q (F0 mi 113 ls []) := by
    intro fu
    induction fu with
    | zero => intro k g _ hfu; exact absurd hfu (Nat.not_lt_zero _)
    | succ fu ih113 =>
      intro k g hinv113 hfu113 H locs ls hN hl
      have hW := hN.1
      obtain ⟨hk0, hk1, hfr, hg0, hg1, hg2, hgp⟩ := hinv113
      refine lv_iload_n hX0 hB0 dX3_init_113 rfl (lv_at hl 0 rfl) ?_
      refine lv_bipush (v := zI 40) hX0 hB0 dX3_init_114 (by decide) ?_
      refine z_icmp_gt (tgt := 151) CX dX3_init_116 (by decide) (by constructor <;> omega) (by constructor <;> omega) (fun c_116 => ?_) (fun c_116 => ?_)
      ·
        have hN : zN D (zT cI cJ cZ cP cS cM) L (zQ L (a + 1)) st (va_up (va_up g (a + 17) (zAR cP 41 (fun j => some (a + 27 + 4 * j)))) (a + 18) (zAR cP 41 (fun j => some (a + 29 + 4 * j)))) st.heap H locs (a + 1) (4 * k.toNat + 26) := ⟨(hN.1.re hg1 (zcell_q (fun j hj => if_pos (by omega)))).re ((va_up_ne _ _ (by omega)).trans hg2) (zcell_q (fun j hj => if_pos (by omega))), hN.2⟩
        rw [← hQ]
        have hN := hN
        rw [show 4 * k.toNat + 26 = 190 by omega] at hN
        refine W.widen (k := 190) (n := 3576) (by omega) (by omega) ?_
        exact zn_vret CX hN (by exact ⟨(hfr.up (by omega)).up (by omega), (hg0.fr (zFr.refl.up (lo := a + 17) (hi := a + 18) (by omega)) (by omega)).fr (zFr.refl.up (lo := a + 18) (hi := a + 19) (by omega)) (by omega), (va_up_ne _ _ (by omega)).trans (va_up_self _ _ _), va_up_self _ _ _, fun j hj => ⟨((hgp j (by omega)).1.fr (zFr.refl.up (lo := a + 17) (hi := a + 18) (by omega)) (by omega)).fr (zFr.refl.up (lo := a + 18) (hi := a + 19) (by omega)) (by omega), ((hgp j (by omega)).2.fr (zFr.refl.up (lo := a + 17) (hi := a + 18) (by omega)) (by omega)).fr (zFr.refl.up (lo := a + 18) (hi := a + 19) (by omega)) (by omega)⟩⟩) dX3_init_151
      ·
        refine lv_aload_n hX0 hB0 dX3_init_119 rfl (lv_at hl 1 rfl) ?_
        refine z_get (Cn := RX3) (T := TX3) (N := 13) CX hW (v := .ref (a + 17)) hg0.1 rfl (fun w h => List.mem_cons_of_mem _ (List.mem_append_left _ (List.mem_append_left _ (List.mem_append_right _ h)))) 5 (by decide) (List.mem_of_getElem? (i := 14) rfl) rfl rfl dX3_init_120 ?_
        refine lv_iload_n hX0 hB0 dX3_init_123 rfl (lv_at hl 0 rfl) ?_
        refine zn_new (ci := 2) (fs := [.null]) CX hN (fun w h => List.mem_cons_of_mem _ (List.mem_append_right _ h)) tyX2 tyX2_ok (List.mem_of_getElem? (i := 13) rfl) (List.mem_of_getElem? (i := 19) rfl) (List.mem_of_getElem? (i := 20) rfl) rfl (fun j hj => by rcases (show j = 0 by omega) with rfl <;> rfl) (by show _ ≤ 190; omega) (by show _ ≤ 3576; omega) dX3_init_124 (fun H hN => ?_)
        have hN : zN D (zT cI cJ cZ cP cS cM) L (zQ L (a + 1)) st (va_up g (a + 1 + (4 * k.toNat + 26)) (.inr (2, [.null]))) st.heap H locs (a + 1) (4 * k.toNat + 27) := by have q := hN; first | exact q | (rw [show (4 * k.toNat + 26) + 1 = 4 * k.toNat + 27 by omega] at q; exact q)
        have hW := hN.1
        refine W.widen (k := 4 * k.toNat + 27) (n := 52 * k.toNat + 1445) (by omega) (by omega) ?_
        refine lv_dup hX0 hB0 dX3_init_127 rfl ?_
        refine zn_callv hN (va_runIN (As := []) (rest := [.ref (a + 1 + (4 * k.toNat + 26)), .int (zI k), .ref (a + 17)]) CX.fix (c_Poly_init l (f := va_up g (a + 1 + (4 * k.toNat + 26)) (.inr (2, [.null]))) (a + 1 + (4 * k.toNat + 26)) (va_up_self _ _ _)) ⟨va_cnB (own := RX3) (host := "CurveMeets") (index := 48) 0 CX.fix.2.2.2.2 ggX3_init_X2_init rfl rfl rfl (CX.2.2.2.2.2.2.2.1 _ (by decide +kernel)) (CX.at (List.mem_of_getElem? (i := 20) rfl)) (by decide +kernel) ⟨Nat.le_of_ble_eq_true rfl, Nat.le_of_ble_eq_true rfl⟩, rfl, CX.at (List.mem_of_getElem? (i := 34) rfl)⟩ (hN.2 ▸ (z_preS CX hW (As := [.ref (a + 1 + (4 * k.toNat + 26))]))) rfl rfl hl.1 rfl (lv_room (Nat.le_of_ble_eq_true rfl)) dX3_init_128 ⟨by show _ ≤ 190; omega, by show _ ≤ 3576; omega⟩) (fun gn H locs hok128 hN => ?_)
        obtain ⟨g128, eg128⟩ : ∃ q, q = gn := ⟨_, rfl⟩
        rw [← eg128] at hN hok128
        clear eg128
        obtain ⟨hfr128, hp128⟩ := hok128
        have hN : zN D (zT cI cJ cZ cP cS cM) L (zQ L (a + 1)) st g128 st.heap H locs (a + 1) (4 * k.toNat + 28) := by have q := hN; first | exact q | (rw [show (4 * k.toNat + 27) + 1 = 4 * k.toNat + 28 by omega] at q; exact q)
        have hW := hN.1
        refine W.widen (k := 4 * k.toNat + 28) (n := 52 * k.toNat + 1470) (by omega) (by omega) ?_
        refine zn_aast (r := (RX2, TX2, 1)) CX hN ((hfr128 _ (by omega)).trans ((va_up_ne _ _ (by omega)).trans hg1)) 3 rfl hp128.1 rfl (by refine ⟨?_, ?_, ?_⟩ <;> omega) (g := va_up g128 (a + 17) (zAR cP 41 (va_up ((fun j => if j < k.toNat then some (a + 27 + 4 * j) else none)) k.toNat (some (a + 1 + (4 * k.toNat + 26)))))) rfl dX3_init_131 (fun H locs hN => ?_)
        have hW := hN.1
        refine lv_aload_n hX0 hB0 dX3_init_132 rfl (lv_at hl 1 rfl) ?_
        refine z_get (Cn := RX3) (T := TX3) (N := 13) CX hW (v := .ref (a + 18)) ((va_up_ne _ _ (by omega)).trans ((hfr128 _ (by omega)).trans ((va_up_ne _ _ (by omega)).trans hg0.1))) rfl (fun w h => List.mem_cons_of_mem _ (List.mem_append_left _ (List.mem_append_left _ (List.mem_append_right _ h)))) 6 (by decide) (List.mem_of_getElem? (i := 15) rfl) rfl rfl dX3_init_133 ?_
        refine lv_iload_n hX0 hB0 dX3_init_136 rfl (lv_at hl 0 rfl) ?_
        refine zn_new (ci := 2) (fs := [.null]) CX hN (fun w h => List.mem_cons_of_mem _ (List.mem_append_right _ h)) tyX2 tyX2_ok (List.mem_of_getElem? (i := 13) rfl) (List.mem_of_getElem? (i := 19) rfl) (List.mem_of_getElem? (i := 20) rfl) rfl (fun j hj => by rcases (show j = 0 by omega) with rfl <;> rfl) (by show _ ≤ 190; omega) (by show _ ≤ 3576; omega) dX3_init_137 (fun H hN => ?_)
        have hN : zN D (zT cI cJ cZ cP cS cM) L (zQ L (a + 1)) st (va_up (va_up g128 (a + 17) (zAR cP 41 (va_up ((fun j => if j < k.toNat then some (a + 27 + 4 * j) else none)) k.toNat (some (a + 1 + (4 * k.toNat + 26)))))) (a + 1 + (4 * k.toNat + 28)) (.inr (2, [.null]))) st.heap H locs (a + 1) (4 * k.toNat + 29) := by have q := hN; first | exact q | (rw [show (4 * k.toNat + 28) + 1 = 4 * k.toNat + 29 by omega] at q; exact q)
        have hW := hN.1
        refine W.widen (k := 4 * k.toNat + 29) (n := 52 * k.toNat + 1471) (by omega) (by omega) ?_
        refine lv_dup hX0 hB0 dX3_init_140 rfl ?_
        refine zn_callv hN (va_runIN (As := []) (rest := [.ref (a + 1 + (4 * k.toNat + 28)), .int (zI k), .ref (a + 18)]) CX.fix (c_Poly_init l (f := va_up (va_up g128 (a + 17) (zAR cP 41 (va_up ((fun j => if j < k.toNat then some (a + 27 + 4 * j) else none)) k.toNat (some (a + 1 + (4 * k.toNat + 26)))))) (a + 1 + (4 * k.toNat + 28)) (.inr (2, [.null]))) (a + 1 + (4 * k.toNat + 28)) (va_up_self _ _ _)) ⟨va_cnB (own := RX3) (host := "CurveMeets") (index := 48) 0 CX.fix.2.2.2.2 ggX3_init_X2_init rfl rfl rfl (CX.2.2.2.2.2.2.2.1 _ (by decide +kernel)) (CX.at (List.mem_of_getElem? (i := 20) rfl)) (by decide +kernel) ⟨Nat.le_of_ble_eq_true rfl, Nat.le_of_ble_eq_true rfl⟩, rfl, CX.at (List.mem_of_getElem? (i := 34) rfl)⟩ (hN.2 ▸ (z_preS CX hW (As := [.ref (a + 1 + (4 * k.toNat + 28))]))) rfl rfl hl.1 rfl (lv_room (Nat.le_of_ble_eq_true rfl)) dX3_init_141 ⟨by show _ ≤ 190; omega, by show _ ≤ 3576; omega⟩) (fun gn H locs hok141 hN => ?_)
        obtain ⟨g141, eg141⟩ : ∃ q, q = gn := ⟨_, rfl⟩
        rw [← eg141] at hN hok141
        clear eg141
        obtain ⟨hfr141, hp141⟩ := hok141
        have hN : zN D (zT cI cJ cZ cP cS cM) L (zQ L (a + 1)) st g141 st.heap H locs (a + 1) (4 * k.toNat + 30) := by have q := hN; first | exact q | (rw [show (4 * k.toNat + 29) + 1 = 4 * k.toNat + 30 by omega] at q; exact q)
        have hW := hN.1
        refine W.widen (k := 4 * k.toNat + 30) (n := 52 * k.toNat + 1496) (by omega) (by omega) ?_
        refine zn_aast (r := (RX2, TX2, 1)) CX hN ((hfr141 _ (by omega)).trans ((va_up_ne _ _ (by omega)).trans ((va_up_ne _ _ (by omega)).trans ((hfr128 _ (by omega)).trans ((va_up_ne _ _ (by omega)).trans hg2))))) 3 rfl hp141.1 rfl (by refine ⟨?_, ?_, ?_⟩ <;> omega) (g := va_up g141 (a + 18) (zAR cP 41 (va_up ((fun j => if j < k.toNat then some (a + 29 + 4 * j) else none)) k.toNat (some (a + 1 + (4 * k.toNat + 28)))))) rfl dX3_init_144 (fun H locs hN => ?_)
        have hW := hN.1
        refine lv_iinc (v := zI (k + 1)) (lv' := [(1, .int (zI (k + 1))), (0, .ref a)]) hX0 hB0 dX3_init_145 hl (k := 0) rfl (zI_add _ _) (by decide) rfl (fun ls hl => ?_)
        refine lv_goto (tgt := 113) hX0 hB0 dX3_init_148 (by decide) ?_
        refine W.widen (k := 4 * (k + 1).toNat + 26) (n := 52 * (k + 1).toNat + 1444) (by omega) (by omega) ?_
        have hN := hN
        rw [show 4 * k.toNat + 30 = 4 * (k + 1).toNat + 26 by omega] at hN
        exact ih113 (k + 1) (va_up g141 (a + 18) (zAR cP 41 (va_up ((fun j => if j < k.toNat then some (a + 29 + 4 * j) else none)) k.toNat (some (a + 1 + (4 * k.toNat + 28)))))) ⟨by omega, by omega, ((((((hfr.up (a := a + 1 + (4 * k.toNat + 26)) (x := .inr (2, [.null])) (by omega)).trans (hfr128.wide (by omega) (by omega))).up (by omega)).up (a := a + 1 + (4 * k.toNat + 28)) (x := .inr (2, [.null])) (by omega)).trans (hfr141.wide (by omega) (by omega))).up (by omega)), hg0.same (fun b h1 h2 h3 h4 => ((va_up_ne _ _ (by omega)).trans ((hfr141 _ (by omega)).trans ((va_up_ne _ _ (by omega)).trans ((va_up_ne _ _ (by omega)).trans ((hfr128 _ (by omega)).trans ((va_up_ne _ _ (by omega)).trans rfl))))))), (by rw [((va_up_ne _ _ (by omega)).trans ((hfr141 _ (by omega)).trans ((va_up_ne _ _ (by omega)).trans (va_up_self _ _ _)))), zrk4 hk0 (by omega)]), (by rw [(va_up_self _ _ _), zrk4 hk0 (by omega)]), fun j hj => by
          by_cases e : j = k.toNat
          · rw [e, show a + 27 + 4 * k.toNat = a + 1 + (4 * k.toNat + 26) by omega, show a + 29 + 4 * k.toNat = a + 1 + (4 * k.toNat + 28) by omega]; exact ⟨⟨((va_up_ne _ _ (by omega)).trans ((hfr141 _ (by omega)).trans ((va_up_ne _ _ (by omega)).trans ((va_up_ne _ _ (by omega)).trans hp128.1)))), ((va_up_ne _ _ (by omega)).trans ((hfr141 _ (by omega)).trans ((va_up_ne _ _ (by omega)).trans ((va_up_ne _ _ (by omega)).trans hp128.2))))⟩, ⟨((va_up_ne _ _ (by omega)).trans hp141.1), ((va_up_ne _ _ (by omega)).trans hp141.2)⟩⟩
          · exact ⟨(hgp j (by omega)).1.same ((va_up_ne _ _ (by omega)).trans ((hfr141 _ (by omega)).trans ((va_up_ne _ _ (by omega)).trans ((va_up_ne _ _ (by omega)).trans ((hfr128 _ (by omega)).trans ((va_up_ne _ _ (by omega)).trans rfl)))))) ((va_up_ne _ _ (by omega)).trans ((hfr141 _ (by omega)).trans ((va_up_ne _ _ (by omega)).trans ((va_up_ne _ _ (by omega)).trans ((hfr128 _ (by omega)).trans ((va_up_ne _ _ (by omega)).trans rfl)))))), (hgp j (by omega)).2.same ((va_up_ne _ _ (by omega)).trans ((hfr141 _ (by omega)).trans ((va_up_ne _ _ (by omega)).trans ((va_up_ne _ _ (by omega)).trans ((hfr128 _ (by omega)).trans ((va_up_ne _ _ (by omega)).trans rfl)))))) ((va_up_ne _ _ (by omega)).trans ((hfr141 _ (by omega)).trans ((va_up_ne _ _ (by omega)).trans ((va_up_ne _ _ (by omega)).trans ((hfr128 _ (by omega)).trans ((va_up_ne _ _ (by omega)).trans rfl))))))⟩⟩ (by omega) H locs ls hN (lv_sub hl [0, 1] rfl)
  refine W.widen (k := 4 * (0 : Int).toNat + 26) (n := 52 * (0 : Int).toNat + 1444) (by omega) (by omega) ?_
  have hN := hN
  rw [show 26 = 4 * (0 : Int).toNat + 26 by omega] at hN
  exact hL113 _ 0 (va_up g100 a (.inr (3, [.int (zI 0), .int (zI 0), .int (zI (-1)), .ref (a + 1), .ref (a + 16), .ref (a + 17), .ref (a + 18), .ref (a + 19), .ref (a + 20), .ref (a + 21), .ref (a + 23), .ref (a + 25), .int (zI 0)]))) ⟨by omega, by omega, (((((((((((((((((((zFr.refl (lo := a) (hi := a + 191)).up (by omega)).up (a := a + 1) (x := .inr (7, [.int (zI 0), .int (zI 0), .null, .null])) (by omega)).trans (hfr24.wide (by omega) (by omega))).up (by omega)).up (by omega)).up (by omega)).up (by omega)).up (by omega)).up (by omega)).up (a := a + 21) (x := .inr (2, [.null])) (by omega)).trans (hfr78.wide (by omega) (by omega))).up (by omega)).up (a := a + 23) (x := .inr (2, [.null])) (by omega)).trans (hfr89.wide (by omega) (by omega))).up (by omega)).up (a := a + 25) (x := .inr (2, [.null])) (by omega)).trans (hfr100.wide (by omega) (by omega))).up (by omega)), ⟨(va_up_self _ _ _), hp24.same (fun b h1 h2 => ((va_up_ne _ _ (by omega)).trans ((hfr100 _ (by omega)).trans ((va_up_ne _ _ (by omega)).trans ((va_up_ne _ _ (by omega)).trans ((hfr89 _ (by omega)).trans ((va_up_ne _ _ (by omega)).trans ((va_up_ne _ _ (by omega)).trans ((hfr78 _ (by omega)).trans ((va_up_ne _ _ (by omega)).trans ((va_up_ne _ _ (by omega)).trans ((va_up_ne _ _ (by omega)).trans ((va_up_ne _ _ (by omega)).trans ((va_up_ne _ _ (by omega)).trans ((va_up_ne _ _ (by omega)).trans ((va_up_ne _ _ (by omega)).trans rfl)))))))))))))))), ((va_up_ne _ _ (by omega)).trans ((hfr100 _ (by omega)).trans ((va_up_ne _ _ (by omega)).trans ((va_up_ne _ _ (by omega)).trans ((hfr89 _ (by omega)).trans ((va_up_ne _ _ (by omega)).trans ((va_up_ne _ _ (by omega)).trans ((hfr78 _ (by omega)).trans ((va_up_ne _ _ (by omega)).trans ((va_up_ne _ _ (by omega)).trans ((va_up_ne _ _ (by omega)).trans ((va_up_ne _ _ (by omega)).trans ((va_up_ne _ _ (by omega)).trans (va_up_self _ _ _)))))))))))))), ((va_up_ne _ _ (by omega)).trans ((hfr100 _ (by omega)).trans ((va_up_ne _ _ (by omega)).trans ((va_up_ne _ _ (by omega)).trans ((hfr89 _ (by omega)).trans ((va_up_ne _ _ (by omega)).trans ((va_up_ne _ _ (by omega)).trans ((hfr78 _ (by omega)).trans ((va_up_ne _ _ (by omega)).trans ((va_up_ne _ _ (by omega)).trans (va_up_self _ _ _))))))))))), ((va_up_ne _ _ (by omega)).trans ((hfr100 _ (by omega)).trans ((va_up_ne _ _ (by omega)).trans ((va_up_ne _ _ (by omega)).trans ((hfr89 _ (by omega)).trans ((va_up_ne _ _ (by omega)).trans ((va_up_ne _ _ (by omega)).trans ((hfr78 _ (by omega)).trans ((va_up_ne _ _ (by omega)).trans (va_up_self _ _ _)))))))))), ⟨((va_up_ne _ _ (by omega)).trans ((hfr100 _ (by omega)).trans ((va_up_ne _ _ (by omega)).trans ((va_up_ne _ _ (by omega)).trans ((hfr89 _ (by omega)).trans ((va_up_ne _ _ (by omega)).trans ((va_up_ne _ _ (by omega)).trans hp78.1))))))), ((va_up_ne _ _ (by omega)).trans ((hfr100 _ (by omega)).trans ((va_up_ne _ _ (by omega)).trans ((va_up_ne _ _ (by omega)).trans ((hfr89 _ (by omega)).trans ((va_up_ne _ _ (by omega)).trans ((va_up_ne _ _ (by omega)).trans hp78.2)))))))⟩, ⟨((va_up_ne _ _ (by omega)).trans ((hfr100 _ (by omega)).trans ((va_up_ne _ _ (by omega)).trans ((va_up_ne _ _ (by omega)).trans hp89.1)))), ((va_up_ne _ _ (by omega)).trans ((hfr100 _ (by omega)).trans ((va_up_ne _ _ (by omega)).trans ((va_up_ne _ _ (by omega)).trans hp89.2))))⟩, ⟨((va_up_ne _ _ (by omega)).trans hp100.1), ((va_up_ne _ _ (by omega)).trans hp100.2)⟩⟩, (by rw [((va_up_ne _ _ (by omega)).trans ((hfr100 _ (by omega)).trans ((va_up_ne _ _ (by omega)).trans ((va_up_ne _ _ (by omega)).trans ((hfr89 _ (by omega)).trans ((va_up_ne _ _ (by omega)).trans ((va_up_ne _ _ (by omega)).trans ((hfr78 _ (by omega)).trans ((va_up_ne _ _ (by omega)).trans ((va_up_ne _ _ (by omega)).trans ((va_up_ne _ _ (by omega)).trans ((va_up_ne _ _ (by omega)).trans (va_up_self _ _ _)))))))))))))]; congr 6), (by rw [((va_up_ne _ _ (by omega)).trans ((hfr100 _ (by omega)).trans ((va_up_ne _ _ (by omega)).trans ((va_up_ne _ _ (by omega)).trans ((hfr89 _ (by omega)).trans ((va_up_ne _ _ (by omega)).trans ((va_up_ne _ _ (by omega)).trans ((hfr78 _ (by omega)).trans ((va_up_ne _ _ (by omega)).trans ((va_up_ne _ _ (by omega)).trans ((va_up_ne _ _ (by omega)).trans (va_up_self _ _ _))))))))))))]; congr 6), fun j hj => by omega⟩ (Nat.lt_succ_self _) H locs ls hN (lv_sub hl [0, 1] rfl)
/-- a maker at a, as it is made, but for its rows of polynomials -/
def zMaker0 (cI : ClassId) (g : Nat → va_E) (a : Nat) : Prop :=
  g a = .inr (0, [.ref (a + 1), .ref (a + 3), .ref (a + 4), .ref (a + 5), .ref (a + 6), .ref (a + 8), .ref (a + 10), .ref (a + 12), .ref (a + 13), .int (zI 7)]) ∧
  zPoly cI g (a + 1) (zone 0) ∧ zPoly cI g (a + 6) (zone 0) ∧ zPoly cI g (a + 8) (zone 0) ∧ zPoly cI g (a + 10) (zone 0) ∧ g (a + 12) = .inr (9, [.int (zI 0), .int (zI 0), .int (zI 1)]) ∧ g (a + 13) = .inr (9, [.int (zI 0), .int (zI 0), .int (zI 1)])
theorem zMaker0.same {cI : ClassId} {f g : Nat → va_E} {a : Nat} (h : zMaker0 cI f a) (hs : ∀ b, a ≤ b → b < a + 14 → b ≠ a + 3 → b ≠ a + 4 → b ≠ a + 5 → g b = f b) : zMaker0 cI g a := by
  have q : ∀ i, i < 14 → i ≠ 3 → i ≠ 4 → i ≠ 5 → g (a + i) = f (a + i) := fun i h0 h1 h2 h3 => hs _ (by omega) (by omega) (by omega) (by omega) (by omega)
  exact ⟨(q 0 (by omega) (by omega) (by omega) (by omega)).trans h.1, h.2.1.same (q 1 (by omega) (by omega) (by omega) (by omega)) (q 2 (by omega) (by omega) (by omega) (by omega)), h.2.2.1.same (q 6 (by omega) (by omega) (by omega) (by omega)) (q 7 (by omega) (by omega) (by omega) (by omega)), h.2.2.2.1.same (q 8 (by omega) (by omega) (by omega) (by omega)) (q 9 (by omega) (by omega) (by omega) (by omega)), h.2.2.2.2.1.same (q 10 (by omega) (by omega) (by omega) (by omega)) (q 11 (by omega) (by omega) (by omega) (by omega)), (q 12 (by omega) (by omega) (by omega) (by omega)).trans h.2.2.2.2.2.1, (q 13 (by omega) (by omega) (by omega) (by omega)).trans h.2.2.2.2.2.2⟩
set_option maxRecDepth 100000 in
set_option maxHeartbeats 4000000 in
/-- Maker() -/
theorem c_Maker_init (l : Launch) {D : va_G} {cI cJ cZ cP cS cM : ClassId} {L : List Nat} {f : Nat → va_E} (a : Nat) (hf0 : f a = .inr (0, [.null, .null, .null, .null, .null, .null, .null, .null, .null, .int (zI 0)])) : zMn l yX0_init wsX0_init 2 32 45 542 D (zT cI cJ cZ cP cS cM) L (a + 1) f [.ref a] (fun g => zFr f g a (a + 46) ∧ zMaker0 cI g a ∧ g (a + 3) = zAR cP 5 (fun k => some (a + 14 + 4 * k)) ∧ g (a + 4) = zAR cP 5 (fun k => some (a + 16 + 4 * k)) ∧ g (a + 5) = zAR cP 6 (fun k => some (a + 34 + 2 * k)) ∧ (∀ k, k < 5 → zPoly cI g (a + 14 + 4 * k) (zone 0) ∧ zPoly cI g (a + 16 + 4 * k) (zone 0)) ∧ ∀ k, k < 6 → zPoly cI g (a + 34 + 2 * k) (zone 0)) := by
  refine zNew.met (nL := 2) (ret := none) (cc := cX0_init) (by decide) rfl (Nat.le_of_ble_eq_true rfl) ?_
  intro pg en st mi ag bl mt cd ls CX hin hN hl
  have CX : zC pg st mi ag mt cd cX0_init 2 none RX0 wsX0_init := CX
  generalize hQ : MQ bl _ ag st 45 542 _ = Q
  have hX0 := CX.1
  have hB0 := CX.2.1
  have hl : lv_has ls 2 [(0, .ref a)] := hl
  obtain ⟨H, eH⟩ : ∃ H, H = st.heap := ⟨_, rfl⟩
  obtain ⟨locs, eL⟩ : ∃ L : List Loc, L = [] := ⟨_, rfl⟩
  have hN : zN D (zT cI cJ cZ cP cS cM) L (zQ L (a + 1)) st f st.heap H locs (a + 1) 0 := by rw [eH, eL]; exact hN
  have hW := hN.1
  suffices hgo : W pg l en ({ frames := 2, cells := 45, slots := 542, locals := 32 } : Room) st mi ag bl mt cd H locs 0 0 Q (F0 mi 0 ls []) by rw [eH, eL] at hgo; exact hgo
  clear eH eL
  refine lv_aload_n hX0 hB0 dX0_init_0 rfl (lv_at hl 0 rfl) ?_
  refine W.objInit hX0 hB0 CX.2.2.2.1 (CX.at (List.mem_of_getElem? (i := 1) rfl)) (CX.at (List.mem_of_getElem? (i := 2) rfl)) (CX.at (List.mem_of_getElem? (i := 3) rfl)) rfl (by rw [CX.2.2.1]; exact hl.1) rfl dX0_init_1 (Nat.le_of_ble_eq_true rfl) (Nat.le_of_ble_eq_true rfl) ?_
  refine W.eq (g2 := F0 mi 4 ls []) rfl ?_
  refine lv_aload_n hX0 hB0 dX0_init_4 rfl (lv_at hl 0 rfl) ?_
  refine zn_new (ci := 2) (fs := [.null]) CX hN (fun w h => List.mem_cons_of_mem _ (List.mem_append_left _ (List.mem_append_left _ (List.mem_append_right _ h)))) tyX2 tyX2_ok (List.mem_of_getElem? (i := 4) rfl) (List.mem_of_getElem? (i := 5) rfl) (List.mem_of_getElem? (i := 6) rfl) rfl (fun j hj => by rcases (show j = 0 by omega) with rfl <;> rfl) (by show _ ≤ 45; omega) (by show _ ≤ 542; omega) dX0_init_5 (fun H hN => ?_)
  have hN : zN D (zT cI cJ cZ cP cS cM) L (zQ L (a + 1)) st (va_up f (a + 1) (.inr (2, [.null]))) st.heap H locs (a + 1) 1 := by have q := hN; first | exact q | (rw [show 0 + 1 = 1 by omega] at q; exact q)
  have hW := hN.1
  refine W.widen (k := 1) (n := 1) (by omega) (by omega) ?_
  refine lv_dup hX0 hB0 dX0_init_8 rfl ?_
  refine zn_callv hN (va_runIN (As := []) (rest := [.ref (a + 1), .ref a]) CX.fix (c_Poly_init l (f := va_up f (a + 1) (.inr (2, [.null]))) (a + 1) (va_up_self _ _ _)) ⟨va_cnB (own := RX0) (host := "CurveMeets") (index := 11) 0 CX.fix.2.2.2.2 ggX0_init_X2_init rfl rfl rfl (CX.2.2.2.2.2.2.2.1 _ (by decide +kernel)) (CX.at (List.mem_of_getElem? (i := 6) rfl)) (by decide +kernel) ⟨Nat.le_of_ble_eq_true rfl, Nat.le_of_ble_eq_true rfl⟩, rfl, CX.at (List.mem_of_getElem? (i := 20) rfl)⟩ (hN.2 ▸ (z_preS CX hW (As := [.ref (a + 1)]))) rfl rfl hl.1 rfl (lv_room (Nat.le_of_ble_eq_true rfl)) dX0_init_9 ⟨by show _ ≤ 45; omega, by show _ ≤ 542; omega⟩) (fun gn H locs hok9 hN => ?_)
  obtain ⟨g9, eg9⟩ : ∃ q, q = gn := ⟨_, rfl⟩
  rw [← eg9] at hN hok9
  clear eg9
  obtain ⟨hfr9, hp9⟩ := hok9
  have hN : zN D (zT cI cJ cZ cP cS cM) L (zQ L (a + 1)) st g9 st.heap H locs (a + 1) 2 := by have q := hN; first | exact q | (rw [show 1 + 1 = 2 by omega] at q; exact q)
  have hW := hN.1
  refine W.widen (k := 2) (n := 26) (by omega) (by omega) ?_
  refine zn_putF (Cn := RX0) (T := TX0) (N := 10) CX hN (v := .ref (a + 1)) ((hfr9 _ (by omega)).trans ((va_up_ne _ _ (by omega)).trans hf0)) rfl (fun w h => List.mem_cons_of_mem _ (List.mem_append_left _ (List.mem_append_right _ h))) tyX0 tyX0_ok nmX0 0 (by decide) (List.mem_of_getElem? (i := 7) rfl) rfl rfl hin rfl rfl rfl (Nat.le_of_ble_eq_true rfl) (g := va_up g9 a (.inr (0, [.ref (a + 1), .null, .null, .null, .null, .null, .null, .null, .null, .int (zI 0)]))) rfl dX0_init_12 (fun H locs hN => ?_)
  have hW := hN.1
  refine lv_aload_n hX0 hB0 dX0_init_15 rfl (lv_at hl 0 rfl) ?_
  refine lv_iconst (v := zI 5) hX0 hB0 dX0_init_16 rfl ?_
  refine zn_newq (cy := cP) (N' := 5) CX hN (List.mem_of_getElem? (i := 4) rfl) CX.2.2.2.2.2.2.2.2.1 3 rfl (by omega) rfl (by decide) (by show _ ≤ 45; omega) (by show _ ≤ 542; omega) dX0_init_17 (fun H hN => ?_)
  have hN : zN D (zT cI cJ cZ cP cS cM) L (zQ L (a + 1)) st (va_up (va_up g9 a (.inr (0, [.ref (a + 1), .null, .null, .null, .null, .null, .null, .null, .null, .int (zI 0)]))) (a + 3) (zAR cP 5 ((fun _ => none)))) st.heap H locs (a + 1) 3 := by have q := hN; first | exact q | (rw [show 2 + 1 = 3 by omega] at q; exact q)
  have hW := hN.1
  refine W.widen (k := 3) (n := 31) (by omega) (by omega) ?_
  refine zn_putF (Cn := RX0) (T := TX0) (N := 10) CX hN (v := .ref (a + 3)) ((va_up_ne _ _ (by omega)).trans (va_up_self _ _ _)) rfl (fun w h => List.mem_cons_of_mem _ (List.mem_append_left _ (List.mem_append_right _ h))) tyX0 tyX0_ok nmX0 1 (by decide) (List.mem_of_getElem? (i := 8) rfl) rfl rfl hin rfl rfl rfl (Nat.le_of_ble_eq_true rfl) (g := va_up (va_up g9 a (.inr (0, [.ref (a + 1), .ref (a + 3), .null, .null, .null, .null, .null, .null, .null, .int (zI 0)]))) (a + 3) (zAR cP 5 ((fun _ => none)))) (by rw [va_up_comm (a := (a + 3)) (b := a) (by omega), va_up_up]; try rfl) dX0_init_20 (fun H locs hN => ?_)
  have hW := hN.1
  refine lv_aload_n hX0 hB0 dX0_init_23 rfl (lv_at hl 0 rfl) ?_
  refine lv_iconst (v := zI 5) hX0 hB0 dX0_init_24 rfl ?_
  refine zn_newq (cy := cP) (N' := 5) CX hN (List.mem_of_getElem? (i := 4) rfl) CX.2.2.2.2.2.2.2.2.1 3 rfl (by omega) rfl (by decide) (by show _ ≤ 45; omega) (by show _ ≤ 542; omega) dX0_init_25 (fun H hN => ?_)
  have hN : zN D (zT cI cJ cZ cP cS cM) L (zQ L (a + 1)) st (va_up (va_up (va_up g9 a (.inr (0, [.ref (a + 1), .ref (a + 3), .null, .null, .null, .null, .null, .null, .null, .int (zI 0)]))) (a + 3) (zAR cP 5 ((fun _ => none)))) (a + 4) (zAR cP 5 ((fun _ => none)))) st.heap H locs (a + 1) 4 := by have q := hN; first | exact q | (rw [show 3 + 1 = 4 by omega] at q; exact q)
  have hW := hN.1
  refine W.widen (k := 4) (n := 36) (by omega) (by omega) ?_
  refine zn_putF (Cn := RX0) (T := TX0) (N := 10) CX hN (v := .ref (a + 4)) ((va_up_ne _ _ (by omega)).trans ((va_up_ne _ _ (by omega)).trans (va_up_self _ _ _))) rfl (fun w h => List.mem_cons_of_mem _ (List.mem_append_left _ (List.mem_append_right _ h))) tyX0 tyX0_ok nmX0 2 (by decide) (List.mem_of_getElem? (i := 9) rfl) rfl rfl hin rfl rfl rfl (Nat.le_of_ble_eq_true rfl) (g := va_up (va_up (va_up g9 a (.inr (0, [.ref (a + 1), .ref (a + 3), .ref (a + 4), .null, .null, .null, .null, .null, .null, .int (zI 0)]))) (a + 3) (zAR cP 5 ((fun _ => none)))) (a + 4) (zAR cP 5 ((fun _ => none)))) (by rw [va_up_comm (a := (a + 4)) (b := a) (by omega), va_up_comm (a := (a + 3)) (b := a) (by omega), va_up_up]; try rfl) dX0_init_28 (fun H locs hN => ?_)
  have hW := hN.1
  refine lv_aload_n hX0 hB0 dX0_init_31 rfl (lv_at hl 0 rfl) ?_
  refine lv_bipush (v := zI 6) hX0 hB0 dX0_init_32 (by decide) ?_
  refine zn_newq (cy := cP) (N' := 6) CX hN (List.mem_of_getElem? (i := 4) rfl) CX.2.2.2.2.2.2.2.2.1 3 rfl (by omega) rfl (by decide) (by show _ ≤ 45; omega) (by show _ ≤ 542; omega) dX0_init_34 (fun H hN => ?_)
  have hN : zN D (zT cI cJ cZ cP cS cM) L (zQ L (a + 1)) st (va_up (va_up (va_up (va_up g9 a (.inr (0, [.ref (a + 1), .ref (a + 3), .ref (a + 4), .null, .null, .null, .null, .null, .null, .int (zI 0)]))) (a + 3) (zAR cP 5 ((fun _ => none)))) (a + 4) (zAR cP 5 ((fun _ => none)))) (a + 5) (zAR cP 6 ((fun _ => none)))) st.heap H locs (a + 1) 5 := by have q := hN; first | exact q | (rw [show 4 + 1 = 5 by omega] at q; exact q)
  have hW := hN.1
  refine W.widen (k := 5) (n := 42) (by omega) (by omega) ?_
  refine zn_putF (Cn := RX0) (T := TX0) (N := 10) CX hN (v := .ref (a + 5)) ((va_up_ne _ _ (by omega)).trans ((va_up_ne _ _ (by omega)).trans ((va_up_ne _ _ (by omega)).trans (va_up_self _ _ _)))) rfl (fun w h => List.mem_cons_of_mem _ (List.mem_append_left _ (List.mem_append_right _ h))) tyX0 tyX0_ok nmX0 3 (by decide) (List.mem_of_getElem? (i := 10) rfl) rfl rfl hin rfl rfl rfl (Nat.le_of_ble_eq_true rfl) (g := va_up (va_up (va_up (va_up g9 a (.inr (0, [.ref (a + 1), .ref (a + 3), .ref (a + 4), .ref (a + 5), .null, .null, .null, .null, .null, .int (zI 0)]))) (a + 3) (zAR cP 5 ((fun _ => none)))) (a + 4) (zAR cP 5 ((fun _ => none)))) (a + 5) (zAR cP 6 ((fun _ => none)))) (by rw [va_up_comm (a := (a + 5)) (b := a) (by omega), va_up_comm (a := (a + 4)) (b := a) (by omega), va_up_comm (a := (a + 3)) (b := a) (by omega), va_up_up]; try rfl) dX0_init_37 (fun H locs hN => ?_)
  have hW := hN.1
  refine lv_aload_n hX0 hB0 dX0_init_40 rfl (lv_at hl 0 rfl) ?_
  refine zn_new (ci := 2) (fs := [.null]) CX hN (fun w h => List.mem_cons_of_mem _ (List.mem_append_left _ (List.mem_append_left _ (List.mem_append_right _ h)))) tyX2 tyX2_ok (List.mem_of_getElem? (i := 4) rfl) (List.mem_of_getElem? (i := 5) rfl) (List.mem_of_getElem? (i := 6) rfl) rfl (fun j hj => by rcases (show j = 0 by omega) with rfl <;> rfl) (by show _ ≤ 45; omega) (by show _ ≤ 542; omega) dX0_init_41 (fun H hN => ?_)
  have hN : zN D (zT cI cJ cZ cP cS cM) L (zQ L (a + 1)) st (va_up (va_up (va_up (va_up (va_up g9 a (.inr (0, [.ref (a + 1), .ref (a + 3), .ref (a + 4), .ref (a + 5), .null, .null, .null, .null, .null, .int (zI 0)]))) (a + 3) (zAR cP 5 ((fun _ => none)))) (a + 4) (zAR cP 5 ((fun _ => none)))) (a + 5) (zAR cP 6 ((fun _ => none)))) (a + 6) (.inr (2, [.null]))) st.heap H locs (a + 1) 6 := by have q := hN; first | exact q | (rw [show 5 + 1 = 6 by omega] at q; exact q)
  have hW := hN.1
  refine W.widen (k := 6) (n := 43) (by omega) (by omega) ?_
  refine lv_dup hX0 hB0 dX0_init_44 rfl ?_
  refine zn_callv hN (va_runIN (As := []) (rest := [.ref (a + 6), .ref a]) CX.fix (c_Poly_init l (f := va_up (va_up (va_up (va_up (va_up g9 a (.inr (0, [.ref (a + 1), .ref (a + 3), .ref (a + 4), .ref (a + 5), .null, .null, .null, .null, .null, .int (zI 0)]))) (a + 3) (zAR cP 5 ((fun _ => none)))) (a + 4) (zAR cP 5 ((fun _ => none)))) (a + 5) (zAR cP 6 ((fun _ => none)))) (a + 6) (.inr (2, [.null]))) (a + 6) (va_up_self _ _ _)) ⟨va_cnB (own := RX0) (host := "CurveMeets") (index := 11) 0 CX.fix.2.2.2.2 ggX0_init_X2_init rfl rfl rfl (CX.2.2.2.2.2.2.2.1 _ (by decide +kernel)) (CX.at (List.mem_of_getElem? (i := 6) rfl)) (by decide +kernel) ⟨Nat.le_of_ble_eq_true rfl, Nat.le_of_ble_eq_true rfl⟩, rfl, CX.at (List.mem_of_getElem? (i := 20) rfl)⟩ (hN.2 ▸ (z_preS CX hW (As := [.ref (a + 6)]))) rfl rfl hl.1 rfl (lv_room (Nat.le_of_ble_eq_true rfl)) dX0_init_45 ⟨by show _ ≤ 45; omega, by show _ ≤ 542; omega⟩) (fun gn H locs hok45 hN => ?_)
  obtain ⟨g45, eg45⟩ : ∃ q, q = gn := ⟨_, rfl⟩
  rw [← eg45] at hN hok45
  clear eg45
  obtain ⟨hfr45, hp45⟩ := hok45
  have hN : zN D (zT cI cJ cZ cP cS cM) L (zQ L (a + 1)) st g45 st.heap H locs (a + 1) 7 := by have q := hN; first | exact q | (rw [show 6 + 1 = 7 by omega] at q; exact q)
  have hW := hN.1
  refine W.widen (k := 7) (n := 68) (by omega) (by omega) ?_
  refine zn_putF (Cn := RX0) (T := TX0) (N := 10) CX hN (v := .ref (a + 6)) ((hfr45 _ (by omega)).trans ((va_up_ne _ _ (by omega)).trans ((va_up_ne _ _ (by omega)).trans ((va_up_ne _ _ (by omega)).trans ((va_up_ne _ _ (by omega)).trans (va_up_self _ _ _)))))) rfl (fun w h => List.mem_cons_of_mem _ (List.mem_append_left _ (List.mem_append_right _ h))) tyX0 tyX0_ok nmX0 4 (by decide) (List.mem_of_getElem? (i := 11) rfl) rfl rfl hin rfl rfl rfl (Nat.le_of_ble_eq_true rfl) (g := va_up g45 a (.inr (0, [.ref (a + 1), .ref (a + 3), .ref (a + 4), .ref (a + 5), .ref (a + 6), .null, .null, .null, .null, .int (zI 0)]))) rfl dX0_init_48 (fun H locs hN => ?_)
  have hW := hN.1
  refine lv_aload_n hX0 hB0 dX0_init_51 rfl (lv_at hl 0 rfl) ?_
  refine zn_new (ci := 2) (fs := [.null]) CX hN (fun w h => List.mem_cons_of_mem _ (List.mem_append_left _ (List.mem_append_left _ (List.mem_append_right _ h)))) tyX2 tyX2_ok (List.mem_of_getElem? (i := 4) rfl) (List.mem_of_getElem? (i := 5) rfl) (List.mem_of_getElem? (i := 6) rfl) rfl (fun j hj => by rcases (show j = 0 by omega) with rfl <;> rfl) (by show _ ≤ 45; omega) (by show _ ≤ 542; omega) dX0_init_52 (fun H hN => ?_)
  have hN : zN D (zT cI cJ cZ cP cS cM) L (zQ L (a + 1)) st (va_up (va_up g45 a (.inr (0, [.ref (a + 1), .ref (a + 3), .ref (a + 4), .ref (a + 5), .ref (a + 6), .null, .null, .null, .null, .int (zI 0)]))) (a + 8) (.inr (2, [.null]))) st.heap H locs (a + 1) 8 := by have q := hN; first | exact q | (rw [show 7 + 1 = 8 by omega] at q; exact q)
  have hW := hN.1
  refine W.widen (k := 8) (n := 69) (by omega) (by omega) ?_
  refine lv_dup hX0 hB0 dX0_init_55 rfl ?_
  refine zn_callv hN (va_runIN (As := []) (rest := [.ref (a + 8), .ref a]) CX.fix (c_Poly_init l (f := va_up (va_up g45 a (.inr (0, [.ref (a + 1), .ref (a + 3), .ref (a + 4), .ref (a + 5), .ref (a + 6), .null, .null, .null, .null, .int (zI 0)]))) (a + 8) (.inr (2, [.null]))) (a + 8) (va_up_self _ _ _)) ⟨va_cnB (own := RX0) (host := "CurveMeets") (index := 11) 0 CX.fix.2.2.2.2 ggX0_init_X2_init rfl rfl rfl (CX.2.2.2.2.2.2.2.1 _ (by decide +kernel)) (CX.at (List.mem_of_getElem? (i := 6) rfl)) (by decide +kernel) ⟨Nat.le_of_ble_eq_true rfl, Nat.le_of_ble_eq_true rfl⟩, rfl, CX.at (List.mem_of_getElem? (i := 20) rfl)⟩ (hN.2 ▸ (z_preS CX hW (As := [.ref (a + 8)]))) rfl rfl hl.1 rfl (lv_room (Nat.le_of_ble_eq_true rfl)) dX0_init_56 ⟨by show _ ≤ 45; omega, by show _ ≤ 542; omega⟩) (fun gn H locs hok56 hN => ?_)
  obtain ⟨g56, eg56⟩ : ∃ q, q = gn := ⟨_, rfl⟩
  rw [← eg56] at hN hok56
  clear eg56
  obtain ⟨hfr56, hp56⟩ := hok56
  have hN : zN D (zT cI cJ cZ cP cS cM) L (zQ L (a + 1)) st g56 st.heap H locs (a + 1) 9 := by have q := hN; first | exact q | (rw [show 8 + 1 = 9 by omega] at q; exact q)
  have hW := hN.1
  refine W.widen (k := 9) (n := 94) (by omega) (by omega) ?_
  refine zn_putF (Cn := RX0) (T := TX0) (N := 10) CX hN (v := .ref (a + 8)) ((hfr56 _ (by omega)).trans ((va_up_ne _ _ (by omega)).trans (va_up_self _ _ _))) rfl (fun w h => List.mem_cons_of_mem _ (List.mem_append_left _ (List.mem_append_right _ h))) tyX0 tyX0_ok nmX0 5 (by decide) (List.mem_of_getElem? (i := 12) rfl) rfl rfl hin rfl rfl rfl (Nat.le_of_ble_eq_true rfl) (g := va_up g56 a (.inr (0, [.ref (a + 1), .ref (a + 3), .ref (a + 4), .ref (a + 5), .ref (a + 6), .ref (a + 8), .null, .null, .null, .int (zI 0)]))) rfl dX0_init_59 (fun H locs hN => ?_)
  have hW := hN.1
  refine lv_aload_n hX0 hB0 dX0_init_62 rfl (lv_at hl 0 rfl) ?_
  refine zn_new (ci := 2) (fs := [.null]) CX hN (fun w h => List.mem_cons_of_mem _ (List.mem_append_left _ (List.mem_append_left _ (List.mem_append_right _ h)))) tyX2 tyX2_ok (List.mem_of_getElem? (i := 4) rfl) (List.mem_of_getElem? (i := 5) rfl) (List.mem_of_getElem? (i := 6) rfl) rfl (fun j hj => by rcases (show j = 0 by omega) with rfl <;> rfl) (by show _ ≤ 45; omega) (by show _ ≤ 542; omega) dX0_init_63 (fun H hN => ?_)
  have hN : zN D (zT cI cJ cZ cP cS cM) L (zQ L (a + 1)) st (va_up (va_up g56 a (.inr (0, [.ref (a + 1), .ref (a + 3), .ref (a + 4), .ref (a + 5), .ref (a + 6), .ref (a + 8), .null, .null, .null, .int (zI 0)]))) (a + 10) (.inr (2, [.null]))) st.heap H locs (a + 1) 10 := by have q := hN; first | exact q | (rw [show 9 + 1 = 10 by omega] at q; exact q)
  have hW := hN.1
  refine W.widen (k := 10) (n := 95) (by omega) (by omega) ?_
  refine lv_dup hX0 hB0 dX0_init_66 rfl ?_
  refine zn_callv hN (va_runIN (As := []) (rest := [.ref (a + 10), .ref a]) CX.fix (c_Poly_init l (f := va_up (va_up g56 a (.inr (0, [.ref (a + 1), .ref (a + 3), .ref (a + 4), .ref (a + 5), .ref (a + 6), .ref (a + 8), .null, .null, .null, .int (zI 0)]))) (a + 10) (.inr (2, [.null]))) (a + 10) (va_up_self _ _ _)) ⟨va_cnB (own := RX0) (host := "CurveMeets") (index := 11) 0 CX.fix.2.2.2.2 ggX0_init_X2_init rfl rfl rfl (CX.2.2.2.2.2.2.2.1 _ (by decide +kernel)) (CX.at (List.mem_of_getElem? (i := 6) rfl)) (by decide +kernel) ⟨Nat.le_of_ble_eq_true rfl, Nat.le_of_ble_eq_true rfl⟩, rfl, CX.at (List.mem_of_getElem? (i := 20) rfl)⟩ (hN.2 ▸ (z_preS CX hW (As := [.ref (a + 10)]))) rfl rfl hl.1 rfl (lv_room (Nat.le_of_ble_eq_true rfl)) dX0_init_67 ⟨by show _ ≤ 45; omega, by show _ ≤ 542; omega⟩) (fun gn H locs hok67 hN => ?_)
  obtain ⟨g67, eg67⟩ : ∃ q, q = gn := ⟨_, rfl⟩
  rw [← eg67] at hN hok67
  clear eg67
  obtain ⟨hfr67, hp67⟩ := hok67
  have hN : zN D (zT cI cJ cZ cP cS cM) L (zQ L (a + 1)) st g67 st.heap H locs (a + 1) 11 := by have q := hN; first | exact q | (rw [show 10 + 1 = 11 by omega] at q; exact q)
  have hW := hN.1
  refine W.widen (k := 11) (n := 120) (by omega) (by omega) ?_
  refine zn_putF (Cn := RX0) (T := TX0) (N := 10) CX hN (v := .ref (a + 10)) ((hfr67 _ (by omega)).trans ((va_up_ne _ _ (by omega)).trans (va_up_self _ _ _))) rfl (fun w h => List.mem_cons_of_mem _ (List.mem_append_left _ (List.mem_append_right _ h))) tyX0 tyX0_ok nmX0 6 (by decide) (List.mem_of_getElem? (i := 13) rfl) rfl rfl hin rfl rfl rfl (Nat.le_of_ble_eq_true rfl) (g := va_up g67 a (.inr (0, [.ref (a + 1), .ref (a + 3), .ref (a + 4), .ref (a + 5), .ref (a + 6), .ref (a + 8), .ref (a + 10), .null, .null, .int (zI 0)]))) rfl dX0_init_70 (fun H locs hN => ?_)
  have hW := hN.1
  refine lv_aload_n hX0 hB0 dX0_init_73 rfl (lv_at hl 0 rfl) ?_
  refine zn_new (ci := 9) (fs := [.int (zI 0), .int (zI 0), .int (zI 0)]) CX hN (fun w h => List.mem_cons_of_mem _ (List.mem_append_right _ h)) tyX9 tyX9_ok (List.mem_of_getElem? (i := 14) rfl) (List.mem_of_getElem? (i := 15) rfl) (List.mem_of_getElem? (i := 16) rfl) rfl (fun j hj => by rcases (show j = 0 ∨ j = 1 ∨ j = 2 by omega) with rfl | rfl | rfl <;> rfl) (by show _ ≤ 45; omega) (by show _ ≤ 542; omega) dX0_init_74 (fun H hN => ?_)
  have hN : zN D (zT cI cJ cZ cP cS cM) L (zQ L (a + 1)) st (va_up (va_up g67 a (.inr (0, [.ref (a + 1), .ref (a + 3), .ref (a + 4), .ref (a + 5), .ref (a + 6), .ref (a + 8), .ref (a + 10), .null, .null, .int (zI 0)]))) (a + 12) (.inr (9, [.int (zI 0), .int (zI 0), .int (zI 0)]))) st.heap H locs (a + 1) 12 := by have q := hN; first | exact q | (rw [show 11 + 1 = 12 by omega] at q; exact q)
  have hW := hN.1
  refine W.widen (k := 12) (n := 123) (by omega) (by omega) ?_
  refine lv_dup hX0 hB0 dX0_init_77 rfl ?_
  refine zn_callv hN (va_runIN (As := []) (rest := [.ref (a + 12), .ref a]) CX.fix (c_Spot_init l (f := va_up (va_up g67 a (.inr (0, [.ref (a + 1), .ref (a + 3), .ref (a + 4), .ref (a + 5), .ref (a + 6), .ref (a + 8), .ref (a + 10), .null, .null, .int (zI 0)]))) (a + 12) (.inr (9, [.int (zI 0), .int (zI 0), .int (zI 0)]))) (a + 12) (va_up_self _ _ _)) ⟨va_cnB (own := RX0) (host := "CurveMeets") (index := 39) 0 CX.fix.2.2.2.2 ggX0_init_X9_init rfl rfl rfl (CX.2.2.2.2.2.2.2.1 _ (by decide +kernel)) (CX.at (List.mem_of_getElem? (i := 16) rfl)) (by decide +kernel) ⟨Nat.le_of_ble_eq_true rfl, Nat.le_of_ble_eq_true rfl⟩, rfl, CX.at (List.mem_of_getElem? (i := 25) rfl)⟩ (hN.2 ▸ (z_preS CX hW (As := [.ref (a + 12)]))) rfl rfl hl.1 rfl (lv_room (Nat.le_of_ble_eq_true rfl)) dX0_init_78 ⟨by show _ ≤ 45; omega, by show _ ≤ 542; omega⟩) (fun gn H locs hok78 hN => ?_)
  obtain ⟨g78, eg78⟩ : ∃ q, q = gn := ⟨_, rfl⟩
  rw [← eg78] at hN hok78
  clear eg78
  obtain ⟨hfr78, hp78⟩ := hok78
  have hN : zN D (zT cI cJ cZ cP cS cM) L (zQ L (a + 1)) st g78 st.heap H locs (a + 1) 12 := by have q := hN; first | exact q | (rw [show 12 + 0 = 12 by omega] at q; exact q)
  have hW := hN.1
  refine W.widen (k := 12) (n := 123) (by omega) (by omega) ?_
  refine zn_putF (Cn := RX0) (T := TX0) (N := 10) CX hN (v := .ref (a + 12)) ((hfr78 _ (by omega)).trans ((va_up_ne _ _ (by omega)).trans (va_up_self _ _ _))) rfl (fun w h => List.mem_cons_of_mem _ (List.mem_append_left _ (List.mem_append_right _ h))) tyX0 tyX0_ok nmX0 7 (by decide) (List.mem_of_getElem? (i := 17) rfl) rfl rfl hin rfl rfl rfl (Nat.le_of_ble_eq_true rfl) (g := va_up g78 a (.inr (0, [.ref (a + 1), .ref (a + 3), .ref (a + 4), .ref (a + 5), .ref (a + 6), .ref (a + 8), .ref (a + 10), .ref (a + 12), .null, .int (zI 0)]))) rfl dX0_init_81 (fun H locs hN => ?_)
  have hW := hN.1
  refine lv_aload_n hX0 hB0 dX0_init_84 rfl (lv_at hl 0 rfl) ?_
  refine zn_new (ci := 9) (fs := [.int (zI 0), .int (zI 0), .int (zI 0)]) CX hN (fun w h => List.mem_cons_of_mem _ (List.mem_append_right _ h)) tyX9 tyX9_ok (List.mem_of_getElem? (i := 14) rfl) (List.mem_of_getElem? (i := 15) rfl) (List.mem_of_getElem? (i := 16) rfl) rfl (fun j hj => by rcases (show j = 0 ∨ j = 1 ∨ j = 2 by omega) with rfl | rfl | rfl <;> rfl) (by show _ ≤ 45; omega) (by show _ ≤ 542; omega) dX0_init_85 (fun H hN => ?_)
  have hN : zN D (zT cI cJ cZ cP cS cM) L (zQ L (a + 1)) st (va_up (va_up g78 a (.inr (0, [.ref (a + 1), .ref (a + 3), .ref (a + 4), .ref (a + 5), .ref (a + 6), .ref (a + 8), .ref (a + 10), .ref (a + 12), .null, .int (zI 0)]))) (a + 13) (.inr (9, [.int (zI 0), .int (zI 0), .int (zI 0)]))) st.heap H locs (a + 1) 13 := by have q := hN; first | exact q | (rw [show 12 + 1 = 13 by omega] at q; exact q)
  have hW := hN.1
  refine W.widen (k := 13) (n := 126) (by omega) (by omega) ?_
  refine lv_dup hX0 hB0 dX0_init_88 rfl ?_
  refine zn_callv hN (va_runIN (As := []) (rest := [.ref (a + 13), .ref a]) CX.fix (c_Spot_init l (f := va_up (va_up g78 a (.inr (0, [.ref (a + 1), .ref (a + 3), .ref (a + 4), .ref (a + 5), .ref (a + 6), .ref (a + 8), .ref (a + 10), .ref (a + 12), .null, .int (zI 0)]))) (a + 13) (.inr (9, [.int (zI 0), .int (zI 0), .int (zI 0)]))) (a + 13) (va_up_self _ _ _)) ⟨va_cnB (own := RX0) (host := "CurveMeets") (index := 39) 0 CX.fix.2.2.2.2 ggX0_init_X9_init rfl rfl rfl (CX.2.2.2.2.2.2.2.1 _ (by decide +kernel)) (CX.at (List.mem_of_getElem? (i := 16) rfl)) (by decide +kernel) ⟨Nat.le_of_ble_eq_true rfl, Nat.le_of_ble_eq_true rfl⟩, rfl, CX.at (List.mem_of_getElem? (i := 25) rfl)⟩ (hN.2 ▸ (z_preS CX hW (As := [.ref (a + 13)]))) rfl rfl hl.1 rfl (lv_room (Nat.le_of_ble_eq_true rfl)) dX0_init_89 ⟨by show _ ≤ 45; omega, by show _ ≤ 542; omega⟩) (fun gn H locs hok89 hN => ?_)
  obtain ⟨g89, eg89⟩ : ∃ q, q = gn := ⟨_, rfl⟩
  rw [← eg89] at hN hok89
  clear eg89
  obtain ⟨hfr89, hp89⟩ := hok89
  have hN : zN D (zT cI cJ cZ cP cS cM) L (zQ L (a + 1)) st g89 st.heap H locs (a + 1) 13 := by have q := hN; first | exact q | (rw [show 13 + 0 = 13 by omega] at q; exact q)
  have hW := hN.1
  refine W.widen (k := 13) (n := 126) (by omega) (by omega) ?_
  refine zn_putF (Cn := RX0) (T := TX0) (N := 10) CX hN (v := .ref (a + 13)) ((hfr89 _ (by omega)).trans ((va_up_ne _ _ (by omega)).trans (va_up_self _ _ _))) rfl (fun w h => List.mem_cons_of_mem _ (List.mem_append_left _ (List.mem_append_right _ h))) tyX0 tyX0_ok nmX0 8 (by decide) (List.mem_of_getElem? (i := 18) rfl) rfl rfl hin rfl rfl rfl (Nat.le_of_ble_eq_true rfl) (g := va_up g89 a (.inr (0, [.ref (a + 1), .ref (a + 3), .ref (a + 4), .ref (a + 5), .ref (a + 6), .ref (a + 8), .ref (a + 10), .ref (a + 12), .ref (a + 13), .int (zI 0)]))) rfl dX0_init_92 (fun H locs hN => ?_)
  have hW := hN.1
  refine lv_aload_n hX0 hB0 dX0_init_95 rfl (lv_at hl 0 rfl) ?_
  refine lv_bipush (v := zI 7) hX0 hB0 dX0_init_96 (by decide) ?_
  refine zn_put (Cn := RX0) (T := TX0) (N := 10) CX hN (v := .int (zI 7)) (va_up_self _ _ _) rfl (fun w h => List.mem_cons_of_mem _ (List.mem_append_left _ (List.mem_append_right _ h))) tyX0 tyX0_ok nmX0 9 (by decide) (List.mem_of_getElem? (i := 19) rfl) rfl rfl rfl rfl (Nat.le_of_ble_eq_true rfl) (g := va_up g89 a (.inr (0, [.ref (a + 1), .ref (a + 3), .ref (a + 4), .ref (a + 5), .ref (a + 6), .ref (a + 8), .ref (a + 10), .ref (a + 12), .ref (a + 13), .int (zI 7)]))) va_up_up dX0_init_98 (fun H locs hN => ?_)
  have hW := hN.1
  refine lv_iconst (v := zI 0) hX0 hB0 dX0_init_101 rfl ?_
  refine lv_istore_n (lv' := [(1, .int (zI 0)), (0, .ref a)]) hX0 hB0 dX0_init_102 rfl hl (by decide) rfl (fun ls hl => ?_)
  have hL103 : ∀ (fu : Nat) (k : Int) (g : Nat → va_E), (0 ≤ k ∧ k ≤ 5 ∧ zFr f g a (a + 46) ∧ zMaker0 cI g a ∧ g (a + 3) = zAR cP 5 (fun j => if j < k.toNat then some (a + 14 + 4 * j) else none) ∧ g (a + 4) = zAR cP 5 (fun j => if j < k.toNat then some (a + 16 + 4 * j) else none) ∧ g (a + 5) = zAR cP 6 (fun _ => none) ∧ ∀ j : Nat, (j : Int) < k → zPoly cI g (a + 14 + 4 * j) (zone 0) ∧ zPoly cI g (a + 16 + 4 * j) (zone 0)) → (5 - k).toNat < fu → ∀ (H : Heap) (locs : List Loc) (ls : Array Slot), zN D (zT cI cJ cZ cP cS cM) L (zQ L (a + 1)) st g st.heap H locs (a + 1) (4 * k.toNat + 13) → lv_has ls 2 [(1, .int (zI k)), (0, .ref a)] → W pg l en ({ frames := 2, cells := 45, slots := 542, locals := 32 } : Room) st mi ag bl mt cd H locs (4 * k.toNat + 13) (52 * k.toNat + 126) Q (F0 mi 103 ls []) := by
    intro fu
    induction fu with
    | zero => intro k g _ hfu; exact absurd hfu (Nat.not_lt_zero _)
    | succ fu ih103 =>
      intro k g hinv103 hfu103 H locs ls hN hl
      have hW := hN.1
      obtain ⟨hk0, hk1, hfr, hg0, hg1, hg2, hg3, hgp⟩ := hinv103
      refine lv_iload_n hX0 hB0 dX0_init_103 rfl (lv_at hl 0 rfl) ?_
      refine lv_iconst (v := zI 4) hX0 hB0 dX0_init_104 rfl ?_
      refine z_icmp_gt (tgt := 140) CX dX0_init_105 (by decide) (by constructor <;> omega) (by constructor <;> omega) (fun c_105 => ?_) (fun c_105 => ?_)
      ·
        have hN : zN D (zT cI cJ cZ cP cS cM) L (zQ L (a + 1)) st (va_up (va_up g (a + 3) (zAR cP 5 (fun j => some (a + 14 + 4 * j)))) (a + 4) (zAR cP 5 (fun j => some (a + 16 + 4 * j)))) st.heap H locs (a + 1) (4 * k.toNat + 13) := ⟨(hN.1.re hg1 (zcell_q (fun j hj => if_pos (by omega)))).re ((va_up_ne _ _ (by omega)).trans hg2) (zcell_q (fun j hj => if_pos (by omega))), hN.2⟩
        have hW := hN.1
        refine lv_iconst (v := zI 0) hX0 hB0 dX0_init_140 rfl ?_
        refine lv_istore_n (lv' := [(1, .int (zI 0)), (0, .ref a)]) hX0 hB0 dX0_init_141 rfl hl (by decide) rfl (fun ls hl => ?_)
        have hL142 : ∀ (fu : Nat) (k : Int) (g : Nat → va_E), (0 ≤ k ∧ k ≤ 6 ∧ zFr f g a (a + 46) ∧ zMaker0 cI g a ∧ g (a + 3) = zAR cP 5 (fun k => some (a + 14 + 4 * k)) ∧ g (a + 4) = zAR cP 5 (fun k => some (a + 16 + 4 * k)) ∧ g (a + 5) = zAR cP 6 (fun j => if j < k.toNat then some (a + 34 + 2 * j) else none) ∧ (∀ k, k < 5 → zPoly cI g (a + 14 + 4 * k) (zone 0) ∧ zPoly cI g (a + 16 + 4 * k) (zone 0)) ∧ ∀ j : Nat, (j : Int) < k → zPoly cI g (a + 34 + 2 * j) (zone 0)) → (6 - k).toNat < fu → ∀ (H : Heap) (locs : List Loc) (ls : Array Slot), zN D (zT cI cJ cZ cP cS cM) L (zQ L (a + 1)) st g st.heap H locs (a + 1) (2 * k.toNat + 33) → lv_has ls 2 [(1, .int (zI k)), (0, .ref a)] → W pg l en ({ frames := 2, cells := 45, slots := 542, locals := 32 } : Room) st mi ag bl mt cd H locs (2 * k.toNat + 33) (26 * k.toNat + 386) Q (F0 mi 142 ls []) := by
          intro fu
          induction fu with
          | zero => intro k g _ hfu; exact absurd hfu (Nat.not_lt_zero _)
          | succ fu ih142 =>
            intro k g hinv142 hfu142 H locs ls hN hl
            have hW := hN.1
            obtain ⟨hk0, hk1, hfr, hg0, hg1, hg2, hg3, hgp, hgq⟩ := hinv142
            refine lv_iload_n hX0 hB0 dX0_init_142 rfl (lv_at hl 0 rfl) ?_
            refine lv_bipush (v := zI 6) hX0 hB0 dX0_init_143 (by decide) ?_
            refine z_icmp_ge (tgt := 167) CX dX0_init_145 (by decide) (by constructor <;> omega) (by constructor <;> omega) (fun c_145 => ?_) (fun c_145 => ?_)
            ·
              have hN : zN D (zT cI cJ cZ cP cS cM) L (zQ L (a + 1)) st (va_up g (a + 5) (zAR cP 6 (fun j => some (a + 34 + 2 * j)))) st.heap H locs (a + 1) (2 * k.toNat + 33) := ⟨hN.1.re hg3 (zcell_q (fun j hj => if_pos (by omega))), hN.2⟩
              rw [← hQ]
              have hN := hN
              rw [show 2 * k.toNat + 33 = 45 by omega] at hN
              refine W.widen (k := 45) (n := 542) (by omega) (by omega) ?_
              exact zn_vret CX hN (by exact ⟨hfr.up (by omega), hg0.same (fun b h1 h2 h3 h4 h5 => va_up_ne _ _ h5), (va_up_ne _ _ (by omega)).trans hg1, (va_up_ne _ _ (by omega)).trans hg2, va_up_self _ _ _, fun j hj => ⟨(hgp j hj).1.same (va_up_ne _ _ (by omega)) (va_up_ne _ _ (by omega)), (hgp j hj).2.same (va_up_ne _ _ (by omega)) (va_up_ne _ _ (by omega))⟩, fun j hj => (hgq j (by omega)).same (va_up_ne _ _ (by omega)) (va_up_ne _ _ (by omega))⟩) dX0_init_167
            ·
              refine lv_aload_n hX0 hB0 dX0_init_148 rfl (lv_at hl 1 rfl) ?_
              refine z_get (Cn := RX0) (T := TX0) (N := 10) CX hW (v := .ref (a + 5)) hg0.1 rfl (fun w h => List.mem_cons_of_mem _ (List.mem_append_left _ (List.mem_append_right _ h))) 3 (by decide) (List.mem_of_getElem? (i := 10) rfl) rfl rfl dX0_init_149 ?_
              refine lv_iload_n hX0 hB0 dX0_init_152 rfl (lv_at hl 0 rfl) ?_
              refine zn_new (ci := 2) (fs := [.null]) CX hN (fun w h => List.mem_cons_of_mem _ (List.mem_append_left _ (List.mem_append_left _ (List.mem_append_right _ h)))) tyX2 tyX2_ok (List.mem_of_getElem? (i := 4) rfl) (List.mem_of_getElem? (i := 5) rfl) (List.mem_of_getElem? (i := 6) rfl) rfl (fun j hj => by rcases (show j = 0 by omega) with rfl <;> rfl) (by show _ ≤ 45; omega) (by show _ ≤ 542; omega) dX0_init_153 (fun H hN => ?_)
              have hN : zN D (zT cI cJ cZ cP cS cM) L (zQ L (a + 1)) st (va_up g (a + 1 + (2 * k.toNat + 33)) (.inr (2, [.null]))) st.heap H locs (a + 1) (2 * k.toNat + 34) := by have q := hN; first | exact q | (rw [show (2 * k.toNat + 33) + 1 = 2 * k.toNat + 34 by omega] at q; exact q)
              have hW := hN.1
              refine W.widen (k := 2 * k.toNat + 34) (n := 26 * k.toNat + 387) (by omega) (by omega) ?_
              refine lv_dup hX0 hB0 dX0_init_156 rfl ?_
              refine zn_callv hN (va_runIN (As := []) (rest := [.ref (a + 1 + (2 * k.toNat + 33)), .int (zI k), .ref (a + 5)]) CX.fix (c_Poly_init l (f := va_up g (a + 1 + (2 * k.toNat + 33)) (.inr (2, [.null]))) (a + 1 + (2 * k.toNat + 33)) (va_up_self _ _ _)) ⟨va_cnB (own := RX0) (host := "CurveMeets") (index := 11) 0 CX.fix.2.2.2.2 ggX0_init_X2_init rfl rfl rfl (CX.2.2.2.2.2.2.2.1 _ (by decide +kernel)) (CX.at (List.mem_of_getElem? (i := 6) rfl)) (by decide +kernel) ⟨Nat.le_of_ble_eq_true rfl, Nat.le_of_ble_eq_true rfl⟩, rfl, CX.at (List.mem_of_getElem? (i := 20) rfl)⟩ (hN.2 ▸ (z_preS CX hW (As := [.ref (a + 1 + (2 * k.toNat + 33))]))) rfl rfl hl.1 rfl (lv_room (Nat.le_of_ble_eq_true rfl)) dX0_init_157 ⟨by show _ ≤ 45; omega, by show _ ≤ 542; omega⟩) (fun gn H locs hok157 hN => ?_)
              obtain ⟨g157, eg157⟩ : ∃ q, q = gn := ⟨_, rfl⟩
              rw [← eg157] at hN hok157
              clear eg157
              obtain ⟨hfr157, hp157⟩ := hok157
              have hN : zN D (zT cI cJ cZ cP cS cM) L (zQ L (a + 1)) st g157 st.heap H locs (a + 1) (2 * k.toNat + 35) := by have q := hN; first | exact q | (rw [show (2 * k.toNat + 34) + 1 = 2 * k.toNat + 35 by omega] at q; exact q)
              have hW := hN.1
              refine W.widen (k := 2 * k.toNat + 35) (n := 26 * k.toNat + 412) (by omega) (by omega) ?_
              refine zn_aast (r := (RX2, TX2, 1)) CX hN ((hfr157 _ (by omega)).trans ((va_up_ne _ _ (by omega)).trans hg3)) 3 rfl hp157.1 rfl (by refine ⟨?_, ?_, ?_⟩ <;> omega) (g := va_up g157 (a + 5) (zAR cP 6 (va_up ((fun j => if j < k.toNat then some (a + 34 + 2 * j) else none)) k.toNat (some (a + 1 + (2 * k.toNat + 33)))))) rfl dX0_init_160 (fun H locs hN => ?_)
              have hW := hN.1
              refine lv_iinc (v := zI (k + 1)) (lv' := [(1, .int (zI (k + 1))), (0, .ref a)]) hX0 hB0 dX0_init_161 hl (k := 0) rfl (zI_add _ _) (by decide) rfl (fun ls hl => ?_)
              refine lv_goto (tgt := 142) hX0 hB0 dX0_init_164 (by decide) ?_
              refine W.widen (k := 2 * (k + 1).toNat + 33) (n := 26 * (k + 1).toNat + 386) (by omega) (by omega) ?_
              have hN := hN
              rw [show 2 * k.toNat + 35 = 2 * (k + 1).toNat + 33 by omega] at hN
              exact ih142 (k + 1) (va_up g157 (a + 5) (zAR cP 6 (va_up ((fun j => if j < k.toNat then some (a + 34 + 2 * j) else none)) k.toNat (some (a + 1 + (2 * k.toNat + 33)))))) ⟨by omega, by omega, (((hfr.up (a := a + 1 + (2 * k.toNat + 33)) (x := .inr (2, [.null])) (by omega)).trans (hfr157.wide (by omega) (by omega))).up (by omega)), hg0.same (fun b h1 h2 h3 h4 h5 => ((va_up_ne _ _ (by omega)).trans ((hfr157 _ (by omega)).trans ((va_up_ne _ _ (by omega)).trans rfl)))), ((va_up_ne _ _ (by omega)).trans ((hfr157 _ (by omega)).trans ((va_up_ne _ _ (by omega)).trans rfl))).trans hg1, ((va_up_ne _ _ (by omega)).trans ((hfr157 _ (by omega)).trans ((va_up_ne _ _ (by omega)).trans rfl))).trans hg2, (by rw [(va_up_self _ _ _), zrk hk0 (by omega)]), fun j hj => ⟨(hgp j hj).1.same ((va_up_ne _ _ (by omega)).trans ((hfr157 _ (by omega)).trans ((va_up_ne _ _ (by omega)).trans rfl))) ((va_up_ne _ _ (by omega)).trans ((hfr157 _ (by omega)).trans ((va_up_ne _ _ (by omega)).trans rfl))), (hgp j hj).2.same ((va_up_ne _ _ (by omega)).trans ((hfr157 _ (by omega)).trans ((va_up_ne _ _ (by omega)).trans rfl))) ((va_up_ne _ _ (by omega)).trans ((hfr157 _ (by omega)).trans ((va_up_ne _ _ (by omega)).trans rfl)))⟩, fun j hj => by
                by_cases e : j = k.toNat
                · rw [e, show a + 34 + 2 * k.toNat = a + 1 + (2 * k.toNat + 33) by omega]; exact ⟨((va_up_ne _ _ (by omega)).trans hp157.1), ((va_up_ne _ _ (by omega)).trans hp157.2)⟩
                · exact (hgq j (by omega)).same ((va_up_ne _ _ (by omega)).trans ((hfr157 _ (by omega)).trans ((va_up_ne _ _ (by omega)).trans rfl))) ((va_up_ne _ _ (by omega)).trans ((hfr157 _ (by omega)).trans ((va_up_ne _ _ (by omega)).trans rfl)))⟩ (by omega) H locs ls hN (lv_sub hl [0, 1] rfl)
        refine W.widen (k := 2 * (0 : Int).toNat + 33) (n := 26 * (0 : Int).toNat + 386) (by omega) (by omega) ?_
        have hN := hN
        rw [show 4 * k.toNat + 13 = 2 * (0 : Int).toNat + 33 by omega] at hN
        exact hL142 _ 0 (va_up (va_up g (a + 3) (zAR cP 5 ((fun j => some (a + 14 + 4 * j))))) (a + 4) (zAR cP 5 ((fun j => some (a + 16 + 4 * j))))) ⟨by omega, by omega, (hfr.up (by omega)).up (by omega), hg0.same (fun b h1 h2 h3 h4 h5 => (va_up_ne _ _ (by omega)).trans (va_up_ne _ _ (by omega))), (va_up_ne _ _ (by omega)).trans (va_up_self _ _ _), va_up_self _ _ _, (by rw [(va_up_ne _ _ (by omega)).trans ((va_up_ne _ _ (by omega)).trans hg3)]; congr 6), fun j hj => ⟨(hgp j (by omega)).1.same ((va_up_ne _ _ (by omega)).trans (va_up_ne _ _ (by omega))) ((va_up_ne _ _ (by omega)).trans (va_up_ne _ _ (by omega))), (hgp j (by omega)).2.same ((va_up_ne _ _ (by omega)).trans (va_up_ne _ _ (by omega))) ((va_up_ne _ _ (by omega)).trans (va_up_ne _ _ (by omega)))⟩, fun j hj => by omega⟩ (Nat.lt_succ_self _) H locs ls hN (lv_sub hl [0, 1] rfl)
      ·
        refine lv_aload_n hX0 hB0 dX0_init_108 rfl (lv_at hl 1 rfl) ?_
        refine z_get (Cn := RX0) (T := TX0) (N := 10) CX hW (v := .ref (a + 3)) hg0.1 rfl (fun w h => List.mem_cons_of_mem _ (List.mem_append_left _ (List.mem_append_right _ h))) 1 (by decide) (List.mem_of_getElem? (i := 8) rfl) rfl rfl dX0_init_109 ?_
        refine lv_iload_n hX0 hB0 dX0_init_112 rfl (lv_at hl 0 rfl) ?_
        refine zn_new (ci := 2) (fs := [.null]) CX hN (fun w h => List.mem_cons_of_mem _ (List.mem_append_left _ (List.mem_append_left _ (List.mem_append_right _ h)))) tyX2 tyX2_ok (List.mem_of_getElem? (i := 4) rfl) (List.mem_of_getElem? (i := 5) rfl) (List.mem_of_getElem? (i := 6) rfl) rfl (fun j hj => by rcases (show j = 0 by omega) with rfl <;> rfl) (by show _ ≤ 45; omega) (by show _ ≤ 542; omega) dX0_init_113 (fun H hN => ?_)
        have hN : zN D (zT cI cJ cZ cP cS cM) L (zQ L (a + 1)) st (va_up g (a + 1 + (4 * k.toNat + 13)) (.inr (2, [.null]))) st.heap H locs (a + 1) (4 * k.toNat + 14) := by have q := hN; first | exact q | (rw [show (4 * k.toNat + 13) + 1 = 4 * k.toNat + 14 by omega] at q; exact q)
        have hW := hN.1
        refine W.widen (k := 4 * k.toNat + 14) (n := 52 * k.toNat + 127) (by omega) (by omega) ?_
        refine lv_dup hX0 hB0 dX0_init_116 rfl ?_
        refine zn_callv hN (va_runIN (As := []) (rest := [.ref (a + 1 + (4 * k.toNat + 13)), .int (zI k), .ref (a + 3)]) CX.fix (c_Poly_init l (f := va_up g (a + 1 + (4 * k.toNat + 13)) (.inr (2, [.null]))) (a + 1 + (4 * k.toNat + 13)) (va_up_self _ _ _)) ⟨va_cnB (own := RX0) (host := "CurveMeets") (index := 11) 0 CX.fix.2.2.2.2 ggX0_init_X2_init rfl rfl rfl (CX.2.2.2.2.2.2.2.1 _ (by decide +kernel)) (CX.at (List.mem_of_getElem? (i := 6) rfl)) (by decide +kernel) ⟨Nat.le_of_ble_eq_true rfl, Nat.le_of_ble_eq_true rfl⟩, rfl, CX.at (List.mem_of_getElem? (i := 20) rfl)⟩ (hN.2 ▸ (z_preS CX hW (As := [.ref (a + 1 + (4 * k.toNat + 13))]))) rfl rfl hl.1 rfl (lv_room (Nat.le_of_ble_eq_true rfl)) dX0_init_117 ⟨by show _ ≤ 45; omega, by show _ ≤ 542; omega⟩) (fun gn H locs hok117 hN => ?_)
        obtain ⟨g117, eg117⟩ : ∃ q, q = gn := ⟨_, rfl⟩
        rw [← eg117] at hN hok117
        clear eg117
        obtain ⟨hfr117, hp117⟩ := hok117
        have hN : zN D (zT cI cJ cZ cP cS cM) L (zQ L (a + 1)) st g117 st.heap H locs (a + 1) (4 * k.toNat + 15) := by have q := hN; first | exact q | (rw [show (4 * k.toNat + 14) + 1 = 4 * k.toNat + 15 by omega] at q; exact q)
        have hW := hN.1
        refine W.widen (k := 4 * k.toNat + 15) (n := 52 * k.toNat + 152) (by omega) (by omega) ?_
        refine zn_aast (r := (RX2, TX2, 1)) CX hN ((hfr117 _ (by omega)).trans ((va_up_ne _ _ (by omega)).trans hg1)) 3 rfl hp117.1 rfl (by refine ⟨?_, ?_, ?_⟩ <;> omega) (g := va_up g117 (a + 3) (zAR cP 5 (va_up ((fun j => if j < k.toNat then some (a + 14 + 4 * j) else none)) k.toNat (some (a + 1 + (4 * k.toNat + 13)))))) rfl dX0_init_120 (fun H locs hN => ?_)
        have hW := hN.1
        refine lv_aload_n hX0 hB0 dX0_init_121 rfl (lv_at hl 1 rfl) ?_
        refine z_get (Cn := RX0) (T := TX0) (N := 10) CX hW (v := .ref (a + 4)) ((va_up_ne _ _ (by omega)).trans ((hfr117 _ (by omega)).trans ((va_up_ne _ _ (by omega)).trans hg0.1))) rfl (fun w h => List.mem_cons_of_mem _ (List.mem_append_left _ (List.mem_append_right _ h))) 2 (by decide) (List.mem_of_getElem? (i := 9) rfl) rfl rfl dX0_init_122 ?_
        refine lv_iload_n hX0 hB0 dX0_init_125 rfl (lv_at hl 0 rfl) ?_
        refine zn_new (ci := 2) (fs := [.null]) CX hN (fun w h => List.mem_cons_of_mem _ (List.mem_append_left _ (List.mem_append_left _ (List.mem_append_right _ h)))) tyX2 tyX2_ok (List.mem_of_getElem? (i := 4) rfl) (List.mem_of_getElem? (i := 5) rfl) (List.mem_of_getElem? (i := 6) rfl) rfl (fun j hj => by rcases (show j = 0 by omega) with rfl <;> rfl) (by show _ ≤ 45; omega) (by show _ ≤ 542; omega) dX0_init_126 (fun H hN => ?_)
        have hN : zN D (zT cI cJ cZ cP cS cM) L (zQ L (a + 1)) st (va_up (va_up g117 (a + 3) (zAR cP 5 (va_up ((fun j => if j < k.toNat then some (a + 14 + 4 * j) else none)) k.toNat (some (a + 1 + (4 * k.toNat + 13)))))) (a + 1 + (4 * k.toNat + 15)) (.inr (2, [.null]))) st.heap H locs (a + 1) (4 * k.toNat + 16) := by have q := hN; first | exact q | (rw [show (4 * k.toNat + 15) + 1 = 4 * k.toNat + 16 by omega] at q; exact q)
        have hW := hN.1
        refine W.widen (k := 4 * k.toNat + 16) (n := 52 * k.toNat + 153) (by omega) (by omega) ?_
        refine lv_dup hX0 hB0 dX0_init_129 rfl ?_
        refine zn_callv hN (va_runIN (As := []) (rest := [.ref (a + 1 + (4 * k.toNat + 15)), .int (zI k), .ref (a + 4)]) CX.fix (c_Poly_init l (f := va_up (va_up g117 (a + 3) (zAR cP 5 (va_up ((fun j => if j < k.toNat then some (a + 14 + 4 * j) else none)) k.toNat (some (a + 1 + (4 * k.toNat + 13)))))) (a + 1 + (4 * k.toNat + 15)) (.inr (2, [.null]))) (a + 1 + (4 * k.toNat + 15)) (va_up_self _ _ _)) ⟨va_cnB (own := RX0) (host := "CurveMeets") (index := 11) 0 CX.fix.2.2.2.2 ggX0_init_X2_init rfl rfl rfl (CX.2.2.2.2.2.2.2.1 _ (by decide +kernel)) (CX.at (List.mem_of_getElem? (i := 6) rfl)) (by decide +kernel) ⟨Nat.le_of_ble_eq_true rfl, Nat.le_of_ble_eq_true rfl⟩, rfl, CX.at (List.mem_of_getElem? (i := 20) rfl)⟩ (hN.2 ▸ (z_preS CX hW (As := [.ref (a + 1 + (4 * k.toNat + 15))]))) rfl rfl hl.1 rfl (lv_room (Nat.le_of_ble_eq_true rfl)) dX0_init_130 ⟨by show _ ≤ 45; omega, by show _ ≤ 542; omega⟩) (fun gn H locs hok130 hN => ?_)
        obtain ⟨g130, eg130⟩ : ∃ q, q = gn := ⟨_, rfl⟩
        rw [← eg130] at hN hok130
        clear eg130
        obtain ⟨hfr130, hp130⟩ := hok130
        have hN : zN D (zT cI cJ cZ cP cS cM) L (zQ L (a + 1)) st g130 st.heap H locs (a + 1) (4 * k.toNat + 17) := by have q := hN; first | exact q | (rw [show (4 * k.toNat + 16) + 1 = 4 * k.toNat + 17 by omega] at q; exact q)
        have hW := hN.1
        refine W.widen (k := 4 * k.toNat + 17) (n := 52 * k.toNat + 178) (by omega) (by omega) ?_
        refine zn_aast (r := (RX2, TX2, 1)) CX hN ((hfr130 _ (by omega)).trans ((va_up_ne _ _ (by omega)).trans ((va_up_ne _ _ (by omega)).trans ((hfr117 _ (by omega)).trans ((va_up_ne _ _ (by omega)).trans hg2))))) 3 rfl hp130.1 rfl (by refine ⟨?_, ?_, ?_⟩ <;> omega) (g := va_up g130 (a + 4) (zAR cP 5 (va_up ((fun j => if j < k.toNat then some (a + 16 + 4 * j) else none)) k.toNat (some (a + 1 + (4 * k.toNat + 15)))))) rfl dX0_init_133 (fun H locs hN => ?_)
        have hW := hN.1
        refine lv_iinc (v := zI (k + 1)) (lv' := [(1, .int (zI (k + 1))), (0, .ref a)]) hX0 hB0 dX0_init_134 hl (k := 0) rfl (zI_add _ _) (by decide) rfl (fun ls hl => ?_)
        refine lv_goto (tgt := 103) hX0 hB0 dX0_init_137 (by decide) ?_
        refine W.widen (k := 4 * (k + 1).toNat + 13) (n := 52 * (k + 1).toNat + 126) (by omega) (by omega) ?_
        have hN := hN
        rw [show 4 * k.toNat + 17 = 4 * (k + 1).toNat + 13 by omega] at hN
        exact ih103 (k + 1) (va_up g130 (a + 4) (zAR cP 5 (va_up ((fun j => if j < k.toNat then some (a + 16 + 4 * j) else none)) k.toNat (some (a + 1 + (4 * k.toNat + 15)))))) ⟨by omega, by omega, ((((((hfr.up (a := a + 1 + (4 * k.toNat + 13)) (x := .inr (2, [.null])) (by omega)).trans (hfr117.wide (by omega) (by omega))).up (by omega)).up (a := a + 1 + (4 * k.toNat + 15)) (x := .inr (2, [.null])) (by omega)).trans (hfr130.wide (by omega) (by omega))).up (by omega)), hg0.same (fun b h1 h2 h3 h4 h5 => ((va_up_ne _ _ (by omega)).trans ((hfr130 _ (by omega)).trans ((va_up_ne _ _ (by omega)).trans ((va_up_ne _ _ (by omega)).trans ((hfr117 _ (by omega)).trans ((va_up_ne _ _ (by omega)).trans rfl))))))), (by rw [((va_up_ne _ _ (by omega)).trans ((hfr130 _ (by omega)).trans ((va_up_ne _ _ (by omega)).trans (va_up_self _ _ _)))), zrk4 hk0 (by omega)]), (by rw [(va_up_self _ _ _), zrk4 hk0 (by omega)]), ((va_up_ne _ _ (by omega)).trans ((hfr130 _ (by omega)).trans ((va_up_ne _ _ (by omega)).trans ((va_up_ne _ _ (by omega)).trans ((hfr117 _ (by omega)).trans ((va_up_ne _ _ (by omega)).trans hg3)))))), fun j hj => by
          by_cases e : j = k.toNat
          · rw [e, show a + 14 + 4 * k.toNat = a + 1 + (4 * k.toNat + 13) by omega, show a + 16 + 4 * k.toNat = a + 1 + (4 * k.toNat + 15) by omega]; exact ⟨⟨((va_up_ne _ _ (by omega)).trans ((hfr130 _ (by omega)).trans ((va_up_ne _ _ (by omega)).trans ((va_up_ne _ _ (by omega)).trans hp117.1)))), ((va_up_ne _ _ (by omega)).trans ((hfr130 _ (by omega)).trans ((va_up_ne _ _ (by omega)).trans ((va_up_ne _ _ (by omega)).trans hp117.2))))⟩, ⟨((va_up_ne _ _ (by omega)).trans hp130.1), ((va_up_ne _ _ (by omega)).trans hp130.2)⟩⟩
          · exact ⟨(hgp j (by omega)).1.same ((va_up_ne _ _ (by omega)).trans ((hfr130 _ (by omega)).trans ((va_up_ne _ _ (by omega)).trans ((va_up_ne _ _ (by omega)).trans ((hfr117 _ (by omega)).trans ((va_up_ne _ _ (by omega)).trans rfl)))))) ((va_up_ne _ _ (by omega)).trans ((hfr130 _ (by omega)).trans ((va_up_ne _ _ (by omega)).trans ((va_up_ne _ _ (by omega)).trans ((hfr117 _ (by omega)).trans ((va_up_ne _ _ (by omega)).trans rfl)))))), (hgp j (by omega)).2.same ((va_up_ne _ _ (by omega)).trans ((hfr130 _ (by omega)).trans ((va_up_ne _ _ (by omega)).trans ((va_up_ne _ _ (by omega)).trans ((hfr117 _ (by omega)).trans ((va_up_ne _ _ (by omega)).trans rfl)))))) ((va_up_ne _ _ (by omega)).trans ((hfr130 _ (by omega)).trans ((va_up_ne _ _ (by omega)).trans ((va_up_ne _ _ (by omega)).trans ((hfr117 _ (by omega)).trans ((va_up_ne _ _ (by omega)).trans rfl))))))⟩⟩ (by omega) H locs ls hN (lv_sub hl [0, 1] rfl)
  refine W.widen (k := 4 * (0 : Int).toNat + 13) (n := 52 * (0 : Int).toNat + 126) (by omega) (by omega) ?_
  have hN := hN
  rw [show 13 = 4 * (0 : Int).toNat + 13 by omega] at hN
  exact hL103 _ 0 (va_up g89 a (.inr (0, [.ref (a + 1), .ref (a + 3), .ref (a + 4), .ref (a + 5), .ref (a + 6), .ref (a + 8), .ref (a + 10), .ref (a + 12), .ref (a + 13), .int (zI 7)]))) ⟨by omega, by omega, ((((((((((((((((((((((zFr.refl (lo := a) (hi := a + 46)).up (a := a + 1) (x := .inr (2, [.null])) (by omega)).trans (hfr9.wide (by omega) (by omega))).up (by omega)).up (by omega)).up (by omega)).up (by omega)).up (a := a + 6) (x := .inr (2, [.null])) (by omega)).trans (hfr45.wide (by omega) (by omega))).up (by omega)).up (a := a + 8) (x := .inr (2, [.null])) (by omega)).trans (hfr56.wide (by omega) (by omega))).up (by omega)).up (a := a + 10) (x := .inr (2, [.null])) (by omega)).trans (hfr67.wide (by omega) (by omega))).up (by omega)).up (a := a + 12) (x := .inr (9, [.int (zI 0), .int (zI 0), .int (zI 0)])) (by omega)).trans (hfr78.wide (by omega) (by omega))).up (by omega)).up (a := a + 13) (x := .inr (9, [.int (zI 0), .int (zI 0), .int (zI 0)])) (by omega)).trans (hfr89.wide (by omega) (by omega))).up (by omega)), ⟨(va_up_self _ _ _), ⟨((va_up_ne _ _ (by omega)).trans ((hfr89 _ (by omega)).trans ((va_up_ne _ _ (by omega)).trans ((va_up_ne _ _ (by omega)).trans ((hfr78 _ (by omega)).trans ((va_up_ne _ _ (by omega)).trans ((va_up_ne _ _ (by omega)).trans ((hfr67 _ (by omega)).trans ((va_up_ne _ _ (by omega)).trans ((va_up_ne _ _ (by omega)).trans ((hfr56 _ (by omega)).trans ((va_up_ne _ _ (by omega)).trans ((va_up_ne _ _ (by omega)).trans ((hfr45 _ (by omega)).trans ((va_up_ne _ _ (by omega)).trans ((va_up_ne _ _ (by omega)).trans ((va_up_ne _ _ (by omega)).trans ((va_up_ne _ _ (by omega)).trans ((va_up_ne _ _ (by omega)).trans hp9.1))))))))))))))))))), ((va_up_ne _ _ (by omega)).trans ((hfr89 _ (by omega)).trans ((va_up_ne _ _ (by omega)).trans ((va_up_ne _ _ (by omega)).trans ((hfr78 _ (by omega)).trans ((va_up_ne _ _ (by omega)).trans ((va_up_ne _ _ (by omega)).trans ((hfr67 _ (by omega)).trans ((va_up_ne _ _ (by omega)).trans ((va_up_ne _ _ (by omega)).trans ((hfr56 _ (by omega)).trans ((va_up_ne _ _ (by omega)).trans ((va_up_ne _ _ (by omega)).trans ((hfr45 _ (by omega)).trans ((va_up_ne _ _ (by omega)).trans ((va_up_ne _ _ (by omega)).trans ((va_up_ne _ _ (by omega)).trans ((va_up_ne _ _ (by omega)).trans ((va_up_ne _ _ (by omega)).trans hp9.2)))))))))))))))))))⟩, ⟨((va_up_ne _ _ (by omega)).trans ((hfr89 _ (by omega)).trans ((va_up_ne _ _ (by omega)).trans ((va_up_ne _ _ (by omega)).trans ((hfr78 _ (by omega)).trans ((va_up_ne _ _ (by omega)).trans ((va_up_ne _ _ (by omega)).trans ((hfr67 _ (by omega)).trans ((va_up_ne _ _ (by omega)).trans ((va_up_ne _ _ (by omega)).trans ((hfr56 _ (by omega)).trans ((va_up_ne _ _ (by omega)).trans ((va_up_ne _ _ (by omega)).trans hp45.1))))))))))))), ((va_up_ne _ _ (by omega)).trans ((hfr89 _ (by omega)).trans ((va_up_ne _ _ (by omega)).trans ((va_up_ne _ _ (by omega)).trans ((hfr78 _ (by omega)).trans ((va_up_ne _ _ (by omega)).trans ((va_up_ne _ _ (by omega)).trans ((hfr67 _ (by omega)).trans ((va_up_ne _ _ (by omega)).trans ((va_up_ne _ _ (by omega)).trans ((hfr56 _ (by omega)).trans ((va_up_ne _ _ (by omega)).trans ((va_up_ne _ _ (by omega)).trans hp45.2)))))))))))))⟩, ⟨((va_up_ne _ _ (by omega)).trans ((hfr89 _ (by omega)).trans ((va_up_ne _ _ (by omega)).trans ((va_up_ne _ _ (by omega)).trans ((hfr78 _ (by omega)).trans ((va_up_ne _ _ (by omega)).trans ((va_up_ne _ _ (by omega)).trans ((hfr67 _ (by omega)).trans ((va_up_ne _ _ (by omega)).trans ((va_up_ne _ _ (by omega)).trans hp56.1)))))))))), ((va_up_ne _ _ (by omega)).trans ((hfr89 _ (by omega)).trans ((va_up_ne _ _ (by omega)).trans ((va_up_ne _ _ (by omega)).trans ((hfr78 _ (by omega)).trans ((va_up_ne _ _ (by omega)).trans ((va_up_ne _ _ (by omega)).trans ((hfr67 _ (by omega)).trans ((va_up_ne _ _ (by omega)).trans ((va_up_ne _ _ (by omega)).trans hp56.2))))))))))⟩, ⟨((va_up_ne _ _ (by omega)).trans ((hfr89 _ (by omega)).trans ((va_up_ne _ _ (by omega)).trans ((va_up_ne _ _ (by omega)).trans ((hfr78 _ (by omega)).trans ((va_up_ne _ _ (by omega)).trans ((va_up_ne _ _ (by omega)).trans hp67.1))))))), ((va_up_ne _ _ (by omega)).trans ((hfr89 _ (by omega)).trans ((va_up_ne _ _ (by omega)).trans ((va_up_ne _ _ (by omega)).trans ((hfr78 _ (by omega)).trans ((va_up_ne _ _ (by omega)).trans ((va_up_ne _ _ (by omega)).trans hp67.2)))))))⟩, ((va_up_ne _ _ (by omega)).trans ((hfr89 _ (by omega)).trans ((va_up_ne _ _ (by omega)).trans ((va_up_ne _ _ (by omega)).trans hp78)))), ((va_up_ne _ _ (by omega)).trans hp89)⟩, (by rw [((va_up_ne _ _ (by omega)).trans ((hfr89 _ (by omega)).trans ((va_up_ne _ _ (by omega)).trans ((va_up_ne _ _ (by omega)).trans ((hfr78 _ (by omega)).trans ((va_up_ne _ _ (by omega)).trans ((va_up_ne _ _ (by omega)).trans ((hfr67 _ (by omega)).trans ((va_up_ne _ _ (by omega)).trans ((va_up_ne _ _ (by omega)).trans ((hfr56 _ (by omega)).trans ((va_up_ne _ _ (by omega)).trans ((va_up_ne _ _ (by omega)).trans ((hfr45 _ (by omega)).trans ((va_up_ne _ _ (by omega)).trans ((va_up_ne _ _ (by omega)).trans ((va_up_ne _ _ (by omega)).trans (va_up_self _ _ _))))))))))))))))))]; congr 6), (by rw [((va_up_ne _ _ (by omega)).trans ((hfr89 _ (by omega)).trans ((va_up_ne _ _ (by omega)).trans ((va_up_ne _ _ (by omega)).trans ((hfr78 _ (by omega)).trans ((va_up_ne _ _ (by omega)).trans ((va_up_ne _ _ (by omega)).trans ((hfr67 _ (by omega)).trans ((va_up_ne _ _ (by omega)).trans ((va_up_ne _ _ (by omega)).trans ((hfr56 _ (by omega)).trans ((va_up_ne _ _ (by omega)).trans ((va_up_ne _ _ (by omega)).trans ((hfr45 _ (by omega)).trans ((va_up_ne _ _ (by omega)).trans ((va_up_ne _ _ (by omega)).trans (va_up_self _ _ _)))))))))))))))))]; congr 6), ((va_up_ne _ _ (by omega)).trans ((hfr89 _ (by omega)).trans ((va_up_ne _ _ (by omega)).trans ((va_up_ne _ _ (by omega)).trans ((hfr78 _ (by omega)).trans ((va_up_ne _ _ (by omega)).trans ((va_up_ne _ _ (by omega)).trans ((hfr67 _ (by omega)).trans ((va_up_ne _ _ (by omega)).trans ((va_up_ne _ _ (by omega)).trans ((hfr56 _ (by omega)).trans ((va_up_ne _ _ (by omega)).trans ((va_up_ne _ _ (by omega)).trans ((hfr45 _ (by omega)).trans ((va_up_ne _ _ (by omega)).trans (va_up_self _ _ _)))))))))))))))), fun j hj => by omega⟩ (Nat.lt_succ_self _) H locs ls hN (lv_sub hl [0, 1] rfl)
end ZCp
