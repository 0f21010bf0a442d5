section ZLv
set_option maxRecDepth 100000 in
set_option maxHeartbeats 8000000 in
theorem zlaw_pre (l : Launch) {pg : Program} {en : Env} {st : State} {mi : MethodId} {ag : Array Value} {bl : List Frame} {mt : Method} {cd : Code} {Q : State → Prop} {D : va_G} {cI cJ cZ cP cS cM : ClassId} {L Lx : List Nat} {sz : Nat} {f : Nat → va_E} {H : Heap} {locs : List Loc} {ls : Array Slot} (CX : zC pg st mi ag mt cd cL_law 6 ret RL wsL_law)
  (hgo : ∀ (p : Int) (H : Heap) (locs : List Loc) (ls : Array Slot), (p = 2 ∨ p = 3 ∨ p = 5 ∨ p = 7) → zW D (zT cI cJ cZ cP cS cM) Lx (zQ L sz) st f st.heap H locs → lv_has ls 6 [(1, .int (zI p)), (0, .ref (D.2 96 3))] → W pg l en ({ frames := 16, cells := 600000, slots := 7302250, locals := 624 } : Room) st mi ag bl mt cd H locs 0 0 Q (F0 mi 11 ls []))
  (hL : D.2 95 0 ≤ 260) (hW : zW D (zT cI cJ cZ cP cS cM) Lx (zQ L sz) st f st.heap H locs) (hl : lv_has ls 6 [(0, .ref (D.2 96 3))]) : W pg l en ({ frames := 16, cells := 600000, slots := 7302250, locals := 624 } : Room) st mi ag bl mt cd H locs 0 0 Q (F0 mi 0 ls []) := by
  have hX0 := CX.1
  have hB0 := CX.2.1
  refine z_gets CX hW hW.2.2.2.2.2.2.2.2.2.2.2.2.2.1 (zws_at 0 0 (by rfl)) rfl dL_law_0 ?_
  refine lv_aload_n hX0 hB0 dL_law_3 rfl (lv_at hl 0 rfl) ?_
  refine lv_iconst (v := zI 0) hX0 hB0 dL_law_4 rfl ?_
  refine lv_iconst (v := zI 4) hX0 hB0 dL_law_5 rfl ?_
  refine z_calli hW (va_runS (As := [.ref (D.2 96 3), .int (zI 0), .int (zI 4)]) (rest := [.ref (D.2 96 2)]) CX.fix (c_pick l (f := f) 0 4 hL (by omega) (by omega)) (va_cwS 3 CX.fix.2.2.2.2 gL_law_L_pick rfl rfl rfl (by decide +kernel) ⟨Nat.le_of_ble_eq_true rfl, Nat.le_of_ble_eq_true rfl⟩) (z_preS CX hW) rfl rfl hl.1 rfl (lv_room (Nat.le_of_ble_eq_true rfl)) dL_law_6 ⟨by show _ ≤ 600000; omega, by show _ ≤ 7302250; omega⟩) (fun zv gn H locs hok6 hW => ?_)
  obtain ⟨hpk1, eg⟩ := hok6
  rw [eg] at hW
  clear eg
  obtain ⟨pk1, epk1⟩ : ∃ q, q = zv := ⟨_, rfl⟩
  rw [← epk1] at hpk1 ⊢
  clear epk1
  refine z_tald (d := zPR) (z := zPR pk1.toNat) CX hW hW.2.2.2.2.2.2.2.2.2.2.2.2.2.2.1 (by refine ⟨?_, ?_, ?_⟩ <;> omega) rfl dL_law_9 ?_
  refine lv_istore_n (lv' := [(1, .int (zI (zPR pk1.toNat))), (0, .ref (D.2 96 3))]) hX0 hB0 dL_law_10 rfl hl (by decide) rfl (fun ls hl => ?_)
  exact hgo _ H locs ls (by rcases (show pk1 = 0 ∨ pk1 = 1 ∨ pk1 = 2 ∨ pk1 = 3 by omega) with e | e | e | e <;> subst e <;> decide) hW hl
set_option maxRecDepth 100000 in
set_option maxHeartbeats 8000000 in
theorem zlaw_whole (hPar : zParse) {p : Program} {e : Env} {s : State} {m : MethodId} {below : List Frame} {meth : Method} {c : Code} (l : Launch) {b L : Nat} {xs : Nat → Int32} (hL : L ≤ 260) (C0 : lw_At p s m meth c b L xs) : W p l e room_1 s m #[Value.ref b] below meth c s.heap [] 0 0 (lw_Z below #[Value.ref b] s) (entryFrame m ([Value.ref b] : List Value).toArray 6) := by
  obtain ⟨hx, hb, hr, hml, hown, hts0, hX, hbl, hlocks, hgv⟩ := id C0
  have hts := zTB_ok hts0
  obtain ⟨D, cI, cJ, cZ, cP, cS, cM, ⟨hKn, hSt⟩, hDb, hDL⟩ := zlaw_world hts (flat_of_before _ hgv) hX hbl
  subst hDb
  have CX : zC p s m #[.ref (D.2 96 3)] meth c cL_law 6 ret RL wsL_law := ⟨hx, hb, hml, hown, fun w h => hts w (wsL_law_in w h), hlocks, hr, zOK_of hts⟩
  have hl := lv_entry ([.ref (D.2 96 3)]) (n := 6) (Nat.le_of_ble_eq_true rfl)
  rw [lg_entry_eq]
  generalize (lg_sl ([.ref (D.2 96 3)]) ++ List.replicate (6 - (lg_sl ([.ref (D.2 96 3)])).length) Slot.unset).toArray = ls at hl ⊢
  have hl : lv_has ls 6 [(0, .ref (D.2 96 3))] := hl
  have hW : zW D (zT cI cJ cZ cP cS cM) [] (zQ [] s.heap.size) s (fun _ => zJ) s.heap s.heap [] := ⟨fun k q h => by simp [va_pl] at h, ⟨fun i j p q h => by simp [va_pl] at h, fun k q h => by simp [va_pl] at h⟩, va_S.rf, hKn, fun a h => absurd rfl h, fun q h => Or.inr h, hSt⟩
  refine zlaw_pre l CX (fun P H locs ls hp4 hW hl => ?_) (by omega) hW hl
  have hN := zN.start hW rfl
  refine zn_new (ci := 11) (fs := [.null, .null, .null, .null, .null, .null, .null, .null, .null, .null, .null, .int (zI 0), .int (zI 0)]) CX hN (fun w h => List.mem_flatten.mpr ⟨wsX110, List.mem_of_getElem? (i := 38) rfl, h⟩) tyX11 tyX11_ok (zws_at 0 1 (by rfl)) (zws_at 0 2 (by rfl)) (zws_at 0 3 (by rfl)) rfl (fun j hj => by rcases (show j = 0 ∨ j = 1 ∨ j = 2 ∨ j = 3 ∨ j = 4 ∨ j = 5 ∨ j = 6 ∨ j = 7 ∨ j = 8 ∨ j = 9 ∨ j = 10 ∨ j = 11 ∨ j = 12 by omega) with rfl | rfl | rfl | rfl | rfl | rfl | rfl | rfl | rfl | rfl | rfl | rfl | rfl <;> rfl) (Nat.le_of_ble_eq_true rfl) (Nat.le_of_ble_eq_true rfl) dL_law_11 (fun H1 hN => ?_)
  have hW := hN.1
  refine lv_dup CX.1 CX.2.1 dL_law_14 rfl ?_
  refine zn_callv hN (va_runI (As := []) (rest := [.ref (H.size + 0)]) CX.fix (c_CM_init l (f := va_up (fun _ => zJ) (H.size + 0) (.inr (11, [.null, .null, .null, .null, .null, .null, .null, .null, .null, .null, .null, .int (zI 0), .int (zI 0)]))) (H.size + 0) (va_up_self _ _ _)) (cwI 0 CX.fix.2.2.2.2 gL_law_X11_init rfl rfl rfl (CX.at (zws_at 0 3 (by rfl))) (CX.at (zws_at 0 12 (by rfl))) (CX.at (zws_at 0 13 (by rfl))) rfl (by decide +kernel) ⟨Nat.le_of_ble_eq_true rfl, Nat.le_of_ble_eq_true rfl⟩) (hN.2 ▸ (z_preS CX hW (As := [.ref (H.size + 0)]))) rfl rfl hl.1 rfl (lv_room (Nat.le_of_ble_eq_true rfl)) dL_law_15 ⟨Nat.le_of_ble_eq_true rfl, Nat.le_of_ble_eq_true rfl⟩) (fun g4 H2 locs2 hok hN => ?_)
  obtain ⟨hf4, h4⟩ := hok
  refine lv_astore_n (lv' := [(2, .ref (H.size + 0)), (1, .int (zI P)), (0, .ref (D.2 96 3))]) CX.1 CX.2.1 dL_law_18 rfl hl (by decide) rfl (fun ls hl => ?_)
  refine W.widen (k := 681) (n := 21718) (Nat.le_of_ble_eq_true rfl) (Nat.le_of_ble_eq_true rfl) ?_
  have hob : zOb (H.size + 0) g4 := fun q h1 h2 => zW.nz hN.1 (by rw [List.nil_append, List.mem_range'_1]; omega)
  refine zlaw_go hPar l (H.size + 0) P CX (fun pc f Lx H locs ls hd hW => ?_) (by omega) hp4 (zCP0 h4) hob hN.1 hl
  refine va_forget (fun q hq => ?_) ?_
  · have h := hW.2.2.1.2.2 q hq
    rcases h with h | h
    · exact absurd h List.not_mem_nil
    · exact h
  · exact lw_ret CX.1 CX.2.1 CX.2.2.2.2.2.2.1 CX.2.2.2.2.2.1 hd
end ZLv
