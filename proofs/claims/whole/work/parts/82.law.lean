section ZLa
theorem zCP.same {cI cP cS cZ cM : ClassId} {o : Nat} {M : zCt} {f g : Nat → va_E} (h : zCP cI cP cS cZ cM o M f) (hs : ∀ q, o ≤ q → q < o + 681 → g q = f q) : zCP cI cP cS cZ cM o M g :=
  ⟨zX0.same h.c0 (fun q h1 h2 => hs q (by omega) (by omega)), zX1.same h.c1 (fun q h1 h2 => hs q (by omega) (by omega)), zX2.same h.c2 (fun q h1 h2 => hs q (by omega) (by omega)), zX3.same h.c3 (fun q h1 h2 => hs q (by omega) (by omega)), zX4.same h.c4 (fun q h1 h2 => hs q (by omega) (by omega)), zX5.same h.c5 (fun q h1 h2 => hs q (by omega) (by omega)), zX6.same h.c6 (fun q h1 h2 => hs q (by omega) (by omega)), zX7.same h.c7 (fun q h1 h2 => hs q (by omega) (by omega)), zX8.same h.c8 (fun q h1 h2 => hs q (by omega) (by omega)), zX9.same h.c9 (fun q h1 h2 => hs q (by omega) (by omega)), zX10.same h.c10 (fun q h1 h2 => hs q (by omega) (by omega)), zX11.same h.c11 (fun q h1 h2 => hs q (by omega) (by omega)), zX12.same h.c12 (fun q h1 h2 => hs q (by omega) (by omega))⟩
theorem zMO_fix {cI cJ : ClassId} {o : Nat} {S : zS2} {f g : Nat → va_E} (h : zMO cI cJ o S f = f) (hs : ∀ q, o ≤ q → q < o + 21 → g q = f q) : zMO cI cJ o S g = g := by
  funext q
  by_cases e : o ≤ q ∧ q < o + 21
  · rw [hs q e.1 e.2, ← h]
    unfold zMO
    rw [if_pos e, if_pos e]
  · exact zMO_out e
theorem zMO_id {cI cJ : ClassId} {o : Nat} {S : zS2} {f : Nat → va_E} : zMO cI cJ o S (zMO cI cJ o S f) = zMO cI cJ o S f := by
  funext q
  unfold zMO
  split <;> rfl
/-- the script's ints -/
def zx (xs : Nat → Int32) (j : Nat) : Int := (xs j).toInt
theorem zx_e (xs : Nat → Int32) (j : Nat) : xs j = zI (zx xs j) := (Int32.ofInt_toInt _).symm
theorem zx_r (xs : Nat → Int32) (j : Nat) : -2147483648 ≤ zx xs j ∧ zx xs j ≤ 2147483647 := ⟨Int32.le_toInt _, by have := Int32.toInt_lt (xs j); show (xs j).toInt ≤ _; omega⟩
theorem z_sld {p : Program} {l : Launch} {e : Env} {R : Room} {s : State} {m : MethodId} {args : Array Value} {below : List Frame} {meth : Method} {c : Code} {H : Heap} {locs : List Loc} {cells slots : Nat} {Q : State → Prop} {cc : ByteArray} {nL pc : Nat} {ret : Option FieldType} {own : String} {Ts : List Cond} {ls : Array Slot} {rest : List Value} {D : va_G} {tys : List (ClassId × FieldType)} {Lp : List Nat} {A : Nat → Prop} {f : Nat → va_E} {b L : Nat} {xs : Nat → Int32} (C : zC p s m args meth c cc nL ret own Ts) (hW : zW D tys Lp A s f s.heap H locs) (hX : va_X b L xs s s.heap) (hbl : b < s.heap.size) (hbA : ¬ A b) {i : Int} (hi : 0 ≤ i) (hi2 : i < L) (hL : L ≤ 4096) (hdg : decode cc pc = .ok (.iaload, 1))
    (kk : W p l e R s m args below meth c H locs cells slots Q (F0 m (pc + 1) ls (.int (zI (zx xs i.toNat)) :: rest))) : W p l e R s m args below meth c H locs cells slots Q (F0 m pc ls (.int (zI i) :: .ref b :: rest)) := by
  refine va_sld C.1 C.2.1 hX hbl hbA hW.2.2.1 (zI_in hi hi2 (by omega)) hdg ?_
  rw [zI_clamp hi (by omega), zx_e xs]
  exact kk
set_option maxRecDepth 100000 in
set_option maxHeartbeats 4000000 in
theorem zl_0 {p : Program} {l : Launch} {e : Env} {s : State} {m : MethodId} {below : List Frame} {meth : Method} {c : Code} {H : Heap} {locs : List Loc} {Q : State → Prop} {ls : Array Slot} {D : va_G} {cI cJ cZ cP cS cM : ClassId} {Lp : List Nat} {A : Nat → Prop} {f : Nat → va_E} {b L o o2 : Nat} {xs : Nat → Int32} {i : Int} {M : zCt} {S : zS2} (CX : zC p s m #[.ref b] meth c cL_law 4 ret RL wsL_law) (hX : va_X b L xs s s.heap) (hbl : b < s.heap.size) (hbA : ¬ A b) (hi : 0 ≤ i) (hi2 : i + 8 ≤ L) (hL : L ≤ 4096) (hW : zW D (zT cI cJ cZ cP cS cM) Lp A s f s.heap H locs) (hP : zCP cI cP cS cZ cM o M f) (hC : zCI M) (hO : zMO cI cJ o2 S f = f) (hI : mI S) (hd : o + 681 ≤ o2 ∨ o2 + 21 ≤ o) (hl : lv_has ls 4 [(3, .int (zI i)), (2, .ref o2), (1, .ref o), (0, .ref b)]) (hE : (zc_feed M (zx xs (i + 1).toNat) (zx xs (i + 2).toNat) (zx xs (i + 3).toNat) (zx xs (i + 4).toNat) (zx xs (i + 5).toNat)).1 = (zm_feed S (zx xs (i + 1).toNat) (zx xs (i + 2).toNat) (zx xs (i + 3).toNat) (zx xs (i + 4).toNat) (zx xs (i + 5).toNat)).1)
    (kk : ∀ (g : Nat → va_E) (H : Heap) (locs : List Loc), zW D (zT cI cJ cZ cP cS cM) Lp A s g s.heap H locs → zCP cI cP cS cZ cM o (zc_feed M (zx xs (i + 1).toNat) (zx xs (i + 2).toNat) (zx xs (i + 3).toNat) (zx xs (i + 4).toNat) (zx xs (i + 5).toNat)).2 g → zCI (zc_feed M (zx xs (i + 1).toNat) (zx xs (i + 2).toNat) (zx xs (i + 3).toNat) (zx xs (i + 4).toNat) (zx xs (i + 5).toNat)).2 → zMO cI cJ o2 (zm_feed S (zx xs (i + 1).toNat) (zx xs (i + 2).toNat) (zx xs (i + 3).toNat) (zx xs (i + 4).toNat) (zx xs (i + 5).toNat)).2 g = g → mI (zm_feed S (zx xs (i + 1).toNat) (zx xs (i + 2).toNat) (zx xs (i + 3).toNat) (zx xs (i + 4).toNat) (zx xs (i + 5).toNat)).2 → W p l e room_1 s m #[.ref b] below meth c H locs 600000 7302250 Q (F0 m 1522 ls [])) : W p l e room_1 s m #[.ref b] below meth c H locs 600000 7302250 Q (F0 m 184 ls []) := by
  refine lv_aload_n CX.1 CX.2.1 dL_law_184 rfl (lv_at hl 2 rfl) ?_
  refine lv_aload_n CX.1 CX.2.1 dL_law_185 rfl (lv_at hl 3 rfl) ?_
  refine lv_iload_n CX.1 CX.2.1 dL_law_186 rfl (lv_at hl 0 rfl) ?_
  refine lv_iconst (v := zI 1) CX.1 CX.2.1 dL_law_187 rfl ?_
  refine z_iadd (z := i + 1) CX dL_law_188 rfl ?_
  refine z_sld CX hW hX hbl hbA (by omega) (by omega) hL dL_law_189 ?_
  refine lv_aload_n CX.1 CX.2.1 dL_law_190 rfl (lv_at hl 3 rfl) ?_
  refine lv_iload_n CX.1 CX.2.1 dL_law_191 rfl (lv_at hl 0 rfl) ?_
  refine lv_iconst (v := zI 2) CX.1 CX.2.1 dL_law_192 rfl ?_
  refine z_iadd (z := i + 2) CX dL_law_193 rfl ?_
  refine z_sld CX hW hX hbl hbA (by omega) (by omega) hL dL_law_194 ?_
  refine lv_aload_n CX.1 CX.2.1 dL_law_195 rfl (lv_at hl 3 rfl) ?_
  refine lv_iload_n CX.1 CX.2.1 dL_law_196 rfl (lv_at hl 0 rfl) ?_
  refine lv_iconst (v := zI 3) CX.1 CX.2.1 dL_law_197 rfl ?_
  refine z_iadd (z := i + 3) CX dL_law_198 rfl ?_
  refine z_sld CX hW hX hbl hbA (by omega) (by omega) hL dL_law_199 ?_
  refine lv_aload_n CX.1 CX.2.1 dL_law_200 rfl (lv_at hl 3 rfl) ?_
  refine lv_iload_n CX.1 CX.2.1 dL_law_201 rfl (lv_at hl 0 rfl) ?_
  refine lv_iconst (v := zI 4) CX.1 CX.2.1 dL_law_202 rfl ?_
  refine z_iadd (z := i + 4) CX dL_law_203 rfl ?_
  refine z_sld CX hW hX hbl hbA (by omega) (by omega) hL dL_law_204 ?_
  refine lv_aload_n CX.1 CX.2.1 dL_law_205 rfl (lv_at hl 3 rfl) ?_
  refine lv_iload_n CX.1 CX.2.1 dL_law_206 rfl (lv_at hl 0 rfl) ?_
  refine lv_iconst (v := zI 5) CX.1 CX.2.1 dL_law_207 rfl ?_
  refine z_iadd (z := i + 5) CX dL_law_208 rfl ?_
  refine z_sld CX hW hX hbl hbA (by omega) (by omega) hL dL_law_209 ?_
  refine z_calli hW (va_runV (C := RX11) (As := [.int (zI (zx xs (i + 1).toNat)), .int (zI (zx xs (i + 2).toNat)), .int (zI (zx xs (i + 3).toNat)), .int (zI (zx xs (i + 4).toNat)), .int (zI (zx xs (i + 5).toNat))]) (rest := []) CX.fix (zd_feed l o M (zx xs (i + 1).toNat) (zx xs (i + 2).toNat) (zx xs (i + 3).toNat) (zx xs (i + 4).toNat) (zx xs (i + 5).toNat) hP hC (zx_r xs _) (zx_r xs _) (zx_r xs _) (zx_r xs _) (zx_r xs _) ) (cwV 5 CX.fix.2.2.2.2 gL_law_X11_feed rfl rfl rfl (by decide +kernel) ⟨Nat.le_of_ble_eq_true rfl, Nat.le_of_ble_eq_true rfl⟩) (z_preV CX hW (r := (RX11, TX11, 13)) (show f o = _ from hP.c0) rfl) rfl rfl hl.1 rfl (lv_room (Nat.le_of_ble_eq_true rfl)) dL_law_210 ⟨Nat.le_of_ble_eq_true rfl, Nat.le_of_ble_eq_true rfl⟩) (fun z1 g1 H locs hok hW => ?_)
  obtain ⟨hz1, hP1, hC1, hF1, _⟩ := hok
  have hO1 : zMO cI cJ o2 S g1 = g1 := zMO_fix hO (fun q h1 h2 => hF1 q (by omega))
  have hW : zW D (zT cI cJ cZ cP cS cM) Lp A s (zMO cI cJ o2 S g1) s.heap H locs := by rw [hO1]; exact hW
  refine lv_aload_n CX.1 CX.2.1 dL_law_213 rfl (lv_at hl 1 rfl) ?_
  refine lv_aload_n CX.1 CX.2.1 dL_law_214 rfl (lv_at hl 3 rfl) ?_
  refine lv_iload_n CX.1 CX.2.1 dL_law_215 rfl (lv_at hl 0 rfl) ?_
  refine lv_iconst (v := zI 1) CX.1 CX.2.1 dL_law_216 rfl ?_
  refine z_iadd (z := i + 1) CX dL_law_217 rfl ?_
  refine z_sld CX hW hX hbl hbA (by omega) (by omega) hL dL_law_218 ?_
  refine lv_aload_n CX.1 CX.2.1 dL_law_219 rfl (lv_at hl 3 rfl) ?_
  refine lv_iload_n CX.1 CX.2.1 dL_law_220 rfl (lv_at hl 0 rfl) ?_
  refine lv_iconst (v := zI 2) CX.1 CX.2.1 dL_law_221 rfl ?_
  refine z_iadd (z := i + 2) CX dL_law_222 rfl ?_
  refine z_sld CX hW hX hbl hbA (by omega) (by omega) hL dL_law_223 ?_
  refine lv_aload_n CX.1 CX.2.1 dL_law_224 rfl (lv_at hl 3 rfl) ?_
  refine lv_iload_n CX.1 CX.2.1 dL_law_225 rfl (lv_at hl 0 rfl) ?_
  refine lv_iconst (v := zI 3) CX.1 CX.2.1 dL_law_226 rfl ?_
  refine z_iadd (z := i + 3) CX dL_law_227 rfl ?_
  refine z_sld CX hW hX hbl hbA (by omega) (by omega) hL dL_law_228 ?_
  refine lv_aload_n CX.1 CX.2.1 dL_law_229 rfl (lv_at hl 3 rfl) ?_
  refine lv_iload_n CX.1 CX.2.1 dL_law_230 rfl (lv_at hl 0 rfl) ?_
  refine lv_iconst (v := zI 4) CX.1 CX.2.1 dL_law_231 rfl ?_
  refine z_iadd (z := i + 4) CX dL_law_232 rfl ?_
  refine z_sld CX hW hX hbl hbA (by omega) (by omega) hL dL_law_233 ?_
  refine lv_aload_n CX.1 CX.2.1 dL_law_234 rfl (lv_at hl 3 rfl) ?_
  refine lv_iload_n CX.1 CX.2.1 dL_law_235 rfl (lv_at hl 0 rfl) ?_
  refine lv_iconst (v := zI 5) CX.1 CX.2.1 dL_law_236 rfl ?_
  refine z_iadd (z := i + 5) CX dL_law_237 rfl ?_
  refine z_sld CX hW hX hbl hbA (by omega) (by omega) hL dL_law_238 ?_
  refine z_calli hW (va_runV (C := RX12) (As := [.int (zI (zx xs (i + 1).toNat)), .int (zI (zx xs (i + 2).toNat)), .int (zI (zx xs (i + 3).toNat)), .int (zI (zx xs (i + 4).toNat)), .int (zI (zx xs (i + 5).toNat))]) (rest := [.int (zI z1)]) CX.fix (zk_feed l (f := g1) o2 S (zx xs (i + 1).toNat) (zx xs (i + 2).toNat) (zx xs (i + 3).toNat) (zx xs (i + 4).toNat) (zx xs (i + 5).toNat) hI (zx_r xs _) (zx_r xs _) (zx_r xs _) (zx_r xs _) (zx_r xs _) ) (cwV 5 CX.fix.2.2.2.2 gL_law_X12_feed rfl rfl rfl (by decide +kernel) ⟨Nat.le_of_ble_eq_true rfl, Nat.le_of_ble_eq_true rfl⟩) (z_preV CX hW (r := (RX12, TX12, 37)) zMO_0 rfl) rfl rfl hl.1 rfl (lv_room (Nat.le_of_ble_eq_true rfl)) dL_law_239 ⟨Nat.le_of_ble_eq_true rfl, Nat.le_of_ble_eq_true rfl⟩) (fun z2 g2 H locs hok hW => ?_)
  obtain ⟨hz2, hg2, hI2, _, _⟩ := hok
  rw [hg2] at hW
  have hz : z1 = z2 := hz1.trans (hE.trans hz2.symm)
  rw [hz]
  refine lv_icmp_eq (tgt := 1522) CX.1 CX.2.1 dL_law_242 (by decide) (fun _ => ?_) (fun h => absurd rfl h)
  exact kk _ H locs hW (hP1.same (fun q h1 h2 => by first | exact zMO_out (by omega) | rfl)) hC1 zMO_id hI2
set_option maxRecDepth 100000 in
set_option maxHeartbeats 4000000 in
theorem zl_1 {p : Program} {l : Launch} {e : Env} {s : State} {m : MethodId} {below : List Frame} {meth : Method} {c : Code} {H : Heap} {locs : List Loc} {Q : State → Prop} {ls : Array Slot} {D : va_G} {cI cJ cZ cP cS cM : ClassId} {Lp : List Nat} {A : Nat → Prop} {f : Nat → va_E} {b L o o2 : Nat} {xs : Nat → Int32} {i : Int} {M : zCt} {S : zS2} (CX : zC p s m #[.ref b] meth c cL_law 4 ret RL wsL_law) (hX : va_X b L xs s s.heap) (hbl : b < s.heap.size) (hbA : ¬ A b) (hi : 0 ≤ i) (hi2 : i + 8 ≤ L) (hL : L ≤ 4096) (hW : zW D (zT cI cJ cZ cP cS cM) Lp A s f s.heap H locs) (hP : zCP cI cP cS cZ cM o M f) (hC : zCI M) (hO : zMO cI cJ o2 S f = f) (hI : mI S) (hd : o + 681 ≤ o2 ∨ o2 + 21 ≤ o) (hl : lv_has ls 4 [(3, .int (zI i)), (2, .ref o2), (1, .ref o), (0, .ref b)]) (hE : (zc_end M (zx xs (i + 1).toNat)).1 = (zm_end S (zx xs (i + 1).toNat)).1)
    (kk : ∀ (g : Nat → va_E) (H : Heap) (locs : List Loc), zW D (zT cI cJ cZ cP cS cM) Lp A s g s.heap H locs → zCP cI cP cS cZ cM o (zc_end M (zx xs (i + 1).toNat)).2 g → zCI (zc_end M (zx xs (i + 1).toNat)).2 → zMO cI cJ o2 (zm_end S (zx xs (i + 1).toNat)).2 g = g → mI (zm_end S (zx xs (i + 1).toNat)).2 → W p l e room_1 s m #[.ref b] below meth c H locs 600000 7302250 Q (F0 m 1522 ls [])) : W p l e room_1 s m #[.ref b] below meth c H locs 600000 7302250 Q (F0 m 247 ls []) := by
  refine lv_aload_n CX.1 CX.2.1 dL_law_247 rfl (lv_at hl 2 rfl) ?_
  refine lv_aload_n CX.1 CX.2.1 dL_law_248 rfl (lv_at hl 3 rfl) ?_
  refine lv_iload_n CX.1 CX.2.1 dL_law_249 rfl (lv_at hl 0 rfl) ?_
  refine lv_iconst (v := zI 1) CX.1 CX.2.1 dL_law_250 rfl ?_
  refine z_iadd (z := i + 1) CX dL_law_251 rfl ?_
  refine z_sld CX hW hX hbl hbA (by omega) (by omega) hL dL_law_252 ?_
  refine z_calli hW (va_runV (C := RX11) (As := [.int (zI (zx xs (i + 1).toNat))]) (rest := []) CX.fix (zd_end l o M (zx xs (i + 1).toNat) hP hC (zx_r xs _) ) (cwV 1 CX.fix.2.2.2.2 gL_law_X11_end rfl rfl rfl (by decide +kernel) ⟨Nat.le_of_ble_eq_true rfl, Nat.le_of_ble_eq_true rfl⟩) (z_preV CX hW (r := (RX11, TX11, 13)) (show f o = _ from hP.c0) rfl) rfl rfl hl.1 rfl (lv_room (Nat.le_of_ble_eq_true rfl)) dL_law_253 ⟨Nat.le_of_ble_eq_true rfl, Nat.le_of_ble_eq_true rfl⟩) (fun z1 g1 H locs hok hW => ?_)
  obtain ⟨hz1, hP1, hC1, hF1, _⟩ := hok
  have hO1 : zMO cI cJ o2 S g1 = g1 := zMO_fix hO (fun q h1 h2 => hF1 q (by omega))
  have hW : zW D (zT cI cJ cZ cP cS cM) Lp A s (zMO cI cJ o2 S g1) s.heap H locs := by rw [hO1]; exact hW
  refine lv_aload_n CX.1 CX.2.1 dL_law_256 rfl (lv_at hl 1 rfl) ?_
  refine lv_aload_n CX.1 CX.2.1 dL_law_257 rfl (lv_at hl 3 rfl) ?_
  refine lv_iload_n CX.1 CX.2.1 dL_law_258 rfl (lv_at hl 0 rfl) ?_
  refine lv_iconst (v := zI 1) CX.1 CX.2.1 dL_law_259 rfl ?_
  refine z_iadd (z := i + 1) CX dL_law_260 rfl ?_
  refine z_sld CX hW hX hbl hbA (by omega) (by omega) hL dL_law_261 ?_
  refine z_calli hW (va_runV (C := RX12) (As := [.int (zI (zx xs (i + 1).toNat))]) (rest := [.int (zI z1)]) CX.fix (zk_end l (f := g1) o2 S (zx xs (i + 1).toNat) hI (zx_r xs _) ) (cwV 1 CX.fix.2.2.2.2 gL_law_X12_end rfl rfl rfl (by decide +kernel) ⟨Nat.le_of_ble_eq_true rfl, Nat.le_of_ble_eq_true rfl⟩) (z_preV CX hW (r := (RX12, TX12, 37)) zMO_0 rfl) rfl rfl hl.1 rfl (lv_room (Nat.le_of_ble_eq_true rfl)) dL_law_262 ⟨Nat.le_of_ble_eq_true rfl, Nat.le_of_ble_eq_true rfl⟩) (fun z2 g2 H locs hok hW => ?_)
  obtain ⟨hz2, hg2, hI2, _, _⟩ := hok
  rw [hg2] at hW
  have hz : z1 = z2 := hz1.trans (hE.trans hz2.symm)
  rw [hz]
  refine lv_icmp_eq (tgt := 1522) CX.1 CX.2.1 dL_law_265 (by decide) (fun _ => ?_) (fun h => absurd rfl h)
  exact kk _ H locs hW (hP1.same (fun q h1 h2 => by first | exact zMO_out (by omega) | rfl)) hC1 zMO_id hI2
set_option maxRecDepth 100000 in
set_option maxHeartbeats 4000000 in
theorem zl_2 {p : Program} {l : Launch} {e : Env} {s : State} {m : MethodId} {below : List Frame} {meth : Method} {c : Code} {H : Heap} {locs : List Loc} {Q : State → Prop} {ls : Array Slot} {D : va_G} {cI cJ cZ cP cS cM : ClassId} {Lp : List Nat} {A : Nat → Prop} {f : Nat → va_E} {b L o o2 : Nat} {xs : Nat → Int32} {i : Int} {M : zCt} {S : zS2} (CX : zC p s m #[.ref b] meth c cL_law 4 ret RL wsL_law) (hX : va_X b L xs s s.heap) (hbl : b < s.heap.size) (hbA : ¬ A b) (hi : 0 ≤ i) (hi2 : i + 8 ≤ L) (hL : L ≤ 4096) (hW : zW D (zT cI cJ cZ cP cS cM) Lp A s f s.heap H locs) (hP : zCP cI cP cS cZ cM o M f) (hC : zCI M) (hO : zMO cI cJ o2 S f = f) (hI : mI S) (hd : o + 681 ≤ o2 ∨ o2 + 21 ≤ o) (hl : lv_has ls 4 [(3, .int (zI i)), (2, .ref o2), (1, .ref o), (0, .ref b)]) (hE : (zc_curves M ).1 = (zm_curves S ).1)
    (kk : ∀ (g : Nat → va_E) (H : Heap) (locs : List Loc), zW D (zT cI cJ cZ cP cS cM) Lp A s g s.heap H locs → zCP cI cP cS cZ cM o (zc_curves M ).2 g → zCI (zc_curves M ).2 → zMO cI cJ o2 (zm_curves S ).2 g = g → mI (zm_curves S ).2 → W p l e room_1 s m #[.ref b] below meth c H locs 600000 7302250 Q (F0 m 1522 ls [])) : W p l e room_1 s m #[.ref b] below meth c H locs 600000 7302250 Q (F0 m 270 ls []) := by
  refine lv_aload_n CX.1 CX.2.1 dL_law_270 rfl (lv_at hl 2 rfl) ?_
  refine z_calli hW (va_runV (C := RX11) (As := []) (rest := []) CX.fix (zd_curves l o M  hP hC  ) (cwV 0 CX.fix.2.2.2.2 gL_law_X11_curves rfl rfl rfl (by decide +kernel) ⟨Nat.le_of_ble_eq_true rfl, Nat.le_of_ble_eq_true rfl⟩) (z_preV CX hW (r := (RX11, TX11, 13)) (show f o = _ from hP.c0) rfl) rfl rfl hl.1 rfl (lv_room (Nat.le_of_ble_eq_true rfl)) dL_law_271 ⟨Nat.le_of_ble_eq_true rfl, Nat.le_of_ble_eq_true rfl⟩) (fun z1 g1 H locs hok hW => ?_)
  obtain ⟨hz1, hP1, hC1, hF1, _⟩ := hok
  have hO1 : zMO cI cJ o2 S g1 = g1 := zMO_fix hO (fun q h1 h2 => hF1 q (by omega))
  have hW : zW D (zT cI cJ cZ cP cS cM) Lp A s (zMO cI cJ o2 S g1) s.heap H locs := by rw [hO1]; exact hW
  refine lv_aload_n CX.1 CX.2.1 dL_law_274 rfl (lv_at hl 1 rfl) ?_
  refine z_calli hW (va_runV (C := RX12) (As := []) (rest := [.int (zI z1)]) CX.fix (zk_curves l (f := g1) o2 S  hI  ) (cwV 0 CX.fix.2.2.2.2 gL_law_X12_curves rfl rfl rfl (by decide +kernel) ⟨Nat.le_of_ble_eq_true rfl, Nat.le_of_ble_eq_true rfl⟩) (z_preV CX hW (r := (RX12, TX12, 37)) zMO_0 rfl) rfl rfl hl.1 rfl (lv_room (Nat.le_of_ble_eq_true rfl)) dL_law_275 ⟨Nat.le_of_ble_eq_true rfl, Nat.le_of_ble_eq_true rfl⟩) (fun z2 g2 H locs hok hW => ?_)
  obtain ⟨hz2, hg2, hI2, _, _⟩ := hok
  rw [hg2] at hW
  have hz : z1 = z2 := hz1.trans (hE.trans hz2.symm)
  rw [hz]
  refine lv_icmp_eq (tgt := 1522) CX.1 CX.2.1 dL_law_278 (by decide) (fun _ => ?_) (fun h => absurd rfl h)
  exact kk _ H locs hW (hP1.same (fun q h1 h2 => by first | exact zMO_out (by omega) | rfl)) hC1 zMO_id hI2
set_option maxRecDepth 100000 in
set_option maxHeartbeats 4000000 in
theorem zl_3 {p : Program} {l : Launch} {e : Env} {s : State} {m : MethodId} {below : List Frame} {meth : Method} {c : Code} {H : Heap} {locs : List Loc} {Q : State → Prop} {ls : Array Slot} {D : va_G} {cI cJ cZ cP cS cM : ClassId} {Lp : List Nat} {A : Nat → Prop} {f : Nat → va_E} {b L o o2 : Nat} {xs : Nat → Int32} {i : Int} {M : zCt} {S : zS2} (CX : zC p s m #[.ref b] meth c cL_law 4 ret RL wsL_law) (hX : va_X b L xs s s.heap) (hbl : b < s.heap.size) (hbA : ¬ A b) (hi : 0 ≤ i) (hi2 : i + 8 ≤ L) (hL : L ≤ 4096) (hW : zW D (zT cI cJ cZ cP cS cM) Lp A s f s.heap H locs) (hP : zCP cI cP cS cZ cM o M f) (hC : zCI M) (hO : zMO cI cJ o2 S f = f) (hI : mI S) (hd : o + 681 ≤ o2 ∨ o2 + 21 ≤ o) (hl : lv_has ls 4 [(3, .int (zI i)), (2, .ref o2), (1, .ref o), (0, .ref b)]) (hE : (zc_fault M (zx xs (i + 1).toNat)).1 = zm_fault S (zx xs (i + 1).toNat))
    (kk : ∀ (g : Nat → va_E) (H : Heap) (locs : List Loc), zW D (zT cI cJ cZ cP cS cM) Lp A s g s.heap H locs → zCP cI cP cS cZ cM o (zc_fault M (zx xs (i + 1).toNat)).2 g → zCI (zc_fault M (zx xs (i + 1).toNat)).2 → zMO cI cJ o2 S g = g → mI S → W p l e room_1 s m #[.ref b] below meth c H locs 600000 7302250 Q (F0 m 1522 ls [])) : W p l e room_1 s m #[.ref b] below meth c H locs 600000 7302250 Q (F0 m 283 ls []) := by
  refine lv_aload_n CX.1 CX.2.1 dL_law_283 rfl (lv_at hl 2 rfl) ?_
  refine lv_aload_n CX.1 CX.2.1 dL_law_284 rfl (lv_at hl 3 rfl) ?_
  refine lv_iload_n CX.1 CX.2.1 dL_law_285 rfl (lv_at hl 0 rfl) ?_
  refine lv_iconst (v := zI 1) CX.1 CX.2.1 dL_law_286 rfl ?_
  refine z_iadd (z := i + 1) CX dL_law_287 rfl ?_
  refine z_sld CX hW hX hbl hbA (by omega) (by omega) hL dL_law_288 ?_
  refine z_calli hW (va_runV (C := RX11) (As := [.int (zI (zx xs (i + 1).toNat))]) (rest := []) CX.fix (zd_fault l o M (zx xs (i + 1).toNat) hP hC (zx_r xs _) ) (cwV 1 CX.fix.2.2.2.2 gL_law_X11_fault rfl rfl rfl (by decide +kernel) ⟨Nat.le_of_ble_eq_true rfl, Nat.le_of_ble_eq_true rfl⟩) (z_preV CX hW (r := (RX11, TX11, 13)) (show f o = _ from hP.c0) rfl) rfl rfl hl.1 rfl (lv_room (Nat.le_of_ble_eq_true rfl)) dL_law_289 ⟨Nat.le_of_ble_eq_true rfl, Nat.le_of_ble_eq_true rfl⟩) (fun z1 g1 H locs hok hW => ?_)
  obtain ⟨hz1, hP1, hC1, hF1, _, _⟩ := hok
  have hO1 : zMO cI cJ o2 S g1 = g1 := zMO_fix hO (fun q h1 h2 => hF1 q (by omega))
  have hW : zW D (zT cI cJ cZ cP cS cM) Lp A s (zMO cI cJ o2 S g1) s.heap H locs := by rw [hO1]; exact hW
  refine lv_aload_n CX.1 CX.2.1 dL_law_292 rfl (lv_at hl 1 rfl) ?_
  refine lv_aload_n CX.1 CX.2.1 dL_law_293 rfl (lv_at hl 3 rfl) ?_
  refine lv_iload_n CX.1 CX.2.1 dL_law_294 rfl (lv_at hl 0 rfl) ?_
  refine lv_iconst (v := zI 1) CX.1 CX.2.1 dL_law_295 rfl ?_
  refine z_iadd (z := i + 1) CX dL_law_296 rfl ?_
  refine z_sld CX hW hX hbl hbA (by omega) (by omega) hL dL_law_297 ?_
  refine z_calli hW (va_runV (C := RX12) (As := [.int (zI (zx xs (i + 1).toNat))]) (rest := [.int (zI z1)]) CX.fix (zk_fault l (f := g1) o2 S (zx xs (i + 1).toNat) hI (zx_r xs _) ) (cwV 1 CX.fix.2.2.2.2 gL_law_X12_fault rfl rfl rfl (by decide +kernel) ⟨Nat.le_of_ble_eq_true rfl, Nat.le_of_ble_eq_true rfl⟩) (z_preV CX hW (r := (RX12, TX12, 37)) zMO_0 rfl) rfl rfl hl.1 rfl (lv_room (Nat.le_of_ble_eq_true rfl)) dL_law_298 ⟨Nat.le_of_ble_eq_true rfl, Nat.le_of_ble_eq_true rfl⟩) (fun z2 g2 H locs hok hW => ?_)
  obtain ⟨hz2, hg2, _⟩ := hok
  rw [hg2] at hW
  have hz : z1 = z2 := hz1.trans (hE.trans hz2.symm)
  rw [hz]
  refine lv_icmp_eq (tgt := 1522) CX.1 CX.2.1 dL_law_301 (by decide) (fun _ => ?_) (fun h => absurd rfl h)
  exact kk _ H locs hW (hP1.same (fun q h1 h2 => by first | exact zMO_out (by omega) | rfl)) hC1 zMO_id hI
set_option maxRecDepth 100000 in
set_option maxHeartbeats 4000000 in
theorem zl_4 {p : Program} {l : Launch} {e : Env} {s : State} {m : MethodId} {below : List Frame} {meth : Method} {c : Code} {H : Heap} {locs : List Loc} {Q : State → Prop} {ls : Array Slot} {D : va_G} {cI cJ cZ cP cS cM : ClassId} {Lp : List Nat} {A : Nat → Prop} {f : Nat → va_E} {b L o o2 : Nat} {xs : Nat → Int32} {i : Int} {M : zCt} {S : zS2} (CX : zC p s m #[.ref b] meth c cL_law 4 ret RL wsL_law) (hX : va_X b L xs s s.heap) (hbl : b < s.heap.size) (hbA : ¬ A b) (hi : 0 ≤ i) (hi2 : i + 8 ≤ L) (hL : L ≤ 4096) (hW : zW D (zT cI cJ cZ cP cS cM) Lp A s f s.heap H locs) (hP : zCP cI cP cS cZ cM o M f) (hC : zCI M) (hO : zMO cI cJ o2 S f = f) (hI : mI S) (hd : o + 681 ≤ o2 ∨ o2 + 21 ≤ o) (hl : lv_has ls 4 [(3, .int (zI i)), (2, .ref o2), (1, .ref o), (0, .ref b)]) (hE : (zc_has M (zx xs (i + 1).toNat)).1 = zm_has S (zx xs (i + 1).toNat))
    (kk : ∀ (g : Nat → va_E) (H : Heap) (locs : List Loc), zW D (zT cI cJ cZ cP cS cM) Lp A s g s.heap H locs → zCP cI cP cS cZ cM o (zc_has M (zx xs (i + 1).toNat)).2 g → zCI (zc_has M (zx xs (i + 1).toNat)).2 → zMO cI cJ o2 S g = g → mI S → W p l e room_1 s m #[.ref b] below meth c H locs 600000 7302250 Q (F0 m 1522 ls [])) : W p l e room_1 s m #[.ref b] below meth c H locs 600000 7302250 Q (F0 m 306 ls []) := by
  refine lv_aload_n CX.1 CX.2.1 dL_law_306 rfl (lv_at hl 2 rfl) ?_
  refine lv_aload_n CX.1 CX.2.1 dL_law_307 rfl (lv_at hl 3 rfl) ?_
  refine lv_iload_n CX.1 CX.2.1 dL_law_308 rfl (lv_at hl 0 rfl) ?_
  refine lv_iconst (v := zI 1) CX.1 CX.2.1 dL_law_309 rfl ?_
  refine z_iadd (z := i + 1) CX dL_law_310 rfl ?_
  refine z_sld CX hW hX hbl hbA (by omega) (by omega) hL dL_law_311 ?_
  refine z_calli hW (va_runV (C := RX11) (As := [.int (zI (zx xs (i + 1).toNat))]) (rest := []) CX.fix (zd_has l o M (zx xs (i + 1).toNat) hP hC (zx_r xs _) ) (cwV 1 CX.fix.2.2.2.2 gL_law_X11_has rfl rfl rfl (by decide +kernel) ⟨Nat.le_of_ble_eq_true rfl, Nat.le_of_ble_eq_true rfl⟩) (z_preV CX hW (r := (RX11, TX11, 13)) (show f o = _ from hP.c0) rfl) rfl rfl hl.1 rfl (lv_room (Nat.le_of_ble_eq_true rfl)) dL_law_312 ⟨Nat.le_of_ble_eq_true rfl, Nat.le_of_ble_eq_true rfl⟩) (fun z1 g1 H locs hok hW => ?_)
  obtain ⟨hz1, hP1, hC1, hF1, _, _⟩ := hok
  have hO1 : zMO cI cJ o2 S g1 = g1 := zMO_fix hO (fun q h1 h2 => hF1 q (by omega))
  have hW : zW D (zT cI cJ cZ cP cS cM) Lp A s (zMO cI cJ o2 S g1) s.heap H locs := by rw [hO1]; exact hW
  refine lv_aload_n CX.1 CX.2.1 dL_law_315 rfl (lv_at hl 1 rfl) ?_
  refine lv_aload_n CX.1 CX.2.1 dL_law_316 rfl (lv_at hl 3 rfl) ?_
  refine lv_iload_n CX.1 CX.2.1 dL_law_317 rfl (lv_at hl 0 rfl) ?_
  refine lv_iconst (v := zI 1) CX.1 CX.2.1 dL_law_318 rfl ?_
  refine z_iadd (z := i + 1) CX dL_law_319 rfl ?_
  refine z_sld CX hW hX hbl hbA (by omega) (by omega) hL dL_law_320 ?_
  refine z_calli hW (va_runV (C := RX12) (As := [.int (zI (zx xs (i + 1).toNat))]) (rest := [.int (zI z1)]) CX.fix (zk_has l (f := g1) o2 S (zx xs (i + 1).toNat) hI (zx_r xs _) ) (cwV 1 CX.fix.2.2.2.2 gL_law_X12_has rfl rfl rfl (by decide +kernel) ⟨Nat.le_of_ble_eq_true rfl, Nat.le_of_ble_eq_true rfl⟩) (z_preV CX hW (r := (RX12, TX12, 37)) zMO_0 rfl) rfl rfl hl.1 rfl (lv_room (Nat.le_of_ble_eq_true rfl)) dL_law_321 ⟨Nat.le_of_ble_eq_true rfl, Nat.le_of_ble_eq_true rfl⟩) (fun z2 g2 H locs hok hW => ?_)
  obtain ⟨hz2, hg2, _⟩ := hok
  rw [hg2] at hW
  have hz : z1 = z2 := hz1.trans (hE.trans hz2.symm)
  rw [hz]
  refine lv_icmp_eq (tgt := 1522) CX.1 CX.2.1 dL_law_324 (by decide) (fun _ => ?_) (fun h => absurd rfl h)
  exact kk _ H locs hW (hP1.same (fun q h1 h2 => by first | exact zMO_out (by omega) | rfl)) hC1 zMO_id hI
set_option maxRecDepth 100000 in
set_option maxHeartbeats 4000000 in
theorem zl_5 {p : Program} {l : Launch} {e : Env} {s : State} {m : MethodId} {below : List Frame} {meth : Method} {c : Code} {H : Heap} {locs : List Loc} {Q : State → Prop} {ls : Array Slot} {D : va_G} {cI cJ cZ cP cS cM : ClassId} {Lp : List Nat} {A : Nat → Prop} {f : Nat → va_E} {b L o o2 : Nat} {xs : Nat → Int32} {i : Int} {M : zCt} {S : zS2} (CX : zC p s m #[.ref b] meth c cL_law 4 ret RL wsL_law) (hX : va_X b L xs s s.heap) (hbl : b < s.heap.size) (hbA : ¬ A b) (hi : 0 ≤ i) (hi2 : i + 8 ≤ L) (hL : L ≤ 4096) (hW : zW D (zT cI cJ cZ cP cS cM) Lp A s f s.heap H locs) (hP : zCP cI cP cS cZ cM o M f) (hC : zCI M) (hO : zMO cI cJ o2 S f = f) (hI : mI S) (hd : o + 681 ≤ o2 ∨ o2 + 21 ≤ o) (hl : lv_has ls 4 [(3, .int (zI i)), (2, .ref o2), (1, .ref o), (0, .ref b)]) (hE : (zc_letter M (zx xs (i + 1).toNat) (zx xs (i + 2).toNat)).1 = zm_letter S (zx xs (i + 1).toNat) (zx xs (i + 2).toNat))
    (kk : ∀ (g : Nat → va_E) (H : Heap) (locs : List Loc), zW D (zT cI cJ cZ cP cS cM) Lp A s g s.heap H locs → zCP cI cP cS cZ cM o (zc_letter M (zx xs (i + 1).toNat) (zx xs (i + 2).toNat)).2 g → zCI (zc_letter M (zx xs (i + 1).toNat) (zx xs (i + 2).toNat)).2 → zMO cI cJ o2 S g = g → mI S → W p l e room_1 s m #[.ref b] below meth c H locs 600000 7302250 Q (F0 m 1522 ls [])) : W p l e room_1 s m #[.ref b] below meth c H locs 600000 7302250 Q (F0 m 329 ls []) := by
  refine lv_aload_n CX.1 CX.2.1 dL_law_329 rfl (lv_at hl 2 rfl) ?_
  refine lv_aload_n CX.1 CX.2.1 dL_law_330 rfl (lv_at hl 3 rfl) ?_
  refine lv_iload_n CX.1 CX.2.1 dL_law_331 rfl (lv_at hl 0 rfl) ?_
  refine lv_iconst (v := zI 1) CX.1 CX.2.1 dL_law_332 rfl ?_
  refine z_iadd (z := i + 1) CX dL_law_333 rfl ?_
  refine z_sld CX hW hX hbl hbA (by omega) (by omega) hL dL_law_334 ?_
  refine lv_aload_n CX.1 CX.2.1 dL_law_335 rfl (lv_at hl 3 rfl) ?_
  refine lv_iload_n CX.1 CX.2.1 dL_law_336 rfl (lv_at hl 0 rfl) ?_
  refine lv_iconst (v := zI 2) CX.1 CX.2.1 dL_law_337 rfl ?_
  refine z_iadd (z := i + 2) CX dL_law_338 rfl ?_
  refine z_sld CX hW hX hbl hbA (by omega) (by omega) hL dL_law_339 ?_
  refine z_calli hW (va_runV (C := RX11) (As := [.int (zI (zx xs (i + 1).toNat)), .int (zI (zx xs (i + 2).toNat))]) (rest := []) CX.fix (zd_letter l o M (zx xs (i + 1).toNat) (zx xs (i + 2).toNat) hP hC (zx_r xs _) (zx_r xs _) ) (cwV 2 CX.fix.2.2.2.2 gL_law_X11_letter rfl rfl rfl (by decide +kernel) ⟨Nat.le_of_ble_eq_true rfl, Nat.le_of_ble_eq_true rfl⟩) (z_preV CX hW (r := (RX11, TX11, 13)) (show f o = _ from hP.c0) rfl) rfl rfl hl.1 rfl (lv_room (Nat.le_of_ble_eq_true rfl)) dL_law_340 ⟨Nat.le_of_ble_eq_true rfl, Nat.le_of_ble_eq_true rfl⟩) (fun z1 g1 H locs hok hW => ?_)
  obtain ⟨hz1, hP1, hC1, hF1, _, _⟩ := hok
  have hO1 : zMO cI cJ o2 S g1 = g1 := zMO_fix hO (fun q h1 h2 => hF1 q (by omega))
  have hW : zW D (zT cI cJ cZ cP cS cM) Lp A s (zMO cI cJ o2 S g1) s.heap H locs := by rw [hO1]; exact hW
  refine lv_aload_n CX.1 CX.2.1 dL_law_343 rfl (lv_at hl 1 rfl) ?_
  refine lv_aload_n CX.1 CX.2.1 dL_law_344 rfl (lv_at hl 3 rfl) ?_
  refine lv_iload_n CX.1 CX.2.1 dL_law_345 rfl (lv_at hl 0 rfl) ?_
  refine lv_iconst (v := zI 1) CX.1 CX.2.1 dL_law_346 rfl ?_
  refine z_iadd (z := i + 1) CX dL_law_347 rfl ?_
  refine z_sld CX hW hX hbl hbA (by omega) (by omega) hL dL_law_348 ?_
  refine lv_aload_n CX.1 CX.2.1 dL_law_349 rfl (lv_at hl 3 rfl) ?_
  refine lv_iload_n CX.1 CX.2.1 dL_law_350 rfl (lv_at hl 0 rfl) ?_
  refine lv_iconst (v := zI 2) CX.1 CX.2.1 dL_law_351 rfl ?_
  refine z_iadd (z := i + 2) CX dL_law_352 rfl ?_
  refine z_sld CX hW hX hbl hbA (by omega) (by omega) hL dL_law_353 ?_
  refine z_calli hW (va_runV (C := RX12) (As := [.int (zI (zx xs (i + 1).toNat)), .int (zI (zx xs (i + 2).toNat))]) (rest := [.int (zI z1)]) CX.fix (zk_letter l (f := g1) o2 S (zx xs (i + 1).toNat) (zx xs (i + 2).toNat) hI (zx_r xs _) (zx_r xs _) ) (cwV 2 CX.fix.2.2.2.2 gL_law_X12_letter rfl rfl rfl (by decide +kernel) ⟨Nat.le_of_ble_eq_true rfl, Nat.le_of_ble_eq_true rfl⟩) (z_preV CX hW (r := (RX12, TX12, 37)) zMO_0 rfl) rfl rfl hl.1 rfl (lv_room (Nat.le_of_ble_eq_true rfl)) dL_law_354 ⟨Nat.le_of_ble_eq_true rfl, Nat.le_of_ble_eq_true rfl⟩) (fun z2 g2 H locs hok hW => ?_)
  obtain ⟨hz2, hg2, _⟩ := hok
  rw [hg2] at hW
  have hz : z1 = z2 := hz1.trans (hE.trans hz2.symm)
  rw [hz]
  refine lv_icmp_eq (tgt := 1522) CX.1 CX.2.1 dL_law_357 (by decide) (fun _ => ?_) (fun h => absurd rfl h)
  exact kk _ H locs hW (hP1.same (fun q h1 h2 => by first | exact zMO_out (by omega) | rfl)) hC1 zMO_id hI
set_option maxRecDepth 100000 in
set_option maxHeartbeats 4000000 in
theorem zl_6 {p : Program} {l : Launch} {e : Env} {s : State} {m : MethodId} {below : List Frame} {meth : Method} {c : Code} {H : Heap} {locs : List Loc} {Q : State → Prop} {ls : Array Slot} {D : va_G} {cI cJ cZ cP cS cM : ClassId} {Lp : List Nat} {A : Nat → Prop} {f : Nat → va_E} {b L o o2 : Nat} {xs : Nat → Int32} {i : Int} {M : zCt} {S : zS2} (CX : zC p s m #[.ref b] meth c cL_law 4 ret RL wsL_law) (hX : va_X b L xs s s.heap) (hbl : b < s.heap.size) (hbA : ¬ A b) (hi : 0 ≤ i) (hi2 : i + 8 ≤ L) (hL : L ≤ 4096) (hW : zW D (zT cI cJ cZ cP cS cM) Lp A s f s.heap H locs) (hP : zCP cI cP cS cZ cM o M f) (hC : zCI M) (hO : zMO cI cJ o2 S f = f) (hI : mI S) (hd : o + 681 ≤ o2 ∨ o2 + 21 ≤ o) (hl : lv_has ls 4 [(3, .int (zI i)), (2, .ref o2), (1, .ref o), (0, .ref b)]) (hE : (zc_term M (zx xs (i + 1).toNat) (zx xs (i + 2).toNat) (zx xs (i + 3).toNat)).1 = zm_term S (zx xs (i + 1).toNat) (zx xs (i + 2).toNat) (zx xs (i + 3).toNat))
    (kk : ∀ (g : Nat → va_E) (H : Heap) (locs : List Loc), zW D (zT cI cJ cZ cP cS cM) Lp A s g s.heap H locs → zCP cI cP cS cZ cM o (zc_term M (zx xs (i + 1).toNat) (zx xs (i + 2).toNat) (zx xs (i + 3).toNat)).2 g → zCI (zc_term M (zx xs (i + 1).toNat) (zx xs (i + 2).toNat) (zx xs (i + 3).toNat)).2 → zMO cI cJ o2 S g = g → mI S → W p l e room_1 s m #[.ref b] below meth c H locs 600000 7302250 Q (F0 m 1522 ls [])) : W p l e room_1 s m #[.ref b] below meth c H locs 600000 7302250 Q (F0 m 362 ls []) := by
  refine lv_aload_n CX.1 CX.2.1 dL_law_362 rfl (lv_at hl 2 rfl) ?_
  refine lv_aload_n CX.1 CX.2.1 dL_law_363 rfl (lv_at hl 3 rfl) ?_
  refine lv_iload_n CX.1 CX.2.1 dL_law_364 rfl (lv_at hl 0 rfl) ?_
  refine lv_iconst (v := zI 1) CX.1 CX.2.1 dL_law_365 rfl ?_
  refine z_iadd (z := i + 1) CX dL_law_366 rfl ?_
  refine z_sld CX hW hX hbl hbA (by omega) (by omega) hL dL_law_367 ?_
  refine lv_aload_n CX.1 CX.2.1 dL_law_368 rfl (lv_at hl 3 rfl) ?_
  refine lv_iload_n CX.1 CX.2.1 dL_law_369 rfl (lv_at hl 0 rfl) ?_
  refine lv_iconst (v := zI 2) CX.1 CX.2.1 dL_law_370 rfl ?_
  refine z_iadd (z := i + 2) CX dL_law_371 rfl ?_
  refine z_sld CX hW hX hbl hbA (by omega) (by omega) hL dL_law_372 ?_
  refine lv_aload_n CX.1 CX.2.1 dL_law_373 rfl (lv_at hl 3 rfl) ?_
  refine lv_iload_n CX.1 CX.2.1 dL_law_374 rfl (lv_at hl 0 rfl) ?_
  refine lv_iconst (v := zI 3) CX.1 CX.2.1 dL_law_375 rfl ?_
  refine z_iadd (z := i + 3) CX dL_law_376 rfl ?_
  refine z_sld CX hW hX hbl hbA (by omega) (by omega) hL dL_law_377 ?_
  refine z_calli hW (va_runV (C := RX11) (As := [.int (zI (zx xs (i + 1).toNat)), .int (zI (zx xs (i + 2).toNat)), .int (zI (zx xs (i + 3).toNat))]) (rest := []) CX.fix (zd_term l o M (zx xs (i + 1).toNat) (zx xs (i + 2).toNat) (zx xs (i + 3).toNat) hP hC (zx_r xs _) (zx_r xs _) (zx_r xs _) ) (cwV 3 CX.fix.2.2.2.2 gL_law_X11_term rfl rfl rfl (by decide +kernel) ⟨Nat.le_of_ble_eq_true rfl, Nat.le_of_ble_eq_true rfl⟩) (z_preV CX hW (r := (RX11, TX11, 13)) (show f o = _ from hP.c0) rfl) rfl rfl hl.1 rfl (lv_room (Nat.le_of_ble_eq_true rfl)) dL_law_378 ⟨Nat.le_of_ble_eq_true rfl, Nat.le_of_ble_eq_true rfl⟩) (fun z1 g1 H locs hok hW => ?_)
  obtain ⟨hz1, hP1, hC1, hF1, _, _⟩ := hok
  have hO1 : zMO cI cJ o2 S g1 = g1 := zMO_fix hO (fun q h1 h2 => hF1 q (by omega))
  have hW : zW D (zT cI cJ cZ cP cS cM) Lp A s (zMO cI cJ o2 S g1) s.heap H locs := by rw [hO1]; exact hW
  refine lv_aload_n CX.1 CX.2.1 dL_law_381 rfl (lv_at hl 1 rfl) ?_
  refine lv_aload_n CX.1 CX.2.1 dL_law_382 rfl (lv_at hl 3 rfl) ?_
  refine lv_iload_n CX.1 CX.2.1 dL_law_383 rfl (lv_at hl 0 rfl) ?_
  refine lv_iconst (v := zI 1) CX.1 CX.2.1 dL_law_384 rfl ?_
  refine z_iadd (z := i + 1) CX dL_law_385 rfl ?_
  refine z_sld CX hW hX hbl hbA (by omega) (by omega) hL dL_law_386 ?_
  refine lv_aload_n CX.1 CX.2.1 dL_law_387 rfl (lv_at hl 3 rfl) ?_
  refine lv_iload_n CX.1 CX.2.1 dL_law_388 rfl (lv_at hl 0 rfl) ?_
  refine lv_iconst (v := zI 2) CX.1 CX.2.1 dL_law_389 rfl ?_
  refine z_iadd (z := i + 2) CX dL_law_390 rfl ?_
  refine z_sld CX hW hX hbl hbA (by omega) (by omega) hL dL_law_391 ?_
  refine lv_aload_n CX.1 CX.2.1 dL_law_392 rfl (lv_at hl 3 rfl) ?_
  refine lv_iload_n CX.1 CX.2.1 dL_law_393 rfl (lv_at hl 0 rfl) ?_
  refine lv_iconst (v := zI 3) CX.1 CX.2.1 dL_law_394 rfl ?_
  refine z_iadd (z := i + 3) CX dL_law_395 rfl ?_
  refine z_sld CX hW hX hbl hbA (by omega) (by omega) hL dL_law_396 ?_
  refine z_calli hW (va_runV (C := RX12) (As := [.int (zI (zx xs (i + 1).toNat)), .int (zI (zx xs (i + 2).toNat)), .int (zI (zx xs (i + 3).toNat))]) (rest := [.int (zI z1)]) CX.fix (zk_term l (f := g1) o2 S (zx xs (i + 1).toNat) (zx xs (i + 2).toNat) (zx xs (i + 3).toNat) hI (zx_r xs _) (zx_r xs _) (zx_r xs _) ) (cwV 3 CX.fix.2.2.2.2 gL_law_X12_term rfl rfl rfl (by decide +kernel) ⟨Nat.le_of_ble_eq_true rfl, Nat.le_of_ble_eq_true rfl⟩) (z_preV CX hW (r := (RX12, TX12, 37)) zMO_0 rfl) rfl rfl hl.1 rfl (lv_room (Nat.le_of_ble_eq_true rfl)) dL_law_397 ⟨Nat.le_of_ble_eq_true rfl, Nat.le_of_ble_eq_true rfl⟩) (fun z2 g2 H locs hok hW => ?_)
  obtain ⟨hz2, hg2, _⟩ := hok
  rw [hg2] at hW
  have hz : z1 = z2 := hz1.trans (hE.trans hz2.symm)
  rw [hz]
  refine lv_icmp_eq (tgt := 1522) CX.1 CX.2.1 dL_law_400 (by decide) (fun _ => ?_) (fun h => absurd rfl h)
  exact kk _ H locs hW (hP1.same (fun q h1 h2 => by first | exact zMO_out (by omega) | rfl)) hC1 zMO_id hI
set_option maxRecDepth 100000 in
set_option maxHeartbeats 4000000 in
theorem zl_7 {p : Program} {l : Launch} {e : Env} {s : State} {m : MethodId} {below : List Frame} {meth : Method} {c : Code} {H : Heap} {locs : List Loc} {Q : State → Prop} {ls : Array Slot} {D : va_G} {cI cJ cZ cP cS cM : ClassId} {Lp : List Nat} {A : Nat → Prop} {f : Nat → va_E} {b L o o2 : Nat} {xs : Nat → Int32} {i : Int} {M : zCt} {S : zS2} (CX : zC p s m #[.ref b] meth c cL_law 4 ret RL wsL_law) (hX : va_X b L xs s s.heap) (hbl : b < s.heap.size) (hbA : ¬ A b) (hi : 0 ≤ i) (hi2 : i + 8 ≤ L) (hL : L ≤ 4096) (hW : zW D (zT cI cJ cZ cP cS cM) Lp A s f s.heap H locs) (hP : zCP cI cP cS cZ cM o M f) (hC : zCI M) (hO : zMO cI cJ o2 S f = f) (hI : mI S) (hd : o + 681 ≤ o2 ∨ o2 + 21 ≤ o) (hl : lv_has ls 4 [(3, .int (zI i)), (2, .ref o2), (1, .ref o), (0, .ref b)]) (hE : (zc_degree M (zx xs (i + 1).toNat)).1 = zm_degree S (zx xs (i + 1).toNat))
    (kk : ∀ (g : Nat → va_E) (H : Heap) (locs : List Loc), zW D (zT cI cJ cZ cP cS cM) Lp A s g s.heap H locs → zCP cI cP cS cZ cM o (zc_degree M (zx xs (i + 1).toNat)).2 g → zCI (zc_degree M (zx xs (i + 1).toNat)).2 → zMO cI cJ o2 S g = g → mI S → W p l e room_1 s m #[.ref b] below meth c H locs 600000 7302250 Q (F0 m 1522 ls [])) : W p l e room_1 s m #[.ref b] below meth c H locs 600000 7302250 Q (F0 m 405 ls []) := by
  refine lv_aload_n CX.1 CX.2.1 dL_law_405 rfl (lv_at hl 2 rfl) ?_
  refine lv_aload_n CX.1 CX.2.1 dL_law_406 rfl (lv_at hl 3 rfl) ?_
  refine lv_iload_n CX.1 CX.2.1 dL_law_407 rfl (lv_at hl 0 rfl) ?_
  refine lv_iconst (v := zI 1) CX.1 CX.2.1 dL_law_408 rfl ?_
  refine z_iadd (z := i + 1) CX dL_law_409 rfl ?_
  refine z_sld CX hW hX hbl hbA (by omega) (by omega) hL dL_law_410 ?_
  refine z_calli hW (va_runV (C := RX11) (As := [.int (zI (zx xs (i + 1).toNat))]) (rest := []) CX.fix (zd_degree l o M (zx xs (i + 1).toNat) hP hC (zx_r xs _) ) (cwV 1 CX.fix.2.2.2.2 gL_law_X11_degree rfl rfl rfl (by decide +kernel) ⟨Nat.le_of_ble_eq_true rfl, Nat.le_of_ble_eq_true rfl⟩) (z_preV CX hW (r := (RX11, TX11, 13)) (show f o = _ from hP.c0) rfl) rfl rfl hl.1 rfl (lv_room (Nat.le_of_ble_eq_true rfl)) dL_law_411 ⟨Nat.le_of_ble_eq_true rfl, Nat.le_of_ble_eq_true rfl⟩) (fun z1 g1 H locs hok hW => ?_)
  obtain ⟨hz1, hP1, hC1, hF1, _, _⟩ := hok
  have hO1 : zMO cI cJ o2 S g1 = g1 := zMO_fix hO (fun q h1 h2 => hF1 q (by omega))
  have hW : zW D (zT cI cJ cZ cP cS cM) Lp A s (zMO cI cJ o2 S g1) s.heap H locs := by rw [hO1]; exact hW
  refine lv_aload_n CX.1 CX.2.1 dL_law_414 rfl (lv_at hl 1 rfl) ?_
  refine lv_aload_n CX.1 CX.2.1 dL_law_415 rfl (lv_at hl 3 rfl) ?_
  refine lv_iload_n CX.1 CX.2.1 dL_law_416 rfl (lv_at hl 0 rfl) ?_
  refine lv_iconst (v := zI 1) CX.1 CX.2.1 dL_law_417 rfl ?_
  refine z_iadd (z := i + 1) CX dL_law_418 rfl ?_
  refine z_sld CX hW hX hbl hbA (by omega) (by omega) hL dL_law_419 ?_
  refine z_calli hW (va_runV (C := RX12) (As := [.int (zI (zx xs (i + 1).toNat))]) (rest := [.int (zI z1)]) CX.fix (zk_degree l (f := g1) o2 S (zx xs (i + 1).toNat) hI (zx_r xs _) ) (cwV 1 CX.fix.2.2.2.2 gL_law_X12_degree rfl rfl rfl (by decide +kernel) ⟨Nat.le_of_ble_eq_true rfl, Nat.le_of_ble_eq_true rfl⟩) (z_preV CX hW (r := (RX12, TX12, 37)) zMO_0 rfl) rfl rfl hl.1 rfl (lv_room (Nat.le_of_ble_eq_true rfl)) dL_law_420 ⟨Nat.le_of_ble_eq_true rfl, Nat.le_of_ble_eq_true rfl⟩) (fun z2 g2 H locs hok hW => ?_)
  obtain ⟨hz2, hg2, _⟩ := hok
  rw [hg2] at hW
  have hz : z1 = z2 := hz1.trans (hE.trans hz2.symm)
  rw [hz]
  refine lv_icmp_eq (tgt := 1522) CX.1 CX.2.1 dL_law_423 (by decide) (fun _ => ?_) (fun h => absurd rfl h)
  exact kk _ H locs hW (hP1.same (fun q h1 h2 => by first | exact zMO_out (by omega) | rfl)) hC1 zMO_id hI
set_option maxRecDepth 100000 in
set_option maxHeartbeats 4000000 in
theorem zl_8 {p : Program} {l : Launch} {e : Env} {s : State} {m : MethodId} {below : List Frame} {meth : Method} {c : Code} {H : Heap} {locs : List Loc} {Q : State → Prop} {ls : Array Slot} {D : va_G} {cI cJ cZ cP cS cM : ClassId} {Lp : List Nat} {A : Nat → Prop} {f : Nat → va_E} {b L o o2 : Nat} {xs : Nat → Int32} {i : Int} {M : zCt} {S : zS2} (CX : zC p s m #[.ref b] meth c cL_law 4 ret RL wsL_law) (hX : va_X b L xs s s.heap) (hbl : b < s.heap.size) (hbA : ¬ A b) (hi : 0 ≤ i) (hi2 : i + 8 ≤ L) (hL : L ≤ 4096) (hW : zW D (zT cI cJ cZ cP cS cM) Lp A s f s.heap H locs) (hP : zCP cI cP cS cZ cM o M f) (hC : zCI M) (hO : zMO cI cJ o2 S f = f) (hI : mI S) (hd : o + 681 ≤ o2 ∨ o2 + 21 ≤ o) (hl : lv_has ls 4 [(3, .int (zI i)), (2, .ref o2), (1, .ref o), (0, .ref b)]) (hE : (zc_value M (zx xs (i + 1).toNat) (zx xs (i + 2).toNat)).1 = zm_value S (zx xs (i + 1).toNat) (zx xs (i + 2).toNat))
    (kk : ∀ (g : Nat → va_E) (H : Heap) (locs : List Loc), zW D (zT cI cJ cZ cP cS cM) Lp A s g s.heap H locs → zCP cI cP cS cZ cM o (zc_value M (zx xs (i + 1).toNat) (zx xs (i + 2).toNat)).2 g → zCI (zc_value M (zx xs (i + 1).toNat) (zx xs (i + 2).toNat)).2 → zMO cI cJ o2 S g = g → mI S → W p l e room_1 s m #[.ref b] below meth c H locs 600000 7302250 Q (F0 m 1522 ls [])) : W p l e room_1 s m #[.ref b] below meth c H locs 600000 7302250 Q (F0 m 428 ls []) := by
  refine lv_aload_n CX.1 CX.2.1 dL_law_428 rfl (lv_at hl 2 rfl) ?_
  refine lv_aload_n CX.1 CX.2.1 dL_law_429 rfl (lv_at hl 3 rfl) ?_
  refine lv_iload_n CX.1 CX.2.1 dL_law_430 rfl (lv_at hl 0 rfl) ?_
  refine lv_iconst (v := zI 1) CX.1 CX.2.1 dL_law_431 rfl ?_
  refine z_iadd (z := i + 1) CX dL_law_432 rfl ?_
  refine z_sld CX hW hX hbl hbA (by omega) (by omega) hL dL_law_433 ?_
  refine lv_aload_n CX.1 CX.2.1 dL_law_434 rfl (lv_at hl 3 rfl) ?_
  refine lv_iload_n CX.1 CX.2.1 dL_law_435 rfl (lv_at hl 0 rfl) ?_
  refine lv_iconst (v := zI 2) CX.1 CX.2.1 dL_law_436 rfl ?_
  refine z_iadd (z := i + 2) CX dL_law_437 rfl ?_
  refine z_sld CX hW hX hbl hbA (by omega) (by omega) hL dL_law_438 ?_
  refine z_calli hW (va_runV (C := RX11) (As := [.int (zI (zx xs (i + 1).toNat)), .int (zI (zx xs (i + 2).toNat))]) (rest := []) CX.fix (zd_value l o M (zx xs (i + 1).toNat) (zx xs (i + 2).toNat) hP hC (zx_r xs _) (zx_r xs _) ) (cwV 2 CX.fix.2.2.2.2 gL_law_X11_value rfl rfl rfl (by decide +kernel) ⟨Nat.le_of_ble_eq_true rfl, Nat.le_of_ble_eq_true rfl⟩) (z_preV CX hW (r := (RX11, TX11, 13)) (show f o = _ from hP.c0) rfl) rfl rfl hl.1 rfl (lv_room (Nat.le_of_ble_eq_true rfl)) dL_law_439 ⟨Nat.le_of_ble_eq_true rfl, Nat.le_of_ble_eq_true rfl⟩) (fun z1 g1 H locs hok hW => ?_)
  obtain ⟨hz1, hP1, hC1, hF1, _, _⟩ := hok
  have hO1 : zMO cI cJ o2 S g1 = g1 := zMO_fix hO (fun q h1 h2 => hF1 q (by omega))
  have hW : zW D (zT cI cJ cZ cP cS cM) Lp A s (zMO cI cJ o2 S g1) s.heap H locs := by rw [hO1]; exact hW
  refine lv_aload_n CX.1 CX.2.1 dL_law_442 rfl (lv_at hl 1 rfl) ?_
  refine lv_aload_n CX.1 CX.2.1 dL_law_443 rfl (lv_at hl 3 rfl) ?_
  refine lv_iload_n CX.1 CX.2.1 dL_law_444 rfl (lv_at hl 0 rfl) ?_
  refine lv_iconst (v := zI 1) CX.1 CX.2.1 dL_law_445 rfl ?_
  refine z_iadd (z := i + 1) CX dL_law_446 rfl ?_
  refine z_sld CX hW hX hbl hbA (by omega) (by omega) hL dL_law_447 ?_
  refine lv_aload_n CX.1 CX.2.1 dL_law_448 rfl (lv_at hl 3 rfl) ?_
  refine lv_iload_n CX.1 CX.2.1 dL_law_449 rfl (lv_at hl 0 rfl) ?_
  refine lv_iconst (v := zI 2) CX.1 CX.2.1 dL_law_450 rfl ?_
  refine z_iadd (z := i + 2) CX dL_law_451 rfl ?_
  refine z_sld CX hW hX hbl hbA (by omega) (by omega) hL dL_law_452 ?_
  refine z_calli hW (va_runV (C := RX12) (As := [.int (zI (zx xs (i + 1).toNat)), .int (zI (zx xs (i + 2).toNat))]) (rest := [.int (zI z1)]) CX.fix (zk_value l (f := g1) o2 S (zx xs (i + 1).toNat) (zx xs (i + 2).toNat) hI (zx_r xs _) (zx_r xs _) ) (cwV 2 CX.fix.2.2.2.2 gL_law_X12_value rfl rfl rfl (by decide +kernel) ⟨Nat.le_of_ble_eq_true rfl, Nat.le_of_ble_eq_true rfl⟩) (z_preV CX hW (r := (RX12, TX12, 37)) zMO_0 rfl) rfl rfl hl.1 rfl (lv_room (Nat.le_of_ble_eq_true rfl)) dL_law_453 ⟨Nat.le_of_ble_eq_true rfl, Nat.le_of_ble_eq_true rfl⟩) (fun z2 g2 H locs hok hW => ?_)
  obtain ⟨hz2, hg2, _⟩ := hok
  rw [hg2] at hW
  have hz : z1 = z2 := hz1.trans (hE.trans hz2.symm)
  rw [hz]
  refine lv_icmp_eq (tgt := 1522) CX.1 CX.2.1 dL_law_456 (by decide) (fun _ => ?_) (fun h => absurd rfl h)
  exact kk _ H locs hW (hP1.same (fun q h1 h2 => by first | exact zMO_out (by omega) | rfl)) hC1 zMO_id hI
set_option maxRecDepth 100000 in
set_option maxHeartbeats 4000000 in
theorem zl_9 {p : Program} {l : Launch} {e : Env} {s : State} {m : MethodId} {below : List Frame} {meth : Method} {c : Code} {H : Heap} {locs : List Loc} {Q : State → Prop} {ls : Array Slot} {D : va_G} {cI cJ cZ cP cS cM : ClassId} {Lp : List Nat} {A : Nat → Prop} {f : Nat → va_E} {b L o o2 : Nat} {xs : Nat → Int32} {i : Int} {M : zCt} {S : zS2} (CX : zC p s m #[.ref b] meth c cL_law 4 ret RL wsL_law) (hX : va_X b L xs s s.heap) (hbl : b < s.heap.size) (hbA : ¬ A b) (hi : 0 ≤ i) (hi2 : i + 8 ≤ L) (hL : L ≤ 4096) (hW : zW D (zT cI cJ cZ cP cS cM) Lp A s f s.heap H locs) (hP : zCP cI cP cS cZ cM o M f) (hC : zCI M) (hO : zMO cI cJ o2 S f = f) (hI : mI S) (hd : o + 681 ≤ o2 ∨ o2 + 21 ≤ o) (hl : lv_has ls 4 [(3, .int (zI i)), (2, .ref o2), (1, .ref o), (0, .ref b)]) (hE : (zc_point M (zx xs (i + 1).toNat) (zx xs (i + 2).toNat)).1 = zm_point S (zx xs (i + 1).toNat) (zx xs (i + 2).toNat))
    (kk : ∀ (g : Nat → va_E) (H : Heap) (locs : List Loc), zW D (zT cI cJ cZ cP cS cM) Lp A s g s.heap H locs → zCP cI cP cS cZ cM o (zc_point M (zx xs (i + 1).toNat) (zx xs (i + 2).toNat)).2 g → zCI (zc_point M (zx xs (i + 1).toNat) (zx xs (i + 2).toNat)).2 → zMO cI cJ o2 S g = g → mI S → W p l e room_1 s m #[.ref b] below meth c H locs 600000 7302250 Q (F0 m 1522 ls [])) : W p l e room_1 s m #[.ref b] below meth c H locs 600000 7302250 Q (F0 m 461 ls []) := by
  refine lv_aload_n CX.1 CX.2.1 dL_law_461 rfl (lv_at hl 2 rfl) ?_
  refine lv_aload_n CX.1 CX.2.1 dL_law_462 rfl (lv_at hl 3 rfl) ?_
  refine lv_iload_n CX.1 CX.2.1 dL_law_463 rfl (lv_at hl 0 rfl) ?_
  refine lv_iconst (v := zI 1) CX.1 CX.2.1 dL_law_464 rfl ?_
  refine z_iadd (z := i + 1) CX dL_law_465 rfl ?_
  refine z_sld CX hW hX hbl hbA (by omega) (by omega) hL dL_law_466 ?_
  refine lv_aload_n CX.1 CX.2.1 dL_law_467 rfl (lv_at hl 3 rfl) ?_
  refine lv_iload_n CX.1 CX.2.1 dL_law_468 rfl (lv_at hl 0 rfl) ?_
  refine lv_iconst (v := zI 2) CX.1 CX.2.1 dL_law_469 rfl ?_
  refine z_iadd (z := i + 2) CX dL_law_470 rfl ?_
  refine z_sld CX hW hX hbl hbA (by omega) (by omega) hL dL_law_471 ?_
  refine z_calli hW (va_runV (C := RX11) (As := [.int (zI (zx xs (i + 1).toNat)), .int (zI (zx xs (i + 2).toNat))]) (rest := []) CX.fix (zd_point l o M (zx xs (i + 1).toNat) (zx xs (i + 2).toNat) hP hC (zx_r xs _) (zx_r xs _) ) (cwV 2 CX.fix.2.2.2.2 gL_law_X11_point rfl rfl rfl (by decide +kernel) ⟨Nat.le_of_ble_eq_true rfl, Nat.le_of_ble_eq_true rfl⟩) (z_preV CX hW (r := (RX11, TX11, 13)) (show f o = _ from hP.c0) rfl) rfl rfl hl.1 rfl (lv_room (Nat.le_of_ble_eq_true rfl)) dL_law_472 ⟨Nat.le_of_ble_eq_true rfl, Nat.le_of_ble_eq_true rfl⟩) (fun z1 g1 H locs hok hW => ?_)
  obtain ⟨hz1, hP1, hC1, hF1, _, _⟩ := hok
  have hO1 : zMO cI cJ o2 S g1 = g1 := zMO_fix hO (fun q h1 h2 => hF1 q (by omega))
  have hW : zW D (zT cI cJ cZ cP cS cM) Lp A s (zMO cI cJ o2 S g1) s.heap H locs := by rw [hO1]; exact hW
  refine lv_aload_n CX.1 CX.2.1 dL_law_475 rfl (lv_at hl 1 rfl) ?_
  refine lv_aload_n CX.1 CX.2.1 dL_law_476 rfl (lv_at hl 3 rfl) ?_
  refine lv_iload_n CX.1 CX.2.1 dL_law_477 rfl (lv_at hl 0 rfl) ?_
  refine lv_iconst (v := zI 1) CX.1 CX.2.1 dL_law_478 rfl ?_
  refine z_iadd (z := i + 1) CX dL_law_479 rfl ?_
  refine z_sld CX hW hX hbl hbA (by omega) (by omega) hL dL_law_480 ?_
  refine lv_aload_n CX.1 CX.2.1 dL_law_481 rfl (lv_at hl 3 rfl) ?_
  refine lv_iload_n CX.1 CX.2.1 dL_law_482 rfl (lv_at hl 0 rfl) ?_
  refine lv_iconst (v := zI 2) CX.1 CX.2.1 dL_law_483 rfl ?_
  refine z_iadd (z := i + 2) CX dL_law_484 rfl ?_
  refine z_sld CX hW hX hbl hbA (by omega) (by omega) hL dL_law_485 ?_
  refine z_calli hW (va_runV (C := RX12) (As := [.int (zI (zx xs (i + 1).toNat)), .int (zI (zx xs (i + 2).toNat))]) (rest := [.int (zI z1)]) CX.fix (zk_point l (f := g1) o2 S (zx xs (i + 1).toNat) (zx xs (i + 2).toNat) hI (zx_r xs _) (zx_r xs _) ) (cwV 2 CX.fix.2.2.2.2 gL_law_X12_point rfl rfl rfl (by decide +kernel) ⟨Nat.le_of_ble_eq_true rfl, Nat.le_of_ble_eq_true rfl⟩) (z_preV CX hW (r := (RX12, TX12, 37)) zMO_0 rfl) rfl rfl hl.1 rfl (lv_room (Nat.le_of_ble_eq_true rfl)) dL_law_486 ⟨Nat.le_of_ble_eq_true rfl, Nat.le_of_ble_eq_true rfl⟩) (fun z2 g2 H locs hok hW => ?_)
  obtain ⟨hz2, hg2, _⟩ := hok
  rw [hg2] at hW
  have hz : z1 = z2 := hz1.trans (hE.trans hz2.symm)
  rw [hz]
  refine lv_icmp_eq (tgt := 1522) CX.1 CX.2.1 dL_law_489 (by decide) (fun _ => ?_) (fun h => absurd rfl h)
  exact kk _ H locs hW (hP1.same (fun q h1 h2 => by first | exact zMO_out (by omega) | rfl)) hC1 zMO_id hI
set_option maxRecDepth 100000 in
set_option maxHeartbeats 4000000 in
theorem zl_10 {p : Program} {l : Launch} {e : Env} {s : State} {m : MethodId} {below : List Frame} {meth : Method} {c : Code} {H : Heap} {locs : List Loc} {Q : State → Prop} {ls : Array Slot} {D : va_G} {cI cJ cZ cP cS cM : ClassId} {Lp : List Nat} {A : Nat → Prop} {f : Nat → va_E} {b L o o2 : Nat} {xs : Nat → Int32} {i : Int} {M : zCt} {S : zS2} (CX : zC p s m #[.ref b] meth c cL_law 4 ret RL wsL_law) (hX : va_X b L xs s s.heap) (hbl : b < s.heap.size) (hbA : ¬ A b) (hi : 0 ≤ i) (hi2 : i + 8 ≤ L) (hL : L ≤ 4096) (hW : zW D (zT cI cJ cZ cP cS cM) Lp A s f s.heap H locs) (hP : zCP cI cP cS cZ cM o M f) (hC : zCI M) (hO : zMO cI cJ o2 S f = f) (hI : mI S) (hd : o + 681 ≤ o2 ∨ o2 + 21 ≤ o) (hl : lv_has ls 4 [(3, .int (zI i)), (2, .ref o2), (1, .ref o), (0, .ref b)]) (hE : (zc_order M (zx xs (i + 1).toNat) (zx xs (i + 2).toNat)).1 = (zm_order S (zx xs (i + 1).toNat) (zx xs (i + 2).toNat)).1)
    (kk : ∀ (g : Nat → va_E) (H : Heap) (locs : List Loc), zW D (zT cI cJ cZ cP cS cM) Lp A s g s.heap H locs → zCP cI cP cS cZ cM o (zc_order M (zx xs (i + 1).toNat) (zx xs (i + 2).toNat)).2 g → zCI (zc_order M (zx xs (i + 1).toNat) (zx xs (i + 2).toNat)).2 → zMO cI cJ o2 (zm_order S (zx xs (i + 1).toNat) (zx xs (i + 2).toNat)).2 g = g → mI (zm_order S (zx xs (i + 1).toNat) (zx xs (i + 2).toNat)).2 → W p l e room_1 s m #[.ref b] below meth c H locs 600000 7302250 Q (F0 m 1522 ls [])) : W p l e room_1 s m #[.ref b] below meth c H locs 600000 7302250 Q (F0 m 494 ls []) := by
  refine lv_aload_n CX.1 CX.2.1 dL_law_494 rfl (lv_at hl 2 rfl) ?_
  refine lv_aload_n CX.1 CX.2.1 dL_law_495 rfl (lv_at hl 3 rfl) ?_
  refine lv_iload_n CX.1 CX.2.1 dL_law_496 rfl (lv_at hl 0 rfl) ?_
  refine lv_iconst (v := zI 1) CX.1 CX.2.1 dL_law_497 rfl ?_
  refine z_iadd (z := i + 1) CX dL_law_498 rfl ?_
  refine z_sld CX hW hX hbl hbA (by omega) (by omega) hL dL_law_499 ?_
  refine lv_aload_n CX.1 CX.2.1 dL_law_500 rfl (lv_at hl 3 rfl) ?_
  refine lv_iload_n CX.1 CX.2.1 dL_law_501 rfl (lv_at hl 0 rfl) ?_
  refine lv_iconst (v := zI 2) CX.1 CX.2.1 dL_law_502 rfl ?_
  refine z_iadd (z := i + 2) CX dL_law_503 rfl ?_
  refine z_sld CX hW hX hbl hbA (by omega) (by omega) hL dL_law_504 ?_
  refine z_calli hW (va_runV (C := RX11) (As := [.int (zI (zx xs (i + 1).toNat)), .int (zI (zx xs (i + 2).toNat))]) (rest := []) CX.fix (zd_order l o M (zx xs (i + 1).toNat) (zx xs (i + 2).toNat) hP hC (zx_r xs _) (zx_r xs _) ) (cwV 2 CX.fix.2.2.2.2 gL_law_X11_order rfl rfl rfl (by decide +kernel) ⟨Nat.le_of_ble_eq_true rfl, Nat.le_of_ble_eq_true rfl⟩) (z_preV CX hW (r := (RX11, TX11, 13)) (show f o = _ from hP.c0) rfl) rfl rfl hl.1 rfl (lv_room (Nat.le_of_ble_eq_true rfl)) dL_law_505 ⟨Nat.le_of_ble_eq_true rfl, Nat.le_of_ble_eq_true rfl⟩) (fun z1 g1 H locs hok hW => ?_)
  obtain ⟨hz1, hP1, hC1, hF1, _, _⟩ := hok
  have hO1 : zMO cI cJ o2 S g1 = g1 := zMO_fix hO (fun q h1 h2 => hF1 q (by omega))
  have hW : zW D (zT cI cJ cZ cP cS cM) Lp A s (zMO cI cJ o2 S g1) s.heap H locs := by rw [hO1]; exact hW
  refine lv_aload_n CX.1 CX.2.1 dL_law_508 rfl (lv_at hl 1 rfl) ?_
  refine lv_aload_n CX.1 CX.2.1 dL_law_509 rfl (lv_at hl 3 rfl) ?_
  refine lv_iload_n CX.1 CX.2.1 dL_law_510 rfl (lv_at hl 0 rfl) ?_
  refine lv_iconst (v := zI 1) CX.1 CX.2.1 dL_law_511 rfl ?_
  refine z_iadd (z := i + 1) CX dL_law_512 rfl ?_
  refine z_sld CX hW hX hbl hbA (by omega) (by omega) hL dL_law_513 ?_
  refine lv_aload_n CX.1 CX.2.1 dL_law_514 rfl (lv_at hl 3 rfl) ?_
  refine lv_iload_n CX.1 CX.2.1 dL_law_515 rfl (lv_at hl 0 rfl) ?_
  refine lv_iconst (v := zI 2) CX.1 CX.2.1 dL_law_516 rfl ?_
  refine z_iadd (z := i + 2) CX dL_law_517 rfl ?_
  refine z_sld CX hW hX hbl hbA (by omega) (by omega) hL dL_law_518 ?_
  refine z_calli hW (va_runV (C := RX12) (As := [.int (zI (zx xs (i + 1).toNat)), .int (zI (zx xs (i + 2).toNat))]) (rest := [.int (zI z1)]) CX.fix (zk_order l (f := g1) o2 S (zx xs (i + 1).toNat) (zx xs (i + 2).toNat) hI (zx_r xs _) (zx_r xs _) ) (cwV 2 CX.fix.2.2.2.2 gL_law_X12_order rfl rfl rfl (by decide +kernel) ⟨Nat.le_of_ble_eq_true rfl, Nat.le_of_ble_eq_true rfl⟩) (z_preV CX hW (r := (RX12, TX12, 37)) zMO_0 rfl) rfl rfl hl.1 rfl (lv_room (Nat.le_of_ble_eq_true rfl)) dL_law_519 ⟨Nat.le_of_ble_eq_true rfl, Nat.le_of_ble_eq_true rfl⟩) (fun z2 g2 H locs hok hW => ?_)
  obtain ⟨hz2, hg2, hI2, _, _⟩ := hok
  rw [hg2] at hW
  have hz : z1 = z2 := hz1.trans (hE.trans hz2.symm)
  rw [hz]
  refine lv_icmp_eq (tgt := 1522) CX.1 CX.2.1 dL_law_522 (by decide) (fun _ => ?_) (fun h => absurd rfl h)
  exact kk _ H locs hW (hP1.same (fun q h1 h2 => by first | exact zMO_out (by omega) | rfl)) hC1 zMO_id hI2
set_option maxRecDepth 100000 in
set_option maxHeartbeats 4000000 in
theorem zl_11 {p : Program} {l : Launch} {e : Env} {s : State} {m : MethodId} {below : List Frame} {meth : Method} {c : Code} {H : Heap} {locs : List Loc} {Q : State → Prop} {ls : Array Slot} {D : va_G} {cI cJ cZ cP cS cM : ClassId} {Lp : List Nat} {A : Nat → Prop} {f : Nat → va_E} {b L o o2 : Nat} {xs : Nat → Int32} {i : Int} {M : zCt} {S : zS2} (CX : zC p s m #[.ref b] meth c cL_law 4 ret RL wsL_law) (hX : va_X b L xs s s.heap) (hbl : b < s.heap.size) (hbA : ¬ A b) (hi : 0 ≤ i) (hi2 : i + 8 ≤ L) (hL : L ≤ 4096) (hW : zW D (zT cI cJ cZ cP cS cM) Lp A s f s.heap H locs) (hP : zCP cI cP cS cZ cM o M f) (hC : zCI M) (hO : zMO cI cJ o2 S f = f) (hI : mI S) (hd : o + 681 ≤ o2 ∨ o2 + 21 ≤ o) (hl : lv_has ls 4 [(3, .int (zI i)), (2, .ref o2), (1, .ref o), (0, .ref b)]) (hE : (zc_local M (zx xs (i + 1).toNat) (zx xs (i + 2).toNat) (zx xs (i + 3).toNat) (zx xs (i + 4).toNat)).1 = (zm_local S (zx xs (i + 1).toNat) (zx xs (i + 2).toNat) (zx xs (i + 3).toNat) (zx xs (i + 4).toNat)).1)
    (kk : ∀ (g : Nat → va_E) (H : Heap) (locs : List Loc), zW D (zT cI cJ cZ cP cS cM) Lp A s g s.heap H locs → zCP cI cP cS cZ cM o (zc_local M (zx xs (i + 1).toNat) (zx xs (i + 2).toNat) (zx xs (i + 3).toNat) (zx xs (i + 4).toNat)).2 g → zCI (zc_local M (zx xs (i + 1).toNat) (zx xs (i + 2).toNat) (zx xs (i + 3).toNat) (zx xs (i + 4).toNat)).2 → zMO cI cJ o2 (zm_local S (zx xs (i + 1).toNat) (zx xs (i + 2).toNat) (zx xs (i + 3).toNat) (zx xs (i + 4).toNat)).2 g = g → mI (zm_local S (zx xs (i + 1).toNat) (zx xs (i + 2).toNat) (zx xs (i + 3).toNat) (zx xs (i + 4).toNat)).2 → W p l e room_1 s m #[.ref b] below meth c H locs 600000 7302250 Q (F0 m 1522 ls [])) : W p l e room_1 s m #[.ref b] below meth c H locs 600000 7302250 Q (F0 m 527 ls []) := by
  refine lv_aload_n CX.1 CX.2.1 dL_law_527 rfl (lv_at hl 2 rfl) ?_
  refine lv_aload_n CX.1 CX.2.1 dL_law_528 rfl (lv_at hl 3 rfl) ?_
  refine lv_iload_n CX.1 CX.2.1 dL_law_529 rfl (lv_at hl 0 rfl) ?_
  refine lv_iconst (v := zI 1) CX.1 CX.2.1 dL_law_530 rfl ?_
  refine z_iadd (z := i + 1) CX dL_law_531 rfl ?_
  refine z_sld CX hW hX hbl hbA (by omega) (by omega) hL dL_law_532 ?_
  refine lv_aload_n CX.1 CX.2.1 dL_law_533 rfl (lv_at hl 3 rfl) ?_
  refine lv_iload_n CX.1 CX.2.1 dL_law_534 rfl (lv_at hl 0 rfl) ?_
  refine lv_iconst (v := zI 2) CX.1 CX.2.1 dL_law_535 rfl ?_
  refine z_iadd (z := i + 2) CX dL_law_536 rfl ?_
  refine z_sld CX hW hX hbl hbA (by omega) (by omega) hL dL_law_537 ?_
  refine lv_aload_n CX.1 CX.2.1 dL_law_538 rfl (lv_at hl 3 rfl) ?_
  refine lv_iload_n CX.1 CX.2.1 dL_law_539 rfl (lv_at hl 0 rfl) ?_
  refine lv_iconst (v := zI 3) CX.1 CX.2.1 dL_law_540 rfl ?_
  refine z_iadd (z := i + 3) CX dL_law_541 rfl ?_
  refine z_sld CX hW hX hbl hbA (by omega) (by omega) hL dL_law_542 ?_
  refine lv_aload_n CX.1 CX.2.1 dL_law_543 rfl (lv_at hl 3 rfl) ?_
  refine lv_iload_n CX.1 CX.2.1 dL_law_544 rfl (lv_at hl 0 rfl) ?_
  refine lv_iconst (v := zI 4) CX.1 CX.2.1 dL_law_545 rfl ?_
  refine z_iadd (z := i + 4) CX dL_law_546 rfl ?_
  refine z_sld CX hW hX hbl hbA (by omega) (by omega) hL dL_law_547 ?_
  refine z_calli hW (va_runV (C := RX11) (As := [.int (zI (zx xs (i + 1).toNat)), .int (zI (zx xs (i + 2).toNat)), .int (zI (zx xs (i + 3).toNat)), .int (zI (zx xs (i + 4).toNat))]) (rest := []) CX.fix (zd_local l o M (zx xs (i + 1).toNat) (zx xs (i + 2).toNat) (zx xs (i + 3).toNat) (zx xs (i + 4).toNat) hP hC (zx_r xs _) (zx_r xs _) (zx_r xs _) (zx_r xs _) ) (cwV 4 CX.fix.2.2.2.2 gL_law_X11_local rfl rfl rfl (by decide +kernel) ⟨Nat.le_of_ble_eq_true rfl, Nat.le_of_ble_eq_true rfl⟩) (z_preV CX hW (r := (RX11, TX11, 13)) (show f o = _ from hP.c0) rfl) rfl rfl hl.1 rfl (lv_room (Nat.le_of_ble_eq_true rfl)) dL_law_548 ⟨Nat.le_of_ble_eq_true rfl, Nat.le_of_ble_eq_true rfl⟩) (fun z1 g1 H locs hok hW => ?_)
  obtain ⟨hz1, hP1, hC1, hF1, _, _⟩ := hok
  have hO1 : zMO cI cJ o2 S g1 = g1 := zMO_fix hO (fun q h1 h2 => hF1 q (by omega))
  have hW : zW D (zT cI cJ cZ cP cS cM) Lp A s (zMO cI cJ o2 S g1) s.heap H locs := by rw [hO1]; exact hW
  refine lv_aload_n CX.1 CX.2.1 dL_law_551 rfl (lv_at hl 1 rfl) ?_
  refine lv_aload_n CX.1 CX.2.1 dL_law_552 rfl (lv_at hl 3 rfl) ?_
  refine lv_iload_n CX.1 CX.2.1 dL_law_553 rfl (lv_at hl 0 rfl) ?_
  refine lv_iconst (v := zI 1) CX.1 CX.2.1 dL_law_554 rfl ?_
  refine z_iadd (z := i + 1) CX dL_law_555 rfl ?_
  refine z_sld CX hW hX hbl hbA (by omega) (by omega) hL dL_law_556 ?_
  refine lv_aload_n CX.1 CX.2.1 dL_law_557 rfl (lv_at hl 3 rfl) ?_
  refine lv_iload_n CX.1 CX.2.1 dL_law_558 rfl (lv_at hl 0 rfl) ?_
  refine lv_iconst (v := zI 2) CX.1 CX.2.1 dL_law_559 rfl ?_
  refine z_iadd (z := i + 2) CX dL_law_560 rfl ?_
  refine z_sld CX hW hX hbl hbA (by omega) (by omega) hL dL_law_561 ?_
  refine lv_aload_n CX.1 CX.2.1 dL_law_562 rfl (lv_at hl 3 rfl) ?_
  refine lv_iload_n CX.1 CX.2.1 dL_law_563 rfl (lv_at hl 0 rfl) ?_
  refine lv_iconst (v := zI 3) CX.1 CX.2.1 dL_law_564 rfl ?_
  refine z_iadd (z := i + 3) CX dL_law_565 rfl ?_
  refine z_sld CX hW hX hbl hbA (by omega) (by omega) hL dL_law_566 ?_
  refine lv_aload_n CX.1 CX.2.1 dL_law_567 rfl (lv_at hl 3 rfl) ?_
  refine lv_iload_n CX.1 CX.2.1 dL_law_568 rfl (lv_at hl 0 rfl) ?_
  refine lv_iconst (v := zI 4) CX.1 CX.2.1 dL_law_569 rfl ?_
  refine z_iadd (z := i + 4) CX dL_law_570 rfl ?_
  refine z_sld CX hW hX hbl hbA (by omega) (by omega) hL dL_law_571 ?_
  refine z_calli hW (va_runV (C := RX12) (As := [.int (zI (zx xs (i + 1).toNat)), .int (zI (zx xs (i + 2).toNat)), .int (zI (zx xs (i + 3).toNat)), .int (zI (zx xs (i + 4).toNat))]) (rest := [.int (zI z1)]) CX.fix (zk_local l (f := g1) o2 S (zx xs (i + 1).toNat) (zx xs (i + 2).toNat) (zx xs (i + 3).toNat) (zx xs (i + 4).toNat) hI (zx_r xs _) (zx_r xs _) (zx_r xs _) (zx_r xs _) ) (cwV 4 CX.fix.2.2.2.2 gL_law_X12_local rfl rfl rfl (by decide +kernel) ⟨Nat.le_of_ble_eq_true rfl, Nat.le_of_ble_eq_true rfl⟩) (z_preV CX hW (r := (RX12, TX12, 37)) zMO_0 rfl) rfl rfl hl.1 rfl (lv_room (Nat.le_of_ble_eq_true rfl)) dL_law_572 ⟨Nat.le_of_ble_eq_true rfl, Nat.le_of_ble_eq_true rfl⟩) (fun z2 g2 H locs hok hW => ?_)
  obtain ⟨hz2, hg2, hI2, _, _⟩ := hok
  rw [hg2] at hW
  have hz : z1 = z2 := hz1.trans (hE.trans hz2.symm)
  rw [hz]
  refine lv_icmp_eq (tgt := 1522) CX.1 CX.2.1 dL_law_575 (by decide) (fun _ => ?_) (fun h => absurd rfl h)
  exact kk _ H locs hW (hP1.same (fun q h1 h2 => by first | exact zMO_out (by omega) | rfl)) hC1 zMO_id hI2
set_option maxRecDepth 100000 in
set_option maxHeartbeats 4000000 in
theorem zl_12 {p : Program} {l : Launch} {e : Env} {s : State} {m : MethodId} {below : List Frame} {meth : Method} {c : Code} {H : Heap} {locs : List Loc} {Q : State → Prop} {ls : Array Slot} {D : va_G} {cI cJ cZ cP cS cM : ClassId} {Lp : List Nat} {A : Nat → Prop} {f : Nat → va_E} {b L o o2 : Nat} {xs : Nat → Int32} {i : Int} {M : zCt} {S : zS2} (CX : zC p s m #[.ref b] meth c cL_law 4 ret RL wsL_law) (hX : va_X b L xs s s.heap) (hbl : b < s.heap.size) (hbA : ¬ A b) (hi : 0 ≤ i) (hi2 : i + 8 ≤ L) (hL : L ≤ 4096) (hW : zW D (zT cI cJ cZ cP cS cM) Lp A s f s.heap H locs) (hP : zCP cI cP cS cZ cM o M f) (hC : zCI M) (hO : zMO cI cJ o2 S f = f) (hI : mI S) (hd : o + 681 ≤ o2 ∨ o2 + 21 ≤ o) (hl : lv_has ls 4 [(3, .int (zI i)), (2, .ref o2), (1, .ref o), (0, .ref b)]) (hE : (zc_singular M (zx xs (i + 1).toNat) (zx xs (i + 2).toNat)).1 = (zm_singular S (zx xs (i + 1).toNat) (zx xs (i + 2).toNat)).1)
    (kk : ∀ (g : Nat → va_E) (H : Heap) (locs : List Loc), zW D (zT cI cJ cZ cP cS cM) Lp A s g s.heap H locs → zCP cI cP cS cZ cM o (zc_singular M (zx xs (i + 1).toNat) (zx xs (i + 2).toNat)).2 g → zCI (zc_singular M (zx xs (i + 1).toNat) (zx xs (i + 2).toNat)).2 → zMO cI cJ o2 (zm_singular S (zx xs (i + 1).toNat) (zx xs (i + 2).toNat)).2 g = g → mI (zm_singular S (zx xs (i + 1).toNat) (zx xs (i + 2).toNat)).2 → W p l e room_1 s m #[.ref b] below meth c H locs 600000 7302250 Q (F0 m 1522 ls [])) : W p l e room_1 s m #[.ref b] below meth c H locs 600000 7302250 Q (F0 m 580 ls []) := by
  refine lv_aload_n CX.1 CX.2.1 dL_law_580 rfl (lv_at hl 2 rfl) ?_
  refine lv_aload_n CX.1 CX.2.1 dL_law_581 rfl (lv_at hl 3 rfl) ?_
  refine lv_iload_n CX.1 CX.2.1 dL_law_582 rfl (lv_at hl 0 rfl) ?_
  refine lv_iconst (v := zI 1) CX.1 CX.2.1 dL_law_583 rfl ?_
  refine z_iadd (z := i + 1) CX dL_law_584 rfl ?_
  refine z_sld CX hW hX hbl hbA (by omega) (by omega) hL dL_law_585 ?_
  refine lv_aload_n CX.1 CX.2.1 dL_law_586 rfl (lv_at hl 3 rfl) ?_
  refine lv_iload_n CX.1 CX.2.1 dL_law_587 rfl (lv_at hl 0 rfl) ?_
  refine lv_iconst (v := zI 2) CX.1 CX.2.1 dL_law_588 rfl ?_
  refine z_iadd (z := i + 2) CX dL_law_589 rfl ?_
  refine z_sld CX hW hX hbl hbA (by omega) (by omega) hL dL_law_590 ?_
  refine z_calli hW (va_runV (C := RX11) (As := [.int (zI (zx xs (i + 1).toNat)), .int (zI (zx xs (i + 2).toNat))]) (rest := []) CX.fix (zd_singular l o M (zx xs (i + 1).toNat) (zx xs (i + 2).toNat) hP hC (zx_r xs _) (zx_r xs _) ) (cwV 2 CX.fix.2.2.2.2 gL_law_X11_singular rfl rfl rfl (by decide +kernel) ⟨Nat.le_of_ble_eq_true rfl, Nat.le_of_ble_eq_true rfl⟩) (z_preV CX hW (r := (RX11, TX11, 13)) (show f o = _ from hP.c0) rfl) rfl rfl hl.1 rfl (lv_room (Nat.le_of_ble_eq_true rfl)) dL_law_591 ⟨Nat.le_of_ble_eq_true rfl, Nat.le_of_ble_eq_true rfl⟩) (fun z1 g1 H locs hok hW => ?_)
  obtain ⟨hz1, hP1, hC1, hF1, _, _⟩ := hok
  have hO1 : zMO cI cJ o2 S g1 = g1 := zMO_fix hO (fun q h1 h2 => hF1 q (by omega))
  have hW : zW D (zT cI cJ cZ cP cS cM) Lp A s (zMO cI cJ o2 S g1) s.heap H locs := by rw [hO1]; exact hW
  refine lv_aload_n CX.1 CX.2.1 dL_law_594 rfl (lv_at hl 1 rfl) ?_
  refine lv_aload_n CX.1 CX.2.1 dL_law_595 rfl (lv_at hl 3 rfl) ?_
  refine lv_iload_n CX.1 CX.2.1 dL_law_596 rfl (lv_at hl 0 rfl) ?_
  refine lv_iconst (v := zI 1) CX.1 CX.2.1 dL_law_597 rfl ?_
  refine z_iadd (z := i + 1) CX dL_law_598 rfl ?_
  refine z_sld CX hW hX hbl hbA (by omega) (by omega) hL dL_law_599 ?_
  refine lv_aload_n CX.1 CX.2.1 dL_law_600 rfl (lv_at hl 3 rfl) ?_
  refine lv_iload_n CX.1 CX.2.1 dL_law_601 rfl (lv_at hl 0 rfl) ?_
  refine lv_iconst (v := zI 2) CX.1 CX.2.1 dL_law_602 rfl ?_
  refine z_iadd (z := i + 2) CX dL_law_603 rfl ?_
  refine z_sld CX hW hX hbl hbA (by omega) (by omega) hL dL_law_604 ?_
  refine z_calli hW (va_runV (C := RX12) (As := [.int (zI (zx xs (i + 1).toNat)), .int (zI (zx xs (i + 2).toNat))]) (rest := [.int (zI z1)]) CX.fix (zk_singular l (f := g1) o2 S (zx xs (i + 1).toNat) (zx xs (i + 2).toNat) hI (zx_r xs _) (zx_r xs _) ) (cwV 2 CX.fix.2.2.2.2 gL_law_X12_singular rfl rfl rfl (by decide +kernel) ⟨Nat.le_of_ble_eq_true rfl, Nat.le_of_ble_eq_true rfl⟩) (z_preV CX hW (r := (RX12, TX12, 37)) zMO_0 rfl) rfl rfl hl.1 rfl (lv_room (Nat.le_of_ble_eq_true rfl)) dL_law_605 ⟨Nat.le_of_ble_eq_true rfl, Nat.le_of_ble_eq_true rfl⟩) (fun z2 g2 H locs hok hW => ?_)
  obtain ⟨hz2, hg2, hI2, _, _⟩ := hok
  rw [hg2] at hW
  have hz : z1 = z2 := hz1.trans (hE.trans hz2.symm)
  rw [hz]
  refine lv_icmp_eq (tgt := 1522) CX.1 CX.2.1 dL_law_608 (by decide) (fun _ => ?_) (fun h => absurd rfl h)
  exact kk _ H locs hW (hP1.same (fun q h1 h2 => by first | exact zMO_out (by omega) | rfl)) hC1 zMO_id hI2
set_option maxRecDepth 100000 in
set_option maxHeartbeats 4000000 in
theorem zl_13 {p : Program} {l : Launch} {e : Env} {s : State} {m : MethodId} {below : List Frame} {meth : Method} {c : Code} {H : Heap} {locs : List Loc} {Q : State → Prop} {ls : Array Slot} {D : va_G} {cI cJ cZ cP cS cM : ClassId} {Lp : List Nat} {A : Nat → Prop} {f : Nat → va_E} {b L o o2 : Nat} {xs : Nat → Int32} {i : Int} {M : zCt} {S : zS2} (CX : zC p s m #[.ref b] meth c cL_law 4 ret RL wsL_law) (hX : va_X b L xs s s.heap) (hbl : b < s.heap.size) (hbA : ¬ A b) (hi : 0 ≤ i) (hi2 : i + 8 ≤ L) (hL : L ≤ 4096) (hW : zW D (zT cI cJ cZ cP cS cM) Lp A s f s.heap H locs) (hP : zCP cI cP cS cZ cM o M f) (hC : zCI M) (hO : zMO cI cJ o2 S f = f) (hI : mI S) (hd : o + 681 ≤ o2 ∨ o2 + 21 ≤ o) (hl : lv_has ls 4 [(3, .int (zI i)), (2, .ref o2), (1, .ref o), (0, .ref b)]) (hE : (zc_tangent M (zx xs (i + 1).toNat) (zx xs (i + 2).toNat) (zx xs (i + 3).toNat) (zx xs (i + 4).toNat)).1 = (zm_tangent S (zx xs (i + 1).toNat) (zx xs (i + 2).toNat) (zx xs (i + 3).toNat) (zx xs (i + 4).toNat)).1)
    (kk : ∀ (g : Nat → va_E) (H : Heap) (locs : List Loc), zW D (zT cI cJ cZ cP cS cM) Lp A s g s.heap H locs → zCP cI cP cS cZ cM o (zc_tangent M (zx xs (i + 1).toNat) (zx xs (i + 2).toNat) (zx xs (i + 3).toNat) (zx xs (i + 4).toNat)).2 g → zCI (zc_tangent M (zx xs (i + 1).toNat) (zx xs (i + 2).toNat) (zx xs (i + 3).toNat) (zx xs (i + 4).toNat)).2 → zMO cI cJ o2 (zm_tangent S (zx xs (i + 1).toNat) (zx xs (i + 2).toNat) (zx xs (i + 3).toNat) (zx xs (i + 4).toNat)).2 g = g → mI (zm_tangent S (zx xs (i + 1).toNat) (zx xs (i + 2).toNat) (zx xs (i + 3).toNat) (zx xs (i + 4).toNat)).2 → W p l e room_1 s m #[.ref b] below meth c H locs 600000 7302250 Q (F0 m 1522 ls [])) : W p l e room_1 s m #[.ref b] below meth c H locs 600000 7302250 Q (F0 m 613 ls []) := by
  refine lv_aload_n CX.1 CX.2.1 dL_law_613 rfl (lv_at hl 2 rfl) ?_
  refine lv_aload_n CX.1 CX.2.1 dL_law_614 rfl (lv_at hl 3 rfl) ?_
  refine lv_iload_n CX.1 CX.2.1 dL_law_615 rfl (lv_at hl 0 rfl) ?_
  refine lv_iconst (v := zI 1) CX.1 CX.2.1 dL_law_616 rfl ?_
  refine z_iadd (z := i + 1) CX dL_law_617 rfl ?_
  refine z_sld CX hW hX hbl hbA (by omega) (by omega) hL dL_law_618 ?_
  refine lv_aload_n CX.1 CX.2.1 dL_law_619 rfl (lv_at hl 3 rfl) ?_
  refine lv_iload_n CX.1 CX.2.1 dL_law_620 rfl (lv_at hl 0 rfl) ?_
  refine lv_iconst (v := zI 2) CX.1 CX.2.1 dL_law_621 rfl ?_
  refine z_iadd (z := i + 2) CX dL_law_622 rfl ?_
  refine z_sld CX hW hX hbl hbA (by omega) (by omega) hL dL_law_623 ?_
  refine lv_aload_n CX.1 CX.2.1 dL_law_624 rfl (lv_at hl 3 rfl) ?_
  refine lv_iload_n CX.1 CX.2.1 dL_law_625 rfl (lv_at hl 0 rfl) ?_
  refine lv_iconst (v := zI 3) CX.1 CX.2.1 dL_law_626 rfl ?_
  refine z_iadd (z := i + 3) CX dL_law_627 rfl ?_
  refine z_sld CX hW hX hbl hbA (by omega) (by omega) hL dL_law_628 ?_
  refine lv_aload_n CX.1 CX.2.1 dL_law_629 rfl (lv_at hl 3 rfl) ?_
  refine lv_iload_n CX.1 CX.2.1 dL_law_630 rfl (lv_at hl 0 rfl) ?_
  refine lv_iconst (v := zI 4) CX.1 CX.2.1 dL_law_631 rfl ?_
  refine z_iadd (z := i + 4) CX dL_law_632 rfl ?_
  refine z_sld CX hW hX hbl hbA (by omega) (by omega) hL dL_law_633 ?_
  refine z_calli hW (va_runV (C := RX11) (As := [.int (zI (zx xs (i + 1).toNat)), .int (zI (zx xs (i + 2).toNat)), .int (zI (zx xs (i + 3).toNat)), .int (zI (zx xs (i + 4).toNat))]) (rest := []) CX.fix (zd_tangent l o M (zx xs (i + 1).toNat) (zx xs (i + 2).toNat) (zx xs (i + 3).toNat) (zx xs (i + 4).toNat) hP hC (zx_r xs _) (zx_r xs _) (zx_r xs _) (zx_r xs _) ) (cwV 4 CX.fix.2.2.2.2 gL_law_X11_tangent rfl rfl rfl (by decide +kernel) ⟨Nat.le_of_ble_eq_true rfl, Nat.le_of_ble_eq_true rfl⟩) (z_preV CX hW (r := (RX11, TX11, 13)) (show f o = _ from hP.c0) rfl) rfl rfl hl.1 rfl (lv_room (Nat.le_of_ble_eq_true rfl)) dL_law_634 ⟨Nat.le_of_ble_eq_true rfl, Nat.le_of_ble_eq_true rfl⟩) (fun z1 g1 H locs hok hW => ?_)
  obtain ⟨hz1, hP1, hC1, hF1, _, _⟩ := hok
  have hO1 : zMO cI cJ o2 S g1 = g1 := zMO_fix hO (fun q h1 h2 => hF1 q (by omega))
  have hW : zW D (zT cI cJ cZ cP cS cM) Lp A s (zMO cI cJ o2 S g1) s.heap H locs := by rw [hO1]; exact hW
  refine lv_aload_n CX.1 CX.2.1 dL_law_637 rfl (lv_at hl 1 rfl) ?_
  refine lv_aload_n CX.1 CX.2.1 dL_law_638 rfl (lv_at hl 3 rfl) ?_
  refine lv_iload_n CX.1 CX.2.1 dL_law_639 rfl (lv_at hl 0 rfl) ?_
  refine lv_iconst (v := zI 1) CX.1 CX.2.1 dL_law_640 rfl ?_
  refine z_iadd (z := i + 1) CX dL_law_641 rfl ?_
  refine z_sld CX hW hX hbl hbA (by omega) (by omega) hL dL_law_642 ?_
  refine lv_aload_n CX.1 CX.2.1 dL_law_643 rfl (lv_at hl 3 rfl) ?_
  refine lv_iload_n CX.1 CX.2.1 dL_law_644 rfl (lv_at hl 0 rfl) ?_
  refine lv_iconst (v := zI 2) CX.1 CX.2.1 dL_law_645 rfl ?_
  refine z_iadd (z := i + 2) CX dL_law_646 rfl ?_
  refine z_sld CX hW hX hbl hbA (by omega) (by omega) hL dL_law_647 ?_
  refine lv_aload_n CX.1 CX.2.1 dL_law_648 rfl (lv_at hl 3 rfl) ?_
  refine lv_iload_n CX.1 CX.2.1 dL_law_649 rfl (lv_at hl 0 rfl) ?_
  refine lv_iconst (v := zI 3) CX.1 CX.2.1 dL_law_650 rfl ?_
  refine z_iadd (z := i + 3) CX dL_law_651 rfl ?_
  refine z_sld CX hW hX hbl hbA (by omega) (by omega) hL dL_law_652 ?_
  refine lv_aload_n CX.1 CX.2.1 dL_law_653 rfl (lv_at hl 3 rfl) ?_
  refine lv_iload_n CX.1 CX.2.1 dL_law_654 rfl (lv_at hl 0 rfl) ?_
  refine lv_iconst (v := zI 4) CX.1 CX.2.1 dL_law_655 rfl ?_
  refine z_iadd (z := i + 4) CX dL_law_656 rfl ?_
  refine z_sld CX hW hX hbl hbA (by omega) (by omega) hL dL_law_657 ?_
  refine z_calli hW (va_runV (C := RX12) (As := [.int (zI (zx xs (i + 1).toNat)), .int (zI (zx xs (i + 2).toNat)), .int (zI (zx xs (i + 3).toNat)), .int (zI (zx xs (i + 4).toNat))]) (rest := [.int (zI z1)]) CX.fix (zk_tangent l (f := g1) o2 S (zx xs (i + 1).toNat) (zx xs (i + 2).toNat) (zx xs (i + 3).toNat) (zx xs (i + 4).toNat) hI (zx_r xs _) (zx_r xs _) (zx_r xs _) (zx_r xs _) ) (cwV 4 CX.fix.2.2.2.2 gL_law_X12_tangent rfl rfl rfl (by decide +kernel) ⟨Nat.le_of_ble_eq_true rfl, Nat.le_of_ble_eq_true rfl⟩) (z_preV CX hW (r := (RX12, TX12, 37)) zMO_0 rfl) rfl rfl hl.1 rfl (lv_room (Nat.le_of_ble_eq_true rfl)) dL_law_658 ⟨Nat.le_of_ble_eq_true rfl, Nat.le_of_ble_eq_true rfl⟩) (fun z2 g2 H locs hok hW => ?_)
  obtain ⟨hz2, hg2, hI2, _, _⟩ := hok
  rw [hg2] at hW
  have hz : z1 = z2 := hz1.trans (hE.trans hz2.symm)
  rw [hz]
  refine lv_icmp_eq (tgt := 1522) CX.1 CX.2.1 dL_law_661 (by decide) (fun _ => ?_) (fun h => absurd rfl h)
  exact kk _ H locs hW (hP1.same (fun q h1 h2 => by first | exact zMO_out (by omega) | rfl)) hC1 zMO_id hI2
set_option maxRecDepth 100000 in
set_option maxHeartbeats 4000000 in
theorem zl_14 {p : Program} {l : Launch} {e : Env} {s : State} {m : MethodId} {below : List Frame} {meth : Method} {c : Code} {H : Heap} {locs : List Loc} {Q : State → Prop} {ls : Array Slot} {D : va_G} {cI cJ cZ cP cS cM : ClassId} {Lp : List Nat} {A : Nat → Prop} {f : Nat → va_E} {b L o o2 : Nat} {xs : Nat → Int32} {i : Int} {M : zCt} {S : zS2} (CX : zC p s m #[.ref b] meth c cL_law 4 ret RL wsL_law) (hX : va_X b L xs s s.heap) (hbl : b < s.heap.size) (hbA : ¬ A b) (hi : 0 ≤ i) (hi2 : i + 8 ≤ L) (hL : L ≤ 4096) (hW : zW D (zT cI cJ cZ cP cS cM) Lp A s f s.heap H locs) (hP : zCP cI cP cS cZ cM o M f) (hC : zCI M) (hO : zMO cI cJ o2 S f = f) (hI : mI S) (hd : o + 681 ≤ o2 ∨ o2 + 21 ≤ o) (hl : lv_has ls 4 [(3, .int (zI i)), (2, .ref o2), (1, .ref o), (0, .ref b)]) (hE : (zc_bend M (zx xs (i + 1).toNat) (zx xs (i + 2).toNat)).1 = (zm_bend S (zx xs (i + 1).toNat) (zx xs (i + 2).toNat)).1)
    (kk : ∀ (g : Nat → va_E) (H : Heap) (locs : List Loc), zW D (zT cI cJ cZ cP cS cM) Lp A s g s.heap H locs → zCP cI cP cS cZ cM o (zc_bend M (zx xs (i + 1).toNat) (zx xs (i + 2).toNat)).2 g → zCI (zc_bend M (zx xs (i + 1).toNat) (zx xs (i + 2).toNat)).2 → zMO cI cJ o2 (zm_bend S (zx xs (i + 1).toNat) (zx xs (i + 2).toNat)).2 g = g → mI (zm_bend S (zx xs (i + 1).toNat) (zx xs (i + 2).toNat)).2 → W p l e room_1 s m #[.ref b] below meth c H locs 600000 7302250 Q (F0 m 1522 ls [])) : W p l e room_1 s m #[.ref b] below meth c H locs 600000 7302250 Q (F0 m 666 ls []) := by
  refine lv_aload_n CX.1 CX.2.1 dL_law_666 rfl (lv_at hl 2 rfl) ?_
  refine lv_aload_n CX.1 CX.2.1 dL_law_667 rfl (lv_at hl 3 rfl) ?_
  refine lv_iload_n CX.1 CX.2.1 dL_law_668 rfl (lv_at hl 0 rfl) ?_
  refine lv_iconst (v := zI 1) CX.1 CX.2.1 dL_law_669 rfl ?_
  refine z_iadd (z := i + 1) CX dL_law_670 rfl ?_
  refine z_sld CX hW hX hbl hbA (by omega) (by omega) hL dL_law_671 ?_
  refine lv_aload_n CX.1 CX.2.1 dL_law_672 rfl (lv_at hl 3 rfl) ?_
  refine lv_iload_n CX.1 CX.2.1 dL_law_673 rfl (lv_at hl 0 rfl) ?_
  refine lv_iconst (v := zI 2) CX.1 CX.2.1 dL_law_674 rfl ?_
  refine z_iadd (z := i + 2) CX dL_law_675 rfl ?_
  refine z_sld CX hW hX hbl hbA (by omega) (by omega) hL dL_law_676 ?_
  refine z_calli hW (va_runV (C := RX11) (As := [.int (zI (zx xs (i + 1).toNat)), .int (zI (zx xs (i + 2).toNat))]) (rest := []) CX.fix (zd_bend l o M (zx xs (i + 1).toNat) (zx xs (i + 2).toNat) hP hC (zx_r xs _) (zx_r xs _) ) (cwV 2 CX.fix.2.2.2.2 gL_law_X11_bend rfl rfl rfl (by decide +kernel) ⟨Nat.le_of_ble_eq_true rfl, Nat.le_of_ble_eq_true rfl⟩) (z_preV CX hW (r := (RX11, TX11, 13)) (show f o = _ from hP.c0) rfl) rfl rfl hl.1 rfl (lv_room (Nat.le_of_ble_eq_true rfl)) dL_law_677 ⟨Nat.le_of_ble_eq_true rfl, Nat.le_of_ble_eq_true rfl⟩) (fun z1 g1 H locs hok hW => ?_)
  obtain ⟨hz1, hP1, hC1, hF1, _, _⟩ := hok
  have hO1 : zMO cI cJ o2 S g1 = g1 := zMO_fix hO (fun q h1 h2 => hF1 q (by omega))
  have hW : zW D (zT cI cJ cZ cP cS cM) Lp A s (zMO cI cJ o2 S g1) s.heap H locs := by rw [hO1]; exact hW
  refine lv_aload_n CX.1 CX.2.1 dL_law_680 rfl (lv_at hl 1 rfl) ?_
  refine lv_aload_n CX.1 CX.2.1 dL_law_681 rfl (lv_at hl 3 rfl) ?_
  refine lv_iload_n CX.1 CX.2.1 dL_law_682 rfl (lv_at hl 0 rfl) ?_
  refine lv_iconst (v := zI 1) CX.1 CX.2.1 dL_law_683 rfl ?_
  refine z_iadd (z := i + 1) CX dL_law_684 rfl ?_
  refine z_sld CX hW hX hbl hbA (by omega) (by omega) hL dL_law_685 ?_
  refine lv_aload_n CX.1 CX.2.1 dL_law_686 rfl (lv_at hl 3 rfl) ?_
  refine lv_iload_n CX.1 CX.2.1 dL_law_687 rfl (lv_at hl 0 rfl) ?_
  refine lv_iconst (v := zI 2) CX.1 CX.2.1 dL_law_688 rfl ?_
  refine z_iadd (z := i + 2) CX dL_law_689 rfl ?_
  refine z_sld CX hW hX hbl hbA (by omega) (by omega) hL dL_law_690 ?_
  refine z_calli hW (va_runV (C := RX12) (As := [.int (zI (zx xs (i + 1).toNat)), .int (zI (zx xs (i + 2).toNat))]) (rest := [.int (zI z1)]) CX.fix (zk_bend l (f := g1) o2 S (zx xs (i + 1).toNat) (zx xs (i + 2).toNat) hI (zx_r xs _) (zx_r xs _) ) (cwV 2 CX.fix.2.2.2.2 gL_law_X12_bend rfl rfl rfl (by decide +kernel) ⟨Nat.le_of_ble_eq_true rfl, Nat.le_of_ble_eq_true rfl⟩) (z_preV CX hW (r := (RX12, TX12, 37)) zMO_0 rfl) rfl rfl hl.1 rfl (lv_room (Nat.le_of_ble_eq_true rfl)) dL_law_691 ⟨Nat.le_of_ble_eq_true rfl, Nat.le_of_ble_eq_true rfl⟩) (fun z2 g2 H locs hok hW => ?_)
  obtain ⟨hz2, hg2, hI2, _, _⟩ := hok
  rw [hg2] at hW
  have hz : z1 = z2 := hz1.trans (hE.trans hz2.symm)
  rw [hz]
  refine lv_icmp_eq (tgt := 1522) CX.1 CX.2.1 dL_law_694 (by decide) (fun _ => ?_) (fun h => absurd rfl h)
  exact kk _ H locs hW (hP1.same (fun q h1 h2 => by first | exact zMO_out (by omega) | rfl)) hC1 zMO_id hI2
set_option maxRecDepth 100000 in
set_option maxHeartbeats 4000000 in
theorem zl_15 {p : Program} {l : Launch} {e : Env} {s : State} {m : MethodId} {below : List Frame} {meth : Method} {c : Code} {H : Heap} {locs : List Loc} {Q : State → Prop} {ls : Array Slot} {D : va_G} {cI cJ cZ cP cS cM : ClassId} {Lp : List Nat} {A : Nat → Prop} {f : Nat → va_E} {b L o o2 : Nat} {xs : Nat → Int32} {i : Int} {M : zCt} {S : zS2} (CX : zC p s m #[.ref b] meth c cL_law 4 ret RL wsL_law) (hX : va_X b L xs s s.heap) (hbl : b < s.heap.size) (hbA : ¬ A b) (hi : 0 ≤ i) (hi2 : i + 8 ≤ L) (hL : L ≤ 4096) (hW : zW D (zT cI cJ cZ cP cS cM) Lp A s f s.heap H locs) (hP : zCP cI cP cS cZ cM o M f) (hC : zCI M) (hO : zMO cI cJ o2 S f = f) (hI : mI S) (hd : o + 681 ≤ o2 ∨ o2 + 21 ≤ o) (hl : lv_has ls 4 [(3, .int (zI i)), (2, .ref o2), (1, .ref o), (0, .ref b)]) (hE : (zc_flex M (zx xs (i + 1).toNat) (zx xs (i + 2).toNat)).1 = (zm_flex S (zx xs (i + 1).toNat) (zx xs (i + 2).toNat)).1)
    (kk : ∀ (g : Nat → va_E) (H : Heap) (locs : List Loc), zW D (zT cI cJ cZ cP cS cM) Lp A s g s.heap H locs → zCP cI cP cS cZ cM o (zc_flex M (zx xs (i + 1).toNat) (zx xs (i + 2).toNat)).2 g → zCI (zc_flex M (zx xs (i + 1).toNat) (zx xs (i + 2).toNat)).2 → zMO cI cJ o2 (zm_flex S (zx xs (i + 1).toNat) (zx xs (i + 2).toNat)).2 g = g → mI (zm_flex S (zx xs (i + 1).toNat) (zx xs (i + 2).toNat)).2 → W p l e room_1 s m #[.ref b] below meth c H locs 600000 7302250 Q (F0 m 1522 ls [])) : W p l e room_1 s m #[.ref b] below meth c H locs 600000 7302250 Q (F0 m 699 ls []) := by
  refine lv_aload_n CX.1 CX.2.1 dL_law_699 rfl (lv_at hl 2 rfl) ?_
  refine lv_aload_n CX.1 CX.2.1 dL_law_700 rfl (lv_at hl 3 rfl) ?_
  refine lv_iload_n CX.1 CX.2.1 dL_law_701 rfl (lv_at hl 0 rfl) ?_
  refine lv_iconst (v := zI 1) CX.1 CX.2.1 dL_law_702 rfl ?_
  refine z_iadd (z := i + 1) CX dL_law_703 rfl ?_
  refine z_sld CX hW hX hbl hbA (by omega) (by omega) hL dL_law_704 ?_
  refine lv_aload_n CX.1 CX.2.1 dL_law_705 rfl (lv_at hl 3 rfl) ?_
  refine lv_iload_n CX.1 CX.2.1 dL_law_706 rfl (lv_at hl 0 rfl) ?_
  refine lv_iconst (v := zI 2) CX.1 CX.2.1 dL_law_707 rfl ?_
  refine z_iadd (z := i + 2) CX dL_law_708 rfl ?_
  refine z_sld CX hW hX hbl hbA (by omega) (by omega) hL dL_law_709 ?_
  refine z_calli hW (va_runV (C := RX11) (As := [.int (zI (zx xs (i + 1).toNat)), .int (zI (zx xs (i + 2).toNat))]) (rest := []) CX.fix (zd_flex l o M (zx xs (i + 1).toNat) (zx xs (i + 2).toNat) hP hC (zx_r xs _) (zx_r xs _) ) (cwV 2 CX.fix.2.2.2.2 gL_law_X11_flex rfl rfl rfl (by decide +kernel) ⟨Nat.le_of_ble_eq_true rfl, Nat.le_of_ble_eq_true rfl⟩) (z_preV CX hW (r := (RX11, TX11, 13)) (show f o = _ from hP.c0) rfl) rfl rfl hl.1 rfl (lv_room (Nat.le_of_ble_eq_true rfl)) dL_law_710 ⟨Nat.le_of_ble_eq_true rfl, Nat.le_of_ble_eq_true rfl⟩) (fun z1 g1 H locs hok hW => ?_)
  obtain ⟨hz1, hP1, hC1, hF1, _, _⟩ := hok
  have hO1 : zMO cI cJ o2 S g1 = g1 := zMO_fix hO (fun q h1 h2 => hF1 q (by omega))
  have hW : zW D (zT cI cJ cZ cP cS cM) Lp A s (zMO cI cJ o2 S g1) s.heap H locs := by rw [hO1]; exact hW
  refine lv_aload_n CX.1 CX.2.1 dL_law_713 rfl (lv_at hl 1 rfl) ?_
  refine lv_aload_n CX.1 CX.2.1 dL_law_714 rfl (lv_at hl 3 rfl) ?_
  refine lv_iload_n CX.1 CX.2.1 dL_law_715 rfl (lv_at hl 0 rfl) ?_
  refine lv_iconst (v := zI 1) CX.1 CX.2.1 dL_law_716 rfl ?_
  refine z_iadd (z := i + 1) CX dL_law_717 rfl ?_
  refine z_sld CX hW hX hbl hbA (by omega) (by omega) hL dL_law_718 ?_
  refine lv_aload_n CX.1 CX.2.1 dL_law_719 rfl (lv_at hl 3 rfl) ?_
  refine lv_iload_n CX.1 CX.2.1 dL_law_720 rfl (lv_at hl 0 rfl) ?_
  refine lv_iconst (v := zI 2) CX.1 CX.2.1 dL_law_721 rfl ?_
  refine z_iadd (z := i + 2) CX dL_law_722 rfl ?_
  refine z_sld CX hW hX hbl hbA (by omega) (by omega) hL dL_law_723 ?_
  refine z_calli hW (va_runV (C := RX12) (As := [.int (zI (zx xs (i + 1).toNat)), .int (zI (zx xs (i + 2).toNat))]) (rest := [.int (zI z1)]) CX.fix (zk_flex l (f := g1) o2 S (zx xs (i + 1).toNat) (zx xs (i + 2).toNat) hI (zx_r xs _) (zx_r xs _) ) (cwV 2 CX.fix.2.2.2.2 gL_law_X12_flex rfl rfl rfl (by decide +kernel) ⟨Nat.le_of_ble_eq_true rfl, Nat.le_of_ble_eq_true rfl⟩) (z_preV CX hW (r := (RX12, TX12, 37)) zMO_0 rfl) rfl rfl hl.1 rfl (lv_room (Nat.le_of_ble_eq_true rfl)) dL_law_724 ⟨Nat.le_of_ble_eq_true rfl, Nat.le_of_ble_eq_true rfl⟩) (fun z2 g2 H locs hok hW => ?_)
  obtain ⟨hz2, hg2, hI2, _, _⟩ := hok
  rw [hg2] at hW
  have hz : z1 = z2 := hz1.trans (hE.trans hz2.symm)
  rw [hz]
  refine lv_icmp_eq (tgt := 1522) CX.1 CX.2.1 dL_law_727 (by decide) (fun _ => ?_) (fun h => absurd rfl h)
  exact kk _ H locs hW (hP1.same (fun q h1 h2 => by first | exact zMO_out (by omega) | rfl)) hC1 zMO_id hI2
set_option maxRecDepth 100000 in
set_option maxHeartbeats 4000000 in
theorem zl_16 {p : Program} {l : Launch} {e : Env} {s : State} {m : MethodId} {below : List Frame} {meth : Method} {c : Code} {H : Heap} {locs : List Loc} {Q : State → Prop} {ls : Array Slot} {D : va_G} {cI cJ cZ cP cS cM : ClassId} {Lp : List Nat} {A : Nat → Prop} {f : Nat → va_E} {b L o o2 : Nat} {xs : Nat → Int32} {i : Int} {M : zCt} {S : zS2} (CX : zC p s m #[.ref b] meth c cL_law 4 ret RL wsL_law) (hX : va_X b L xs s s.heap) (hbl : b < s.heap.size) (hbA : ¬ A b) (hi : 0 ≤ i) (hi2 : i + 8 ≤ L) (hL : L ≤ 4096) (hW : zW D (zT cI cJ cZ cP cS cM) Lp A s f s.heap H locs) (hP : zCP cI cP cS cZ cM o M f) (hC : zCI M) (hO : zMO cI cJ o2 S f = f) (hI : mI S) (hd : o + 681 ≤ o2 ∨ o2 + 21 ≤ o) (hl : lv_has ls 4 [(3, .int (zI i)), (2, .ref o2), (1, .ref o), (0, .ref b)]) (hE : (zc_genus M (zx xs (i + 1).toNat)).1 = (zm_genus S (zx xs (i + 1).toNat)).1)
    (kk : ∀ (g : Nat → va_E) (H : Heap) (locs : List Loc), zW D (zT cI cJ cZ cP cS cM) Lp A s g s.heap H locs → zCP cI cP cS cZ cM o (zc_genus M (zx xs (i + 1).toNat)).2 g → zCI (zc_genus M (zx xs (i + 1).toNat)).2 → zMO cI cJ o2 (zm_genus S (zx xs (i + 1).toNat)).2 g = g → mI (zm_genus S (zx xs (i + 1).toNat)).2 → W p l e room_1 s m #[.ref b] below meth c H locs 600000 7302250 Q (F0 m 1522 ls [])) : W p l e room_1 s m #[.ref b] below meth c H locs 600000 7302250 Q (F0 m 732 ls []) := by
  refine lv_aload_n CX.1 CX.2.1 dL_law_732 rfl (lv_at hl 2 rfl) ?_
  refine lv_aload_n CX.1 CX.2.1 dL_law_733 rfl (lv_at hl 3 rfl) ?_
  refine lv_iload_n CX.1 CX.2.1 dL_law_734 rfl (lv_at hl 0 rfl) ?_
  refine lv_iconst (v := zI 1) CX.1 CX.2.1 dL_law_735 rfl ?_
  refine z_iadd (z := i + 1) CX dL_law_736 rfl ?_
  refine z_sld CX hW hX hbl hbA (by omega) (by omega) hL dL_law_737 ?_
  refine z_calli hW (va_runV (C := RX11) (As := [.int (zI (zx xs (i + 1).toNat))]) (rest := []) CX.fix (zd_genus l o M (zx xs (i + 1).toNat) hP hC (zx_r xs _) ) (cwV 1 CX.fix.2.2.2.2 gL_law_X11_genus rfl rfl rfl (by decide +kernel) ⟨Nat.le_of_ble_eq_true rfl, Nat.le_of_ble_eq_true rfl⟩) (z_preV CX hW (r := (RX11, TX11, 13)) (show f o = _ from hP.c0) rfl) rfl rfl hl.1 rfl (lv_room (Nat.le_of_ble_eq_true rfl)) dL_law_738 ⟨Nat.le_of_ble_eq_true rfl, Nat.le_of_ble_eq_true rfl⟩) (fun z1 g1 H locs hok hW => ?_)
  obtain ⟨hz1, hP1, hC1, hF1, _, _⟩ := hok
  have hO1 : zMO cI cJ o2 S g1 = g1 := zMO_fix hO (fun q h1 h2 => hF1 q (by omega))
  have hW : zW D (zT cI cJ cZ cP cS cM) Lp A s (zMO cI cJ o2 S g1) s.heap H locs := by rw [hO1]; exact hW
  refine lv_aload_n CX.1 CX.2.1 dL_law_741 rfl (lv_at hl 1 rfl) ?_
  refine lv_aload_n CX.1 CX.2.1 dL_law_742 rfl (lv_at hl 3 rfl) ?_
  refine lv_iload_n CX.1 CX.2.1 dL_law_743 rfl (lv_at hl 0 rfl) ?_
  refine lv_iconst (v := zI 1) CX.1 CX.2.1 dL_law_744 rfl ?_
  refine z_iadd (z := i + 1) CX dL_law_745 rfl ?_
  refine z_sld CX hW hX hbl hbA (by omega) (by omega) hL dL_law_746 ?_
  refine z_calli hW (va_runV (C := RX12) (As := [.int (zI (zx xs (i + 1).toNat))]) (rest := [.int (zI z1)]) CX.fix (zk_genus l (f := g1) o2 S (zx xs (i + 1).toNat) hI (zx_r xs _) ) (cwV 1 CX.fix.2.2.2.2 gL_law_X12_genus rfl rfl rfl (by decide +kernel) ⟨Nat.le_of_ble_eq_true rfl, Nat.le_of_ble_eq_true rfl⟩) (z_preV CX hW (r := (RX12, TX12, 37)) zMO_0 rfl) rfl rfl hl.1 rfl (lv_room (Nat.le_of_ble_eq_true rfl)) dL_law_747 ⟨Nat.le_of_ble_eq_true rfl, Nat.le_of_ble_eq_true rfl⟩) (fun z2 g2 H locs hok hW => ?_)
  obtain ⟨hz2, hg2, hI2, _, _⟩ := hok
  rw [hg2] at hW
  have hz : z1 = z2 := hz1.trans (hE.trans hz2.symm)
  rw [hz]
  refine lv_icmp_eq (tgt := 1522) CX.1 CX.2.1 dL_law_750 (by decide) (fun _ => ?_) (fun h => absurd rfl h)
  exact kk _ H locs hW (hP1.same (fun q h1 h2 => by first | exact zMO_out (by omega) | rfl)) hC1 zMO_id hI2
set_option maxRecDepth 100000 in
set_option maxHeartbeats 4000000 in
theorem zl_17 {p : Program} {l : Launch} {e : Env} {s : State} {m : MethodId} {below : List Frame} {meth : Method} {c : Code} {H : Heap} {locs : List Loc} {Q : State → Prop} {ls : Array Slot} {D : va_G} {cI cJ cZ cP cS cM : ClassId} {Lp : List Nat} {A : Nat → Prop} {f : Nat → va_E} {b L o o2 : Nat} {xs : Nat → Int32} {i : Int} {M : zCt} {S : zS2} (CX : zC p s m #[.ref b] meth c cL_law 4 ret RL wsL_law) (hX : va_X b L xs s s.heap) (hbl : b < s.heap.size) (hbA : ¬ A b) (hi : 0 ≤ i) (hi2 : i + 8 ≤ L) (hL : L ≤ 4096) (hW : zW D (zT cI cJ cZ cP cS cM) Lp A s f s.heap H locs) (hP : zCP cI cP cS cZ cM o M f) (hC : zCI M) (hO : zMO cI cJ o2 S f = f) (hI : mI S) (hd : o + 681 ≤ o2 ∨ o2 + 21 ≤ o) (hl : lv_has ls 4 [(3, .int (zI i)), (2, .ref o2), (1, .ref o), (0, .ref b)]) (hH : zqH S) (hE : (zc_common M (zx xs (i + 1).toNat) (zx xs (i + 2).toNat)).1 = (zm_common S (zx xs (i + 1).toNat) (zx xs (i + 2).toNat)).1)
    (kk : ∀ (g : Nat → va_E) (H : Heap) (locs : List Loc), zW D (zT cI cJ cZ cP cS cM) Lp A s g s.heap H locs → zCP cI cP cS cZ cM o (zc_common M (zx xs (i + 1).toNat) (zx xs (i + 2).toNat)).2 g → zCI (zc_common M (zx xs (i + 1).toNat) (zx xs (i + 2).toNat)).2 → zMO cI cJ o2 (zm_common S (zx xs (i + 1).toNat) (zx xs (i + 2).toNat)).2 g = g → mI (zm_common S (zx xs (i + 1).toNat) (zx xs (i + 2).toNat)).2 → W p l e room_1 s m #[.ref b] below meth c H locs 600000 7302250 Q (F0 m 1522 ls [])) : W p l e room_1 s m #[.ref b] below meth c H locs 600000 7302250 Q (F0 m 755 ls []) := by
  refine lv_aload_n CX.1 CX.2.1 dL_law_755 rfl (lv_at hl 2 rfl) ?_
  refine lv_aload_n CX.1 CX.2.1 dL_law_756 rfl (lv_at hl 3 rfl) ?_
  refine lv_iload_n CX.1 CX.2.1 dL_law_757 rfl (lv_at hl 0 rfl) ?_
  refine lv_iconst (v := zI 1) CX.1 CX.2.1 dL_law_758 rfl ?_
  refine z_iadd (z := i + 1) CX dL_law_759 rfl ?_
  refine z_sld CX hW hX hbl hbA (by omega) (by omega) hL dL_law_760 ?_
  refine lv_aload_n CX.1 CX.2.1 dL_law_761 rfl (lv_at hl 3 rfl) ?_
  refine lv_iload_n CX.1 CX.2.1 dL_law_762 rfl (lv_at hl 0 rfl) ?_
  refine lv_iconst (v := zI 2) CX.1 CX.2.1 dL_law_763 rfl ?_
  refine z_iadd (z := i + 2) CX dL_law_764 rfl ?_
  refine z_sld CX hW hX hbl hbA (by omega) (by omega) hL dL_law_765 ?_
  refine z_calli hW (va_runV (C := RX11) (As := [.int (zI (zx xs (i + 1).toNat)), .int (zI (zx xs (i + 2).toNat))]) (rest := []) CX.fix (zd_common l o M (zx xs (i + 1).toNat) (zx xs (i + 2).toNat) hP hC (zx_r xs _) (zx_r xs _) ) (cwV 2 CX.fix.2.2.2.2 gL_law_X11_common rfl rfl rfl (by decide +kernel) ⟨Nat.le_of_ble_eq_true rfl, Nat.le_of_ble_eq_true rfl⟩) (z_preV CX hW (r := (RX11, TX11, 13)) (show f o = _ from hP.c0) rfl) rfl rfl hl.1 rfl (lv_room (Nat.le_of_ble_eq_true rfl)) dL_law_766 ⟨Nat.le_of_ble_eq_true rfl, Nat.le_of_ble_eq_true rfl⟩) (fun z1 g1 H locs hok hW => ?_)
  obtain ⟨hz1, hP1, hC1, hF1, _, _⟩ := hok
  have hO1 : zMO cI cJ o2 S g1 = g1 := zMO_fix hO (fun q h1 h2 => hF1 q (by omega))
  have hW : zW D (zT cI cJ cZ cP cS cM) Lp A s (zMO cI cJ o2 S g1) s.heap H locs := by rw [hO1]; exact hW
  refine lv_aload_n CX.1 CX.2.1 dL_law_769 rfl (lv_at hl 1 rfl) ?_
  refine lv_aload_n CX.1 CX.2.1 dL_law_770 rfl (lv_at hl 3 rfl) ?_
  refine lv_iload_n CX.1 CX.2.1 dL_law_771 rfl (lv_at hl 0 rfl) ?_
  refine lv_iconst (v := zI 1) CX.1 CX.2.1 dL_law_772 rfl ?_
  refine z_iadd (z := i + 1) CX dL_law_773 rfl ?_
  refine z_sld CX hW hX hbl hbA (by omega) (by omega) hL dL_law_774 ?_
  refine lv_aload_n CX.1 CX.2.1 dL_law_775 rfl (lv_at hl 3 rfl) ?_
  refine lv_iload_n CX.1 CX.2.1 dL_law_776 rfl (lv_at hl 0 rfl) ?_
  refine lv_iconst (v := zI 2) CX.1 CX.2.1 dL_law_777 rfl ?_
  refine z_iadd (z := i + 2) CX dL_law_778 rfl ?_
  refine z_sld CX hW hX hbl hbA (by omega) (by omega) hL dL_law_779 ?_
  refine z_calli hW (va_runV (C := RX12) (As := [.int (zI (zx xs (i + 1).toNat)), .int (zI (zx xs (i + 2).toNat))]) (rest := [.int (zI z1)]) CX.fix (zk_common l (f := g1) o2 S (zx xs (i + 1).toNat) (zx xs (i + 2).toNat) hI (zx_r xs _) (zx_r xs _) hH) (cwV 2 CX.fix.2.2.2.2 gL_law_X12_common rfl rfl rfl (by decide +kernel) ⟨Nat.le_of_ble_eq_true rfl, Nat.le_of_ble_eq_true rfl⟩) (z_preV CX hW (r := (RX12, TX12, 37)) zMO_0 rfl) rfl rfl hl.1 rfl (lv_room (Nat.le_of_ble_eq_true rfl)) dL_law_780 ⟨Nat.le_of_ble_eq_true rfl, Nat.le_of_ble_eq_true rfl⟩) (fun z2 g2 H locs hok hW => ?_)
  obtain ⟨hz2, hg2, hI2, _, _⟩ := hok
  rw [hg2] at hW
  have hz : z1 = z2 := hz1.trans (hE.trans hz2.symm)
  rw [hz]
  refine lv_icmp_eq (tgt := 1522) CX.1 CX.2.1 dL_law_783 (by decide) (fun _ => ?_) (fun h => absurd rfl h)
  exact kk _ H locs hW (hP1.same (fun q h1 h2 => by first | exact zMO_out (by omega) | rfl)) hC1 zMO_id hI2
set_option maxRecDepth 100000 in
set_option maxHeartbeats 4000000 in
theorem zl_18 {p : Program} {l : Launch} {e : Env} {s : State} {m : MethodId} {below : List Frame} {meth : Method} {c : Code} {H : Heap} {locs : List Loc} {Q : State → Prop} {ls : Array Slot} {D : va_G} {cI cJ cZ cP cS cM : ClassId} {Lp : List Nat} {A : Nat → Prop} {f : Nat → va_E} {b L o o2 : Nat} {xs : Nat → Int32} {i : Int} {M : zCt} {S : zS2} (CX : zC p s m #[.ref b] meth c cL_law 4 ret RL wsL_law) (hX : va_X b L xs s s.heap) (hbl : b < s.heap.size) (hbA : ¬ A b) (hi : 0 ≤ i) (hi2 : i + 8 ≤ L) (hL : L ≤ 4096) (hW : zW D (zT cI cJ cZ cP cS cM) Lp A s f s.heap H locs) (hP : zCP cI cP cS cZ cM o M f) (hC : zCI M) (hO : zMO cI cJ o2 S f = f) (hI : mI S) (hd : o + 681 ≤ o2 ∨ o2 + 21 ≤ o) (hl : lv_has ls 4 [(3, .int (zI i)), (2, .ref o2), (1, .ref o), (0, .ref b)]) (hH : zqH S) (hE : (zc_commonTerm M (zx xs (i + 1).toNat) (zx xs (i + 2).toNat) (zx xs (i + 3).toNat) (zx xs (i + 4).toNat)).1 = (zm_commonTerm S (zx xs (i + 1).toNat) (zx xs (i + 2).toNat) (zx xs (i + 3).toNat) (zx xs (i + 4).toNat)).1)
    (kk : ∀ (g : Nat → va_E) (H : Heap) (locs : List Loc), zW D (zT cI cJ cZ cP cS cM) Lp A s g s.heap H locs → zCP cI cP cS cZ cM o (zc_commonTerm M (zx xs (i + 1).toNat) (zx xs (i + 2).toNat) (zx xs (i + 3).toNat) (zx xs (i + 4).toNat)).2 g → zCI (zc_commonTerm M (zx xs (i + 1).toNat) (zx xs (i + 2).toNat) (zx xs (i + 3).toNat) (zx xs (i + 4).toNat)).2 → zMO cI cJ o2 (zm_commonTerm S (zx xs (i + 1).toNat) (zx xs (i + 2).toNat) (zx xs (i + 3).toNat) (zx xs (i + 4).toNat)).2 g = g → mI (zm_commonTerm S (zx xs (i + 1).toNat) (zx xs (i + 2).toNat) (zx xs (i + 3).toNat) (zx xs (i + 4).toNat)).2 → W p l e room_1 s m #[.ref b] below meth c H locs 600000 7302250 Q (F0 m 1522 ls [])) : W p l e room_1 s m #[.ref b] below meth c H locs 600000 7302250 Q (F0 m 788 ls []) := by
  refine lv_aload_n CX.1 CX.2.1 dL_law_788 rfl (lv_at hl 2 rfl) ?_
  refine lv_aload_n CX.1 CX.2.1 dL_law_789 rfl (lv_at hl 3 rfl) ?_
  refine lv_iload_n CX.1 CX.2.1 dL_law_790 rfl (lv_at hl 0 rfl) ?_
  refine lv_iconst (v := zI 1) CX.1 CX.2.1 dL_law_791 rfl ?_
  refine z_iadd (z := i + 1) CX dL_law_792 rfl ?_
  refine z_sld CX hW hX hbl hbA (by omega) (by omega) hL dL_law_793 ?_
  refine lv_aload_n CX.1 CX.2.1 dL_law_794 rfl (lv_at hl 3 rfl) ?_
  refine lv_iload_n CX.1 CX.2.1 dL_law_795 rfl (lv_at hl 0 rfl) ?_
  refine lv_iconst (v := zI 2) CX.1 CX.2.1 dL_law_796 rfl ?_
  refine z_iadd (z := i + 2) CX dL_law_797 rfl ?_
  refine z_sld CX hW hX hbl hbA (by omega) (by omega) hL dL_law_798 ?_
  refine lv_aload_n CX.1 CX.2.1 dL_law_799 rfl (lv_at hl 3 rfl) ?_
  refine lv_iload_n CX.1 CX.2.1 dL_law_800 rfl (lv_at hl 0 rfl) ?_
  refine lv_iconst (v := zI 3) CX.1 CX.2.1 dL_law_801 rfl ?_
  refine z_iadd (z := i + 3) CX dL_law_802 rfl ?_
  refine z_sld CX hW hX hbl hbA (by omega) (by omega) hL dL_law_803 ?_
  refine lv_aload_n CX.1 CX.2.1 dL_law_804 rfl (lv_at hl 3 rfl) ?_
  refine lv_iload_n CX.1 CX.2.1 dL_law_805 rfl (lv_at hl 0 rfl) ?_
  refine lv_iconst (v := zI 4) CX.1 CX.2.1 dL_law_806 rfl ?_
  refine z_iadd (z := i + 4) CX dL_law_807 rfl ?_
  refine z_sld CX hW hX hbl hbA (by omega) (by omega) hL dL_law_808 ?_
  refine z_calli hW (va_runV (C := RX11) (As := [.int (zI (zx xs (i + 1).toNat)), .int (zI (zx xs (i + 2).toNat)), .int (zI (zx xs (i + 3).toNat)), .int (zI (zx xs (i + 4).toNat))]) (rest := []) CX.fix (zd_commonTerm l o M (zx xs (i + 1).toNat) (zx xs (i + 2).toNat) (zx xs (i + 3).toNat) (zx xs (i + 4).toNat) hP hC (zx_r xs _) (zx_r xs _) (zx_r xs _) (zx_r xs _) ) (cwV 4 CX.fix.2.2.2.2 gL_law_X11_commonTerm rfl rfl rfl (by decide +kernel) ⟨Nat.le_of_ble_eq_true rfl, Nat.le_of_ble_eq_true rfl⟩) (z_preV CX hW (r := (RX11, TX11, 13)) (show f o = _ from hP.c0) rfl) rfl rfl hl.1 rfl (lv_room (Nat.le_of_ble_eq_true rfl)) dL_law_809 ⟨Nat.le_of_ble_eq_true rfl, Nat.le_of_ble_eq_true rfl⟩) (fun z1 g1 H locs hok hW => ?_)
  obtain ⟨hz1, hP1, hC1, hF1, _, _⟩ := hok
  have hO1 : zMO cI cJ o2 S g1 = g1 := zMO_fix hO (fun q h1 h2 => hF1 q (by omega))
  have hW : zW D (zT cI cJ cZ cP cS cM) Lp A s (zMO cI cJ o2 S g1) s.heap H locs := by rw [hO1]; exact hW
  refine lv_aload_n CX.1 CX.2.1 dL_law_812 rfl (lv_at hl 1 rfl) ?_
  refine lv_aload_n CX.1 CX.2.1 dL_law_813 rfl (lv_at hl 3 rfl) ?_
  refine lv_iload_n CX.1 CX.2.1 dL_law_814 rfl (lv_at hl 0 rfl) ?_
  refine lv_iconst (v := zI 1) CX.1 CX.2.1 dL_law_815 rfl ?_
  refine z_iadd (z := i + 1) CX dL_law_816 rfl ?_
  refine z_sld CX hW hX hbl hbA (by omega) (by omega) hL dL_law_817 ?_
  refine lv_aload_n CX.1 CX.2.1 dL_law_818 rfl (lv_at hl 3 rfl) ?_
  refine lv_iload_n CX.1 CX.2.1 dL_law_819 rfl (lv_at hl 0 rfl) ?_
  refine lv_iconst (v := zI 2) CX.1 CX.2.1 dL_law_820 rfl ?_
  refine z_iadd (z := i + 2) CX dL_law_821 rfl ?_
  refine z_sld CX hW hX hbl hbA (by omega) (by omega) hL dL_law_822 ?_
  refine lv_aload_n CX.1 CX.2.1 dL_law_823 rfl (lv_at hl 3 rfl) ?_
  refine lv_iload_n CX.1 CX.2.1 dL_law_824 rfl (lv_at hl 0 rfl) ?_
  refine lv_iconst (v := zI 3) CX.1 CX.2.1 dL_law_825 rfl ?_
  refine z_iadd (z := i + 3) CX dL_law_826 rfl ?_
  refine z_sld CX hW hX hbl hbA (by omega) (by omega) hL dL_law_827 ?_
  refine lv_aload_n CX.1 CX.2.1 dL_law_828 rfl (lv_at hl 3 rfl) ?_
  refine lv_iload_n CX.1 CX.2.1 dL_law_829 rfl (lv_at hl 0 rfl) ?_
  refine lv_iconst (v := zI 4) CX.1 CX.2.1 dL_law_830 rfl ?_
  refine z_iadd (z := i + 4) CX dL_law_831 rfl ?_
  refine z_sld CX hW hX hbl hbA (by omega) (by omega) hL dL_law_832 ?_
  refine z_calli hW (va_runV (C := RX12) (As := [.int (zI (zx xs (i + 1).toNat)), .int (zI (zx xs (i + 2).toNat)), .int (zI (zx xs (i + 3).toNat)), .int (zI (zx xs (i + 4).toNat))]) (rest := [.int (zI z1)]) CX.fix (zk_commonTerm l (f := g1) o2 S (zx xs (i + 1).toNat) (zx xs (i + 2).toNat) (zx xs (i + 3).toNat) (zx xs (i + 4).toNat) hI (zx_r xs _) (zx_r xs _) (zx_r xs _) (zx_r xs _) hH) (cwV 4 CX.fix.2.2.2.2 gL_law_X12_commonTerm rfl rfl rfl (by decide +kernel) ⟨Nat.le_of_ble_eq_true rfl, Nat.le_of_ble_eq_true rfl⟩) (z_preV CX hW (r := (RX12, TX12, 37)) zMO_0 rfl) rfl rfl hl.1 rfl (lv_room (Nat.le_of_ble_eq_true rfl)) dL_law_833 ⟨Nat.le_of_ble_eq_true rfl, Nat.le_of_ble_eq_true rfl⟩) (fun z2 g2 H locs hok hW => ?_)
  obtain ⟨hz2, hg2, hI2, _, _⟩ := hok
  rw [hg2] at hW
  have hz : z1 = z2 := hz1.trans (hE.trans hz2.symm)
  rw [hz]
  refine lv_icmp_eq (tgt := 1522) CX.1 CX.2.1 dL_law_836 (by decide) (fun _ => ?_) (fun h => absurd rfl h)
  exact kk _ H locs hW (hP1.same (fun q h1 h2 => by first | exact zMO_out (by omega) | rfl)) hC1 zMO_id hI2
set_option maxRecDepth 100000 in
set_option maxHeartbeats 4000000 in
theorem zl_19 {p : Program} {l : Launch} {e : Env} {s : State} {m : MethodId} {below : List Frame} {meth : Method} {c : Code} {H : Heap} {locs : List Loc} {Q : State → Prop} {ls : Array Slot} {D : va_G} {cI cJ cZ cP cS cM : ClassId} {Lp : List Nat} {A : Nat → Prop} {f : Nat → va_E} {b L o o2 : Nat} {xs : Nat → Int32} {i : Int} {M : zCt} {S : zS2} (CX : zC p s m #[.ref b] meth c cL_law 4 ret RL wsL_law) (hX : va_X b L xs s s.heap) (hbl : b < s.heap.size) (hbA : ¬ A b) (hi : 0 ≤ i) (hi2 : i + 8 ≤ L) (hL : L ≤ 4096) (hW : zW D (zT cI cJ cZ cP cS cM) Lp A s f s.heap H locs) (hP : zCP cI cP cS cZ cM o M f) (hC : zCI M) (hO : zMO cI cJ o2 S f = f) (hI : mI S) (hd : o + 681 ≤ o2 ∨ o2 + 21 ≤ o) (hl : lv_has ls 4 [(3, .int (zI i)), (2, .ref o2), (1, .ref o), (0, .ref b)]) (hH : zqH S) (hE : (zc_times M (zx xs (i + 1).toNat) (zx xs (i + 2).toNat) (zx xs (i + 3).toNat)).1 = (zm_times S (zx xs (i + 1).toNat) (zx xs (i + 2).toNat) (zx xs (i + 3).toNat)).1)
    (kk : ∀ (g : Nat → va_E) (H : Heap) (locs : List Loc), zW D (zT cI cJ cZ cP cS cM) Lp A s g s.heap H locs → zCP cI cP cS cZ cM o (zc_times M (zx xs (i + 1).toNat) (zx xs (i + 2).toNat) (zx xs (i + 3).toNat)).2 g → zCI (zc_times M (zx xs (i + 1).toNat) (zx xs (i + 2).toNat) (zx xs (i + 3).toNat)).2 → zMO cI cJ o2 (zm_times S (zx xs (i + 1).toNat) (zx xs (i + 2).toNat) (zx xs (i + 3).toNat)).2 g = g → mI (zm_times S (zx xs (i + 1).toNat) (zx xs (i + 2).toNat) (zx xs (i + 3).toNat)).2 → W p l e room_1 s m #[.ref b] below meth c H locs 600000 7302250 Q (F0 m 1522 ls [])) : W p l e room_1 s m #[.ref b] below meth c H locs 600000 7302250 Q (F0 m 841 ls []) := by
  refine lv_aload_n CX.1 CX.2.1 dL_law_841 rfl (lv_at hl 2 rfl) ?_
  refine lv_aload_n CX.1 CX.2.1 dL_law_842 rfl (lv_at hl 3 rfl) ?_
  refine lv_iload_n CX.1 CX.2.1 dL_law_843 rfl (lv_at hl 0 rfl) ?_
  refine lv_iconst (v := zI 1) CX.1 CX.2.1 dL_law_844 rfl ?_
  refine z_iadd (z := i + 1) CX dL_law_845 rfl ?_
  refine z_sld CX hW hX hbl hbA (by omega) (by omega) hL dL_law_846 ?_
  refine lv_aload_n CX.1 CX.2.1 dL_law_847 rfl (lv_at hl 3 rfl) ?_
  refine lv_iload_n CX.1 CX.2.1 dL_law_848 rfl (lv_at hl 0 rfl) ?_
  refine lv_iconst (v := zI 2) CX.1 CX.2.1 dL_law_849 rfl ?_
  refine z_iadd (z := i + 2) CX dL_law_850 rfl ?_
  refine z_sld CX hW hX hbl hbA (by omega) (by omega) hL dL_law_851 ?_
  refine lv_aload_n CX.1 CX.2.1 dL_law_852 rfl (lv_at hl 3 rfl) ?_
  refine lv_iload_n CX.1 CX.2.1 dL_law_853 rfl (lv_at hl 0 rfl) ?_
  refine lv_iconst (v := zI 3) CX.1 CX.2.1 dL_law_854 rfl ?_
  refine z_iadd (z := i + 3) CX dL_law_855 rfl ?_
  refine z_sld CX hW hX hbl hbA (by omega) (by omega) hL dL_law_856 ?_
  refine z_calli hW (va_runV (C := RX11) (As := [.int (zI (zx xs (i + 1).toNat)), .int (zI (zx xs (i + 2).toNat)), .int (zI (zx xs (i + 3).toNat))]) (rest := []) CX.fix (zd_times l o M (zx xs (i + 1).toNat) (zx xs (i + 2).toNat) (zx xs (i + 3).toNat) hP hC (zx_r xs _) (zx_r xs _) (zx_r xs _) ) (cwV 3 CX.fix.2.2.2.2 gL_law_X11_times rfl rfl rfl (by decide +kernel) ⟨Nat.le_of_ble_eq_true rfl, Nat.le_of_ble_eq_true rfl⟩) (z_preV CX hW (r := (RX11, TX11, 13)) (show f o = _ from hP.c0) rfl) rfl rfl hl.1 rfl (lv_room (Nat.le_of_ble_eq_true rfl)) dL_law_857 ⟨Nat.le_of_ble_eq_true rfl, Nat.le_of_ble_eq_true rfl⟩) (fun z1 g1 H locs hok hW => ?_)
  obtain ⟨hz1, hP1, hC1, hF1, _, _⟩ := hok
  have hO1 : zMO cI cJ o2 S g1 = g1 := zMO_fix hO (fun q h1 h2 => hF1 q (by omega))
  have hW : zW D (zT cI cJ cZ cP cS cM) Lp A s (zMO cI cJ o2 S g1) s.heap H locs := by rw [hO1]; exact hW
  refine lv_aload_n CX.1 CX.2.1 dL_law_860 rfl (lv_at hl 1 rfl) ?_
  refine lv_aload_n CX.1 CX.2.1 dL_law_861 rfl (lv_at hl 3 rfl) ?_
  refine lv_iload_n CX.1 CX.2.1 dL_law_862 rfl (lv_at hl 0 rfl) ?_
  refine lv_iconst (v := zI 1) CX.1 CX.2.1 dL_law_863 rfl ?_
  refine z_iadd (z := i + 1) CX dL_law_864 rfl ?_
  refine z_sld CX hW hX hbl hbA (by omega) (by omega) hL dL_law_865 ?_
  refine lv_aload_n CX.1 CX.2.1 dL_law_866 rfl (lv_at hl 3 rfl) ?_
  refine lv_iload_n CX.1 CX.2.1 dL_law_867 rfl (lv_at hl 0 rfl) ?_
  refine lv_iconst (v := zI 2) CX.1 CX.2.1 dL_law_868 rfl ?_
  refine z_iadd (z := i + 2) CX dL_law_869 rfl ?_
  refine z_sld CX hW hX hbl hbA (by omega) (by omega) hL dL_law_870 ?_
  refine lv_aload_n CX.1 CX.2.1 dL_law_871 rfl (lv_at hl 3 rfl) ?_
  refine lv_iload_n CX.1 CX.2.1 dL_law_872 rfl (lv_at hl 0 rfl) ?_
  refine lv_iconst (v := zI 3) CX.1 CX.2.1 dL_law_873 rfl ?_
  refine z_iadd (z := i + 3) CX dL_law_874 rfl ?_
  refine z_sld CX hW hX hbl hbA (by omega) (by omega) hL dL_law_875 ?_
  refine z_calli hW (va_runV (C := RX12) (As := [.int (zI (zx xs (i + 1).toNat)), .int (zI (zx xs (i + 2).toNat)), .int (zI (zx xs (i + 3).toNat))]) (rest := [.int (zI z1)]) CX.fix (zk_times l (f := g1) o2 S (zx xs (i + 1).toNat) (zx xs (i + 2).toNat) (zx xs (i + 3).toNat) hI (zx_r xs _) (zx_r xs _) (zx_r xs _) hH) (cwV 3 CX.fix.2.2.2.2 gL_law_X12_times rfl rfl rfl (by decide +kernel) ⟨Nat.le_of_ble_eq_true rfl, Nat.le_of_ble_eq_true rfl⟩) (z_preV CX hW (r := (RX12, TX12, 37)) zMO_0 rfl) rfl rfl hl.1 rfl (lv_room (Nat.le_of_ble_eq_true rfl)) dL_law_876 ⟨Nat.le_of_ble_eq_true rfl, Nat.le_of_ble_eq_true rfl⟩) (fun z2 g2 H locs hok hW => ?_)
  obtain ⟨hz2, hg2, hI2, _, _⟩ := hok
  rw [hg2] at hW
  have hz : z1 = z2 := hz1.trans (hE.trans hz2.symm)
  rw [hz]
  refine lv_icmp_eq (tgt := 1522) CX.1 CX.2.1 dL_law_879 (by decide) (fun _ => ?_) (fun h => absurd rfl h)
  exact kk _ H locs hW (hP1.same (fun q h1 h2 => by first | exact zMO_out (by omega) | rfl)) hC1 zMO_id hI2
set_option maxRecDepth 100000 in
set_option maxHeartbeats 4000000 in
theorem zl_20 {p : Program} {l : Launch} {e : Env} {s : State} {m : MethodId} {below : List Frame} {meth : Method} {c : Code} {H : Heap} {locs : List Loc} {Q : State → Prop} {ls : Array Slot} {D : va_G} {cI cJ cZ cP cS cM : ClassId} {Lp : List Nat} {A : Nat → Prop} {f : Nat → va_E} {b L o o2 : Nat} {xs : Nat → Int32} {i : Int} {M : zCt} {S : zS2} (CX : zC p s m #[.ref b] meth c cL_law 4 ret RL wsL_law) (hX : va_X b L xs s s.heap) (hbl : b < s.heap.size) (hbA : ¬ A b) (hi : 0 ≤ i) (hi2 : i + 8 ≤ L) (hL : L ≤ 4096) (hW : zW D (zT cI cJ cZ cP cS cM) Lp A s f s.heap H locs) (hP : zCP cI cP cS cZ cM o M f) (hC : zCI M) (hO : zMO cI cJ o2 S f = f) (hI : mI S) (hd : o + 681 ≤ o2 ∨ o2 + 21 ≤ o) (hl : lv_has ls 4 [(3, .int (zI i)), (2, .ref o2), (1, .ref o), (0, .ref b)]) (hH : zqH S) (hE : (zc_rules M (zx xs (i + 1).toNat) (zx xs (i + 2).toNat) (zx xs (i + 3).toNat) (zx xs (i + 4).toNat)).1 = (zm_rules S (zx xs (i + 1).toNat) (zx xs (i + 2).toNat) (zx xs (i + 3).toNat) (zx xs (i + 4).toNat)).1)
    (kk : ∀ (g : Nat → va_E) (H : Heap) (locs : List Loc), zW D (zT cI cJ cZ cP cS cM) Lp A s g s.heap H locs → zCP cI cP cS cZ cM o (zc_rules M (zx xs (i + 1).toNat) (zx xs (i + 2).toNat) (zx xs (i + 3).toNat) (zx xs (i + 4).toNat)).2 g → zCI (zc_rules M (zx xs (i + 1).toNat) (zx xs (i + 2).toNat) (zx xs (i + 3).toNat) (zx xs (i + 4).toNat)).2 → zMO cI cJ o2 (zm_rules S (zx xs (i + 1).toNat) (zx xs (i + 2).toNat) (zx xs (i + 3).toNat) (zx xs (i + 4).toNat)).2 g = g → mI (zm_rules S (zx xs (i + 1).toNat) (zx xs (i + 2).toNat) (zx xs (i + 3).toNat) (zx xs (i + 4).toNat)).2 → W p l e room_1 s m #[.ref b] below meth c H locs 600000 7302250 Q (F0 m 1522 ls [])) : W p l e room_1 s m #[.ref b] below meth c H locs 600000 7302250 Q (F0 m 884 ls []) := by
  refine lv_aload_n CX.1 CX.2.1 dL_law_884 rfl (lv_at hl 2 rfl) ?_
  refine lv_aload_n CX.1 CX.2.1 dL_law_885 rfl (lv_at hl 3 rfl) ?_
  refine lv_iload_n CX.1 CX.2.1 dL_law_886 rfl (lv_at hl 0 rfl) ?_
  refine lv_iconst (v := zI 1) CX.1 CX.2.1 dL_law_887 rfl ?_
  refine z_iadd (z := i + 1) CX dL_law_888 rfl ?_
  refine z_sld CX hW hX hbl hbA (by omega) (by omega) hL dL_law_889 ?_
  refine lv_aload_n CX.1 CX.2.1 dL_law_890 rfl (lv_at hl 3 rfl) ?_
  refine lv_iload_n CX.1 CX.2.1 dL_law_891 rfl (lv_at hl 0 rfl) ?_
  refine lv_iconst (v := zI 2) CX.1 CX.2.1 dL_law_892 rfl ?_
  refine z_iadd (z := i + 2) CX dL_law_893 rfl ?_
  refine z_sld CX hW hX hbl hbA (by omega) (by omega) hL dL_law_894 ?_
  refine lv_aload_n CX.1 CX.2.1 dL_law_895 rfl (lv_at hl 3 rfl) ?_
  refine lv_iload_n CX.1 CX.2.1 dL_law_896 rfl (lv_at hl 0 rfl) ?_
  refine lv_iconst (v := zI 3) CX.1 CX.2.1 dL_law_897 rfl ?_
  refine z_iadd (z := i + 3) CX dL_law_898 rfl ?_
  refine z_sld CX hW hX hbl hbA (by omega) (by omega) hL dL_law_899 ?_
  refine lv_aload_n CX.1 CX.2.1 dL_law_900 rfl (lv_at hl 3 rfl) ?_
  refine lv_iload_n CX.1 CX.2.1 dL_law_901 rfl (lv_at hl 0 rfl) ?_
  refine lv_iconst (v := zI 4) CX.1 CX.2.1 dL_law_902 rfl ?_
  refine z_iadd (z := i + 4) CX dL_law_903 rfl ?_
  refine z_sld CX hW hX hbl hbA (by omega) (by omega) hL dL_law_904 ?_
  refine z_calli hW (va_runV (C := RX11) (As := [.int (zI (zx xs (i + 1).toNat)), .int (zI (zx xs (i + 2).toNat)), .int (zI (zx xs (i + 3).toNat)), .int (zI (zx xs (i + 4).toNat))]) (rest := []) CX.fix (zd_rules l o M (zx xs (i + 1).toNat) (zx xs (i + 2).toNat) (zx xs (i + 3).toNat) (zx xs (i + 4).toNat) hP hC (zx_r xs _) (zx_r xs _) (zx_r xs _) (zx_r xs _) ) (cwV 4 CX.fix.2.2.2.2 gL_law_X11_rules rfl rfl rfl (by decide +kernel) ⟨Nat.le_of_ble_eq_true rfl, Nat.le_of_ble_eq_true rfl⟩) (z_preV CX hW (r := (RX11, TX11, 13)) (show f o = _ from hP.c0) rfl) rfl rfl hl.1 rfl (lv_room (Nat.le_of_ble_eq_true rfl)) dL_law_905 ⟨Nat.le_of_ble_eq_true rfl, Nat.le_of_ble_eq_true rfl⟩) (fun z1 g1 H locs hok hW => ?_)
  obtain ⟨hz1, hP1, hC1, hF1, _, _⟩ := hok
  have hO1 : zMO cI cJ o2 S g1 = g1 := zMO_fix hO (fun q h1 h2 => hF1 q (by omega))
  have hW : zW D (zT cI cJ cZ cP cS cM) Lp A s (zMO cI cJ o2 S g1) s.heap H locs := by rw [hO1]; exact hW
  refine lv_aload_n CX.1 CX.2.1 dL_law_908 rfl (lv_at hl 1 rfl) ?_
  refine lv_aload_n CX.1 CX.2.1 dL_law_909 rfl (lv_at hl 3 rfl) ?_
  refine lv_iload_n CX.1 CX.2.1 dL_law_910 rfl (lv_at hl 0 rfl) ?_
  refine lv_iconst (v := zI 1) CX.1 CX.2.1 dL_law_911 rfl ?_
  refine z_iadd (z := i + 1) CX dL_law_912 rfl ?_
  refine z_sld CX hW hX hbl hbA (by omega) (by omega) hL dL_law_913 ?_
  refine lv_aload_n CX.1 CX.2.1 dL_law_914 rfl (lv_at hl 3 rfl) ?_
  refine lv_iload_n CX.1 CX.2.1 dL_law_915 rfl (lv_at hl 0 rfl) ?_
  refine lv_iconst (v := zI 2) CX.1 CX.2.1 dL_law_916 rfl ?_
  refine z_iadd (z := i + 2) CX dL_law_917 rfl ?_
  refine z_sld CX hW hX hbl hbA (by omega) (by omega) hL dL_law_918 ?_
  refine lv_aload_n CX.1 CX.2.1 dL_law_919 rfl (lv_at hl 3 rfl) ?_
  refine lv_iload_n CX.1 CX.2.1 dL_law_920 rfl (lv_at hl 0 rfl) ?_
  refine lv_iconst (v := zI 3) CX.1 CX.2.1 dL_law_921 rfl ?_
  refine z_iadd (z := i + 3) CX dL_law_922 rfl ?_
  refine z_sld CX hW hX hbl hbA (by omega) (by omega) hL dL_law_923 ?_
  refine lv_aload_n CX.1 CX.2.1 dL_law_924 rfl (lv_at hl 3 rfl) ?_
  refine lv_iload_n CX.1 CX.2.1 dL_law_925 rfl (lv_at hl 0 rfl) ?_
  refine lv_iconst (v := zI 4) CX.1 CX.2.1 dL_law_926 rfl ?_
  refine z_iadd (z := i + 4) CX dL_law_927 rfl ?_
  refine z_sld CX hW hX hbl hbA (by omega) (by omega) hL dL_law_928 ?_
  refine z_calli hW (va_runV (C := RX12) (As := [.int (zI (zx xs (i + 1).toNat)), .int (zI (zx xs (i + 2).toNat)), .int (zI (zx xs (i + 3).toNat)), .int (zI (zx xs (i + 4).toNat))]) (rest := [.int (zI z1)]) CX.fix (zk_rules l (f := g1) o2 S (zx xs (i + 1).toNat) (zx xs (i + 2).toNat) (zx xs (i + 3).toNat) (zx xs (i + 4).toNat) hI (zx_r xs _) (zx_r xs _) (zx_r xs _) (zx_r xs _) hH) (cwV 4 CX.fix.2.2.2.2 gL_law_X12_rules rfl rfl rfl (by decide +kernel) ⟨Nat.le_of_ble_eq_true rfl, Nat.le_of_ble_eq_true rfl⟩) (z_preV CX hW (r := (RX12, TX12, 37)) zMO_0 rfl) rfl rfl hl.1 rfl (lv_room (Nat.le_of_ble_eq_true rfl)) dL_law_929 ⟨Nat.le_of_ble_eq_true rfl, Nat.le_of_ble_eq_true rfl⟩) (fun z2 g2 H locs hok hW => ?_)
  obtain ⟨hz2, hg2, hI2, _, _⟩ := hok
  rw [hg2] at hW
  have hz : z1 = z2 := hz1.trans (hE.trans hz2.symm)
  rw [hz]
  refine lv_icmp_eq (tgt := 1522) CX.1 CX.2.1 dL_law_932 (by decide) (fun _ => ?_) (fun h => absurd rfl h)
  exact kk _ H locs hW (hP1.same (fun q h1 h2 => by first | exact zMO_out (by omega) | rfl)) hC1 zMO_id hI2
set_option maxRecDepth 100000 in
set_option maxHeartbeats 4000000 in
theorem zl_21 {p : Program} {l : Launch} {e : Env} {s : State} {m : MethodId} {below : List Frame} {meth : Method} {c : Code} {H : Heap} {locs : List Loc} {Q : State → Prop} {ls : Array Slot} {D : va_G} {cI cJ cZ cP cS cM : ClassId} {Lp : List Nat} {A : Nat → Prop} {f : Nat → va_E} {b L o o2 : Nat} {xs : Nat → Int32} {i : Int} {M : zCt} {S : zS2} (CX : zC p s m #[.ref b] meth c cL_law 4 ret RL wsL_law) (hX : va_X b L xs s s.heap) (hbl : b < s.heap.size) (hbA : ¬ A b) (hi : 0 ≤ i) (hi2 : i + 8 ≤ L) (hL : L ≤ 4096) (hW : zW D (zT cI cJ cZ cP cS cM) Lp A s f s.heap H locs) (hP : zCP cI cP cS cZ cM o M f) (hC : zCI M) (hO : zMO cI cJ o2 S f = f) (hI : mI S) (hd : o + 681 ≤ o2 ∨ o2 + 21 ≤ o) (hl : lv_has ls 4 [(3, .int (zI i)), (2, .ref o2), (1, .ref o), (0, .ref b)]) (hH : zqH S) (hE : (zc_rule M (zx xs (i + 1).toNat) (zx xs (i + 2).toNat) (zx xs (i + 3).toNat) (zx xs (i + 4).toNat)).1 = (zm_rule S (zx xs (i + 1).toNat) (zx xs (i + 2).toNat) (zx xs (i + 3).toNat) (zx xs (i + 4).toNat)).1)
    (kk : ∀ (g : Nat → va_E) (H : Heap) (locs : List Loc), zW D (zT cI cJ cZ cP cS cM) Lp A s g s.heap H locs → zCP cI cP cS cZ cM o (zc_rule M (zx xs (i + 1).toNat) (zx xs (i + 2).toNat) (zx xs (i + 3).toNat) (zx xs (i + 4).toNat)).2 g → zCI (zc_rule M (zx xs (i + 1).toNat) (zx xs (i + 2).toNat) (zx xs (i + 3).toNat) (zx xs (i + 4).toNat)).2 → zMO cI cJ o2 (zm_rule S (zx xs (i + 1).toNat) (zx xs (i + 2).toNat) (zx xs (i + 3).toNat) (zx xs (i + 4).toNat)).2 g = g → mI (zm_rule S (zx xs (i + 1).toNat) (zx xs (i + 2).toNat) (zx xs (i + 3).toNat) (zx xs (i + 4).toNat)).2 → W p l e room_1 s m #[.ref b] below meth c H locs 600000 7302250 Q (F0 m 1522 ls [])) : W p l e room_1 s m #[.ref b] below meth c H locs 600000 7302250 Q (F0 m 937 ls []) := by
  refine lv_aload_n CX.1 CX.2.1 dL_law_937 rfl (lv_at hl 2 rfl) ?_
  refine lv_aload_n CX.1 CX.2.1 dL_law_938 rfl (lv_at hl 3 rfl) ?_
  refine lv_iload_n CX.1 CX.2.1 dL_law_939 rfl (lv_at hl 0 rfl) ?_
  refine lv_iconst (v := zI 1) CX.1 CX.2.1 dL_law_940 rfl ?_
  refine z_iadd (z := i + 1) CX dL_law_941 rfl ?_
  refine z_sld CX hW hX hbl hbA (by omega) (by omega) hL dL_law_942 ?_
  refine lv_aload_n CX.1 CX.2.1 dL_law_943 rfl (lv_at hl 3 rfl) ?_
  refine lv_iload_n CX.1 CX.2.1 dL_law_944 rfl (lv_at hl 0 rfl) ?_
  refine lv_iconst (v := zI 2) CX.1 CX.2.1 dL_law_945 rfl ?_
  refine z_iadd (z := i + 2) CX dL_law_946 rfl ?_
  refine z_sld CX hW hX hbl hbA (by omega) (by omega) hL dL_law_947 ?_
  refine lv_aload_n CX.1 CX.2.1 dL_law_948 rfl (lv_at hl 3 rfl) ?_
  refine lv_iload_n CX.1 CX.2.1 dL_law_949 rfl (lv_at hl 0 rfl) ?_
  refine lv_iconst (v := zI 3) CX.1 CX.2.1 dL_law_950 rfl ?_
  refine z_iadd (z := i + 3) CX dL_law_951 rfl ?_
  refine z_sld CX hW hX hbl hbA (by omega) (by omega) hL dL_law_952 ?_
  refine lv_aload_n CX.1 CX.2.1 dL_law_953 rfl (lv_at hl 3 rfl) ?_
  refine lv_iload_n CX.1 CX.2.1 dL_law_954 rfl (lv_at hl 0 rfl) ?_
  refine lv_iconst (v := zI 4) CX.1 CX.2.1 dL_law_955 rfl ?_
  refine z_iadd (z := i + 4) CX dL_law_956 rfl ?_
  refine z_sld CX hW hX hbl hbA (by omega) (by omega) hL dL_law_957 ?_
  refine z_calli hW (va_runV (C := RX11) (As := [.int (zI (zx xs (i + 1).toNat)), .int (zI (zx xs (i + 2).toNat)), .int (zI (zx xs (i + 3).toNat)), .int (zI (zx xs (i + 4).toNat))]) (rest := []) CX.fix (zd_rule l o M (zx xs (i + 1).toNat) (zx xs (i + 2).toNat) (zx xs (i + 3).toNat) (zx xs (i + 4).toNat) hP hC (zx_r xs _) (zx_r xs _) (zx_r xs _) (zx_r xs _) ) (cwV 4 CX.fix.2.2.2.2 gL_law_X11_rule rfl rfl rfl (by decide +kernel) ⟨Nat.le_of_ble_eq_true rfl, Nat.le_of_ble_eq_true rfl⟩) (z_preV CX hW (r := (RX11, TX11, 13)) (show f o = _ from hP.c0) rfl) rfl rfl hl.1 rfl (lv_room (Nat.le_of_ble_eq_true rfl)) dL_law_958 ⟨Nat.le_of_ble_eq_true rfl, Nat.le_of_ble_eq_true rfl⟩) (fun z1 g1 H locs hok hW => ?_)
  obtain ⟨hz1, hP1, hC1, hF1, _, _⟩ := hok
  have hO1 : zMO cI cJ o2 S g1 = g1 := zMO_fix hO (fun q h1 h2 => hF1 q (by omega))
  have hW : zW D (zT cI cJ cZ cP cS cM) Lp A s (zMO cI cJ o2 S g1) s.heap H locs := by rw [hO1]; exact hW
  refine lv_aload_n CX.1 CX.2.1 dL_law_961 rfl (lv_at hl 1 rfl) ?_
  refine lv_aload_n CX.1 CX.2.1 dL_law_962 rfl (lv_at hl 3 rfl) ?_
  refine lv_iload_n CX.1 CX.2.1 dL_law_963 rfl (lv_at hl 0 rfl) ?_
  refine lv_iconst (v := zI 1) CX.1 CX.2.1 dL_law_964 rfl ?_
  refine z_iadd (z := i + 1) CX dL_law_965 rfl ?_
  refine z_sld CX hW hX hbl hbA (by omega) (by omega) hL dL_law_966 ?_
  refine lv_aload_n CX.1 CX.2.1 dL_law_967 rfl (lv_at hl 3 rfl) ?_
  refine lv_iload_n CX.1 CX.2.1 dL_law_968 rfl (lv_at hl 0 rfl) ?_
  refine lv_iconst (v := zI 2) CX.1 CX.2.1 dL_law_969 rfl ?_
  refine z_iadd (z := i + 2) CX dL_law_970 rfl ?_
  refine z_sld CX hW hX hbl hbA (by omega) (by omega) hL dL_law_971 ?_
  refine lv_aload_n CX.1 CX.2.1 dL_law_972 rfl (lv_at hl 3 rfl) ?_
  refine lv_iload_n CX.1 CX.2.1 dL_law_973 rfl (lv_at hl 0 rfl) ?_
  refine lv_iconst (v := zI 3) CX.1 CX.2.1 dL_law_974 rfl ?_
  refine z_iadd (z := i + 3) CX dL_law_975 rfl ?_
  refine z_sld CX hW hX hbl hbA (by omega) (by omega) hL dL_law_976 ?_
  refine lv_aload_n CX.1 CX.2.1 dL_law_977 rfl (lv_at hl 3 rfl) ?_
  refine lv_iload_n CX.1 CX.2.1 dL_law_978 rfl (lv_at hl 0 rfl) ?_
  refine lv_iconst (v := zI 4) CX.1 CX.2.1 dL_law_979 rfl ?_
  refine z_iadd (z := i + 4) CX dL_law_980 rfl ?_
  refine z_sld CX hW hX hbl hbA (by omega) (by omega) hL dL_law_981 ?_
  refine z_calli hW (va_runV (C := RX12) (As := [.int (zI (zx xs (i + 1).toNat)), .int (zI (zx xs (i + 2).toNat)), .int (zI (zx xs (i + 3).toNat)), .int (zI (zx xs (i + 4).toNat))]) (rest := [.int (zI z1)]) CX.fix (zk_rule l (f := g1) o2 S (zx xs (i + 1).toNat) (zx xs (i + 2).toNat) (zx xs (i + 3).toNat) (zx xs (i + 4).toNat) hI (zx_r xs _) (zx_r xs _) (zx_r xs _) (zx_r xs _) hH) (cwV 4 CX.fix.2.2.2.2 gL_law_X12_rule rfl rfl rfl (by decide +kernel) ⟨Nat.le_of_ble_eq_true rfl, Nat.le_of_ble_eq_true rfl⟩) (z_preV CX hW (r := (RX12, TX12, 37)) zMO_0 rfl) rfl rfl hl.1 rfl (lv_room (Nat.le_of_ble_eq_true rfl)) dL_law_982 ⟨Nat.le_of_ble_eq_true rfl, Nat.le_of_ble_eq_true rfl⟩) (fun z2 g2 H locs hok hW => ?_)
  obtain ⟨hz2, hg2, hI2, _, _⟩ := hok
  rw [hg2] at hW
  have hz : z1 = z2 := hz1.trans (hE.trans hz2.symm)
  rw [hz]
  refine lv_icmp_eq (tgt := 1522) CX.1 CX.2.1 dL_law_985 (by decide) (fun _ => ?_) (fun h => absurd rfl h)
  exact kk _ H locs hW (hP1.same (fun q h1 h2 => by first | exact zMO_out (by omega) | rfl)) hC1 zMO_id hI2
set_option maxRecDepth 100000 in
set_option maxHeartbeats 4000000 in
theorem zl_22 {p : Program} {l : Launch} {e : Env} {s : State} {m : MethodId} {below : List Frame} {meth : Method} {c : Code} {H : Heap} {locs : List Loc} {Q : State → Prop} {ls : Array Slot} {D : va_G} {cI cJ cZ cP cS cM : ClassId} {Lp : List Nat} {A : Nat → Prop} {f : Nat → va_E} {b L o o2 : Nat} {xs : Nat → Int32} {i : Int} {M : zCt} {S : zS2} (CX : zC p s m #[.ref b] meth c cL_law 4 ret RL wsL_law) (hX : va_X b L xs s s.heap) (hbl : b < s.heap.size) (hbA : ¬ A b) (hi : 0 ≤ i) (hi2 : i + 8 ≤ L) (hL : L ≤ 4096) (hW : zW D (zT cI cJ cZ cP cS cM) Lp A s f s.heap H locs) (hP : zCP cI cP cS cZ cM o M f) (hC : zCI M) (hO : zMO cI cJ o2 S f = f) (hI : mI S) (hd : o + 681 ≤ o2 ∨ o2 + 21 ≤ o) (hl : lv_has ls 4 [(3, .int (zI i)), (2, .ref o2), (1, .ref o), (0, .ref b)]) (hE : (zc_size M (zx xs (i + 1).toNat) (zx xs (i + 2).toNat) (zx xs (i + 3).toNat)).1 = (zm_size S (zx xs (i + 1).toNat) (zx xs (i + 2).toNat) (zx xs (i + 3).toNat)).1)
    (kk : ∀ (g : Nat → va_E) (H : Heap) (locs : List Loc), zW D (zT cI cJ cZ cP cS cM) Lp A s g s.heap H locs → zCP cI cP cS cZ cM o (zc_size M (zx xs (i + 1).toNat) (zx xs (i + 2).toNat) (zx xs (i + 3).toNat)).2 g → zCI (zc_size M (zx xs (i + 1).toNat) (zx xs (i + 2).toNat) (zx xs (i + 3).toNat)).2 → zMO cI cJ o2 (zm_size S (zx xs (i + 1).toNat) (zx xs (i + 2).toNat) (zx xs (i + 3).toNat)).2 g = g → mI (zm_size S (zx xs (i + 1).toNat) (zx xs (i + 2).toNat) (zx xs (i + 3).toNat)).2 → W p l e room_1 s m #[.ref b] below meth c H locs 600000 7302250 Q (F0 m 1522 ls [])) : W p l e room_1 s m #[.ref b] below meth c H locs 600000 7302250 Q (F0 m 990 ls []) := by
  refine lv_aload_n CX.1 CX.2.1 dL_law_990 rfl (lv_at hl 2 rfl) ?_
  refine lv_aload_n CX.1 CX.2.1 dL_law_991 rfl (lv_at hl 3 rfl) ?_
  refine lv_iload_n CX.1 CX.2.1 dL_law_992 rfl (lv_at hl 0 rfl) ?_
  refine lv_iconst (v := zI 1) CX.1 CX.2.1 dL_law_993 rfl ?_
  refine z_iadd (z := i + 1) CX dL_law_994 rfl ?_
  refine z_sld CX hW hX hbl hbA (by omega) (by omega) hL dL_law_995 ?_
  refine lv_aload_n CX.1 CX.2.1 dL_law_996 rfl (lv_at hl 3 rfl) ?_
  refine lv_iload_n CX.1 CX.2.1 dL_law_997 rfl (lv_at hl 0 rfl) ?_
  refine lv_iconst (v := zI 2) CX.1 CX.2.1 dL_law_998 rfl ?_
  refine z_iadd (z := i + 2) CX dL_law_999 rfl ?_
  refine z_sld CX hW hX hbl hbA (by omega) (by omega) hL dL_law_1000 ?_
  refine lv_aload_n CX.1 CX.2.1 dL_law_1001 rfl (lv_at hl 3 rfl) ?_
  refine lv_iload_n CX.1 CX.2.1 dL_law_1002 rfl (lv_at hl 0 rfl) ?_
  refine lv_iconst (v := zI 3) CX.1 CX.2.1 dL_law_1003 rfl ?_
  refine z_iadd (z := i + 3) CX dL_law_1004 rfl ?_
  refine z_sld CX hW hX hbl hbA (by omega) (by omega) hL dL_law_1005 ?_
  refine z_calli hW (va_runV (C := RX11) (As := [.int (zI (zx xs (i + 1).toNat)), .int (zI (zx xs (i + 2).toNat)), .int (zI (zx xs (i + 3).toNat))]) (rest := []) CX.fix (zd_size l o M (zx xs (i + 1).toNat) (zx xs (i + 2).toNat) (zx xs (i + 3).toNat) hP hC (zx_r xs _) (zx_r xs _) (zx_r xs _) ) (cwV 3 CX.fix.2.2.2.2 gL_law_X11_size rfl rfl rfl (by decide +kernel) ⟨Nat.le_of_ble_eq_true rfl, Nat.le_of_ble_eq_true rfl⟩) (z_preV CX hW (r := (RX11, TX11, 13)) (show f o = _ from hP.c0) rfl) rfl rfl hl.1 rfl (lv_room (Nat.le_of_ble_eq_true rfl)) dL_law_1006 ⟨Nat.le_of_ble_eq_true rfl, Nat.le_of_ble_eq_true rfl⟩) (fun z1 g1 H locs hok hW => ?_)
  obtain ⟨hz1, hP1, hC1, hF1, _, _⟩ := hok
  have hO1 : zMO cI cJ o2 S g1 = g1 := zMO_fix hO (fun q h1 h2 => hF1 q (by omega))
  have hW : zW D (zT cI cJ cZ cP cS cM) Lp A s (zMO cI cJ o2 S g1) s.heap H locs := by rw [hO1]; exact hW
  refine lv_aload_n CX.1 CX.2.1 dL_law_1009 rfl (lv_at hl 1 rfl) ?_
  refine lv_aload_n CX.1 CX.2.1 dL_law_1010 rfl (lv_at hl 3 rfl) ?_
  refine lv_iload_n CX.1 CX.2.1 dL_law_1011 rfl (lv_at hl 0 rfl) ?_
  refine lv_iconst (v := zI 1) CX.1 CX.2.1 dL_law_1012 rfl ?_
  refine z_iadd (z := i + 1) CX dL_law_1013 rfl ?_
  refine z_sld CX hW hX hbl hbA (by omega) (by omega) hL dL_law_1014 ?_
  refine lv_aload_n CX.1 CX.2.1 dL_law_1015 rfl (lv_at hl 3 rfl) ?_
  refine lv_iload_n CX.1 CX.2.1 dL_law_1016 rfl (lv_at hl 0 rfl) ?_
  refine lv_iconst (v := zI 2) CX.1 CX.2.1 dL_law_1017 rfl ?_
  refine z_iadd (z := i + 2) CX dL_law_1018 rfl ?_
  refine z_sld CX hW hX hbl hbA (by omega) (by omega) hL dL_law_1019 ?_
  refine lv_aload_n CX.1 CX.2.1 dL_law_1020 rfl (lv_at hl 3 rfl) ?_
  refine lv_iload_n CX.1 CX.2.1 dL_law_1021 rfl (lv_at hl 0 rfl) ?_
  refine lv_iconst (v := zI 3) CX.1 CX.2.1 dL_law_1022 rfl ?_
  refine z_iadd (z := i + 3) CX dL_law_1023 rfl ?_
  refine z_sld CX hW hX hbl hbA (by omega) (by omega) hL dL_law_1024 ?_
  refine z_calli hW (va_runV (C := RX12) (As := [.int (zI (zx xs (i + 1).toNat)), .int (zI (zx xs (i + 2).toNat)), .int (zI (zx xs (i + 3).toNat))]) (rest := [.int (zI z1)]) CX.fix (zk_size l (f := g1) o2 S (zx xs (i + 1).toNat) (zx xs (i + 2).toNat) (zx xs (i + 3).toNat) hI (zx_r xs _) (zx_r xs _) (zx_r xs _) ) (cwV 3 CX.fix.2.2.2.2 gL_law_X12_size rfl rfl rfl (by decide +kernel) ⟨Nat.le_of_ble_eq_true rfl, Nat.le_of_ble_eq_true rfl⟩) (z_preV CX hW (r := (RX12, TX12, 37)) zMO_0 rfl) rfl rfl hl.1 rfl (lv_room (Nat.le_of_ble_eq_true rfl)) dL_law_1025 ⟨Nat.le_of_ble_eq_true rfl, Nat.le_of_ble_eq_true rfl⟩) (fun z2 g2 H locs hok hW => ?_)
  obtain ⟨hz2, hg2, hI2, _, _⟩ := hok
  rw [hg2] at hW
  have hz : z1 = z2 := hz1.trans (hE.trans hz2.symm)
  rw [hz]
  refine lv_icmp_eq (tgt := 1522) CX.1 CX.2.1 dL_law_1028 (by decide) (fun _ => ?_) (fun h => absurd rfl h)
  exact kk _ H locs hW (hP1.same (fun q h1 h2 => by first | exact zMO_out (by omega) | rfl)) hC1 zMO_id hI2
set_option maxRecDepth 100000 in
set_option maxHeartbeats 4000000 in
theorem zl_23 {p : Program} {l : Launch} {e : Env} {s : State} {m : MethodId} {below : List Frame} {meth : Method} {c : Code} {H : Heap} {locs : List Loc} {Q : State → Prop} {ls : Array Slot} {D : va_G} {cI cJ cZ cP cS cM : ClassId} {Lp : List Nat} {A : Nat → Prop} {f : Nat → va_E} {b L o o2 : Nat} {xs : Nat → Int32} {i : Int} {M : zCt} {S : zS2} (CX : zC p s m #[.ref b] meth c cL_law 4 ret RL wsL_law) (hX : va_X b L xs s s.heap) (hbl : b < s.heap.size) (hbA : ¬ A b) (hi : 0 ≤ i) (hi2 : i + 8 ≤ L) (hL : L ≤ 4096) (hW : zW D (zT cI cJ cZ cP cS cM) Lp A s f s.heap H locs) (hP : zCP cI cP cS cZ cM o M f) (hC : zCI M) (hO : zMO cI cJ o2 S f = f) (hI : mI S) (hd : o + 681 ≤ o2 ∨ o2 + 21 ≤ o) (hl : lv_has ls 4 [(3, .int (zI i)), (2, .ref o2), (1, .ref o), (0, .ref b)]) (hH : zqH S) (hE : (zc_meet M (zx xs (i + 1).toNat) (zx xs (i + 2).toNat) (zx xs (i + 3).toNat) (zx xs (i + 4).toNat)).1 = (zm_meet S (zx xs (i + 1).toNat) (zx xs (i + 2).toNat) (zx xs (i + 3).toNat) (zx xs (i + 4).toNat)).1)
    (kk : ∀ (g : Nat → va_E) (H : Heap) (locs : List Loc), zW D (zT cI cJ cZ cP cS cM) Lp A s g s.heap H locs → zCP cI cP cS cZ cM o (zc_meet M (zx xs (i + 1).toNat) (zx xs (i + 2).toNat) (zx xs (i + 3).toNat) (zx xs (i + 4).toNat)).2 g → zCI (zc_meet M (zx xs (i + 1).toNat) (zx xs (i + 2).toNat) (zx xs (i + 3).toNat) (zx xs (i + 4).toNat)).2 → zMO cI cJ o2 (zm_meet S (zx xs (i + 1).toNat) (zx xs (i + 2).toNat) (zx xs (i + 3).toNat) (zx xs (i + 4).toNat)).2 g = g → mI (zm_meet S (zx xs (i + 1).toNat) (zx xs (i + 2).toNat) (zx xs (i + 3).toNat) (zx xs (i + 4).toNat)).2 → W p l e room_1 s m #[.ref b] below meth c H locs 600000 7302250 Q (F0 m 1522 ls [])) : W p l e room_1 s m #[.ref b] below meth c H locs 600000 7302250 Q (F0 m 1033 ls []) := by
  refine lv_aload_n CX.1 CX.2.1 dL_law_1033 rfl (lv_at hl 2 rfl) ?_
  refine lv_aload_n CX.1 CX.2.1 dL_law_1034 rfl (lv_at hl 3 rfl) ?_
  refine lv_iload_n CX.1 CX.2.1 dL_law_1035 rfl (lv_at hl 0 rfl) ?_
  refine lv_iconst (v := zI 1) CX.1 CX.2.1 dL_law_1036 rfl ?_
  refine z_iadd (z := i + 1) CX dL_law_1037 rfl ?_
  refine z_sld CX hW hX hbl hbA (by omega) (by omega) hL dL_law_1038 ?_
  refine lv_aload_n CX.1 CX.2.1 dL_law_1039 rfl (lv_at hl 3 rfl) ?_
  refine lv_iload_n CX.1 CX.2.1 dL_law_1040 rfl (lv_at hl 0 rfl) ?_
  refine lv_iconst (v := zI 2) CX.1 CX.2.1 dL_law_1041 rfl ?_
  refine z_iadd (z := i + 2) CX dL_law_1042 rfl ?_
  refine z_sld CX hW hX hbl hbA (by omega) (by omega) hL dL_law_1043 ?_
  refine lv_aload_n CX.1 CX.2.1 dL_law_1044 rfl (lv_at hl 3 rfl) ?_
  refine lv_iload_n CX.1 CX.2.1 dL_law_1045 rfl (lv_at hl 0 rfl) ?_
  refine lv_iconst (v := zI 3) CX.1 CX.2.1 dL_law_1046 rfl ?_
  refine z_iadd (z := i + 3) CX dL_law_1047 rfl ?_
  refine z_sld CX hW hX hbl hbA (by omega) (by omega) hL dL_law_1048 ?_
  refine lv_aload_n CX.1 CX.2.1 dL_law_1049 rfl (lv_at hl 3 rfl) ?_
  refine lv_iload_n CX.1 CX.2.1 dL_law_1050 rfl (lv_at hl 0 rfl) ?_
  refine lv_iconst (v := zI 4) CX.1 CX.2.1 dL_law_1051 rfl ?_
  refine z_iadd (z := i + 4) CX dL_law_1052 rfl ?_
  refine z_sld CX hW hX hbl hbA (by omega) (by omega) hL dL_law_1053 ?_
  refine z_calli hW (va_runV (C := RX11) (As := [.int (zI (zx xs (i + 1).toNat)), .int (zI (zx xs (i + 2).toNat)), .int (zI (zx xs (i + 3).toNat)), .int (zI (zx xs (i + 4).toNat))]) (rest := []) CX.fix (zd_meet l o M (zx xs (i + 1).toNat) (zx xs (i + 2).toNat) (zx xs (i + 3).toNat) (zx xs (i + 4).toNat) hP hC (zx_r xs _) (zx_r xs _) (zx_r xs _) (zx_r xs _) ) (cwV 4 CX.fix.2.2.2.2 gL_law_X11_meet rfl rfl rfl (by decide +kernel) ⟨Nat.le_of_ble_eq_true rfl, Nat.le_of_ble_eq_true rfl⟩) (z_preV CX hW (r := (RX11, TX11, 13)) (show f o = _ from hP.c0) rfl) rfl rfl hl.1 rfl (lv_room (Nat.le_of_ble_eq_true rfl)) dL_law_1054 ⟨Nat.le_of_ble_eq_true rfl, Nat.le_of_ble_eq_true rfl⟩) (fun z1 g1 H locs hok hW => ?_)
  obtain ⟨hz1, hP1, hC1, hF1, _, _⟩ := hok
  have hO1 : zMO cI cJ o2 S g1 = g1 := zMO_fix hO (fun q h1 h2 => hF1 q (by omega))
  have hW : zW D (zT cI cJ cZ cP cS cM) Lp A s (zMO cI cJ o2 S g1) s.heap H locs := by rw [hO1]; exact hW
  refine lv_aload_n CX.1 CX.2.1 dL_law_1057 rfl (lv_at hl 1 rfl) ?_
  refine lv_aload_n CX.1 CX.2.1 dL_law_1058 rfl (lv_at hl 3 rfl) ?_
  refine lv_iload_n CX.1 CX.2.1 dL_law_1059 rfl (lv_at hl 0 rfl) ?_
  refine lv_iconst (v := zI 1) CX.1 CX.2.1 dL_law_1060 rfl ?_
  refine z_iadd (z := i + 1) CX dL_law_1061 rfl ?_
  refine z_sld CX hW hX hbl hbA (by omega) (by omega) hL dL_law_1062 ?_
  refine lv_aload_n CX.1 CX.2.1 dL_law_1063 rfl (lv_at hl 3 rfl) ?_
  refine lv_iload_n CX.1 CX.2.1 dL_law_1064 rfl (lv_at hl 0 rfl) ?_
  refine lv_iconst (v := zI 2) CX.1 CX.2.1 dL_law_1065 rfl ?_
  refine z_iadd (z := i + 2) CX dL_law_1066 rfl ?_
  refine z_sld CX hW hX hbl hbA (by omega) (by omega) hL dL_law_1067 ?_
  refine lv_aload_n CX.1 CX.2.1 dL_law_1068 rfl (lv_at hl 3 rfl) ?_
  refine lv_iload_n CX.1 CX.2.1 dL_law_1069 rfl (lv_at hl 0 rfl) ?_
  refine lv_iconst (v := zI 3) CX.1 CX.2.1 dL_law_1070 rfl ?_
  refine z_iadd (z := i + 3) CX dL_law_1071 rfl ?_
  refine z_sld CX hW hX hbl hbA (by omega) (by omega) hL dL_law_1072 ?_
  refine lv_aload_n CX.1 CX.2.1 dL_law_1073 rfl (lv_at hl 3 rfl) ?_
  refine lv_iload_n CX.1 CX.2.1 dL_law_1074 rfl (lv_at hl 0 rfl) ?_
  refine lv_iconst (v := zI 4) CX.1 CX.2.1 dL_law_1075 rfl ?_
  refine z_iadd (z := i + 4) CX dL_law_1076 rfl ?_
  refine z_sld CX hW hX hbl hbA (by omega) (by omega) hL dL_law_1077 ?_
  refine z_calli hW (va_runV (C := RX12) (As := [.int (zI (zx xs (i + 1).toNat)), .int (zI (zx xs (i + 2).toNat)), .int (zI (zx xs (i + 3).toNat)), .int (zI (zx xs (i + 4).toNat))]) (rest := [.int (zI z1)]) CX.fix (zk_meet l (f := g1) o2 S (zx xs (i + 1).toNat) (zx xs (i + 2).toNat) (zx xs (i + 3).toNat) (zx xs (i + 4).toNat) hI (zx_r xs _) (zx_r xs _) (zx_r xs _) (zx_r xs _) hH) (cwV 4 CX.fix.2.2.2.2 gL_law_X12_meet rfl rfl rfl (by decide +kernel) ⟨Nat.le_of_ble_eq_true rfl, Nat.le_of_ble_eq_true rfl⟩) (z_preV CX hW (r := (RX12, TX12, 37)) zMO_0 rfl) rfl rfl hl.1 rfl (lv_room (Nat.le_of_ble_eq_true rfl)) dL_law_1078 ⟨Nat.le_of_ble_eq_true rfl, Nat.le_of_ble_eq_true rfl⟩) (fun z2 g2 H locs hok hW => ?_)
  obtain ⟨hz2, hg2, hI2, _, _⟩ := hok
  rw [hg2] at hW
  have hz : z1 = z2 := hz1.trans (hE.trans hz2.symm)
  rw [hz]
  refine lv_icmp_eq (tgt := 1522) CX.1 CX.2.1 dL_law_1081 (by decide) (fun _ => ?_) (fun h => absurd rfl h)
  exact kk _ H locs hW (hP1.same (fun q h1 h2 => by first | exact zMO_out (by omega) | rfl)) hC1 zMO_id hI2
set_option maxRecDepth 100000 in
set_option maxHeartbeats 4000000 in
theorem zl_24 {p : Program} {l : Launch} {e : Env} {s : State} {m : MethodId} {below : List Frame} {meth : Method} {c : Code} {H : Heap} {locs : List Loc} {Q : State → Prop} {ls : Array Slot} {D : va_G} {cI cJ cZ cP cS cM : ClassId} {Lp : List Nat} {A : Nat → Prop} {f : Nat → va_E} {b L o o2 : Nat} {xs : Nat → Int32} {i : Int} {M : zCt} {S : zS2} (CX : zC p s m #[.ref b] meth c cL_law 4 ret RL wsL_law) (hX : va_X b L xs s s.heap) (hbl : b < s.heap.size) (hbA : ¬ A b) (hi : 0 ≤ i) (hi2 : i + 8 ≤ L) (hL : L ≤ 4096) (hW : zW D (zT cI cJ cZ cP cS cM) Lp A s f s.heap H locs) (hP : zCP cI cP cS cZ cM o M f) (hC : zCI M) (hO : zMO cI cJ o2 S f = f) (hI : mI S) (hd : o + 681 ≤ o2 ∨ o2 + 21 ≤ o) (hl : lv_has ls 4 [(3, .int (zI i)), (2, .ref o2), (1, .ref o), (0, .ref b)]) (hE : (zc_parts M (zx xs (i + 1).toNat) (zx xs (i + 2).toNat) (zx xs (i + 3).toNat)).1 = (zm_parts S (zx xs (i + 1).toNat) (zx xs (i + 2).toNat) (zx xs (i + 3).toNat)).1)
    (kk : ∀ (g : Nat → va_E) (H : Heap) (locs : List Loc), zW D (zT cI cJ cZ cP cS cM) Lp A s g s.heap H locs → zCP cI cP cS cZ cM o (zc_parts M (zx xs (i + 1).toNat) (zx xs (i + 2).toNat) (zx xs (i + 3).toNat)).2 g → zCI (zc_parts M (zx xs (i + 1).toNat) (zx xs (i + 2).toNat) (zx xs (i + 3).toNat)).2 → zMO cI cJ o2 (zm_parts S (zx xs (i + 1).toNat) (zx xs (i + 2).toNat) (zx xs (i + 3).toNat)).2 g = g → mI (zm_parts S (zx xs (i + 1).toNat) (zx xs (i + 2).toNat) (zx xs (i + 3).toNat)).2 → W p l e room_1 s m #[.ref b] below meth c H locs 600000 7302250 Q (F0 m 1522 ls [])) : W p l e room_1 s m #[.ref b] below meth c H locs 600000 7302250 Q (F0 m 1086 ls []) := by
  refine lv_aload_n CX.1 CX.2.1 dL_law_1086 rfl (lv_at hl 2 rfl) ?_
  refine lv_aload_n CX.1 CX.2.1 dL_law_1087 rfl (lv_at hl 3 rfl) ?_
  refine lv_iload_n CX.1 CX.2.1 dL_law_1088 rfl (lv_at hl 0 rfl) ?_
  refine lv_iconst (v := zI 1) CX.1 CX.2.1 dL_law_1089 rfl ?_
  refine z_iadd (z := i + 1) CX dL_law_1090 rfl ?_
  refine z_sld CX hW hX hbl hbA (by omega) (by omega) hL dL_law_1091 ?_
  refine lv_aload_n CX.1 CX.2.1 dL_law_1092 rfl (lv_at hl 3 rfl) ?_
  refine lv_iload_n CX.1 CX.2.1 dL_law_1093 rfl (lv_at hl 0 rfl) ?_
  refine lv_iconst (v := zI 2) CX.1 CX.2.1 dL_law_1094 rfl ?_
  refine z_iadd (z := i + 2) CX dL_law_1095 rfl ?_
  refine z_sld CX hW hX hbl hbA (by omega) (by omega) hL dL_law_1096 ?_
  refine lv_aload_n CX.1 CX.2.1 dL_law_1097 rfl (lv_at hl 3 rfl) ?_
  refine lv_iload_n CX.1 CX.2.1 dL_law_1098 rfl (lv_at hl 0 rfl) ?_
  refine lv_iconst (v := zI 3) CX.1 CX.2.1 dL_law_1099 rfl ?_
  refine z_iadd (z := i + 3) CX dL_law_1100 rfl ?_
  refine z_sld CX hW hX hbl hbA (by omega) (by omega) hL dL_law_1101 ?_
  refine z_calli hW (va_runV (C := RX11) (As := [.int (zI (zx xs (i + 1).toNat)), .int (zI (zx xs (i + 2).toNat)), .int (zI (zx xs (i + 3).toNat))]) (rest := []) CX.fix (zd_parts l o M (zx xs (i + 1).toNat) (zx xs (i + 2).toNat) (zx xs (i + 3).toNat) hP hC (zx_r xs _) (zx_r xs _) (zx_r xs _) ) (cwV 3 CX.fix.2.2.2.2 gL_law_X11_parts rfl rfl rfl (by decide +kernel) ⟨Nat.le_of_ble_eq_true rfl, Nat.le_of_ble_eq_true rfl⟩) (z_preV CX hW (r := (RX11, TX11, 13)) (show f o = _ from hP.c0) rfl) rfl rfl hl.1 rfl (lv_room (Nat.le_of_ble_eq_true rfl)) dL_law_1102 ⟨Nat.le_of_ble_eq_true rfl, Nat.le_of_ble_eq_true rfl⟩) (fun z1 g1 H locs hok hW => ?_)
  obtain ⟨hz1, hP1, hC1, hF1, _, _⟩ := hok
  have hO1 : zMO cI cJ o2 S g1 = g1 := zMO_fix hO (fun q h1 h2 => hF1 q (by omega))
  have hW : zW D (zT cI cJ cZ cP cS cM) Lp A s (zMO cI cJ o2 S g1) s.heap H locs := by rw [hO1]; exact hW
  refine lv_aload_n CX.1 CX.2.1 dL_law_1105 rfl (lv_at hl 1 rfl) ?_
  refine lv_aload_n CX.1 CX.2.1 dL_law_1106 rfl (lv_at hl 3 rfl) ?_
  refine lv_iload_n CX.1 CX.2.1 dL_law_1107 rfl (lv_at hl 0 rfl) ?_
  refine lv_iconst (v := zI 1) CX.1 CX.2.1 dL_law_1108 rfl ?_
  refine z_iadd (z := i + 1) CX dL_law_1109 rfl ?_
  refine z_sld CX hW hX hbl hbA (by omega) (by omega) hL dL_law_1110 ?_
  refine lv_aload_n CX.1 CX.2.1 dL_law_1111 rfl (lv_at hl 3 rfl) ?_
  refine lv_iload_n CX.1 CX.2.1 dL_law_1112 rfl (lv_at hl 0 rfl) ?_
  refine lv_iconst (v := zI 2) CX.1 CX.2.1 dL_law_1113 rfl ?_
  refine z_iadd (z := i + 2) CX dL_law_1114 rfl ?_
  refine z_sld CX hW hX hbl hbA (by omega) (by omega) hL dL_law_1115 ?_
  refine lv_aload_n CX.1 CX.2.1 dL_law_1116 rfl (lv_at hl 3 rfl) ?_
  refine lv_iload_n CX.1 CX.2.1 dL_law_1117 rfl (lv_at hl 0 rfl) ?_
  refine lv_iconst (v := zI 3) CX.1 CX.2.1 dL_law_1118 rfl ?_
  refine z_iadd (z := i + 3) CX dL_law_1119 rfl ?_
  refine z_sld CX hW hX hbl hbA (by omega) (by omega) hL dL_law_1120 ?_
  refine z_calli hW (va_runV (C := RX12) (As := [.int (zI (zx xs (i + 1).toNat)), .int (zI (zx xs (i + 2).toNat)), .int (zI (zx xs (i + 3).toNat))]) (rest := [.int (zI z1)]) CX.fix (zk_parts l (f := g1) o2 S (zx xs (i + 1).toNat) (zx xs (i + 2).toNat) (zx xs (i + 3).toNat) hI (zx_r xs _) (zx_r xs _) (zx_r xs _) ) (cwV 3 CX.fix.2.2.2.2 gL_law_X12_parts rfl rfl rfl (by decide +kernel) ⟨Nat.le_of_ble_eq_true rfl, Nat.le_of_ble_eq_true rfl⟩) (z_preV CX hW (r := (RX12, TX12, 37)) zMO_0 rfl) rfl rfl hl.1 rfl (lv_room (Nat.le_of_ble_eq_true rfl)) dL_law_1121 ⟨Nat.le_of_ble_eq_true rfl, Nat.le_of_ble_eq_true rfl⟩) (fun z2 g2 H locs hok hW => ?_)
  obtain ⟨hz2, hg2, hI2, _, _⟩ := hok
  rw [hg2] at hW
  have hz : z1 = z2 := hz1.trans (hE.trans hz2.symm)
  rw [hz]
  refine lv_icmp_eq (tgt := 1522) CX.1 CX.2.1 dL_law_1124 (by decide) (fun _ => ?_) (fun h => absurd rfl h)
  exact kk _ H locs hW (hP1.same (fun q h1 h2 => by first | exact zMO_out (by omega) | rfl)) hC1 zMO_id hI2
set_option maxRecDepth 100000 in
set_option maxHeartbeats 4000000 in
theorem zl_25 {p : Program} {l : Launch} {e : Env} {s : State} {m : MethodId} {below : List Frame} {meth : Method} {c : Code} {H : Heap} {locs : List Loc} {Q : State → Prop} {ls : Array Slot} {D : va_G} {cI cJ cZ cP cS cM : ClassId} {Lp : List Nat} {A : Nat → Prop} {f : Nat → va_E} {b L o o2 : Nat} {xs : Nat → Int32} {i : Int} {M : zCt} {S : zS2} (CX : zC p s m #[.ref b] meth c cL_law 4 ret RL wsL_law) (hX : va_X b L xs s s.heap) (hbl : b < s.heap.size) (hbA : ¬ A b) (hi : 0 ≤ i) (hi2 : i + 8 ≤ L) (hL : L ≤ 4096) (hW : zW D (zT cI cJ cZ cP cS cM) Lp A s f s.heap H locs) (hP : zCP cI cP cS cZ cM o M f) (hC : zCI M) (hO : zMO cI cJ o2 S f = f) (hI : mI S) (hd : o + 681 ≤ o2 ∨ o2 + 21 ≤ o) (hl : lv_has ls 4 [(3, .int (zI i)), (2, .ref o2), (1, .ref o), (0, .ref b)]) (hT : ∀ j : Nat, (j : Int) < M.1 0 4 → 0 ≤ ztop (M.2.1 j)) (hH : zqH S) (hE : (zc_total M (zx xs (i + 1).toNat) (zx xs (i + 2).toNat) (zx xs (i + 3).toNat)).1 = (zm_total S (zx xs (i + 1).toNat) (zx xs (i + 2).toNat) (zx xs (i + 3).toNat)).1)
    (kk : ∀ (g : Nat → va_E) (H : Heap) (locs : List Loc), zW D (zT cI cJ cZ cP cS cM) Lp A s g s.heap H locs → zCP cI cP cS cZ cM o (zc_total M (zx xs (i + 1).toNat) (zx xs (i + 2).toNat) (zx xs (i + 3).toNat)).2 g → zCI (zc_total M (zx xs (i + 1).toNat) (zx xs (i + 2).toNat) (zx xs (i + 3).toNat)).2 → zMO cI cJ o2 (zm_total S (zx xs (i + 1).toNat) (zx xs (i + 2).toNat) (zx xs (i + 3).toNat)).2 g = g → mI (zm_total S (zx xs (i + 1).toNat) (zx xs (i + 2).toNat) (zx xs (i + 3).toNat)).2 → W p l e room_1 s m #[.ref b] below meth c H locs 600000 7302250 Q (F0 m 1522 ls [])) : W p l e room_1 s m #[.ref b] below meth c H locs 600000 7302250 Q (F0 m 1129 ls []) := by
  refine lv_aload_n CX.1 CX.2.1 dL_law_1129 rfl (lv_at hl 2 rfl) ?_
  refine lv_aload_n CX.1 CX.2.1 dL_law_1130 rfl (lv_at hl 3 rfl) ?_
  refine lv_iload_n CX.1 CX.2.1 dL_law_1131 rfl (lv_at hl 0 rfl) ?_
  refine lv_iconst (v := zI 1) CX.1 CX.2.1 dL_law_1132 rfl ?_
  refine z_iadd (z := i + 1) CX dL_law_1133 rfl ?_
  refine z_sld CX hW hX hbl hbA (by omega) (by omega) hL dL_law_1134 ?_
  refine lv_aload_n CX.1 CX.2.1 dL_law_1135 rfl (lv_at hl 3 rfl) ?_
  refine lv_iload_n CX.1 CX.2.1 dL_law_1136 rfl (lv_at hl 0 rfl) ?_
  refine lv_iconst (v := zI 2) CX.1 CX.2.1 dL_law_1137 rfl ?_
  refine z_iadd (z := i + 2) CX dL_law_1138 rfl ?_
  refine z_sld CX hW hX hbl hbA (by omega) (by omega) hL dL_law_1139 ?_
  refine lv_aload_n CX.1 CX.2.1 dL_law_1140 rfl (lv_at hl 3 rfl) ?_
  refine lv_iload_n CX.1 CX.2.1 dL_law_1141 rfl (lv_at hl 0 rfl) ?_
  refine lv_iconst (v := zI 3) CX.1 CX.2.1 dL_law_1142 rfl ?_
  refine z_iadd (z := i + 3) CX dL_law_1143 rfl ?_
  refine z_sld CX hW hX hbl hbA (by omega) (by omega) hL dL_law_1144 ?_
  refine z_calli hW (va_runV (C := RX11) (As := [.int (zI (zx xs (i + 1).toNat)), .int (zI (zx xs (i + 2).toNat)), .int (zI (zx xs (i + 3).toNat))]) (rest := []) CX.fix (zd_total l o M (zx xs (i + 1).toNat) (zx xs (i + 2).toNat) (zx xs (i + 3).toNat) hP hC (zx_r xs _) (zx_r xs _) (zx_r xs _) hT) (cwV 3 CX.fix.2.2.2.2 gL_law_X11_total rfl rfl rfl (by decide +kernel) ⟨Nat.le_of_ble_eq_true rfl, Nat.le_of_ble_eq_true rfl⟩) (z_preV CX hW (r := (RX11, TX11, 13)) (show f o = _ from hP.c0) rfl) rfl rfl hl.1 rfl (lv_room (Nat.le_of_ble_eq_true rfl)) dL_law_1145 ⟨Nat.le_of_ble_eq_true rfl, Nat.le_of_ble_eq_true rfl⟩) (fun z1 g1 H locs hok hW => ?_)
  obtain ⟨hz1, hP1, hC1, hF1, _, _⟩ := hok
  have hO1 : zMO cI cJ o2 S g1 = g1 := zMO_fix hO (fun q h1 h2 => hF1 q (by omega))
  have hW : zW D (zT cI cJ cZ cP cS cM) Lp A s (zMO cI cJ o2 S g1) s.heap H locs := by rw [hO1]; exact hW
  refine lv_aload_n CX.1 CX.2.1 dL_law_1148 rfl (lv_at hl 1 rfl) ?_
  refine lv_aload_n CX.1 CX.2.1 dL_law_1149 rfl (lv_at hl 3 rfl) ?_
  refine lv_iload_n CX.1 CX.2.1 dL_law_1150 rfl (lv_at hl 0 rfl) ?_
  refine lv_iconst (v := zI 1) CX.1 CX.2.1 dL_law_1151 rfl ?_
  refine z_iadd (z := i + 1) CX dL_law_1152 rfl ?_
  refine z_sld CX hW hX hbl hbA (by omega) (by omega) hL dL_law_1153 ?_
  refine lv_aload_n CX.1 CX.2.1 dL_law_1154 rfl (lv_at hl 3 rfl) ?_
  refine lv_iload_n CX.1 CX.2.1 dL_law_1155 rfl (lv_at hl 0 rfl) ?_
  refine lv_iconst (v := zI 2) CX.1 CX.2.1 dL_law_1156 rfl ?_
  refine z_iadd (z := i + 2) CX dL_law_1157 rfl ?_
  refine z_sld CX hW hX hbl hbA (by omega) (by omega) hL dL_law_1158 ?_
  refine lv_aload_n CX.1 CX.2.1 dL_law_1159 rfl (lv_at hl 3 rfl) ?_
  refine lv_iload_n CX.1 CX.2.1 dL_law_1160 rfl (lv_at hl 0 rfl) ?_
  refine lv_iconst (v := zI 3) CX.1 CX.2.1 dL_law_1161 rfl ?_
  refine z_iadd (z := i + 3) CX dL_law_1162 rfl ?_
  refine z_sld CX hW hX hbl hbA (by omega) (by omega) hL dL_law_1163 ?_
  refine z_calli hW (va_runV (C := RX12) (As := [.int (zI (zx xs (i + 1).toNat)), .int (zI (zx xs (i + 2).toNat)), .int (zI (zx xs (i + 3).toNat))]) (rest := [.int (zI z1)]) CX.fix (zk_total l (f := g1) o2 S (zx xs (i + 1).toNat) (zx xs (i + 2).toNat) (zx xs (i + 3).toNat) hI (zx_r xs _) (zx_r xs _) (zx_r xs _) hH) (cwV 3 CX.fix.2.2.2.2 gL_law_X12_total rfl rfl rfl (by decide +kernel) ⟨Nat.le_of_ble_eq_true rfl, Nat.le_of_ble_eq_true rfl⟩) (z_preV CX hW (r := (RX12, TX12, 37)) zMO_0 rfl) rfl rfl hl.1 rfl (lv_room (Nat.le_of_ble_eq_true rfl)) dL_law_1164 ⟨Nat.le_of_ble_eq_true rfl, Nat.le_of_ble_eq_true rfl⟩) (fun z2 g2 H locs hok hW => ?_)
  obtain ⟨hz2, hg2, hI2, _, _⟩ := hok
  rw [hg2] at hW
  have hz : z1 = z2 := hz1.trans (hE.trans hz2.symm)
  rw [hz]
  refine lv_icmp_eq (tgt := 1522) CX.1 CX.2.1 dL_law_1167 (by decide) (fun _ => ?_) (fun h => absurd rfl h)
  exact kk _ H locs hW (hP1.same (fun q h1 h2 => by first | exact zMO_out (by omega) | rfl)) hC1 zMO_id hI2
set_option maxRecDepth 100000 in
set_option maxHeartbeats 4000000 in
theorem zl_26 {p : Program} {l : Launch} {e : Env} {s : State} {m : MethodId} {below : List Frame} {meth : Method} {c : Code} {H : Heap} {locs : List Loc} {Q : State → Prop} {ls : Array Slot} {D : va_G} {cI cJ cZ cP cS cM : ClassId} {Lp : List Nat} {A : Nat → Prop} {f : Nat → va_E} {b L o o2 : Nat} {xs : Nat → Int32} {i : Int} {M : zCt} {S : zS2} (CX : zC p s m #[.ref b] meth c cL_law 4 ret RL wsL_law) (hX : va_X b L xs s s.heap) (hbl : b < s.heap.size) (hbA : ¬ A b) (hi : 0 ≤ i) (hi2 : i + 8 ≤ L) (hL : L ≤ 4096) (hW : zW D (zT cI cJ cZ cP cS cM) Lp A s f s.heap H locs) (hP : zCP cI cP cS cZ cM o M f) (hC : zCI M) (hO : zMO cI cJ o2 S f = f) (hI : mI S) (hd : o + 681 ≤ o2 ∨ o2 + 21 ≤ o) (hl : lv_has ls 4 [(3, .int (zI i)), (2, .ref o2), (1, .ref o), (0, .ref b)]) (hH : zqH S) (hE : (zc_knot M (zx xs (i + 1).toNat) (zx xs (i + 2).toNat)).1 = (zm_knot S (zx xs (i + 1).toNat) (zx xs (i + 2).toNat)).1)
    (kk : ∀ (g : Nat → va_E) (H : Heap) (locs : List Loc), zW D (zT cI cJ cZ cP cS cM) Lp A s g s.heap H locs → zCP cI cP cS cZ cM o (zc_knot M (zx xs (i + 1).toNat) (zx xs (i + 2).toNat)).2 g → zCI (zc_knot M (zx xs (i + 1).toNat) (zx xs (i + 2).toNat)).2 → zMO cI cJ o2 (zm_knot S (zx xs (i + 1).toNat) (zx xs (i + 2).toNat)).2 g = g → mI (zm_knot S (zx xs (i + 1).toNat) (zx xs (i + 2).toNat)).2 → W p l e room_1 s m #[.ref b] below meth c H locs 600000 7302250 Q (F0 m 1522 ls [])) : W p l e room_1 s m #[.ref b] below meth c H locs 600000 7302250 Q (F0 m 1172 ls []) := by
  refine lv_aload_n CX.1 CX.2.1 dL_law_1172 rfl (lv_at hl 2 rfl) ?_
  refine lv_aload_n CX.1 CX.2.1 dL_law_1173 rfl (lv_at hl 3 rfl) ?_
  refine lv_iload_n CX.1 CX.2.1 dL_law_1174 rfl (lv_at hl 0 rfl) ?_
  refine lv_iconst (v := zI 1) CX.1 CX.2.1 dL_law_1175 rfl ?_
  refine z_iadd (z := i + 1) CX dL_law_1176 rfl ?_
  refine z_sld CX hW hX hbl hbA (by omega) (by omega) hL dL_law_1177 ?_
  refine lv_aload_n CX.1 CX.2.1 dL_law_1178 rfl (lv_at hl 3 rfl) ?_
  refine lv_iload_n CX.1 CX.2.1 dL_law_1179 rfl (lv_at hl 0 rfl) ?_
  refine lv_iconst (v := zI 2) CX.1 CX.2.1 dL_law_1180 rfl ?_
  refine z_iadd (z := i + 2) CX dL_law_1181 rfl ?_
  refine z_sld CX hW hX hbl hbA (by omega) (by omega) hL dL_law_1182 ?_
  refine z_calli hW (va_runV (C := RX11) (As := [.int (zI (zx xs (i + 1).toNat)), .int (zI (zx xs (i + 2).toNat))]) (rest := []) CX.fix (zd_knot l o M (zx xs (i + 1).toNat) (zx xs (i + 2).toNat) hP hC (zx_r xs _) (zx_r xs _) ) (cwV 2 CX.fix.2.2.2.2 gL_law_X11_knot rfl rfl rfl (by decide +kernel) ⟨Nat.le_of_ble_eq_true rfl, Nat.le_of_ble_eq_true rfl⟩) (z_preV CX hW (r := (RX11, TX11, 13)) (show f o = _ from hP.c0) rfl) rfl rfl hl.1 rfl (lv_room (Nat.le_of_ble_eq_true rfl)) dL_law_1183 ⟨Nat.le_of_ble_eq_true rfl, Nat.le_of_ble_eq_true rfl⟩) (fun z1 g1 H locs hok hW => ?_)
  obtain ⟨hz1, hP1, hC1, hF1, _, _⟩ := hok
  have hO1 : zMO cI cJ o2 S g1 = g1 := zMO_fix hO (fun q h1 h2 => hF1 q (by omega))
  have hW : zW D (zT cI cJ cZ cP cS cM) Lp A s (zMO cI cJ o2 S g1) s.heap H locs := by rw [hO1]; exact hW
  refine lv_aload_n CX.1 CX.2.1 dL_law_1186 rfl (lv_at hl 1 rfl) ?_
  refine lv_aload_n CX.1 CX.2.1 dL_law_1187 rfl (lv_at hl 3 rfl) ?_
  refine lv_iload_n CX.1 CX.2.1 dL_law_1188 rfl (lv_at hl 0 rfl) ?_
  refine lv_iconst (v := zI 1) CX.1 CX.2.1 dL_law_1189 rfl ?_
  refine z_iadd (z := i + 1) CX dL_law_1190 rfl ?_
  refine z_sld CX hW hX hbl hbA (by omega) (by omega) hL dL_law_1191 ?_
  refine lv_aload_n CX.1 CX.2.1 dL_law_1192 rfl (lv_at hl 3 rfl) ?_
  refine lv_iload_n CX.1 CX.2.1 dL_law_1193 rfl (lv_at hl 0 rfl) ?_
  refine lv_iconst (v := zI 2) CX.1 CX.2.1 dL_law_1194 rfl ?_
  refine z_iadd (z := i + 2) CX dL_law_1195 rfl ?_
  refine z_sld CX hW hX hbl hbA (by omega) (by omega) hL dL_law_1196 ?_
  refine z_calli hW (va_runV (C := RX12) (As := [.int (zI (zx xs (i + 1).toNat)), .int (zI (zx xs (i + 2).toNat))]) (rest := [.int (zI z1)]) CX.fix (zk_knot l (f := g1) o2 S (zx xs (i + 1).toNat) (zx xs (i + 2).toNat) hI (zx_r xs _) (zx_r xs _) hH) (cwV 2 CX.fix.2.2.2.2 gL_law_X12_knot rfl rfl rfl (by decide +kernel) ⟨Nat.le_of_ble_eq_true rfl, Nat.le_of_ble_eq_true rfl⟩) (z_preV CX hW (r := (RX12, TX12, 37)) zMO_0 rfl) rfl rfl hl.1 rfl (lv_room (Nat.le_of_ble_eq_true rfl)) dL_law_1197 ⟨Nat.le_of_ble_eq_true rfl, Nat.le_of_ble_eq_true rfl⟩) (fun z2 g2 H locs hok hW => ?_)
  obtain ⟨hz2, hg2, hI2, _, _⟩ := hok
  rw [hg2] at hW
  have hz : z1 = z2 := hz1.trans (hE.trans hz2.symm)
  rw [hz]
  refine lv_icmp_eq (tgt := 1522) CX.1 CX.2.1 dL_law_1200 (by decide) (fun _ => ?_) (fun h => absurd rfl h)
  exact kk _ H locs hW (hP1.same (fun q h1 h2 => by first | exact zMO_out (by omega) | rfl)) hC1 zMO_id hI2
set_option maxRecDepth 100000 in
set_option maxHeartbeats 4000000 in
theorem zl_27 {p : Program} {l : Launch} {e : Env} {s : State} {m : MethodId} {below : List Frame} {meth : Method} {c : Code} {H : Heap} {locs : List Loc} {Q : State → Prop} {ls : Array Slot} {D : va_G} {cI cJ cZ cP cS cM : ClassId} {Lp : List Nat} {A : Nat → Prop} {f : Nat → va_E} {b L o o2 : Nat} {xs : Nat → Int32} {i : Int} {M : zCt} {S : zS2} (CX : zC p s m #[.ref b] meth c cL_law 4 ret RL wsL_law) (hX : va_X b L xs s s.heap) (hbl : b < s.heap.size) (hbA : ¬ A b) (hi : 0 ≤ i) (hi2 : i + 8 ≤ L) (hL : L ≤ 4096) (hW : zW D (zT cI cJ cZ cP cS cM) Lp A s f s.heap H locs) (hP : zCP cI cP cS cZ cM o M f) (hC : zCI M) (hO : zMO cI cJ o2 S f = f) (hI : mI S) (hd : o + 681 ≤ o2 ∨ o2 + 21 ≤ o) (hl : lv_has ls 4 [(3, .int (zI i)), (2, .ref o2), (1, .ref o), (0, .ref b)]) (hH : zqH S) (hE : (zc_most M (zx xs (i + 1).toNat) (zx xs (i + 2).toNat) (zx xs (i + 3).toNat)).1 = (zm_most S (zx xs (i + 1).toNat) (zx xs (i + 2).toNat) (zx xs (i + 3).toNat)).1)
    (kk : ∀ (g : Nat → va_E) (H : Heap) (locs : List Loc), zW D (zT cI cJ cZ cP cS cM) Lp A s g s.heap H locs → zCP cI cP cS cZ cM o (zc_most M (zx xs (i + 1).toNat) (zx xs (i + 2).toNat) (zx xs (i + 3).toNat)).2 g → zCI (zc_most M (zx xs (i + 1).toNat) (zx xs (i + 2).toNat) (zx xs (i + 3).toNat)).2 → zMO cI cJ o2 (zm_most S (zx xs (i + 1).toNat) (zx xs (i + 2).toNat) (zx xs (i + 3).toNat)).2 g = g → mI (zm_most S (zx xs (i + 1).toNat) (zx xs (i + 2).toNat) (zx xs (i + 3).toNat)).2 → W p l e room_1 s m #[.ref b] below meth c H locs 600000 7302250 Q (F0 m 1522 ls [])) : W p l e room_1 s m #[.ref b] below meth c H locs 600000 7302250 Q (F0 m 1205 ls []) := by
  refine lv_aload_n CX.1 CX.2.1 dL_law_1205 rfl (lv_at hl 2 rfl) ?_
  refine lv_aload_n CX.1 CX.2.1 dL_law_1206 rfl (lv_at hl 3 rfl) ?_
  refine lv_iload_n CX.1 CX.2.1 dL_law_1207 rfl (lv_at hl 0 rfl) ?_
  refine lv_iconst (v := zI 1) CX.1 CX.2.1 dL_law_1208 rfl ?_
  refine z_iadd (z := i + 1) CX dL_law_1209 rfl ?_
  refine z_sld CX hW hX hbl hbA (by omega) (by omega) hL dL_law_1210 ?_
  refine lv_aload_n CX.1 CX.2.1 dL_law_1211 rfl (lv_at hl 3 rfl) ?_
  refine lv_iload_n CX.1 CX.2.1 dL_law_1212 rfl (lv_at hl 0 rfl) ?_
  refine lv_iconst (v := zI 2) CX.1 CX.2.1 dL_law_1213 rfl ?_
  refine z_iadd (z := i + 2) CX dL_law_1214 rfl ?_
  refine z_sld CX hW hX hbl hbA (by omega) (by omega) hL dL_law_1215 ?_
  refine lv_aload_n CX.1 CX.2.1 dL_law_1216 rfl (lv_at hl 3 rfl) ?_
  refine lv_iload_n CX.1 CX.2.1 dL_law_1217 rfl (lv_at hl 0 rfl) ?_
  refine lv_iconst (v := zI 3) CX.1 CX.2.1 dL_law_1218 rfl ?_
  refine z_iadd (z := i + 3) CX dL_law_1219 rfl ?_
  refine z_sld CX hW hX hbl hbA (by omega) (by omega) hL dL_law_1220 ?_
  refine z_calli hW (va_runV (C := RX11) (As := [.int (zI (zx xs (i + 1).toNat)), .int (zI (zx xs (i + 2).toNat)), .int (zI (zx xs (i + 3).toNat))]) (rest := []) CX.fix (zd_most l o M (zx xs (i + 1).toNat) (zx xs (i + 2).toNat) (zx xs (i + 3).toNat) hP hC (zx_r xs _) (zx_r xs _) (zx_r xs _) ) (cwV 3 CX.fix.2.2.2.2 gL_law_X11_most rfl rfl rfl (by decide +kernel) ⟨Nat.le_of_ble_eq_true rfl, Nat.le_of_ble_eq_true rfl⟩) (z_preV CX hW (r := (RX11, TX11, 13)) (show f o = _ from hP.c0) rfl) rfl rfl hl.1 rfl (lv_room (Nat.le_of_ble_eq_true rfl)) dL_law_1221 ⟨Nat.le_of_ble_eq_true rfl, Nat.le_of_ble_eq_true rfl⟩) (fun z1 g1 H locs hok hW => ?_)
  obtain ⟨hz1, hP1, hC1, hF1, _, _⟩ := hok
  have hO1 : zMO cI cJ o2 S g1 = g1 := zMO_fix hO (fun q h1 h2 => hF1 q (by omega))
  have hW : zW D (zT cI cJ cZ cP cS cM) Lp A s (zMO cI cJ o2 S g1) s.heap H locs := by rw [hO1]; exact hW
  refine lv_aload_n CX.1 CX.2.1 dL_law_1224 rfl (lv_at hl 1 rfl) ?_
  refine lv_aload_n CX.1 CX.2.1 dL_law_1225 rfl (lv_at hl 3 rfl) ?_
  refine lv_iload_n CX.1 CX.2.1 dL_law_1226 rfl (lv_at hl 0 rfl) ?_
  refine lv_iconst (v := zI 1) CX.1 CX.2.1 dL_law_1227 rfl ?_
  refine z_iadd (z := i + 1) CX dL_law_1228 rfl ?_
  refine z_sld CX hW hX hbl hbA (by omega) (by omega) hL dL_law_1229 ?_
  refine lv_aload_n CX.1 CX.2.1 dL_law_1230 rfl (lv_at hl 3 rfl) ?_
  refine lv_iload_n CX.1 CX.2.1 dL_law_1231 rfl (lv_at hl 0 rfl) ?_
  refine lv_iconst (v := zI 2) CX.1 CX.2.1 dL_law_1232 rfl ?_
  refine z_iadd (z := i + 2) CX dL_law_1233 rfl ?_
  refine z_sld CX hW hX hbl hbA (by omega) (by omega) hL dL_law_1234 ?_
  refine lv_aload_n CX.1 CX.2.1 dL_law_1235 rfl (lv_at hl 3 rfl) ?_
  refine lv_iload_n CX.1 CX.2.1 dL_law_1236 rfl (lv_at hl 0 rfl) ?_
  refine lv_iconst (v := zI 3) CX.1 CX.2.1 dL_law_1237 rfl ?_
  refine z_iadd (z := i + 3) CX dL_law_1238 rfl ?_
  refine z_sld CX hW hX hbl hbA (by omega) (by omega) hL dL_law_1239 ?_
  refine z_calli hW (va_runV (C := RX12) (As := [.int (zI (zx xs (i + 1).toNat)), .int (zI (zx xs (i + 2).toNat)), .int (zI (zx xs (i + 3).toNat))]) (rest := [.int (zI z1)]) CX.fix (zk_most l (f := g1) o2 S (zx xs (i + 1).toNat) (zx xs (i + 2).toNat) (zx xs (i + 3).toNat) hI (zx_r xs _) (zx_r xs _) (zx_r xs _) hH) (cwV 3 CX.fix.2.2.2.2 gL_law_X12_most rfl rfl rfl (by decide +kernel) ⟨Nat.le_of_ble_eq_true rfl, Nat.le_of_ble_eq_true rfl⟩) (z_preV CX hW (r := (RX12, TX12, 37)) zMO_0 rfl) rfl rfl hl.1 rfl (lv_room (Nat.le_of_ble_eq_true rfl)) dL_law_1240 ⟨Nat.le_of_ble_eq_true rfl, Nat.le_of_ble_eq_true rfl⟩) (fun z2 g2 H locs hok hW => ?_)
  obtain ⟨hz2, hg2, hI2, _, _⟩ := hok
  rw [hg2] at hW
  have hz : z1 = z2 := hz1.trans (hE.trans hz2.symm)
  rw [hz]
  refine lv_icmp_eq (tgt := 1522) CX.1 CX.2.1 dL_law_1243 (by decide) (fun _ => ?_) (fun h => absurd rfl h)
  exact kk _ H locs hW (hP1.same (fun q h1 h2 => by first | exact zMO_out (by omega) | rfl)) hC1 zMO_id hI2
set_option maxRecDepth 100000 in
set_option maxHeartbeats 4000000 in
theorem zl_28 {p : Program} {l : Launch} {e : Env} {s : State} {m : MethodId} {below : List Frame} {meth : Method} {c : Code} {H : Heap} {locs : List Loc} {Q : State → Prop} {ls : Array Slot} {D : va_G} {cI cJ cZ cP cS cM : ClassId} {Lp : List Nat} {A : Nat → Prop} {f : Nat → va_E} {b L o o2 : Nat} {xs : Nat → Int32} {i : Int} {M : zCt} {S : zS2} (CX : zC p s m #[.ref b] meth c cL_law 4 ret RL wsL_law) (hX : va_X b L xs s s.heap) (hbl : b < s.heap.size) (hbA : ¬ A b) (hi : 0 ≤ i) (hi2 : i + 8 ≤ L) (hL : L ≤ 4096) (hW : zW D (zT cI cJ cZ cP cS cM) Lp A s f s.heap H locs) (hP : zCP cI cP cS cZ cM o M f) (hC : zCI M) (hO : zMO cI cJ o2 S f = f) (hI : mI S) (hd : o + 681 ≤ o2 ∨ o2 + 21 ≤ o) (hl : lv_has ls 4 [(3, .int (zI i)), (2, .ref o2), (1, .ref o), (0, .ref b)]) (hE : (zc_move M (zx xs (i + 1).toNat) (zx xs (i + 2).toNat) (zx xs (i + 3).toNat) (zx xs (i + 4).toNat) (zx xs (i + 5).toNat) (zx xs (i + 6).toNat)).1 = (zm_move S (zx xs (i + 1).toNat) (zx xs (i + 2).toNat) (zx xs (i + 3).toNat) (zx xs (i + 4).toNat) (zx xs (i + 5).toNat) (zx xs (i + 6).toNat)).1)
    (kk : ∀ (g : Nat → va_E) (H : Heap) (locs : List Loc), zW D (zT cI cJ cZ cP cS cM) Lp A s g s.heap H locs → zCP cI cP cS cZ cM o (zc_move M (zx xs (i + 1).toNat) (zx xs (i + 2).toNat) (zx xs (i + 3).toNat) (zx xs (i + 4).toNat) (zx xs (i + 5).toNat) (zx xs (i + 6).toNat)).2 g → zCI (zc_move M (zx xs (i + 1).toNat) (zx xs (i + 2).toNat) (zx xs (i + 3).toNat) (zx xs (i + 4).toNat) (zx xs (i + 5).toNat) (zx xs (i + 6).toNat)).2 → zMO cI cJ o2 (zm_move S (zx xs (i + 1).toNat) (zx xs (i + 2).toNat) (zx xs (i + 3).toNat) (zx xs (i + 4).toNat) (zx xs (i + 5).toNat) (zx xs (i + 6).toNat)).2 g = g → mI (zm_move S (zx xs (i + 1).toNat) (zx xs (i + 2).toNat) (zx xs (i + 3).toNat) (zx xs (i + 4).toNat) (zx xs (i + 5).toNat) (zx xs (i + 6).toNat)).2 → W p l e room_1 s m #[.ref b] below meth c H locs 600000 7302250 Q (F0 m 1522 ls [])) : W p l e room_1 s m #[.ref b] below meth c H locs 600000 7302250 Q (F0 m 1248 ls []) := by
  refine lv_aload_n CX.1 CX.2.1 dL_law_1248 rfl (lv_at hl 2 rfl) ?_
  refine lv_aload_n CX.1 CX.2.1 dL_law_1249 rfl (lv_at hl 3 rfl) ?_
  refine lv_iload_n CX.1 CX.2.1 dL_law_1250 rfl (lv_at hl 0 rfl) ?_
  refine lv_iconst (v := zI 1) CX.1 CX.2.1 dL_law_1251 rfl ?_
  refine z_iadd (z := i + 1) CX dL_law_1252 rfl ?_
  refine z_sld CX hW hX hbl hbA (by omega) (by omega) hL dL_law_1253 ?_
  refine lv_aload_n CX.1 CX.2.1 dL_law_1254 rfl (lv_at hl 3 rfl) ?_
  refine lv_iload_n CX.1 CX.2.1 dL_law_1255 rfl (lv_at hl 0 rfl) ?_
  refine lv_iconst (v := zI 2) CX.1 CX.2.1 dL_law_1256 rfl ?_
  refine z_iadd (z := i + 2) CX dL_law_1257 rfl ?_
  refine z_sld CX hW hX hbl hbA (by omega) (by omega) hL dL_law_1258 ?_
  refine lv_aload_n CX.1 CX.2.1 dL_law_1259 rfl (lv_at hl 3 rfl) ?_
  refine lv_iload_n CX.1 CX.2.1 dL_law_1260 rfl (lv_at hl 0 rfl) ?_
  refine lv_iconst (v := zI 3) CX.1 CX.2.1 dL_law_1261 rfl ?_
  refine z_iadd (z := i + 3) CX dL_law_1262 rfl ?_
  refine z_sld CX hW hX hbl hbA (by omega) (by omega) hL dL_law_1263 ?_
  refine lv_aload_n CX.1 CX.2.1 dL_law_1264 rfl (lv_at hl 3 rfl) ?_
  refine lv_iload_n CX.1 CX.2.1 dL_law_1265 rfl (lv_at hl 0 rfl) ?_
  refine lv_iconst (v := zI 4) CX.1 CX.2.1 dL_law_1266 rfl ?_
  refine z_iadd (z := i + 4) CX dL_law_1267 rfl ?_
  refine z_sld CX hW hX hbl hbA (by omega) (by omega) hL dL_law_1268 ?_
  refine lv_aload_n CX.1 CX.2.1 dL_law_1269 rfl (lv_at hl 3 rfl) ?_
  refine lv_iload_n CX.1 CX.2.1 dL_law_1270 rfl (lv_at hl 0 rfl) ?_
  refine lv_iconst (v := zI 5) CX.1 CX.2.1 dL_law_1271 rfl ?_
  refine z_iadd (z := i + 5) CX dL_law_1272 rfl ?_
  refine z_sld CX hW hX hbl hbA (by omega) (by omega) hL dL_law_1273 ?_
  refine lv_aload_n CX.1 CX.2.1 dL_law_1274 rfl (lv_at hl 3 rfl) ?_
  refine lv_iload_n CX.1 CX.2.1 dL_law_1275 rfl (lv_at hl 0 rfl) ?_
  refine lv_bipush (v := zI 6) CX.1 CX.2.1 dL_law_1276 (by decide) ?_
  refine z_iadd (z := i + 6) CX dL_law_1278 rfl ?_
  refine z_sld CX hW hX hbl hbA (by omega) (by omega) hL dL_law_1279 ?_
  refine z_calli hW (va_runV (C := RX11) (As := [.int (zI (zx xs (i + 1).toNat)), .int (zI (zx xs (i + 2).toNat)), .int (zI (zx xs (i + 3).toNat)), .int (zI (zx xs (i + 4).toNat)), .int (zI (zx xs (i + 5).toNat)), .int (zI (zx xs (i + 6).toNat))]) (rest := []) CX.fix (zd_move l o M (zx xs (i + 1).toNat) (zx xs (i + 2).toNat) (zx xs (i + 3).toNat) (zx xs (i + 4).toNat) (zx xs (i + 5).toNat) (zx xs (i + 6).toNat) hP hC (zx_r xs _) (zx_r xs _) (zx_r xs _) (zx_r xs _) (zx_r xs _) (zx_r xs _) ) (cwV 6 CX.fix.2.2.2.2 gL_law_X11_move rfl rfl rfl (by decide +kernel) ⟨Nat.le_of_ble_eq_true rfl, Nat.le_of_ble_eq_true rfl⟩) (z_preV CX hW (r := (RX11, TX11, 13)) (show f o = _ from hP.c0) rfl) rfl rfl hl.1 rfl (lv_room (Nat.le_of_ble_eq_true rfl)) dL_law_1280 ⟨Nat.le_of_ble_eq_true rfl, Nat.le_of_ble_eq_true rfl⟩) (fun z1 g1 H locs hok hW => ?_)
  obtain ⟨hz1, hP1, hC1, hF1, _⟩ := hok
  have hO1 : zMO cI cJ o2 S g1 = g1 := zMO_fix hO (fun q h1 h2 => hF1 q (by omega))
  have hW : zW D (zT cI cJ cZ cP cS cM) Lp A s (zMO cI cJ o2 S g1) s.heap H locs := by rw [hO1]; exact hW
  refine lv_aload_n CX.1 CX.2.1 dL_law_1283 rfl (lv_at hl 1 rfl) ?_
  refine lv_aload_n CX.1 CX.2.1 dL_law_1284 rfl (lv_at hl 3 rfl) ?_
  refine lv_iload_n CX.1 CX.2.1 dL_law_1285 rfl (lv_at hl 0 rfl) ?_
  refine lv_iconst (v := zI 1) CX.1 CX.2.1 dL_law_1286 rfl ?_
  refine z_iadd (z := i + 1) CX dL_law_1287 rfl ?_
  refine z_sld CX hW hX hbl hbA (by omega) (by omega) hL dL_law_1288 ?_
  refine lv_aload_n CX.1 CX.2.1 dL_law_1289 rfl (lv_at hl 3 rfl) ?_
  refine lv_iload_n CX.1 CX.2.1 dL_law_1290 rfl (lv_at hl 0 rfl) ?_
  refine lv_iconst (v := zI 2) CX.1 CX.2.1 dL_law_1291 rfl ?_
  refine z_iadd (z := i + 2) CX dL_law_1292 rfl ?_
  refine z_sld CX hW hX hbl hbA (by omega) (by omega) hL dL_law_1293 ?_
  refine lv_aload_n CX.1 CX.2.1 dL_law_1294 rfl (lv_at hl 3 rfl) ?_
  refine lv_iload_n CX.1 CX.2.1 dL_law_1295 rfl (lv_at hl 0 rfl) ?_
  refine lv_iconst (v := zI 3) CX.1 CX.2.1 dL_law_1296 rfl ?_
  refine z_iadd (z := i + 3) CX dL_law_1297 rfl ?_
  refine z_sld CX hW hX hbl hbA (by omega) (by omega) hL dL_law_1298 ?_
  refine lv_aload_n CX.1 CX.2.1 dL_law_1299 rfl (lv_at hl 3 rfl) ?_
  refine lv_iload_n CX.1 CX.2.1 dL_law_1300 rfl (lv_at hl 0 rfl) ?_
  refine lv_iconst (v := zI 4) CX.1 CX.2.1 dL_law_1301 rfl ?_
  refine z_iadd (z := i + 4) CX dL_law_1302 rfl ?_
  refine z_sld CX hW hX hbl hbA (by omega) (by omega) hL dL_law_1303 ?_
  refine lv_aload_n CX.1 CX.2.1 dL_law_1304 rfl (lv_at hl 3 rfl) ?_
  refine lv_iload_n CX.1 CX.2.1 dL_law_1305 rfl (lv_at hl 0 rfl) ?_
  refine lv_iconst (v := zI 5) CX.1 CX.2.1 dL_law_1306 rfl ?_
  refine z_iadd (z := i + 5) CX dL_law_1307 rfl ?_
  refine z_sld CX hW hX hbl hbA (by omega) (by omega) hL dL_law_1308 ?_
  refine lv_aload_n CX.1 CX.2.1 dL_law_1309 rfl (lv_at hl 3 rfl) ?_
  refine lv_iload_n CX.1 CX.2.1 dL_law_1310 rfl (lv_at hl 0 rfl) ?_
  refine lv_bipush (v := zI 6) CX.1 CX.2.1 dL_law_1311 (by decide) ?_
  refine z_iadd (z := i + 6) CX dL_law_1313 rfl ?_
  refine z_sld CX hW hX hbl hbA (by omega) (by omega) hL dL_law_1314 ?_
  refine z_calli hW (va_runV (C := RX12) (As := [.int (zI (zx xs (i + 1).toNat)), .int (zI (zx xs (i + 2).toNat)), .int (zI (zx xs (i + 3).toNat)), .int (zI (zx xs (i + 4).toNat)), .int (zI (zx xs (i + 5).toNat)), .int (zI (zx xs (i + 6).toNat))]) (rest := [.int (zI z1)]) CX.fix (zk_move l (f := g1) o2 S (zx xs (i + 1).toNat) (zx xs (i + 2).toNat) (zx xs (i + 3).toNat) (zx xs (i + 4).toNat) (zx xs (i + 5).toNat) (zx xs (i + 6).toNat) hI (zx_r xs _) (zx_r xs _) (zx_r xs _) (zx_r xs _) (zx_r xs _) (zx_r xs _) ) (cwV 6 CX.fix.2.2.2.2 gL_law_X12_move rfl rfl rfl (by decide +kernel) ⟨Nat.le_of_ble_eq_true rfl, Nat.le_of_ble_eq_true rfl⟩) (z_preV CX hW (r := (RX12, TX12, 37)) zMO_0 rfl) rfl rfl hl.1 rfl (lv_room (Nat.le_of_ble_eq_true rfl)) dL_law_1315 ⟨Nat.le_of_ble_eq_true rfl, Nat.le_of_ble_eq_true rfl⟩) (fun z2 g2 H locs hok hW => ?_)
  obtain ⟨hz2, hg2, hI2, _, _⟩ := hok
  rw [hg2] at hW
  have hz : z1 = z2 := hz1.trans (hE.trans hz2.symm)
  rw [hz]
  refine lv_icmp_eq (tgt := 1522) CX.1 CX.2.1 dL_law_1318 (by decide) (fun _ => ?_) (fun h => absurd rfl h)
  exact kk _ H locs hW (hP1.same (fun q h1 h2 => by first | exact zMO_out (by omega) | rfl)) hC1 zMO_id hI2
set_option maxRecDepth 100000 in
set_option maxHeartbeats 4000000 in
theorem zl_29 {p : Program} {l : Launch} {e : Env} {s : State} {m : MethodId} {below : List Frame} {meth : Method} {c : Code} {H : Heap} {locs : List Loc} {Q : State → Prop} {ls : Array Slot} {D : va_G} {cI cJ cZ cP cS cM : ClassId} {Lp : List Nat} {A : Nat → Prop} {f : Nat → va_E} {b L o o2 : Nat} {xs : Nat → Int32} {i : Int} {M : zCt} {S : zS2} (CX : zC p s m #[.ref b] meth c cL_law 4 ret RL wsL_law) (hX : va_X b L xs s s.heap) (hbl : b < s.heap.size) (hbA : ¬ A b) (hi : 0 ≤ i) (hi2 : i + 8 ≤ L) (hL : L ≤ 4096) (hW : zW D (zT cI cJ cZ cP cS cM) Lp A s f s.heap H locs) (hP : zCP cI cP cS cZ cM o M f) (hC : zCI M) (hO : zMO cI cJ o2 S f = f) (hI : mI S) (hd : o + 681 ≤ o2 ∨ o2 + 21 ≤ o) (hl : lv_has ls 4 [(3, .int (zI i)), (2, .ref o2), (1, .ref o), (0, .ref b)]) (hE : (zc_moved M (zx xs (i + 1).toNat) (zx xs (i + 2).toNat) (zx xs (i + 3).toNat) (zx xs (i + 4).toNat) (zx xs (i + 5).toNat) (zx xs (i + 6).toNat) (zx xs (i + 7).toNat)).1 = zm_moved S (zx xs (i + 1).toNat) (zx xs (i + 2).toNat) (zx xs (i + 3).toNat) (zx xs (i + 4).toNat) (zx xs (i + 5).toNat) (zx xs (i + 6).toNat) (zx xs (i + 7).toNat))
    (kk : ∀ (g : Nat → va_E) (H : Heap) (locs : List Loc), zW D (zT cI cJ cZ cP cS cM) Lp A s g s.heap H locs → zCP cI cP cS cZ cM o (zc_moved M (zx xs (i + 1).toNat) (zx xs (i + 2).toNat) (zx xs (i + 3).toNat) (zx xs (i + 4).toNat) (zx xs (i + 5).toNat) (zx xs (i + 6).toNat) (zx xs (i + 7).toNat)).2 g → zCI (zc_moved M (zx xs (i + 1).toNat) (zx xs (i + 2).toNat) (zx xs (i + 3).toNat) (zx xs (i + 4).toNat) (zx xs (i + 5).toNat) (zx xs (i + 6).toNat) (zx xs (i + 7).toNat)).2 → zMO cI cJ o2 S g = g → mI S → W p l e room_1 s m #[.ref b] below meth c H locs 600000 7302250 Q (F0 m 1522 ls [])) : W p l e room_1 s m #[.ref b] below meth c H locs 600000 7302250 Q (F0 m 1323 ls []) := by
  refine lv_aload_n CX.1 CX.2.1 dL_law_1323 rfl (lv_at hl 2 rfl) ?_
  refine lv_aload_n CX.1 CX.2.1 dL_law_1324 rfl (lv_at hl 3 rfl) ?_
  refine lv_iload_n CX.1 CX.2.1 dL_law_1325 rfl (lv_at hl 0 rfl) ?_
  refine lv_iconst (v := zI 1) CX.1 CX.2.1 dL_law_1326 rfl ?_
  refine z_iadd (z := i + 1) CX dL_law_1327 rfl ?_
  refine z_sld CX hW hX hbl hbA (by omega) (by omega) hL dL_law_1328 ?_
  refine lv_aload_n CX.1 CX.2.1 dL_law_1329 rfl (lv_at hl 3 rfl) ?_
  refine lv_iload_n CX.1 CX.2.1 dL_law_1330 rfl (lv_at hl 0 rfl) ?_
  refine lv_iconst (v := zI 2) CX.1 CX.2.1 dL_law_1331 rfl ?_
  refine z_iadd (z := i + 2) CX dL_law_1332 rfl ?_
  refine z_sld CX hW hX hbl hbA (by omega) (by omega) hL dL_law_1333 ?_
  refine lv_aload_n CX.1 CX.2.1 dL_law_1334 rfl (lv_at hl 3 rfl) ?_
  refine lv_iload_n CX.1 CX.2.1 dL_law_1335 rfl (lv_at hl 0 rfl) ?_
  refine lv_iconst (v := zI 3) CX.1 CX.2.1 dL_law_1336 rfl ?_
  refine z_iadd (z := i + 3) CX dL_law_1337 rfl ?_
  refine z_sld CX hW hX hbl hbA (by omega) (by omega) hL dL_law_1338 ?_
  refine lv_aload_n CX.1 CX.2.1 dL_law_1339 rfl (lv_at hl 3 rfl) ?_
  refine lv_iload_n CX.1 CX.2.1 dL_law_1340 rfl (lv_at hl 0 rfl) ?_
  refine lv_iconst (v := zI 4) CX.1 CX.2.1 dL_law_1341 rfl ?_
  refine z_iadd (z := i + 4) CX dL_law_1342 rfl ?_
  refine z_sld CX hW hX hbl hbA (by omega) (by omega) hL dL_law_1343 ?_
  refine lv_aload_n CX.1 CX.2.1 dL_law_1344 rfl (lv_at hl 3 rfl) ?_
  refine lv_iload_n CX.1 CX.2.1 dL_law_1345 rfl (lv_at hl 0 rfl) ?_
  refine lv_iconst (v := zI 5) CX.1 CX.2.1 dL_law_1346 rfl ?_
  refine z_iadd (z := i + 5) CX dL_law_1347 rfl ?_
  refine z_sld CX hW hX hbl hbA (by omega) (by omega) hL dL_law_1348 ?_
  refine lv_aload_n CX.1 CX.2.1 dL_law_1349 rfl (lv_at hl 3 rfl) ?_
  refine lv_iload_n CX.1 CX.2.1 dL_law_1350 rfl (lv_at hl 0 rfl) ?_
  refine lv_bipush (v := zI 6) CX.1 CX.2.1 dL_law_1351 (by decide) ?_
  refine z_iadd (z := i + 6) CX dL_law_1353 rfl ?_
  refine z_sld CX hW hX hbl hbA (by omega) (by omega) hL dL_law_1354 ?_
  refine lv_aload_n CX.1 CX.2.1 dL_law_1355 rfl (lv_at hl 3 rfl) ?_
  refine lv_iload_n CX.1 CX.2.1 dL_law_1356 rfl (lv_at hl 0 rfl) ?_
  refine lv_bipush (v := zI 7) CX.1 CX.2.1 dL_law_1357 (by decide) ?_
  refine z_iadd (z := i + 7) CX dL_law_1359 rfl ?_
  refine z_sld CX hW hX hbl hbA (by omega) (by omega) hL dL_law_1360 ?_
  refine z_calli hW (va_runV (C := RX11) (As := [.int (zI (zx xs (i + 1).toNat)), .int (zI (zx xs (i + 2).toNat)), .int (zI (zx xs (i + 3).toNat)), .int (zI (zx xs (i + 4).toNat)), .int (zI (zx xs (i + 5).toNat)), .int (zI (zx xs (i + 6).toNat)), .int (zI (zx xs (i + 7).toNat))]) (rest := []) CX.fix (zd_moved l o M (zx xs (i + 1).toNat) (zx xs (i + 2).toNat) (zx xs (i + 3).toNat) (zx xs (i + 4).toNat) (zx xs (i + 5).toNat) (zx xs (i + 6).toNat) (zx xs (i + 7).toNat) hP hC (zx_r xs _) (zx_r xs _) (zx_r xs _) (zx_r xs _) (zx_r xs _) (zx_r xs _) (zx_r xs _) ) (cwV 7 CX.fix.2.2.2.2 gL_law_X11_moved rfl rfl rfl (by decide +kernel) ⟨Nat.le_of_ble_eq_true rfl, Nat.le_of_ble_eq_true rfl⟩) (z_preV CX hW (r := (RX11, TX11, 13)) (show f o = _ from hP.c0) rfl) rfl rfl hl.1 rfl (lv_room (Nat.le_of_ble_eq_true rfl)) dL_law_1361 ⟨Nat.le_of_ble_eq_true rfl, Nat.le_of_ble_eq_true rfl⟩) (fun z1 g1 H locs hok hW => ?_)
  obtain ⟨hz1, hP1, hC1, hF1, _, _⟩ := hok
  have hO1 : zMO cI cJ o2 S g1 = g1 := zMO_fix hO (fun q h1 h2 => hF1 q (by omega))
  have hW : zW D (zT cI cJ cZ cP cS cM) Lp A s (zMO cI cJ o2 S g1) s.heap H locs := by rw [hO1]; exact hW
  refine lv_aload_n CX.1 CX.2.1 dL_law_1364 rfl (lv_at hl 1 rfl) ?_
  refine lv_aload_n CX.1 CX.2.1 dL_law_1365 rfl (lv_at hl 3 rfl) ?_
  refine lv_iload_n CX.1 CX.2.1 dL_law_1366 rfl (lv_at hl 0 rfl) ?_
  refine lv_iconst (v := zI 1) CX.1 CX.2.1 dL_law_1367 rfl ?_
  refine z_iadd (z := i + 1) CX dL_law_1368 rfl ?_
  refine z_sld CX hW hX hbl hbA (by omega) (by omega) hL dL_law_1369 ?_
  refine lv_aload_n CX.1 CX.2.1 dL_law_1370 rfl (lv_at hl 3 rfl) ?_
  refine lv_iload_n CX.1 CX.2.1 dL_law_1371 rfl (lv_at hl 0 rfl) ?_
  refine lv_iconst (v := zI 2) CX.1 CX.2.1 dL_law_1372 rfl ?_
  refine z_iadd (z := i + 2) CX dL_law_1373 rfl ?_
  refine z_sld CX hW hX hbl hbA (by omega) (by omega) hL dL_law_1374 ?_
  refine lv_aload_n CX.1 CX.2.1 dL_law_1375 rfl (lv_at hl 3 rfl) ?_
  refine lv_iload_n CX.1 CX.2.1 dL_law_1376 rfl (lv_at hl 0 rfl) ?_
  refine lv_iconst (v := zI 3) CX.1 CX.2.1 dL_law_1377 rfl ?_
  refine z_iadd (z := i + 3) CX dL_law_1378 rfl ?_
  refine z_sld CX hW hX hbl hbA (by omega) (by omega) hL dL_law_1379 ?_
  refine lv_aload_n CX.1 CX.2.1 dL_law_1380 rfl (lv_at hl 3 rfl) ?_
  refine lv_iload_n CX.1 CX.2.1 dL_law_1381 rfl (lv_at hl 0 rfl) ?_
  refine lv_iconst (v := zI 4) CX.1 CX.2.1 dL_law_1382 rfl ?_
  refine z_iadd (z := i + 4) CX dL_law_1383 rfl ?_
  refine z_sld CX hW hX hbl hbA (by omega) (by omega) hL dL_law_1384 ?_
  refine lv_aload_n CX.1 CX.2.1 dL_law_1385 rfl (lv_at hl 3 rfl) ?_
  refine lv_iload_n CX.1 CX.2.1 dL_law_1386 rfl (lv_at hl 0 rfl) ?_
  refine lv_iconst (v := zI 5) CX.1 CX.2.1 dL_law_1387 rfl ?_
  refine z_iadd (z := i + 5) CX dL_law_1388 rfl ?_
  refine z_sld CX hW hX hbl hbA (by omega) (by omega) hL dL_law_1389 ?_
  refine lv_aload_n CX.1 CX.2.1 dL_law_1390 rfl (lv_at hl 3 rfl) ?_
  refine lv_iload_n CX.1 CX.2.1 dL_law_1391 rfl (lv_at hl 0 rfl) ?_
  refine lv_bipush (v := zI 6) CX.1 CX.2.1 dL_law_1392 (by decide) ?_
  refine z_iadd (z := i + 6) CX dL_law_1394 rfl ?_
  refine z_sld CX hW hX hbl hbA (by omega) (by omega) hL dL_law_1395 ?_
  refine lv_aload_n CX.1 CX.2.1 dL_law_1396 rfl (lv_at hl 3 rfl) ?_
  refine lv_iload_n CX.1 CX.2.1 dL_law_1397 rfl (lv_at hl 0 rfl) ?_
  refine lv_bipush (v := zI 7) CX.1 CX.2.1 dL_law_1398 (by decide) ?_
  refine z_iadd (z := i + 7) CX dL_law_1400 rfl ?_
  refine z_sld CX hW hX hbl hbA (by omega) (by omega) hL dL_law_1401 ?_
  refine z_calli hW (va_runV (C := RX12) (As := [.int (zI (zx xs (i + 1).toNat)), .int (zI (zx xs (i + 2).toNat)), .int (zI (zx xs (i + 3).toNat)), .int (zI (zx xs (i + 4).toNat)), .int (zI (zx xs (i + 5).toNat)), .int (zI (zx xs (i + 6).toNat)), .int (zI (zx xs (i + 7).toNat))]) (rest := [.int (zI z1)]) CX.fix (zk_moved l (f := g1) o2 S (zx xs (i + 1).toNat) (zx xs (i + 2).toNat) (zx xs (i + 3).toNat) (zx xs (i + 4).toNat) (zx xs (i + 5).toNat) (zx xs (i + 6).toNat) (zx xs (i + 7).toNat) hI (zx_r xs _) (zx_r xs _) (zx_r xs _) (zx_r xs _) (zx_r xs _) (zx_r xs _) (zx_r xs _) ) (cwV 7 CX.fix.2.2.2.2 gL_law_X12_moved rfl rfl rfl (by decide +kernel) ⟨Nat.le_of_ble_eq_true rfl, Nat.le_of_ble_eq_true rfl⟩) (z_preV CX hW (r := (RX12, TX12, 37)) zMO_0 rfl) rfl rfl hl.1 rfl (lv_room (Nat.le_of_ble_eq_true rfl)) dL_law_1402 ⟨Nat.le_of_ble_eq_true rfl, Nat.le_of_ble_eq_true rfl⟩) (fun z2 g2 H locs hok hW => ?_)
  obtain ⟨hz2, hg2, _⟩ := hok
  rw [hg2] at hW
  have hz : z1 = z2 := hz1.trans (hE.trans hz2.symm)
  rw [hz]
  refine lv_icmp_eq (tgt := 1522) CX.1 CX.2.1 dL_law_1405 (by decide) (fun _ => ?_) (fun h => absurd rfl h)
  exact kk _ H locs hW (hP1.same (fun q h1 h2 => by first | exact zMO_out (by omega) | rfl)) hC1 zMO_id hI
set_option maxRecDepth 100000 in
set_option maxHeartbeats 4000000 in
theorem zl_30 {p : Program} {l : Launch} {e : Env} {s : State} {m : MethodId} {below : List Frame} {meth : Method} {c : Code} {H : Heap} {locs : List Loc} {Q : State → Prop} {ls : Array Slot} {D : va_G} {cI cJ cZ cP cS cM : ClassId} {Lp : List Nat} {A : Nat → Prop} {f : Nat → va_E} {b L o o2 : Nat} {xs : Nat → Int32} {i : Int} {M : zCt} {S : zS2} (CX : zC p s m #[.ref b] meth c cL_law 4 ret RL wsL_law) (hX : va_X b L xs s s.heap) (hbl : b < s.heap.size) (hbA : ¬ A b) (hi : 0 ≤ i) (hi2 : i + 8 ≤ L) (hL : L ≤ 4096) (hW : zW D (zT cI cJ cZ cP cS cM) Lp A s f s.heap H locs) (hP : zCP cI cP cS cZ cM o M f) (hC : zCI M) (hO : zMO cI cJ o2 S f = f) (hI : mI S) (hd : o + 681 ≤ o2 ∨ o2 + 21 ≤ o) (hl : lv_has ls 4 [(3, .int (zI i)), (2, .ref o2), (1, .ref o), (0, .ref b)]) (hH : zqH S) (hE : (zc_make M (zx xs (i + 1).toNat) (zx xs (i + 2).toNat) (zx xs (i + 3).toNat) (zx xs (i + 4).toNat)).1 = (zm_make S (zx xs (i + 1).toNat) (zx xs (i + 2).toNat) (zx xs (i + 3).toNat) (zx xs (i + 4).toNat)).1)
    (kk : ∀ (g : Nat → va_E) (H : Heap) (locs : List Loc), zW D (zT cI cJ cZ cP cS cM) Lp A s g s.heap H locs → zCP cI cP cS cZ cM o (zc_make M (zx xs (i + 1).toNat) (zx xs (i + 2).toNat) (zx xs (i + 3).toNat) (zx xs (i + 4).toNat)).2 g → zCI (zc_make M (zx xs (i + 1).toNat) (zx xs (i + 2).toNat) (zx xs (i + 3).toNat) (zx xs (i + 4).toNat)).2 → zMO cI cJ o2 (zm_make S (zx xs (i + 1).toNat) (zx xs (i + 2).toNat) (zx xs (i + 3).toNat) (zx xs (i + 4).toNat)).2 g = g → mI (zm_make S (zx xs (i + 1).toNat) (zx xs (i + 2).toNat) (zx xs (i + 3).toNat) (zx xs (i + 4).toNat)).2 → W p l e room_1 s m #[.ref b] below meth c H locs 600000 7302250 Q (F0 m 1522 ls [])) : W p l e room_1 s m #[.ref b] below meth c H locs 600000 7302250 Q (F0 m 1410 ls []) := by
  refine lv_aload_n CX.1 CX.2.1 dL_law_1410 rfl (lv_at hl 2 rfl) ?_
  refine lv_aload_n CX.1 CX.2.1 dL_law_1411 rfl (lv_at hl 3 rfl) ?_
  refine lv_iload_n CX.1 CX.2.1 dL_law_1412 rfl (lv_at hl 0 rfl) ?_
  refine lv_iconst (v := zI 1) CX.1 CX.2.1 dL_law_1413 rfl ?_
  refine z_iadd (z := i + 1) CX dL_law_1414 rfl ?_
  refine z_sld CX hW hX hbl hbA (by omega) (by omega) hL dL_law_1415 ?_
  refine lv_aload_n CX.1 CX.2.1 dL_law_1416 rfl (lv_at hl 3 rfl) ?_
  refine lv_iload_n CX.1 CX.2.1 dL_law_1417 rfl (lv_at hl 0 rfl) ?_
  refine lv_iconst (v := zI 2) CX.1 CX.2.1 dL_law_1418 rfl ?_
  refine z_iadd (z := i + 2) CX dL_law_1419 rfl ?_
  refine z_sld CX hW hX hbl hbA (by omega) (by omega) hL dL_law_1420 ?_
  refine lv_aload_n CX.1 CX.2.1 dL_law_1421 rfl (lv_at hl 3 rfl) ?_
  refine lv_iload_n CX.1 CX.2.1 dL_law_1422 rfl (lv_at hl 0 rfl) ?_
  refine lv_iconst (v := zI 3) CX.1 CX.2.1 dL_law_1423 rfl ?_
  refine z_iadd (z := i + 3) CX dL_law_1424 rfl ?_
  refine z_sld CX hW hX hbl hbA (by omega) (by omega) hL dL_law_1425 ?_
  refine lv_aload_n CX.1 CX.2.1 dL_law_1426 rfl (lv_at hl 3 rfl) ?_
  refine lv_iload_n CX.1 CX.2.1 dL_law_1427 rfl (lv_at hl 0 rfl) ?_
  refine lv_iconst (v := zI 4) CX.1 CX.2.1 dL_law_1428 rfl ?_
  refine z_iadd (z := i + 4) CX dL_law_1429 rfl ?_
  refine z_sld CX hW hX hbl hbA (by omega) (by omega) hL dL_law_1430 ?_
  refine z_calli hW (va_runV (C := RX11) (As := [.int (zI (zx xs (i + 1).toNat)), .int (zI (zx xs (i + 2).toNat)), .int (zI (zx xs (i + 3).toNat)), .int (zI (zx xs (i + 4).toNat))]) (rest := []) CX.fix (zd_make l o M (zx xs (i + 1).toNat) (zx xs (i + 2).toNat) (zx xs (i + 3).toNat) (zx xs (i + 4).toNat) hP hC (zx_r xs _) (zx_r xs _) (zx_r xs _) (zx_r xs _) ) (cwV 4 CX.fix.2.2.2.2 gL_law_X11_make rfl rfl rfl (by decide +kernel) ⟨Nat.le_of_ble_eq_true rfl, Nat.le_of_ble_eq_true rfl⟩) (z_preV CX hW (r := (RX11, TX11, 13)) (show f o = _ from hP.c0) rfl) rfl rfl hl.1 rfl (lv_room (Nat.le_of_ble_eq_true rfl)) dL_law_1431 ⟨Nat.le_of_ble_eq_true rfl, Nat.le_of_ble_eq_true rfl⟩) (fun z1 g1 H locs hok hW => ?_)
  obtain ⟨hz1, hP1, hC1, hF1, _⟩ := hok
  have hO1 : zMO cI cJ o2 S g1 = g1 := zMO_fix hO (fun q h1 h2 => hF1 q (by omega))
  have hW : zW D (zT cI cJ cZ cP cS cM) Lp A s (zMO cI cJ o2 S g1) s.heap H locs := by rw [hO1]; exact hW
  refine lv_aload_n CX.1 CX.2.1 dL_law_1434 rfl (lv_at hl 1 rfl) ?_
  refine lv_aload_n CX.1 CX.2.1 dL_law_1435 rfl (lv_at hl 3 rfl) ?_
  refine lv_iload_n CX.1 CX.2.1 dL_law_1436 rfl (lv_at hl 0 rfl) ?_
  refine lv_iconst (v := zI 1) CX.1 CX.2.1 dL_law_1437 rfl ?_
  refine z_iadd (z := i + 1) CX dL_law_1438 rfl ?_
  refine z_sld CX hW hX hbl hbA (by omega) (by omega) hL dL_law_1439 ?_
  refine lv_aload_n CX.1 CX.2.1 dL_law_1440 rfl (lv_at hl 3 rfl) ?_
  refine lv_iload_n CX.1 CX.2.1 dL_law_1441 rfl (lv_at hl 0 rfl) ?_
  refine lv_iconst (v := zI 2) CX.1 CX.2.1 dL_law_1442 rfl ?_
  refine z_iadd (z := i + 2) CX dL_law_1443 rfl ?_
  refine z_sld CX hW hX hbl hbA (by omega) (by omega) hL dL_law_1444 ?_
  refine lv_aload_n CX.1 CX.2.1 dL_law_1445 rfl (lv_at hl 3 rfl) ?_
  refine lv_iload_n CX.1 CX.2.1 dL_law_1446 rfl (lv_at hl 0 rfl) ?_
  refine lv_iconst (v := zI 3) CX.1 CX.2.1 dL_law_1447 rfl ?_
  refine z_iadd (z := i + 3) CX dL_law_1448 rfl ?_
  refine z_sld CX hW hX hbl hbA (by omega) (by omega) hL dL_law_1449 ?_
  refine lv_aload_n CX.1 CX.2.1 dL_law_1450 rfl (lv_at hl 3 rfl) ?_
  refine lv_iload_n CX.1 CX.2.1 dL_law_1451 rfl (lv_at hl 0 rfl) ?_
  refine lv_iconst (v := zI 4) CX.1 CX.2.1 dL_law_1452 rfl ?_
  refine z_iadd (z := i + 4) CX dL_law_1453 rfl ?_
  refine z_sld CX hW hX hbl hbA (by omega) (by omega) hL dL_law_1454 ?_
  refine z_calli hW (va_runV (C := RX12) (As := [.int (zI (zx xs (i + 1).toNat)), .int (zI (zx xs (i + 2).toNat)), .int (zI (zx xs (i + 3).toNat)), .int (zI (zx xs (i + 4).toNat))]) (rest := [.int (zI z1)]) CX.fix (zk_make l (f := g1) o2 S (zx xs (i + 1).toNat) (zx xs (i + 2).toNat) (zx xs (i + 3).toNat) (zx xs (i + 4).toNat) hI (zx_r xs _) (zx_r xs _) (zx_r xs _) (zx_r xs _) hH) (cwV 4 CX.fix.2.2.2.2 gL_law_X12_make rfl rfl rfl (by decide +kernel) ⟨Nat.le_of_ble_eq_true rfl, Nat.le_of_ble_eq_true rfl⟩) (z_preV CX hW (r := (RX12, TX12, 37)) zMO_0 rfl) rfl rfl hl.1 rfl (lv_room (Nat.le_of_ble_eq_true rfl)) dL_law_1455 ⟨Nat.le_of_ble_eq_true rfl, Nat.le_of_ble_eq_true rfl⟩) (fun z2 g2 H locs hok hW => ?_)
  obtain ⟨hz2, hg2, hI2, _, _⟩ := hok
  rw [hg2] at hW
  have hz : z1 = z2 := hz1.trans (hE.trans hz2.symm)
  rw [hz]
  refine lv_icmp_eq (tgt := 1522) CX.1 CX.2.1 dL_law_1458 (by decide) (fun _ => ?_) (fun h => absurd rfl h)
  exact kk _ H locs hW (hP1.same (fun q h1 h2 => by first | exact zMO_out (by omega) | rfl)) hC1 zMO_id hI2
set_option maxRecDepth 100000 in
set_option maxHeartbeats 4000000 in
theorem zl_31 {p : Program} {l : Launch} {e : Env} {s : State} {m : MethodId} {below : List Frame} {meth : Method} {c : Code} {H : Heap} {locs : List Loc} {Q : State → Prop} {ls : Array Slot} {D : va_G} {cI cJ cZ cP cS cM : ClassId} {Lp : List Nat} {A : Nat → Prop} {f : Nat → va_E} {b L o o2 : Nat} {xs : Nat → Int32} {i : Int} {M : zCt} {S : zS2} (CX : zC p s m #[.ref b] meth c cL_law 4 ret RL wsL_law) (hX : va_X b L xs s s.heap) (hbl : b < s.heap.size) (hbA : ¬ A b) (hi : 0 ≤ i) (hi2 : i + 8 ≤ L) (hL : L ≤ 4096) (hW : zW D (zT cI cJ cZ cP cS cM) Lp A s f s.heap H locs) (hP : zCP cI cP cS cZ cM o M f) (hC : zCI M) (hO : zMO cI cJ o2 S f = f) (hI : mI S) (hd : o + 681 ≤ o2 ∨ o2 + 21 ≤ o) (hl : lv_has ls 4 [(3, .int (zI i)), (2, .ref o2), (1, .ref o), (0, .ref b)]) (hE : (zc_drop M (zx xs (i + 1).toNat)).1 = (zm_drop S (zx xs (i + 1).toNat)).1)
    (kk : ∀ (g : Nat → va_E) (H : Heap) (locs : List Loc), zW D (zT cI cJ cZ cP cS cM) Lp A s g s.heap H locs → zCP cI cP cS cZ cM o (zc_drop M (zx xs (i + 1).toNat)).2 g → zCI (zc_drop M (zx xs (i + 1).toNat)).2 → zMO cI cJ o2 (zm_drop S (zx xs (i + 1).toNat)).2 g = g → mI (zm_drop S (zx xs (i + 1).toNat)).2 → W p l e room_1 s m #[.ref b] below meth c H locs 600000 7302250 Q (F0 m 1522 ls [])) : W p l e room_1 s m #[.ref b] below meth c H locs 600000 7302250 Q (F0 m 1463 ls []) := by
  refine lv_aload_n CX.1 CX.2.1 dL_law_1463 rfl (lv_at hl 2 rfl) ?_
  refine lv_aload_n CX.1 CX.2.1 dL_law_1464 rfl (lv_at hl 3 rfl) ?_
  refine lv_iload_n CX.1 CX.2.1 dL_law_1465 rfl (lv_at hl 0 rfl) ?_
  refine lv_iconst (v := zI 1) CX.1 CX.2.1 dL_law_1466 rfl ?_
  refine z_iadd (z := i + 1) CX dL_law_1467 rfl ?_
  refine z_sld CX hW hX hbl hbA (by omega) (by omega) hL dL_law_1468 ?_
  refine z_calli hW (va_runV (C := RX11) (As := [.int (zI (zx xs (i + 1).toNat))]) (rest := []) CX.fix (zd_drop l o M (zx xs (i + 1).toNat) hP hC (zx_r xs _) ) (cwV 1 CX.fix.2.2.2.2 gL_law_X11_drop rfl rfl rfl (by decide +kernel) ⟨Nat.le_of_ble_eq_true rfl, Nat.le_of_ble_eq_true rfl⟩) (z_preV CX hW (r := (RX11, TX11, 13)) (show f o = _ from hP.c0) rfl) rfl rfl hl.1 rfl (lv_room (Nat.le_of_ble_eq_true rfl)) dL_law_1469 ⟨Nat.le_of_ble_eq_true rfl, Nat.le_of_ble_eq_true rfl⟩) (fun z1 g1 H locs hok hW => ?_)
  obtain ⟨hz1, hP1, hC1, hF1, _⟩ := hok
  have hO1 : zMO cI cJ o2 S g1 = g1 := zMO_fix hO (fun q h1 h2 => hF1 q (by omega))
  have hW : zW D (zT cI cJ cZ cP cS cM) Lp A s (zMO cI cJ o2 S g1) s.heap H locs := by rw [hO1]; exact hW
  refine lv_aload_n CX.1 CX.2.1 dL_law_1472 rfl (lv_at hl 1 rfl) ?_
  refine lv_aload_n CX.1 CX.2.1 dL_law_1473 rfl (lv_at hl 3 rfl) ?_
  refine lv_iload_n CX.1 CX.2.1 dL_law_1474 rfl (lv_at hl 0 rfl) ?_
  refine lv_iconst (v := zI 1) CX.1 CX.2.1 dL_law_1475 rfl ?_
  refine z_iadd (z := i + 1) CX dL_law_1476 rfl ?_
  refine z_sld CX hW hX hbl hbA (by omega) (by omega) hL dL_law_1477 ?_
  refine z_calli hW (va_runV (C := RX12) (As := [.int (zI (zx xs (i + 1).toNat))]) (rest := [.int (zI z1)]) CX.fix (zk_drop l (f := g1) o2 S (zx xs (i + 1).toNat) hI (zx_r xs _) ) (cwV 1 CX.fix.2.2.2.2 gL_law_X12_drop rfl rfl rfl (by decide +kernel) ⟨Nat.le_of_ble_eq_true rfl, Nat.le_of_ble_eq_true rfl⟩) (z_preV CX hW (r := (RX12, TX12, 37)) zMO_0 rfl) rfl rfl hl.1 rfl (lv_room (Nat.le_of_ble_eq_true rfl)) dL_law_1478 ⟨Nat.le_of_ble_eq_true rfl, Nat.le_of_ble_eq_true rfl⟩) (fun z2 g2 H locs hok hW => ?_)
  obtain ⟨hz2, hg2, hI2, _, _⟩ := hok
  rw [hg2] at hW
  have hz : z1 = z2 := hz1.trans (hE.trans hz2.symm)
  rw [hz]
  refine lv_icmp_eq (tgt := 1522) CX.1 CX.2.1 dL_law_1481 (by decide) (fun _ => ?_) (fun h => absurd rfl h)
  exact kk _ H locs hW (hP1.same (fun q h1 h2 => by first | exact zMO_out (by omega) | rfl)) hC1 zMO_id hI2
set_option maxRecDepth 100000 in
set_option maxHeartbeats 4000000 in
theorem zl_32 {p : Program} {l : Launch} {e : Env} {s : State} {m : MethodId} {below : List Frame} {meth : Method} {c : Code} {H : Heap} {locs : List Loc} {Q : State → Prop} {ls : Array Slot} {D : va_G} {cI cJ cZ cP cS cM : ClassId} {Lp : List Nat} {A : Nat → Prop} {f : Nat → va_E} {b L o o2 : Nat} {xs : Nat → Int32} {i : Int} {M : zCt} {S : zS2} (CX : zC p s m #[.ref b] meth c cL_law 4 ret RL wsL_law) (hX : va_X b L xs s s.heap) (hbl : b < s.heap.size) (hbA : ¬ A b) (hi : 0 ≤ i) (hi2 : i + 8 ≤ L) (hL : L ≤ 4096) (hW : zW D (zT cI cJ cZ cP cS cM) Lp A s f s.heap H locs) (hP : zCP cI cP cS cZ cM o M f) (hC : zCI M) (hO : zMO cI cJ o2 S f = f) (hI : mI S) (hd : o + 681 ≤ o2 ∨ o2 + 21 ≤ o) (hl : lv_has ls 4 [(3, .int (zI i)), (2, .ref o2), (1, .ref o), (0, .ref b)]) (hE : (zc_undo M ).1 = (zm_undo S ).1)
    (kk : ∀ (g : Nat → va_E) (H : Heap) (locs : List Loc), zW D (zT cI cJ cZ cP cS cM) Lp A s g s.heap H locs → zCP cI cP cS cZ cM o (zc_undo M ).2 g → zCI (zc_undo M ).2 → zMO cI cJ o2 (zm_undo S ).2 g = g → mI (zm_undo S ).2 → W p l e room_1 s m #[.ref b] below meth c H locs 600000 7302250 Q (F0 m 1522 ls [])) : W p l e room_1 s m #[.ref b] below meth c H locs 600000 7302250 Q (F0 m 1486 ls []) := by
  refine lv_aload_n CX.1 CX.2.1 dL_law_1486 rfl (lv_at hl 2 rfl) ?_
  refine z_calli hW (va_runV (C := RX11) (As := []) (rest := []) CX.fix (zd_undo l o M  hP hC  ) (cwV 0 CX.fix.2.2.2.2 gL_law_X11_undo rfl rfl rfl (by decide +kernel) ⟨Nat.le_of_ble_eq_true rfl, Nat.le_of_ble_eq_true rfl⟩) (z_preV CX hW (r := (RX11, TX11, 13)) (show f o = _ from hP.c0) rfl) rfl rfl hl.1 rfl (lv_room (Nat.le_of_ble_eq_true rfl)) dL_law_1487 ⟨Nat.le_of_ble_eq_true rfl, Nat.le_of_ble_eq_true rfl⟩) (fun z1 g1 H locs hok hW => ?_)
  obtain ⟨hz1, hP1, hC1, hF1, _⟩ := hok
  have hO1 : zMO cI cJ o2 S g1 = g1 := zMO_fix hO (fun q h1 h2 => hF1 q (by omega))
  have hW : zW D (zT cI cJ cZ cP cS cM) Lp A s (zMO cI cJ o2 S g1) s.heap H locs := by rw [hO1]; exact hW
  refine lv_aload_n CX.1 CX.2.1 dL_law_1490 rfl (lv_at hl 1 rfl) ?_
  refine z_calli hW (va_runV (C := RX12) (As := []) (rest := [.int (zI z1)]) CX.fix (zk_undo l (f := g1) o2 S  hI  ) (cwV 0 CX.fix.2.2.2.2 gL_law_X12_undo rfl rfl rfl (by decide +kernel) ⟨Nat.le_of_ble_eq_true rfl, Nat.le_of_ble_eq_true rfl⟩) (z_preV CX hW (r := (RX12, TX12, 37)) zMO_0 rfl) rfl rfl hl.1 rfl (lv_room (Nat.le_of_ble_eq_true rfl)) dL_law_1491 ⟨Nat.le_of_ble_eq_true rfl, Nat.le_of_ble_eq_true rfl⟩) (fun z2 g2 H locs hok hW => ?_)
  obtain ⟨hz2, hg2, hI2, _, _⟩ := hok
  rw [hg2] at hW
  have hz : z1 = z2 := hz1.trans (hE.trans hz2.symm)
  rw [hz]
  refine lv_icmp_eq (tgt := 1522) CX.1 CX.2.1 dL_law_1494 (by decide) (fun _ => ?_) (fun h => absurd rfl h)
  exact kk _ H locs hW (hP1.same (fun q h1 h2 => by first | exact zMO_out (by omega) | rfl)) hC1 zMO_id hI2
set_option maxRecDepth 100000 in
set_option maxHeartbeats 4000000 in
theorem zl_33 {p : Program} {l : Launch} {e : Env} {s : State} {m : MethodId} {below : List Frame} {meth : Method} {c : Code} {H : Heap} {locs : List Loc} {Q : State → Prop} {ls : Array Slot} {D : va_G} {cI cJ cZ cP cS cM : ClassId} {Lp : List Nat} {A : Nat → Prop} {f : Nat → va_E} {b L o o2 : Nat} {xs : Nat → Int32} {i : Int} {M : zCt} {S : zS2} (CX : zC p s m #[.ref b] meth c cL_law 4 ret RL wsL_law) (hX : va_X b L xs s s.heap) (hbl : b < s.heap.size) (hbA : ¬ A b) (hi : 0 ≤ i) (hi2 : i + 8 ≤ L) (hL : L ≤ 4096) (hW : zW D (zT cI cJ cZ cP cS cM) Lp A s f s.heap H locs) (hP : zCP cI cP cS cZ cM o M f) (hC : zCI M) (hO : zMO cI cJ o2 S f = f) (hI : mI S) (hd : o + 681 ≤ o2 ∨ o2 + 21 ≤ o) (hl : lv_has ls 4 [(3, .int (zI i)), (2, .ref o2), (1, .ref o), (0, .ref b)]) (hE : (zc_status M (zx xs (i + 1).toNat)).1 = zm_status S (zx xs (i + 1).toNat))
    (kk : ∀ (g : Nat → va_E) (H : Heap) (locs : List Loc), zW D (zT cI cJ cZ cP cS cM) Lp A s g s.heap H locs → zCP cI cP cS cZ cM o (zc_status M (zx xs (i + 1).toNat)).2 g → zCI (zc_status M (zx xs (i + 1).toNat)).2 → zMO cI cJ o2 S g = g → mI S → W p l e room_1 s m #[.ref b] below meth c H locs 600000 7302250 Q (F0 m 1522 ls [])) : W p l e room_1 s m #[.ref b] below meth c H locs 600000 7302250 Q (F0 m 1499 ls []) := by
  refine lv_aload_n CX.1 CX.2.1 dL_law_1499 rfl (lv_at hl 2 rfl) ?_
  refine lv_aload_n CX.1 CX.2.1 dL_law_1500 rfl (lv_at hl 3 rfl) ?_
  refine lv_iload_n CX.1 CX.2.1 dL_law_1501 rfl (lv_at hl 0 rfl) ?_
  refine lv_iconst (v := zI 1) CX.1 CX.2.1 dL_law_1502 rfl ?_
  refine z_iadd (z := i + 1) CX dL_law_1503 rfl ?_
  refine z_sld CX hW hX hbl hbA (by omega) (by omega) hL dL_law_1504 ?_
  refine z_calli hW (va_runV (C := RX11) (As := [.int (zI (zx xs (i + 1).toNat))]) (rest := []) CX.fix (zd_status l o M (zx xs (i + 1).toNat) hP hC (zx_r xs _) ) (cwV 1 CX.fix.2.2.2.2 gL_law_X11_status rfl rfl rfl (by decide +kernel) ⟨Nat.le_of_ble_eq_true rfl, Nat.le_of_ble_eq_true rfl⟩) (z_preV CX hW (r := (RX11, TX11, 13)) (show f o = _ from hP.c0) rfl) rfl rfl hl.1 rfl (lv_room (Nat.le_of_ble_eq_true rfl)) dL_law_1505 ⟨Nat.le_of_ble_eq_true rfl, Nat.le_of_ble_eq_true rfl⟩) (fun z1 g1 H locs hok hW => ?_)
  obtain ⟨hz1, hP1, hC1, hF1, _, _⟩ := hok
  have hO1 : zMO cI cJ o2 S g1 = g1 := zMO_fix hO (fun q h1 h2 => hF1 q (by omega))
  have hW : zW D (zT cI cJ cZ cP cS cM) Lp A s (zMO cI cJ o2 S g1) s.heap H locs := by rw [hO1]; exact hW
  refine lv_aload_n CX.1 CX.2.1 dL_law_1508 rfl (lv_at hl 1 rfl) ?_
  refine lv_aload_n CX.1 CX.2.1 dL_law_1509 rfl (lv_at hl 3 rfl) ?_
  refine lv_iload_n CX.1 CX.2.1 dL_law_1510 rfl (lv_at hl 0 rfl) ?_
  refine lv_iconst (v := zI 1) CX.1 CX.2.1 dL_law_1511 rfl ?_
  refine z_iadd (z := i + 1) CX dL_law_1512 rfl ?_
  refine z_sld CX hW hX hbl hbA (by omega) (by omega) hL dL_law_1513 ?_
  refine z_calli hW (va_runV (C := RX12) (As := [.int (zI (zx xs (i + 1).toNat))]) (rest := [.int (zI z1)]) CX.fix (zk_status l (f := g1) o2 S (zx xs (i + 1).toNat) hI (zx_r xs _) ) (cwV 1 CX.fix.2.2.2.2 gL_law_X12_status rfl rfl rfl (by decide +kernel) ⟨Nat.le_of_ble_eq_true rfl, Nat.le_of_ble_eq_true rfl⟩) (z_preV CX hW (r := (RX12, TX12, 37)) zMO_0 rfl) rfl rfl hl.1 rfl (lv_room (Nat.le_of_ble_eq_true rfl)) dL_law_1514 ⟨Nat.le_of_ble_eq_true rfl, Nat.le_of_ble_eq_true rfl⟩) (fun z2 g2 H locs hok hW => ?_)
  obtain ⟨hz2, hg2, _⟩ := hok
  rw [hg2] at hW
  have hz : z1 = z2 := hz1.trans (hE.trans hz2.symm)
  rw [hz]
  refine lv_icmp_eq (tgt := 1522) CX.1 CX.2.1 dL_law_1517 (by decide) (fun _ => ?_) (fun h => absurd rfl h)
  exact kk _ H locs hW (hP1.same (fun q h1 h2 => by first | exact zMO_out (by omega) | rfl)) hC1 zMO_id hI
end ZLa
