section ZSh
def zPoly (cI : ClassId) (f : Nat → va_E) (a : Nat) (c : Nat → Int) : Prop := f a = .inr (2, [.ref (a + 1)]) ∧ f (a + 1) = zA cI 25 c
/-- a shelf at a: P, how many CURVES, the CURVES, the letters; its polynomials stand behind it -/
def zShelf (cI cP : ClassId) (f : Nat → va_E) (a : Nat) (p n : Int) (C : Nat → Nat → Int) (lt : Nat → Int) : Prop :=
  f a = .inr (7, [.int (zI p), .int (zI n), .ref (a + 1), .ref (a + 2)]) ∧ f (a + 1) = zAR cP 6 (fun k => some (a + 3 + 2 * k)) ∧ f (a + 2) = zA cI 36 lt ∧ ∀ k, k < 6 → zPoly cI f (a + 3 + 2 * k) (C k)
/-- outside a stretch g is f -/
def zFr (f g : Nat → va_E) (lo hi : Nat) : Prop := ∀ b, ¬ (lo ≤ b ∧ b < hi) → g b = f b
theorem zFr.refl {f : Nat → va_E} {lo hi : Nat} : zFr f f lo hi := fun _ _ => rfl
theorem zFr.up {f g : Nat → va_E} {lo hi a : Nat} {x : va_E} (h : zFr f g lo hi) (ha : lo ≤ a ∧ a < hi) : zFr f (va_up g a x) lo hi := fun b hb => (va_up_ne _ _ (fun e => hb (by rw [e]; exact ha))).trans (h b hb)
theorem zFr.trans {f g k : Nat → va_E} {lo hi : Nat} (h : zFr f g lo hi) (h2 : zFr g k lo hi) : zFr f k lo hi := fun b hb => (h2 b hb).trans (h b hb)
theorem zFr.wide {f g : Nat → va_E} {lo hi lo2 hi2 : Nat} (h : zFr f g lo hi) (h1 : lo2 ≤ lo) (h2 : hi ≤ hi2) : zFr f g lo2 hi2 := fun b hb => h b (by omega)
theorem zPoly.fr {cI : ClassId} {f g : Nat → va_E} {lo hi a : Nat} {c : Nat → Int} (h : zPoly cI f a c) (hf : zFr f g lo hi) (ha : a + 2 ≤ lo ∨ hi ≤ a) : zPoly cI g a c := ⟨(hf _ (by omega)).trans h.1, (hf _ (by omega)).trans h.2⟩
theorem zShelf.fr {cI cP : ClassId} {f g : Nat → va_E} {lo hi a : Nat} {p n : Int} {C : Nat → Nat → Int} {lt : Nat → Int} (h : zShelf cI cP f a p n C lt) (hf : zFr f g lo hi) (ha : a + 15 ≤ lo ∨ hi ≤ a) : zShelf cI cP g a p n C lt :=
  ⟨(hf _ (by omega)).trans h.1, (hf _ (by omega)).trans h.2.1, (hf _ (by omega)).trans h.2.2.1, fun k hk => (h.2.2.2 k hk).fr hf (by omega)⟩
def zfind (a : Nat) (n i : Int) : Option Nat := if 0 ≤ i ∧ i < n ∧ i < 6 then some (a + 3 + 2 * i.toNat) else none
set_option maxRecDepth 100000 in
set_option maxHeartbeats 4000000 in
/-- find -/
theorem c_find (l : Launch) {D : va_G} {cI cJ cZ cP cS cM : ClassId} {L : List Nat} {sz : Nat} {f : Nat → va_E} (a : Nat) (p n : Int) (C : Nat → Nat → Int) (lt : Nat → Int) (i : Int) (hS : zShelf cI cP f a p n C lt) (hn : 0 ≤ n ∧ n ≤ 6) (hi : -2147483648 ≤ i ∧ i ≤ 2147483647) : zMr l yX7_find wsX7_find 0 0 D (zT cI cJ cZ cP cS cM) L sz f [.ref a, .int (zI i)] (fun r g => r = zfind a n i ∧ g = f) := by
  refine zWalk.met (nL := 2) (ret := (some (.object "CurveMeets$Poly"))) (cc := cX7_find) (by decide) rfl (Nat.le_of_ble_eq_true rfl) ?_
  intro pg en st mi ag bl mt cd ls CX hW hl
  have CX : zC pg st mi ag mt cd cX7_find 2 (some (.object "CurveMeets$Poly")) RX7 wsX7_find := CX
  generalize hQ : MQ bl _ ag st 0 0 _ = Q
  have hX0 := CX.1
  have hB0 := CX.2.1
  have hl : lv_has ls 2 [(0, .ref a), (1, .int (zI i))] := hl
  obtain ⟨H, eH⟩ : ∃ H, H = st.heap := ⟨_, rfl⟩
  obtain ⟨locs, eL⟩ : ∃ L : List Loc, L = [] := ⟨_, rfl⟩
  have hW : zW D (zT cI cJ cZ cP cS cM) L (zQ L sz) st f st.heap H locs := by rw [eH, eL]; exact hW
  suffices hgo : W pg l en ({ frames := 0, cells := 0, slots := 0, locals := 0 } : Room) st mi ag bl mt cd H locs 0 0 Q (F0 mi 0 ls []) by rw [eH, eL] at hgo; exact hgo
  clear eH eL
  refine lv_iload_n hX0 hB0 dX7_find_0 rfl (lv_at hl 1 rfl) ?_
  refine z_if_lt (tgt := 18) CX dX7_find_1 (by decide) (by constructor <;> omega) (fun c_1 => ?_) (fun c_1 => ?_)
  ·
    refine lv_null hX0 hB0 dX7_find_18 ?_
    refine lv_goto (tgt := 28) hX0 hB0 dX7_find_19 (by decide) ?_
    rw [← hQ]
    exact z_aret (r := none) CX hW (by first | exact ⟨(if_neg (by omega)).symm, rfl⟩ | exact ⟨(if_pos (by omega)).symm, rfl⟩) dX7_find_28
  ·
    refine lv_iload_n hX0 hB0 dX7_find_4 rfl (lv_at hl 1 rfl) ?_
    refine lv_aload_n hX0 hB0 dX7_find_5 rfl (lv_at hl 0 rfl) ?_
    refine z_get (Cn := RX7) (T := TX7) (N := 4) CX hW (v := .int (zI n)) hS.1 rfl (fun w h => List.mem_cons_of_mem _ (List.mem_append_right _ h)) 1 (by decide) (List.mem_of_getElem? (i := 1) rfl) rfl rfl dX7_find_6 ?_
    refine z_icmp_ge (tgt := 18) CX dX7_find_9 (by decide) (by constructor <;> omega) (by constructor <;> omega) (fun c_9 => ?_) (fun c_9 => ?_)
    ·
      refine lv_null hX0 hB0 dX7_find_18 ?_
      refine lv_goto (tgt := 28) hX0 hB0 dX7_find_19 (by decide) ?_
      rw [← hQ]
      exact z_aret (r := none) CX hW (by first | exact ⟨(if_neg (by omega)).symm, rfl⟩ | exact ⟨(if_pos (by omega)).symm, rfl⟩) dX7_find_28
    ·
      refine lv_iload_n hX0 hB0 dX7_find_12 rfl (lv_at hl 1 rfl) ?_
      refine lv_bipush (v := zI 6) hX0 hB0 dX7_find_13 (by decide) ?_
      refine z_icmp_lt (tgt := 22) CX dX7_find_15 (by decide) (by constructor <;> omega) (by constructor <;> omega) (fun c_15 => ?_) (fun c_15 => ?_)
      ·
        refine lv_aload_n hX0 hB0 dX7_find_22 rfl (lv_at hl 0 rfl) ?_
        refine z_get (Cn := RX7) (T := TX7) (N := 4) CX hW (v := .ref (a + 1)) hS.1 rfl (fun w h => List.mem_cons_of_mem _ (List.mem_append_right _ h)) 2 (by decide) (List.mem_of_getElem? (i := 2) rfl) rfl rfl dX7_find_23 ?_
        refine lv_iload_n hX0 hB0 dX7_find_26 rfl (lv_at hl 1 rfl) ?_
        refine z_aald (o := some (a + 3 + 2 * i.toNat)) CX hW hS.2.1 3 rfl (by refine ⟨?_, ?_, ?_⟩ <;> omega) rfl dX7_find_27 ?_
        rw [← hQ]
        exact z_aret (r := some (a + 3 + 2 * i.toNat)) CX hW (by first | exact ⟨(if_neg (by omega)).symm, rfl⟩ | exact ⟨(if_pos (by omega)).symm, rfl⟩) dX7_find_28
      ·
        refine lv_null hX0 hB0 dX7_find_18 ?_
        refine lv_goto (tgt := 28) hX0 hB0 dX7_find_19 (by decide) ?_
        rw [← hQ]
        exact z_aret (r := none) CX hW (by first | exact ⟨(if_neg (by omega)).symm, rfl⟩ | exact ⟨(if_pos (by omega)).symm, rfl⟩) dX7_find_28
def zletter (n : Int) (lt : Nat → Int) (i j : Int) : Int := if 0 ≤ i ∧ i < n ∧ i < 6 ∧ 0 ≤ j ∧ j < 6 then lt (i * 6 + j).toNat else -1
def zsetL (n : Int) (lt : Nat → Int) (i x : Int) : Nat → Int := if n < 6 ∧ 0 ≤ i ∧ i < 6 then zup lt (n * 6 + i).toNat x else lt
set_option maxRecDepth 100000 in
set_option maxHeartbeats 4000000 in
/-- setLetter -/
theorem c_setLetter (l : Launch) {D : va_G} {cI cJ cZ cP cS cM : ClassId} {L : List Nat} {sz : Nat} {f : Nat → va_E} (a : Nat) (p n : Int) (C : Nat → Nat → Int) (lt : Nat → Int) (i x : Int) (hS : zShelf cI cP f a p n C lt) (hn : 0 ≤ n ∧ n ≤ 6) (hi : -2147483648 ≤ i ∧ i ≤ 2147483647) : zMv l yX7_setLetter wsX7_setLetter 0 0 D (zT cI cJ cZ cP cS cM) L sz f [.ref a, .int (zI i), .int (zI x)] (fun g => g = va_up f (a + 2) (zA cI 36 (zsetL n lt i x))) := by
  refine zWalk.met (nL := 3) (ret := none) (cc := cX7_setLetter) (by decide) rfl (Nat.le_of_ble_eq_true rfl) ?_
  intro pg en st mi ag bl mt cd ls CX hW hl
  have CX : zC pg st mi ag mt cd cX7_setLetter 3 none RX7 wsX7_setLetter := CX
  generalize hQ : MQ bl _ ag st 0 0 _ = Q
  have hX0 := CX.1
  have hB0 := CX.2.1
  have hl : lv_has ls 3 [(0, .ref a), (1, .int (zI i)), (2, .int (zI x))] := hl
  obtain ⟨H, eH⟩ : ∃ H, H = st.heap := ⟨_, rfl⟩
  obtain ⟨locs, eL⟩ : ∃ L : List Loc, L = [] := ⟨_, rfl⟩
  have hW : zW D (zT cI cJ cZ cP cS cM) L (zQ L sz) st f st.heap H locs := by rw [eH, eL]; exact hW
  suffices hgo : W pg l en ({ frames := 0, cells := 0, slots := 0, locals := 0 } : Room) st mi ag bl mt cd H locs 0 0 Q (F0 mi 0 ls []) by rw [eH, eL] at hgo; exact hgo
  clear eH eL
  refine lv_aload_n hX0 hB0 dX7_setLetter_0 rfl (lv_at hl 0 rfl) ?_
  refine z_get (Cn := RX7) (T := TX7) (N := 4) CX hW (v := .int (zI n)) hS.1 rfl (fun w h => List.mem_cons_of_mem _ (List.mem_append_right _ h)) 1 (by decide) (List.mem_of_getElem? (i := 1) rfl) rfl rfl dX7_setLetter_1 ?_
  refine lv_bipush (v := zI 6) hX0 hB0 dX7_setLetter_4 (by decide) ?_
  refine z_icmp_ge (tgt := 34) CX dX7_setLetter_6 (by decide) (by constructor <;> omega) (by constructor <;> omega) (fun c_6 => ?_) (fun c_6 => ?_)
  ·
    rw [← hQ]
    exact z_vret CX hW (by first | (unfold zsetL; rw [if_pos (by omega)]) | (unfold zsetL; rw [if_neg (by omega)]; exact (va_up_id hS.2.2.1).symm)) dX7_setLetter_34
  ·
    refine lv_iload_n hX0 hB0 dX7_setLetter_9 rfl (lv_at hl 1 rfl) ?_
    refine z_if_lt (tgt := 34) CX dX7_setLetter_10 (by decide) (by constructor <;> omega) (fun c_10 => ?_) (fun c_10 => ?_)
    ·
      rw [← hQ]
      exact z_vret CX hW (by first | (unfold zsetL; rw [if_pos (by omega)]) | (unfold zsetL; rw [if_neg (by omega)]; exact (va_up_id hS.2.2.1).symm)) dX7_setLetter_34
    ·
      refine lv_iload_n hX0 hB0 dX7_setLetter_13 rfl (lv_at hl 1 rfl) ?_
      refine lv_bipush (v := zI 6) hX0 hB0 dX7_setLetter_14 (by decide) ?_
      refine z_icmp_ge (tgt := 34) CX dX7_setLetter_16 (by decide) (by constructor <;> omega) (by constructor <;> omega) (fun c_16 => ?_) (fun c_16 => ?_)
      ·
        rw [← hQ]
        exact z_vret CX hW (by first | (unfold zsetL; rw [if_pos (by omega)]) | (unfold zsetL; rw [if_neg (by omega)]; exact (va_up_id hS.2.2.1).symm)) dX7_setLetter_34
      ·
        refine lv_aload_n hX0 hB0 dX7_setLetter_19 rfl (lv_at hl 0 rfl) ?_
        refine z_get (Cn := RX7) (T := TX7) (N := 4) CX hW (v := .ref (a + 2)) hS.1 rfl (fun w h => List.mem_cons_of_mem _ (List.mem_append_right _ h)) 3 (by decide) (List.mem_of_getElem? (i := 2) rfl) rfl rfl dX7_setLetter_20 ?_
        refine lv_aload_n hX0 hB0 dX7_setLetter_23 rfl (lv_at hl 0 rfl) ?_
        refine z_get (Cn := RX7) (T := TX7) (N := 4) CX hW (v := .int (zI n)) hS.1 rfl (fun w h => List.mem_cons_of_mem _ (List.mem_append_right _ h)) 1 (by decide) (List.mem_of_getElem? (i := 1) rfl) rfl rfl dX7_setLetter_24 ?_
        refine lv_bipush (v := zI 6) hX0 hB0 dX7_setLetter_27 (by decide) ?_
        refine z_imul (z := n * 6) CX dX7_setLetter_29 rfl ?_
        refine lv_iload_n hX0 hB0 dX7_setLetter_30 rfl (lv_at hl 1 rfl) ?_
        refine z_iadd (z := (n * 6) + i) CX dX7_setLetter_31 rfl ?_
        refine lv_iload_n hX0 hB0 dX7_setLetter_32 rfl (lv_at hl 2 rfl) ?_
        refine z_iast CX hW hS.2.2.1 0 rfl (by refine ⟨?_, ?_, ?_⟩ <;> omega) (g := va_up f (a + 2) (zA cI 36 (zup lt (((n * 6) + i).toNat) x))) rfl dX7_setLetter_33 (fun H locs hW => ?_)
        rw [← hQ]
        exact z_vret CX hW (by first | (unfold zsetL; rw [if_pos (by omega)]) | (unfold zsetL; rw [if_neg (by omega)]; exact (va_up_id hS.2.2.1).symm)) dX7_setLetter_34
theorem zShelf_step {cI : ClassId} {g : Nat → va_E} {a : Nat} {k : Int} {C2 : Nat → Nat → Int} (h : ∀ j : Nat, (j : Int) < k → g (a + 3 + 2 * j + 1) = zA cI 25 (C2 j)) (hk : 0 ≤ k) : ∀ j : Nat, (j : Int) < k + 1 → va_up g (a + 3 + 2 * k.toNat + 1) (zA cI 25 (C2 k.toNat)) (a + 3 + 2 * j + 1) = zA cI 25 (C2 j) := by
  intro j hj
  by_cases e : j = k.toNat
  · rw [e, va_up_self]
  · rw [va_up_ne _ _ (by omega)]
    exact h j (by omega)
set_option maxRecDepth 100000 in
set_option maxHeartbeats 4000000 in
/-- Shelf.copy -/
theorem c_shelfcopy (l : Launch) {D : va_G} {cI cJ cZ cP cS cM : ClassId} {L : List Nat} {sz : Nat} {f : Nat → va_E} (a : Nat) (p n : Int) (C : Nat → Nat → Int) (lt : Nat → Int) (b : Nat) (p2 n2 : Int) (C2 : Nat → Nat → Int) (lt2 : Nat → Int) (hS : zShelf cI cP f a p n C lt) (hS2 : zShelf cI cP f b p2 n2 C2 lt2) (hd : a + 15 ≤ b ∨ b + 15 ≤ a) : zMv l yX7_copy wsX7_copy 2 53 D (zT cI cJ cZ cP cS cM) L sz f [.ref a, .ref b] (fun g => zFr f g a (a + 15) ∧ zShelf cI cP g a p2 n2 C2 lt2) := by
  refine zWalk.met (nL := 3) (ret := none) (cc := cX7_copy) (by decide) rfl (Nat.le_of_ble_eq_true rfl) ?_
  intro pg en st mi ag bl mt cd ls CX hW hl
  have CX : zC pg st mi ag mt cd cX7_copy 3 none RX7 wsX7_copy := CX
  generalize hQ : MQ bl _ ag st 0 0 _ = Q
  have hX0 := CX.1
  have hB0 := CX.2.1
  have hl : lv_has ls 3 [(0, .ref a), (1, .ref b)] := hl
  obtain ⟨H, eH⟩ : ∃ H, H = st.heap := ⟨_, rfl⟩
  obtain ⟨locs, eL⟩ : ∃ L : List Loc, L = [] := ⟨_, rfl⟩
  have hW : zW D (zT cI cJ cZ cP cS cM) L (zQ L sz) st f st.heap H locs := by rw [eH, eL]; exact hW
  suffices hgo : W pg l en ({ frames := 2, cells := 0, slots := 0, locals := 53 } : Room) st mi ag bl mt cd H locs 0 0 Q (F0 mi 0 ls []) by rw [eH, eL] at hgo; exact hgo
  clear eH eL
  refine lv_aload_n hX0 hB0 dX7_copy_0 rfl (lv_at hl 0 rfl) ?_
  refine lv_aload_n hX0 hB0 dX7_copy_1 rfl (lv_at hl 1 rfl) ?_
  refine z_get (Cn := RX7) (T := TX7) (N := 4) CX hW (v := .int (zI p2)) hS2.1 rfl (fun w h => List.mem_cons_of_mem _ (List.mem_append_left _ (List.mem_append_right _ h))) 0 (by decide) (List.mem_of_getElem? (i := 1) rfl) rfl rfl dX7_copy_2 ?_
  refine z_put (Cn := RX7) (T := TX7) (N := 4) CX hW (v := .int (zI p2)) hS.1 rfl (fun w h => List.mem_cons_of_mem _ (List.mem_append_left _ (List.mem_append_right _ h))) tyX7 tyX7_ok nmX7 0 (by decide) (List.mem_of_getElem? (i := 1) rfl) rfl rfl rfl rfl (Nat.le_of_ble_eq_true rfl) (g := va_up f a (.inr (7, [.int (zI p2), .int (zI n), .ref (a + 1), .ref (a + 2)]))) rfl dX7_copy_5 (fun H locs hW => ?_)
  refine lv_aload_n hX0 hB0 dX7_copy_8 rfl (lv_at hl 0 rfl) ?_
  refine lv_aload_n hX0 hB0 dX7_copy_9 rfl (lv_at hl 1 rfl) ?_
  refine z_get (Cn := RX7) (T := TX7) (N := 4) CX hW (v := .int (zI n2)) ((va_up_ne _ _ (by omega)).trans hS2.1) rfl (fun w h => List.mem_cons_of_mem _ (List.mem_append_left _ (List.mem_append_right _ h))) 1 (by decide) (List.mem_of_getElem? (i := 2) rfl) rfl rfl dX7_copy_10 ?_
  refine z_put (Cn := RX7) (T := TX7) (N := 4) CX hW (v := .int (zI n2)) (va_up_self _ _ _) rfl (fun w h => List.mem_cons_of_mem _ (List.mem_append_left _ (List.mem_append_right _ h))) tyX7 tyX7_ok nmX7 1 (by decide) (List.mem_of_getElem? (i := 2) rfl) rfl rfl rfl rfl (Nat.le_of_ble_eq_true rfl) (g := va_up f a (.inr (7, [.int (zI p2), .int (zI n2), .ref (a + 1), .ref (a + 2)]))) va_up_up dX7_copy_13 (fun H locs hW => ?_)
  refine lv_iconst (v := zI 0) hX0 hB0 dX7_copy_16 rfl ?_
  refine lv_istore_n (lv' := [(2, .int (zI 0)), (0, .ref a), (1, .ref b)]) hX0 hB0 dX7_copy_17 rfl hl (by decide) rfl (fun ls hl => ?_)
  have hL18 : ∀ (fu : Nat) (k : Int) (g : Nat → va_E), (0 ≤ k ∧ k ≤ 6 ∧ zFr f g a (a + 15) ∧ g a = .inr (7, [.int (zI p2), .int (zI n2), .ref (a + 1), .ref (a + 2)]) ∧ g (a + 1) = zAR cP 6 (fun k => some (a + 3 + 2 * k)) ∧ g (a + 2) = zA cI 36 lt ∧ (∀ j : Nat, j < 6 → g (a + 3 + 2 * j) = .inr (2, [.ref (a + 3 + 2 * j + 1)])) ∧ (∀ j : Nat, (j : Int) < k → g (a + 3 + 2 * j + 1) = zA cI 25 (C2 j)) ∧ (∀ j : Nat, k ≤ (j : Int) → j < 6 → g (a + 3 + 2 * j + 1) = zA cI 25 (C j))) → (6 - k).toNat < fu → ∀ (H : Heap) (locs : List Loc) (ls : Array Slot), zW D (zT cI cJ cZ cP cS cM) L (zQ L sz) st g st.heap H locs → lv_has ls 3 [(2, .int (zI k)), (0, .ref a), (1, .ref b)] → W pg l en ({ frames := 2, cells := 0, slots := 0, locals := 53 } : Room) st mi ag bl mt cd H locs 0 0 Q (F0 mi 18 ls []) := by
    intro fu
    induction fu with
    | zero => intro k g _ hfu; exact absurd hfu (Nat.not_lt_zero _)
    | succ fu ih18 =>
      intro k g hinv18 hfu18 H locs ls hW hl
      obtain ⟨hk0, hk1, hfr, hg0, hg1, hg2, hgo, hgd, hgr⟩ := hinv18
      refine lv_iload_n hX0 hB0 dX7_copy_18 rfl (lv_at hl 0 rfl) ?_
      refine lv_bipush (v := zI 6) hX0 hB0 dX7_copy_19 (by decide) ?_
      refine z_icmp_ge (tgt := 45) CX dX7_copy_21 (by decide) (by constructor <;> omega) (by constructor <;> omega) (fun c_21 => ?_) (fun c_21 => ?_)
      ·
        refine lv_aload_n hX0 hB0 dX7_copy_45 rfl (lv_at hl 2 rfl) ?_
        refine z_get (Cn := RX7) (T := TX7) (N := 4) CX hW (v := .ref (b + 2)) ((hfr _ (by omega)).trans hS2.1) rfl (fun w h => List.mem_cons_of_mem _ (List.mem_append_left _ (List.mem_append_right _ h))) 3 (by decide) (List.mem_of_getElem? (i := 4) rfl) rfl rfl dX7_copy_46 ?_
        refine lv_iconst (v := zI 0) hX0 hB0 dX7_copy_49 rfl ?_
        refine lv_aload_n hX0 hB0 dX7_copy_50 rfl (lv_at hl 1 rfl) ?_
        refine z_get (Cn := RX7) (T := TX7) (N := 4) CX hW (v := .ref (a + 2)) hg0 rfl (fun w h => List.mem_cons_of_mem _ (List.mem_append_left _ (List.mem_append_right _ h))) 3 (by decide) (List.mem_of_getElem? (i := 4) rfl) rfl rfl dX7_copy_51 ?_
        refine lv_iconst (v := zI 0) hX0 hB0 dX7_copy_54 rfl ?_
        refine lv_aload_n hX0 hB0 dX7_copy_55 rfl (lv_at hl 1 rfl) ?_
        refine z_get (Cn := RX7) (T := TX7) (N := 4) CX hW (v := .ref (a + 2)) hg0 rfl (fun w h => List.mem_cons_of_mem _ (List.mem_append_left _ (List.mem_append_right _ h))) 3 (by decide) (List.mem_of_getElem? (i := 4) rfl) rfl rfl dX7_copy_56 ?_
        refine z_alen (n := 36) CX hW hg2 0 rfl rfl dX7_copy_59 ?_
        refine z_copyi CX hW hl.1 (CX.at (List.mem_of_getElem? (i := 5) rfl)) (CX.at (List.mem_of_getElem? (i := 6) rfl)) (CX.at (List.mem_of_getElem? (i := 7) rfl)) (CX.at (List.mem_of_getElem? (i := 8) rfl)) ((hfr _ (by omega)).trans hS2.2.2.1) hg2 0 rfl (by refine ⟨?_, ?_, ?_, ?_, ?_, ?_⟩ <;> omega) (g := va_up g (a + 2) (zA cI 36 (zcpy lt2 lt ((0 : Int).toNat) ((0 : Int).toNat) ((36 : Int).toNat)))) rfl (Nat.le_of_ble_eq_true rfl) (Nat.le_of_ble_eq_true rfl) dX7_copy_60 (fun H locs hW => ?_)
        have hW := hW.same (d := lt2) (fun j hj => by unfold zcpy va_cpy; rw [if_pos ⟨by omega, by omega⟩]; congr 1; omega)
        rw [← hQ]
        exact z_vret CX hW (by exact ⟨hfr.up (by omega), (va_up_ne _ _ (by omega)).trans hg0, (va_up_ne _ _ (by omega)).trans hg1, va_up_self _ _ _, fun j hj => ⟨(va_up_ne _ _ (by omega)).trans (hgo j hj), (va_up_ne _ _ (by omega)).trans (hgd j (by omega))⟩⟩) dX7_copy_63
      ·
        refine lv_aload_n hX0 hB0 dX7_copy_24 rfl (lv_at hl 1 rfl) ?_
        refine z_get (Cn := RX7) (T := TX7) (N := 4) CX hW (v := .ref (a + 1)) hg0 rfl (fun w h => List.mem_cons_of_mem _ (List.mem_append_left _ (List.mem_append_right _ h))) 2 (by decide) (List.mem_of_getElem? (i := 3) rfl) rfl rfl dX7_copy_25 ?_
        refine lv_iload_n hX0 hB0 dX7_copy_28 rfl (lv_at hl 0 rfl) ?_
        refine z_aald (o := some (a + 3 + 2 * k.toNat)) CX hW hg1 3 rfl (by refine ⟨?_, ?_, ?_⟩ <;> omega) rfl dX7_copy_29 ?_
        refine lv_aload_n hX0 hB0 dX7_copy_30 rfl (lv_at hl 2 rfl) ?_
        refine z_get (Cn := RX7) (T := TX7) (N := 4) CX hW (v := .ref (b + 1)) ((hfr _ (by omega)).trans hS2.1) rfl (fun w h => List.mem_cons_of_mem _ (List.mem_append_left _ (List.mem_append_right _ h))) 2 (by decide) (List.mem_of_getElem? (i := 3) rfl) rfl rfl dX7_copy_31 ?_
        refine lv_iload_n hX0 hB0 dX7_copy_34 rfl (lv_at hl 0 rfl) ?_
        refine z_aald (o := some (b + 3 + 2 * k.toNat)) CX hW ((hfr _ (by omega)).trans hS2.2.1) 3 rfl (by refine ⟨?_, ?_, ?_⟩ <;> omega) rfl dX7_copy_35 ?_
        refine z_callv hW (va_runV (C := RX2) (As := [.ref (b + 3 + 2 * k.toNat)]) (rest := []) CX.fix (c_copy l (f := g) (a + 3 + 2 * k.toNat) (a + 3 + 2 * k.toNat + 1) (C k.toNat) (b + 3 + 2 * k.toNat) (b + 3 + 2 * k.toNat + 1) (C2 k.toNat) (hgo k.toNat (by omega)) (hgr k.toNat (by omega) (by omega)) ((hfr _ (by omega)).trans (hS2.2.2.2 k.toNat (by omega)).1) ((hfr _ (by omega)).trans (hS2.2.2.2 k.toNat (by omega)).2)) (cwV 1 CX.fix.2.2.2.2 gX7_copy_X2_copy rfl rfl rfl (by decide +kernel) ⟨Nat.le_of_ble_eq_true rfl, Nat.le_of_ble_eq_true rfl⟩) (z_preV CX hW (r := (RX2, TX2, 1)) (hgo k.toNat (by omega)) rfl) rfl rfl hl.1 rfl (lv_room (Nat.le_of_ble_eq_true rfl)) dX7_copy_36 ⟨Nat.zero_le _, Nat.zero_le _⟩) (fun gn H locs hok36 hW => ?_)
        have eg : gn = va_up g (a + 3 + 2 * k.toNat + 1) (zA cI 25 (C2 k.toNat)) := hok36
        rw [eg] at hW
        clear eg
        refine lv_iinc (v := zI (k + 1)) (lv' := [(2, .int (zI (k + 1))), (0, .ref a), (1, .ref b)]) hX0 hB0 dX7_copy_39 hl (k := 0) rfl (zI_add _ _) (by decide) rfl (fun ls hl => ?_)
        refine lv_goto (tgt := 18) hX0 hB0 dX7_copy_42 (by decide) ?_
        exact ih18 (k + 1) (va_up g (a + 3 + 2 * k.toNat + 1) (zA cI 25 (C2 k.toNat))) ⟨by omega, by omega, hfr.up (by omega), ((va_up_ne _ _ (by omega)).trans hg0), ((va_up_ne _ _ (by omega)).trans hg1), ((va_up_ne _ _ (by omega)).trans hg2), fun j hj => (va_up_ne _ _ (by omega)).trans (hgo j hj), zShelf_step hgd (by omega), fun j hj h6 => (va_up_ne _ _ (by omega)).trans (hgr j (by omega) h6)⟩ (by omega) H locs ls hW (lv_sub hl [0, 1, 2] rfl)
  exact hL18 _ 0 (va_up f a (.inr (7, [.int (zI p2), .int (zI n2), .ref (a + 1), .ref (a + 2)]))) ⟨by omega, by omega, zFr.refl.up (by omega), (va_up_self _ _ _), ((va_up_ne _ _ (by omega)).trans hS.2.1), ((va_up_ne _ _ (by omega)).trans hS.2.2.1), fun j hj => (va_up_ne _ _ (by omega)).trans (hS.2.2.2 j hj).1, fun j hj => by omega, fun j _ h6 => (va_up_ne _ _ (by omega)).trans (hS.2.2.2 j h6).2⟩ (Nat.lt_succ_self _) H locs ls hW (lv_sub hl [0, 1, 2] rfl)
end ZSh
