section ZTx1
section ZTm
variable {p : Program} {l : Launch} {e : Env} {R : Room} {s : State} {m : MethodId} {args : Array Value} {below : List Frame} {meth : Method} {c : Code} {H : Heap} {locs : List Loc} {cells slots : Nat} {Q : State → Prop}
variable {cc : ByteArray} {nL pc : Nat} {ret : Option FieldType} {own : String} {Ts : List Cond} {ls : Array Slot} {rest : List Value}
theorem z_mminL (C : zC p s m args meth c cc nL ret own Ts) (hls : ls.size = nL) {index : Nat} (h1 : (Cond.methodLink own index Lib.MathLoose.min_long.x).before args s = true) (h2 : (Cond.static Lib.MathLoose.min_long.x).before args s = true) (h3 : (Cond.initialized "java/lang/Math").before args s = true) (h4 : (Cond.code Lib.MathLoose.min_long.x Lib.MathLoose.min_long.code 4 (some .long)).before args s = true)
    (hframes : 1 ≤ R.frames) (hlocals : (rest.map fun v => v.category).sum + 15 ≤ R.locals) (hc : cells ≤ R.cells) (hs : slots ≤ R.slots) {x y z : Int} (hx : -9223372036854775808 ≤ x ∧ x ≤ 9223372036854775807) (hy : -9223372036854775808 ≤ y ∧ y ≤ 9223372036854775807) (hz : min x y = z) (hdg : decode cc pc = .ok (.invokestatic index, 3))
    (kk : W p l e R s m args below meth c H locs cells slots Q (F0 m (pc + 3) ls (.long (zL z) :: rest))) : W p l e R s m args below meth c H locs cells slots Q (F0 m pc ls (.long (zL y) :: .long (zL x) :: rest)) := by
  refine va_mmin_long C.1 C.2.1 (C.2.2.1.trans hls.symm) C.2.2.2.1 h1 h2 h3 h4 hframes hlocals hc hs hdg ?_
  have e : (if zL y < zL x then zL y else zL x) = zL z := by
    subst hz
    by_cases h : y < x
    · rw [if_pos ((zL_lt hy.1 hy.2 hx.1 hx.2).mpr h)]
      congr 1
      omega
    · rw [if_neg (fun q => h ((zL_lt hy.1 hy.2 hx.1 hx.2).mp q))]
      congr 1
      omega
  rw [e]
  exact kk
end ZTm
/-- the byte at a place; -1 -/
def zby (n : Int) (T : Nat → Int) (a : Int) : Int := if 0 ≤ a ∧ a < n ∧ a < 1000 then T a.toNat else -1
def ztape (n : Int) (T : Nat → Int) : Prop := 0 ≤ n ∧ n ≤ 1000 ∧ ∀ k, 0 ≤ T k ∧ T k ≤ 255
theorem zby_rng {n : Int} {T : Nat → Int} (h : ztape n T) (a : Int) : -1 ≤ zby n T a ∧ zby n T a ≤ 255 := by
  unfold zby
  have := h.2.2 a.toNat
  split <;> omega
theorem zby_in {n : Int} {T : Nat → Int} {a : Int} (h : 0 ≤ zby n T a) : 0 ≤ a ∧ a < n := by
  unfold zby at h
  split at h
  · omega
  · omega
def zdig (c : Int) : Int := if 48 ≤ c ∧ c ≤ 57 then 1 else 0
theorem zdig_01 (c : Int) : zdig c = 0 ∨ zdig c = 1 := by unfold zdig; split <;> omega
theorem zdig_1 {c : Int} (h : ¬ zdig c = 0) : 48 ≤ c ∧ c ≤ 57 := by unfold zdig at h; split at h <;> omega
theorem zdig_0 {c : Int} (h : zdig c = 0) : ¬ (48 ≤ c ∧ c ≤ 57) := by unfold zdig at h; split at h <;> omega
/-- where a word that begins at a ends -/
def zweF (n : Int) (T : Nat → Int) : Nat → Int → Int
  | 0, a => a
  | k + 1, a => if 97 ≤ zby n T a ∧ zby n T a ≤ 122 then zweF n T k (a + 1) else a
def zwe (n : Int) (T : Nat → Int) (a : Int) : Int := zweF n T (n - a).toNat a
theorem zweF_s {n : Int} (T : Nat → Int) {a : Int} (h : a < n) : zweF n T (n - a).toNat a = if 97 ≤ zby n T a ∧ zby n T a ≤ 122 then zweF n T (n - (a + 1)).toNat (a + 1) else a := by
  rw [show (n - a).toNat = (n - (a + 1)).toNat + 1 by omega]
  rfl
theorem zweF_rng {n : Int} {T : Nat → Int} : ∀ (k : Nat) (a : Int), a ≤ zweF n T k a ∧ zweF n T k a ≤ a + k
  | 0, a => by simp only [zweF]; omega
  | k + 1, a => by
    have := zweF_rng (n := n) (T := T) k (a + 1)
    simp only [zweF]
    split <;> omega
theorem zwe_rng {n : Int} {T : Nat → Int} {a : Int} (h : 0 ≤ a ∧ a ≤ n) : a ≤ zwe n T a ∧ zwe n T a ≤ n := by
  have := zweF_rng (n := n) (T := T) (n - a).toNat a
  unfold zwe
  omega
/-- past what is blank -/
def zskF (n : Int) (T : Nat → Int) : Nat → Int → Int
  | 0, a => a
  | k + 1, a => if zby n T a = 10 ∨ zby n T a = 32 then zskF n T k (a + 1) else a
def zsk (n : Int) (T : Nat → Int) (a : Int) : Int := zskF n T (n - a).toNat a
theorem zskF_s {n : Int} (T : Nat → Int) {a : Int} (h : a < n) : zskF n T (n - a).toNat a = if zby n T a = 10 ∨ zby n T a = 32 then zskF n T (n - (a + 1)).toNat (a + 1) else a := by
  rw [show (n - a).toNat = (n - (a + 1)).toNat + 1 by omega]
  rfl
theorem zskF_rng {n : Int} {T : Nat → Int} : ∀ (k : Nat) (a : Int), a ≤ zskF n T k a ∧ zskF n T k a ≤ a + k
  | 0, a => by simp only [zskF]; omega
  | k + 1, a => by
    have := zskF_rng (n := n) (T := T) k (a + 1)
    simp only [zskF]
    split <;> omega
theorem zsk_rng {n : Int} {T : Nat → Int} {a : Int} (h : 0 ≤ a ∧ a ≤ n) : a ≤ zsk n T a ∧ zsk n T a ≤ n := by
  have := zskF_rng (n := n) (T := T) (n - a).toNat a
  unfold zsk
  omega
def zskS (n : Int) (T : Nat → Int) (S : Nat → Nat → Int) : Nat → Nat → Int := zsr S (zsk n T (S 0 0)) (S 0 1) (S 0 2)
def ztk (n : Int) (T : Nat → Int) (sg : Int) (S : Nat → Nat → Int) : Int × (Nat → Nat → Int) := if zby n T (zsk n T (S 0 0)) = sg then (1, zsr S (zsk n T (S 0 0) + 1) (S 0 1) (S 0 2)) else (0, zskS n T S)
def zfl (k a : Int) (S : Nat → Nat → Int) : Nat → Nat → Int := zsr S (S 0 0) k a
def zxp (n : Int) (T : Nat → Int) (sg : Int) (S : Nat → Nat → Int) : Int × (Nat → Nat → Int) := if (ztk n T sg S).1 = 0 then (0, zfl 1 ((ztk n T sg S).2 0 0) (ztk n T sg S).2) else (1, (ztk n T sg S).2)
/-- whether the word i stands at a -/
def zwdF (n : Int) (T : Nat → Int) (i : Nat) (a : Int) : Nat → Int → Int
  | 0, _ => 1
  | m + 1, k => if zby n T (a + k) = zchr i k.toNat then zwdF n T i a m (k + 1) else 0
def zwd (n : Int) (T : Nat → Int) (i : Nat) (a : Int) : Int := if zwe n T a - a = zlen i then zwdF n T i a (zlen i - 0).toNat 0 else 0
theorem zwdF_s (n : Int) (T : Nat → Int) (i : Nat) (a : Int) {k : Int} (h : k < zlen i) : zwdF n T i a (zlen i - k).toNat k = if zby n T (a + k) = zchr i k.toNat then zwdF n T i a (zlen i - (k + 1)).toNat (k + 1) else 0 := by
  rw [show (zlen i - k).toNat = (zlen i - (k + 1)).toNat + 1 by omega]
  rfl
theorem zwdF_01 (n : Int) (T : Nat → Int) (i : Nat) (a : Int) : ∀ (m : Nat) (k : Int), zwdF n T i a m k = 0 ∨ zwdF n T i a m k = 1
  | 0, _ => Or.inr rfl
  | m + 1, k => by
    simp only [zwdF]
    split
    · exact zwdF_01 n T i a m (k + 1)
    · exact Or.inl rfl
theorem zwd_01 (n : Int) (T : Nat → Int) (i : Nat) (a : Int) : zwd n T i a = 0 ∨ zwd n T i a = 1 := by
  unfold zwd
  split
  · exact zwdF_01 n T i a _ _
  · exact Or.inl rfl
theorem zwd_len {n : Int} {T : Nat → Int} {i : Nat} {a : Int} (h : ¬ zwd n T i a = 0) : zwe n T a = a + zlen i := by
  unfold zwd at h
  split at h
  · omega
  · exact absurd rfl h
/-- a number: where it ends, what it is -/
def zrnF (n : Int) (T : Nat → Int) : Nat → Int → Int → Int × Int
  | 0, a, v => (a, v)
  | m + 1, a, v => if zdig (zby n T a) = 0 then (a, v) else zrnF n T m (a + 1) (min (v * 10 + zby n T a - 48) 2147483648)
def zrnA (n : Int) (T : Nat → Int) (a : Int) : Int × Int := zrnF n T (n - a).toNat a 0
def zrnV (q : Int × Int) : Int := if 2147483647 < q.2 then -1 else q.2
def zrn (n : Int) (T : Nat → Int) (S : Nat → Nat → Int) : Int × (Nat → Nat → Int) := (zrnV (zrnA n T (S 0 0)), zsr S (zrnA n T (S 0 0)).1 (S 0 1) (S 0 2))
theorem zrnF_s {n : Int} (T : Nat → Int) {a : Int} (v : Int) (h : a < n) : zrnF n T (n - a).toNat a v = if zdig (zby n T a) = 0 then (a, v) else zrnF n T (n - (a + 1)).toNat (a + 1) (min (v * 10 + zby n T a - 48) 2147483648) := by
  rw [show (n - a).toNat = (n - (a + 1)).toNat + 1 by omega]
  rfl
theorem zrnF_rng {n : Int} {T : Nat → Int} : ∀ (k : Nat) (a v : Int), 0 ≤ v → v ≤ 2147483648 → a ≤ (zrnF n T k a v).1 ∧ (zrnF n T k a v).1 ≤ a + k ∧ 0 ≤ (zrnF n T k a v).2 ∧ (zrnF n T k a v).2 ≤ 2147483648
  | 0, a, v, h1, h2 => by simp only [zrnF]; omega
  | k + 1, a, v, h1, h2 => by
    simp only [zrnF]
    split
    · exact ⟨Int.le_refl _, by show a ≤ _; omega, h1, h2⟩
    · rename_i hd
      have hd2 := zdig_1 hd
      have := zrnF_rng (n := n) (T := T) k (a + 1) (min (v * 10 + zby n T a - 48) 2147483648) (by omega) (by omega)
      omega
theorem zrnA_rng {n : Int} {T : Nat → Int} {a : Int} (h : 0 ≤ a ∧ a ≤ n) : a ≤ (zrnA n T a).1 ∧ (zrnA n T a).1 ≤ n ∧ 0 ≤ (zrnA n T a).2 ∧ (zrnA n T a).2 ≤ 2147483648 := by
  have := zrnF_rng (n := n) (T := T) (n - a).toNat a 0 (by omega) (by omega)
  unfold zrnA
  omega
theorem zrnV_rng {q : Int × Int} (h : 0 ≤ q.2) : -1 ≤ zrnV q ∧ zrnV q ≤ 2147483647 := by
  unfold zrnV
  split <;> omega
set_option maxRecDepth 100000 in
set_option maxHeartbeats 4000000 in
/-- Reader.byteAt -/
theorem c_byteAt (l : Launch) {D : va_G} {cI cJ cZ cP cS cM : ClassId} {L : List Nat} {sz : Nat} {f : Nat → va_E} (r : Nat) (n : Int) (T : Nat → Int) (S : Nat → Nat → Int) (a : Int) (hT : ztape n T) (ha : -2147483648 ≤ a ∧ a ≤ 2147483647) : zMi l yX3_byteAt wsX3_byteAt 0 0 D (zT cI cJ cZ cP cS cM) L sz (zRO cI cP cZ r n T S f) [.ref r, .int (zI a)] (fun z g => z = zby n T a ∧ g = zRO cI cP cZ r n T S f) := by
  refine zWalk.met (nL := 2) (ret := (some .int)) (cc := cX3_byteAt) (by decide) rfl (Nat.le_of_ble_eq_true rfl) ?_
  intro pg en st mi ag bl mt cd ls CX hW hl
  have CX : zC pg st mi ag mt cd cX3_byteAt 2 (some .int) RX3 wsX3_byteAt := CX
  generalize hQ : MQ bl _ ag st 0 0 _ = Q
  have hX0 := CX.1
  have hB0 := CX.2.1
  have hl : lv_has ls 2 [(0, .ref r), (1, .int (zI a))] := hl
  obtain ⟨H, eH⟩ : ∃ H, H = st.heap := ⟨_, rfl⟩
  obtain ⟨locs, eL⟩ : ∃ L : List Loc, L = [] := ⟨_, rfl⟩
  have hW : zW D (zT cI cJ cZ cP cS cM) L (zQ L sz) st (zRO cI cP cZ r n T S f) st.heap H locs := by rw [eH, eL]; exact hW
  suffices hgo : W pg l en ({ frames := 0, cells := 0, slots := 0, locals := 0 } : Room) st mi ag bl mt cd H locs 0 0 Q (F0 mi 0 ls []) by rw [eH, eL] at hgo; exact hgo
  clear eH eL
  have hn0 := hT.1
  have hn1 := hT.2.1
  refine lv_iload_n hX0 hB0 dX3_byteAt_0 rfl (lv_at hl 1 rfl) ?_
  refine z_if_lt (tgt := 28) CX dX3_byteAt_1 (by decide) (by constructor <;> omega) (fun c_1 => ?_) (fun c_1 => ?_)
  ·
    refine lv_iconst (v := zI (-1)) hX0 hB0 dX3_byteAt_28 rfl ?_
    rw [← hQ]
    exact z_iret (z := -1) CX hW (by first | exact ⟨by unfold zby; rw [if_neg (by omega)], rfl⟩ | exact ⟨by unfold zby; rw [if_pos (by omega)], rfl⟩) rfl dX3_byteAt_29
  ·
    refine lv_iload_n hX0 hB0 dX3_byteAt_4 rfl (lv_at hl 1 rfl) ?_
    refine lv_aload_n hX0 hB0 dX3_byteAt_5 rfl (lv_at hl 0 rfl) ?_
    refine z_get (Cn := RX3) (T := TX3) (N := 13) CX hW (v := .int (zI n)) zRO_0 rfl (fun w h => List.mem_cons_of_mem _ (List.mem_append_right _ h)) 0 (by decide) (List.mem_of_getElem? (i := 1) rfl) rfl rfl dX3_byteAt_6 ?_
    refine z_icmp_ge (tgt := 28) CX dX3_byteAt_9 (by decide) (by constructor <;> omega) (by constructor <;> omega) (fun c_9 => ?_) (fun c_9 => ?_)
    ·
      refine lv_iconst (v := zI (-1)) hX0 hB0 dX3_byteAt_28 rfl ?_
      rw [← hQ]
      exact z_iret (z := -1) CX hW (by first | exact ⟨by unfold zby; rw [if_neg (by omega)], rfl⟩ | exact ⟨by unfold zby; rw [if_pos (by omega)], rfl⟩) rfl dX3_byteAt_29
    ·
      refine lv_iload_n hX0 hB0 dX3_byteAt_12 rfl (lv_at hl 1 rfl) ?_
      refine lv_sipush (v := zI 1000) hX0 hB0 dX3_byteAt_13 (by decide) ?_
      refine z_icmp_ge (tgt := 28) CX dX3_byteAt_16 (by decide) (by constructor <;> omega) (by constructor <;> omega) (fun c_16 => ?_) (fun c_16 => ?_)
      ·
        refine lv_iconst (v := zI (-1)) hX0 hB0 dX3_byteAt_28 rfl ?_
        rw [← hQ]
        exact z_iret (z := -1) CX hW (by first | exact ⟨by unfold zby; rw [if_neg (by omega)], rfl⟩ | exact ⟨by unfold zby; rw [if_pos (by omega)], rfl⟩) rfl dX3_byteAt_29
      ·
        refine lv_aload_n hX0 hB0 dX3_byteAt_19 rfl (lv_at hl 0 rfl) ?_
        refine z_get (Cn := RX3) (T := TX3) (N := 13) CX hW (v := .ref (r + 16)) zRO_0 rfl (fun w h => List.mem_cons_of_mem _ (List.mem_append_right _ h)) 4 (by decide) (List.mem_of_getElem? (i := 2) rfl) rfl rfl dX3_byteAt_20 ?_
        refine lv_iload_n hX0 hB0 dX3_byteAt_23 rfl (lv_at hl 1 rfl) ?_
        refine z_iald (z := T a.toNat) CX hW zRO_16 0 rfl (by refine ⟨?_, ?_, ?_⟩ <;> omega) rfl dX3_byteAt_24 ?_
        refine lv_goto (tgt := 29) hX0 hB0 dX3_byteAt_25 (by decide) ?_
        rw [← hQ]
        exact z_iret (z := T a.toNat) CX hW (by first | exact ⟨by unfold zby; rw [if_neg (by omega)], rfl⟩ | exact ⟨by unfold zby; rw [if_pos (by omega)], rfl⟩) rfl dX3_byteAt_29
set_option maxRecDepth 100000 in
set_option maxHeartbeats 4000000 in
/-- Reader.isDigit -/
theorem c_isDigit (l : Launch) {D : va_G} {cI cJ cZ cP cS cM : ClassId} {L : List Nat} {sz : Nat} {f : Nat → va_E} (c : Int) (hc : -2147483648 ≤ c ∧ c ≤ 2147483647) : zMi l yX3_isDigit wsX3_isDigit 0 0 D (zT cI cJ cZ cP cS cM) L sz f [.int (zI c)] (fun z g => z = zdig c ∧ g = f) := by
  refine zWalk.met (nL := 1) (ret := (some .boolean)) (cc := cX3_isDigit) (by decide) rfl (Nat.le_of_ble_eq_true rfl) ?_
  intro pg en st mi ag bl mt cd ls CX hW hl
  have CX : zC pg st mi ag mt cd cX3_isDigit 1 (some .boolean) RX3 wsX3_isDigit := CX
  generalize hQ : MQ bl _ ag st 0 0 _ = Q
  have hX0 := CX.1
  have hB0 := CX.2.1
  have hl : lv_has ls 1 [(0, .int (zI c))] := hl
  obtain ⟨H, eH⟩ : ∃ H, H = st.heap := ⟨_, rfl⟩
  obtain ⟨locs, eL⟩ : ∃ L : List Loc, L = [] := ⟨_, rfl⟩
  have hW : zW D (zT cI cJ cZ cP cS cM) L (zQ L sz) st f st.heap H locs := by rw [eH, eL]; exact hW
  suffices hgo : W pg l en ({ frames := 0, cells := 0, slots := 0, locals := 0 } : Room) st mi ag bl mt cd H locs 0 0 Q (F0 mi 0 ls []) by rw [eH, eL] at hgo; exact hgo
  clear eH eL
  refine lv_iload_n hX0 hB0 dX3_isDigit_0 rfl (lv_at hl 0 rfl) ?_
  refine lv_bipush (v := zI 48) hX0 hB0 dX3_isDigit_1 (by decide) ?_
  refine z_icmp_lt (tgt := 16) CX dX3_isDigit_3 (by decide) (by constructor <;> omega) (by constructor <;> omega) (fun c_3 => ?_) (fun c_3 => ?_)
  ·
    refine lv_iconst (v := zI 0) hX0 hB0 dX3_isDigit_16 rfl ?_
    rw [← hQ]
    exact z_iret (z := 0) CX hW (by first | exact ⟨by unfold zdig; rw [if_neg (by omega)], rfl⟩ | exact ⟨by unfold zdig; rw [if_pos (by omega)], rfl⟩) rfl dX3_isDigit_17
  ·
    refine lv_iload_n hX0 hB0 dX3_isDigit_6 rfl (lv_at hl 0 rfl) ?_
    refine lv_bipush (v := zI 57) hX0 hB0 dX3_isDigit_7 (by decide) ?_
    refine z_icmp_gt (tgt := 16) CX dX3_isDigit_9 (by decide) (by constructor <;> omega) (by constructor <;> omega) (fun c_9 => ?_) (fun c_9 => ?_)
    ·
      refine lv_iconst (v := zI 0) hX0 hB0 dX3_isDigit_16 rfl ?_
      rw [← hQ]
      exact z_iret (z := 0) CX hW (by first | exact ⟨by unfold zdig; rw [if_neg (by omega)], rfl⟩ | exact ⟨by unfold zdig; rw [if_pos (by omega)], rfl⟩) rfl dX3_isDigit_17
    ·
      refine lv_iconst (v := zI 1) hX0 hB0 dX3_isDigit_12 rfl ?_
      refine lv_goto (tgt := 17) hX0 hB0 dX3_isDigit_13 (by decide) ?_
      rw [← hQ]
      exact z_iret (z := 1) CX hW (by first | exact ⟨by unfold zdig; rw [if_neg (by omega)], rfl⟩ | exact ⟨by unfold zdig; rw [if_pos (by omega)], rfl⟩) rfl dX3_isDigit_17
set_option maxRecDepth 100000 in
set_option maxHeartbeats 4000000 in
/-- Reader.wordEnd -/
theorem c_wordEnd (l : Launch) {D : va_G} {cI cJ cZ cP cS cM : ClassId} {L : List Nat} {sz : Nat} {f : Nat → va_E} (r : Nat) (n : Int) (T : Nat → Int) (S : Nat → Nat → Int) (a : Int) (hT : ztape n T) (ha : 0 ≤ a ∧ a ≤ n) : zMi l yX3_wordEnd wsX3_wordEnd 1 21 D (zT cI cJ cZ cP cS cM) L sz (zRO cI cP cZ r n T S f) [.ref r, .int (zI a)] (fun z g => z = zwe n T a ∧ g = zRO cI cP cZ r n T S f) := by
  refine zWalk.met (nL := 3) (ret := (some .int)) (cc := cX3_wordEnd) (by decide) rfl (Nat.le_of_ble_eq_true rfl) ?_
  intro pg en st mi ag bl mt cd ls CX hW hl
  have CX : zC pg st mi ag mt cd cX3_wordEnd 3 (some .int) RX3 wsX3_wordEnd := CX
  generalize hQ : MQ bl _ ag st 0 0 _ = Q
  have hX0 := CX.1
  have hB0 := CX.2.1
  have hl : lv_has ls 3 [(0, .ref r), (1, .int (zI a))] := hl
  obtain ⟨H, eH⟩ : ∃ H, H = st.heap := ⟨_, rfl⟩
  obtain ⟨locs, eL⟩ : ∃ L : List Loc, L = [] := ⟨_, rfl⟩
  have hW : zW D (zT cI cJ cZ cP cS cM) L (zQ L sz) st (zRO cI cP cZ r n T S f) st.heap H locs := by rw [eH, eL]; exact hW
  suffices hgo : W pg l en ({ frames := 1, cells := 0, slots := 0, locals := 21 } : Room) st mi ag bl mt cd H locs 0 0 Q (F0 mi 0 ls []) by rw [eH, eL] at hgo; exact hgo
  clear eH eL
  have hn0 := hT.1
  have hn1 := hT.2.1
  refine lv_iload_n hX0 hB0 dX3_wordEnd_0 rfl (lv_at hl 1 rfl) ?_
  refine lv_istore_n (lv' := [(2, .int (zI a)), (0, .ref r), (1, .int (zI a))]) hX0 hB0 dX3_wordEnd_1 rfl hl (by decide) rfl (fun ls hl => ?_)
  have hL2 : ∀ (fu : Nat) (b : Int), (a ≤ b ∧ b ≤ n ∧ zwe n T a = zweF n T (n - b).toNat b) → (n - b).toNat < fu → ∀ (H : Heap) (locs : List Loc) (ls : Array Slot), zW D (zT cI cJ cZ cP cS cM) L (zQ L sz) st (zRO cI cP cZ r n T S f) st.heap H locs → lv_has ls 3 [(2, .int (zI b)), (0, .ref r), (1, .int (zI a))] → W pg l en ({ frames := 1, cells := 0, slots := 0, locals := 21 } : Room) st mi ag bl mt cd H locs 0 0 Q (F0 mi 2 ls []) := by
    intro fu
    induction fu with
    | zero => intro b _ hfu; exact absurd hfu (Nat.not_lt_zero _)
    | succ fu ih2 =>
      intro b hinv2 hfu2 H locs ls hW hl
      obtain ⟨hb0, hb1, hbz⟩ := hinv2
      refine lv_iload_n hX0 hB0 dX3_wordEnd_2 rfl (lv_at hl 0 rfl) ?_
      refine lv_aload_n hX0 hB0 dX3_wordEnd_3 rfl (lv_at hl 1 rfl) ?_
      refine z_get (Cn := RX3) (T := TX3) (N := 13) CX hW (v := .int (zI n)) zRO_0 rfl (fun w h => List.mem_cons_of_mem _ (List.mem_append_right _ h)) 0 (by decide) (List.mem_of_getElem? (i := 1) rfl) rfl rfl dX3_wordEnd_4 ?_
      refine z_icmp_ge (tgt := 36) CX dX3_wordEnd_7 (by decide) (by constructor <;> omega) (by constructor <;> omega) (fun c_7 => ?_) (fun c_7 => ?_)
      ·
        refine lv_iload_n hX0 hB0 dX3_wordEnd_36 rfl (lv_at hl 0 rfl) ?_
        rw [← hQ]
        exact z_iret (z := b) CX hW (by first | exact ⟨by rw [hbz, show (n - b).toNat = 0 by omega]; rfl, rfl⟩ | exact ⟨by rw [hbz, zweF_s T (by omega), if_neg (by omega)], rfl⟩) rfl dX3_wordEnd_37
      ·
        refine lv_aload_n hX0 hB0 dX3_wordEnd_10 rfl (lv_at hl 1 rfl) ?_
        refine lv_iload_n hX0 hB0 dX3_wordEnd_11 rfl (lv_at hl 0 rfl) ?_
        refine z_calli hW (va_runV (C := RX3) (As := [.int (zI b)]) (rest := []) CX.fix (c_byteAt l (f := f) r n T S b hT (by constructor <;> omega)) (cwV 1 CX.fix.2.2.2.2 gX3_wordEnd_X3_byteAt rfl rfl rfl (by decide +kernel) ⟨Nat.le_of_ble_eq_true rfl, Nat.le_of_ble_eq_true rfl⟩) (z_preV CX hW (r := (RX3, TX3, 13)) zRO_0 rfl) rfl rfl hl.1 rfl (lv_room (Nat.le_of_ble_eq_true rfl)) dX3_wordEnd_12 ⟨Nat.zero_le _, Nat.zero_le _⟩) (fun zv gn H locs hok12 hW => ?_)
        obtain ⟨ez, eg⟩ := hok12
        have eg : gn = zRO cI cP cZ r n T S f := eg
        rw [eg] at hW
        clear eg
        have ez : zv = zby n T b := ez
        rw [ez]
        clear ez
        have hby12 := zby_rng hT b
        refine lv_bipush (v := zI 97) hX0 hB0 dX3_wordEnd_15 (by decide) ?_
        refine z_icmp_lt (tgt := 36) CX dX3_wordEnd_17 (by decide) (by constructor <;> omega) (by constructor <;> omega) (fun c_17 => ?_) (fun c_17 => ?_)
        ·
          refine lv_iload_n hX0 hB0 dX3_wordEnd_36 rfl (lv_at hl 0 rfl) ?_
          rw [← hQ]
          exact z_iret (z := b) CX hW (by first | exact ⟨by rw [hbz, show (n - b).toNat = 0 by omega]; rfl, rfl⟩ | exact ⟨by rw [hbz, zweF_s T (by omega), if_neg (by omega)], rfl⟩) rfl dX3_wordEnd_37
        ·
          refine lv_aload_n hX0 hB0 dX3_wordEnd_20 rfl (lv_at hl 1 rfl) ?_
          refine lv_iload_n hX0 hB0 dX3_wordEnd_21 rfl (lv_at hl 0 rfl) ?_
          refine z_calli hW (va_runV (C := RX3) (As := [.int (zI b)]) (rest := []) CX.fix (c_byteAt l (f := f) r n T S b hT (by constructor <;> omega)) (cwV 1 CX.fix.2.2.2.2 gX3_wordEnd_X3_byteAt rfl rfl rfl (by decide +kernel) ⟨Nat.le_of_ble_eq_true rfl, Nat.le_of_ble_eq_true rfl⟩) (z_preV CX hW (r := (RX3, TX3, 13)) zRO_0 rfl) rfl rfl hl.1 rfl (lv_room (Nat.le_of_ble_eq_true rfl)) dX3_wordEnd_22 ⟨Nat.zero_le _, Nat.zero_le _⟩) (fun zv gn H locs hok22 hW => ?_)
          obtain ⟨ez, eg⟩ := hok22
          have eg : gn = zRO cI cP cZ r n T S f := eg
          rw [eg] at hW
          clear eg
          have ez : zv = zby n T b := ez
          rw [ez]
          clear ez
          have hby22 := zby_rng hT b
          refine lv_bipush (v := zI 122) hX0 hB0 dX3_wordEnd_25 (by decide) ?_
          refine z_icmp_gt (tgt := 36) CX dX3_wordEnd_27 (by decide) (by constructor <;> omega) (by constructor <;> omega) (fun c_27 => ?_) (fun c_27 => ?_)
          ·
            refine lv_iload_n hX0 hB0 dX3_wordEnd_36 rfl (lv_at hl 0 rfl) ?_
            rw [← hQ]
            exact z_iret (z := b) CX hW (by first | exact ⟨by rw [hbz, show (n - b).toNat = 0 by omega]; rfl, rfl⟩ | exact ⟨by rw [hbz, zweF_s T (by omega), if_neg (by omega)], rfl⟩) rfl dX3_wordEnd_37
          ·
            refine lv_iinc (v := zI (b + 1)) (lv' := [(2, .int (zI (b + 1))), (0, .ref r), (1, .int (zI a))]) hX0 hB0 dX3_wordEnd_30 hl (k := 0) rfl (zI_add _ _) (by decide) rfl (fun ls hl => ?_)
            refine lv_goto (tgt := 2) hX0 hB0 dX3_wordEnd_33 (by decide) ?_
            exact ih2 (b + 1) ⟨by omega, by omega, by rw [hbz, zweF_s T (by omega), if_pos (by omega)]⟩ (by omega) H locs ls hW (lv_sub hl [0, 1, 2] rfl)
  exact hL2 _ a ⟨by omega, by omega, rfl⟩ (Nat.lt_succ_self _) H locs ls hW (lv_sub hl [0, 1, 2] rfl)
theorem zsr_id (S : Nat → Nat → Int) : zsr S (S 0 0) (S 0 1) (S 0 2) = S := by
  funext q
  unfold zsr
  by_cases e : q = 0
  · subst e
    rw [zset_self]
    funext j
    by_cases e0 : j = 0
    · rw [if_pos e0, e0]
    by_cases e1 : j = 1
    · rw [if_neg e0, if_pos e1, e1]
    by_cases e2 : j = 2
    · rw [if_neg e0, if_neg e1, if_pos e2, e2]
    · rw [if_neg e0, if_neg e1, if_neg e2]
  · rw [zset_ne _ _ e]
theorem zsr_zsr (S : Nat → Nat → Int) (a b c x y z : Int) : zsr (zsr S a b c) x y z = zsr S x y z := by
  funext q
  unfold zsr
  by_cases e : q = 0
  · subst e
    simp only [zset_self]
    funext j
    by_cases e0 : j = 0 <;> by_cases e1 : j = 1 <;> by_cases e2 : j = 2 <;> simp [e0, e1, e2]
  · rw [zset_ne _ _ e, zset_ne _ _ e, zset_ne _ _ e]
theorem zsr_step {S A : Nat → Nat → Int} {x y : Int} (h : A = zsr S x (S 0 1) (S 0 2)) : zsr A y (A 0 1) (A 0 2) = zsr S y (S 0 1) (S 0 2) := by
  rw [h, zsr_zsr]
  rfl
theorem zsr_ne {S : Nat → Nat → Int} {a b c : Int} {k : Nat} (h : k ≠ 0) : zsr S a b c k = S k := zset_ne _ _ h
theorem zsd_ne {S : Nat → Nat → Int} {a b : Int} {k : Nat} (h : k ≠ 0) : zsd S a b k = S k := zset_ne _ _ h
set_option maxRecDepth 100000 in
set_option maxHeartbeats 4000000 in
/-- Reader.skipBlanks -/
theorem c_skipBlanks (l : Launch) {D : va_G} {cI cJ cZ cP cS cM : ClassId} {L : List Nat} {sz : Nat} {f : Nat → va_E} (r : Nat) (n : Int) (T : Nat → Int) (S : Nat → Nat → Int) (hT : ztape n T) (hpl : 0 ≤ S 0 0 ∧ S 0 0 ≤ n) : zMv l yX3_skipBlanks wsX3_skipBlanks 1 21 D (zT cI cJ cZ cP cS cM) L sz (zRO cI cP cZ r n T S f) [.ref r] (fun g => g = zRO cI cP cZ r n T (zskS n T S) f) := by
  refine zWalk.met (nL := 1) (ret := none) (cc := cX3_skipBlanks) (by decide) rfl (Nat.le_of_ble_eq_true rfl) ?_
  intro pg en st mi ag bl mt cd ls CX hW hl
  have CX : zC pg st mi ag mt cd cX3_skipBlanks 1 none RX3 wsX3_skipBlanks := CX
  generalize hQ : MQ bl _ ag st 0 0 _ = Q
  have hX0 := CX.1
  have hB0 := CX.2.1
  have hl : lv_has ls 1 [(0, .ref r)] := hl
  obtain ⟨H, eH⟩ : ∃ H, H = st.heap := ⟨_, rfl⟩
  obtain ⟨locs, eL⟩ : ∃ L : List Loc, L = [] := ⟨_, rfl⟩
  have hW : zW D (zT cI cJ cZ cP cS cM) L (zQ L sz) st (zRO cI cP cZ r n T S f) st.heap H locs := by rw [eH, eL]; exact hW
  suffices hgo : W pg l en ({ frames := 1, cells := 0, slots := 0, locals := 21 } : Room) st mi ag bl mt cd H locs 0 0 Q (F0 mi 0 ls []) by rw [eH, eL] at hgo; exact hgo
  clear eH eL
  have hL0 : ∀ (fu : Nat) (Sa : Nat → Nat → Int), (Sa = zsr S (Sa 0 0) (S 0 1) (S 0 2) ∧ S 0 0 ≤ Sa 0 0 ∧ Sa 0 0 ≤ n ∧ zsk n T (S 0 0) = zskF n T (n - Sa 0 0).toNat (Sa 0 0)) → (n - Sa 0 0).toNat < fu → ∀ (H : Heap) (locs : List Loc) (ls : Array Slot), zW D (zT cI cJ cZ cP cS cM) L (zQ L sz) st (zRO cI cP cZ r n T Sa f) st.heap H locs → lv_has ls 1 [(0, .ref r)] → W pg l en ({ frames := 1, cells := 0, slots := 0, locals := 21 } : Room) st mi ag bl mt cd H locs 0 0 Q (F0 mi 0 ls []) := by
    intro fu
    induction fu with
    | zero => intro Sa _ hfu; exact absurd hfu (Nat.not_lt_zero _)
    | succ fu ih0 =>
      intro Sa hinv0 hfu0 H locs ls hW hl
      obtain ⟨hSa, hb0, hb1, hbz⟩ := hinv0
      have hn0 := hT.1
      have hn1 := hT.2.1
      refine lv_aload_n hX0 hB0 dX3_skipBlanks_0 rfl (lv_at hl 0 rfl) ?_
      refine z_get (Cn := RX3) (T := TX3) (N := 13) CX hW (v := .int (zI (Sa 0 0))) zRO_0 rfl (fun w h => List.mem_cons_of_mem _ (List.mem_append_right _ h)) 12 (by decide) (List.mem_of_getElem? (i := 1) rfl) rfl rfl dX3_skipBlanks_1 ?_
      refine lv_aload_n hX0 hB0 dX3_skipBlanks_4 rfl (lv_at hl 0 rfl) ?_
      refine z_get (Cn := RX3) (T := TX3) (N := 13) CX hW (v := .int (zI n)) zRO_0 rfl (fun w h => List.mem_cons_of_mem _ (List.mem_append_right _ h)) 0 (by decide) (List.mem_of_getElem? (i := 2) rfl) rfl rfl dX3_skipBlanks_5 ?_
      refine z_icmp_ge (tgt := 50) CX dX3_skipBlanks_8 (by decide) (by constructor <;> omega) (by constructor <;> omega) (fun c_8 => ?_) (fun c_8 => ?_)
      ·
        rw [← hQ]
        exact z_vret CX hW (by first | (unfold zskS; rw [hbz, show (n - Sa 0 0).toNat = 0 by omega]; show zRO _ _ _ _ _ _ Sa f = zRO _ _ _ _ _ _ (zsr S (Sa 0 0) (S 0 1) (S 0 2)) f; rw [← hSa]) | (unfold zskS; rw [hbz, zskF_s T (by omega), if_neg (by omega), ← hSa])) dX3_skipBlanks_50
      ·
        refine lv_aload_n hX0 hB0 dX3_skipBlanks_11 rfl (lv_at hl 0 rfl) ?_
        refine lv_aload_n hX0 hB0 dX3_skipBlanks_12 rfl (lv_at hl 0 rfl) ?_
        refine z_get (Cn := RX3) (T := TX3) (N := 13) CX hW (v := .int (zI (Sa 0 0))) zRO_0 rfl (fun w h => List.mem_cons_of_mem _ (List.mem_append_right _ h)) 12 (by decide) (List.mem_of_getElem? (i := 1) rfl) rfl rfl dX3_skipBlanks_13 ?_
        refine z_calli hW (va_runV (C := RX3) (As := [.int (zI (Sa 0 0))]) (rest := []) CX.fix (c_byteAt l (f := f) r n T Sa (Sa 0 0) hT (by constructor <;> omega)) (cwV 1 CX.fix.2.2.2.2 gX3_skipBlanks_X3_byteAt rfl rfl rfl (by decide +kernel) ⟨Nat.le_of_ble_eq_true rfl, Nat.le_of_ble_eq_true rfl⟩) (z_preV CX hW (r := (RX3, TX3, 13)) zRO_0 rfl) rfl rfl hl.1 rfl (lv_room (Nat.le_of_ble_eq_true rfl)) dX3_skipBlanks_16 ⟨Nat.zero_le _, Nat.zero_le _⟩) (fun zv gn H locs hok16 hW => ?_)
        obtain ⟨ez, eg⟩ := hok16
        have eg : gn = zRO cI cP cZ r n T Sa f := eg
        rw [eg] at hW
        clear eg
        have ez : zv = zby n T (Sa 0 0) := ez
        rw [ez]
        clear ez
        have hby16 := zby_rng hT (Sa 0 0)
        refine lv_bipush (v := zI 10) hX0 hB0 dX3_skipBlanks_19 (by decide) ?_
        refine z_icmp_eq (tgt := 37) CX dX3_skipBlanks_21 (by decide) (by constructor <;> omega) (by constructor <;> omega) (fun c_21 => ?_) (fun c_21 => ?_)
        ·
          refine lv_aload_n hX0 hB0 dX3_skipBlanks_37 rfl (lv_at hl 0 rfl) ?_
          refine lv_dup hX0 hB0 dX3_skipBlanks_38 rfl ?_
          refine z_get (Cn := RX3) (T := TX3) (N := 13) CX hW (v := .int (zI (Sa 0 0))) zRO_0 rfl (fun w h => List.mem_cons_of_mem _ (List.mem_append_right _ h)) 12 (by decide) (List.mem_of_getElem? (i := 1) rfl) rfl rfl dX3_skipBlanks_39 ?_
          refine lv_iconst (v := zI 1) hX0 hB0 dX3_skipBlanks_42 rfl ?_
          refine z_iadd (z := (Sa 0 0) + 1) CX dX3_skipBlanks_43 rfl ?_
          refine z_put (Cn := RX3) (T := TX3) (N := 13) CX hW (v := .int (zI ((Sa 0 0) + 1))) zRO_0 rfl (fun w h => List.mem_cons_of_mem _ (List.mem_append_right _ h)) tyX3 tyX3_ok nmX3 12 (by decide) (List.mem_of_getElem? (i := 1) rfl) rfl rfl rfl rfl (Nat.le_of_ble_eq_true rfl) (g := va_up (zRO cI cP cZ r n T Sa f) r (.inr (3, [.int (zI n), .int (zI (Sa 0 1)), .int (zI (Sa 0 2)), .ref (r + 1), .ref (r + 16), .ref (r + 17), .ref (r + 18), .ref (r + 19), .ref (r + 20), .ref (r + 21), .ref (r + 23), .ref (r + 25), .int (zI ((Sa 0 0) + 1))]))) rfl dX3_skipBlanks_44 (fun H locs hW => ?_)
          refine lv_goto (tgt := 0) hX0 hB0 dX3_skipBlanks_47 (by decide) ?_
          have hW := hW
          rw [zRO_wr] at hW
          obtain ⟨S1, hS1⟩ : ∃ q : Nat → Nat → Int, q = zsr Sa ((Sa 0 0) + 1) (Sa 0 1) (Sa 0 2) := ⟨_, rfl⟩
          rw [← hS1] at hW
          have hS1_0 : S1 0 0 = (Sa 0 0) + 1 := by rw [hS1]; first | rfl | (simp [zsr, zsd, zset]; done) | ((repeat rw [zset_ne _ _ (by omega)]); first | done | rfl | (simp [zsr, zsd, zset]; done)) | (unfold zsd; (repeat (first | rw [zset_self] | rw [zset_ne _ _ (by omega)])); first | done | rfl | (simp; done))
          have hS1_1 : S1 0 1 = Sa 0 1 := by rw [hS1]; first | rfl | (simp [zsr, zsd, zset]; done) | ((repeat rw [zset_ne _ _ (by omega)]); first | done | rfl | (simp [zsr, zsd, zset]; done)) | (unfold zsd; (repeat (first | rw [zset_self] | rw [zset_ne _ _ (by omega)])); first | done | rfl | (simp; done))
          have hS1_2 : S1 0 2 = Sa 0 2 := by rw [hS1]; first | rfl | (simp [zsr, zsd, zset]; done) | ((repeat rw [zset_ne _ _ (by omega)]); first | done | rfl | (simp [zsr, zsd, zset]; done)) | (unfold zsd; (repeat (first | rw [zset_self] | rw [zset_ne _ _ (by omega)])); first | done | rfl | (simp; done))
          have hS1_3 : S1 0 3 = Sa 0 3 := by rw [hS1]; first | rfl | (simp [zsr, zsd, zset]; done) | ((repeat rw [zset_ne _ _ (by omega)]); first | done | rfl | (simp [zsr, zsd, zset]; done)) | (unfold zsd; (repeat (first | rw [zset_self] | rw [zset_ne _ _ (by omega)])); first | done | rfl | (simp; done))
          have hS1_4 : S1 0 4 = Sa 0 4 := by rw [hS1]; first | rfl | (simp [zsr, zsd, zset]; done) | ((repeat rw [zset_ne _ _ (by omega)]); first | done | rfl | (simp [zsr, zsd, zset]; done)) | (unfold zsd; (repeat (first | rw [zset_self] | rw [zset_ne _ _ (by omega)])); first | done | rfl | (simp; done))
          skip
          exact ih0 S1 ⟨by rw [hS1_0, hS1]; exact zsr_step hSa, by omega, by omega, by rw [hbz, zskF_s T (by omega), if_pos (by omega), hS1_0]⟩ (by omega) H locs ls hW (lv_sub hl [0] rfl)
        ·
          refine lv_aload_n hX0 hB0 dX3_skipBlanks_24 rfl (lv_at hl 0 rfl) ?_
          refine lv_aload_n hX0 hB0 dX3_skipBlanks_25 rfl (lv_at hl 0 rfl) ?_
          refine z_get (Cn := RX3) (T := TX3) (N := 13) CX hW (v := .int (zI (Sa 0 0))) zRO_0 rfl (fun w h => List.mem_cons_of_mem _ (List.mem_append_right _ h)) 12 (by decide) (List.mem_of_getElem? (i := 1) rfl) rfl rfl dX3_skipBlanks_26 ?_
          refine z_calli hW (va_runV (C := RX3) (As := [.int (zI (Sa 0 0))]) (rest := []) CX.fix (c_byteAt l (f := f) r n T Sa (Sa 0 0) hT (by constructor <;> omega)) (cwV 1 CX.fix.2.2.2.2 gX3_skipBlanks_X3_byteAt rfl rfl rfl (by decide +kernel) ⟨Nat.le_of_ble_eq_true rfl, Nat.le_of_ble_eq_true rfl⟩) (z_preV CX hW (r := (RX3, TX3, 13)) zRO_0 rfl) rfl rfl hl.1 rfl (lv_room (Nat.le_of_ble_eq_true rfl)) dX3_skipBlanks_29 ⟨Nat.zero_le _, Nat.zero_le _⟩) (fun zv gn H locs hok29 hW => ?_)
          obtain ⟨ez, eg⟩ := hok29
          have eg : gn = zRO cI cP cZ r n T Sa f := eg
          rw [eg] at hW
          clear eg
          have ez : zv = zby n T (Sa 0 0) := ez
          rw [ez]
          clear ez
          have hby29 := zby_rng hT (Sa 0 0)
          refine lv_bipush (v := zI 32) hX0 hB0 dX3_skipBlanks_32 (by decide) ?_
          refine z_icmp_ne (tgt := 50) CX dX3_skipBlanks_34 (by decide) (by constructor <;> omega) (by constructor <;> omega) (fun c_34 => ?_) (fun c_34 => ?_)
          ·
            rw [← hQ]
            exact z_vret CX hW (by first | (unfold zskS; rw [hbz, show (n - Sa 0 0).toNat = 0 by omega]; show zRO _ _ _ _ _ _ Sa f = zRO _ _ _ _ _ _ (zsr S (Sa 0 0) (S 0 1) (S 0 2)) f; rw [← hSa]) | (unfold zskS; rw [hbz, zskF_s T (by omega), if_neg (by omega), ← hSa])) dX3_skipBlanks_50
          ·
            refine lv_aload_n hX0 hB0 dX3_skipBlanks_37 rfl (lv_at hl 0 rfl) ?_
            refine lv_dup hX0 hB0 dX3_skipBlanks_38 rfl ?_
            refine z_get (Cn := RX3) (T := TX3) (N := 13) CX hW (v := .int (zI (Sa 0 0))) zRO_0 rfl (fun w h => List.mem_cons_of_mem _ (List.mem_append_right _ h)) 12 (by decide) (List.mem_of_getElem? (i := 1) rfl) rfl rfl dX3_skipBlanks_39 ?_
            refine lv_iconst (v := zI 1) hX0 hB0 dX3_skipBlanks_42 rfl ?_
            refine z_iadd (z := (Sa 0 0) + 1) CX dX3_skipBlanks_43 rfl ?_
            refine z_put (Cn := RX3) (T := TX3) (N := 13) CX hW (v := .int (zI ((Sa 0 0) + 1))) zRO_0 rfl (fun w h => List.mem_cons_of_mem _ (List.mem_append_right _ h)) tyX3 tyX3_ok nmX3 12 (by decide) (List.mem_of_getElem? (i := 1) rfl) rfl rfl rfl rfl (Nat.le_of_ble_eq_true rfl) (g := va_up (zRO cI cP cZ r n T Sa f) r (.inr (3, [.int (zI n), .int (zI (Sa 0 1)), .int (zI (Sa 0 2)), .ref (r + 1), .ref (r + 16), .ref (r + 17), .ref (r + 18), .ref (r + 19), .ref (r + 20), .ref (r + 21), .ref (r + 23), .ref (r + 25), .int (zI ((Sa 0 0) + 1))]))) rfl dX3_skipBlanks_44 (fun H locs hW => ?_)
            refine lv_goto (tgt := 0) hX0 hB0 dX3_skipBlanks_47 (by decide) ?_
            have hW := hW
            rw [zRO_wr] at hW
            obtain ⟨S2, hS2⟩ : ∃ q : Nat → Nat → Int, q = zsr Sa ((Sa 0 0) + 1) (Sa 0 1) (Sa 0 2) := ⟨_, rfl⟩
            rw [← hS2] at hW
            have hS2_0 : S2 0 0 = (Sa 0 0) + 1 := by rw [hS2]; first | rfl | (simp [zsr, zsd, zset]; done) | ((repeat rw [zset_ne _ _ (by omega)]); first | done | rfl | (simp [zsr, zsd, zset]; done)) | (unfold zsd; (repeat (first | rw [zset_self] | rw [zset_ne _ _ (by omega)])); first | done | rfl | (simp; done))
            have hS2_1 : S2 0 1 = Sa 0 1 := by rw [hS2]; first | rfl | (simp [zsr, zsd, zset]; done) | ((repeat rw [zset_ne _ _ (by omega)]); first | done | rfl | (simp [zsr, zsd, zset]; done)) | (unfold zsd; (repeat (first | rw [zset_self] | rw [zset_ne _ _ (by omega)])); first | done | rfl | (simp; done))
            have hS2_2 : S2 0 2 = Sa 0 2 := by rw [hS2]; first | rfl | (simp [zsr, zsd, zset]; done) | ((repeat rw [zset_ne _ _ (by omega)]); first | done | rfl | (simp [zsr, zsd, zset]; done)) | (unfold zsd; (repeat (first | rw [zset_self] | rw [zset_ne _ _ (by omega)])); first | done | rfl | (simp; done))
            have hS2_3 : S2 0 3 = Sa 0 3 := by rw [hS2]; first | rfl | (simp [zsr, zsd, zset]; done) | ((repeat rw [zset_ne _ _ (by omega)]); first | done | rfl | (simp [zsr, zsd, zset]; done)) | (unfold zsd; (repeat (first | rw [zset_self] | rw [zset_ne _ _ (by omega)])); first | done | rfl | (simp; done))
            have hS2_4 : S2 0 4 = Sa 0 4 := by rw [hS2]; first | rfl | (simp [zsr, zsd, zset]; done) | ((repeat rw [zset_ne _ _ (by omega)]); first | done | rfl | (simp [zsr, zsd, zset]; done)) | (unfold zsd; (repeat (first | rw [zset_self] | rw [zset_ne _ _ (by omega)])); first | done | rfl | (simp; done))
            skip
            exact ih0 S2 ⟨by rw [hS2_0, hS2]; exact zsr_step hSa, by omega, by omega, by rw [hbz, zskF_s T (by omega), if_pos (by omega), hS2_0]⟩ (by omega) H locs ls hW (lv_sub hl [0] rfl)
  exact hL0 _ S ⟨(zsr_id S).symm, by omega, by omega, rfl⟩ (Nat.lt_succ_self _) H locs ls hW (lv_sub hl [0] rfl)
end ZTx1
