section ZX
theorem zL_eq {a b : Int} (h1 : -9223372036854775808 ≤ a) (h2 : a ≤ 9223372036854775807) (h3 : -9223372036854775808 ≤ b) (h4 : b ≤ 9223372036854775807) : zL a = zL b ↔ a = b := ⟨fun h => by have h5 := congrArg Int64.toInt h; rwa [zL_toInt h1 h2, zL_toInt h3 h4] at h5, fun h => by rw [h]⟩
theorem zL_lt {a b : Int} (h1 : -9223372036854775808 ≤ a) (h2 : a ≤ 9223372036854775807) (h3 : -9223372036854775808 ≤ b) (h4 : b ≤ 9223372036854775807) : zL a < zL b ↔ a < b := by rw [Int64.lt_iff_toInt_lt, zL_toInt h1 h2, zL_toInt h3 h4]
/-- how two long numbers lie -/
def zcmp (x y : Int) : Int := if y < x then 1 else if x = y then 0 else -1
theorem zcmp_rng (x y : Int) : -1 ≤ zcmp x y ∧ zcmp x y ≤ 1 := by unfold zcmp; split <;> (try split) <;> omega
theorem zcmp_lt {x y : Int} : zcmp x y < 0 ↔ x < y := by unfold zcmp; split <;> (try split) <;> omega
theorem zcmp_le {x y : Int} : zcmp x y ≤ 0 ↔ x ≤ y := by unfold zcmp; split <;> (try split) <;> omega
theorem zcmp_gt {x y : Int} : 0 < zcmp x y ↔ y < x := by unfold zcmp; split <;> (try split) <;> omega
theorem zcmp_ge {x y : Int} : 0 ≤ zcmp x y ↔ y ≤ x := by unfold zcmp; split <;> (try split) <;> omega
theorem zcmp_eq {x y : Int} : zcmp x y = 0 ↔ x = y := by unfold zcmp; split <;> (try split) <;> omega
section ZXr
variable {p : Program} {l : Launch} {e : Env} {R : Room} {s : State} {m : MethodId} {args : Array Value} {below : List Frame} {meth : Method} {c : Code} {H : Heap} {locs : List Loc} {cells slots : Nat} {Q : State → Prop}
variable {cc : ByteArray} {nL pc : Nat} {ret : Option FieldType} {own : String} {Ts : List Cond} {ls : Array Slot} {rest : List Value} {D : va_G} {tys : List (ClassId × FieldType)} {L : List Nat} {A : Nat → Prop} {f g : Nat → va_E} {H0 : Heap} {a : Nat}
-- statics and their tables
theorem z_gets (C : zC p s m args meth c cc nL ret own Ts) (hW : zW D tys L A s f s.heap H locs) {C0 n d ref : String} {v : Value} {index : Nat} (hZ : va_Z C0 n d v A s s.heap) (hlink : Cond.fieldLink own index ref n d ∈ Ts) (hsame : ref = C0) (hdg : decode cc pc = .ok (.getstatic index, 3))
    (kk : W p l e R s m args below meth c H locs cells slots Q (F0 m (pc + 3) ls (v :: rest))) : W p l e R s m args below meth c H locs cells slots Q (F0 m pc ls rest) :=
  va_gets C.1 C.2.1 hZ hW.2.2.1 C.2.2.2.1 (C.at hlink) (fun x h => by rw [hsame]; exact h) hdg kk
theorem z_tald (C : zC p s m args meth c cc nL ret own Ts) (hW : zW D tys L A s f s.heap H locs) {t N : Nat} {d : Nat → Int} {i z : Int} (hT : va_T .int t N (fun k => .int (zI (d k))) A s s.heap) (hi : 0 ≤ i ∧ i < N ∧ i ≤ 2147483647) (hz : d i.toNat = z) (hdg : decode cc pc = .ok (.iaload, 1))
    (kk : W p l e R s m args below meth c H locs cells slots Q (F0 m (pc + 1) ls (.int (zI z) :: rest))) : W p l e R s m args below meth c H locs cells slots Q (F0 m pc ls (.int (zI i) :: .ref t :: rest)) :=
  va_ti C.1 C.2.1 hT hW.2.2.1 (zI_in hi.1 hi.2.1 hi.2.2) (by rw [zI_clamp hi.1 hi.2.2, hz]) hdg kk
theorem z_tlen (C : zC p s m args meth c cc nL ret own Ts) (hW : zW D tys L A s f s.heap H locs) {ty : FieldType} {t N : Nat} {fv : Nat → Value} {n : Int} (hT : va_T ty t N fv A s s.heap) (hn : Int32.ofNat N = zI n) (hdg : decode cc pc = .ok (.arraylength, 1))
    (kk : W p l e R s m args below meth c H locs cells slots Q (F0 m (pc + 1) ls (.int (zI n) :: rest))) : W p l e R s m args below meth c H locs cells slots Q (F0 m pc ls (.ref t :: rest)) :=
  va_tlen C.1 C.2.1 hT hW.2.2.1 hn hdg kk
theorem z_tbld (C : zC p s m args meth c cc nL ret own Ts) (hW : zW D tys L A s f s.heap H locs) {t N : Nat} {d : Nat → Int32} {i z : Int} (hT : va_T .byte t N (fun k => .int (d k)) A s s.heap) (hi : 0 ≤ i ∧ i < N ∧ i ≤ 2147483647) (hz : d i.toNat = zI z) (hdg : decode cc pc = .ok (.baload, 1))
    (kk : W p l e R s m args below meth c H locs cells slots Q (F0 m (pc + 1) ls (.int (zI z) :: rest))) : W p l e R s m args below meth c H locs cells slots Q (F0 m pc ls (.int (zI i) :: .ref t :: rest)) :=
  va_tb C.1 C.2.1 hT hW.2.2.1 (zI_in hi.1 hi.2.1 hi.2.2) (by rw [zI_clamp hi.1 hi.2.2, hz]) hdg kk
-- a switch
theorem z_tin (C : zC p s m args meth c cc nL ret own Ts) {dflt lo hi : Int} {offs : Array Int} {len : Nat} {x K off : Int} {tgt : Nat} (hdg : decode cc pc = .ok (.tableswitch dflt lo hi offs, len)) (hx : -2147483648 ≤ x ∧ x ≤ 2147483647) (hK : x = K) (h1 : ¬ K < lo) (h2 : ¬ hi < K) (ho : offs[(K - lo).toNat]? = some off) (ht : (pc : Int) + off = (tgt : Int))
    (kk : W p l e R s m args below meth c H locs cells slots Q (F0 m tgt ls rest)) : W p l e R s m args below meth c H locs cells slots Q (F0 m pc ls (.int (zI x) :: rest)) := by
  have hz := zI_toInt hx.1 hx.2
  exact lv_tableIn C.1 C.2.1 hdg (by rw [hz, hK]; exact h1) (by rw [hz, hK]; exact h2) (by rw [hz, hK]; exact ho) ht kk
theorem z_tout (C : zC p s m args meth c cc nL ret own Ts) {dflt lo hi : Int} {offs : Array Int} {len : Nat} {x : Int} {tgt : Nat} (hdg : decode cc pc = .ok (.tableswitch dflt lo hi offs, len)) (hx : -2147483648 ≤ x ∧ x ≤ 2147483647) (h : x < lo ∨ hi < x) (ht : (pc : Int) + dflt = (tgt : Int))
    (kk : W p l e R s m args below meth c H locs cells slots Q (F0 m tgt ls rest)) : W p l e R s m args below meth c H locs cells slots Q (F0 m pc ls (.int (zI x) :: rest)) :=
  lv_tableOut C.1 C.2.1 hdg (by rw [zI_toInt hx.1 hx.2]; exact h) ht kk
-- long numbers
theorem z_ladd (C : zC p s m args meth c cc nL ret own Ts) {x y z : Int} (hdg : decode cc pc = .ok (.ladd, 1)) (hz : x + y = z) (kk : W p l e R s m args below meth c H locs cells slots Q (F0 m (pc + 1) ls (.long (zL z) :: rest))) : W p l e R s m args below meth c H locs cells slots Q (F0 m pc ls (.long (zL y) :: .long (zL x) :: rest)) := lv_ladd C.1 C.2.1 hdg (by rw [zL_add, hz]; exact kk)
theorem z_lsub (C : zC p s m args meth c cc nL ret own Ts) {x y z : Int} (hdg : decode cc pc = .ok (.lsub, 1)) (hz : x - y = z) (kk : W p l e R s m args below meth c H locs cells slots Q (F0 m (pc + 1) ls (.long (zL z) :: rest))) : W p l e R s m args below meth c H locs cells slots Q (F0 m pc ls (.long (zL y) :: .long (zL x) :: rest)) := lv_lsub C.1 C.2.1 hdg (by rw [zL_sub, hz]; exact kk)
theorem z_lmul (C : zC p s m args meth c cc nL ret own Ts) {x y z : Int} (hdg : decode cc pc = .ok (.lmul, 1)) (hz : x * y = z) (kk : W p l e R s m args below meth c H locs cells slots Q (F0 m (pc + 1) ls (.long (zL z) :: rest))) : W p l e R s m args below meth c H locs cells slots Q (F0 m pc ls (.long (zL y) :: .long (zL x) :: rest)) := lv_lmul C.1 C.2.1 hdg (by rw [zL_mul, hz]; exact kk)
theorem z_lneg (C : zC p s m args meth c cc nL ret own Ts) {x z : Int} (hdg : decode cc pc = .ok (.lneg, 1)) (hz : -x = z) (kk : W p l e R s m args below meth c H locs cells slots Q (F0 m (pc + 1) ls (.long (zL z) :: rest))) : W p l e R s m args below meth c H locs cells slots Q (F0 m pc ls (.long (zL x) :: rest)) := lv_lneg C.1 C.2.1 hdg (by rw [zL_neg, hz]; exact kk)
theorem z_lrem (C : zC p s m args meth c cc nL ret own Ts) {x y z : Int} (hdg : decode cc pc = .ok (.lrem, 1)) (hx : -9223372036854775808 ≤ x ∧ x ≤ 9223372036854775807) (hy : 0 < y ∧ y ≤ 9223372036854775807) (hz : x.tmod y = z) (kk : W p l e R s m args below meth c H locs cells slots Q (F0 m (pc + 1) ls (.long (zL z) :: rest))) : W p l e R s m args below meth c H locs cells slots Q (F0 m pc ls (.long (zL y) :: .long (zL x) :: rest)) :=
  lv_lrem C.1 C.2.1 hdg (fun q => by rw [show (0 : Int64) = zL 0 from rfl, zL_eq (by omega) (by omega) (by omega) (by omega)] at q; omega) (by rw [zL_rem hx.1 hx.2 (by omega) hy.2, hz]; exact kk)
theorem z_i2l (C : zC p s m args meth c cc nL ret own Ts) {x : Int} (hdg : decode cc pc = .ok (.i2l, 1)) (hx : -2147483648 ≤ x ∧ x ≤ 2147483647) (kk : W p l e R s m args below meth c H locs cells slots Q (F0 m (pc + 1) ls (.long (zL x) :: rest))) : W p l e R s m args below meth c H locs cells slots Q (F0 m pc ls (.int (zI x) :: rest)) := lv_i2l C.1 C.2.1 hdg (zI_toL hx.1 hx.2) kk
theorem z_l2i (C : zC p s m args meth c cc nL ret own Ts) {x : Int} (hdg : decode cc pc = .ok (.l2i, 1)) (kk : W p l e R s m args below meth c H locs cells slots Q (F0 m (pc + 1) ls (.int (zI x) :: rest))) : W p l e R s m args below meth c H locs cells slots Q (F0 m pc ls (.long (zL x) :: rest)) := lv_l2i C.1 C.2.1 hdg (zL_toI x) kk
theorem z_lcmp (C : zC p s m args meth c cc nL ret own Ts) {x y : Int} (hdg : decode cc pc = .ok (.lcmp, 1)) (hx : -9223372036854775808 ≤ x ∧ x ≤ 9223372036854775807) (hy : -9223372036854775808 ≤ y ∧ y ≤ 9223372036854775807) (kk : W p l e R s m args below meth c H locs cells slots Q (F0 m (pc + 1) ls (.int (zI (zcmp x y)) :: rest))) : W p l e R s m args below meth c H locs cells slots Q (F0 m pc ls (.long (zL y) :: .long (zL x) :: rest)) := by
  refine W.lcmp C.1 C.2.1 hdg ?_
  have e1 : lg_cmp (zL x) (zL y) = zI (zcmp x y) := by
    unfold lg_cmp zcmp
    by_cases h1 : y < x
    · rw [if_pos h1, if_pos (show zL x > zL y from (zL_lt hy.1 hy.2 hx.1 hx.2).mpr h1)]
      rfl
    · rw [if_neg h1, if_neg (fun q : zL x > zL y => h1 ((zL_lt hy.1 hy.2 hx.1 hx.2).mp q))]
      by_cases h2 : x = y
      · rw [if_pos h2, if_pos (by rw [h2])]
        rfl
      · rw [if_neg h2, if_neg (fun q => h2 ((zL_eq hx.1 hx.2 hy.1 hy.2).mp q))]
        rfl
  rw [e1]
  exact kk
-- texts
theorem z_ldcs (C : zC p s m args meth c cc nL ret "CurveMeets$Reader" Ts) (hW : zW D tys L A s f s.heap H locs) (i : Nat) (hi : i < 4) {index : Nat} (hx : zSk.getD i 0 = index) (hdg : decode cc pc = .ok (.ldc index, 2))
    (kk : W p l e R s m args below meth c H locs cells slots Q (F0 m (pc + 2) ls (.ref (D.2 98 i) :: rest))) : W p l e R s m args below meth c H locs cells slots Q (F0 m pc ls rest) := by
  subst hx
  exact va_ldcS C.1 C.2.1 C.2.2.2.1 (hW.2.2.2.2.2.2.2.2.2.2.2.1 i hi) hdg kk
theorem z_ldcsL (C : zC p s m args meth c cc nL ret "CurveMeetsLaw" Ts) (hW : zW D tys L A s f s.heap H locs) (i : Nat) (hi : i < 12) (hj : 4 ≤ i) {index : Nat} (hx : zSk.getD i 0 = index) (hdg : decode cc pc = .ok (.ldc index, 2))
    (kk : W p l e R s m args below meth c H locs cells slots Q (F0 m (pc + 2) ls (.ref (D.2 98 i) :: rest))) : W p l e R s m args below meth c H locs cells slots Q (F0 m pc ls rest) := by
  subst hx
  exact va_ldcS C.1 C.2.1 C.2.2.2.1 (hW.2.2.2.2.2.2.2.2.2.2.2.2.1 i hi hj) hdg kk
theorem z_preT (C : zC p s m args meth c cc nL ret own Ts) (hW : zW D tys L A s f s.heap H locs) {As : List Value} (i : Nat) (hi : i < 12) : PreV s H "java/lang/String" (D.2 98 i) (zB D tys L H.size f (.ref (D.2 98 i) :: As)) As :=
  ⟨zB_blind, vk_recv hW.2.2.2.2.2.2.2.2.2.2.1 hi hW.2.2.1, fun U hU hw => ⟨rfl, hW.start C hU hw⟩⟩
theorem z_getT (C : zC p s m args meth c cc nL ret own Ts) (hW : zW D tys L A s f s.heap H locs) {o n d ref : String} {index q : Nat} {v : Value} (hE : va_OF o n d v q A s s.heap) (hlink : Cond.fieldLink own index ref n d ∈ Ts) (hsame : ref = o) (hdg : decode cc pc = .ok (.getfield index, 3))
    (kk : W p l e R s m args below meth c H locs cells slots Q (F0 m (pc + 3) ls (v :: rest))) : W p l e R s m args below meth c H locs cells slots Q (F0 m pc ls (.ref q :: rest)) :=
  vk_getf C.1 C.2.1 hE hW.2.2.1 C.2.2.2.1 (C.at hlink) (fun x h => by rw [hsame]; exact h) hdg kk
end ZXr
end ZX
