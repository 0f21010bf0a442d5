section ZPa
/-- what stood ahead of the last ACTS, at b: how many, where the next comes, twenty shelves -/
def zPast (cI cP cS : ClassId) (f : Nat → va_E) (b : Nat) (cnt nx : Int) (P N : Nat → Int) (C : Nat → Nat → Nat → Int) (LT : Nat → Nat → Int) : Prop :=
  f b = .inr (1, [.int (zI cnt), .int (zI nx), .ref (b + 1)]) ∧ f (b + 1) = zAR cS 20 (fun k => some (b + 2 + 15 * k)) ∧ ∀ k, k < 20 → zShelf cI cP f (b + 2 + 15 * k) (P k) (N k) (C k) (LT k)
theorem zPast.same {cI cP cS : ClassId} {f g : Nat → va_E} {b : Nat} {cnt nx : Int} {P N : Nat → Int} {C : Nat → Nat → Nat → Int} {LT : Nat → Nat → Int} (h : zPast cI cP cS f b cnt nx P N C LT) (hs : ∀ q, b ≤ q → q < b + 302 → g q = f q) : zPast cI cP cS g b cnt nx P N C LT :=
  ⟨(hs _ (by omega) (by omega)).trans h.1, (hs _ (by omega) (by omega)).trans h.2.1, fun i hi => (h.2.2 i hi).same (fun b h1 h2 => hs b (by omega) (by omega))⟩
/-- f, but x at k -/
def zset {α : Type} (f : Nat → α) (k : Nat) (x : α) : Nat → α := fun j => if j = k then x else f j
theorem zset_self {α : Type} (f : Nat → α) (k : Nat) (x : α) : zset f k x k = x := by simp [zset]
theorem zset_ne {α : Type} (f : Nat → α) {k j : Nat} (x : α) (h : j ≠ k) : zset f k x j = f j := by simp [zset, h]
set_option maxRecDepth 100000 in
set_option maxHeartbeats 4000000 in
/-- Past.forget -/
theorem c_forget (l : Launch) {D : va_G} {cI cJ cZ cP cS cM : ClassId} {L : List Nat} {sz : Nat} {f : Nat → va_E} (b : Nat) (cnt nx : Int) (P N : Nat → Int) (C : Nat → Nat → Nat → Int) (LT : Nat → Nat → Int) (hP : zPast cI cP cS f b cnt nx P N C LT) : zMv l yX1_forget wsX1_forget 0 0 D (zT cI cJ cZ cP cS cM) L sz f [.ref b] (fun g => zFr f g b (b + 302) ∧ zPast cI cP cS g b 0 nx P N C LT) := by
  refine zWalk.met (nL := 1) (ret := none) (cc := cX1_forget) (by decide) rfl (Nat.le_of_ble_eq_true rfl) ?_
  intro pg en st mi ag bl mt cd ls CX hW hl
  have CX : zC pg st mi ag mt cd cX1_forget 1 none RX1 wsX1_forget := CX
  generalize hQ : MQ bl _ ag st 0 0 _ = Q
  have hX0 := CX.1
  have hB0 := CX.2.1
  have hl : lv_has ls 1 [(0, .ref b)] := hl
  obtain ⟨H, eH⟩ : ∃ H, H = st.heap := ⟨_, rfl⟩
  obtain ⟨locs, eL⟩ : ∃ L : List Loc, L = [] := ⟨_, rfl⟩
  have hW : zW D (zT cI cJ cZ cP cS cM) L (zQ L sz) st f st.heap H locs := by rw [eH, eL]; exact hW
  suffices hgo : W pg l en ({ frames := 0, cells := 0, slots := 0, locals := 0 } : Room) st mi ag bl mt cd H locs 0 0 Q (F0 mi 0 ls []) by rw [eH, eL] at hgo; exact hgo
  clear eH eL
  refine lv_aload_n hX0 hB0 dX1_forget_0 rfl (lv_at hl 0 rfl) ?_
  refine lv_iconst (v := zI 0) hX0 hB0 dX1_forget_1 rfl ?_
  refine z_put (Cn := RX1) (T := TX1) (N := 3) CX hW (v := .int (zI 0)) hP.1 rfl (fun w h => List.mem_cons_of_mem _ (List.mem_append_right _ h)) tyX1 tyX1_ok nmX1 0 (by decide) (List.mem_of_getElem? (i := 1) rfl) rfl rfl rfl rfl (Nat.le_of_ble_eq_true rfl) (g := va_up f b (.inr (1, [.int (zI 0), .int (zI nx), .ref (b + 1)]))) rfl dX1_forget_2 (fun H locs hW => ?_)
  rw [← hQ]
  exact z_vret CX hW (by exact ⟨zFr.refl.up (by omega), (va_up_self _ _ _), ((va_up_ne _ _ (by omega)).trans hP.2.1), fun k hk => (hP.2.2 k hk).same (fun q h1 h2 => ((va_up_ne _ _ (by omega)).trans rfl))⟩) dX1_forget_5
/-- the sign of a number within a round of twenty, put against 20 bit by bit -/
def zxr (x : Int) : Int := (zI x ^^^ zI 20).toInt
theorem zxr_of (x : Int) : zI x ^^^ zI 20 = zI (zxr x) := (Int32.ofInt_toInt _).symm
theorem zxr_r (x : Int) : -2147483648 ≤ zxr x ∧ zxr x ≤ 2147483647 := ⟨Int32.le_toInt _, by have := Int32.toInt_lt (zI x ^^^ zI 20); show (zI x ^^^ zI 20).toInt ≤ _; omega⟩
theorem zxr_s {x : Int} (hx : -1 ≤ x ∧ x ≤ 20) : (0 ≤ zxr x ↔ 0 ≤ x) := by
  have key : ∀ k : Fin 22, (0 ≤ zxr ((k.val : Int) - 1) ↔ 0 ≤ (k.val : Int) - 1) := by decide +kernel
  have := key ⟨(x + 1).toNat, by omega⟩
  rw [show (((x + 1).toNat : Nat) : Int) - 1 = x by omega] at this
  exact this
theorem ztm20 {x : Int} (hx : -1 ≤ x ∧ x ≤ 20) : x.tmod 20 = if x = 20 then 0 else x := by
  have key : ∀ k : Fin 22, ((k.val : Int) - 1).tmod 20 = if (k.val : Int) - 1 = 20 then 0 else (k.val : Int) - 1 := by decide +kernel
  have := key ⟨(x + 1).toNat, by omega⟩
  rw [show (((x + 1).toNat : Nat) : Int) - 1 = x by omega] at this
  exact this
/-- a method's walk, from its entry: of a class of which the machine runs some methods itself, not this one -/
theorem zWalk.metF {l : Launch} {y : MethodName} {D : va_G} {tys : List (ClassId × FieldType)} {L : List Nat} {f : Nat → va_E} {cc : ByteArray} {nL : Nat} {ret : Option FieldType} {Ts ws' : List Cond} {sz : Nat} {as : List Value} {rm : Room} {Qc : Array Value → State → Outcome → State → Prop} (hy : plainFor y = true) (hw : Ts = Cond.code y cc nL ret :: ws') (hn : (lg_sl as).length ≤ nL) (h : zWalk l y Ts rm D tys L sz f cc nL ret as Qc) : Met l y Ts rm (zB D tys L sz f as) Qc 0 0 (zQ L sz) := by
  refine va_MetF (cc := cc) (maxL := nL) (ret := ret) hy hw ?_
  intro p e s m args below meth c s₁ B hml hv
  obtain ⟨rfl, ⟨hsz, hP, hD0, ⟨hK, hO⟩, hT⟩, hJ⟩ := hv
  have hl := lv_entry as (n := nL) hn
  rw [lg_entry_eq]
  subst hsz
  refine h p e s m _ below meth c _ ⟨B.exec, B.bytes, hml, findClass_of_methodNamed B.named, atoms_spec (ws := Ts) B.pre, B.notSynchronized, B.returns, hO⟩ ⟨hP, ⟨hD0.1, fun k q hk => ?_⟩, va_S.rf, hK, hJ, fun q h => Or.inr h, hT⟩ hl
  left
  unfold va_pl at hk
  rw [List.getElem?_map] at hk
  cases hL : L[k]? with
  | none => rw [hL] at hk; cases hk
  | some a =>
    rw [hL] at hk
    cases hk
    exact List.mem_of_getElem? hL
end ZPa
