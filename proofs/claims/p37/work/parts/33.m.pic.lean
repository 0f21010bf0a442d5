section ZMd
abbrev zS2 : Type := Nat → Nat → Int
/-- one cell anew -/
def za (S : zS2) (k i : Nat) (x : Int) : zS2 := zset S k (zup (S k) i x)
theorem za_same {S : zS2} {k i : Nat} {x : Int} : za S k i x k i = x := by unfold za; rw [zset_self, zup_self]
theorem za_ne {S : zS2} {k i a b : Nat} {x : Int} (h : ¬ (a = k ∧ b = i)) : za S k i x a b = S a b := by
  unfold za zset
  by_cases e : a = k
  · rw [if_pos e, e, zup_ne _ _ (fun q => h ⟨e, q⟩)]
  · rw [if_neg e]
/-- a value gets a name; ways of a function of it -/
def zlet {α β : Type} (v : α) (k : α → β) : β := k v
theorem zlet_e {α β : Type} {v w : α} {k : α → β} {r : β} (h : v = w) (h2 : k w = r) : zlet v k = r := by subst h; exact h2
theorem zif_t {α : Type} {c : Prop} {hd : Decidable c} {t e r : α} (h : c) (h2 : t = r) : @ite α c hd t e = r := (if_pos h).trans h2
theorem zif_f {α : Type} {c : Prop} {hd : Decidable c} {t e r : α} (h : ¬ c) (h2 : e = r) : @ite α c hd t e = r := (if_neg h).trans h2
def zsum {α β γ : Type} (v : α ⊕ β) (k1 : α → γ) (k2 : β → γ) : γ := match v with
  | .inl a => k1 a
  | .inr b => k2 b
theorem zsum_l {α β γ : Type} {v : α ⊕ β} {k1 : α → γ} {k2 : β → γ} {a : α} {r : γ} (h : v = .inl a) (h2 : k1 a = r) : zsum v k1 k2 = r := by subst h; exact h2
theorem zsum_r {α β γ : Type} {v : α ⊕ β} {k1 : α → γ} {k2 : β → γ} {b : β} {r : γ} (h : v = .inr b) (h2 : k2 b = r) : zsum v k1 k2 = r := by subst h; exact h2
theorem zbox_mul {a b A B : Int} (ha : -A ≤ a ∧ a ≤ A) (hb : -B ≤ b ∧ b ≤ B) {C : Int} (hC : A * B = C) : -C ≤ a * b ∧ a * b ≤ C := by subst hC; exact zmul_abs ha hb
theorem zbox_mul0 {a b A B : Int} (ha : 0 ≤ a ∧ a ≤ A) (hb : 0 ≤ b ∧ b ≤ B) {C : Int} (hC : A * B = C) : 0 ≤ a * b ∧ a * b ≤ C := by subst hC; exact zmul_rng ha hb
theorem ztm0 {n p : Int} (hn : 0 ≤ n) (hp : 0 < p) : 0 ≤ Int.tmod n p ∧ Int.tmod n p < p := ⟨Int.tmod_nonneg p hn, Int.tmod_lt_of_pos n hp⟩
theorem ztd0 {n p : Int} (hn : 0 ≤ n) (hp : 0 < p) : 0 ≤ Int.tdiv n p ∧ Int.tdiv n p ≤ n := by
  have h : Int.tdiv n p = n / p := Int.tdiv_eq_ediv_of_nonneg hn
  rw [h]
  exact ⟨Int.ediv_nonneg hn (by omega), Int.ediv_le_self p hn⟩
def zms (k : Nat) : Nat := [0, 1000, 5, 6000, 81, 12, 41, 41, 41, 6, 105625, 325, 325, 30, 1350, 30, 289, 289, 4, 4000, 3140].getD k 0
/-- the model's cells -/
def zmp (cI cJ : ClassId) (o : Nat) (S : zS2) (j : Nat) : va_E := if j = 0 then .inr (12, [.ref (o + 1), .int (zI (S 0 1)), .ref (o + 2), .int (zI (S 0 3)), .int (zI (S 0 4)), .int (zI (S 0 5)), .int (zI (S 0 6)), .int (zI (S 0 7)), .int (zI (S 0 8)), .int (zI (S 0 9)), .int (zI (S 0 10)), .ref (o + 3), .ref (o + 4), .int (zI (S 0 13)), .ref (o + 5), .int (zI (S 0 15)), .ref (o + 6), .ref (o + 7), .ref (o + 8), .int (zI (S 0 19)), .ref (o + 9), .ref (o + 10), .ref (o + 11), .int (zI (S 0 23)), .int (zI (S 0 24)), .ref (o + 12), .int (zI (S 0 26)), .ref (o + 13), .ref (o + 14), .ref (o + 15), .ref (o + 16), .ref (o + 17), .ref (o + 18), .int (zI (S 0 33)), .ref (o + 19), .int (zI (S 0 35)), .ref (o + 20)]) else if j = 4 then zAL cJ 81 (S 4) else zA cI (zms j) (S j)
section ZMa
variable {cI cJ : ClassId} {o : Nat} {S : zS2} {f : Nat → va_E}
theorem zmp_k {k : Nat} {x : Nat → Int} {j : Nat} (hk : k ≠ 0) (h : j ≠ k) : zmp cI cJ o (zset S k x) j = zmp cI cJ o S j := by
  unfold zmp
  rw [zset_ne _ _ h, zset_ne _ _ (Ne.symm hk)]
  by_cases e : j = 0
  · rw [if_pos e, if_pos e]
  · rw [if_neg e, if_neg e]
    by_cases e4 : j = 4
    · rw [if_pos e4, if_pos e4, ← e4, zset_ne _ _ h]
    · rw [if_neg e4, if_neg e4]
theorem zmp_0 {x : Nat → Int} {j : Nat} (h : j ≠ 0) : zmp cI cJ o (zset S 0 x) j = zmp cI cJ o S j := by
  unfold zmp
  rw [if_neg h, if_neg h, zset_ne _ _ h, zset_ne _ _ (by decide)]
end ZMa
/-- between what each number lies -/
def zbs (i : Nat) (x : Int) : Prop := if i = 1 then (0 ≤ x ∧ x ≤ 1000) else if i = 3 then (0 ≤ x ∧ x ≤ 5) else if i = 4 then (-1 ≤ x ∧ x ≤ 1000) else if i = 5 then (0 ≤ x ∧ x ≤ 1000) else if i = 6 then (0 ≤ x ∧ x ≤ 1000) else if i = 7 then (0 ≤ x ∧ x ≤ 1000) else if i = 8 then (0 ≤ x ∧ x ≤ 5) else if i = 9 then (-1 ≤ x ∧ x ≤ 1000) else if i = 10 then (2 ≤ x ∧ x ≤ 31) else if i = 13 then (0 ≤ x ∧ x ≤ 6) else if i = 15 then (0 ≤ x ∧ x ≤ 6) else if i = 19 then (0 ≤ x ∧ x ≤ 40) else if i = 23 then (0 ≤ x ∧ x ≤ 325) else if i = 24 then (0 ≤ x ∧ x ≤ 325) else if i = 26 then True else if i = 33 then True else if i = 35 then (0 ≤ x ∧ x ≤ 20) else True
def zbk (i : Nat) (x : Int) : Prop := if i % 157 = 0 then (0 ≤ x ∧ x ≤ 6) else if i % 157 < 7 then (0 ≤ x ∧ x ≤ 1073741823) else (0 ≤ x ∧ x ≤ 30)
def zbx (k i : Nat) (x : Int) : Prop := if k = 0 then zbs i x else if k = 1 then (0 ≤ x ∧ x ≤ 255) else if k = 2 then True else if k = 3 then (0 ≤ x ∧ x ≤ 30) else if k = 4 then (0 ≤ x ∧ x ≤ 1000000) else if k = 5 then (0 ≤ x ∧ x ≤ 1073741823) else if k = 6 then True else if k = 7 then (-1 ≤ x ∧ x ≤ 1) else if k = 8 then (0 ≤ x ∧ x ≤ 1000) else if k = 9 then (0 ≤ x ∧ x ≤ 30) else if k = 10 then (-30 ≤ x ∧ x ≤ 30) else if k = 11 then (-1 ≤ x ∧ x ≤ 324) else if k = 12 then (-30 ≤ x ∧ x ≤ 30) else if k = 13 then (0 ≤ x ∧ x ≤ 30) else if k = 14 then (0 ≤ x ∧ x ≤ 30) else if k = 15 then (-1 ≤ x ∧ x ≤ 44) else if k = 16 then (0 ≤ x ∧ x ≤ 30) else if k = 17 then (0 ≤ x ∧ x ≤ 30) else if k = 18 then True else if k = 19 then (0 ≤ x ∧ x ≤ 3) else if k = 20 then zbk i x else True
def mI (S : zS2) : Prop := ∀ k i, zbx k i (S k i)
theorem mI.set {S : zS2} (h : mI S) {k i : Nat} {x : Int} (hx : zbx k i x) : mI (za S k i x) := fun a b => by
  by_cases e : a = k ∧ b = i
  · rw [e.1, e.2, za_same]
    exact hx
  · rw [za_ne e]
    exact h a b
theorem mI.s1 {S : zS2} (h : mI S) : 0 ≤ S 0 1 ∧ S 0 1 ≤ 1000 := h 0 1
theorem mI.v1 {S : zS2} (h : mI S) {x : Int} (hx : 0 ≤ x ∧ x ≤ 1000) : mI (za S 0 1 x) := h.set (show zbx 0 1 x from hx)
theorem mI.s3 {S : zS2} (h : mI S) : 0 ≤ S 0 3 ∧ S 0 3 ≤ 5 := h 0 3
theorem mI.v3 {S : zS2} (h : mI S) {x : Int} (hx : 0 ≤ x ∧ x ≤ 5) : mI (za S 0 3 x) := h.set (show zbx 0 3 x from hx)
theorem mI.s4 {S : zS2} (h : mI S) : -1 ≤ S 0 4 ∧ S 0 4 ≤ 1000 := h 0 4
theorem mI.v4 {S : zS2} (h : mI S) {x : Int} (hx : -1 ≤ x ∧ x ≤ 1000) : mI (za S 0 4 x) := h.set (show zbx 0 4 x from hx)
theorem mI.s5 {S : zS2} (h : mI S) : 0 ≤ S 0 5 ∧ S 0 5 ≤ 1000 := h 0 5
theorem mI.v5 {S : zS2} (h : mI S) {x : Int} (hx : 0 ≤ x ∧ x ≤ 1000) : mI (za S 0 5 x) := h.set (show zbx 0 5 x from hx)
theorem mI.s6 {S : zS2} (h : mI S) : 0 ≤ S 0 6 ∧ S 0 6 ≤ 1000 := h 0 6
theorem mI.v6 {S : zS2} (h : mI S) {x : Int} (hx : 0 ≤ x ∧ x ≤ 1000) : mI (za S 0 6 x) := h.set (show zbx 0 6 x from hx)
theorem mI.s7 {S : zS2} (h : mI S) : 0 ≤ S 0 7 ∧ S 0 7 ≤ 1000 := h 0 7
theorem mI.v7 {S : zS2} (h : mI S) {x : Int} (hx : 0 ≤ x ∧ x ≤ 1000) : mI (za S 0 7 x) := h.set (show zbx 0 7 x from hx)
theorem mI.s8 {S : zS2} (h : mI S) : 0 ≤ S 0 8 ∧ S 0 8 ≤ 5 := h 0 8
theorem mI.v8 {S : zS2} (h : mI S) {x : Int} (hx : 0 ≤ x ∧ x ≤ 5) : mI (za S 0 8 x) := h.set (show zbx 0 8 x from hx)
theorem mI.s9 {S : zS2} (h : mI S) : -1 ≤ S 0 9 ∧ S 0 9 ≤ 1000 := h 0 9
theorem mI.v9 {S : zS2} (h : mI S) {x : Int} (hx : -1 ≤ x ∧ x ≤ 1000) : mI (za S 0 9 x) := h.set (show zbx 0 9 x from hx)
theorem mI.s10 {S : zS2} (h : mI S) : 2 ≤ S 0 10 ∧ S 0 10 ≤ 31 := h 0 10
theorem mI.v10 {S : zS2} (h : mI S) {x : Int} (hx : 2 ≤ x ∧ x ≤ 31) : mI (za S 0 10 x) := h.set (show zbx 0 10 x from hx)
theorem mI.s13 {S : zS2} (h : mI S) : 0 ≤ S 0 13 ∧ S 0 13 ≤ 6 := h 0 13
theorem mI.v13 {S : zS2} (h : mI S) {x : Int} (hx : 0 ≤ x ∧ x ≤ 6) : mI (za S 0 13 x) := h.set (show zbx 0 13 x from hx)
theorem mI.s15 {S : zS2} (h : mI S) : 0 ≤ S 0 15 ∧ S 0 15 ≤ 6 := h 0 15
theorem mI.v15 {S : zS2} (h : mI S) {x : Int} (hx : 0 ≤ x ∧ x ≤ 6) : mI (za S 0 15 x) := h.set (show zbx 0 15 x from hx)
theorem mI.s19 {S : zS2} (h : mI S) : 0 ≤ S 0 19 ∧ S 0 19 ≤ 40 := h 0 19
theorem mI.v19 {S : zS2} (h : mI S) {x : Int} (hx : 0 ≤ x ∧ x ≤ 40) : mI (za S 0 19 x) := h.set (show zbx 0 19 x from hx)
theorem mI.s23 {S : zS2} (h : mI S) : 0 ≤ S 0 23 ∧ S 0 23 ≤ 325 := h 0 23
theorem mI.v23 {S : zS2} (h : mI S) {x : Int} (hx : 0 ≤ x ∧ x ≤ 325) : mI (za S 0 23 x) := h.set (show zbx 0 23 x from hx)
theorem mI.s24 {S : zS2} (h : mI S) : 0 ≤ S 0 24 ∧ S 0 24 ≤ 325 := h 0 24
theorem mI.v24 {S : zS2} (h : mI S) {x : Int} (hx : 0 ≤ x ∧ x ≤ 325) : mI (za S 0 24 x) := h.set (show zbx 0 24 x from hx)
theorem mI.v26 {S : zS2} (h : mI S) {x : Int} : mI (za S 0 26 x) := h.set (show zbx 0 26 x from trivial)
theorem mI.v33 {S : zS2} (h : mI S) {x : Int} : mI (za S 0 33 x) := h.set (show zbx 0 33 x from trivial)
theorem mI.s35 {S : zS2} (h : mI S) : 0 ≤ S 0 35 ∧ S 0 35 ≤ 20 := h 0 35
theorem mI.v35 {S : zS2} (h : mI S) {x : Int} (hx : 0 ≤ x ∧ x ≤ 20) : mI (za S 0 35 x) := h.set (show zbx 0 35 x from hx)
theorem mI.r1 {S : zS2} (h : mI S) (i : Nat) : 0 ≤ S 1 i ∧ S 1 i ≤ 255 := h 1 i
theorem mI.w1 {S : zS2} (h : mI S) {i : Nat} {x : Int} (hx : 0 ≤ x ∧ x ≤ 255) : mI (za S 1 i x) := h.set (show zbx 1 i x from hx)
theorem mI.w2 {S : zS2} (h : mI S) {i : Nat} {x : Int} : mI (za S 2 i x) := h.set (show zbx 2 i x from trivial)
theorem mI.r3 {S : zS2} (h : mI S) (i : Nat) : 0 ≤ S 3 i ∧ S 3 i ≤ 30 := h 3 i
theorem mI.w3 {S : zS2} (h : mI S) {i : Nat} {x : Int} (hx : 0 ≤ x ∧ x ≤ 30) : mI (za S 3 i x) := h.set (show zbx 3 i x from hx)
theorem mI.r4 {S : zS2} (h : mI S) (i : Nat) : 0 ≤ S 4 i ∧ S 4 i ≤ 1000000 := h 4 i
theorem mI.w4 {S : zS2} (h : mI S) {i : Nat} {x : Int} (hx : 0 ≤ x ∧ x ≤ 1000000) : mI (za S 4 i x) := h.set (show zbx 4 i x from hx)
theorem mI.r5 {S : zS2} (h : mI S) (i : Nat) : 0 ≤ S 5 i ∧ S 5 i ≤ 1073741823 := h 5 i
theorem mI.w5 {S : zS2} (h : mI S) {i : Nat} {x : Int} (hx : 0 ≤ x ∧ x ≤ 1073741823) : mI (za S 5 i x) := h.set (show zbx 5 i x from hx)
theorem mI.w6 {S : zS2} (h : mI S) {i : Nat} {x : Int} : mI (za S 6 i x) := h.set (show zbx 6 i x from trivial)
theorem mI.r7 {S : zS2} (h : mI S) (i : Nat) : -1 ≤ S 7 i ∧ S 7 i ≤ 1 := h 7 i
theorem mI.w7 {S : zS2} (h : mI S) {i : Nat} {x : Int} (hx : -1 ≤ x ∧ x ≤ 1) : mI (za S 7 i x) := h.set (show zbx 7 i x from hx)
theorem mI.r8 {S : zS2} (h : mI S) (i : Nat) : 0 ≤ S 8 i ∧ S 8 i ≤ 1000 := h 8 i
theorem mI.w8 {S : zS2} (h : mI S) {i : Nat} {x : Int} (hx : 0 ≤ x ∧ x ≤ 1000) : mI (za S 8 i x) := h.set (show zbx 8 i x from hx)
theorem mI.r9 {S : zS2} (h : mI S) (i : Nat) : 0 ≤ S 9 i ∧ S 9 i ≤ 30 := h 9 i
theorem mI.w9 {S : zS2} (h : mI S) {i : Nat} {x : Int} (hx : 0 ≤ x ∧ x ≤ 30) : mI (za S 9 i x) := h.set (show zbx 9 i x from hx)
theorem mI.r10 {S : zS2} (h : mI S) (i : Nat) : -30 ≤ S 10 i ∧ S 10 i ≤ 30 := h 10 i
theorem mI.w10 {S : zS2} (h : mI S) {i : Nat} {x : Int} (hx : -30 ≤ x ∧ x ≤ 30) : mI (za S 10 i x) := h.set (show zbx 10 i x from hx)
theorem mI.r11 {S : zS2} (h : mI S) (i : Nat) : -1 ≤ S 11 i ∧ S 11 i ≤ 324 := h 11 i
theorem mI.w11 {S : zS2} (h : mI S) {i : Nat} {x : Int} (hx : -1 ≤ x ∧ x ≤ 324) : mI (za S 11 i x) := h.set (show zbx 11 i x from hx)
theorem mI.r12 {S : zS2} (h : mI S) (i : Nat) : -30 ≤ S 12 i ∧ S 12 i ≤ 30 := h 12 i
theorem mI.w12 {S : zS2} (h : mI S) {i : Nat} {x : Int} (hx : -30 ≤ x ∧ x ≤ 30) : mI (za S 12 i x) := h.set (show zbx 12 i x from hx)
theorem mI.r13 {S : zS2} (h : mI S) (i : Nat) : 0 ≤ S 13 i ∧ S 13 i ≤ 30 := h 13 i
theorem mI.w13 {S : zS2} (h : mI S) {i : Nat} {x : Int} (hx : 0 ≤ x ∧ x ≤ 30) : mI (za S 13 i x) := h.set (show zbx 13 i x from hx)
theorem mI.r14 {S : zS2} (h : mI S) (i : Nat) : 0 ≤ S 14 i ∧ S 14 i ≤ 30 := h 14 i
theorem mI.w14 {S : zS2} (h : mI S) {i : Nat} {x : Int} (hx : 0 ≤ x ∧ x ≤ 30) : mI (za S 14 i x) := h.set (show zbx 14 i x from hx)
theorem mI.r15 {S : zS2} (h : mI S) (i : Nat) : -1 ≤ S 15 i ∧ S 15 i ≤ 44 := h 15 i
theorem mI.w15 {S : zS2} (h : mI S) {i : Nat} {x : Int} (hx : -1 ≤ x ∧ x ≤ 44) : mI (za S 15 i x) := h.set (show zbx 15 i x from hx)
theorem mI.r16 {S : zS2} (h : mI S) (i : Nat) : 0 ≤ S 16 i ∧ S 16 i ≤ 30 := h 16 i
theorem mI.w16 {S : zS2} (h : mI S) {i : Nat} {x : Int} (hx : 0 ≤ x ∧ x ≤ 30) : mI (za S 16 i x) := h.set (show zbx 16 i x from hx)
theorem mI.r17 {S : zS2} (h : mI S) (i : Nat) : 0 ≤ S 17 i ∧ S 17 i ≤ 30 := h 17 i
theorem mI.w17 {S : zS2} (h : mI S) {i : Nat} {x : Int} (hx : 0 ≤ x ∧ x ≤ 30) : mI (za S 17 i x) := h.set (show zbx 17 i x from hx)
theorem mI.w18 {S : zS2} (h : mI S) {i : Nat} {x : Int} : mI (za S 18 i x) := h.set (show zbx 18 i x from trivial)
theorem mI.r19 {S : zS2} (h : mI S) (i : Nat) : 0 ≤ S 19 i ∧ S 19 i ≤ 3 := h 19 i
theorem mI.w19 {S : zS2} (h : mI S) {i : Nat} {x : Int} (hx : 0 ≤ x ∧ x ≤ 3) : mI (za S 19 i x) := h.set (show zbx 19 i x from hx)
theorem mI.r20 {S : zS2} (h : mI S) (i : Nat) : zbk i (S 20 i) := h 20 i
theorem mI.w20 {S : zS2} (h : mI S) {i : Nat} {x : Int} (hx : zbk i x) : mI (za S 20 i x) := h.set (show zbx 20 i x from hx)
end ZMd
