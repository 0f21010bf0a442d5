section ZJm
/-- the fault of the class is as it was -/
def zk2 (S S' : zS2) : Prop := S' 0 1 = S 0 1 ∧ S' 0 2 = S 0 2
theorem zk2.rf {S : zS2} : zk2 S S := ⟨rfl, rfl⟩
theorem zk2.tr {S S' S'' : zS2} (h : zk2 S S') (h2 : zk2 S' S'') : zk2 S S'' := ⟨h2.1.trans h.1, h2.2.trans h.2⟩
theorem zk2.sr {S : zS2} (x : Int) : zk2 S (zsr S x (S 0 1) (S 0 2)) := ⟨(zsr_0 S x _ _).2.1, (zsr_0 S x _ _).2.2.1⟩
theorem zk2.st {S : zS2} {k : Nat} (h : k ≠ 0) (c : Nat → Int) : zk2 S (zset S k c) := ⟨by rw [zset_ne _ _ (Ne.symm h)], by rw [zset_ne _ _ (Ne.symm h)]⟩
theorem zk2.sd {S : zS2} (a c : Int) : zk2 S (zsd S a c) := ⟨(zsd_0 S a c).2.2.1 1 (by decide) (by decide), (zsd_0 S a c).2.2.1 2 (by decide) (by decide)⟩
theorem zk2.sk {n : Int} {T : Nat → Int} {S : zS2} : zk2 S (zskS n T S) := zk2.sr _
theorem zk2.tk {n : Int} {T : Nat → Int} {sg : Int} {S : zS2} : zk2 S (ztk n T sg S).2 := by
  unfold ztk
  split
  · exact zk2.sr _
  · exact zk2.sk
theorem zk2.rn {n : Int} {T : Nat → Int} {S : zS2} : zk2 S (zrn n T S).2 := zk2.sr _
/-- no fault, or the old one -/
def zK2 (S : zS2) (C : Int × zS2) : Prop := C.1 = 0 ∨ zk2 S C.2
theorem zK2.xp {n : Int} {T : Nat → Int} {sg : Int} {S : zS2} : zK2 S (zxp n T sg S) := by
  unfold zxp
  split
  · exact Or.inl rfl
  · exact Or.inr zk2.tk
theorem zK2.ra {n : Int} {T : Nat → Int} {S : zS2} : zK2 S (zra n T S) := by
  unfold zra
  split
  · split
    · exact Or.inl rfl
    · refine Or.inr ?_
      unfold zra2
      exact (zk2.st (by decide) _).tr (zk2.sr _)
  · unfold zra1
    split
    · exact Or.inl rfl
    · exact Or.inr (zk2.rn.tr (zk2.st (by decide) _))
theorem zk2.mS {S : zS2} {c d : Nat} (h : c ≠ 0) : zk2 S (zmS S c d) := by
  unfold zmS
  exact (zk2.st (by decide) _).tr (zk2.st h _)
theorem zk2.pw : ∀ (j : Nat) (S : zS2), zk2 S (zpwF j S).2
  | 0, S => zk2.rf
  | j + 1, S => by
    unfold zpwF
    split
    · exact zk2.mS (by decide)
    · exact (zk2.mS (by decide)).tr (zk2.pw j _)
theorem zK2.rf3 {o : Nat} {stt pw : Int} {S : zS2} : zK2 S (zrf3 o stt pw S) := by
  have h : zk2 S (zpwF (pw - 0).toNat (zset S 5 (zone 1))).2 := (zk2.st (by decide) _).tr (zk2.pw _ _)
  unfold zrf3
  generalize (zpwF (pw - 0).toNat (zset S 5 (zone 1))) = X at h ⊢
  split
  · exact Or.inl rfl
  · unfold zrf4
    split
    · exact Or.inl rfl
    · exact Or.inr (h.tr (zk2.mS (by omega)))
theorem zK2.up {S S1 : zS2} {C : Int × zS2} (h : zK2 S1 C) (h0 : zk2 S S1) : zK2 S C := h.elim Or.inl (fun z => Or.inr (h0.tr z))
theorem zK2.rf2 {n : Int} {T : Nat → Int} {o : Nat} {stt : Int} {S : zS2} : zK2 S (zrf2 n T o stt S) := by
  unfold zrf2
  split
  · exact Or.inl rfl
  · split
    · exact Or.inl rfl
    · exact zK2.rf3.up zk2.rn
theorem zK2.rf {n : Int} {T : Nat → Int} {o : Nat} {stt : Int} {S : zS2} : zK2 S (zrf n T o stt S) := by
  unfold zrf
  split
  · exact zK2.rf3.up zk2.tk
  · exact zK2.rf2.up (zk2.tk.tr zk2.sk)
theorem zk2.ct {o : Nat} {S : zS2} : zk2 S (zct o S) := by
  unfold zct
  exact (zk2.st (by omega) _).tr (zk2.st (by omega) _)
theorem zk2.cl {o : Nat} {S : zS2} : zk2 S (zcl o S) := by
  unfold zcl
  exact zk2.ct.tr (zk2.st (by decide) _)
theorem zk2.bg2 {o : Nat} {q : Int × zS2} : zk2 q.2 (zbg2 o q) := by
  unfold zbg2
  exact zk2.st (by decide) _
theorem zk2.bg {n : Int} {T : Nat → Int} {o : Nat} {S : zS2} : zk2 S (zbg n T o S) := by
  unfold zbg zbg1
  exact (((zk2.st (by omega) _).tr (zk2.st (by omega) _)).tr zk2.tk).tr zk2.bg2
theorem zK2.cw {n : Int} {T : Nat → Int} : ∀ (m : Nat) (S : zS2), (zcw n T m S).1 = 0 ∨ zk2 S (zcw n T m S).2.2
  | 0, S => Or.inr zk2.rf
  | m + 1, S => by
    rw [zcw_s]
    have h1 : zk2 S (zcl (m + 1) (ztk n T 41 S).2) := zk2.tk.tr zk2.cl
    have h2 := zK2.rf (n := n) (T := T) (o := m) (stt := zcl (m + 1) (ztk n T 41 S).2 3 m) (S := zcl (m + 1) (ztk n T 41 S).2)
    split
    · exact Or.inr zk2.tk
    · generalize zcl (m + 1) (ztk n T 41 S).2 = X at h1 h2 ⊢
      generalize zrf n T m (X 3 m) X = Y at h2 ⊢
      split
      · exact Or.inl rfl
      · rename_i q
        rcases h2 with a | a
        · exact absurd a q
        · rcases zK2.cw m Y.2 with z | z
          · exact Or.inl z
          · exact Or.inr ((h1.tr a).tr z)
/-- the same of what follows a FACTOR -/
def zK4 (S : zS2) (C : Int × Int × Nat × zS2) : Prop := (C.1 = 0 ∧ C.2.1 = 0) ∨ zk2 S C.2.2.2
theorem zK4.up {S S1 : zS2} {C : Int × Int × Nat × zS2} (h : zK4 S1 C) (h0 : zk2 S S1) : zK4 S C := h.elim Or.inl (fun z => Or.inr (h0.tr z))
theorem zK4.rs3 {n : Int} {T : Nat → Int} {o : Nat} {S : zS2} : zK4 S (zrs3 n T o S) := by
  unfold zrs3
  split
  · split
    · exact Or.inr zk2.tk
    · exact Or.inl ⟨rfl, rfl⟩
  · exact Or.inr zk2.tk
theorem zK4.rs2 {n : Int} {T : Nat → Int} {o : Nat} {S : zS2} : zK4 S (zrs2 n T o S) := by
  have h : zk2 S (zbg2 o (ztk n T 45 (zct o (ztk n T 42 S).2))) := ((zk2.tk.tr zk2.ct).tr zk2.tk).tr zk2.bg2
  unfold zrs2
  split
  · split
    · exact zK4.rs3.up h
    · exact Or.inr h
  · exact Or.inr zk2.tk
theorem zK4.rs1 {n : Int} {T : Nat → Int} {o : Nat} {stt : Int} {S : zS2} : zK4 S (zrs1 n T o stt S) := by
  have h1 := zK2.ra (n := n) (T := T) (S := S)
  unfold zrs1
  generalize zra n T S = A at h1 ⊢
  split
  · exact Or.inl ⟨rfl, rfl⟩
  · rename_i qa
    have h2 := zK2.rf (n := n) (T := T) (o := o) (stt := stt) (S := A.2)
    generalize zrf n T o stt A.2 = B at h2 ⊢
    split
    · exact Or.inl ⟨rfl, rfl⟩
    · rename_i qb
      have h3 := zK2.cw (n := n) (T := T) o B.2
      generalize zcw n T o B.2 = C at h3 ⊢
      split
      · exact Or.inl ⟨rfl, rfl⟩
      · rename_i qc
        rcases h1 with a | a
        · exact absurd a qa
        · rcases h2 with b | b
          · exact absurd b qb
          · rcases h3 with c | c
            · exact absurd c qc
            · exact zK4.rs2.up ((a.tr b).tr c)
theorem zK4.rs0 {n : Int} {T : Nat → Int} {o : Nat} {S : zS2} : zK4 S (zrs0 n T o S) := by
  have h : zk2 S (ztk n T 40 (zskS n T S)).2 := zk2.sk.tr zk2.tk
  unfold zrs0
  split
  · exact zK4.rs1.up h
  · split
    · exact Or.inl ⟨rfl, rfl⟩
    · exact Or.inr ((h.tr (zk2.st (by decide) _)).tr zk2.bg)
theorem zK2.rsF {n : Int} {T : Nat → Int} : ∀ (m o : Nat) (S : zS2), zK2 S (zrsF n T m o S)
  | 0, o, S => Or.inl rfl
  | m + 1, o, S => by
    have h := zK4.rs0 (n := n) (T := T) (o := o) (S := S)
    rw [zrsF_s]
    generalize zrs0 n T o S = X at h ⊢
    split
    · rcases h with a | a
      · exact Or.inl a.2
      · exact Or.inr a
    · rename_i q
      rcases h with a | a
      · exact absurd a.1 q
      · exact (zK2.rsF m _ _).up a
theorem zK2.rs {n : Int} {T : Nat → Int} {S : zS2} : zK2 S (zrs n T S) := by
  unfold zrs
  exact (zK2.rsF _ _ _).up zk2.bg
theorem zK2.nm {n : Int} {T : Nat → Int} {S : zS2} : zK2 S (zrnm n T S) := by
  unfold zrnm zrnm0
  split
  · exact Or.inl rfl
  · unfold zrnm1
    split
    · exact Or.inr ⟨rfl, rfl⟩
    · exact Or.inl rfl
theorem zK2.rc3 {nm : Int} {S : zS2} : zK2 S (zrc3 nm S) := by
  unfold zrc3
  split
  · exact Or.inl rfl
  · exact Or.inr ((zk2.st (by omega) _).tr (zk2.sd _ _))
/-- two steps, both well -/
theorem zK2.an {S : zS2} {C : Int × zS2} {D : Int × zS2} (h : zK2 S C) (h1 : C.1 = 0 → D.1 = 0) (h2 : zk2 S C.2 → zK2 S D) : zK2 S D := h.elim (fun z => Or.inl (h1 z)) h2
theorem zK2.rc2 {n : Int} {T : Nat → Int} {nm : Int} {S : zS2} : zK2 S (zrc2 n T nm S) := by
  have h1 := zK2.rs (n := n) (T := T) (S := S)
  unfold zrc2
  generalize zrs n T S = A at h1 ⊢
  split
  · exact Or.inl rfl
  · rename_i qa
    have h2 := zK2.xp (n := n) (T := T) (sg := 59) (S := A.2)
    generalize zxp n T 59 A.2 = B at h2 ⊢
    split
    · exact Or.inl rfl
    · rename_i qb
      rcases h1 with a | a
      · exact absurd a qa
      · rcases h2 with b | b
        · exact absurd b qb
        · exact zK2.rc3.up (a.tr b)
theorem zK2.rc1 {n : Int} {T : Nat → Int} {S : zS2} : zK2 S (zrc1 n T S) := by
  have h1 := zK2.nm (n := n) (T := T) (S := S)
  unfold zrc1
  generalize zrnm n T S = A at h1 ⊢
  split
  · exact Or.inl rfl
  · rename_i qa
    have h2 := zK2.xp (n := n) (T := T) (sg := 61) (S := A.2)
    generalize zxp n T 61 A.2 = B at h2 ⊢
    split
    · exact Or.inl rfl
    · rename_i qb
      rcases h1 with a | a
      · exact absurd a qa
      · rcases h2 with b | b
        · exact absurd b qb
        · exact zK2.rc2.up (a.tr b)
theorem zK2.rc {n : Int} {T : Nat → Int} {S : zS2} : zK2 S (zrc n T S) := by
  unfold zrc
  split
  · exact Or.inl rfl
  · split
    · exact Or.inl rfl
    · exact zK2.rc1.up ((zk2.sr _).tr zk2.sk)
theorem zK2.fd2 {n : Int} {T : Nat → Int} {a : Int} {q : Int × zS2} : zK2 q.2 (zrfd2 n T a q) := by
  unfold zrfd2
  split
  · exact Or.inl rfl
  · exact zK2.xp.up (zk2.sd _ _)
theorem zK2.fd1 {n : Int} {T : Nat → Int} {S : zS2} : zK2 S (zrfd1 n T S) := by
  unfold zrfd1
  split
  · exact Or.inl rfl
  · exact zK2.fd2.up zk2.rn
theorem zK2.fd0 {n : Int} {T : Nat → Int} {S : zS2} : zK2 S (zrfd0 n T S) := by
  unfold zrfd0
  split
  · exact zK2.fd1.up zk2.sk
  · exact Or.inl rfl
theorem zK2.fd {n : Int} {T : Nat → Int} {S : zS2} : zK2 S (zrfd n T S) := by
  unfold zrfd
  exact zK2.fd0.up (zk2.sr _)
theorem zK2.tF {n : Int} {T : Nat → Int} : ∀ (m : Nat) (S : zS2), zK2 S (zrtF n T m S)
  | 0, S => Or.inr zk2.rf
  | m + 1, S => by
    have h := zK2.rc (n := n) (T := T) (S := zskS n T S)
    rw [zrtF_s]
    split
    · exact Or.inr zk2.sk
    · generalize zrc n T (zskS n T S) = X at h ⊢
      split
      · exact Or.inl rfl
      · rename_i q
        rcases h with a | a
        · exact absurd a q
        · exact (zK2.tF m _).up (zk2.sk.tr a)
theorem zK2.t1 {n : Int} {T : Nat → Int} {S : zS2} : zK2 S (zrt1 n T S) := by
  unfold zrt1
  split
  · exact zK2.tF _ _
  · have h := zK2.fd (n := n) (T := T) (S := S)
    generalize zrfd n T S = X at h ⊢
    split
    · exact Or.inl rfl
    · rename_i q
      rcases h with a | a
      · exact absurd a q
      · exact (zK2.tF _ _).up a
/-- a text that is well leaves no fault -/
theorem zrt_kept {n : Int} {T : Nat → Int} {S : zS2} (h : ¬ (zrt n T S).1 = 0) : (zrt n T S).2 0 1 = 0 ∧ (zrt n T S).2 0 2 = -1 := by
  unfold zrt at h ⊢
  obtain ⟨X, hX⟩ : ∃ X, X = zskS n T (zsd (zsr S 0 0 (-1)) 7 0) := ⟨_, rfl⟩
  have k : zk2 (zsr S 0 0 (-1)) X := by
    rw [hX]
    exact (zk2.sd _ _).tr zk2.sk
  rw [← hX] at h ⊢
  rcases zK2.t1 (n := n) (T := T) (S := X) with z | z
  · exact absurd z h
  · have z2 := k.tr z
    obtain ⟨a1, a2, a3, _⟩ := zsr_0 S 0 0 (-1)
    exact ⟨z2.1.trans a2, z2.2.trans a3⟩
end ZJm
