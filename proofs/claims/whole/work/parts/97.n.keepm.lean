section ZJn
/-- the fault of the model is as it was, where none stands -/
def zg9 (S S' : zS2) : Prop := S' 0 8 = 0 → S' 0 9 = S 0 9 ∧ S 0 8 = 0
theorem zg9.rf {S : zS2} : zg9 S S := fun h => ⟨rfl, h⟩
theorem zg9.tr {S S' S'' : zS2} (h : zg9 S S') (h2 : zg9 S' S'') : zg9 S S'' := fun z => by
  obtain ⟨a, b⟩ := h2 z
  obtain ⟨c, d⟩ := h b
  exact ⟨a.trans c, d⟩
theorem zg9.zw {S : zS2} {k i : Nat} {x : Int} (h : ¬ (k = 0 ∧ (i = 8 ∨ i = 9))) : zg9 S (za S k i x) := fun z => by
  rw [za_ne (by omega)] at z
  rw [za_ne (by omega)]
  exact ⟨rfl, z⟩
theorem zg9.flt {S : zS2} {k a : Int} (h : k ≠ 0) : zg9 S (zm_faults S k a) := fun z => by
  by_cases c : S 0 8 = 0
  · rw [zs_faults c, za_ne (by omega), za_same] at z
    exact absurd z h
  · have e : zm_faults S k a = S := if_neg c
    rw [e] at z
    exact absurd z c
theorem zg9.for {step : Int → zS2 → zS2} (h : ∀ i s, zg9 s (step i s)) {a : Int} {S : zS2} : ∀ m : Nat, zg9 S (zfor step a S m)
  | 0 => zg9.rf
  | m + 1 => (zg9.for h m).tr (h (a + m) (zfor step a S m))
theorem zg9.hereW : ∀ (fu : Nat) (S : zS2), zg9 S (zm_here_W0 fu S)
  | 0, S => zg9.rf
  | fu + 1, S => by
    simp only [zm_here_W0, zlet_v]
    split
    · exact (zg9.zw (by omega)).tr (zg9.hereW fu _)
    · split
      · exact (zg9.zw (by omega)).tr (zg9.hereW fu _)
      · exact zg9.rf
theorem zg9.here {S : zS2} : zg9 S (zm_here S).2 := by
  have h := zg9.hereW 1001 S
  unfold zm_here
  generalize zm_here_W0 1001 S = X at h ⊢
  simp only [zlet_v]
  exact h
theorem zg9.isM {S : zS2} {c : Int} : zg9 S (zm_isMark S c).2 := by
  have h := zg9.here (S := S)
  unfold zm_isMark
  generalize zm_here S = X at h ⊢
  simp only [zlet_v]
  split
  · exact zg9.rf
  · split
    · exact h
    · exact h
theorem zg9.mark {S : zS2} {c : Int} : zg9 S (zm_mark S c) := by
  have h := zg9.here (S := S)
  unfold zm_mark
  generalize zm_here S = X at h ⊢
  simp only [zlet_v]
  split
  · exact zg9.rf
  · split
    · exact h.tr (zg9.zw (by omega))
    · exact h.tr (zg9.flt (by decide))
theorem zg9.isW {S : zS2} : zg9 S (zm_isWordHere S).2 := by
  have h := zg9.here (S := S)
  unfold zm_isWordHere
  generalize zm_here S = X at h ⊢
  simp only [zlet_v]
  repeat' split
  all_goals exact h
theorem zg9.wordW : ∀ (fu : Nat) (S : zS2), zg9 S (zm_word_W33 fu S)
  | 0, S => zg9.rf
  | fu + 1, S => by
    simp only [zm_word_W33, zlet_v]
    split
    · exact zg9.rf
    · exact (zg9.zw (by omega)).tr (zg9.wordW fu _)
theorem zg9.word {S : zS2} : zg9 S (zm_word S) := by
  have h := zg9.isW (S := S)
  have hW := zg9.wordW 1001
  unfold zm_word
  generalize zm_word_W33 1001 = W at hW ⊢
  generalize zm_isWordHere S = X at h ⊢
  simp only [zlet_v]
  split
  · exact zg9.rf
  · split
    · exact h.tr (zg9.flt (by decide))
    · exact (h.tr (zg9.zw (by omega))).tr (hW _)
theorem zg9.numW : ∀ (fu : Nat) (v : Int) (S : zS2), zg9 S (zm_number_W72 fu v S).2
  | 0, v, S => zg9.rf
  | fu + 1, v, S => by
    simp only [zm_number_W72, zlet_v]
    split
    · exact zg9.rf
    · split
      · exact (zg9.zw (by omega)).tr (zg9.numW fu _ _)
      · exact (zg9.zw (by omega)).tr (zg9.numW fu _ _)
theorem zg9.num {S : zS2} : zg9 S (zm_number S).2 := by
  have h := zg9.here (S := S)
  have hW := zg9.numW 1001 0
  unfold zm_number
  generalize zm_number_W72 1001 0 = W at hW ⊢
  generalize zm_here S = X at h ⊢
  have h2 : zg9 S (za X.2 0 7 (X.2 0 6)) := h.tr (zg9.zw (by omega))
  have h3 := h2.tr (hW (za X.2 0 7 (X.2 0 6)))
  simp only [zlet_v]
  generalize za X.2 0 7 (X.2 0 6) = Y at h2 h3 ⊢
  generalize W Y = Z at h3 ⊢
  repeat' split
  all_goals first | exact zg9.rf | exact h3 | exact h2.tr (zg9.flt (by decide)) | exact h3.tr (zg9.flt (by decide))
theorem zg9.comes {S : zS2} : zg9 S (zm_comes S).2 := by
  have qI := @zg9.isW
  have qW := @zg9.word
  unfold zm_comes
  generalize zm_isWordHere = fI at qI ⊢
  generalize zm_word = fW at qW ⊢
  generalize zm_own = fO
  simp only [zlet_v]
  have h : zg9 S (fI S).2 := qI
  generalize fI S = X at h ⊢
  have h2 : zg9 S (fW X.2) := h.tr qW
  generalize fW X.2 = Y at h2 ⊢
  split
  · exact h
  · exact h2.tr (zg9.zw (by omega))
theorem zg9.empties {S : zS2} {g : Int} : zg9 S (zm_empties S g) := by
  unfold zm_empties
  generalize (24 + 1 - 0 : Int).toNat = m
  rw [zlet_v]
  refine zg9.for (fun i s => ?_) _
  unfold zm_empties_L2
  simp only [zlet_v]
  exact zg9.zw (by omega)
theorem zg9.sets {S : zS2} {g i j v : Int} : zg9 S (zm_sets S g i j v) := by
  unfold zm_sets
  simp only [zlet_v]
  exact zg9.zw (by omega)
theorem zg9.adds {S : zS2} {to fr b : Int} : zg9 S (zm_adds S to fr b) := by
  have hS := @zg9.sets
  unfold zm_adds
  generalize (4 + 1 - 0 : Int).toNat = m
  rw [zlet_v]
  refine zg9.for (fun i s => ?_) _
  unfold zm_adds_L3
  generalize (4 + 1 - 0 : Int).toNat = m
  dsimp only
  rw [zlet_v]
  refine zg9.for (fun i s => ?_) _
  unfold zm_adds_L12
  generalize zm_sets = F at hS ⊢
  dsimp only
  rw [zlet_v, zlet_v, zlet_v]
  exact hS
theorem zg9.copies {S : zS2} {to fr : Int} : zg9 S (zm_copies S to fr) := by
  unfold zm_copies
  generalize (24 + 1 - 0 : Int).toNat = m
  rw [zlet_v]
  refine zg9.for (fun i s => ?_) _
  unfold zm_copies_L2
  simp only [zlet_v]
  exact zg9.zw (by omega)
theorem zg9_W161 {S : zS2} {i : Int} : ∀ (fu : Nat) (j : Int) (r : Int × zS2), zm_multiplies_W161 S i fu j = .inl r → r = (0, S)
  | 0, j, r, h => by simp only [zm_multiplies_W161] at h; exact absurd h (by simp)
  | fu + 1, j, r, h => by
    simp only [zm_multiplies_W161] at h
    split at h
    · exact absurd h (by simp)
    · split at h
      · exact zg9_W161 fu _ r h
      · split at h
        · exact zg9_W161 fu _ r h
        · exact (Sum.inl.inj h).symm
theorem zg9_W151 {S : zS2} : ∀ (fu : Nat) (i : Int) (r : Int × zS2), zm_multiplies_W151 S fu i = .inl r → r = (0, S)
  | 0, i, r, h => by simp only [zm_multiplies_W151] at h; exact absurd h (by simp)
  | fu + 1, i, r, h => by
    simp only [zm_multiplies_W151] at h
    split at h
    · exact absurd h (by simp)
    · have h2 := zg9_W161 (S := S) (i := i) 10 0
      generalize zm_multiplies_W161 S i 10 0 = Y at h h2
      cases Y with
      | inl a =>
        have e : a = r := Sum.inl.inj h
        rw [← e]
        exact h2 a rfl
      | inr b => exact zg9_W151 fu _ r h
theorem zg9.mul {S : zS2} {to a b : Int} : zg9 S (zm_multiplies S to a b).2 := by
  have h3 : ∀ m S, zg9 S (zfor zm_multiplies_L3 0 S m) := fun m S => zg9.for (fun i s => by
    unfold zm_multiplies_L3
    simp only [zlet_v]
    exact zg9.zw (by omega)) _
  have h27 : ∀ m X, zg9 X (zfor (zm_multiplies_L27 a b) 0 X m) := fun m X => zg9.for (fun i s => by
    unfold zm_multiplies_L27
    generalize ((4 - i) + 1 - 0).toNat = m
    dsimp only
    rw [zlet_v]
    refine zg9.for (fun i2 s2 => ?_) _
    unfold zm_multiplies_L36
    generalize (4 + 1 - 0 : Int).toNat = m
    dsimp only
    rw [zlet_v]
    by_cases c : zm_cell s2 a i i2 = 0
    · rw [if_pos c]
      exact zg9.rf
    · rw [if_neg c, zlet_v]
      refine zg9.for (fun i s => ?_) _
      unfold zm_multiplies_L63
      generalize ((4 - i) + 1 - 0).toNat = m
      dsimp only
      rw [zlet_v]
      refine zg9.for (fun i s => ?_) _
      unfold zm_multiplies_L72
      simp only [zlet_v]
      exact zg9.zw (by omega)) _
  have hS := @zg9.sets
  have h223 : ∀ m X, zg9 X (zfor (zm_multiplies_L223 to) 0 X m) := fun m X => zg9.for (fun i s => by
    unfold zm_multiplies_L223
    generalize ((4 - i) + 1 - 0).toNat = m
    dsimp only
    rw [zlet_v]
    refine zg9.for (fun i s => ?_) _
    unfold zm_multiplies_L232
    generalize zm_sets = F at hS ⊢
    dsimp only
    rw [zlet_v]
    exact hS) _
  have hE := @zg9.empties
  have hW := @zg9_W151
  unfold zm_multiplies
  generalize (80 + 1 - 0 : Int).toNat = m80
  generalize (4 + 1 - 0 : Int).toNat = m4
  generalize zm_multiplies_L3 = L3 at h3 ⊢
  generalize zm_multiplies_L27 a b = L27 at h27 ⊢
  generalize zm_multiplies_L223 to = L223 at h223 ⊢
  generalize zm_multiplies_W151 = W at hW ⊢
  generalize zm_empties = E at hE ⊢
  rw [zlet_v, zlet_v]
  have h4 := (h3 m80 S).tr (h27 m4 _)
  generalize zfor L27 0 (zfor L3 0 S m80) m4 = Y at h4 ⊢
  have h5 := hW (S := Y) 10 0
  generalize W Y 10 0 = V at h5 ⊢
  cases V with
  | inl r =>
    show zg9 S r.2
    rw [h5 r rfl]
    exact h4
  | inr k => exact (h4.tr hE).tr (h223 m4 _)
theorem zg9.term {S : zS2} : zg9 S (zm_beginsTerm S) := by
  have hE := @zg9.empties
  have hS := @zg9.sets
  unfold zm_beginsTerm
  generalize zm_empties = E at hE ⊢
  generalize zm_sets = F at hS ⊢
  rw [zlet_v, zlet_v, zlet_v, zlet_v]
  exact hE.tr hS
theorem zg9.bsum {S : zS2} : zg9 S (zm_beginsSum S) := by
  have hE := @zg9.empties
  have hM := @zg9.isM
  have hT := @zg9.term
  unfold zm_beginsSum
  generalize zm_empties = E at hE ⊢
  generalize zm_isMark = K at hM ⊢
  generalize zm_beginsTerm = B at hT ⊢
  generalize zm_sumOf (S 0 19) = g
  have h : zg9 S (za (E S g) 7 ((E S g) 0 19).toNat 1) := hE.tr (zg9.zw (by omega))
  simp only [zlet_v]
  generalize za (E S g) 7 ((E S g) 0 19).toNat 1 = X at h ⊢
  have h2 := h.tr (hM (S := X) (c := 45))
  generalize K X 45 = Y at h2 ⊢
  split
  · exact h2.tr hT
  · exact ((h2.tr (zg9.zw (by omega))).tr (zg9.zw (by omega))).tr hT
theorem zg9.ends {S : zS2} : zg9 S (zm_endsTerm S) := by
  have hA := @zg9.adds
  unfold zm_endsTerm
  generalize zm_adds = A at hA ⊢
  rw [zlet_v, zlet_v, zlet_v]
  exact hA
theorem zg9.tJ8 {z : Int} {S : zS2} : zg9 S (zm_takesAtom_J8 z S).2 := by
  have hN := @zg9.num
  unfold zm_takesAtom_J8
  generalize zm_number = N at hN ⊢
  simp only [zlet_v]
  have h : zg9 S (N (za S 0 6 (S 0 6 + 1))).2 := (zg9.zw (by omega)).tr hN
  generalize N (za S 0 6 (S 0 6 + 1)) = X at h ⊢
  repeat' split
  all_goals first | exact zg9.rf | exact h | exact h.tr (zg9.flt (by decide))
theorem zg9.tW91 {pw : Int} : ∀ (fu : Nat) (k : Int) (S : zS2), zg9 S (zm_takesAtom_W91 pw fu k S).2
  | 0, k, S => zg9.rf
  | fu + 1, k, S => by
    have hM := @zg9.mul
    have ih := zg9.tW91 (pw := pw) fu
    unfold zm_takesAtom_W91
    generalize zm_multiplies = M at hM ⊢
    generalize zm_takesAtom_W91 pw fu = W at ih ⊢
    simp only [zlet_v]
    have h := hM (S := S) (to := 140) (a := 140) (b := zm_atomOf (S 0 19))
    generalize M S 140 140 (zm_atomOf (S 0 19)) = X at h ⊢
    split
    · exact zg9.rf
    · split
      · exact zg9.rf
      · split
        · exact (h.tr (zg9.flt (by decide))).tr (ih _ _)
        · exact h.tr (ih _ _)
theorem zg9.ta2 {pw : Int} {S : zS2} : zg9 S (zta2 pw S) := by
  have hM := @zg9.mul
  have hE := @zg9.empties
  have hS := @zg9.sets
  have hW := zg9.tW91 (pw := pw) 6 0
  unfold zta2
  generalize zm_takesAtom_W91 pw 6 0 = W at hW ⊢
  generalize zm_multiplies = M at hM ⊢
  generalize zm_empties = E at hE ⊢
  generalize zm_sets = F at hS ⊢
  simp only [zlet_v]
  have h : zg9 S (W (F (E S 140) 140 0 0 1)).2 := hE.tr (hS.tr (hW _))
  generalize W (F (E S 140) 140 0 0 1) = X at h ⊢
  have h2 : zg9 S (M X.2 (zm_productOf (X.2 0 19)) (zm_productOf (X.2 0 19)) 140).2 := h.tr hM
  generalize M X.2 (zm_productOf (X.2 0 19)) (zm_productOf (X.2 0 19)) 140 = Y at h2 ⊢
  split
  · exact h
  · split
    · exact h2.tr (zg9.flt (by decide))
    · exact h2
theorem zg9.takes {S : zS2} : zg9 S (zm_takesAtom S) := by
  have hM := @zg9.isM
  have hJ := @zg9.tJ8
  have hA := @zg9.ta2
  rw [zta_e]
  generalize zm_isMark = M at hM ⊢
  generalize zm_takesAtom_J8 = J at hJ ⊢
  generalize zta2 = A at hA ⊢
  simp only [zlet_v]
  have h : zg9 S (J (M S 94).1 (M S 94).2).2 := hM.tr hJ
  generalize J (M S 94).1 (M S 94).2 = X at h ⊢
  split
  · exact h
  · exact h.tr hA
theorem zg9.J33 {S : zS2} : zg9 S (zm_opensBracket_J33 S) := by
  unfold zm_opensBracket_J33
  simp only [zlet_v]
  split
  · exact zg9.flt (by decide)
  · exact zg9.rf
theorem zg9.J128 {z : Int} {S : zS2} : zg9 S (zm_opensBracket_J128 z S) := by
  unfold zm_opensBracket_J128
  simp only [zlet_v]
  split
  · exact zg9.rf
  · split
    · exact zg9.rf
    · exact zg9.flt (by decide)
theorem zg9.opens {S : zS2} : zg9 S (zm_opensBracket S).2 := by
  have qH := @zg9.here
  have qM := @zg9.isM
  have qE := @zg9.empties
  have qC := @zg9.comes
  have qJ := @zg9.J128
  have qW := @zg9.word
  have qN := @zg9.num
  have qK := @zg9.J33
  have qS := @zg9.sets
  have qB := @zg9.bsum
  unfold zm_opensBracket
  generalize zm_here = fH at qH ⊢
  generalize zm_isMark = fM at qM ⊢
  generalize zm_empties = fE at qE ⊢
  generalize zm_comes = fC at qC ⊢
  generalize zm_opensBracket_J128 = fJ at qJ ⊢
  generalize zm_word = fW at qW ⊢
  generalize zm_number = fN at qN ⊢
  generalize zm_opensBracket_J33 = fK at qK ⊢
  generalize zm_sets = fS at qS ⊢
  generalize zm_beginsSum = fB at qB ⊢
  generalize zm_atomOf = fA
  simp only [zlet_v]
  have h0 : zg9 S (fH S).2 := qH
  generalize fH S = A at h0 ⊢
  have h1 : zg9 S (fM (za A.2 8 (A.2 0 19).toNat (A.2 0 6)) 40).2 := (h0.tr (zg9.zw (by omega))).tr qM
  generalize fM (za A.2 8 (A.2 0 19).toNat (A.2 0 6)) 40 = B at h1 ⊢
  have h2 : zg9 S (fE B.2 (fA (B.2 0 19))) := h1.tr qE
  generalize fE B.2 (fA (B.2 0 19)) = D at h2 ⊢
  have h3 : zg9 S (fJ (fC D).1 (fC D).2) := (h2.tr qC).tr qJ
  generalize fJ (fC D).1 (fC D).2 = E at h3 ⊢
  have h4 : zg9 S (fW E) := h3.tr qW
  generalize fW E = F at h4 ⊢
  have h5 : zg9 S (fN D).2 := h2.tr qN
  generalize fN D = G at h5 ⊢
  have h6 : zg9 S (fK B.2) := h1.tr qK
  generalize fK B.2 = H at h6 ⊢
  repeat' split
  all_goals first | exact h3 | exact h6 | exact h4.tr qS | exact h5.tr qS | exact ((h6.tr (zg9.zw (by omega))).tr (zg9.zw (by omega))).tr qB
theorem zg9.goW : ∀ (fu : Nat) (S : zS2), zg9 S (zgo1 (zm_goesOn_W2 fu S)).2
  | 0, S => zg9.rf
  | fu + 1, S => by
    have qH := @zg9.here
    have qE := @zg9.ends
    have qM := @zg9.mark
    have qC := @zg9.copies
    have qT := @zg9.takes
    have qB := @zg9.term
    have ih := zg9.goW fu
    unfold zm_goesOn_W2
    generalize zm_here = fH at qH ⊢
    generalize zm_endsTerm = fE at qE ⊢
    generalize zm_mark = fM at qM ⊢
    generalize zm_copies = fC at qC ⊢
    generalize zm_takesAtom = fT at qT ⊢
    generalize zm_beginsTerm = fB at qB ⊢
    generalize zm_atomOf = fA
    generalize zm_sumOf = fS
    generalize zm_goesOn_W2 fu = W at ih ⊢
    simp only [zlet_v]
    have h0 : zg9 S (fH S).2 := qH
    generalize fH S = A at h0 ⊢
    have h1 : zg9 S (fE A.2) := h0.tr qE
    generalize fE A.2 = B at h1 ⊢
    have h2 : zg9 S (fM B 41) := h1.tr qM
    generalize fM B 41 = D at h2 ⊢
    have h4 := fun x => ((h2.tr (qC (to := fA (D 0 19 - 1)) (fr := fS (D 0 19)))).tr (zg9.zw (k := 0) (i := 19) (x := x) (by omega))).tr (qT.tr (ih _))
    repeat' split
    all_goals first | exact zg9.rf | exact h4 _ | exact h0.tr (zg9.zw (by omega)) | exact ((h1.tr (zg9.zw (by omega))).tr (zg9.zw (by omega))).tr qB | exact h1 | exact h2
theorem zg9.goes {S : zS2} : zg9 S (zm_goesOn S).2 := by
  rw [zgo_e]
  exact zg9.goW 42 S
theorem zg9.sumW : ∀ (fu : Nat) (m : Int) (S : zS2), zg9 S (zm_readsSum_W14 fu m S).2
  | 0, m, S => zg9.rf
  | fu + 1, m, S => by
    have qO := @zg9.opens
    have qT := @zg9.takes
    have qG := @zg9.goes
    have ih := zg9.sumW fu
    unfold zm_readsSum_W14
    generalize zm_opensBracket = fO at qO ⊢
    generalize zm_takesAtom = fT at qT ⊢
    generalize zm_goesOn = fG at qG ⊢
    generalize zm_readsSum_W14 fu = W at ih ⊢
    simp only [zlet_v]
    have h0 : zg9 S (fO S).2 := qO
    generalize fO S = A at h0 ⊢
    have h1 : zg9 S (fG (fT A.2)).2 := (h0.tr qT).tr qG
    generalize fG (fT A.2) = B at h1 ⊢
    split
    · exact zg9.rf
    · split
      · exact zg9.rf
      · split
        · exact h1.tr (ih _ _)
        · exact h0.tr (ih _ _)
theorem zg9.sum {S : zS2} : zg9 S (zm_readsSum S) := by
  have h := zg9.sumW 1003
  have hB := @zg9.bsum
  rw [zsm_all]
  generalize zm_readsSum_W14 1003 = W at h ⊢
  generalize zm_beginsSum = B at hB ⊢
  exact ((zg9.zw (by omega)).tr hB).tr (h _ _)
theorem zg9.nJ8 {z : Int} {S : zS2} : zg9 S (zm_name_J8 S z) := by
  unfold zm_name_J8
  simp only [zlet_v]
  repeat' split
  all_goals first | exact zg9.rf | exact zg9.flt (by decide)
theorem zg9.name {S : zS2} : zg9 S (zm_name S).2 := by
  have qW := @zg9.word
  have qJ := @zg9.nJ8
  rw [zs_nameE]
  generalize zm_name_J8 = fJ at qJ ⊢
  generalize zm_word = fW at qW ⊢
  exact qW.tr qJ
theorem zg9.W65 {z : Int} {S54 : zS2} : ∀ (fu : Nat) (k : Int) (S : zS2), zg9 S (zm_readsCurve_W65 z S54 fu k S).2
  | 0, k, S => zg9.rf
  | fu + 1, k, S => by
    simp only [zm_readsCurve_W65, zlet_v]
    split
    · exact zg9.rf
    · split
      · exact zg9.rf
      · split
        · exact (zg9.flt (by decide)).tr (zg9.W65 fu _ _)
        · exact zg9.W65 fu _ _
theorem zg9.cu8 {S : zS2} : zg9 S (zcu8 S) := by
  unfold zcu8 zm_readsCurve_J8
  have h := zg9.word (S := S)
  generalize zm_word S = X at h ⊢
  simp only [zlet_v]
  repeat' split
  all_goals first | exact h | exact h.tr (zg9.flt (by decide))
theorem zg9.cu32 {S : zS2} : zg9 S (zcu32 S) := by
  unfold zcu32 zm_readsCurve_J32
  have h := zg9.cu8 (S := S)
  generalize zcu8 S = X at h ⊢
  simp only [zlet_v]
  repeat' split
  all_goals first | exact h | exact h.tr (zg9.flt (by decide))
theorem zg9.cuW {S : zS2} : zg9 S (zcuW S) := by
  unfold zcuW
  exact zg9.name.tr (zg9.W65 8 _ _)
theorem zg9.cuM {S : zS2} : zg9 S (zcuM S) := by
  have hR := @zg9.sum
  have h := zg9.mark (S := S) (c := 61)
  unfold zcuM zm_readsCurve_J115
  generalize zm_readsSum = R at hR ⊢
  generalize zm_mark S 61 = X at h ⊢
  by_cases c : zm_goesWell X = 0
  · rw [if_pos c]
    exact h
  · rw [if_neg c, zlet_v]
    exact h.tr hR
theorem zg9.J176 {z : Int} {S54 S : zS2} : zg9 S (zm_readsCurve_J176 S54 S z) := by
  unfold zm_readsCurve_J176
  simp only [zlet_v]
  split
  · exact zg9.rf
  · exact zg9.flt (by decide)
theorem zg9.cuT {v : Int} {S54 S : zS2} : zg9 S (zcuT v S54 S) := by
  unfold zcuT zcuE zcuF zcuG
  have h := zg9.mark (S := S) (c := 59)
  generalize zm_mark S 59 = X at h ⊢
  split
  · exact h
  · exact (((h.tr zg9.copies).tr (zg9.zw (by omega))).tr zg9.J176).tr (zg9.zw (by omega))
theorem zg9.curve {S : zS2} : zg9 S (zm_readsCurve S) := by
  rw [zs_curveE]
  exact ((zg9.cu32.tr zg9.cuW).tr zg9.cuM).tr zg9.cuT
theorem zg9.cuL : ∀ (fu : Nat) (S : zS2), zg9 S (zm_curves_W48 fu S)
  | 0, S => zg9.rf
  | fu + 1, S => by
    have qH := @zg9.here
    have qC := @zg9.curve
    have ih := zg9.cuL fu
    unfold zm_curves_W48
    generalize zm_here = fH at qH ⊢
    generalize zm_readsCurve = fC at qC ⊢
    generalize zm_curves_W48 fu = W at ih ⊢
    simp only [zlet_v]
    have h0 : zg9 S (fH S).2 := qH
    generalize fH S = A at h0 ⊢
    split
    · exact zg9.rf
    · split
      · exact h0
      · exact (h0.tr qC).tr (ih _)
theorem zg9.field {S : zS2} : zg9 S (zm_readsField S) := by
  have qC := @zg9.comes
  have qW := @zg9.word
  have qN := @zg9.num
  have qM := @zg9.mark
  unfold zm_readsField zm_readsField_J45 zm_readsField_J22
  generalize zm_comes = fC at qC ⊢
  generalize zm_word = fW at qW ⊢
  generalize zm_number = fN at qN ⊢
  generalize zm_mark = fM at qM ⊢
  generalize zm_isPrime = fP
  simp only [zlet_v]
  have h0 : zg9 S (fC S).2 := qC
  generalize fC S = A at h0 ⊢
  have h1 : zg9 S (fN (fW A.2)).2 := (h0.tr qW).tr qN
  generalize fN (fW A.2) = B at h1 ⊢
  have h2 : zg9 S (zm_faults B.2 2 (B.2 0 7)) := h1.tr (zg9.flt (by decide))
  split
  · refine zg9.tr ?_ qM
    repeat' split
    all_goals first | exact h1 | exact h2 | exact h1.tr (zg9.zw (by omega)) | exact h2.tr (zg9.zw (by omega))
  · exact h0
end ZJn
