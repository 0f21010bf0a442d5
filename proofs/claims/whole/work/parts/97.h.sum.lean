section ZJh
/-- a state that failed passes -/
theorem zfp_isM {S : zS2} (h8 : ¬ S 0 8 = 0) (c : Int) : zm_isMark S c = (0, S) := by
  have e0 : zm_goesWell S = 0 := if_neg h8
  unfold zm_isMark
  rw [e0, zlet_v, if_pos (show (0 : Int) = 0 from rfl)]
theorem zfp_mark {S : zS2} (h8 : ¬ S 0 8 = 0) (c : Int) : zm_mark S c = S := by
  have e0 : zm_goesWell S = 0 := if_neg h8
  unfold zm_mark
  rw [e0, zlet_v, if_pos (show (0 : Int) = 0 from rfl)]
theorem zfp_word {S : zS2} (h8 : ¬ S 0 8 = 0) : zm_word S = S := by
  have e0 : zm_goesWell S = 0 := if_neg h8
  unfold zm_word
  generalize zm_word_W33 1001 = W
  rw [e0, zlet_v, if_pos (show (0 : Int) = 0 from rfl)]
theorem zfp_takes {S : zS2} (h8 : ¬ S 0 8 = 0) : zm_takesAtom S = S := by
  have e0 : zm_goesWell S = 0 := if_neg h8
  rw [zta_e]
  generalize zta2 = Z
  rw [zfp_isM h8, zlet_v]
  dsimp only
  unfold zm_takesAtom_J8
  generalize zm_number = N
  rw [if_pos (show (0 : Int) = 0 from rfl), zlet_v]
  dsimp only
  rw [e0, zlet_v, if_pos (show (0 : Int) = 0 from rfl)]
theorem zgo_e (S : zS2) : zm_goesOn S = zgo1 (zm_goesOn_W2 42 S) := by
  unfold zm_goesOn zgo1
  rfl
theorem zfp_goes {S : zS2} (h8 : ¬ S 0 8 = 0) : zm_goesOn S = (0, S) := by
  have e0 : zm_goesWell S = 0 := if_neg h8
  have key : ∀ fu, zgo1 (zm_goesOn_W2 fu S) = (0, S) := fun fu => by
    cases fu with
    | zero => rfl
    | succ k =>
      simp only [zm_goesOn_W2]
      rw [e0, zlet_v, if_pos rfl]
      rfl
  rw [zgo_e]
  exact key 42
theorem zsm_0 (fu : Nat) (S : zS2) : (zm_readsSum_W14 fu 0 S).2 = S := by
  cases fu with
  | zero => rfl
  | succ k =>
    simp only [zm_readsSum_W14]
    rw [if_pos trivial]
theorem zsm_e {S : zS2} (h8 : S 0 8 = 0) (fu : Nat) : zm_readsSum_W14 (fu + 1) 1 S = if (zm_opensBracket S).1 = 0 then zm_readsSum_W14 fu (zm_goesOn (zm_takesAtom (zm_opensBracket S).2)).1 (zm_goesOn (zm_takesAtom (zm_opensBracket S).2)).2 else zm_readsSum_W14 fu 1 (zm_opensBracket S).2 := by
  have e0 : zm_goesWell S = 1 := if_pos h8
  simp only [zm_readsSum_W14]
  generalize zm_takesAtom = fT
  generalize zm_opensBracket = fO
  generalize zm_goesOn = fG
  rw [if_neg (show ¬ (1 : Int) = 0 by decide), e0, zlet_v, if_neg (show ¬ (1 : Int) = 0 by decide), zlet_v]
  by_cases c : (fO S).1 = 0
  · rw [if_pos c, if_pos c, zlet_v, zlet_v]
  · rw [if_neg c, if_neg c]
/-- a SUM, both -/
def zSu (n : Int) (T : Nat → Int) (p : Int) (Q S : zS2) (C : Int × zS2) (S' : zS2) : Prop :=
  (C.1 = 0 ∧ zFl C.2 S' ∧ zPf S S') ∨
  (C.1 = 1 ∧ zPs n T p C.2 S' ∧ Q 0 0 ≤ C.2 0 0 ∧ zgE S' 12 (C.2 20) ∧ zcan p (C.2 20) ∧ zflt (C.2 20) ∧ zQc Q C.2 ∧ zPf S S')
theorem zSu.up {n p : Int} {T : Nat → Int} {Q S Q1 S1 S' : zS2} {C : Int × zS2} (h : zSu n T p Q1 S1 C S') (h0 : Q 0 0 ≤ Q1 0 0) (hQ : zQc Q Q1) (hS : zPf S S1) : zSu n T p Q S C S' := by
  rcases h with ⟨a1, a2, a3⟩ | ⟨a1, a2, a3, a4, a5, a6, a7, a8⟩
  · exact Or.inl ⟨a1, a2, hS.tr a3⟩
  · exact Or.inr ⟨a1, a2, by omega, a4, a5, a6, hQ.tr a7, hS.tr a8⟩
theorem zp_sum {n p : Int} {T : Nat → Int} (hpr : zPr p) : ∀ (m fu o : Nat) (Q S : zS2), zPs n T p Q S → zPg p o Q S → zop n T (Q 0 0) → n - Q 0 0 < m → n - Q 0 0 + 1 < fu → zSu n T p Q S (zrsF n T m o Q) (zm_readsSum_W14 fu 1 S).2
  | 0, fu, o, Q, S, h, hg, hz, hm, hf => by
    have := h.2.2.2.1
    omega
  | m + 1, fu, o, Q, S, h, hg, hz, hm, hf => by
    obtain ⟨fu, rfl⟩ : ∃ k, fu = k + 1 := ⟨fu - 1, by have := h.2.2.2.1; omega⟩
    have eM := zsm_e h.2.1 fu
    have eC := zrsF_s n T m o Q
    rw [eM, eC]
    rcases zp_open hpr h hg hz with ⟨Q', S', a1, a2, a3, a4, a5, a6, a7, a8⟩ | ⟨Q', S', w, a1, a2, a3, a4⟩ | ⟨Q1, S1, a1, a2, a3, a4, a5, a6, a7, a8, a9⟩
    · rw [a1, a2]
      dsimp only
      rw [if_neg (show ¬ (1 : Int) = 0 by decide), if_neg (show ¬ (1 : Int) = 0 by decide)]
      exact (zp_sum hpr m fu (o + 1) Q' S' a3 a4 a5 (by omega) (by omega)).up (by omega) a7 a8
    · rw [a1, a2]
      dsimp only
      rw [if_pos (show (0 : Int) = 0 from rfl), if_pos (show (0 : Int) = 0 from rfl), zfp_takes a3.1, zfp_goes a3.1]
      dsimp only
      rw [zsm_0]
      exact Or.inl ⟨rfl, a3, a4⟩
    · rw [a1, a2]
      have fc := zp_factor hpr a3 a4.1 a4.2.1 (a4.2.2.1 o (Nat.le_refl _)) a5 a6
      obtain ⟨R, hR⟩ : ∃ R, R = zrf n T o (S1 8 o) Q1 := ⟨_, rfl⟩
      rw [← hR] at fc ⊢
      dsimp only
      rw [if_pos (show (0 : Int) = 0 from rfl)]
      obtain ⟨S2, hS2⟩ : ∃ S2, S2 = zm_takesAtom S1 := ⟨_, rfl⟩
      rw [← hS2] at fc ⊢
      obtain ⟨fc1, ⟨w1, w2⟩ | ⟨w1, w2, w3, w4, w5⟩⟩ := fc
      · rw [if_pos w1, zfp_goes w2.1]
        dsimp only
        rw [if_pos (show (0 : Int) = 0 from rfl), zsm_0]
        exact Or.inl ⟨rfl, w2, a9.tr fc1.pf⟩
      · rw [if_neg (show ¬ R.1 = 0 by omega), zgo_e]
        have g := zp_goes hpr o 42 R.2 S2 w2 (a4.fr w5 fc1 w4) (by have := a4.2.1; omega)
        generalize zgo1 (zm_goesOn_W2 42 S2) = G at g ⊢
        generalize zrsW n T o R.2 = C at g ⊢
        have hQ : zQc Q R.2 := a8.tr (w5.qc a4.2.1)
        have hS : zPf S S2 := a9.tr fc1.pf
        rcases g with ⟨o', Q', S', b1, b2, b3, b4, b5, b6, b7, b8⟩ | ⟨w, Q', S', b1, b2, b3, b4⟩ | ⟨Q', S', b1, b2, b3, b4, b5, b6, b7, b8, b9⟩
        · rw [b1, b2]
          dsimp only
          rw [if_neg (show ¬ (1 : Int) = 0 by decide)]
          exact (zp_sum hpr m fu o' Q' S' b3 b4 b5 (by omega) (by omega)).up (by omega) (hQ.tr b7) (hS.tr b8)
        · rw [b1, b2]
          dsimp only
          rw [if_pos (show (0 : Int) = 0 from rfl), zsm_0]
          exact Or.inl ⟨rfl, b3, hS.tr b4⟩
        · rw [b1, b2]
          dsimp only
          rw [if_pos (show (0 : Int) = 0 from rfl), zsm_0]
          exact Or.inr ⟨rfl, b3, by show Q 0 0 ≤ Q' 0 0; omega, b5, b6, b7, hQ.tr b8, hS.tr b9⟩
theorem zsm_all (S : zS2) : zm_readsSum S = (zm_readsSum_W14 1003 (zm_goesWell (zm_beginsSum (za S 0 19 0))) (zm_beginsSum (za S 0 19 0))).2 := by
  unfold zm_readsSum
  generalize zm_readsSum_W14 1003 = W
  generalize zm_beginsSum = B
  rw [zlet_v, zlet_v, zlet_v, zlet_v]
/-- a whole SUM, both -/
theorem zp_reads {n p : Int} {T : Nat → Int} (hpr : zPr p) {Q S : zS2} (h : zPs n T p Q S) (hz : zop n T (Q 0 0)) : zSu n T p Q S (zrs n T Q) (zm_readsSum S) := by
  have hp := zPr_2 hpr
  obtain ⟨hU, h8, h6, hr, hq3, h10⟩ := h
  have hn := hU.1
  obtain ⟨S1, hS1⟩ : ∃ S1, S1 = za S 0 19 0 := ⟨_, rfl⟩
  have s1 : ∀ a i : Nat, ¬ (a = 0 ∧ i = 19) → S1 a i = S a i := fun a i h1 => by rw [hS1, za_ne h1]
  have h1 : zPs n T p Q S1 := ⟨hU.same (s1 0 5 (by omega)) (fun k => s1 1 k (by omega)), by rw [s1 0 8 (by omega), h8], by rw [s1 0 6 (by omega), h6], hr, hq3, by rw [s1 0 10 (by omega), h10]⟩
  have s19 : S1 0 19 = ((0 : Nat) : Int) := by rw [hS1, za_same]; rfl
  obtain ⟨b1, b2, b3, b4, b5, b6⟩ := zp_begin hp.1 h1 (o := 0) s19 (by omega) hz
  have eM := zsm_all S
  rw [← hS1] at eM
  obtain ⟨S2, hS2⟩ : ∃ S2, S2 = zm_beginsSum S1 := ⟨_, rfl⟩
  rw [← hS2] at eM b1 b4 b6
  rw [show zm_goesWell S2 = 1 from if_pos b1.2.1] at eM
  obtain ⟨Q2, hQ2⟩ : ∃ Q2, Q2 = zbg n T 0 Q := ⟨_, rfl⟩
  have eC : zrs n T Q = zrsF n T (n + 1 - 0).toNat 0 (zbg n T 0 Q) := rfl
  rw [← hQ2] at eC b1 b2 b3 b4 b5
  have hg : zPg p 0 Q2 S2 := ⟨by rw [b6 0 19 (by omega) (by omega) (by omega) (by omega) (by omega)]; exact s19, by omega, fun k hk => by rw [show k = 0 by omega]; exact b4, fun k hk => absurd hk (by omega)⟩
  rw [eM, eC]
  have hr2 := b1.2.2.2.1
  refine (zp_sum hpr (n + 1 - 0).toNat 1003 0 Q2 S2 b1 hg b2 (by omega) (by omega)).up b3 (b5.qc (by omega)) (zPf.tr ?_ b6.pf)
  exact fun a i a1 _ _ _ _ => s1 a i (by omega)
end ZJh
