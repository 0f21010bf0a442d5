section ZLy
/-- what a FACTOR leaves as it was -/
def zKf (S B : Nat → Nat → Int) : Prop := B 0 3 = S 0 3 ∧ B 0 4 = S 0 4 ∧ ∀ j, j ≠ 0 → j ≠ 4 → j ≠ 5 → j ≠ 6 → j ≠ 70 → B j = S j
theorem zrs0_1 {n : Int} {T : Nat → Int} {S A B : Nat → Nat → Int} (hb : ¬ (zby n T (S 0 0) = 10 ∨ zby n T (S 0 0) = 32)) (h40 : zby n T (S 0 0) ≠ 40) (ha : zra n T S = (1, A)) (hf : zrf n T 0 (S 0 0) A = (1, B)) : zrs0 n T 0 S = zrs2 n T 0 B := by
  unfold zrs0
  rw [zskS_at hb, ztk_n h40 hb]
  dsimp only
  rw [if_pos rfl]
  unfold zrs1
  rw [ha]
  dsimp only
  rw [if_neg (by decide), hf]
  dsimp only
  rw [if_neg (by decide)]
  show (if (1 : Int) = 0 then _ else zrs2 n T 0 B) = _
  rw [if_neg (by decide)]
/-- a number -/
theorem zF_num {K : Type} [Lean.Grind.CommRing K] {p : Int} {φ : Int → K} (h : zKp K p φ) (hp : 1 < p) {n : Int} {T : Nat → Int} {S : Nat → Nat → Int} {u : K} {a b : Nat} {c : Int} (hc : 0 ≤ c ∧ c ≤ 9) (h3 : S 0 3 = p) (c7 : zcan p (S 70)) (q7 : zq φ (S 70) = kc_t u a b) (hd : a + b ≤ 4) (t0 : zby n T (S 0 0) = 48 + c) (t1 : zby n T (S 0 0 + 1) = 42 ∨ zby n T (S 0 0 + 1) = 43 ∨ zby n T (S 0 0 + 1) = 59) : ∃ B, zrs0 n T 0 S = zrs2 n T 0 B ∧ B 0 0 = S 0 0 + 1 ∧ zq φ (B 70) = kc_t (u * φ c) a b ∧ zcan p (B 70) ∧ zKf S B := by
  have ea := zra_d hc t0 (by omega)
  obtain ⟨A, eA⟩ : ∃ A, A = zset (zsr S (S 0 0 + 1) (S 0 1) (S 0 2)) 4 (zone (c % S 0 3)) := ⟨_, rfl⟩
  rw [← eA] at ea
  have A0 : A 0 0 = S 0 0 + 1 := by rw [eA]; rfl
  have A3 : A 0 3 = S 0 3 := by rw [eA]; rfl
  have A34 : A 0 4 = S 0 4 := by rw [eA]; rfl
  have A4 : A 4 = zone (c % p) := by rw [eA, zset_self, h3]
  have Ak : ∀ j, j ≠ 0 → j ≠ 4 → A j = S j := fun j j0 j4 => by rw [eA, zset_ne _ _ j4, zsr_ne j0]
  obtain ⟨B, e1, e2, e3, e4⟩ := zrf3_v h hp (S := A) (stt := S 0 0) (u := u) (v := φ c) (a := a) (b := b) (by rw [A3]; exact h3) (by rw [Ak 70 (by decide) (by decide)]; exact c7) (by rw [A4]; exact fun k => by unfold zone; have := Int.emod_nonneg c (show p ≠ 0 by omega); have := Int.emod_lt_of_pos c (show 0 < p by omega); split <;> omega) (by rw [Ak 70 (by decide) (by decide)]; exact q7) (by rw [A4, zq_one h, h.em]) hd
  have ef : zrf n T 0 (S 0 0) A = (1, B) := by
    unfold zrf
    rw [ztk_n (by rw [A0]; omega) (by rw [A0]; omega)]
    dsimp only
    rw [if_pos rfl, e1]
  refine ⟨B, zrs0_1 (by omega) (by omega) ea ef, ?_, e2, e3, ?_, ?_, fun j j0 j4 j5 j6 j7 => (e4 j j7 j6 j5).trans (Ak j j0 j4)⟩
  · rw [e4 0 (by decide) (by decide) (by decide), A0]
  · rw [e4 0 (by decide) (by decide) (by decide), A3]
  · rw [e4 0 (by decide) (by decide) (by decide), A34]
/-- a letter and its power -/
theorem zF_let {K : Type} [Lean.Grind.CommRing K] {p : Int} {φ : Int → K} (h : zKp K p φ) (hp : 1 < p) {n : Int} {T : Nat → Int} {S A : Nat → Nat → Int} {u : K} {a b i j : Nat} {e : Nat} (he : e ≤ 4) (h3 : S 0 3 = p) (c7 : zcan p (S 70)) (q7 : zq φ (S 70) = kc_t u a b) (hd : a + b + e * (i + j) ≤ 4) (g : Nat → Int) (hg : zcan p g) (qg : zq φ g = kc_t 1 i j) (tb : ¬ (zby n T (S 0 0) = 10 ∨ zby n T (S 0 0) = 32)) (t40 : zby n T (S 0 0) ≠ 40) (ea : zra n T S = (1, A)) (eA : A = zsr (zset S 4 g) (S 0 0 + 1) (S 0 1) (S 0 2)) (t1 : zby n T (S 0 0 + 1) = 94) (t2 : zby n T (S 0 0 + 2) = 48 + (e : Int)) (t3 : zby n T (S 0 0 + 3) = 42 ∨ zby n T (S 0 0 + 3) = 43 ∨ zby n T (S 0 0 + 3) = 59) : ∃ B, zrs0 n T 0 S = zrs2 n T 0 B ∧ B 0 0 = S 0 0 + 3 ∧ zq φ (B 70) = kc_t u (a + e * i) (b + e * j) ∧ zcan p (B 70) ∧ zKf S B := by
  have A0 : A 0 0 = S 0 0 + 1 := by rw [eA]; rfl
  obtain ⟨C, eC⟩ : ∃ C, C = zsr A (A 0 0 + 1) (A 0 1) (A 0 2) := ⟨_, rfl⟩
  have C0 : C 0 0 = S 0 0 + 2 := by
    rw [eC]
    show A 0 0 + 1 = _
    omega
  obtain ⟨E, eE⟩ : ∃ E, E = zsr C (C 0 0 + 1) (C 0 1) (C 0 2) := ⟨_, rfl⟩
  have E0 : E 0 0 = S 0 0 + 3 := by
    rw [eE]
    show C 0 0 + 1 = _
    omega
  have E3 : E 0 3 = S 0 3 := by rw [eE, eC, eA]; rfl
  have E34 : E 0 4 = S 0 4 := by rw [eE, eC, eA]; rfl
  have E4 : E 4 = g := by rw [eE, zsr_ne (by decide), eC, zsr_ne (by decide), eA, zsr_ne (by decide), zset_self]
  have Ek : ∀ j, j ≠ 0 → j ≠ 4 → E j = S j := fun j j0 j4 => by rw [eE, zsr_ne j0, eC, zsr_ne j0, eA, zsr_ne j0, zset_ne _ _ j4]
  obtain ⟨B, e1, e2, e3, e4⟩ := zrf3_e h hp (S := E) (stt := S 0 0) (u := u) (a := a) (b := b) (i := i) (j := j) (e := e) (by rw [E3]; exact h3) (by rw [Ek 70 (by decide) (by decide)]; exact c7) (by rw [E4]; exact hg) (by rw [Ek 70 (by decide) (by decide)]; exact q7) (by rw [E4]; exact qg) hd
  have ef : zrf n T 0 (S 0 0) A = (1, B) := by
    unfold zrf
    rw [ztk_y (by rw [A0]; exact t1) (by decide), ← eC]
    dsimp only
    rw [if_neg (by decide), zskS_at (by rw [C0, t2]; omega)]
    unfold zrf2
    rw [C0, t2, zdgt_1 (by omega), if_neg (by decide), zrn_1 (c := e) (by omega) (by rw [C0]; exact t2) (by rw [C0, show S 0 0 + 2 + 1 = S 0 0 + 3 by omega]; omega), ← eE]
    dsimp only
    rw [if_neg (by omega), e1]
  refine ⟨B, zrs0_1 tb t40 ea ef, ?_, e2, e3, ?_, ?_, fun j j0 j4 j5 j6 j7 => (e4 j j7 j6 j5).trans (Ek j j0 j4)⟩
  · rw [e4 0 (by decide) (by decide) (by decide), E0]
  · rw [e4 0 (by decide) (by decide) (by decide), E3]
  · rw [e4 0 (by decide) (by decide) (by decide), E34]
theorem zG_star {n : Int} {T : Nat → Int} {B : Nat → Nat → Int} (t : zby n T (B 0 0) = 42) : zrs2 n T 0 B = (1, 0, 0, zsr B (B 0 0 + 1) (B 0 1) (B 0 2)) := by
  unfold zrs2
  rw [ztk_y t (by decide)]
  dsimp only
  rw [if_neg (by decide)]
/-- a TERM closed -/
def zClo (B : Nat → Nat → Int) : Nat → Nat → Int := zset (zct 0 B) 2 (zup (zct 0 B 2) 0 0)
theorem zClo_0 (B : Nat → Nat → Int) (i : Nat) : zClo B 0 i = B 0 i := by
  unfold zClo
  rw [zset_ne _ _ (by decide), zct_num]
theorem zClo_k (B : Nat → Nat → Int) {k : Nat} (h2 : k ≠ 2) (h3 : k ≠ 20) (h4 : k ≠ 70) : zClo B k = B k := by
  unfold zClo
  rw [zset_ne _ _ h2, zct_k 0 B h3 h4]
theorem zG_clo {n : Int} {T : Nat → Int} {B : Nat → Nat → Int} (t42 : zby n T (B 0 0) ≠ 42) (t45 : zby n T (B 0 0) ≠ 45) (tb : ¬ (zby n T (B 0 0) = 10 ∨ zby n T (B 0 0) = 32)) : zrs2 n T 0 B = zrs3 n T 0 (zClo B) := by
  unfold zrs2
  rw [ztk_n t42 tb]
  dsimp only
  rw [if_pos rfl, ztk_n (by rw [zct_num]; exact t45) (by rw [zct_num]; exact tb)]
  dsimp only
  rw [if_pos rfl]
  rfl
theorem zG_plus {n : Int} {T : Nat → Int} {B : Nat → Nat → Int} (t : zby n T (B 0 0) = 43) : zrs2 n T 0 B = (1, 0, 0, zsr (zClo B) (B 0 0 + 1) (B 0 1) (B 0 2)) := by
  rw [zG_clo (by omega) (by omega) (by omega)]
  unfold zrs3
  rw [ztk_y (by rw [zClo_0]; exact t) (by decide), zClo_0, zClo_0, zClo_0]
  dsimp only
  rw [if_neg (by decide)]
theorem zG_end {n : Int} {T : Nat → Int} {B : Nat → Nat → Int} (t : zby n T (B 0 0) = 59) : zrs2 n T 0 B = (0, 1, 0, zClo B) := by
  rw [zG_clo (by omega) (by omega) (by omega)]
  unfold zrs3
  rw [ztk_n (by rw [zClo_0]; omega) (by rw [zClo_0]; omega)]
  dsimp only
  rw [if_pos rfl, if_pos rfl]
theorem zClo_q {K : Type} [Lean.Grind.CommRing K] {p : Int} {φ : Int → K} (h : zKp K p φ) (hp : 0 < p) {B : Nat → Nat → Int} {F : Nat → Nat → K} (h3 : B 0 3 = p) (s0 : B 2 0 = 0) (c2 : zcan p (B 20)) (f2 : zflt (B 20)) (q2 : zq φ (B 20) = F) : zq φ (zClo B 20) = (fun i j => F i j + zq φ (B 70) i j) ∧ zcan p (zClo B 20) ∧ zflt (zClo B 20) ∧ zClo B 70 = zone 1 ∧ zClo B 2 0 = 0 := by
  obtain ⟨e1, e2⟩ := zct_own (o := 0) (S := B) (by decide)
  have x20 : zClo B 20 = zaddS (B 20) (B 70) 0 0 1 p := by
    unfold zClo
    rw [zset_ne _ _ (by decide), show zct 0 B 20 = _ from e1, s0, if_pos rfl, h3]
  refine ⟨?_, ?_, ?_, ?_, ?_⟩
  · rw [x20]
    funext i j
    by_cases c : i + j ≤ 4
    · rw [zq_t c, zq_t c, ← q2, zq_t c, show (0 : Int) = ((0 : Nat) : Int) from rfl, zK_addS h _ _ 0 0 1 c, if_pos (by omega), h.o, Nat.sub_zero, Nat.sub_zero]
      grind
    · rw [← q2, zq_f c, zq_f c, zq_f c]
      grind
  · rw [x20]
    exact zaddS_can hp (Int.le_refl _) c2
  · rw [x20]
    exact zaddS_fl f2
  · unfold zClo
    rw [zset_ne _ _ (by decide)]
    exact e2
  · unfold zClo
    rw [zset_self]
    exact zup_self _ _ _
end ZLy
