section ZJe
/-- all levels, both -/
def zPg (p : Int) (o : Nat) (Q S : zS2) : Prop := S 0 19 = o ∧ o ≤ 40 ∧ (∀ k, k ≤ o → zLv p k Q S) ∧ ∀ k, k < o → Q 3 k = S 8 k
/-- what a SUM leaves, in the model and in the class -/
def zPf (S S' : zS2) : Prop := ∀ a i : Nat, ¬ (a = 0 ∧ ((6 ≤ i ∧ i ≤ 9) ∨ i = 19)) → a ≠ 4 → a ≠ 7 → a ≠ 8 → ¬ (a = 3 ∧ 300 ≤ i) → S' a i = S a i
def zQc (Q Q' : zS2) : Prop := Q' 0 4 = Q 0 4 ∧ ∀ k, k = 1 ∨ (7 ≤ k ∧ k ≤ 12) → Q' k = Q k
theorem zPf.rf {S : zS2} : zPf S S := fun _ _ _ _ _ _ _ => rfl
theorem zPf.tr {S S' S'' : zS2} (h : zPf S S') (h2 : zPf S' S'') : zPf S S'' := fun a i a1 a2 a3 a4 a5 => (h2 a i a1 a2 a3 a4 a5).trans (h a i a1 a2 a3 a4 a5)
theorem zQc.rf {Q : zS2} : zQc Q Q := ⟨rfl, fun _ _ => rfl⟩
theorem zQc.tr {Q Q' Q'' : zS2} (h : zQc Q Q') (h2 : zQc Q' Q'') : zQc Q Q'' := ⟨h2.1.trans h.1, fun k hk => (h2.2 k hk).trans (h.2 k hk)⟩
theorem zSf.pf {o : Nat} {S S' : zS2} (h : zSf o S S') : zPf S S' := fun a i a1 a2 a3 a4 a5 => h a i (by omega) (by omega) (by omega) a2 (by omega)
theorem zFs.pf {S S' : zS2} (h : zFs S S') : zPf S S' := fun a i a1 _ _ _ _ => h a i (by omega)
theorem zQf.qc {o : Nat} {Q Q' : zS2} (h : zQf o Q Q') (ho : o ≤ 40) : zQc Q Q' := ⟨h.2.1, fun k hk => h.2.2.1 k (by omega) (by omega) (by omega) (by omega) (by omega) (by omega) (by omega)⟩
theorem zPg.fr {p : Int} {o : Nat} {Q S Q' S' : zS2} (h : zPg p o Q S) (hQ : zQf o Q Q') (hS : zSf o S S') (hL : zLv p o Q' S') : zPg p o Q' S' := ⟨by rw [hS 0 19 (by omega) (by omega) (by omega) (by omega) (by omega)]; exact h.1, h.2.1, fun k hk => by
  by_cases e : k = o
  · rw [e]; exact hL
  · exact (h.2.2.1 k hk).fr e (by have := h.2.1; omega) h.2.1 hQ hS, fun k hk => by
  rw [hQ.2.2.1 3 (by omega) (by omega) (by omega) (by omega) (by omega) (by omega) (by omega), hS 8 k (by omega) (by omega) (by omega) (by omega) (by omega)]
  exact h.2.2.2 k hk⟩
theorem zLv.sc {p : Int} {o : Nat} {Q S Q' S' : zS2} (h : zLv p o Q S) (hQ : ∀ k, k = 2 ∨ k = 20 + o ∨ k = 70 + o → Q' k = Q k) (hS : ∀ a i : Nat, (a = 7 ∧ i = o) ∨ (a = 3 ∧ 25 * (12 + 3 * o) ≤ i ∧ i < 25 * (12 + 3 * o) + 50) → S' a i = S a i) : zLv p o Q' S' := by
  obtain ⟨⟨a1, a2, a3⟩, ⟨b1, b2, b3⟩, c⟩ := h
  have e1 := hQ (20 + o) (by omega)
  have e2 := hQ (70 + o) (by omega)
  refine ⟨⟨?_, by rw [e1]; exact a2, by rw [e1]; exact a3⟩, ⟨?_, by rw [e2]; exact b2, by rw [e2]; exact b3⟩, ?_⟩
  · rw [e1]; exact a1.fr (fun i h1 h2 => hS 3 i (by omega))
  · rw [e2]; exact b1.fr (fun i h1 h2 => hS 3 i (by omega))
  · rw [hQ 2 (by omega), hS 7 o (by omega)]; exact c
/-- the model at a bracket, an ATOM -/
theorem zob_e {n : Int} {T : Nat → Int} {S : zS2} (hU : zU n T S) (ha : 0 ≤ S 0 6 ∧ S 0 6 ≤ n) (h8 : S 0 8 = 0) {o : Nat} (h19 : S 0 19 = o) {a : Int} (hA : a = zsk n T (S 0 6)) {S1 : zS2} (hS1 : S1 = za (za S 0 6 a) 8 o a) : zm_opensBracket S = if zby n T a = 40 then (if zm_goesWell (zm_opensBracket_J33 S1) = 0 then (0, zm_opensBracket_J33 S1) else (1, zm_beginsSum (za (za (zm_opensBracket_J33 S1) 0 6 ((zm_opensBracket_J33 S1) 0 6 + 1)) 0 19 ((za (zm_opensBracket_J33 S1) 0 6 ((zm_opensBracket_J33 S1) 0 6 + 1)) 0 19 + 1)))) else (if zdig (zby n T a) = 0 then (if zm_goesWell (zm_opensBracket_J128 (zm_comes (zm_empties S1 ((14 + 3 * o : Nat) : Int))).1 (zm_comes (zm_empties S1 ((14 + 3 * o : Nat) : Int))).2) = 0 then (0, zm_opensBracket_J128 (zm_comes (zm_empties S1 ((14 + 3 * o : Nat) : Int))).1 (zm_comes (zm_empties S1 ((14 + 3 * o : Nat) : Int))).2) else (if (zm_comes (zm_empties S1 ((14 + 3 * o : Nat) : Int))).1 = 3 then (0, zm_sets (zm_word (zm_opensBracket_J128 (zm_comes (zm_empties S1 ((14 + 3 * o : Nat) : Int))).1 (zm_comes (zm_empties S1 ((14 + 3 * o : Nat) : Int))).2)) (zm_atomOf ((zm_word (zm_opensBracket_J128 (zm_comes (zm_empties S1 ((14 + 3 * o : Nat) : Int))).1 (zm_comes (zm_empties S1 ((14 + 3 * o : Nat) : Int))).2)) 0 19)) 1 0 1) else (0, zm_sets (zm_word (zm_opensBracket_J128 (zm_comes (zm_empties S1 ((14 + 3 * o : Nat) : Int))).1 (zm_comes (zm_empties S1 ((14 + 3 * o : Nat) : Int))).2)) (zm_atomOf ((zm_word (zm_opensBracket_J128 (zm_comes (zm_empties S1 ((14 + 3 * o : Nat) : Int))).1 (zm_comes (zm_empties S1 ((14 + 3 * o : Nat) : Int))).2)) 0 19)) 0 1 1))) else (0, zm_sets (zm_number (zm_empties S1 ((14 + 3 * o : Nat) : Int))).2 ((14 + 3 * o : Nat) : Int) 0 0 (zm_number (zm_empties S1 ((14 + 3 * o : Nat) : Int))).1)) := by
  have s1 : ∀ a i : Nat, ¬ (a = 0 ∧ i = 6) → ¬ (a = 8 ∧ i = o) → S1 a i = S a i := fun a i h1 h2 => by rw [hS1, za_ne h2, za_ne h1]
  have s16 : S1 0 6 = a := by rw [hS1, za_ne (by omega), za_same]
  have hU1 : zU n T S1 := hU.same (s1 0 5 (by omega) (by omega)) (fun k => s1 1 k (by omega) (by omega))
  have ida : zsk n T a = a := by rw [hA]; exact zsk_id ha
  have ra := zsk_r (T := T) ha
  have s18 : S1 0 8 = 0 := by rw [s1 0 8 (by omega) (by omega), h8]
  have eI : zm_isMark S1 40 = (if zby n T a = 40 then 1 else 0, S1) := by
    rw [zs_isM hU1 (by omega) s18, s16, ida]
    have : za S1 0 6 a = S1 := by
      have e := za_id S1 0 6
      rw [s16] at e
      exact e
    rw [this]
  have s119 : S1 0 19 = o := by rw [s1 0 19 (by omega) (by omega), h19]
  unfold zm_opensBracket
  generalize zm_beginsSum = fB
  generalize zm_number = fN
  generalize zm_comes = fC
  generalize zm_word = fW
  generalize zm_opensBracket_J33 = f33
  generalize zm_opensBracket_J128 = f128
  rw [zs_here hU ha, ← hA, zlet_v]
  dsimp only
  rw [za_ne (show ¬ (0 = 0 ∧ 19 = 6) by omega), h19, Int.toNat_natCast, za_same, ← hS1, zlet_v, eI, zlet_v]
  by_cases c : zby n T a = 40
  · rw [if_pos c, if_pos c]
    dsimp only
    rw [if_neg (show ¬ (1 : Int) = 0 by decide), zlet_v, zlet_v]
    by_cases g : zm_goesWell (f33 S1) = 0
    · rw [if_pos g, if_pos g]
    · rw [if_neg g, if_neg g, zlet_v, zlet_v, zlet_v]
  · rw [if_neg c, if_neg c]
    dsimp only
    rw [if_pos (show (0 : Int) = 0 from rfl), s119, zm_atom_n, zlet_v, zlet_v]
    have hUe : zU n T (zm_empties S1 ((14 + 3 * o : Nat) : Int)) := hU1.same (by rw [zm_empties_sp, if_neg (by omega)]) (fun k => by rw [zm_empties_sp, if_neg (by omega)])
    have e6 : (zm_empties S1 ((14 + 3 * o : Nat) : Int)) 0 6 = a := by rw [zm_empties_sp, if_neg (by omega), s16]
    have e19 : (zm_empties S1 ((14 + 3 * o : Nat) : Int)) 0 19 = o := by rw [zm_empties_sp, if_neg (by omega), s119]
    rw [zs_dg hUe, e6, zlet_v]
    by_cases d : zdig (zby n T a) = 0
    · rw [if_pos d, if_pos d, zlet_v, zlet_v, zlet_v]
      by_cases g : zm_goesWell (f128 (fC (zm_empties S1 ((14 + 3 * o : Nat) : Int))).1 (fC (zm_empties S1 ((14 + 3 * o : Nat) : Int))).2) = 0
      · rw [if_pos g, if_pos g]
      · rw [if_neg g, if_neg g, zlet_v, zlet_v]
        by_cases w : (fC (zm_empties S1 ((14 + 3 * o : Nat) : Int))).1 = 3
        · rw [if_pos w, if_pos w, if_pos w, zlet_v]
        · rw [if_neg w, if_neg w, if_neg w, zlet_v]
    · rw [if_neg d, if_neg d, e19, zm_atom_n, zlet_v, zlet_v, zlet_v]
end ZJe
